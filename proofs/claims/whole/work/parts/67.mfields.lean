/-! numbers by bits; the fields of an entry in the reference -/
def zor (a b : Int) : Int := (zI a ||| zI b).toInt
theorem zor_r (a b : Int) : -2147483648 ≤ zor a b ∧ zor a b ≤ 2147483647 := ⟨zI_lo _, zI_hi _⟩
def zand (a b : Int) : Int := (zI a &&& zI b).toInt
theorem zand_r (a b : Int) : -2147483648 ≤ zand a b ∧ zand a b ≤ 2147483647 := ⟨zI_lo _, zI_hi _⟩
def zxor (a b : Int) : Int := (zI a ^^^ zI b).toInt
theorem zxor_r (a b : Int) : -2147483648 ≤ zxor a b ∧ zxor a b ≤ 2147483647 := ⟨zI_lo _, zI_hi _⟩
def zshl (a b : Int) : Int := (zI a <<< (zI b &&& 31)).toInt
theorem zshl_r (a b : Int) : -2147483648 ≤ zshl a b ∧ zshl a b ≤ 2147483647 := ⟨zI_lo _, zI_hi _⟩
def zshr (a b : Int) : Int := (zI a >>> (zI b &&& 31)).toInt
theorem zshr_r (a b : Int) : -2147483648 ≤ zshr a b ∧ zshr a b ≤ 2147483647 := ⟨zI_lo _, zI_hi _⟩
section BR
variable {P : pm_P} {mi pc : Nat} {lv : pm_L} {st : List Value} {σ : pm_S} {res : pm_O × pm_S} {Q : pm_O → pm_S → Prop}
theorem pm_Ev.ior {a b : Int} (hc : pm_cod P mi pc = some (.ior, 1)) (k : pm_Ev P (mi, pc + 1, lv, .int (zI (zor a b)) :: st) σ res) : pm_Ev P (mi, pc, lv, .int (zI b) :: .int (zI a) :: st) σ res := by
  refine pm_Ev.in hc rfl ?_ k
  show some (pc + 1, lv, Value.int (zI a ||| zI b) :: st, σ) = _
  unfold zor
  rw [zI_x]
theorem pm_Fv.ior {a b : Int} (hc : pm_cod P mi pc = some (.ior, 1)) (k : pm_Fv P (mi, pc + 1, lv, .int (zI (zor a b)) :: st) σ Q) : pm_Fv P (mi, pc, lv, .int (zI b) :: .int (zI a) :: st) σ Q := by
  obtain ⟨o, s, e, q⟩ := k
  exact ⟨o, s, pm_Ev.ior hc e, q⟩
theorem pm_Ev.iandx {a b : Int} (hc : pm_cod P mi pc = some (.iand, 1)) (k : pm_Ev P (mi, pc + 1, lv, .int (zI (zand a b)) :: st) σ res) : pm_Ev P (mi, pc, lv, .int (zI b) :: .int (zI a) :: st) σ res := by
  refine pm_Ev.in hc rfl ?_ k
  show some (pc + 1, lv, Value.int (zI a &&& zI b) :: st, σ) = _
  unfold zand
  rw [zI_x]
theorem pm_Fv.iandx {a b : Int} (hc : pm_cod P mi pc = some (.iand, 1)) (k : pm_Fv P (mi, pc + 1, lv, .int (zI (zand a b)) :: st) σ Q) : pm_Fv P (mi, pc, lv, .int (zI b) :: .int (zI a) :: st) σ Q := by
  obtain ⟨o, s, e, q⟩ := k
  exact ⟨o, s, pm_Ev.iandx hc e, q⟩
theorem pm_Ev.ixor {a b : Int} (hc : pm_cod P mi pc = some (.ixor, 1)) (k : pm_Ev P (mi, pc + 1, lv, .int (zI (zxor a b)) :: st) σ res) : pm_Ev P (mi, pc, lv, .int (zI b) :: .int (zI a) :: st) σ res := by
  refine pm_Ev.in hc rfl ?_ k
  show some (pc + 1, lv, Value.int (zI a ^^^ zI b) :: st, σ) = _
  unfold zxor
  rw [zI_x]
theorem pm_Fv.ixor {a b : Int} (hc : pm_cod P mi pc = some (.ixor, 1)) (k : pm_Fv P (mi, pc + 1, lv, .int (zI (zxor a b)) :: st) σ Q) : pm_Fv P (mi, pc, lv, .int (zI b) :: .int (zI a) :: st) σ Q := by
  obtain ⟨o, s, e, q⟩ := k
  exact ⟨o, s, pm_Ev.ixor hc e, q⟩
theorem pm_Ev.ishl {a b : Int} (hc : pm_cod P mi pc = some (.ishl, 1)) (k : pm_Ev P (mi, pc + 1, lv, .int (zI (zshl a b)) :: st) σ res) : pm_Ev P (mi, pc, lv, .int (zI b) :: .int (zI a) :: st) σ res := by
  refine pm_Ev.in hc rfl ?_ k
  show some (pc + 1, lv, Value.int (zI a <<< (zI b &&& 31)) :: st, σ) = _
  unfold zshl
  rw [zI_x]
theorem pm_Fv.ishl {a b : Int} (hc : pm_cod P mi pc = some (.ishl, 1)) (k : pm_Fv P (mi, pc + 1, lv, .int (zI (zshl a b)) :: st) σ Q) : pm_Fv P (mi, pc, lv, .int (zI b) :: .int (zI a) :: st) σ Q := by
  obtain ⟨o, s, e, q⟩ := k
  exact ⟨o, s, pm_Ev.ishl hc e, q⟩
theorem pm_Ev.ishr {a b : Int} (hc : pm_cod P mi pc = some (.ishr, 1)) (k : pm_Ev P (mi, pc + 1, lv, .int (zI (zshr a b)) :: st) σ res) : pm_Ev P (mi, pc, lv, .int (zI b) :: .int (zI a) :: st) σ res := by
  refine pm_Ev.in hc rfl ?_ k
  show some (pc + 1, lv, Value.int (zI a >>> (zI b &&& 31)) :: st, σ) = _
  unfold zshr
  rw [zI_x]
theorem pm_Fv.ishr {a b : Int} (hc : pm_cod P mi pc = some (.ishr, 1)) (k : pm_Fv P (mi, pc + 1, lv, .int (zI (zshr a b)) :: st) σ Q) : pm_Fv P (mi, pc, lv, .int (zI b) :: .int (zI a) :: st) σ Q := by
  obtain ⟨o, s, e, q⟩ := k
  exact ⟨o, s, pm_Ev.ishr hc e, q⟩
end BR
section MS
variable (L : Nat) (xs : Nat → Int32)
variable {σ : pm_S} {ad : Nat → Nat} {z : Nat → Int} {ar : Nat → Nat × (Nat → Int32)} {lr : Nat → Nat × (Nat → Int64)}
theorem ev_mtitle1 (H : Hp σ ad z ar lr) (h : mo_H z ar) {n : Int} {I D : Int → Int} (M : mo_R (mo_g ar) (z 23) n I D) {p v : Int} (hp : -2147483648 ≤ p ∧ p ≤ 2147483647) (n2 : ∀ x, 0 ≤ x → x < n → I x ≠ p) : pm_Fv (tq_P L xs) (pm_enter 128 [.ref 199, .int (zI p), .int (zI v)]) σ (fun o s => o = .inl none ∧ Hp s ad (hq_u z 29 1) ar lr ∧ s.2 = σ.2) := by
  show pm_Fv (tq_P L xs) (128, 0, [(0, .ref 199), (1, .int (zI p)), (2, .int (zI v))], []) σ _
  have H0 : Hp σ ad (hq_u z 29 (z 29)) ar lr := by rw [hq_u_self]; exact H
  have hm : 0 ≤ z 23 ∧ z 23 ≤ 400 := ⟨M.m0, M.m4⟩
  refine pm_Fv.go 3 (f' := (128, 3, [(0, _), (1, _), (2, _)], [_, _, _])) rfl ?_
  refine pm_Fv.cv rfl rfl rfl rfl (by decide) (Nat.le_of_ble_eq_true rfl) (Nat.le_of_ble_eq_true rfl) H0.m199 H0.o199 (ev_noT L xs H0 h.l0 M hp n2) ?_
  refine pm_Fv.zne rfl (by omega) rfl (fun h1 => ?_) (fun h1 => ?_)
  · exact absurd h1 (by omega)
  · refine pm_Fv.go 3 (f' := (128, 15, [(0, _), (1, _), (2, _)], [_, _, _])) rfl ?_
    refine pm_Fv.cvF rfl rfl rfl rfl (by decide) (Nat.le_of_ble_eq_true rfl) (Nat.le_of_ble_eq_true rfl) H0.m199 H0.o199 (ev_fo L xs H0) (fun s1 q1 => ?_)
    obtain ⟨H1, r1⟩ := q1
    refine pm_Fv.zne rfl (by omega) rfl (fun h2 => ?_) (fun h2 => ?_)
    · exact pm_Fv.ret rfl rfl rfl rfl ⟨rfl, H1, r1⟩
    · exact absurd h2 (by omega)
theorem ev_mtitle2 (H : Hp σ ad z ar lr) (h : mo_H z ar) {n : Int} {I D : Int → Int} (M : mo_R (mo_g ar) (z 23) n I D) {b : Int} (b0 : 0 ≤ b) (b1 : b < n) {v : Int} (hv : -2147483648 ≤ v ∧ v ≤ 2147483647) (c : ¬ (0 ≤ v ∧ v ≤ 999999)) : pm_Fv (tq_P L xs) (pm_enter 128 [.ref 199, .int (zI (I b)), .int (zI v)]) σ (fun o s => o = .inl none ∧ Hp s ad (hq_u z 29 2) ar lr ∧ s.2 = σ.2) := by
  show pm_Fv (tq_P L xs) (128, 0, [(0, .ref 199), (1, .int (zI (I b))), (2, .int (zI v))], []) σ _
  have H0 : Hp σ ad (hq_u z 29 (z 29)) ar lr := by rw [hq_u_self]; exact H
  have hm : 0 ≤ z 23 ∧ z 23 ≤ 400 := ⟨M.m0, M.m4⟩
  have i0 := M.J.1 b b0 b1
  have i1 := M.lt b b0 b1
  refine pm_Fv.go 3 (f' := (128, 3, [(0, _), (1, _), (2, _)], [_, _, _])) rfl ?_
  refine pm_Fv.cv rfl rfl rfl rfl (by decide) (Nat.le_of_ble_eq_true rfl) (Nat.le_of_ble_eq_true rfl) H0.m199 H0.o199 (ev_isT L xs H0 h.l0 M b0 b1) ?_
  refine pm_Fv.zne rfl (by omega) rfl (fun h1 => ?_) (fun h1 => ?_)
  · refine pm_Fv.go 2 (f' := (128, 15, [(0, _), (1, _), (2, _)], [_, _, _])) rfl ?_
    refine pm_Fv.cvF rfl rfl rfl rfl (by decide) (Nat.le_of_ble_eq_true rfl) (Nat.le_of_ble_eq_true rfl) H0.m199 H0.o199 (ev_fz L xs H0) (fun s1 q1 => ?_)
    obtain ⟨H1, r1⟩ := q1
    refine pm_Fv.zne rfl (by omega) rfl (fun h2 => ?_) (fun h2 => ?_)
    · exact absurd h2 (by omega)
    · refine pm_Fv.go 3 (f' := (128, 24, [(0, _), (1, _), (2, _)], [_, _, _])) rfl ?_
      refine pm_Fv.cc1 (999999) rfl rfl rfl ?_
      refine pm_Fv.call rfl rfl rfl rfl rfl (ev_w0 L xs (by omega) c) ?_
      refine pm_Fv.zne rfl (by omega) rfl (fun h3 => ?_) (fun h3 => ?_)
      · exact absurd h3 (by omega)
      · refine pm_Fv.go 3 (f' := (128, 38, [(0, _), (1, _), (2, _)], [_, _, _])) rfl ?_
        refine pm_Fv.cvF rfl rfl rfl rfl (by decide) (Nat.le_of_ble_eq_true rfl) (Nat.le_of_ble_eq_true rfl) H1.m199 H1.o199 (ev_fo L xs H1) (fun s2 q2 => ?_)
        obtain ⟨H2, r2⟩ := q2
        refine pm_Fv.zeq rfl (by omega) rfl (fun h4 => ?_) (fun h4 => ?_)
        · exact absurd h4 (by omega)
        · exact pm_Fv.ret rfl rfl rfl rfl ⟨rfl, H2, (r2.trans r1)⟩
  · exact absurd h1 (by omega)
theorem ev_mtitle0 (H : Hp σ ad z ar lr) (h : mo_H z ar) {n : Int} {I D : Int → Int} (M : mo_R (mo_g ar) (z 23) n I D) {b : Int} (b0 : 0 ≤ b) (b1 : b < n) {v : Int} (hv : -2147483648 ≤ v ∧ v ≤ 2147483647) (c : 0 ≤ v ∧ v ≤ 999999) : pm_Fv (tq_P L xs) (pm_enter 128 [.ref 199, .int (zI (I b)), .int (zI v)]) σ (fun o s => o = .inl none ∧ (∃ z' ar', mo_ed (hq_u z 29 0) ar (mo_pt (mo_g ar) (I b) (3) (v)) z' ar' ∧ Hp s ad z' ar' lr) ∧ s.2 = σ.2) := by
  show pm_Fv (tq_P L xs) (128, 0, [(0, .ref 199), (1, .int (zI (I b))), (2, .int (zI v))], []) σ _
  have H0 : Hp σ ad (hq_u z 29 (z 29)) ar lr := by rw [hq_u_self]; exact H
  have hm : 0 ≤ z 23 ∧ z 23 ≤ 400 := ⟨M.m0, M.m4⟩
  have i0 := M.J.1 b b0 b1
  have i1 := M.lt b b0 b1
  refine pm_Fv.go 3 (f' := (128, 3, [(0, _), (1, _), (2, _)], [_, _, _])) rfl ?_
  refine pm_Fv.cv rfl rfl rfl rfl (by decide) (Nat.le_of_ble_eq_true rfl) (Nat.le_of_ble_eq_true rfl) H0.m199 H0.o199 (ev_isT L xs H0 h.l0 M b0 b1) ?_
  refine pm_Fv.zne rfl (by omega) rfl (fun h1 => ?_) (fun h1 => ?_)
  · refine pm_Fv.go 2 (f' := (128, 15, [(0, _), (1, _), (2, _)], [_, _, _])) rfl ?_
    refine pm_Fv.cvF rfl rfl rfl rfl (by decide) (Nat.le_of_ble_eq_true rfl) (Nat.le_of_ble_eq_true rfl) H0.m199 H0.o199 (ev_fz L xs H0) (fun s1 q1 => ?_)
    obtain ⟨H1, r1⟩ := q1
    refine pm_Fv.zne rfl (by omega) rfl (fun h2 => ?_) (fun h2 => ?_)
    · exact absurd h2 (by omega)
    · refine pm_Fv.go 3 (f' := (128, 24, [(0, _), (1, _), (2, _)], [_, _, _])) rfl ?_
      refine pm_Fv.cc1 (999999) rfl rfl rfl ?_
      refine pm_Fv.call rfl rfl rfl rfl rfl (ev_w1 L xs (by omega) c) ?_
      refine pm_Fv.zne rfl (by omega) rfl (fun h3 => ?_) (fun h3 => ?_)
      · refine pm_Fv.go 2 (f' := (128, 38, [(0, _), (1, _), (2, _)], [_, _, _])) rfl ?_
        refine pm_Fv.cvF rfl rfl rfl rfl (by decide) (Nat.le_of_ble_eq_true rfl) (Nat.le_of_ble_eq_true rfl) H1.m199 H1.o199 (ev_fz L xs H1) (fun s2 q2 => ?_)
        obtain ⟨H2, r2⟩ := q2
        refine pm_Fv.zeq rfl (by omega) rfl (fun h4 => ?_) (fun h4 => ?_)
        · refine pm_Fv.go 4 (f' := (128, 49, [(0, _), (1, _), (2, _)], [_, _, _, _])) rfl ?_
          refine pm_Fv.cvF rfl rfl rfl rfl (by decide) (Nat.le_of_ble_eq_true rfl) (Nat.le_of_ble_eq_true rfl) H2.m199 H2.o199 (ev_mset L xs H2 h (by omega)) (fun s3 q3 => ?_)
          obtain ⟨H3, r3⟩ := q3
          exact pm_Fv.ret rfl rfl rfl rfl ⟨rfl, H3, (r3.trans (r2.trans r1))⟩
        · exact absurd h4 (by omega)
      · exact absurd h3 (by omega)
  · exact absurd h1 (by omega)
theorem ev_mrank1 (H : Hp σ ad z ar lr) (h : mo_H z ar) {n : Int} {I D : Int → Int} (M : mo_R (mo_g ar) (z 23) n I D) {p v : Int} (hp : -2147483648 ≤ p ∧ p ≤ 2147483647) (n2 : ∀ x, 0 ≤ x → x < n → I x ≠ p) : pm_Fv (tq_P L xs) (pm_enter 130 [.ref 199, .int (zI p), .int (zI v)]) σ (fun o s => o = .inl none ∧ Hp s ad (hq_u z 29 1) ar lr ∧ s.2 = σ.2) := by
  show pm_Fv (tq_P L xs) (130, 0, [(0, .ref 199), (1, .int (zI p)), (2, .int (zI v))], []) σ _
  have H0 : Hp σ ad (hq_u z 29 (z 29)) ar lr := by rw [hq_u_self]; exact H
  have hm : 0 ≤ z 23 ∧ z 23 ≤ 400 := ⟨M.m0, M.m4⟩
  refine pm_Fv.go 3 (f' := (130, 3, [(0, _), (1, _), (2, _)], [_, _, _])) rfl ?_
  refine pm_Fv.cv rfl rfl rfl rfl (by decide) (Nat.le_of_ble_eq_true rfl) (Nat.le_of_ble_eq_true rfl) H0.m199 H0.o199 (ev_noT L xs H0 h.l0 M hp n2) ?_
  refine pm_Fv.zne rfl (by omega) rfl (fun h1 => ?_) (fun h1 => ?_)
  · exact absurd h1 (by omega)
  · refine pm_Fv.go 3 (f' := (130, 15, [(0, _), (1, _), (2, _)], [_, _, _])) rfl ?_
    refine pm_Fv.cvF rfl rfl rfl rfl (by decide) (Nat.le_of_ble_eq_true rfl) (Nat.le_of_ble_eq_true rfl) H0.m199 H0.o199 (ev_fo L xs H0) (fun s1 q1 => ?_)
    obtain ⟨H1, r1⟩ := q1
    refine pm_Fv.zne rfl (by omega) rfl (fun h2 => ?_) (fun h2 => ?_)
    · exact pm_Fv.ret rfl rfl rfl rfl ⟨rfl, H1, r1⟩
    · exact absurd h2 (by omega)
theorem ev_mrank2 (H : Hp σ ad z ar lr) (h : mo_H z ar) {n : Int} {I D : Int → Int} (M : mo_R (mo_g ar) (z 23) n I D) {b : Int} (b0 : 0 ≤ b) (b1 : b < n) {v : Int} (hv : -2147483648 ≤ v ∧ v ≤ 2147483647) (c : ¬ (0 ≤ v ∧ v ≤ 3)) : pm_Fv (tq_P L xs) (pm_enter 130 [.ref 199, .int (zI (I b)), .int (zI v)]) σ (fun o s => o = .inl none ∧ Hp s ad (hq_u z 29 2) ar lr ∧ s.2 = σ.2) := by
  show pm_Fv (tq_P L xs) (130, 0, [(0, .ref 199), (1, .int (zI (I b))), (2, .int (zI v))], []) σ _
  have H0 : Hp σ ad (hq_u z 29 (z 29)) ar lr := by rw [hq_u_self]; exact H
  have hm : 0 ≤ z 23 ∧ z 23 ≤ 400 := ⟨M.m0, M.m4⟩
  have i0 := M.J.1 b b0 b1
  have i1 := M.lt b b0 b1
  refine pm_Fv.go 3 (f' := (130, 3, [(0, _), (1, _), (2, _)], [_, _, _])) rfl ?_
  refine pm_Fv.cv rfl rfl rfl rfl (by decide) (Nat.le_of_ble_eq_true rfl) (Nat.le_of_ble_eq_true rfl) H0.m199 H0.o199 (ev_isT L xs H0 h.l0 M b0 b1) ?_
  refine pm_Fv.zne rfl (by omega) rfl (fun h1 => ?_) (fun h1 => ?_)
  · refine pm_Fv.go 2 (f' := (130, 15, [(0, _), (1, _), (2, _)], [_, _, _])) rfl ?_
    refine pm_Fv.cvF rfl rfl rfl rfl (by decide) (Nat.le_of_ble_eq_true rfl) (Nat.le_of_ble_eq_true rfl) H0.m199 H0.o199 (ev_fz L xs H0) (fun s1 q1 => ?_)
    obtain ⟨H1, r1⟩ := q1
    refine pm_Fv.zne rfl (by omega) rfl (fun h2 => ?_) (fun h2 => ?_)
    · exact absurd h2 (by omega)
    · refine pm_Fv.go 4 (f' := (130, 25, [(0, _), (1, _), (2, _)], [_, _, _, _])) rfl ?_
      refine pm_Fv.call rfl rfl rfl rfl rfl (ev_w0 L xs (by omega) c) ?_
      refine pm_Fv.zne rfl (by omega) rfl (fun h3 => ?_) (fun h3 => ?_)
      · exact absurd h3 (by omega)
      · refine pm_Fv.go 3 (f' := (130, 37, [(0, _), (1, _), (2, _)], [_, _, _])) rfl ?_
        refine pm_Fv.cvF rfl rfl rfl rfl (by decide) (Nat.le_of_ble_eq_true rfl) (Nat.le_of_ble_eq_true rfl) H1.m199 H1.o199 (ev_fo L xs H1) (fun s2 q2 => ?_)
        obtain ⟨H2, r2⟩ := q2
        refine pm_Fv.zeq rfl (by omega) rfl (fun h4 => ?_) (fun h4 => ?_)
        · exact absurd h4 (by omega)
        · exact pm_Fv.ret rfl rfl rfl rfl ⟨rfl, H2, (r2.trans r1)⟩
  · exact absurd h1 (by omega)
theorem ev_mrank0 (H : Hp σ ad z ar lr) (h : mo_H z ar) {n : Int} {I D : Int → Int} (M : mo_R (mo_g ar) (z 23) n I D) {b : Int} (b0 : 0 ≤ b) (b1 : b < n) {v : Int} (hv : -2147483648 ≤ v ∧ v ≤ 2147483647) (c : 0 ≤ v ∧ v ≤ 3) : pm_Fv (tq_P L xs) (pm_enter 130 [.ref 199, .int (zI (I b)), .int (zI v)]) σ (fun o s => o = .inl none ∧ (∃ z' ar', mo_ed (hq_u z 29 0) ar (mo_pt (mo_g ar) (I b) (5) (v)) z' ar' ∧ Hp s ad z' ar' lr) ∧ s.2 = σ.2) := by
  show pm_Fv (tq_P L xs) (130, 0, [(0, .ref 199), (1, .int (zI (I b))), (2, .int (zI v))], []) σ _
  have H0 : Hp σ ad (hq_u z 29 (z 29)) ar lr := by rw [hq_u_self]; exact H
  have hm : 0 ≤ z 23 ∧ z 23 ≤ 400 := ⟨M.m0, M.m4⟩
  have i0 := M.J.1 b b0 b1
  have i1 := M.lt b b0 b1
  refine pm_Fv.go 3 (f' := (130, 3, [(0, _), (1, _), (2, _)], [_, _, _])) rfl ?_
  refine pm_Fv.cv rfl rfl rfl rfl (by decide) (Nat.le_of_ble_eq_true rfl) (Nat.le_of_ble_eq_true rfl) H0.m199 H0.o199 (ev_isT L xs H0 h.l0 M b0 b1) ?_
  refine pm_Fv.zne rfl (by omega) rfl (fun h1 => ?_) (fun h1 => ?_)
  · refine pm_Fv.go 2 (f' := (130, 15, [(0, _), (1, _), (2, _)], [_, _, _])) rfl ?_
    refine pm_Fv.cvF rfl rfl rfl rfl (by decide) (Nat.le_of_ble_eq_true rfl) (Nat.le_of_ble_eq_true rfl) H0.m199 H0.o199 (ev_fz L xs H0) (fun s1 q1 => ?_)
    obtain ⟨H1, r1⟩ := q1
    refine pm_Fv.zne rfl (by omega) rfl (fun h2 => ?_) (fun h2 => ?_)
    · exact absurd h2 (by omega)
    · refine pm_Fv.go 4 (f' := (130, 25, [(0, _), (1, _), (2, _)], [_, _, _, _])) rfl ?_
      refine pm_Fv.call rfl rfl rfl rfl rfl (ev_w1 L xs (by omega) c) ?_
      refine pm_Fv.zne rfl (by omega) rfl (fun h3 => ?_) (fun h3 => ?_)
      · refine pm_Fv.go 2 (f' := (130, 37, [(0, _), (1, _), (2, _)], [_, _, _])) rfl ?_
        refine pm_Fv.cvF rfl rfl rfl rfl (by decide) (Nat.le_of_ble_eq_true rfl) (Nat.le_of_ble_eq_true rfl) H1.m199 H1.o199 (ev_fz L xs H1) (fun s2 q2 => ?_)
        obtain ⟨H2, r2⟩ := q2
        refine pm_Fv.zeq rfl (by omega) rfl (fun h4 => ?_) (fun h4 => ?_)
        · refine pm_Fv.go 4 (f' := (130, 48, [(0, _), (1, _), (2, _)], [_, _, _, _])) rfl ?_
          refine pm_Fv.cvF rfl rfl rfl rfl (by decide) (Nat.le_of_ble_eq_true rfl) (Nat.le_of_ble_eq_true rfl) H2.m199 H2.o199 (ev_mset L xs H2 h (by omega)) (fun s3 q3 => ?_)
          obtain ⟨H3, r3⟩ := q3
          exact pm_Fv.ret rfl rfl rfl rfl ⟨rfl, H3, (r3.trans (r2.trans r1))⟩
        · exact absurd h4 (by omega)
      · exact absurd h3 (by omega)
  · exact absurd h1 (by omega)
theorem ev_mminutes1 (H : Hp σ ad z ar lr) (h : mo_H z ar) {n : Int} {I D : Int → Int} (M : mo_R (mo_g ar) (z 23) n I D) {p q v : Int} (hp : -2147483648 ≤ p ∧ p ≤ 2147483647) (n2 : ∀ x, 0 ≤ x → x < n → I x ≠ p) : pm_Fv (tq_P L xs) (pm_enter 133 [.ref 199, .int (zI p), .int (zI q), .int (zI v)]) σ (fun o s => o = .inl none ∧ Hp s ad (hq_u z 29 1) ar lr ∧ s.2 = σ.2) := by
  show pm_Fv (tq_P L xs) (133, 0, [(0, .ref 199), (1, .int (zI p)), (2, .int (zI q)), (3, .int (zI v))], []) σ _
  have H0 : Hp σ ad (hq_u z 29 (z 29)) ar lr := by rw [hq_u_self]; exact H
  have hm : 0 ≤ z 23 ∧ z 23 ≤ 400 := ⟨M.m0, M.m4⟩
  refine pm_Fv.go 3 (f' := (133, 3, [(0, _), (1, _), (2, _), (3, _)], [_, _, _])) rfl ?_
  refine pm_Fv.cv rfl rfl rfl rfl (by decide) (Nat.le_of_ble_eq_true rfl) (Nat.le_of_ble_eq_true rfl) H0.m199 H0.o199 (ev_noT L xs H0 h.l0 M hp n2) ?_
  refine pm_Fv.zne rfl (by omega) rfl (fun h1 => ?_) (fun h1 => ?_)
  · exact absurd h1 (by omega)
  · refine pm_Fv.go 3 (f' := (133, 15, [(0, _), (1, _), (2, _), (3, _)], [_, _, _])) rfl ?_
    refine pm_Fv.cvF rfl rfl rfl rfl (by decide) (Nat.le_of_ble_eq_true rfl) (Nat.le_of_ble_eq_true rfl) H0.m199 H0.o199 (ev_fo L xs H0) (fun s1 q1 => ?_)
    obtain ⟨H1, r1⟩ := q1
    refine pm_Fv.zne rfl (by omega) rfl (fun h2 => ?_) (fun h2 => ?_)
    · exact pm_Fv.ret rfl rfl rfl rfl ⟨rfl, H1, r1⟩
    · exact absurd h2 (by omega)
theorem ev_mminutes2a (H : Hp σ ad z ar lr) (h : mo_H z ar) {n : Int} {I D : Int → Int} (M : mo_R (mo_g ar) (z 23) n I D) {b : Int} (b0 : 0 ≤ b) (b1 : b < n) {q v : Int} (hq : -2147483648 ≤ q ∧ q ≤ 2147483647) (hv : -2147483648 ≤ v ∧ v ≤ 2147483647) (c : ¬ (0 ≤ q ∧ q ≤ 1)) : pm_Fv (tq_P L xs) (pm_enter 133 [.ref 199, .int (zI (I b)), .int (zI q), .int (zI v)]) σ (fun o s => o = .inl none ∧ Hp s ad (hq_u z 29 2) ar lr ∧ s.2 = σ.2) := by
  show pm_Fv (tq_P L xs) (133, 0, [(0, .ref 199), (1, .int (zI (I b))), (2, .int (zI q)), (3, .int (zI v))], []) σ _
  have H0 : Hp σ ad (hq_u z 29 (z 29)) ar lr := by rw [hq_u_self]; exact H
  have hm : 0 ≤ z 23 ∧ z 23 ≤ 400 := ⟨M.m0, M.m4⟩
  have i0 := M.J.1 b b0 b1
  have i1 := M.lt b b0 b1
  refine pm_Fv.go 3 (f' := (133, 3, [(0, _), (1, _), (2, _), (3, _)], [_, _, _])) rfl ?_
  refine pm_Fv.cv rfl rfl rfl rfl (by decide) (Nat.le_of_ble_eq_true rfl) (Nat.le_of_ble_eq_true rfl) H0.m199 H0.o199 (ev_isT L xs H0 h.l0 M b0 b1) ?_
  refine pm_Fv.zne rfl (by omega) rfl (fun h1 => ?_) (fun h1 => ?_)
  · refine pm_Fv.go 2 (f' := (133, 15, [(0, _), (1, _), (2, _), (3, _)], [_, _, _])) rfl ?_
    refine pm_Fv.cvF rfl rfl rfl rfl (by decide) (Nat.le_of_ble_eq_true rfl) (Nat.le_of_ble_eq_true rfl) H0.m199 H0.o199 (ev_fz L xs H0) (fun s1 q1 => ?_)
    obtain ⟨H1, r1⟩ := q1
    refine pm_Fv.zne rfl (by omega) rfl (fun h2 => ?_) (fun h2 => ?_)
    · exact absurd h2 (by omega)
    · refine pm_Fv.go 4 (f' := (133, 25, [(0, _), (1, _), (2, _), (3, _)], [_, _, _, _])) rfl ?_
      refine pm_Fv.call rfl rfl rfl rfl rfl (ev_w0 L xs (by omega) c) ?_
      refine pm_Fv.zeq rfl (by omega) rfl (fun h3 => ?_) (fun h3 => ?_)
      · refine pm_Fv.go 3 (f' := (133, 47, [(0, _), (1, _), (2, _), (3, _)], [_, _, _])) rfl ?_
        refine pm_Fv.cvF rfl rfl rfl rfl (by decide) (Nat.le_of_ble_eq_true rfl) (Nat.le_of_ble_eq_true rfl) H1.m199 H1.o199 (ev_fo L xs H1) (fun s2 q2 => ?_)
        obtain ⟨H2, r2⟩ := q2
        refine pm_Fv.zeq rfl (by omega) rfl (fun h4 => ?_) (fun h4 => ?_)
        · exact absurd h4 (by omega)
        · exact pm_Fv.ret rfl rfl rfl rfl ⟨rfl, H2, (r2.trans r1)⟩
      · exact absurd h3 (by omega)
  · exact absurd h1 (by omega)
theorem ev_mminutes2b (H : Hp σ ad z ar lr) (h : mo_H z ar) {n : Int} {I D : Int → Int} (M : mo_R (mo_g ar) (z 23) n I D) {b : Int} (b0 : 0 ≤ b) (b1 : b < n) {q v : Int} (hq : -2147483648 ≤ q ∧ q ≤ 2147483647) (hv : -2147483648 ≤ v ∧ v ≤ 2147483647) (c : 0 ≤ q ∧ q ≤ 1) (d : ¬ (0 ≤ v ∧ v ≤ 1000000)) : pm_Fv (tq_P L xs) (pm_enter 133 [.ref 199, .int (zI (I b)), .int (zI q), .int (zI v)]) σ (fun o s => o = .inl none ∧ Hp s ad (hq_u z 29 2) ar lr ∧ s.2 = σ.2) := by
  show pm_Fv (tq_P L xs) (133, 0, [(0, .ref 199), (1, .int (zI (I b))), (2, .int (zI q)), (3, .int (zI v))], []) σ _
  have H0 : Hp σ ad (hq_u z 29 (z 29)) ar lr := by rw [hq_u_self]; exact H
  have hm : 0 ≤ z 23 ∧ z 23 ≤ 400 := ⟨M.m0, M.m4⟩
  have i0 := M.J.1 b b0 b1
  have i1 := M.lt b b0 b1
  refine pm_Fv.go 3 (f' := (133, 3, [(0, _), (1, _), (2, _), (3, _)], [_, _, _])) rfl ?_
  refine pm_Fv.cv rfl rfl rfl rfl (by decide) (Nat.le_of_ble_eq_true rfl) (Nat.le_of_ble_eq_true rfl) H0.m199 H0.o199 (ev_isT L xs H0 h.l0 M b0 b1) ?_
  refine pm_Fv.zne rfl (by omega) rfl (fun h1 => ?_) (fun h1 => ?_)
  · refine pm_Fv.go 2 (f' := (133, 15, [(0, _), (1, _), (2, _), (3, _)], [_, _, _])) rfl ?_
    refine pm_Fv.cvF rfl rfl rfl rfl (by decide) (Nat.le_of_ble_eq_true rfl) (Nat.le_of_ble_eq_true rfl) H0.m199 H0.o199 (ev_fz L xs H0) (fun s1 q1 => ?_)
    obtain ⟨H1, r1⟩ := q1
    refine pm_Fv.zne rfl (by omega) rfl (fun h2 => ?_) (fun h2 => ?_)
    · exact absurd h2 (by omega)
    · refine pm_Fv.go 4 (f' := (133, 25, [(0, _), (1, _), (2, _), (3, _)], [_, _, _, _])) rfl ?_
      refine pm_Fv.call rfl rfl rfl rfl rfl (ev_w1 L xs (by omega) c) ?_
      refine pm_Fv.zeq rfl (by omega) rfl (fun h3 => ?_) (fun h3 => ?_)
      · exact absurd h3 (by omega)
      · refine pm_Fv.go 2 (f' := (133, 33, [(0, _), (1, _), (2, _), (3, _)], [_, _, _])) rfl ?_
        refine pm_Fv.cc1 (1000000) rfl rfl rfl ?_
        refine pm_Fv.call rfl rfl rfl rfl rfl (ev_w0 L xs (by omega) d) ?_
        refine pm_Fv.zne rfl (by omega) rfl (fun h4 => ?_) (fun h4 => ?_)
        · exact absurd h4 (by omega)
        · refine pm_Fv.go 3 (f' := (133, 47, [(0, _), (1, _), (2, _), (3, _)], [_, _, _])) rfl ?_
          refine pm_Fv.cvF rfl rfl rfl rfl (by decide) (Nat.le_of_ble_eq_true rfl) (Nat.le_of_ble_eq_true rfl) H1.m199 H1.o199 (ev_fo L xs H1) (fun s2 q2 => ?_)
          obtain ⟨H2, r2⟩ := q2
          refine pm_Fv.zeq rfl (by omega) rfl (fun h5 => ?_) (fun h5 => ?_)
          · exact absurd h5 (by omega)
          · exact pm_Fv.ret rfl rfl rfl rfl ⟨rfl, H2, (r2.trans r1)⟩
  · exact absurd h1 (by omega)
theorem ev_mminutes0 (H : Hp σ ad z ar lr) (h : mo_H z ar) {n : Int} {I D : Int → Int} (M : mo_R (mo_g ar) (z 23) n I D) {b : Int} (b0 : 0 ≤ b) (b1 : b < n) {q v : Int} (hq : -2147483648 ≤ q ∧ q ≤ 2147483647) (hv : -2147483648 ≤ v ∧ v ≤ 2147483647) (c : 0 ≤ q ∧ q ≤ 1) (d : 0 ≤ v ∧ v ≤ 1000000) : pm_Fv (tq_P L xs) (pm_enter 133 [.ref 199, .int (zI (I b)), .int (zI q), .int (zI v)]) σ (fun o s => o = .inl none ∧ (∃ z' ar', mo_ed (hq_u z 29 0) ar (mo_pt (mo_g ar) (I b) (12 + q) (v)) z' ar' ∧ Hp s ad z' ar' lr) ∧ s.2 = σ.2) := by
  show pm_Fv (tq_P L xs) (133, 0, [(0, .ref 199), (1, .int (zI (I b))), (2, .int (zI q)), (3, .int (zI v))], []) σ _
  have H0 : Hp σ ad (hq_u z 29 (z 29)) ar lr := by rw [hq_u_self]; exact H
  have hm : 0 ≤ z 23 ∧ z 23 ≤ 400 := ⟨M.m0, M.m4⟩
  have i0 := M.J.1 b b0 b1
  have i1 := M.lt b b0 b1
  refine pm_Fv.go 3 (f' := (133, 3, [(0, _), (1, _), (2, _), (3, _)], [_, _, _])) rfl ?_
  refine pm_Fv.cv rfl rfl rfl rfl (by decide) (Nat.le_of_ble_eq_true rfl) (Nat.le_of_ble_eq_true rfl) H0.m199 H0.o199 (ev_isT L xs H0 h.l0 M b0 b1) ?_
  refine pm_Fv.zne rfl (by omega) rfl (fun h1 => ?_) (fun h1 => ?_)
  · refine pm_Fv.go 2 (f' := (133, 15, [(0, _), (1, _), (2, _), (3, _)], [_, _, _])) rfl ?_
    refine pm_Fv.cvF rfl rfl rfl rfl (by decide) (Nat.le_of_ble_eq_true rfl) (Nat.le_of_ble_eq_true rfl) H0.m199 H0.o199 (ev_fz L xs H0) (fun s1 q1 => ?_)
    obtain ⟨H1, r1⟩ := q1
    refine pm_Fv.zne rfl (by omega) rfl (fun h2 => ?_) (fun h2 => ?_)
    · exact absurd h2 (by omega)
    · refine pm_Fv.go 4 (f' := (133, 25, [(0, _), (1, _), (2, _), (3, _)], [_, _, _, _])) rfl ?_
      refine pm_Fv.call rfl rfl rfl rfl rfl (ev_w1 L xs (by omega) c) ?_
      refine pm_Fv.zeq rfl (by omega) rfl (fun h3 => ?_) (fun h3 => ?_)
      · exact absurd h3 (by omega)
      · refine pm_Fv.go 2 (f' := (133, 33, [(0, _), (1, _), (2, _), (3, _)], [_, _, _])) rfl ?_
        refine pm_Fv.cc1 (1000000) rfl rfl rfl ?_
        refine pm_Fv.call rfl rfl rfl rfl rfl (ev_w1 L xs (by omega) d) ?_
        refine pm_Fv.zne rfl (by omega) rfl (fun h4 => ?_) (fun h4 => ?_)
        · refine pm_Fv.go 2 (f' := (133, 47, [(0, _), (1, _), (2, _), (3, _)], [_, _, _])) rfl ?_
          refine pm_Fv.cvF rfl rfl rfl rfl (by decide) (Nat.le_of_ble_eq_true rfl) (Nat.le_of_ble_eq_true rfl) H1.m199 H1.o199 (ev_fz L xs H1) (fun s2 q2 => ?_)
          obtain ⟨H2, r2⟩ := q2
          refine pm_Fv.zeq rfl (by omega) rfl (fun h5 => ?_) (fun h5 => ?_)
          · refine pm_Fv.go 2 (f' := (133, 56, [(0, _), (1, _), (2, _), (3, _)], [_, _])) rfl ?_
            refine pm_Fv.bp rfl rfl ?_
            refine pm_Fv.go 1 (f' := (133, 59, [(0, _), (1, _), (2, _), (3, _)], [_, _, _, _])) rfl ?_
            refine pm_Fv.iadd rfl ?_
            refine pm_Fv.go 1 (f' := (133, 61, [(0, _), (1, _), (2, _), (3, _)], [_, _, _, _])) rfl ?_
            refine pm_Fv.cvF rfl rfl rfl rfl (by decide) (Nat.le_of_ble_eq_true rfl) (Nat.le_of_ble_eq_true rfl) H2.m199 H2.o199 (ev_mset L xs H2 h (by omega)) (fun s3 q3 => ?_)
            obtain ⟨H3, r3⟩ := q3
            exact pm_Fv.ret rfl rfl rfl rfl ⟨rfl, H3, (r3.trans (r2.trans r1))⟩
          · exact absurd h5 (by omega)
        · exact absurd h4 (by omega)
  · exact absurd h1 (by omega)
theorem ev_mfold1 (H : Hp σ ad z ar lr) (h : mo_H z ar) {n : Int} {I D : Int → Int} (M : mo_R (mo_g ar) (z 23) n I D) {p v : Int} (hp : -2147483648 ≤ p ∧ p ≤ 2147483647) (n2 : ∀ x, 0 ≤ x → x < n → I x ≠ p) : pm_Fv (tq_P L xs) (pm_enter 134 [.ref 199, .int (zI p), .int (zI v)]) σ (fun o s => o = .inl none ∧ Hp s ad (hq_u z 29 1) ar lr ∧ s.2 = σ.2) := by
  show pm_Fv (tq_P L xs) (134, 0, [(0, .ref 199), (1, .int (zI p)), (2, .int (zI v))], []) σ _
  have H0 : Hp σ ad (hq_u z 29 (z 29)) ar lr := by rw [hq_u_self]; exact H
  have hm : 0 ≤ z 23 ∧ z 23 ≤ 400 := ⟨M.m0, M.m4⟩
  refine pm_Fv.go 3 (f' := (134, 3, [(0, _), (1, _), (2, _)], [_, _, _])) rfl ?_
  refine pm_Fv.cv rfl rfl rfl rfl (by decide) (Nat.le_of_ble_eq_true rfl) (Nat.le_of_ble_eq_true rfl) H0.m199 H0.o199 (ev_noT L xs H0 h.l0 M hp n2) ?_
  refine pm_Fv.zne rfl (by omega) rfl (fun h1 => ?_) (fun h1 => ?_)
  · exact absurd h1 (by omega)
  · refine pm_Fv.go 3 (f' := (134, 15, [(0, _), (1, _), (2, _)], [_, _, _])) rfl ?_
    refine pm_Fv.cvF rfl rfl rfl rfl (by decide) (Nat.le_of_ble_eq_true rfl) (Nat.le_of_ble_eq_true rfl) H0.m199 H0.o199 (ev_fo L xs H0) (fun s1 q1 => ?_)
    obtain ⟨H1, r1⟩ := q1
    refine pm_Fv.zeq rfl (by omega) rfl (fun h2 => ?_) (fun h2 => ?_)
    · exact absurd h2 (by omega)
    · exact pm_Fv.ret rfl rfl rfl rfl ⟨rfl, H1, r1⟩
theorem ev_mfold0 (H : Hp σ ad z ar lr) (h : mo_H z ar) {n : Int} {I D : Int → Int} (M : mo_R (mo_g ar) (z 23) n I D) {b : Int} (b0 : 0 ≤ b) (b1 : b < n) : pm_Fv (tq_P L xs) (pm_enter 134 [.ref 199, .int (zI (I b)), .int (zI 0)]) σ (fun o s => o = .inl none ∧ (∃ z' ar', mo_ed (hq_u z 29 0) ar (mo_pt (mo_g ar) (I b) (7) (0)) z' ar' ∧ Hp s ad z' ar' lr) ∧ s.2 = σ.2) := by
  show pm_Fv (tq_P L xs) (134, 0, [(0, .ref 199), (1, .int (zI (I b))), (2, .int (zI 0))], []) σ _
  have H0 : Hp σ ad (hq_u z 29 (z 29)) ar lr := by rw [hq_u_self]; exact H
  have hm : 0 ≤ z 23 ∧ z 23 ≤ 400 := ⟨M.m0, M.m4⟩
  have i0 := M.J.1 b b0 b1
  have i1 := M.lt b b0 b1
  refine pm_Fv.go 3 (f' := (134, 3, [(0, _), (1, _), (2, _)], [_, _, _])) rfl ?_
  refine pm_Fv.cv rfl rfl rfl rfl (by decide) (Nat.le_of_ble_eq_true rfl) (Nat.le_of_ble_eq_true rfl) H0.m199 H0.o199 (ev_isT L xs H0 h.l0 M b0 b1) ?_
  refine pm_Fv.zne rfl (by omega) rfl (fun h1 => ?_) (fun h1 => ?_)
  · refine pm_Fv.go 2 (f' := (134, 15, [(0, _), (1, _), (2, _)], [_, _, _])) rfl ?_
    refine pm_Fv.cvF rfl rfl rfl rfl (by decide) (Nat.le_of_ble_eq_true rfl) (Nat.le_of_ble_eq_true rfl) H0.m199 H0.o199 (ev_fz L xs H0) (fun s1 q1 => ?_)
    obtain ⟨H1, r1⟩ := q1
    refine pm_Fv.zeq rfl (by omega) rfl (fun h2 => ?_) (fun h2 => ?_)
    · refine pm_Fv.go 2 (f' := (134, 24, [(0, _), (1, _), (2, _)], [_, _])) rfl ?_
      refine pm_Fv.bp rfl rfl ?_
      refine pm_Fv.go 1 (f' := (134, 27, [(0, _), (1, _), (2, _)], [_, _, _, _])) rfl ?_
      refine pm_Fv.zeq rfl (by omega) rfl (fun h3 => ?_) (fun h3 => ?_)
      · refine pm_Fv.go 1 (f' := (134, 35, [(0, _), (1, _), (2, _)], [_, _, _, _])) rfl ?_
        refine pm_Fv.cvF rfl rfl rfl rfl (by decide) (Nat.le_of_ble_eq_true rfl) (Nat.le_of_ble_eq_true rfl) H1.m199 H1.o199 (ev_mset L xs H1 h (by omega)) (fun s2 q2 => ?_)
        obtain ⟨H2, r2⟩ := q2
        exact pm_Fv.ret rfl rfl rfl rfl ⟨rfl, H2, (r2.trans r1)⟩
      · exact absurd h3 (by omega)
    · exact absurd h2 (by omega)
  · exact absurd h1 (by omega)
theorem ev_mfoldT (H : Hp σ ad z ar lr) (h : mo_H z ar) {n : Int} {I D : Int → Int} (M : mo_R (mo_g ar) (z 23) n I D) {b : Int} (b0 : 0 ≤ b) (b1 : b < n) : pm_Fv (tq_P L xs) (pm_enter 134 [.ref 199, .int (zI (I b)), .int (zI 1)]) σ (fun o s => o = .inl none ∧ (∃ z' ar', mo_ed (hq_u z 29 0) ar (mo_pt (mo_g ar) (I b) (7) (1)) z' ar' ∧ Hp s ad z' ar' lr) ∧ s.2 = σ.2) := by
  show pm_Fv (tq_P L xs) (134, 0, [(0, .ref 199), (1, .int (zI (I b))), (2, .int (zI 1))], []) σ _
  have H0 : Hp σ ad (hq_u z 29 (z 29)) ar lr := by rw [hq_u_self]; exact H
  have hm : 0 ≤ z 23 ∧ z 23 ≤ 400 := ⟨M.m0, M.m4⟩
  have i0 := M.J.1 b b0 b1
  have i1 := M.lt b b0 b1
  refine pm_Fv.go 3 (f' := (134, 3, [(0, _), (1, _), (2, _)], [_, _, _])) rfl ?_
  refine pm_Fv.cv rfl rfl rfl rfl (by decide) (Nat.le_of_ble_eq_true rfl) (Nat.le_of_ble_eq_true rfl) H0.m199 H0.o199 (ev_isT L xs H0 h.l0 M b0 b1) ?_
  refine pm_Fv.zne rfl (by omega) rfl (fun h1 => ?_) (fun h1 => ?_)
  · refine pm_Fv.go 2 (f' := (134, 15, [(0, _), (1, _), (2, _)], [_, _, _])) rfl ?_
    refine pm_Fv.cvF rfl rfl rfl rfl (by decide) (Nat.le_of_ble_eq_true rfl) (Nat.le_of_ble_eq_true rfl) H0.m199 H0.o199 (ev_fz L xs H0) (fun s1 q1 => ?_)
    obtain ⟨H1, r1⟩ := q1
    refine pm_Fv.zeq rfl (by omega) rfl (fun h2 => ?_) (fun h2 => ?_)
    · refine pm_Fv.go 2 (f' := (134, 24, [(0, _), (1, _), (2, _)], [_, _])) rfl ?_
      refine pm_Fv.bp rfl rfl ?_
      refine pm_Fv.go 1 (f' := (134, 27, [(0, _), (1, _), (2, _)], [_, _, _, _])) rfl ?_
      refine pm_Fv.zeq rfl (by omega) rfl (fun h3 => ?_) (fun h3 => ?_)
      · exact absurd h3 (by omega)
      · refine pm_Fv.go 2 (f' := (134, 35, [(0, _), (1, _), (2, _)], [_, _, _, _])) rfl ?_
        refine pm_Fv.cvF rfl rfl rfl rfl (by decide) (Nat.le_of_ble_eq_true rfl) (Nat.le_of_ble_eq_true rfl) H1.m199 H1.o199 (ev_mset L xs H1 h (by omega)) (fun s2 q2 => ?_)
        obtain ⟨H2, r2⟩ := q2
        exact pm_Fv.ret rfl rfl rfl rfl ⟨rfl, H2, (r2.trans r1)⟩
    · exact absurd h2 (by omega)
  · exact absurd h1 (by omega)
theorem ev_mtag1 (H : Hp σ ad z ar lr) (h : mo_H z ar) {n : Int} {I D : Int → Int} (M : mo_R (mo_g ar) (z 23) n I D) {p q v : Int} (hp : -2147483648 ≤ p ∧ p ≤ 2147483647) (n2 : ∀ x, 0 ≤ x → x < n → I x ≠ p) : pm_Fv (tq_P L xs) (pm_enter 131 [.ref 199, .int (zI p), .int (zI q), .int (zI v)]) σ (fun o s => o = .inl none ∧ Hp s ad (hq_u z 29 1) ar lr ∧ s.2 = σ.2) := by
  show pm_Fv (tq_P L xs) (131, 0, [(0, .ref 199), (1, .int (zI p)), (2, .int (zI q)), (3, .int (zI v))], []) σ _
  have H0 : Hp σ ad (hq_u z 29 (z 29)) ar lr := by rw [hq_u_self]; exact H
  have hm : 0 ≤ z 23 ∧ z 23 ≤ 400 := ⟨M.m0, M.m4⟩
  refine pm_Fv.go 3 (f' := (131, 3, [(0, _), (1, _), (2, _), (3, _)], [_, _, _])) rfl ?_
  refine pm_Fv.cv rfl rfl rfl rfl (by decide) (Nat.le_of_ble_eq_true rfl) (Nat.le_of_ble_eq_true rfl) H0.m199 H0.o199 (ev_noT L xs H0 h.l0 M hp n2) ?_
  refine pm_Fv.zne rfl (by omega) rfl (fun h1 => ?_) (fun h1 => ?_)
  · exact absurd h1 (by omega)
  · refine pm_Fv.go 3 (f' := (131, 15, [(0, _), (1, _), (2, _), (3, _)], [_, _, _])) rfl ?_
    refine pm_Fv.cvF rfl rfl rfl rfl (by decide) (Nat.le_of_ble_eq_true rfl) (Nat.le_of_ble_eq_true rfl) H0.m199 H0.o199 (ev_fo L xs H0) (fun s1 q1 => ?_)
    obtain ⟨H1, r1⟩ := q1
    refine pm_Fv.zne rfl (by omega) rfl (fun h2 => ?_) (fun h2 => ?_)
    · exact pm_Fv.ret rfl rfl rfl rfl ⟨rfl, H1, r1⟩
    · exact absurd h2 (by omega)
theorem ev_mtag2 (H : Hp σ ad z ar lr) (h : mo_H z ar) {n : Int} {I D : Int → Int} (M : mo_R (mo_g ar) (z 23) n I D) {b : Int} (b0 : 0 ≤ b) (b1 : b < n) {q v : Int} (hq : -2147483648 ≤ q ∧ q ≤ 2147483647) (c : ¬ (0 ≤ q ∧ q ≤ 23)) : pm_Fv (tq_P L xs) (pm_enter 131 [.ref 199, .int (zI (I b)), .int (zI q), .int (zI v)]) σ (fun o s => o = .inl none ∧ Hp s ad (hq_u z 29 2) ar lr ∧ s.2 = σ.2) := by
  show pm_Fv (tq_P L xs) (131, 0, [(0, .ref 199), (1, .int (zI (I b))), (2, .int (zI q)), (3, .int (zI v))], []) σ _
  have H0 : Hp σ ad (hq_u z 29 (z 29)) ar lr := by rw [hq_u_self]; exact H
  have hm : 0 ≤ z 23 ∧ z 23 ≤ 400 := ⟨M.m0, M.m4⟩
  have i0 := M.J.1 b b0 b1
  have i1 := M.lt b b0 b1
  refine pm_Fv.go 3 (f' := (131, 3, [(0, _), (1, _), (2, _), (3, _)], [_, _, _])) rfl ?_
  refine pm_Fv.cv rfl rfl rfl rfl (by decide) (Nat.le_of_ble_eq_true rfl) (Nat.le_of_ble_eq_true rfl) H0.m199 H0.o199 (ev_isT L xs H0 h.l0 M b0 b1) ?_
  refine pm_Fv.zne rfl (by omega) rfl (fun h1 => ?_) (fun h1 => ?_)
  · refine pm_Fv.go 2 (f' := (131, 15, [(0, _), (1, _), (2, _), (3, _)], [_, _, _])) rfl ?_
    refine pm_Fv.cvF rfl rfl rfl rfl (by decide) (Nat.le_of_ble_eq_true rfl) (Nat.le_of_ble_eq_true rfl) H0.m199 H0.o199 (ev_fz L xs H0) (fun s1 q1 => ?_)
    obtain ⟨H1, r1⟩ := q1
    refine pm_Fv.zne rfl (by omega) rfl (fun h2 => ?_) (fun h2 => ?_)
    · exact absurd h2 (by omega)
    · refine pm_Fv.go 3 (f' := (131, 24, [(0, _), (1, _), (2, _), (3, _)], [_, _, _])) rfl ?_
      refine pm_Fv.bp rfl rfl ?_
      refine pm_Fv.call rfl rfl rfl rfl rfl (ev_w0 L xs (by omega) c) ?_
      refine pm_Fv.zne rfl (by omega) rfl (fun h3 => ?_) (fun h3 => ?_)
      · exact absurd h3 (by omega)
      · refine pm_Fv.go 3 (f' := (131, 38, [(0, _), (1, _), (2, _), (3, _)], [_, _, _])) rfl ?_
        refine pm_Fv.cvF rfl rfl rfl rfl (by decide) (Nat.le_of_ble_eq_true rfl) (Nat.le_of_ble_eq_true rfl) H1.m199 H1.o199 (ev_fo L xs H1) (fun s2 q2 => ?_)
        obtain ⟨H2, r2⟩ := q2
        refine pm_Fv.zeq rfl (by omega) rfl (fun h4 => ?_) (fun h4 => ?_)
        · exact absurd h4 (by omega)
        · exact pm_Fv.ret rfl rfl rfl rfl ⟨rfl, H2, (r2.trans r1)⟩
  · exact absurd h1 (by omega)
theorem ev_mtagT (H : Hp σ ad z ar lr) (h : mo_H z ar) {n : Int} {I D : Int → Int} (M : mo_R (mo_g ar) (z 23) n I D) {b : Int} (b0 : 0 ≤ b) (b1 : b < n) {q : Int} (hq : -2147483648 ≤ q ∧ q ≤ 2147483647) (c : 0 ≤ q ∧ q ≤ 23) : pm_Fv (tq_P L xs) (pm_enter 131 [.ref 199, .int (zI (I b)), .int (zI q), .int (zI 1)]) σ (fun o s => o = .inl none ∧ (∃ z' ar', mo_ed (hq_u z 29 0) ar (mo_pt (mo_g ar) (I b) (6) (zor (mo_g ar (I b) 6) (zshl 1 q))) z' ar' ∧ Hp s ad z' ar' lr) ∧ s.2 = σ.2) := by
  show pm_Fv (tq_P L xs) (131, 0, [(0, .ref 199), (1, .int (zI (I b))), (2, .int (zI q)), (3, .int (zI 1))], []) σ _
  have H0 : Hp σ ad (hq_u z 29 (z 29)) ar lr := by rw [hq_u_self]; exact H
  have hm : 0 ≤ z 23 ∧ z 23 ≤ 400 := ⟨M.m0, M.m4⟩
  have i0 := M.J.1 b b0 b1
  have i1 := M.lt b b0 b1
  refine pm_Fv.go 3 (f' := (131, 3, [(0, _), (1, _), (2, _), (3, _)], [_, _, _])) rfl ?_
  refine pm_Fv.cv rfl rfl rfl rfl (by decide) (Nat.le_of_ble_eq_true rfl) (Nat.le_of_ble_eq_true rfl) H0.m199 H0.o199 (ev_isT L xs H0 h.l0 M b0 b1) ?_
  refine pm_Fv.zne rfl (by omega) rfl (fun h1 => ?_) (fun h1 => ?_)
  · refine pm_Fv.go 2 (f' := (131, 15, [(0, _), (1, _), (2, _), (3, _)], [_, _, _])) rfl ?_
    refine pm_Fv.cvF rfl rfl rfl rfl (by decide) (Nat.le_of_ble_eq_true rfl) (Nat.le_of_ble_eq_true rfl) H0.m199 H0.o199 (ev_fz L xs H0) (fun s1 q1 => ?_)
    obtain ⟨H1, r1⟩ := q1
    refine pm_Fv.zne rfl (by omega) rfl (fun h2 => ?_) (fun h2 => ?_)
    · exact absurd h2 (by omega)
    · refine pm_Fv.go 3 (f' := (131, 24, [(0, _), (1, _), (2, _), (3, _)], [_, _, _])) rfl ?_
      refine pm_Fv.bp rfl rfl ?_
      refine pm_Fv.call rfl rfl rfl rfl rfl (ev_w1 L xs (by omega) c) ?_
      refine pm_Fv.zne rfl (by omega) rfl (fun h3 => ?_) (fun h3 => ?_)
      · refine pm_Fv.go 2 (f' := (131, 38, [(0, _), (1, _), (2, _), (3, _)], [_, _, _])) rfl ?_
        refine pm_Fv.cvF rfl rfl rfl rfl (by decide) (Nat.le_of_ble_eq_true rfl) (Nat.le_of_ble_eq_true rfl) H1.m199 H1.o199 (ev_fz L xs H1) (fun s2 q2 => ?_)
        obtain ⟨H2, r2⟩ := q2
        refine pm_Fv.zeq rfl (by omega) rfl (fun h4 => ?_) (fun h4 => ?_)
        · refine pm_Fv.go 2 (f' := (131, 47, [(0, _), (1, _), (2, _), (3, _)], [_, _])) rfl ?_
          refine pm_Fv.bp rfl rfl ?_
          refine pm_Fv.cv rfl rfl rfl rfl (by decide) (Nat.le_of_ble_eq_true rfl) (Nat.le_of_ble_eq_true rfl) H2.m199 H2.o199 (ev_g L xs H2 h.l0 (by omega)) ?_
          refine pm_Fv.go 3 (f' := (131, 56, [(4, _), (0, _), (1, _), (2, _), (3, _)], [_, _])) rfl ?_
          refine pm_Fv.ishl rfl ?_
          refine pm_Fv.go 3 (f' := (131, 61, [(5, _), (4, _), (0, _), (1, _), (2, _), (3, _)], [_, _])) rfl ?_
          refine pm_Fv.bp rfl rfl ?_
          refine pm_Fv.go 1 (f' := (131, 64, [(5, _), (4, _), (0, _), (1, _), (2, _), (3, _)], [_, _, _, _])) rfl ?_
          refine pm_Fv.zeq rfl (by omega) rfl (fun h5 => ?_) (fun h5 => ?_)
          · exact absurd h5 (by omega)
          · refine pm_Fv.go 2 (f' := (131, 71, [(5, _), (4, _), (0, _), (1, _), (2, _), (3, _)], [_, _, _, _, _])) rfl ?_
            refine pm_Fv.ior rfl ?_
            refine pm_Fv.go 1 (f' := (131, 82, [(5, _), (4, _), (0, _), (1, _), (2, _), (3, _)], [_, _, _, _])) rfl ?_
            refine pm_Fv.cvF rfl rfl rfl rfl (by decide) (Nat.le_of_ble_eq_true rfl) (Nat.le_of_ble_eq_true rfl) H2.m199 H2.o199 (ev_mset L xs H2 h (by omega)) (fun s3 q3 => ?_)
            obtain ⟨H3, r3⟩ := q3
            exact pm_Fv.ret rfl rfl rfl rfl ⟨rfl, H3, (r3.trans (r2.trans r1))⟩
        · exact absurd h4 (by omega)
      · exact absurd h3 (by omega)
  · exact absurd h1 (by omega)
theorem ev_mtag0 (H : Hp σ ad z ar lr) (h : mo_H z ar) {n : Int} {I D : Int → Int} (M : mo_R (mo_g ar) (z 23) n I D) {b : Int} (b0 : 0 ≤ b) (b1 : b < n) {q : Int} (hq : -2147483648 ≤ q ∧ q ≤ 2147483647) (c : 0 ≤ q ∧ q ≤ 23) : pm_Fv (tq_P L xs) (pm_enter 131 [.ref 199, .int (zI (I b)), .int (zI q), .int (zI 0)]) σ (fun o s => o = .inl none ∧ (∃ z' ar', mo_ed (hq_u z 29 0) ar (mo_pt (mo_g ar) (I b) (6) (zand (mo_g ar (I b) 6) (zxor (zshl 1 q) (-1)))) z' ar' ∧ Hp s ad z' ar' lr) ∧ s.2 = σ.2) := by
  show pm_Fv (tq_P L xs) (131, 0, [(0, .ref 199), (1, .int (zI (I b))), (2, .int (zI q)), (3, .int (zI 0))], []) σ _
  have H0 : Hp σ ad (hq_u z 29 (z 29)) ar lr := by rw [hq_u_self]; exact H
  have hm : 0 ≤ z 23 ∧ z 23 ≤ 400 := ⟨M.m0, M.m4⟩
  have i0 := M.J.1 b b0 b1
  have i1 := M.lt b b0 b1
  refine pm_Fv.go 3 (f' := (131, 3, [(0, _), (1, _), (2, _), (3, _)], [_, _, _])) rfl ?_
  refine pm_Fv.cv rfl rfl rfl rfl (by decide) (Nat.le_of_ble_eq_true rfl) (Nat.le_of_ble_eq_true rfl) H0.m199 H0.o199 (ev_isT L xs H0 h.l0 M b0 b1) ?_
  refine pm_Fv.zne rfl (by omega) rfl (fun h1 => ?_) (fun h1 => ?_)
  · refine pm_Fv.go 2 (f' := (131, 15, [(0, _), (1, _), (2, _), (3, _)], [_, _, _])) rfl ?_
    refine pm_Fv.cvF rfl rfl rfl rfl (by decide) (Nat.le_of_ble_eq_true rfl) (Nat.le_of_ble_eq_true rfl) H0.m199 H0.o199 (ev_fz L xs H0) (fun s1 q1 => ?_)
    obtain ⟨H1, r1⟩ := q1
    refine pm_Fv.zne rfl (by omega) rfl (fun h2 => ?_) (fun h2 => ?_)
    · exact absurd h2 (by omega)
    · refine pm_Fv.go 3 (f' := (131, 24, [(0, _), (1, _), (2, _), (3, _)], [_, _, _])) rfl ?_
      refine pm_Fv.bp rfl rfl ?_
      refine pm_Fv.call rfl rfl rfl rfl rfl (ev_w1 L xs (by omega) c) ?_
      refine pm_Fv.zne rfl (by omega) rfl (fun h3 => ?_) (fun h3 => ?_)
      · refine pm_Fv.go 2 (f' := (131, 38, [(0, _), (1, _), (2, _), (3, _)], [_, _, _])) rfl ?_
        refine pm_Fv.cvF rfl rfl rfl rfl (by decide) (Nat.le_of_ble_eq_true rfl) (Nat.le_of_ble_eq_true rfl) H1.m199 H1.o199 (ev_fz L xs H1) (fun s2 q2 => ?_)
        obtain ⟨H2, r2⟩ := q2
        refine pm_Fv.zeq rfl (by omega) rfl (fun h4 => ?_) (fun h4 => ?_)
        · refine pm_Fv.go 2 (f' := (131, 47, [(0, _), (1, _), (2, _), (3, _)], [_, _])) rfl ?_
          refine pm_Fv.bp rfl rfl ?_
          refine pm_Fv.cv rfl rfl rfl rfl (by decide) (Nat.le_of_ble_eq_true rfl) (Nat.le_of_ble_eq_true rfl) H2.m199 H2.o199 (ev_g L xs H2 h.l0 (by omega)) ?_
          refine pm_Fv.go 3 (f' := (131, 56, [(4, _), (0, _), (1, _), (2, _), (3, _)], [_, _])) rfl ?_
          refine pm_Fv.ishl rfl ?_
          refine pm_Fv.go 3 (f' := (131, 61, [(5, _), (4, _), (0, _), (1, _), (2, _), (3, _)], [_, _])) rfl ?_
          refine pm_Fv.bp rfl rfl ?_
          refine pm_Fv.go 1 (f' := (131, 64, [(5, _), (4, _), (0, _), (1, _), (2, _), (3, _)], [_, _, _, _])) rfl ?_
          refine pm_Fv.zeq rfl (by omega) rfl (fun h5 => ?_) (fun h5 => ?_)
          · refine pm_Fv.go 3 (f' := (131, 80, [(5, _), (4, _), (0, _), (1, _), (2, _), (3, _)], [_, _, _, _, _, _])) rfl ?_
            refine pm_Fv.ixor rfl ?_
            refine pm_Fv.iandx rfl ?_
            refine pm_Fv.cvF rfl rfl rfl rfl (by decide) (Nat.le_of_ble_eq_true rfl) (Nat.le_of_ble_eq_true rfl) H2.m199 H2.o199 (ev_mset L xs H2 h (by omega)) (fun s3 q3 => ?_)
            obtain ⟨H3, r3⟩ := q3
            exact pm_Fv.ret rfl rfl rfl rfl ⟨rfl, H3, (r3.trans (r2.trans r1))⟩
          · exact absurd h5 (by omega)
        · exact absurd h4 (by omega)
      · exact absurd h3 (by omega)
  · exact absurd h1 (by omega)
theorem ev_mmove1a (H : Hp σ ad z ar lr) (h : mo_H z ar) {n : Int} {I D : Int → Int} (M : mo_R (mo_g ar) (z 23) n I D) {p q k : Int} (hp : -2147483648 ≤ p ∧ p ≤ 2147483647) (n2 : ∀ x, 0 ≤ x → x < n → I x ≠ p) : pm_Fv (tq_P L xs) (pm_enter 124 [.ref 199, .int (zI p), .int (zI q), .int (zI k)]) σ (fun o s => o = .inl none ∧ Hp s ad (hq_u z 29 1) ar lr ∧ s.2 = σ.2) := by
  show pm_Fv (tq_P L xs) (124, 0, [(0, .ref 199), (1, .int (zI p)), (2, .int (zI q)), (3, .int (zI k))], []) σ _
  have H0 : Hp σ ad (hq_u z 29 (z 29)) ar lr := by rw [hq_u_self]; exact H
  have hm : 0 ≤ z 23 ∧ z 23 ≤ 400 := ⟨M.m0, M.m4⟩
  refine pm_Fv.go 3 (f' := (124, 3, [(0, _), (1, _), (2, _), (3, _)], [_, _, _])) rfl ?_
  refine pm_Fv.cv rfl rfl rfl rfl (by decide) (Nat.le_of_ble_eq_true rfl) (Nat.le_of_ble_eq_true rfl) H0.m199 H0.o199 (ev_noT L xs H0 h.l0 M hp n2) ?_
  refine pm_Fv.zeq rfl (by omega) rfl (fun h1 => ?_) (fun h1 => ?_)
  · refine pm_Fv.go 3 (f' := (124, 23, [(0, _), (1, _), (2, _), (3, _)], [_, _, _])) rfl ?_
    refine pm_Fv.cvF rfl rfl rfl rfl (by decide) (Nat.le_of_ble_eq_true rfl) (Nat.le_of_ble_eq_true rfl) H0.m199 H0.o199 (ev_fo L xs H0) (fun s1 q1 => ?_)
    obtain ⟨H1, r1⟩ := q1
    refine pm_Fv.zne rfl (by omega) rfl (fun h2 => ?_) (fun h2 => ?_)
    · exact pm_Fv.ret rfl rfl rfl rfl ⟨rfl, H1, r1⟩
    · exact absurd h2 (by omega)
  · exact absurd h1 (by omega)
theorem ev_mmove1b (H : Hp σ ad z ar lr) (h : mo_H z ar) {n : Int} {I D : Int → Int} (M : mo_R (mo_g ar) (z 23) n I D) {b : Int} (b0 : 0 ≤ b) (b1 : b < n) {q k : Int} (hp : -2147483648 ≤ q ∧ q ≤ 2147483647) (n1 : q ≠ -1) (n2 : ∀ x, 0 ≤ x → x < n → I x ≠ q) : pm_Fv (tq_P L xs) (pm_enter 124 [.ref 199, .int (zI (I b)), .int (zI q), .int (zI k)]) σ (fun o s => o = .inl none ∧ Hp s ad (hq_u z 29 1) ar lr ∧ s.2 = σ.2) := by
  show pm_Fv (tq_P L xs) (124, 0, [(0, .ref 199), (1, .int (zI (I b))), (2, .int (zI q)), (3, .int (zI k))], []) σ _
  have H0 : Hp σ ad (hq_u z 29 (z 29)) ar lr := by rw [hq_u_self]; exact H
  have hm : 0 ≤ z 23 ∧ z 23 ≤ 400 := ⟨M.m0, M.m4⟩
  refine pm_Fv.go 3 (f' := (124, 3, [(0, _), (1, _), (2, _), (3, _)], [_, _, _])) rfl ?_
  refine pm_Fv.cv rfl rfl rfl rfl (by decide) (Nat.le_of_ble_eq_true rfl) (Nat.le_of_ble_eq_true rfl) H0.m199 H0.o199 (ev_isT L xs H0 h.l0 M b0 b1) ?_
  refine pm_Fv.zeq rfl (by omega) rfl (fun h1 => ?_) (fun h1 => ?_)
  · exact absurd h1 (by omega)
  · refine pm_Fv.go 2 (f' := (124, 11, [(0, _), (1, _), (2, _), (3, _)], [_, _, _])) rfl ?_
    refine pm_Fv.cv rfl rfl rfl rfl (by decide) (Nat.le_of_ble_eq_true rfl) (Nat.le_of_ble_eq_true rfl) H0.m199 H0.o199 (ev_noP L xs H0 h.l0 M hp n1 n2) ?_
    refine pm_Fv.zne rfl (by omega) rfl (fun h2 => ?_) (fun h2 => ?_)
    · exact absurd h2 (by omega)
    · refine pm_Fv.go 3 (f' := (124, 23, [(0, _), (1, _), (2, _), (3, _)], [_, _, _])) rfl ?_
      refine pm_Fv.cvF rfl rfl rfl rfl (by decide) (Nat.le_of_ble_eq_true rfl) (Nat.le_of_ble_eq_true rfl) H0.m199 H0.o199 (ev_fo L xs H0) (fun s1 q1 => ?_)
      obtain ⟨H1, r1⟩ := q1
      refine pm_Fv.zne rfl (by omega) rfl (fun h3 => ?_) (fun h3 => ?_)
      · exact pm_Fv.ret rfl rfl rfl rfl ⟨rfl, H1, r1⟩
      · exact absurd h3 (by omega)
theorem ev_mmove2 (H : Hp σ ad z ar lr) (h : mo_H z ar) {n : Int} {I D : Int → Int} (M : mo_R (mo_g ar) (z 23) n I D) {b : Int} (b0 : 0 ≤ b) (b1 : b < n) {r : Int} (u0 : -1 ≤ r) (u1 : r < n ∨ r = -1) {k : Int} (c : b ≤ r ∧ r < fo_end D n b) : pm_Fv (tq_P L xs) (pm_enter 124 [.ref 199, .int (zI (I b)), .int (zI (fo_id I r)), .int (zI k)]) σ (fun o s => o = .inl none ∧ Hp s ad (hq_u z 29 2) ar lr ∧ s.2 = σ.2) := by
  show pm_Fv (tq_P L xs) (124, 0, [(0, .ref 199), (1, .int (zI (I b))), (2, .int (zI (fo_id I r))), (3, .int (zI k))], []) σ _
  have H0 : Hp σ ad (hq_u z 29 (z 29)) ar lr := by rw [hq_u_self]; exact H
  have hm : 0 ≤ z 23 ∧ z 23 ≤ 400 := ⟨M.m0, M.m4⟩
  have i0 := M.J.1 b b0 b1
  have i1 := M.lt b b0 b1
  have idr := M.idr u0 u1
  refine pm_Fv.go 3 (f' := (124, 3, [(0, _), (1, _), (2, _), (3, _)], [_, _, _])) rfl ?_
  refine pm_Fv.cv rfl rfl rfl rfl (by decide) (Nat.le_of_ble_eq_true rfl) (Nat.le_of_ble_eq_true rfl) H0.m199 H0.o199 (ev_isT L xs H0 h.l0 M b0 b1) ?_
  refine pm_Fv.zeq rfl (by omega) rfl (fun h1 => ?_) (fun h1 => ?_)
  · exact absurd h1 (by omega)
  · refine pm_Fv.go 2 (f' := (124, 11, [(0, _), (1, _), (2, _), (3, _)], [_, _, _])) rfl ?_
    refine pm_Fv.cv rfl rfl rfl rfl (by decide) (Nat.le_of_ble_eq_true rfl) (Nat.le_of_ble_eq_true rfl) H0.m199 H0.o199 (ev_isP L xs H0 h.l0 M u0 u1) ?_
    refine pm_Fv.zne rfl (by omega) rfl (fun h2 => ?_) (fun h2 => ?_)
    · refine pm_Fv.go 2 (f' := (124, 23, [(0, _), (1, _), (2, _), (3, _)], [_, _, _])) rfl ?_
      refine pm_Fv.cvF rfl rfl rfl rfl (by decide) (Nat.le_of_ble_eq_true rfl) (Nat.le_of_ble_eq_true rfl) H0.m199 H0.o199 (ev_fz L xs H0) (fun s1 q1 => ?_)
      obtain ⟨H1, r1⟩ := q1
      refine pm_Fv.zne rfl (by omega) rfl (fun h3 => ?_) (fun h3 => ?_)
      · exact absurd h3 (by omega)
      · refine pm_Fv.go 3 (f' := (124, 32, [(0, _), (1, _), (2, _), (3, _)], [_, _, _])) rfl ?_
        refine pm_Fv.jeq rfl (by omega) rfl (fun h4 => ?_) (fun h4 => ?_)
        · exact absurd h4 (by omega)
        · refine pm_Fv.go 3 (f' := (124, 38, [(0, _), (1, _), (2, _), (3, _)], [_, _, _, _])) rfl ?_
          refine pm_Fv.cv rfl rfl rfl rfl (by decide) (Nat.le_of_ble_eq_true rfl) (Nat.le_of_ble_eq_true rfl) H1.m199 H1.o199 ((by have y := ev_isIn L xs H1 h.l0 M b0 b1 (x := r) u0 u1; rw [fo_id_at (I := I) b0, if_pos c] at y; exact y)) ?_
          refine pm_Fv.zeq rfl (by omega) rfl (fun h5 => ?_) (fun h5 => ?_)
          · exact absurd h5 (by omega)
          · refine pm_Fv.go 3 (f' := (124, 50, [(0, _), (1, _), (2, _), (3, _)], [_, _, _])) rfl ?_
            refine pm_Fv.cvF rfl rfl rfl rfl (by decide) (Nat.le_of_ble_eq_true rfl) (Nat.le_of_ble_eq_true rfl) H1.m199 H1.o199 (ev_fo L xs H1) (fun s2 q2 => ?_)
            obtain ⟨H2, r2⟩ := q2
            refine pm_Fv.zeq rfl (by omega) rfl (fun h6 => ?_) (fun h6 => ?_)
            · exact absurd h6 (by omega)
            · exact pm_Fv.ret rfl rfl rfl rfl ⟨rfl, H2, (r2.trans r1)⟩
    · exact absurd h2 (by omega)
theorem ev_mmove3 (H : Hp σ ad z ar lr) (h : mo_H z ar) {n : Int} {I D : Int → Int} (M : mo_R (mo_g ar) (z 23) n I D) {b : Int} (b0 : 0 ≤ b) (b1 : b < n) {r : Int} (u0 : -1 ≤ r) (u1 : r < n ∨ r = -1) {k : Int} (hk : -2147483648 ≤ k ∧ k ≤ 2147483647) (c : ¬ (b ≤ r ∧ r < fo_end D n b)) (d : ¬ (0 ≤ k ∧ k ≤ (fo_cc D n r - (if fo_par D b = r then 1 else 0)))) : pm_Fv (tq_P L xs) (pm_enter 124 [.ref 199, .int (zI (I b)), .int (zI (fo_id I r)), .int (zI k)]) σ (fun o s => o = .inl none ∧ Hp s ad (hq_u z 29 3) ar lr ∧ s.2 = σ.2) := by
  show pm_Fv (tq_P L xs) (124, 0, [(0, .ref 199), (1, .int (zI (I b))), (2, .int (zI (fo_id I r))), (3, .int (zI k))], []) σ _
  have H0 : Hp σ ad (hq_u z 29 (z 29)) ar lr := by rw [hq_u_self]; exact H
  have hm : 0 ≤ z 23 ∧ z 23 ≤ 400 := ⟨M.m0, M.m4⟩
  have i0 := M.J.1 b b0 b1
  have i1 := M.lt b b0 b1
  have idr := M.idr u0 u1
  have cc := fo_cc_r M.W u0 u1
  have nm := M.nm
  have P := fo_par_P M.W b0 b1
  have p1 := P.2.1
  have p0 := P.1
  have gp := (M.R b b0 b1).1
  have pr := M.idr p0 (by omega)
  have pe := M.pe b0 b1 u0 u1
  rw [gp] at pe
  have p2 := M.pl (ar := ar) (z := z) b0 b1

  by_cases x1 : r = -1
  · skip
    by_cases x2 : fo_par D b = r
    · skip
      rw [if_pos x2] at d
      have x3 : fo_id I (fo_par D b) = fo_id I r := pe.mpr x2
      refine pm_Fv.go 3 (f' := (124, 3, [(0, _), (1, _), (2, _), (3, _)], [_, _, _])) rfl ?_
      refine pm_Fv.cv rfl rfl rfl rfl (by decide) (Nat.le_of_ble_eq_true rfl) (Nat.le_of_ble_eq_true rfl) H0.m199 H0.o199 (ev_isT L xs H0 h.l0 M b0 b1) ?_
      refine pm_Fv.zeq rfl (by omega) rfl (fun h1 => ?_) (fun h1 => ?_)
      · exact absurd h1 (by omega)
      · refine pm_Fv.go 2 (f' := (124, 11, [(0, _), (1, _), (2, _), (3, _)], [_, _, _])) rfl ?_
        refine pm_Fv.cv rfl rfl rfl rfl (by decide) (Nat.le_of_ble_eq_true rfl) (Nat.le_of_ble_eq_true rfl) H0.m199 H0.o199 (ev_isP L xs H0 h.l0 M u0 u1) ?_
        refine pm_Fv.zne rfl (by omega) rfl (fun h2 => ?_) (fun h2 => ?_)
        · refine pm_Fv.go 2 (f' := (124, 23, [(0, _), (1, _), (2, _), (3, _)], [_, _, _])) rfl ?_
          refine pm_Fv.cvF rfl rfl rfl rfl (by decide) (Nat.le_of_ble_eq_true rfl) (Nat.le_of_ble_eq_true rfl) H0.m199 H0.o199 (ev_fz L xs H0) (fun s1 q1 => ?_)
          obtain ⟨H1, r1⟩ := q1
          refine pm_Fv.zne rfl (by omega) rfl (fun h3 => ?_) (fun h3 => ?_)
          · exact absurd h3 (by omega)
          · refine pm_Fv.go 3 (f' := (124, 32, [(0, _), (1, _), (2, _), (3, _)], [_, _, _])) rfl ?_
            refine pm_Fv.jeq rfl (by omega) rfl (fun h4 => ?_) (fun h4 => ?_)
            · refine pm_Fv.go 2 (f' := (124, 50, [(0, _), (1, _), (2, _), (3, _)], [_, _, _])) rfl ?_
              refine pm_Fv.cvF rfl rfl rfl rfl (by decide) (Nat.le_of_ble_eq_true rfl) (Nat.le_of_ble_eq_true rfl) H1.m199 H1.o199 (ev_fz L xs H1) (fun s2 q2 => ?_)
              obtain ⟨H2, r2⟩ := q2
              refine pm_Fv.zeq rfl (by omega) rfl (fun h5 => ?_) (fun h5 => ?_)
              · refine pm_Fv.go 2 (f' := (124, 59, [(0, _), (1, _), (2, _), (3, _)], [_, _])) rfl ?_
                refine pm_Fv.cv rfl rfl rfl rfl (by decide) (Nat.le_of_ble_eq_true rfl) (Nat.le_of_ble_eq_true rfl) H2.m199 H2.o199 (ev_kids L xs H2 h.l0 M u0 u1) ?_
                refine pm_Fv.go 3 (f' := (124, 65, [(0, _), (1, _), (2, _), (3, _)], [_, _, _, _])) rfl ?_
                refine pm_Fv.cv rfl rfl rfl rfl (by decide) (Nat.le_of_ble_eq_true rfl) (Nat.le_of_ble_eq_true rfl) H2.m199 H2.o199 (ev_g L xs H2 h.l0 (by omega)) ?_
                rw [gp]
                refine pm_Fv.go 1 (f' := (124, 69, [(0, _), (1, _), (2, _), (3, _)], [_, _, _])) rfl ?_
                refine pm_Fv.jne rfl (by omega) rfl (fun h6 => ?_) (fun h6 => ?_)
                · exact absurd h6 (by omega)
                · refine pm_Fv.go 2 (f' := (124, 77, [(0, _), (1, _), (2, _), (3, _)], [_, _])) rfl ?_
                  refine pm_Fv.isub rfl ?_
                  refine pm_Fv.go 5 (f' := (124, 85, [(4, _), (0, _), (1, _), (2, _), (3, _)], [_, _, _, _])) rfl ?_
                  refine pm_Fv.call rfl rfl rfl rfl rfl (ev_w0 L xs (by omega) d) ?_
                  refine pm_Fv.zne rfl (by omega) rfl (fun h7 => ?_) (fun h7 => ?_)
                  · exact absurd h7 (by omega)
                  · refine pm_Fv.go 3 (f' := (124, 97, [(4, _), (0, _), (1, _), (2, _), (3, _)], [_, _, _])) rfl ?_
                    refine pm_Fv.cvF rfl rfl rfl rfl (by decide) (Nat.le_of_ble_eq_true rfl) (Nat.le_of_ble_eq_true rfl) H2.m199 H2.o199 (ev_fo L xs H2) (fun s3 q3 => ?_)
                    obtain ⟨H3, r3⟩ := q3
                    refine pm_Fv.zne rfl (by omega) rfl (fun h8 => ?_) (fun h8 => ?_)
                    · exact pm_Fv.ret rfl rfl rfl rfl ⟨rfl, H3, (r3.trans (r2.trans r1))⟩
                    · exact absurd h8 (by omega)
              · exact absurd h5 (by omega)
            · exact absurd h4 (by omega)
        · exact absurd h2 (by omega)
    · skip
      rw [if_neg x2] at d
      have x3 : ¬ fo_id I (fo_par D b) = fo_id I r := fun y => x2 (pe.mp y)
      refine pm_Fv.go 3 (f' := (124, 3, [(0, _), (1, _), (2, _), (3, _)], [_, _, _])) rfl ?_
      refine pm_Fv.cv rfl rfl rfl rfl (by decide) (Nat.le_of_ble_eq_true rfl) (Nat.le_of_ble_eq_true rfl) H0.m199 H0.o199 (ev_isT L xs H0 h.l0 M b0 b1) ?_
      refine pm_Fv.zeq rfl (by omega) rfl (fun h1 => ?_) (fun h1 => ?_)
      · exact absurd h1 (by omega)
      · refine pm_Fv.go 2 (f' := (124, 11, [(0, _), (1, _), (2, _), (3, _)], [_, _, _])) rfl ?_
        refine pm_Fv.cv rfl rfl rfl rfl (by decide) (Nat.le_of_ble_eq_true rfl) (Nat.le_of_ble_eq_true rfl) H0.m199 H0.o199 (ev_isP L xs H0 h.l0 M u0 u1) ?_
        refine pm_Fv.zne rfl (by omega) rfl (fun h2 => ?_) (fun h2 => ?_)
        · refine pm_Fv.go 2 (f' := (124, 23, [(0, _), (1, _), (2, _), (3, _)], [_, _, _])) rfl ?_
          refine pm_Fv.cvF rfl rfl rfl rfl (by decide) (Nat.le_of_ble_eq_true rfl) (Nat.le_of_ble_eq_true rfl) H0.m199 H0.o199 (ev_fz L xs H0) (fun s1 q1 => ?_)
          obtain ⟨H1, r1⟩ := q1
          refine pm_Fv.zne rfl (by omega) rfl (fun h3 => ?_) (fun h3 => ?_)
          · exact absurd h3 (by omega)
          · refine pm_Fv.go 3 (f' := (124, 32, [(0, _), (1, _), (2, _), (3, _)], [_, _, _])) rfl ?_
            refine pm_Fv.jeq rfl (by omega) rfl (fun h4 => ?_) (fun h4 => ?_)
            · refine pm_Fv.go 2 (f' := (124, 50, [(0, _), (1, _), (2, _), (3, _)], [_, _, _])) rfl ?_
              refine pm_Fv.cvF rfl rfl rfl rfl (by decide) (Nat.le_of_ble_eq_true rfl) (Nat.le_of_ble_eq_true rfl) H1.m199 H1.o199 (ev_fz L xs H1) (fun s2 q2 => ?_)
              obtain ⟨H2, r2⟩ := q2
              refine pm_Fv.zeq rfl (by omega) rfl (fun h5 => ?_) (fun h5 => ?_)
              · refine pm_Fv.go 2 (f' := (124, 59, [(0, _), (1, _), (2, _), (3, _)], [_, _])) rfl ?_
                refine pm_Fv.cv rfl rfl rfl rfl (by decide) (Nat.le_of_ble_eq_true rfl) (Nat.le_of_ble_eq_true rfl) H2.m199 H2.o199 (ev_kids L xs H2 h.l0 M u0 u1) ?_
                refine pm_Fv.go 3 (f' := (124, 65, [(0, _), (1, _), (2, _), (3, _)], [_, _, _, _])) rfl ?_
                refine pm_Fv.cv rfl rfl rfl rfl (by decide) (Nat.le_of_ble_eq_true rfl) (Nat.le_of_ble_eq_true rfl) H2.m199 H2.o199 (ev_g L xs H2 h.l0 (by omega)) ?_
                rw [gp]
                refine pm_Fv.go 1 (f' := (124, 69, [(0, _), (1, _), (2, _), (3, _)], [_, _, _])) rfl ?_
                refine pm_Fv.jne rfl (by omega) rfl (fun h6 => ?_) (fun h6 => ?_)
                · refine pm_Fv.go 1 (f' := (124, 77, [(0, _), (1, _), (2, _), (3, _)], [_, _])) rfl ?_
                  refine pm_Fv.isub rfl ?_
                  refine pm_Fv.go 5 (f' := (124, 85, [(4, _), (0, _), (1, _), (2, _), (3, _)], [_, _, _, _])) rfl ?_
                  refine pm_Fv.call rfl rfl rfl rfl rfl (ev_w0 L xs (by omega) d) ?_
                  refine pm_Fv.zne rfl (by omega) rfl (fun h7 => ?_) (fun h7 => ?_)
                  · exact absurd h7 (by omega)
                  · refine pm_Fv.go 3 (f' := (124, 97, [(4, _), (0, _), (1, _), (2, _), (3, _)], [_, _, _])) rfl ?_
                    refine pm_Fv.cvF rfl rfl rfl rfl (by decide) (Nat.le_of_ble_eq_true rfl) (Nat.le_of_ble_eq_true rfl) H2.m199 H2.o199 (ev_fo L xs H2) (fun s3 q3 => ?_)
                    obtain ⟨H3, r3⟩ := q3
                    refine pm_Fv.zne rfl (by omega) rfl (fun h8 => ?_) (fun h8 => ?_)
                    · exact pm_Fv.ret rfl rfl rfl rfl ⟨rfl, H3, (r3.trans (r2.trans r1))⟩
                    · exact absurd h8 (by omega)
                · exact absurd h6 (by omega)
              · exact absurd h5 (by omega)
            · exact absurd h4 (by omega)
        · exact absurd h2 (by omega)
  · skip
    by_cases x2 : fo_par D b = r
    · skip
      rw [if_pos x2] at d
      have x3 : fo_id I (fo_par D b) = fo_id I r := pe.mpr x2
      refine pm_Fv.go 3 (f' := (124, 3, [(0, _), (1, _), (2, _), (3, _)], [_, _, _])) rfl ?_
      refine pm_Fv.cv rfl rfl rfl rfl (by decide) (Nat.le_of_ble_eq_true rfl) (Nat.le_of_ble_eq_true rfl) H0.m199 H0.o199 (ev_isT L xs H0 h.l0 M b0 b1) ?_
      refine pm_Fv.zeq rfl (by omega) rfl (fun h1 => ?_) (fun h1 => ?_)
      · exact absurd h1 (by omega)
      · refine pm_Fv.go 2 (f' := (124, 11, [(0, _), (1, _), (2, _), (3, _)], [_, _, _])) rfl ?_
        refine pm_Fv.cv rfl rfl rfl rfl (by decide) (Nat.le_of_ble_eq_true rfl) (Nat.le_of_ble_eq_true rfl) H0.m199 H0.o199 (ev_isP L xs H0 h.l0 M u0 u1) ?_
        refine pm_Fv.zne rfl (by omega) rfl (fun h2 => ?_) (fun h2 => ?_)
        · refine pm_Fv.go 2 (f' := (124, 23, [(0, _), (1, _), (2, _), (3, _)], [_, _, _])) rfl ?_
          refine pm_Fv.cvF rfl rfl rfl rfl (by decide) (Nat.le_of_ble_eq_true rfl) (Nat.le_of_ble_eq_true rfl) H0.m199 H0.o199 (ev_fz L xs H0) (fun s1 q1 => ?_)
          obtain ⟨H1, r1⟩ := q1
          refine pm_Fv.zne rfl (by omega) rfl (fun h3 => ?_) (fun h3 => ?_)
          · exact absurd h3 (by omega)
          · refine pm_Fv.go 3 (f' := (124, 32, [(0, _), (1, _), (2, _), (3, _)], [_, _, _])) rfl ?_
            refine pm_Fv.jeq rfl (by omega) rfl (fun h4 => ?_) (fun h4 => ?_)
            · exact absurd h4 (by omega)
            · refine pm_Fv.go 3 (f' := (124, 38, [(0, _), (1, _), (2, _), (3, _)], [_, _, _, _])) rfl ?_
              refine pm_Fv.cv rfl rfl rfl rfl (by decide) (Nat.le_of_ble_eq_true rfl) (Nat.le_of_ble_eq_true rfl) H1.m199 H1.o199 ((by have y := ev_isIn L xs H1 h.l0 M b0 b1 (x := r) u0 u1; rw [fo_id_at (I := I) b0, if_neg c] at y; exact y)) ?_
              refine pm_Fv.zeq rfl (by omega) rfl (fun h5 => ?_) (fun h5 => ?_)
              · refine pm_Fv.go 2 (f' := (124, 50, [(0, _), (1, _), (2, _), (3, _)], [_, _, _])) rfl ?_
                refine pm_Fv.cvF rfl rfl rfl rfl (by decide) (Nat.le_of_ble_eq_true rfl) (Nat.le_of_ble_eq_true rfl) H1.m199 H1.o199 (ev_fz L xs H1) (fun s2 q2 => ?_)
                obtain ⟨H2, r2⟩ := q2
                refine pm_Fv.zeq rfl (by omega) rfl (fun h6 => ?_) (fun h6 => ?_)
                · refine pm_Fv.go 2 (f' := (124, 59, [(0, _), (1, _), (2, _), (3, _)], [_, _])) rfl ?_
                  refine pm_Fv.cv rfl rfl rfl rfl (by decide) (Nat.le_of_ble_eq_true rfl) (Nat.le_of_ble_eq_true rfl) H2.m199 H2.o199 (ev_kids L xs H2 h.l0 M u0 u1) ?_
                  refine pm_Fv.go 3 (f' := (124, 65, [(0, _), (1, _), (2, _), (3, _)], [_, _, _, _])) rfl ?_
                  refine pm_Fv.cv rfl rfl rfl rfl (by decide) (Nat.le_of_ble_eq_true rfl) (Nat.le_of_ble_eq_true rfl) H2.m199 H2.o199 (ev_g L xs H2 h.l0 (by omega)) ?_
                  rw [gp]
                  refine pm_Fv.go 1 (f' := (124, 69, [(0, _), (1, _), (2, _), (3, _)], [_, _, _])) rfl ?_
                  refine pm_Fv.jne rfl (by omega) rfl (fun h7 => ?_) (fun h7 => ?_)
                  · exact absurd h7 (by omega)
                  · refine pm_Fv.go 2 (f' := (124, 77, [(0, _), (1, _), (2, _), (3, _)], [_, _])) rfl ?_
                    refine pm_Fv.isub rfl ?_
                    refine pm_Fv.go 5 (f' := (124, 85, [(4, _), (0, _), (1, _), (2, _), (3, _)], [_, _, _, _])) rfl ?_
                    refine pm_Fv.call rfl rfl rfl rfl rfl (ev_w0 L xs (by omega) d) ?_
                    refine pm_Fv.zne rfl (by omega) rfl (fun h8 => ?_) (fun h8 => ?_)
                    · exact absurd h8 (by omega)
                    · refine pm_Fv.go 3 (f' := (124, 97, [(4, _), (0, _), (1, _), (2, _), (3, _)], [_, _, _])) rfl ?_
                      refine pm_Fv.cvF rfl rfl rfl rfl (by decide) (Nat.le_of_ble_eq_true rfl) (Nat.le_of_ble_eq_true rfl) H2.m199 H2.o199 (ev_fo L xs H2) (fun s3 q3 => ?_)
                      obtain ⟨H3, r3⟩ := q3
                      refine pm_Fv.zne rfl (by omega) rfl (fun h9 => ?_) (fun h9 => ?_)
                      · exact pm_Fv.ret rfl rfl rfl rfl ⟨rfl, H3, (r3.trans (r2.trans r1))⟩
                      · exact absurd h9 (by omega)
                · exact absurd h6 (by omega)
              · exact absurd h5 (by omega)
        · exact absurd h2 (by omega)
    · skip
      rw [if_neg x2] at d
      have x3 : ¬ fo_id I (fo_par D b) = fo_id I r := fun y => x2 (pe.mp y)
      refine pm_Fv.go 3 (f' := (124, 3, [(0, _), (1, _), (2, _), (3, _)], [_, _, _])) rfl ?_
      refine pm_Fv.cv rfl rfl rfl rfl (by decide) (Nat.le_of_ble_eq_true rfl) (Nat.le_of_ble_eq_true rfl) H0.m199 H0.o199 (ev_isT L xs H0 h.l0 M b0 b1) ?_
      refine pm_Fv.zeq rfl (by omega) rfl (fun h1 => ?_) (fun h1 => ?_)
      · exact absurd h1 (by omega)
      · refine pm_Fv.go 2 (f' := (124, 11, [(0, _), (1, _), (2, _), (3, _)], [_, _, _])) rfl ?_
        refine pm_Fv.cv rfl rfl rfl rfl (by decide) (Nat.le_of_ble_eq_true rfl) (Nat.le_of_ble_eq_true rfl) H0.m199 H0.o199 (ev_isP L xs H0 h.l0 M u0 u1) ?_
        refine pm_Fv.zne rfl (by omega) rfl (fun h2 => ?_) (fun h2 => ?_)
        · refine pm_Fv.go 2 (f' := (124, 23, [(0, _), (1, _), (2, _), (3, _)], [_, _, _])) rfl ?_
          refine pm_Fv.cvF rfl rfl rfl rfl (by decide) (Nat.le_of_ble_eq_true rfl) (Nat.le_of_ble_eq_true rfl) H0.m199 H0.o199 (ev_fz L xs H0) (fun s1 q1 => ?_)
          obtain ⟨H1, r1⟩ := q1
          refine pm_Fv.zne rfl (by omega) rfl (fun h3 => ?_) (fun h3 => ?_)
          · exact absurd h3 (by omega)
          · refine pm_Fv.go 3 (f' := (124, 32, [(0, _), (1, _), (2, _), (3, _)], [_, _, _])) rfl ?_
            refine pm_Fv.jeq rfl (by omega) rfl (fun h4 => ?_) (fun h4 => ?_)
            · exact absurd h4 (by omega)
            · refine pm_Fv.go 3 (f' := (124, 38, [(0, _), (1, _), (2, _), (3, _)], [_, _, _, _])) rfl ?_
              refine pm_Fv.cv rfl rfl rfl rfl (by decide) (Nat.le_of_ble_eq_true rfl) (Nat.le_of_ble_eq_true rfl) H1.m199 H1.o199 ((by have y := ev_isIn L xs H1 h.l0 M b0 b1 (x := r) u0 u1; rw [fo_id_at (I := I) b0, if_neg c] at y; exact y)) ?_
              refine pm_Fv.zeq rfl (by omega) rfl (fun h5 => ?_) (fun h5 => ?_)
              · refine pm_Fv.go 2 (f' := (124, 50, [(0, _), (1, _), (2, _), (3, _)], [_, _, _])) rfl ?_
                refine pm_Fv.cvF rfl rfl rfl rfl (by decide) (Nat.le_of_ble_eq_true rfl) (Nat.le_of_ble_eq_true rfl) H1.m199 H1.o199 (ev_fz L xs H1) (fun s2 q2 => ?_)
                obtain ⟨H2, r2⟩ := q2
                refine pm_Fv.zeq rfl (by omega) rfl (fun h6 => ?_) (fun h6 => ?_)
                · refine pm_Fv.go 2 (f' := (124, 59, [(0, _), (1, _), (2, _), (3, _)], [_, _])) rfl ?_
                  refine pm_Fv.cv rfl rfl rfl rfl (by decide) (Nat.le_of_ble_eq_true rfl) (Nat.le_of_ble_eq_true rfl) H2.m199 H2.o199 (ev_kids L xs H2 h.l0 M u0 u1) ?_
                  refine pm_Fv.go 3 (f' := (124, 65, [(0, _), (1, _), (2, _), (3, _)], [_, _, _, _])) rfl ?_
                  refine pm_Fv.cv rfl rfl rfl rfl (by decide) (Nat.le_of_ble_eq_true rfl) (Nat.le_of_ble_eq_true rfl) H2.m199 H2.o199 (ev_g L xs H2 h.l0 (by omega)) ?_
                  rw [gp]
                  refine pm_Fv.go 1 (f' := (124, 69, [(0, _), (1, _), (2, _), (3, _)], [_, _, _])) rfl ?_
                  refine pm_Fv.jne rfl (by omega) rfl (fun h7 => ?_) (fun h7 => ?_)
                  · refine pm_Fv.go 1 (f' := (124, 77, [(0, _), (1, _), (2, _), (3, _)], [_, _])) rfl ?_
                    refine pm_Fv.isub rfl ?_
                    refine pm_Fv.go 5 (f' := (124, 85, [(4, _), (0, _), (1, _), (2, _), (3, _)], [_, _, _, _])) rfl ?_
                    refine pm_Fv.call rfl rfl rfl rfl rfl (ev_w0 L xs (by omega) d) ?_
                    refine pm_Fv.zne rfl (by omega) rfl (fun h8 => ?_) (fun h8 => ?_)
                    · exact absurd h8 (by omega)
                    · refine pm_Fv.go 3 (f' := (124, 97, [(4, _), (0, _), (1, _), (2, _), (3, _)], [_, _, _])) rfl ?_
                      refine pm_Fv.cvF rfl rfl rfl rfl (by decide) (Nat.le_of_ble_eq_true rfl) (Nat.le_of_ble_eq_true rfl) H2.m199 H2.o199 (ev_fo L xs H2) (fun s3 q3 => ?_)
                      obtain ⟨H3, r3⟩ := q3
                      refine pm_Fv.zne rfl (by omega) rfl (fun h9 => ?_) (fun h9 => ?_)
                      · exact pm_Fv.ret rfl rfl rfl rfl ⟨rfl, H3, (r3.trans (r2.trans r1))⟩
                      · exact absurd h9 (by omega)
                  · exact absurd h7 (by omega)
                · exact absurd h6 (by omega)
              · exact absurd h5 (by omega)
        · exact absurd h2 (by omega)
theorem ev_mmove4 (H : Hp σ ad z ar lr) (h : mo_H z ar) {n : Int} {I D : Int → Int} (M : mo_R (mo_g ar) (z 23) n I D) {b : Int} (b0 : 0 ≤ b) (b1 : b < n) {r : Int} (u0 : -1 ≤ r) (u1 : r < n ∨ r = -1) {k : Int} (hk : -2147483648 ≤ k ∧ k ≤ 2147483647) (c : ¬ (b ≤ r ∧ r < fo_end D n b)) {v : Int} (hv : fo_hi D b (fo_end D n b) v) (d : 0 ≤ k ∧ k ≤ (fo_cc D n r - (if fo_par D b = r then 1 else 0))) (e : 12 < D r + (v - D b + 1)) : pm_Fv (tq_P L xs) (pm_enter 124 [.ref 199, .int (zI (I b)), .int (zI (fo_id I r)), .int (zI k)]) σ (fun o s => o = .inl none ∧ Hp s ad (hq_u z 29 4) ar lr ∧ s.2 = σ.2) := by
  show pm_Fv (tq_P L xs) (124, 0, [(0, .ref 199), (1, .int (zI (I b))), (2, .int (zI (fo_id I r))), (3, .int (zI k))], []) σ _
  have H0 : Hp σ ad (hq_u z 29 (z 29)) ar lr := by rw [hq_u_self]; exact H
  have hm : 0 ≤ z 23 ∧ z 23 ≤ 400 := ⟨M.m0, M.m4⟩
  have i0 := M.J.1 b b0 b1
  have i1 := M.lt b b0 b1
  have idr := M.idr u0 u1
  have cc := fo_cc_r M.W u0 u1
  have nm := M.nm
  have P := fo_par_P M.W b0 b1
  have p1 := P.2.1
  have p0 := P.1
  have gp := (M.R b b0 b1).1
  have pr := M.idr p0 (by omega)
  have pe := M.pe b0 b1 u0 u1
  rw [gp] at pe
  have p2 := M.pl (ar := ar) (z := z) b0 b1

  have hb := hv.1 b (by omega) (fo_end_B (D := D) b1).1
  have vv : v ≤ 12 := by
    obtain ⟨x, x0, x1, x2⟩ := hv.2
    have := M.dp x (by omega) (by have := (fo_end_B (D := D) b1).2.1; omega)
    omega
  have w0 := (M.W.2.2 b b0 b1).1
  have dd : 0 ≤ D r ∧ D r ≤ 12 ∧ (r = -1 → D r = 0) := by
    by_cases q : r = -1
    · rw [q, M.W.1]
      omega
    · have := M.dp r (by omega) (by omega)
      have := fo_nonneg M.W u0 (by omega)
      omega
  by_cases x1 : r = -1
  · skip
    by_cases x2 : fo_par D b = r
    · skip
      rw [if_pos x2] at d
      have x3 : fo_id I (fo_par D b) = fo_id I r := pe.mpr x2
      refine pm_Fv.go 3 (f' := (124, 3, [(0, _), (1, _), (2, _), (3, _)], [_, _, _])) rfl ?_
      refine pm_Fv.cv rfl rfl rfl rfl (by decide) (Nat.le_of_ble_eq_true rfl) (Nat.le_of_ble_eq_true rfl) H0.m199 H0.o199 (ev_isT L xs H0 h.l0 M b0 b1) ?_
      refine pm_Fv.zeq rfl (by omega) rfl (fun h1 => ?_) (fun h1 => ?_)
      · exact absurd h1 (by omega)
      · refine pm_Fv.go 2 (f' := (124, 11, [(0, _), (1, _), (2, _), (3, _)], [_, _, _])) rfl ?_
        refine pm_Fv.cv rfl rfl rfl rfl (by decide) (Nat.le_of_ble_eq_true rfl) (Nat.le_of_ble_eq_true rfl) H0.m199 H0.o199 (ev_isP L xs H0 h.l0 M u0 u1) ?_
        refine pm_Fv.zne rfl (by omega) rfl (fun h2 => ?_) (fun h2 => ?_)
        · refine pm_Fv.go 2 (f' := (124, 23, [(0, _), (1, _), (2, _), (3, _)], [_, _, _])) rfl ?_
          refine pm_Fv.cvF rfl rfl rfl rfl (by decide) (Nat.le_of_ble_eq_true rfl) (Nat.le_of_ble_eq_true rfl) H0.m199 H0.o199 (ev_fz L xs H0) (fun s1 q1 => ?_)
          obtain ⟨H1, r1⟩ := q1
          refine pm_Fv.zne rfl (by omega) rfl (fun h3 => ?_) (fun h3 => ?_)
          · exact absurd h3 (by omega)
          · refine pm_Fv.go 3 (f' := (124, 32, [(0, _), (1, _), (2, _), (3, _)], [_, _, _])) rfl ?_
            refine pm_Fv.jeq rfl (by omega) rfl (fun h4 => ?_) (fun h4 => ?_)
            · refine pm_Fv.go 2 (f' := (124, 50, [(0, _), (1, _), (2, _), (3, _)], [_, _, _])) rfl ?_
              refine pm_Fv.cvF rfl rfl rfl rfl (by decide) (Nat.le_of_ble_eq_true rfl) (Nat.le_of_ble_eq_true rfl) H1.m199 H1.o199 (ev_fz L xs H1) (fun s2 q2 => ?_)
              obtain ⟨H2, r2⟩ := q2
              refine pm_Fv.zeq rfl (by omega) rfl (fun h5 => ?_) (fun h5 => ?_)
              · refine pm_Fv.go 2 (f' := (124, 59, [(0, _), (1, _), (2, _), (3, _)], [_, _])) rfl ?_
                refine pm_Fv.cv rfl rfl rfl rfl (by decide) (Nat.le_of_ble_eq_true rfl) (Nat.le_of_ble_eq_true rfl) H2.m199 H2.o199 (ev_kids L xs H2 h.l0 M u0 u1) ?_
                refine pm_Fv.go 3 (f' := (124, 65, [(0, _), (1, _), (2, _), (3, _)], [_, _, _, _])) rfl ?_
                refine pm_Fv.cv rfl rfl rfl rfl (by decide) (Nat.le_of_ble_eq_true rfl) (Nat.le_of_ble_eq_true rfl) H2.m199 H2.o199 (ev_g L xs H2 h.l0 (by omega)) ?_
                rw [gp]
                refine pm_Fv.go 1 (f' := (124, 69, [(0, _), (1, _), (2, _), (3, _)], [_, _, _])) rfl ?_
                refine pm_Fv.jne rfl (by omega) rfl (fun h6 => ?_) (fun h6 => ?_)
                · exact absurd h6 (by omega)
                · refine pm_Fv.go 2 (f' := (124, 77, [(0, _), (1, _), (2, _), (3, _)], [_, _])) rfl ?_
                  refine pm_Fv.isub rfl ?_
                  refine pm_Fv.go 5 (f' := (124, 85, [(4, _), (0, _), (1, _), (2, _), (3, _)], [_, _, _, _])) rfl ?_
                  refine pm_Fv.call rfl rfl rfl rfl rfl (ev_w1 L xs (by omega) d) ?_
                  refine pm_Fv.zne rfl (by omega) rfl (fun h7 => ?_) (fun h7 => ?_)
                  · refine pm_Fv.go 2 (f' := (124, 97, [(4, _), (0, _), (1, _), (2, _), (3, _)], [_, _, _])) rfl ?_
                    refine pm_Fv.cvF rfl rfl rfl rfl (by decide) (Nat.le_of_ble_eq_true rfl) (Nat.le_of_ble_eq_true rfl) H2.m199 H2.o199 (ev_fz L xs H2) (fun s3 q3 => ?_)
                    obtain ⟨H3, r3⟩ := q3
                    refine pm_Fv.zne rfl (by omega) rfl (fun h8 => ?_) (fun h8 => ?_)
                    · exact absurd h8 (by omega)
                    · refine pm_Fv.go 3 (f' := (124, 106, [(4, _), (0, _), (1, _), (2, _), (3, _)], [_, _, _])) rfl ?_
                      refine pm_Fv.jne rfl (by omega) rfl (fun h9 => ?_) (fun h9 => ?_)
                      · exact absurd h9 (by omega)
                      · refine pm_Fv.go 4 (f' := (124, 120, [(4, _), (0, _), (1, _), (2, _), (3, _)], [_, _, _, _])) rfl ?_
                        refine pm_Fv.cv rfl rfl rfl rfl (by decide) (Nat.le_of_ble_eq_true rfl) (Nat.le_of_ble_eq_true rfl) H3.m199 H3.o199 ((by have q := ev_height L xs H3 h.l0 M b0 b1 hv; rw [fo_id_at b0] at q; exact q)) ?_
                        refine pm_Fv.iadd rfl ?_
                        refine pm_Fv.bp rfl rfl ?_
                        refine pm_Fv.jle rfl (by omega) rfl (fun h10 => ?_) (fun h10 => ?_)
                        · exact absurd h10 (by omega)
                        · refine pm_Fv.go 3 (f' := (124, 135, [(4, _), (0, _), (1, _), (2, _), (3, _)], [_, _, _])) rfl ?_
                          refine pm_Fv.cvF rfl rfl rfl rfl (by decide) (Nat.le_of_ble_eq_true rfl) (Nat.le_of_ble_eq_true rfl) H3.m199 H3.o199 (ev_fo L xs H3) (fun s4 q4 => ?_)
                          obtain ⟨H4, r4⟩ := q4
                          refine pm_Fv.zeq rfl (by omega) rfl (fun h11 => ?_) (fun h11 => ?_)
                          · exact absurd h11 (by omega)
                          · exact pm_Fv.ret rfl rfl rfl rfl ⟨rfl, H4, (r4.trans (r3.trans (r2.trans r1)))⟩
                  · exact absurd h7 (by omega)
              · exact absurd h5 (by omega)
            · exact absurd h4 (by omega)
        · exact absurd h2 (by omega)
    · skip
      rw [if_neg x2] at d
      have x3 : ¬ fo_id I (fo_par D b) = fo_id I r := fun y => x2 (pe.mp y)
      refine pm_Fv.go 3 (f' := (124, 3, [(0, _), (1, _), (2, _), (3, _)], [_, _, _])) rfl ?_
      refine pm_Fv.cv rfl rfl rfl rfl (by decide) (Nat.le_of_ble_eq_true rfl) (Nat.le_of_ble_eq_true rfl) H0.m199 H0.o199 (ev_isT L xs H0 h.l0 M b0 b1) ?_
      refine pm_Fv.zeq rfl (by omega) rfl (fun h1 => ?_) (fun h1 => ?_)
      · exact absurd h1 (by omega)
      · refine pm_Fv.go 2 (f' := (124, 11, [(0, _), (1, _), (2, _), (3, _)], [_, _, _])) rfl ?_
        refine pm_Fv.cv rfl rfl rfl rfl (by decide) (Nat.le_of_ble_eq_true rfl) (Nat.le_of_ble_eq_true rfl) H0.m199 H0.o199 (ev_isP L xs H0 h.l0 M u0 u1) ?_
        refine pm_Fv.zne rfl (by omega) rfl (fun h2 => ?_) (fun h2 => ?_)
        · refine pm_Fv.go 2 (f' := (124, 23, [(0, _), (1, _), (2, _), (3, _)], [_, _, _])) rfl ?_
          refine pm_Fv.cvF rfl rfl rfl rfl (by decide) (Nat.le_of_ble_eq_true rfl) (Nat.le_of_ble_eq_true rfl) H0.m199 H0.o199 (ev_fz L xs H0) (fun s1 q1 => ?_)
          obtain ⟨H1, r1⟩ := q1
          refine pm_Fv.zne rfl (by omega) rfl (fun h3 => ?_) (fun h3 => ?_)
          · exact absurd h3 (by omega)
          · refine pm_Fv.go 3 (f' := (124, 32, [(0, _), (1, _), (2, _), (3, _)], [_, _, _])) rfl ?_
            refine pm_Fv.jeq rfl (by omega) rfl (fun h4 => ?_) (fun h4 => ?_)
            · refine pm_Fv.go 2 (f' := (124, 50, [(0, _), (1, _), (2, _), (3, _)], [_, _, _])) rfl ?_
              refine pm_Fv.cvF rfl rfl rfl rfl (by decide) (Nat.le_of_ble_eq_true rfl) (Nat.le_of_ble_eq_true rfl) H1.m199 H1.o199 (ev_fz L xs H1) (fun s2 q2 => ?_)
              obtain ⟨H2, r2⟩ := q2
              refine pm_Fv.zeq rfl (by omega) rfl (fun h5 => ?_) (fun h5 => ?_)
              · refine pm_Fv.go 2 (f' := (124, 59, [(0, _), (1, _), (2, _), (3, _)], [_, _])) rfl ?_
                refine pm_Fv.cv rfl rfl rfl rfl (by decide) (Nat.le_of_ble_eq_true rfl) (Nat.le_of_ble_eq_true rfl) H2.m199 H2.o199 (ev_kids L xs H2 h.l0 M u0 u1) ?_
                refine pm_Fv.go 3 (f' := (124, 65, [(0, _), (1, _), (2, _), (3, _)], [_, _, _, _])) rfl ?_
                refine pm_Fv.cv rfl rfl rfl rfl (by decide) (Nat.le_of_ble_eq_true rfl) (Nat.le_of_ble_eq_true rfl) H2.m199 H2.o199 (ev_g L xs H2 h.l0 (by omega)) ?_
                rw [gp]
                refine pm_Fv.go 1 (f' := (124, 69, [(0, _), (1, _), (2, _), (3, _)], [_, _, _])) rfl ?_
                refine pm_Fv.jne rfl (by omega) rfl (fun h6 => ?_) (fun h6 => ?_)
                · refine pm_Fv.go 1 (f' := (124, 77, [(0, _), (1, _), (2, _), (3, _)], [_, _])) rfl ?_
                  refine pm_Fv.isub rfl ?_
                  refine pm_Fv.go 5 (f' := (124, 85, [(4, _), (0, _), (1, _), (2, _), (3, _)], [_, _, _, _])) rfl ?_
                  refine pm_Fv.call rfl rfl rfl rfl rfl (ev_w1 L xs (by omega) d) ?_
                  refine pm_Fv.zne rfl (by omega) rfl (fun h7 => ?_) (fun h7 => ?_)
                  · refine pm_Fv.go 2 (f' := (124, 97, [(4, _), (0, _), (1, _), (2, _), (3, _)], [_, _, _])) rfl ?_
                    refine pm_Fv.cvF rfl rfl rfl rfl (by decide) (Nat.le_of_ble_eq_true rfl) (Nat.le_of_ble_eq_true rfl) H2.m199 H2.o199 (ev_fz L xs H2) (fun s3 q3 => ?_)
                    obtain ⟨H3, r3⟩ := q3
                    refine pm_Fv.zne rfl (by omega) rfl (fun h8 => ?_) (fun h8 => ?_)
                    · exact absurd h8 (by omega)
                    · refine pm_Fv.go 3 (f' := (124, 106, [(4, _), (0, _), (1, _), (2, _), (3, _)], [_, _, _])) rfl ?_
                      refine pm_Fv.jne rfl (by omega) rfl (fun h9 => ?_) (fun h9 => ?_)
                      · exact absurd h9 (by omega)
                      · refine pm_Fv.go 4 (f' := (124, 120, [(4, _), (0, _), (1, _), (2, _), (3, _)], [_, _, _, _])) rfl ?_
                        refine pm_Fv.cv rfl rfl rfl rfl (by decide) (Nat.le_of_ble_eq_true rfl) (Nat.le_of_ble_eq_true rfl) H3.m199 H3.o199 ((by have q := ev_height L xs H3 h.l0 M b0 b1 hv; rw [fo_id_at b0] at q; exact q)) ?_
                        refine pm_Fv.iadd rfl ?_
                        refine pm_Fv.bp rfl rfl ?_
                        refine pm_Fv.jle rfl (by omega) rfl (fun h10 => ?_) (fun h10 => ?_)
                        · exact absurd h10 (by omega)
                        · refine pm_Fv.go 3 (f' := (124, 135, [(4, _), (0, _), (1, _), (2, _), (3, _)], [_, _, _])) rfl ?_
                          refine pm_Fv.cvF rfl rfl rfl rfl (by decide) (Nat.le_of_ble_eq_true rfl) (Nat.le_of_ble_eq_true rfl) H3.m199 H3.o199 (ev_fo L xs H3) (fun s4 q4 => ?_)
                          obtain ⟨H4, r4⟩ := q4
                          refine pm_Fv.zeq rfl (by omega) rfl (fun h11 => ?_) (fun h11 => ?_)
                          · exact absurd h11 (by omega)
                          · exact pm_Fv.ret rfl rfl rfl rfl ⟨rfl, H4, (r4.trans (r3.trans (r2.trans r1)))⟩
                  · exact absurd h7 (by omega)
                · exact absurd h6 (by omega)
              · exact absurd h5 (by omega)
            · exact absurd h4 (by omega)
        · exact absurd h2 (by omega)
  · skip
    by_cases x2 : fo_par D b = r
    · skip
      rw [if_pos x2] at d
      have x3 : fo_id I (fo_par D b) = fo_id I r := pe.mpr x2
      refine pm_Fv.go 3 (f' := (124, 3, [(0, _), (1, _), (2, _), (3, _)], [_, _, _])) rfl ?_
      refine pm_Fv.cv rfl rfl rfl rfl (by decide) (Nat.le_of_ble_eq_true rfl) (Nat.le_of_ble_eq_true rfl) H0.m199 H0.o199 (ev_isT L xs H0 h.l0 M b0 b1) ?_
      refine pm_Fv.zeq rfl (by omega) rfl (fun h1 => ?_) (fun h1 => ?_)
      · exact absurd h1 (by omega)
      · refine pm_Fv.go 2 (f' := (124, 11, [(0, _), (1, _), (2, _), (3, _)], [_, _, _])) rfl ?_
        refine pm_Fv.cv rfl rfl rfl rfl (by decide) (Nat.le_of_ble_eq_true rfl) (Nat.le_of_ble_eq_true rfl) H0.m199 H0.o199 (ev_isP L xs H0 h.l0 M u0 u1) ?_
        refine pm_Fv.zne rfl (by omega) rfl (fun h2 => ?_) (fun h2 => ?_)
        · refine pm_Fv.go 2 (f' := (124, 23, [(0, _), (1, _), (2, _), (3, _)], [_, _, _])) rfl ?_
          refine pm_Fv.cvF rfl rfl rfl rfl (by decide) (Nat.le_of_ble_eq_true rfl) (Nat.le_of_ble_eq_true rfl) H0.m199 H0.o199 (ev_fz L xs H0) (fun s1 q1 => ?_)
          obtain ⟨H1, r1⟩ := q1
          refine pm_Fv.zne rfl (by omega) rfl (fun h3 => ?_) (fun h3 => ?_)
          · exact absurd h3 (by omega)
          · refine pm_Fv.go 3 (f' := (124, 32, [(0, _), (1, _), (2, _), (3, _)], [_, _, _])) rfl ?_
            refine pm_Fv.jeq rfl (by omega) rfl (fun h4 => ?_) (fun h4 => ?_)
            · exact absurd h4 (by omega)
            · refine pm_Fv.go 3 (f' := (124, 38, [(0, _), (1, _), (2, _), (3, _)], [_, _, _, _])) rfl ?_
              refine pm_Fv.cv rfl rfl rfl rfl (by decide) (Nat.le_of_ble_eq_true rfl) (Nat.le_of_ble_eq_true rfl) H1.m199 H1.o199 ((by have y := ev_isIn L xs H1 h.l0 M b0 b1 (x := r) u0 u1; rw [fo_id_at (I := I) b0, if_neg c] at y; exact y)) ?_
              refine pm_Fv.zeq rfl (by omega) rfl (fun h5 => ?_) (fun h5 => ?_)
              · refine pm_Fv.go 2 (f' := (124, 50, [(0, _), (1, _), (2, _), (3, _)], [_, _, _])) rfl ?_
                refine pm_Fv.cvF rfl rfl rfl rfl (by decide) (Nat.le_of_ble_eq_true rfl) (Nat.le_of_ble_eq_true rfl) H1.m199 H1.o199 (ev_fz L xs H1) (fun s2 q2 => ?_)
                obtain ⟨H2, r2⟩ := q2
                refine pm_Fv.zeq rfl (by omega) rfl (fun h6 => ?_) (fun h6 => ?_)
                · refine pm_Fv.go 2 (f' := (124, 59, [(0, _), (1, _), (2, _), (3, _)], [_, _])) rfl ?_
                  refine pm_Fv.cv rfl rfl rfl rfl (by decide) (Nat.le_of_ble_eq_true rfl) (Nat.le_of_ble_eq_true rfl) H2.m199 H2.o199 (ev_kids L xs H2 h.l0 M u0 u1) ?_
                  refine pm_Fv.go 3 (f' := (124, 65, [(0, _), (1, _), (2, _), (3, _)], [_, _, _, _])) rfl ?_
                  refine pm_Fv.cv rfl rfl rfl rfl (by decide) (Nat.le_of_ble_eq_true rfl) (Nat.le_of_ble_eq_true rfl) H2.m199 H2.o199 (ev_g L xs H2 h.l0 (by omega)) ?_
                  rw [gp]
                  refine pm_Fv.go 1 (f' := (124, 69, [(0, _), (1, _), (2, _), (3, _)], [_, _, _])) rfl ?_
                  refine pm_Fv.jne rfl (by omega) rfl (fun h7 => ?_) (fun h7 => ?_)
                  · exact absurd h7 (by omega)
                  · refine pm_Fv.go 2 (f' := (124, 77, [(0, _), (1, _), (2, _), (3, _)], [_, _])) rfl ?_
                    refine pm_Fv.isub rfl ?_
                    refine pm_Fv.go 5 (f' := (124, 85, [(4, _), (0, _), (1, _), (2, _), (3, _)], [_, _, _, _])) rfl ?_
                    refine pm_Fv.call rfl rfl rfl rfl rfl (ev_w1 L xs (by omega) d) ?_
                    refine pm_Fv.zne rfl (by omega) rfl (fun h8 => ?_) (fun h8 => ?_)
                    · refine pm_Fv.go 2 (f' := (124, 97, [(4, _), (0, _), (1, _), (2, _), (3, _)], [_, _, _])) rfl ?_
                      refine pm_Fv.cvF rfl rfl rfl rfl (by decide) (Nat.le_of_ble_eq_true rfl) (Nat.le_of_ble_eq_true rfl) H2.m199 H2.o199 (ev_fz L xs H2) (fun s3 q3 => ?_)
                      obtain ⟨H3, r3⟩ := q3
                      refine pm_Fv.zne rfl (by omega) rfl (fun h9 => ?_) (fun h9 => ?_)
                      · exact absurd h9 (by omega)
                      · refine pm_Fv.go 3 (f' := (124, 106, [(4, _), (0, _), (1, _), (2, _), (3, _)], [_, _, _])) rfl ?_
                        refine pm_Fv.jne rfl (by omega) rfl (fun h10 => ?_) (fun h10 => ?_)
                        · refine pm_Fv.go 2 (f' := (124, 115, [(4, _), (0, _), (1, _), (2, _), (3, _)], [_, _, _])) rfl ?_
                          refine pm_Fv.cv rfl rfl rfl rfl (by decide) (Nat.le_of_ble_eq_true rfl) (Nat.le_of_ble_eq_true rfl) H3.m199 H3.o199 (ev_depth L xs H3 h.l0 M u0 u1) ?_
                          refine pm_Fv.go 2 (f' := (124, 120, [(4, _), (0, _), (1, _), (2, _), (3, _)], [_, _, _, _])) rfl ?_
                          refine pm_Fv.cv rfl rfl rfl rfl (by decide) (Nat.le_of_ble_eq_true rfl) (Nat.le_of_ble_eq_true rfl) H3.m199 H3.o199 ((by have q := ev_height L xs H3 h.l0 M b0 b1 hv; rw [fo_id_at b0] at q; exact q)) ?_
                          refine pm_Fv.iadd rfl ?_
                          refine pm_Fv.bp rfl rfl ?_
                          refine pm_Fv.jle rfl (by omega) rfl (fun h11 => ?_) (fun h11 => ?_)
                          · exact absurd h11 (by omega)
                          · refine pm_Fv.go 3 (f' := (124, 135, [(4, _), (0, _), (1, _), (2, _), (3, _)], [_, _, _])) rfl ?_
                            refine pm_Fv.cvF rfl rfl rfl rfl (by decide) (Nat.le_of_ble_eq_true rfl) (Nat.le_of_ble_eq_true rfl) H3.m199 H3.o199 (ev_fo L xs H3) (fun s4 q4 => ?_)
                            obtain ⟨H4, r4⟩ := q4
                            refine pm_Fv.zeq rfl (by omega) rfl (fun h12 => ?_) (fun h12 => ?_)
                            · exact absurd h12 (by omega)
                            · exact pm_Fv.ret rfl rfl rfl rfl ⟨rfl, H4, (r4.trans (r3.trans (r2.trans r1)))⟩
                        · exact absurd h10 (by omega)
                    · exact absurd h8 (by omega)
                · exact absurd h6 (by omega)
              · exact absurd h5 (by omega)
        · exact absurd h2 (by omega)
    · skip
      rw [if_neg x2] at d
      have x3 : ¬ fo_id I (fo_par D b) = fo_id I r := fun y => x2 (pe.mp y)
      refine pm_Fv.go 3 (f' := (124, 3, [(0, _), (1, _), (2, _), (3, _)], [_, _, _])) rfl ?_
      refine pm_Fv.cv rfl rfl rfl rfl (by decide) (Nat.le_of_ble_eq_true rfl) (Nat.le_of_ble_eq_true rfl) H0.m199 H0.o199 (ev_isT L xs H0 h.l0 M b0 b1) ?_
      refine pm_Fv.zeq rfl (by omega) rfl (fun h1 => ?_) (fun h1 => ?_)
      · exact absurd h1 (by omega)
      · refine pm_Fv.go 2 (f' := (124, 11, [(0, _), (1, _), (2, _), (3, _)], [_, _, _])) rfl ?_
        refine pm_Fv.cv rfl rfl rfl rfl (by decide) (Nat.le_of_ble_eq_true rfl) (Nat.le_of_ble_eq_true rfl) H0.m199 H0.o199 (ev_isP L xs H0 h.l0 M u0 u1) ?_
        refine pm_Fv.zne rfl (by omega) rfl (fun h2 => ?_) (fun h2 => ?_)
        · refine pm_Fv.go 2 (f' := (124, 23, [(0, _), (1, _), (2, _), (3, _)], [_, _, _])) rfl ?_
          refine pm_Fv.cvF rfl rfl rfl rfl (by decide) (Nat.le_of_ble_eq_true rfl) (Nat.le_of_ble_eq_true rfl) H0.m199 H0.o199 (ev_fz L xs H0) (fun s1 q1 => ?_)
          obtain ⟨H1, r1⟩ := q1
          refine pm_Fv.zne rfl (by omega) rfl (fun h3 => ?_) (fun h3 => ?_)
          · exact absurd h3 (by omega)
          · refine pm_Fv.go 3 (f' := (124, 32, [(0, _), (1, _), (2, _), (3, _)], [_, _, _])) rfl ?_
            refine pm_Fv.jeq rfl (by omega) rfl (fun h4 => ?_) (fun h4 => ?_)
            · exact absurd h4 (by omega)
            · refine pm_Fv.go 3 (f' := (124, 38, [(0, _), (1, _), (2, _), (3, _)], [_, _, _, _])) rfl ?_
              refine pm_Fv.cv rfl rfl rfl rfl (by decide) (Nat.le_of_ble_eq_true rfl) (Nat.le_of_ble_eq_true rfl) H1.m199 H1.o199 ((by have y := ev_isIn L xs H1 h.l0 M b0 b1 (x := r) u0 u1; rw [fo_id_at (I := I) b0, if_neg c] at y; exact y)) ?_
              refine pm_Fv.zeq rfl (by omega) rfl (fun h5 => ?_) (fun h5 => ?_)
              · refine pm_Fv.go 2 (f' := (124, 50, [(0, _), (1, _), (2, _), (3, _)], [_, _, _])) rfl ?_
                refine pm_Fv.cvF rfl rfl rfl rfl (by decide) (Nat.le_of_ble_eq_true rfl) (Nat.le_of_ble_eq_true rfl) H1.m199 H1.o199 (ev_fz L xs H1) (fun s2 q2 => ?_)
                obtain ⟨H2, r2⟩ := q2
                refine pm_Fv.zeq rfl (by omega) rfl (fun h6 => ?_) (fun h6 => ?_)
                · refine pm_Fv.go 2 (f' := (124, 59, [(0, _), (1, _), (2, _), (3, _)], [_, _])) rfl ?_
                  refine pm_Fv.cv rfl rfl rfl rfl (by decide) (Nat.le_of_ble_eq_true rfl) (Nat.le_of_ble_eq_true rfl) H2.m199 H2.o199 (ev_kids L xs H2 h.l0 M u0 u1) ?_
                  refine pm_Fv.go 3 (f' := (124, 65, [(0, _), (1, _), (2, _), (3, _)], [_, _, _, _])) rfl ?_
                  refine pm_Fv.cv rfl rfl rfl rfl (by decide) (Nat.le_of_ble_eq_true rfl) (Nat.le_of_ble_eq_true rfl) H2.m199 H2.o199 (ev_g L xs H2 h.l0 (by omega)) ?_
                  rw [gp]
                  refine pm_Fv.go 1 (f' := (124, 69, [(0, _), (1, _), (2, _), (3, _)], [_, _, _])) rfl ?_
                  refine pm_Fv.jne rfl (by omega) rfl (fun h7 => ?_) (fun h7 => ?_)
                  · refine pm_Fv.go 1 (f' := (124, 77, [(0, _), (1, _), (2, _), (3, _)], [_, _])) rfl ?_
                    refine pm_Fv.isub rfl ?_
                    refine pm_Fv.go 5 (f' := (124, 85, [(4, _), (0, _), (1, _), (2, _), (3, _)], [_, _, _, _])) rfl ?_
                    refine pm_Fv.call rfl rfl rfl rfl rfl (ev_w1 L xs (by omega) d) ?_
                    refine pm_Fv.zne rfl (by omega) rfl (fun h8 => ?_) (fun h8 => ?_)
                    · refine pm_Fv.go 2 (f' := (124, 97, [(4, _), (0, _), (1, _), (2, _), (3, _)], [_, _, _])) rfl ?_
                      refine pm_Fv.cvF rfl rfl rfl rfl (by decide) (Nat.le_of_ble_eq_true rfl) (Nat.le_of_ble_eq_true rfl) H2.m199 H2.o199 (ev_fz L xs H2) (fun s3 q3 => ?_)
                      obtain ⟨H3, r3⟩ := q3
                      refine pm_Fv.zne rfl (by omega) rfl (fun h9 => ?_) (fun h9 => ?_)
                      · exact absurd h9 (by omega)
                      · refine pm_Fv.go 3 (f' := (124, 106, [(4, _), (0, _), (1, _), (2, _), (3, _)], [_, _, _])) rfl ?_
                        refine pm_Fv.jne rfl (by omega) rfl (fun h10 => ?_) (fun h10 => ?_)
                        · refine pm_Fv.go 2 (f' := (124, 115, [(4, _), (0, _), (1, _), (2, _), (3, _)], [_, _, _])) rfl ?_
                          refine pm_Fv.cv rfl rfl rfl rfl (by decide) (Nat.le_of_ble_eq_true rfl) (Nat.le_of_ble_eq_true rfl) H3.m199 H3.o199 (ev_depth L xs H3 h.l0 M u0 u1) ?_
                          refine pm_Fv.go 2 (f' := (124, 120, [(4, _), (0, _), (1, _), (2, _), (3, _)], [_, _, _, _])) rfl ?_
                          refine pm_Fv.cv rfl rfl rfl rfl (by decide) (Nat.le_of_ble_eq_true rfl) (Nat.le_of_ble_eq_true rfl) H3.m199 H3.o199 ((by have q := ev_height L xs H3 h.l0 M b0 b1 hv; rw [fo_id_at b0] at q; exact q)) ?_
                          refine pm_Fv.iadd rfl ?_
                          refine pm_Fv.bp rfl rfl ?_
                          refine pm_Fv.jle rfl (by omega) rfl (fun h11 => ?_) (fun h11 => ?_)
                          · exact absurd h11 (by omega)
                          · refine pm_Fv.go 3 (f' := (124, 135, [(4, _), (0, _), (1, _), (2, _), (3, _)], [_, _, _])) rfl ?_
                            refine pm_Fv.cvF rfl rfl rfl rfl (by decide) (Nat.le_of_ble_eq_true rfl) (Nat.le_of_ble_eq_true rfl) H3.m199 H3.o199 (ev_fo L xs H3) (fun s4 q4 => ?_)
                            obtain ⟨H4, r4⟩ := q4
                            refine pm_Fv.zeq rfl (by omega) rfl (fun h12 => ?_) (fun h12 => ?_)
                            · exact absurd h12 (by omega)
                            · exact pm_Fv.ret rfl rfl rfl rfl ⟨rfl, H4, (r4.trans (r3.trans (r2.trans r1)))⟩
                        · exact absurd h10 (by omega)
                    · exact absurd h8 (by omega)
                  · exact absurd h7 (by omega)
                · exact absurd h6 (by omega)
              · exact absurd h5 (by omega)
        · exact absurd h2 (by omega)
theorem ev_mmove0 (H : Hp σ ad z ar lr) (h : mo_H z ar) {n : Int} {I D : Int → Int} (M : mo_R (mo_g ar) (z 23) n I D) {b : Int} (b0 : 0 ≤ b) (b1 : b < n) {r : Int} (u0 : -1 ≤ r) (u1 : r < n ∨ r = -1) {k : Int} (hk : -2147483648 ≤ k ∧ k ≤ 2147483647) (c : ¬ (b ≤ r ∧ r < fo_end D n b)) (S : ∀ e, mo_g ar e 0 = 1 → -1000 ≤ mo_g ar e 2 ∧ mo_g ar e 2 ≤ 1000) {v : Int} (hv : fo_hi D b (fo_end D n b) v) (d : 0 ≤ k ∧ k ≤ (fo_cc D n r - (if fo_par D b = r then 1 else 0))) (e : D r + (v - D b + 1) ≤ 12) : pm_Fv (tq_P L xs) (pm_enter 124 [.ref 199, .int (zI (I b)), .int (zI (fo_id I r)), .int (zI k)]) σ (fun o s => o = .inl none ∧ (∃ z' ar', mo_ed (hq_u z 29 0) ar (mo_cy (mo_g ar) (z 23) (I b) (fo_id I r) k) z' ar' ∧ Hp s ad z' ar' lr) ∧ s.2 = σ.2) := by
  show pm_Fv (tq_P L xs) (124, 0, [(0, .ref 199), (1, .int (zI (I b))), (2, .int (zI (fo_id I r))), (3, .int (zI k))], []) σ _
  have H0 : Hp σ ad (hq_u z 29 (z 29)) ar lr := by rw [hq_u_self]; exact H
  have hm : 0 ≤ z 23 ∧ z 23 ≤ 400 := ⟨M.m0, M.m4⟩
  have i0 := M.J.1 b b0 b1
  have i1 := M.lt b b0 b1
  have idr := M.idr u0 u1
  have cc := fo_cc_r M.W u0 u1
  have nm := M.nm
  have P := fo_par_P M.W b0 b1
  have p1 := P.2.1
  have p0 := P.1
  have gp := (M.R b b0 b1).1
  have pr := M.idr p0 (by omega)
  have pe := M.pe b0 b1 u0 u1
  rw [gp] at pe
  have p2 := M.pl (ar := ar) (z := z) b0 b1

  have hb := hv.1 b (by omega) (fo_end_B (D := D) b1).1
  have vv : v ≤ 12 := by
    obtain ⟨x, x0, x1, x2⟩ := hv.2
    have := M.dp x (by omega) (by have := (fo_end_B (D := D) b1).2.1; omega)
    omega
  have w0 := (M.W.2.2 b b0 b1).1
  have dd : 0 ≤ D r ∧ D r ≤ 12 ∧ (r = -1 → D r = 0) := by
    by_cases q : r = -1
    · rw [q, M.W.1]
      omega
    · have := M.dp r (by omega) (by omega)
      have := fo_nonneg M.W u0 (by omega)
      omega
  by_cases x1 : r = -1
  · skip
    by_cases x2 : fo_par D b = r
    · skip
      rw [if_pos x2] at d
      have x3 : fo_id I (fo_par D b) = fo_id I r := pe.mpr x2
      refine pm_Fv.go 3 (f' := (124, 3, [(0, _), (1, _), (2, _), (3, _)], [_, _, _])) rfl ?_
      refine pm_Fv.cv rfl rfl rfl rfl (by decide) (Nat.le_of_ble_eq_true rfl) (Nat.le_of_ble_eq_true rfl) H0.m199 H0.o199 (ev_isT L xs H0 h.l0 M b0 b1) ?_
      refine pm_Fv.zeq rfl (by omega) rfl (fun h1 => ?_) (fun h1 => ?_)
      · exact absurd h1 (by omega)
      · refine pm_Fv.go 2 (f' := (124, 11, [(0, _), (1, _), (2, _), (3, _)], [_, _, _])) rfl ?_
        refine pm_Fv.cv rfl rfl rfl rfl (by decide) (Nat.le_of_ble_eq_true rfl) (Nat.le_of_ble_eq_true rfl) H0.m199 H0.o199 (ev_isP L xs H0 h.l0 M u0 u1) ?_
        refine pm_Fv.zne rfl (by omega) rfl (fun h2 => ?_) (fun h2 => ?_)
        · refine pm_Fv.go 2 (f' := (124, 23, [(0, _), (1, _), (2, _), (3, _)], [_, _, _])) rfl ?_
          refine pm_Fv.cvF rfl rfl rfl rfl (by decide) (Nat.le_of_ble_eq_true rfl) (Nat.le_of_ble_eq_true rfl) H0.m199 H0.o199 (ev_fz L xs H0) (fun s1 q1 => ?_)
          obtain ⟨H1, r1⟩ := q1
          refine pm_Fv.zne rfl (by omega) rfl (fun h3 => ?_) (fun h3 => ?_)
          · exact absurd h3 (by omega)
          · refine pm_Fv.go 3 (f' := (124, 32, [(0, _), (1, _), (2, _), (3, _)], [_, _, _])) rfl ?_
            refine pm_Fv.jeq rfl (by omega) rfl (fun h4 => ?_) (fun h4 => ?_)
            · refine pm_Fv.go 2 (f' := (124, 50, [(0, _), (1, _), (2, _), (3, _)], [_, _, _])) rfl ?_
              refine pm_Fv.cvF rfl rfl rfl rfl (by decide) (Nat.le_of_ble_eq_true rfl) (Nat.le_of_ble_eq_true rfl) H1.m199 H1.o199 (ev_fz L xs H1) (fun s2 q2 => ?_)
              obtain ⟨H2, r2⟩ := q2
              refine pm_Fv.zeq rfl (by omega) rfl (fun h5 => ?_) (fun h5 => ?_)
              · refine pm_Fv.go 2 (f' := (124, 59, [(0, _), (1, _), (2, _), (3, _)], [_, _])) rfl ?_
                refine pm_Fv.cv rfl rfl rfl rfl (by decide) (Nat.le_of_ble_eq_true rfl) (Nat.le_of_ble_eq_true rfl) H2.m199 H2.o199 (ev_kids L xs H2 h.l0 M u0 u1) ?_
                refine pm_Fv.go 3 (f' := (124, 65, [(0, _), (1, _), (2, _), (3, _)], [_, _, _, _])) rfl ?_
                refine pm_Fv.cv rfl rfl rfl rfl (by decide) (Nat.le_of_ble_eq_true rfl) (Nat.le_of_ble_eq_true rfl) H2.m199 H2.o199 (ev_g L xs H2 h.l0 (by omega)) ?_
                rw [gp]
                refine pm_Fv.go 1 (f' := (124, 69, [(0, _), (1, _), (2, _), (3, _)], [_, _, _])) rfl ?_
                refine pm_Fv.jne rfl (by omega) rfl (fun h6 => ?_) (fun h6 => ?_)
                · exact absurd h6 (by omega)
                · refine pm_Fv.go 2 (f' := (124, 77, [(0, _), (1, _), (2, _), (3, _)], [_, _])) rfl ?_
                  refine pm_Fv.isub rfl ?_
                  refine pm_Fv.go 5 (f' := (124, 85, [(4, _), (0, _), (1, _), (2, _), (3, _)], [_, _, _, _])) rfl ?_
                  refine pm_Fv.call rfl rfl rfl rfl rfl (ev_w1 L xs (by omega) d) ?_
                  refine pm_Fv.zne rfl (by omega) rfl (fun h7 => ?_) (fun h7 => ?_)
                  · refine pm_Fv.go 2 (f' := (124, 97, [(4, _), (0, _), (1, _), (2, _), (3, _)], [_, _, _])) rfl ?_
                    refine pm_Fv.cvF rfl rfl rfl rfl (by decide) (Nat.le_of_ble_eq_true rfl) (Nat.le_of_ble_eq_true rfl) H2.m199 H2.o199 (ev_fz L xs H2) (fun s3 q3 => ?_)
                    obtain ⟨H3, r3⟩ := q3
                    refine pm_Fv.zne rfl (by omega) rfl (fun h8 => ?_) (fun h8 => ?_)
                    · exact absurd h8 (by omega)
                    · refine pm_Fv.go 3 (f' := (124, 106, [(4, _), (0, _), (1, _), (2, _), (3, _)], [_, _, _])) rfl ?_
                      refine pm_Fv.jne rfl (by omega) rfl (fun h9 => ?_) (fun h9 => ?_)
                      · exact absurd h9 (by omega)
                      · refine pm_Fv.go 4 (f' := (124, 120, [(4, _), (0, _), (1, _), (2, _), (3, _)], [_, _, _, _])) rfl ?_
                        refine pm_Fv.cv rfl rfl rfl rfl (by decide) (Nat.le_of_ble_eq_true rfl) (Nat.le_of_ble_eq_true rfl) H3.m199 H3.o199 ((by have q := ev_height L xs H3 h.l0 M b0 b1 hv; rw [fo_id_at b0] at q; exact q)) ?_
                        refine pm_Fv.iadd rfl ?_
                        refine pm_Fv.bp rfl rfl ?_
                        refine pm_Fv.jle rfl (by omega) rfl (fun h10 => ?_) (fun h10 => ?_)
                        · refine pm_Fv.go 2 (f' := (124, 135, [(4, _), (0, _), (1, _), (2, _), (3, _)], [_, _, _])) rfl ?_
                          refine pm_Fv.cvF rfl rfl rfl rfl (by decide) (Nat.le_of_ble_eq_true rfl) (Nat.le_of_ble_eq_true rfl) H3.m199 H3.o199 (ev_fz L xs H3) (fun s4 q4 => ?_)
                          obtain ⟨H4, r4⟩ := q4
                          refine pm_Fv.zeq rfl (by omega) rfl (fun h11 => ?_) (fun h11 => ?_)
                          · refine pm_Fv.go 4 (f' := (124, 146, [(4, _), (0, _), (1, _), (2, _), (3, _)], [_, _, _, _])) rfl ?_
                            refine pm_Fv.cvF rfl rfl rfl rfl (by decide) (Nat.le_of_ble_eq_true rfl) (Nat.le_of_ble_eq_true rfl) H4.m199 H4.o199 (ev_mcarry L xs H4 h hm S (by omega) (by omega) (by omega) (by omega)) (fun s5 q5 => ?_)
                            obtain ⟨H5, r5⟩ := q5
                            exact pm_Fv.ret rfl rfl rfl rfl ⟨rfl, H5, (r5.trans (r4.trans (r3.trans (r2.trans r1))))⟩
                          · exact absurd h11 (by omega)
                        · exact absurd h10 (by omega)
                  · exact absurd h7 (by omega)
              · exact absurd h5 (by omega)
            · exact absurd h4 (by omega)
        · exact absurd h2 (by omega)
    · skip
      rw [if_neg x2] at d
      have x3 : ¬ fo_id I (fo_par D b) = fo_id I r := fun y => x2 (pe.mp y)
      refine pm_Fv.go 3 (f' := (124, 3, [(0, _), (1, _), (2, _), (3, _)], [_, _, _])) rfl ?_
      refine pm_Fv.cv rfl rfl rfl rfl (by decide) (Nat.le_of_ble_eq_true rfl) (Nat.le_of_ble_eq_true rfl) H0.m199 H0.o199 (ev_isT L xs H0 h.l0 M b0 b1) ?_
      refine pm_Fv.zeq rfl (by omega) rfl (fun h1 => ?_) (fun h1 => ?_)
      · exact absurd h1 (by omega)
      · refine pm_Fv.go 2 (f' := (124, 11, [(0, _), (1, _), (2, _), (3, _)], [_, _, _])) rfl ?_
        refine pm_Fv.cv rfl rfl rfl rfl (by decide) (Nat.le_of_ble_eq_true rfl) (Nat.le_of_ble_eq_true rfl) H0.m199 H0.o199 (ev_isP L xs H0 h.l0 M u0 u1) ?_
        refine pm_Fv.zne rfl (by omega) rfl (fun h2 => ?_) (fun h2 => ?_)
        · refine pm_Fv.go 2 (f' := (124, 23, [(0, _), (1, _), (2, _), (3, _)], [_, _, _])) rfl ?_
          refine pm_Fv.cvF rfl rfl rfl rfl (by decide) (Nat.le_of_ble_eq_true rfl) (Nat.le_of_ble_eq_true rfl) H0.m199 H0.o199 (ev_fz L xs H0) (fun s1 q1 => ?_)
          obtain ⟨H1, r1⟩ := q1
          refine pm_Fv.zne rfl (by omega) rfl (fun h3 => ?_) (fun h3 => ?_)
          · exact absurd h3 (by omega)
          · refine pm_Fv.go 3 (f' := (124, 32, [(0, _), (1, _), (2, _), (3, _)], [_, _, _])) rfl ?_
            refine pm_Fv.jeq rfl (by omega) rfl (fun h4 => ?_) (fun h4 => ?_)
            · refine pm_Fv.go 2 (f' := (124, 50, [(0, _), (1, _), (2, _), (3, _)], [_, _, _])) rfl ?_
              refine pm_Fv.cvF rfl rfl rfl rfl (by decide) (Nat.le_of_ble_eq_true rfl) (Nat.le_of_ble_eq_true rfl) H1.m199 H1.o199 (ev_fz L xs H1) (fun s2 q2 => ?_)
              obtain ⟨H2, r2⟩ := q2
              refine pm_Fv.zeq rfl (by omega) rfl (fun h5 => ?_) (fun h5 => ?_)
              · refine pm_Fv.go 2 (f' := (124, 59, [(0, _), (1, _), (2, _), (3, _)], [_, _])) rfl ?_
                refine pm_Fv.cv rfl rfl rfl rfl (by decide) (Nat.le_of_ble_eq_true rfl) (Nat.le_of_ble_eq_true rfl) H2.m199 H2.o199 (ev_kids L xs H2 h.l0 M u0 u1) ?_
                refine pm_Fv.go 3 (f' := (124, 65, [(0, _), (1, _), (2, _), (3, _)], [_, _, _, _])) rfl ?_
                refine pm_Fv.cv rfl rfl rfl rfl (by decide) (Nat.le_of_ble_eq_true rfl) (Nat.le_of_ble_eq_true rfl) H2.m199 H2.o199 (ev_g L xs H2 h.l0 (by omega)) ?_
                rw [gp]
                refine pm_Fv.go 1 (f' := (124, 69, [(0, _), (1, _), (2, _), (3, _)], [_, _, _])) rfl ?_
                refine pm_Fv.jne rfl (by omega) rfl (fun h6 => ?_) (fun h6 => ?_)
                · refine pm_Fv.go 1 (f' := (124, 77, [(0, _), (1, _), (2, _), (3, _)], [_, _])) rfl ?_
                  refine pm_Fv.isub rfl ?_
                  refine pm_Fv.go 5 (f' := (124, 85, [(4, _), (0, _), (1, _), (2, _), (3, _)], [_, _, _, _])) rfl ?_
                  refine pm_Fv.call rfl rfl rfl rfl rfl (ev_w1 L xs (by omega) d) ?_
                  refine pm_Fv.zne rfl (by omega) rfl (fun h7 => ?_) (fun h7 => ?_)
                  · refine pm_Fv.go 2 (f' := (124, 97, [(4, _), (0, _), (1, _), (2, _), (3, _)], [_, _, _])) rfl ?_
                    refine pm_Fv.cvF rfl rfl rfl rfl (by decide) (Nat.le_of_ble_eq_true rfl) (Nat.le_of_ble_eq_true rfl) H2.m199 H2.o199 (ev_fz L xs H2) (fun s3 q3 => ?_)
                    obtain ⟨H3, r3⟩ := q3
                    refine pm_Fv.zne rfl (by omega) rfl (fun h8 => ?_) (fun h8 => ?_)
                    · exact absurd h8 (by omega)
                    · refine pm_Fv.go 3 (f' := (124, 106, [(4, _), (0, _), (1, _), (2, _), (3, _)], [_, _, _])) rfl ?_
                      refine pm_Fv.jne rfl (by omega) rfl (fun h9 => ?_) (fun h9 => ?_)
                      · exact absurd h9 (by omega)
                      · refine pm_Fv.go 4 (f' := (124, 120, [(4, _), (0, _), (1, _), (2, _), (3, _)], [_, _, _, _])) rfl ?_
                        refine pm_Fv.cv rfl rfl rfl rfl (by decide) (Nat.le_of_ble_eq_true rfl) (Nat.le_of_ble_eq_true rfl) H3.m199 H3.o199 ((by have q := ev_height L xs H3 h.l0 M b0 b1 hv; rw [fo_id_at b0] at q; exact q)) ?_
                        refine pm_Fv.iadd rfl ?_
                        refine pm_Fv.bp rfl rfl ?_
                        refine pm_Fv.jle rfl (by omega) rfl (fun h10 => ?_) (fun h10 => ?_)
                        · refine pm_Fv.go 2 (f' := (124, 135, [(4, _), (0, _), (1, _), (2, _), (3, _)], [_, _, _])) rfl ?_
                          refine pm_Fv.cvF rfl rfl rfl rfl (by decide) (Nat.le_of_ble_eq_true rfl) (Nat.le_of_ble_eq_true rfl) H3.m199 H3.o199 (ev_fz L xs H3) (fun s4 q4 => ?_)
                          obtain ⟨H4, r4⟩ := q4
                          refine pm_Fv.zeq rfl (by omega) rfl (fun h11 => ?_) (fun h11 => ?_)
                          · refine pm_Fv.go 4 (f' := (124, 146, [(4, _), (0, _), (1, _), (2, _), (3, _)], [_, _, _, _])) rfl ?_
                            refine pm_Fv.cvF rfl rfl rfl rfl (by decide) (Nat.le_of_ble_eq_true rfl) (Nat.le_of_ble_eq_true rfl) H4.m199 H4.o199 (ev_mcarry L xs H4 h hm S (by omega) (by omega) (by omega) (by omega)) (fun s5 q5 => ?_)
                            obtain ⟨H5, r5⟩ := q5
                            exact pm_Fv.ret rfl rfl rfl rfl ⟨rfl, H5, (r5.trans (r4.trans (r3.trans (r2.trans r1))))⟩
                          · exact absurd h11 (by omega)
                        · exact absurd h10 (by omega)
                  · exact absurd h7 (by omega)
                · exact absurd h6 (by omega)
              · exact absurd h5 (by omega)
            · exact absurd h4 (by omega)
        · exact absurd h2 (by omega)
  · skip
    by_cases x2 : fo_par D b = r
    · skip
      rw [if_pos x2] at d
      have x3 : fo_id I (fo_par D b) = fo_id I r := pe.mpr x2
      refine pm_Fv.go 3 (f' := (124, 3, [(0, _), (1, _), (2, _), (3, _)], [_, _, _])) rfl ?_
      refine pm_Fv.cv rfl rfl rfl rfl (by decide) (Nat.le_of_ble_eq_true rfl) (Nat.le_of_ble_eq_true rfl) H0.m199 H0.o199 (ev_isT L xs H0 h.l0 M b0 b1) ?_
      refine pm_Fv.zeq rfl (by omega) rfl (fun h1 => ?_) (fun h1 => ?_)
      · exact absurd h1 (by omega)
      · refine pm_Fv.go 2 (f' := (124, 11, [(0, _), (1, _), (2, _), (3, _)], [_, _, _])) rfl ?_
        refine pm_Fv.cv rfl rfl rfl rfl (by decide) (Nat.le_of_ble_eq_true rfl) (Nat.le_of_ble_eq_true rfl) H0.m199 H0.o199 (ev_isP L xs H0 h.l0 M u0 u1) ?_
        refine pm_Fv.zne rfl (by omega) rfl (fun h2 => ?_) (fun h2 => ?_)
        · refine pm_Fv.go 2 (f' := (124, 23, [(0, _), (1, _), (2, _), (3, _)], [_, _, _])) rfl ?_
          refine pm_Fv.cvF rfl rfl rfl rfl (by decide) (Nat.le_of_ble_eq_true rfl) (Nat.le_of_ble_eq_true rfl) H0.m199 H0.o199 (ev_fz L xs H0) (fun s1 q1 => ?_)
          obtain ⟨H1, r1⟩ := q1
          refine pm_Fv.zne rfl (by omega) rfl (fun h3 => ?_) (fun h3 => ?_)
          · exact absurd h3 (by omega)
          · refine pm_Fv.go 3 (f' := (124, 32, [(0, _), (1, _), (2, _), (3, _)], [_, _, _])) rfl ?_
            refine pm_Fv.jeq rfl (by omega) rfl (fun h4 => ?_) (fun h4 => ?_)
            · exact absurd h4 (by omega)
            · refine pm_Fv.go 3 (f' := (124, 38, [(0, _), (1, _), (2, _), (3, _)], [_, _, _, _])) rfl ?_
              refine pm_Fv.cv rfl rfl rfl rfl (by decide) (Nat.le_of_ble_eq_true rfl) (Nat.le_of_ble_eq_true rfl) H1.m199 H1.o199 ((by have y := ev_isIn L xs H1 h.l0 M b0 b1 (x := r) u0 u1; rw [fo_id_at (I := I) b0, if_neg c] at y; exact y)) ?_
              refine pm_Fv.zeq rfl (by omega) rfl (fun h5 => ?_) (fun h5 => ?_)
              · refine pm_Fv.go 2 (f' := (124, 50, [(0, _), (1, _), (2, _), (3, _)], [_, _, _])) rfl ?_
                refine pm_Fv.cvF rfl rfl rfl rfl (by decide) (Nat.le_of_ble_eq_true rfl) (Nat.le_of_ble_eq_true rfl) H1.m199 H1.o199 (ev_fz L xs H1) (fun s2 q2 => ?_)
                obtain ⟨H2, r2⟩ := q2
                refine pm_Fv.zeq rfl (by omega) rfl (fun h6 => ?_) (fun h6 => ?_)
                · refine pm_Fv.go 2 (f' := (124, 59, [(0, _), (1, _), (2, _), (3, _)], [_, _])) rfl ?_
                  refine pm_Fv.cv rfl rfl rfl rfl (by decide) (Nat.le_of_ble_eq_true rfl) (Nat.le_of_ble_eq_true rfl) H2.m199 H2.o199 (ev_kids L xs H2 h.l0 M u0 u1) ?_
                  refine pm_Fv.go 3 (f' := (124, 65, [(0, _), (1, _), (2, _), (3, _)], [_, _, _, _])) rfl ?_
                  refine pm_Fv.cv rfl rfl rfl rfl (by decide) (Nat.le_of_ble_eq_true rfl) (Nat.le_of_ble_eq_true rfl) H2.m199 H2.o199 (ev_g L xs H2 h.l0 (by omega)) ?_
                  rw [gp]
                  refine pm_Fv.go 1 (f' := (124, 69, [(0, _), (1, _), (2, _), (3, _)], [_, _, _])) rfl ?_
                  refine pm_Fv.jne rfl (by omega) rfl (fun h7 => ?_) (fun h7 => ?_)
                  · exact absurd h7 (by omega)
                  · refine pm_Fv.go 2 (f' := (124, 77, [(0, _), (1, _), (2, _), (3, _)], [_, _])) rfl ?_
                    refine pm_Fv.isub rfl ?_
                    refine pm_Fv.go 5 (f' := (124, 85, [(4, _), (0, _), (1, _), (2, _), (3, _)], [_, _, _, _])) rfl ?_
                    refine pm_Fv.call rfl rfl rfl rfl rfl (ev_w1 L xs (by omega) d) ?_
                    refine pm_Fv.zne rfl (by omega) rfl (fun h8 => ?_) (fun h8 => ?_)
                    · refine pm_Fv.go 2 (f' := (124, 97, [(4, _), (0, _), (1, _), (2, _), (3, _)], [_, _, _])) rfl ?_
                      refine pm_Fv.cvF rfl rfl rfl rfl (by decide) (Nat.le_of_ble_eq_true rfl) (Nat.le_of_ble_eq_true rfl) H2.m199 H2.o199 (ev_fz L xs H2) (fun s3 q3 => ?_)
                      obtain ⟨H3, r3⟩ := q3
                      refine pm_Fv.zne rfl (by omega) rfl (fun h9 => ?_) (fun h9 => ?_)
                      · exact absurd h9 (by omega)
                      · refine pm_Fv.go 3 (f' := (124, 106, [(4, _), (0, _), (1, _), (2, _), (3, _)], [_, _, _])) rfl ?_
                        refine pm_Fv.jne rfl (by omega) rfl (fun h10 => ?_) (fun h10 => ?_)
                        · refine pm_Fv.go 2 (f' := (124, 115, [(4, _), (0, _), (1, _), (2, _), (3, _)], [_, _, _])) rfl ?_
                          refine pm_Fv.cv rfl rfl rfl rfl (by decide) (Nat.le_of_ble_eq_true rfl) (Nat.le_of_ble_eq_true rfl) H3.m199 H3.o199 (ev_depth L xs H3 h.l0 M u0 u1) ?_
                          refine pm_Fv.go 2 (f' := (124, 120, [(4, _), (0, _), (1, _), (2, _), (3, _)], [_, _, _, _])) rfl ?_
                          refine pm_Fv.cv rfl rfl rfl rfl (by decide) (Nat.le_of_ble_eq_true rfl) (Nat.le_of_ble_eq_true rfl) H3.m199 H3.o199 ((by have q := ev_height L xs H3 h.l0 M b0 b1 hv; rw [fo_id_at b0] at q; exact q)) ?_
                          refine pm_Fv.iadd rfl ?_
                          refine pm_Fv.bp rfl rfl ?_
                          refine pm_Fv.jle rfl (by omega) rfl (fun h11 => ?_) (fun h11 => ?_)
                          · refine pm_Fv.go 2 (f' := (124, 135, [(4, _), (0, _), (1, _), (2, _), (3, _)], [_, _, _])) rfl ?_
                            refine pm_Fv.cvF rfl rfl rfl rfl (by decide) (Nat.le_of_ble_eq_true rfl) (Nat.le_of_ble_eq_true rfl) H3.m199 H3.o199 (ev_fz L xs H3) (fun s4 q4 => ?_)
                            obtain ⟨H4, r4⟩ := q4
                            refine pm_Fv.zeq rfl (by omega) rfl (fun h12 => ?_) (fun h12 => ?_)
                            · refine pm_Fv.go 4 (f' := (124, 146, [(4, _), (0, _), (1, _), (2, _), (3, _)], [_, _, _, _])) rfl ?_
                              refine pm_Fv.cvF rfl rfl rfl rfl (by decide) (Nat.le_of_ble_eq_true rfl) (Nat.le_of_ble_eq_true rfl) H4.m199 H4.o199 (ev_mcarry L xs H4 h hm S (by omega) (by omega) (by omega) (by omega)) (fun s5 q5 => ?_)
                              obtain ⟨H5, r5⟩ := q5
                              exact pm_Fv.ret rfl rfl rfl rfl ⟨rfl, H5, (r5.trans (r4.trans (r3.trans (r2.trans r1))))⟩
                            · exact absurd h12 (by omega)
                          · exact absurd h11 (by omega)
                        · exact absurd h10 (by omega)
                    · exact absurd h8 (by omega)
                · exact absurd h6 (by omega)
              · exact absurd h5 (by omega)
        · exact absurd h2 (by omega)
    · skip
      rw [if_neg x2] at d
      have x3 : ¬ fo_id I (fo_par D b) = fo_id I r := fun y => x2 (pe.mp y)
      refine pm_Fv.go 3 (f' := (124, 3, [(0, _), (1, _), (2, _), (3, _)], [_, _, _])) rfl ?_
      refine pm_Fv.cv rfl rfl rfl rfl (by decide) (Nat.le_of_ble_eq_true rfl) (Nat.le_of_ble_eq_true rfl) H0.m199 H0.o199 (ev_isT L xs H0 h.l0 M b0 b1) ?_
      refine pm_Fv.zeq rfl (by omega) rfl (fun h1 => ?_) (fun h1 => ?_)
      · exact absurd h1 (by omega)
      · refine pm_Fv.go 2 (f' := (124, 11, [(0, _), (1, _), (2, _), (3, _)], [_, _, _])) rfl ?_
        refine pm_Fv.cv rfl rfl rfl rfl (by decide) (Nat.le_of_ble_eq_true rfl) (Nat.le_of_ble_eq_true rfl) H0.m199 H0.o199 (ev_isP L xs H0 h.l0 M u0 u1) ?_
        refine pm_Fv.zne rfl (by omega) rfl (fun h2 => ?_) (fun h2 => ?_)
        · refine pm_Fv.go 2 (f' := (124, 23, [(0, _), (1, _), (2, _), (3, _)], [_, _, _])) rfl ?_
          refine pm_Fv.cvF rfl rfl rfl rfl (by decide) (Nat.le_of_ble_eq_true rfl) (Nat.le_of_ble_eq_true rfl) H0.m199 H0.o199 (ev_fz L xs H0) (fun s1 q1 => ?_)
          obtain ⟨H1, r1⟩ := q1
          refine pm_Fv.zne rfl (by omega) rfl (fun h3 => ?_) (fun h3 => ?_)
          · exact absurd h3 (by omega)
          · refine pm_Fv.go 3 (f' := (124, 32, [(0, _), (1, _), (2, _), (3, _)], [_, _, _])) rfl ?_
            refine pm_Fv.jeq rfl (by omega) rfl (fun h4 => ?_) (fun h4 => ?_)
            · exact absurd h4 (by omega)
            · refine pm_Fv.go 3 (f' := (124, 38, [(0, _), (1, _), (2, _), (3, _)], [_, _, _, _])) rfl ?_
              refine pm_Fv.cv rfl rfl rfl rfl (by decide) (Nat.le_of_ble_eq_true rfl) (Nat.le_of_ble_eq_true rfl) H1.m199 H1.o199 ((by have y := ev_isIn L xs H1 h.l0 M b0 b1 (x := r) u0 u1; rw [fo_id_at (I := I) b0, if_neg c] at y; exact y)) ?_
              refine pm_Fv.zeq rfl (by omega) rfl (fun h5 => ?_) (fun h5 => ?_)
              · refine pm_Fv.go 2 (f' := (124, 50, [(0, _), (1, _), (2, _), (3, _)], [_, _, _])) rfl ?_
                refine pm_Fv.cvF rfl rfl rfl rfl (by decide) (Nat.le_of_ble_eq_true rfl) (Nat.le_of_ble_eq_true rfl) H1.m199 H1.o199 (ev_fz L xs H1) (fun s2 q2 => ?_)
                obtain ⟨H2, r2⟩ := q2
                refine pm_Fv.zeq rfl (by omega) rfl (fun h6 => ?_) (fun h6 => ?_)
                · refine pm_Fv.go 2 (f' := (124, 59, [(0, _), (1, _), (2, _), (3, _)], [_, _])) rfl ?_
                  refine pm_Fv.cv rfl rfl rfl rfl (by decide) (Nat.le_of_ble_eq_true rfl) (Nat.le_of_ble_eq_true rfl) H2.m199 H2.o199 (ev_kids L xs H2 h.l0 M u0 u1) ?_
                  refine pm_Fv.go 3 (f' := (124, 65, [(0, _), (1, _), (2, _), (3, _)], [_, _, _, _])) rfl ?_
                  refine pm_Fv.cv rfl rfl rfl rfl (by decide) (Nat.le_of_ble_eq_true rfl) (Nat.le_of_ble_eq_true rfl) H2.m199 H2.o199 (ev_g L xs H2 h.l0 (by omega)) ?_
                  rw [gp]
                  refine pm_Fv.go 1 (f' := (124, 69, [(0, _), (1, _), (2, _), (3, _)], [_, _, _])) rfl ?_
                  refine pm_Fv.jne rfl (by omega) rfl (fun h7 => ?_) (fun h7 => ?_)
                  · refine pm_Fv.go 1 (f' := (124, 77, [(0, _), (1, _), (2, _), (3, _)], [_, _])) rfl ?_
                    refine pm_Fv.isub rfl ?_
                    refine pm_Fv.go 5 (f' := (124, 85, [(4, _), (0, _), (1, _), (2, _), (3, _)], [_, _, _, _])) rfl ?_
                    refine pm_Fv.call rfl rfl rfl rfl rfl (ev_w1 L xs (by omega) d) ?_
                    refine pm_Fv.zne rfl (by omega) rfl (fun h8 => ?_) (fun h8 => ?_)
                    · refine pm_Fv.go 2 (f' := (124, 97, [(4, _), (0, _), (1, _), (2, _), (3, _)], [_, _, _])) rfl ?_
                      refine pm_Fv.cvF rfl rfl rfl rfl (by decide) (Nat.le_of_ble_eq_true rfl) (Nat.le_of_ble_eq_true rfl) H2.m199 H2.o199 (ev_fz L xs H2) (fun s3 q3 => ?_)
                      obtain ⟨H3, r3⟩ := q3
                      refine pm_Fv.zne rfl (by omega) rfl (fun h9 => ?_) (fun h9 => ?_)
                      · exact absurd h9 (by omega)
                      · refine pm_Fv.go 3 (f' := (124, 106, [(4, _), (0, _), (1, _), (2, _), (3, _)], [_, _, _])) rfl ?_
                        refine pm_Fv.jne rfl (by omega) rfl (fun h10 => ?_) (fun h10 => ?_)
                        · refine pm_Fv.go 2 (f' := (124, 115, [(4, _), (0, _), (1, _), (2, _), (3, _)], [_, _, _])) rfl ?_
                          refine pm_Fv.cv rfl rfl rfl rfl (by decide) (Nat.le_of_ble_eq_true rfl) (Nat.le_of_ble_eq_true rfl) H3.m199 H3.o199 (ev_depth L xs H3 h.l0 M u0 u1) ?_
                          refine pm_Fv.go 2 (f' := (124, 120, [(4, _), (0, _), (1, _), (2, _), (3, _)], [_, _, _, _])) rfl ?_
                          refine pm_Fv.cv rfl rfl rfl rfl (by decide) (Nat.le_of_ble_eq_true rfl) (Nat.le_of_ble_eq_true rfl) H3.m199 H3.o199 ((by have q := ev_height L xs H3 h.l0 M b0 b1 hv; rw [fo_id_at b0] at q; exact q)) ?_
                          refine pm_Fv.iadd rfl ?_
                          refine pm_Fv.bp rfl rfl ?_
                          refine pm_Fv.jle rfl (by omega) rfl (fun h11 => ?_) (fun h11 => ?_)
                          · refine pm_Fv.go 2 (f' := (124, 135, [(4, _), (0, _), (1, _), (2, _), (3, _)], [_, _, _])) rfl ?_
                            refine pm_Fv.cvF rfl rfl rfl rfl (by decide) (Nat.le_of_ble_eq_true rfl) (Nat.le_of_ble_eq_true rfl) H3.m199 H3.o199 (ev_fz L xs H3) (fun s4 q4 => ?_)
                            obtain ⟨H4, r4⟩ := q4
                            refine pm_Fv.zeq rfl (by omega) rfl (fun h12 => ?_) (fun h12 => ?_)
                            · refine pm_Fv.go 4 (f' := (124, 146, [(4, _), (0, _), (1, _), (2, _), (3, _)], [_, _, _, _])) rfl ?_
                              refine pm_Fv.cvF rfl rfl rfl rfl (by decide) (Nat.le_of_ble_eq_true rfl) (Nat.le_of_ble_eq_true rfl) H4.m199 H4.o199 (ev_mcarry L xs H4 h hm S (by omega) (by omega) (by omega) (by omega)) (fun s5 q5 => ?_)
                              obtain ⟨H5, r5⟩ := q5
                              exact pm_Fv.ret rfl rfl rfl rfl ⟨rfl, H5, (r5.trans (r4.trans (r3.trans (r2.trans r1))))⟩
                            · exact absurd h12 (by omega)
                          · exact absurd h11 (by omega)
                        · exact absurd h10 (by omega)
                    · exact absurd h8 (by omega)
                  · exact absurd h7 (by omega)
                · exact absurd h6 (by omega)
              · exact absurd h5 (by omega)
        · exact absurd h2 (by omega)
end MS
