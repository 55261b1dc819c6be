/-! the law -/
def sx (xs : Nat → Int32) (j : Int) : Int := (xs j.toNat).toInt
theorem sx_r (xs : Nat → Int32) (j : Int) : -2147483648 ≤ sx xs j ∧ sx xs j ≤ 2147483647 := ⟨zI_lo _, zI_hi _⟩
theorem zand_31 (a : Int) : 0 ≤ zand a 31 ∧ zand a 31 ≤ 31 := by
  unfold zand
  have m : ((zI a).toBitVec &&& 31#32).toNat = (zI a).toBitVec.toNat % 32 := by
    rw [BitVec.toNat_and]
    exact Nat.and_two_pow_sub_one_eq_mod _ 5
  have e : (zI a &&& zI 31).toInt = ((zI a).toBitVec &&& 31#32).toInt := rfl
  rw [e, BitVec.toInt_eq_toNat_cond, m]
  split <;> omega
section LR
variable {L : Nat} {xs : Nat → Int32} {mi pc : Nat} {lv : pm_L} {st : List Value} {σ : pm_S} {Q : pm_O → pm_S → Prop}
theorem pm_Fv.sc {j : Int} (hc : pm_cod (tq_P L xs) mi pc = some (.iaload, 1)) (h : 0 ≤ j ∧ j < L ∧ L ≤ 3584) (kk : pm_Fv (tq_P L xs) (mi, pc + 1, lv, .int (zI (sx xs j)) :: st) σ Q) : pm_Fv (tq_P L xs) (mi, pc, lv, .int (zI j) :: .float 0 :: st) σ Q := by
  have q := zI_ix (n := L) h.1 h.2.1 (by omega)
  refine pm_Fv.io hc ?_ ?_
  · intro hh
    rcases hh with hh | hh
    · exact hh (by decide)
    · exact q hh
  · rw [zI_nat h.1 (by omega)]
    show pm_Fv (tq_P L xs) (mi, pc + 1, lv, .int (xs j.toNat) :: st) σ Q
    rw [← zI_x (xs j.toNat)]
    exact kk
theorem pm_Fv.scl (hc : pm_cod (tq_P L xs) mi pc = some (.arraylength, 1)) (kk : pm_Fv (tq_P L xs) (mi, pc + 1, lv, .int (zI (L : Int)) :: st) σ Q) : pm_Fv (tq_P L xs) (mi, pc, lv, .float 0 :: st) σ Q := by
  refine pm_Fv.in hc rfl (pc' := pc + 1) (lv' := lv) (st' := .int (Int32.ofNat L) :: st) (σ' := σ) rfl ?_
  rw [zI_ofNat]
  exact kk
end LR
theorem JX.up {N : Nat} {σ : pm_S} {k : Int} {l : Int64} (J : JX N σ k l) : JX (N + 1) σ k l := by
  obtain ⟨ad, z, ar, lr, Cs, H, X, F, ⟨c1, c2, c3⟩, e29, el, r1, r2⟩ := J
  exact ⟨ad, z, ar, lr, Cs, H, X, F, ⟨by omega, by omega, by omega⟩, e29, el, by omega, by omega⟩
section JJ
variable (L : Nat) (xs : Nat → Int32)
variable {N : Nat} {σ : pm_S} {k0 : Int} {l0 : Int64}
set_option maxRecDepth 8000 in
theorem lc_insert (J : JX N σ k0 l0) (n5 : N ≤ 600) {i : Int} (i0 : 0 ≤ i) (i7 : i + 7 ≤ L) (hL : L ≤ 3584) {Q : pm_O → pm_S → Prop} (kk : ∀ t k l, JX (N + 1) t k l → pm_Fv (tq_P L xs) (1, 1831, [(4, .int (zI i)), (0, .float 0), (1, .ref 0), (2, .ref 199), (3, .ref 208)], []) t Q) : pm_Fv (tq_P L xs) (1, 172, [(4, .int (zI i)), (0, .float 0), (1, .ref 0), (2, .ref 199), (3, .ref 208)], []) σ Q := by
  refine pm_Fv.go 4 (f' := (1, 177, [(4, _), (0, _), (1, _), (2, _), (3, _)], [_, _, _, _])) rfl ?_
  refine pm_Fv.iadd rfl ?_
  refine pm_Fv.sc rfl (by omega) ?_
  refine pm_Fv.go 3 (f' := (1, 183, [(4, _), (0, _), (1, _), (2, _), (3, _)], [_, _, _, _, _])) rfl ?_
  refine pm_Fv.iadd rfl ?_
  refine pm_Fv.sc rfl (by omega) ?_
  refine pm_Fv.go 3 (f' := (1, 189, [(4, _), (0, _), (1, _), (2, _), (3, _)], [_, _, _, _, _, _])) rfl ?_
  refine pm_Fv.iadd rfl ?_
  refine pm_Fv.sc rfl (by omega) ?_
  refine pm_Fv.go 1 (f' := (1, 192, [(4, _), (0, _), (1, _), (2, _), (3, _)], [_, _, _, _, _])) rfl ?_
  refine pm_Fv.callG rfl rfl rfl rfl rfl (pm_Fv.mono (st_insert L xs J n5 (sx_r xs (i + 1)) (sx_r xs (i + 2)) (sx_r xs (i + 3))) ?_)
  rintro o s1 ⟨c, hc, rfl, ⟨ad1, z1, ar1, lr1, H1⟩, q⟩
  refine ⟨_, rfl, ?_⟩
  refine pm_Fv.go 5 (f' := (1, 202, [(5, _), (4, _), (0, _), (1, _), (2, _), (3, _)], [_, _, _, _])) rfl ?_
  refine pm_Fv.iadd rfl ?_
  refine pm_Fv.sc rfl (by omega) ?_
  refine pm_Fv.go 3 (f' := (1, 208, [(5, _), (4, _), (0, _), (1, _), (2, _), (3, _)], [_, _, _, _, _])) rfl ?_
  refine pm_Fv.iadd rfl ?_
  refine pm_Fv.sc rfl (by omega) ?_
  refine pm_Fv.go 3 (f' := (1, 214, [(5, _), (4, _), (0, _), (1, _), (2, _), (3, _)], [_, _, _, _, _, _])) rfl ?_
  refine pm_Fv.iadd rfl ?_
  refine pm_Fv.sc rfl (by omega) ?_
  refine pm_Fv.cvG rfl rfl rfl rfl (by decide) (Nat.le_of_ble_eq_true rfl) (Nat.le_of_ble_eq_true rfl) H1.m199 H1.o199 (pm_Fv.mono q ?_)
  rintro o s2 ⟨v, vr, rfl, l, J2, hv⟩
  refine ⟨_, rfl, ?_⟩
  have J3 := J2
  obtain ⟨ad2, z2, ar2, lr2, Cs2, H2, X2, F2, cn2, e29, el, rm2⟩ := J2
  refine pm_Fv.go 2 (f' := (1, 222, [(6, _), (5, _), (4, _), (0, _), (1, _), (2, _), (3, _)], [_])) rfl ?_
  refine pm_Fv.cv rfl rfl rfl rfl (by decide) (Nat.le_of_ble_eq_true rfl) (Nat.le_of_ble_eq_true rfl) H2.m199 H2.o199 (ev_m_thrown L xs H2) ?_
  rw [e29]
  refine pm_Fv.go 1 (f' := (1, 227, [(6, _), (5, _), (4, _), (0, _), (1, _), (2, _), (3, _)], [_, _])) rfl ?_
  refine pm_Fv.jeq rfl (by omega) rfl (fun h1 => ?_) (fun h1 => ?_)
  · refine pm_Fv.go 1 (f' := (1, 234, [(6, _), (5, _), (4, _), (0, _), (1, _), (2, _), (3, _)], [_])) rfl ?_
    refine pm_Fv.zne rfl (by omega) rfl (fun h2 => ?_) (fun h2 => ?_)
    · refine pm_Fv.go 1 (f' := (1, 1831, [(6, _), (5, _), (4, _), (0, _), (1, _), (2, _), (3, _)], [])) rfl ?_
      exact pm_Fv.weak (kk s2 _ _ J3) rfl
    · refine pm_Fv.go 2 (f' := (1, 239, [(6, _), (5, _), (4, _), (0, _), (1, _), (2, _), (3, _)], [_, _])) rfl ?_
      refine pm_Fv.oll H2 F2.o1 (el.trans (hv (by omega))) rfl ?_
      refine pm_Fv.go 1 (f' := (1, 242, [(6, _), (5, _), (4, _), (0, _), (1, _), (2, _), (3, _)], [_, _])) rfl ?_
      refine pm_Fv.i2l rfl (by omega) ?_
      refine pm_Fv.lcmp rfl (by omega) ?_
      rw [if_neg (by omega), if_pos (by omega)]
      refine pm_Fv.zeq rfl (by omega) rfl (fun h3 => ?_) (fun h3 => ?_)
      · refine pm_Fv.go 1 (f' := (1, 1831, [(6, _), (5, _), (4, _), (0, _), (1, _), (2, _), (3, _)], [])) rfl ?_
        exact pm_Fv.weak (kk s2 _ _ J3) rfl
      · exact absurd h3 (by omega)
  · exact absurd h1 (by omega)
set_option maxRecDepth 8000 in
theorem lc_remove (J : JX N σ k0 l0) (n5 : N ≤ 600) {i : Int} (i0 : 0 ≤ i) (i7 : i + 7 ≤ L) (hL : L ≤ 3584) {Q : pm_O → pm_S → Prop} (kk : ∀ t k l, JX (N + 1) t k l → pm_Fv (tq_P L xs) (1, 1831, [(4, .int (zI i)), (0, .float 0), (1, .ref 0), (2, .ref 199), (3, .ref 208)], []) t Q) : pm_Fv (tq_P L xs) (1, 252, [(4, .int (zI i)), (0, .float 0), (1, .ref 0), (2, .ref 199), (3, .ref 208)], []) σ Q := by
  refine pm_Fv.go 4 (f' := (1, 257, [(4, _), (0, _), (1, _), (2, _), (3, _)], [_, _, _, _])) rfl ?_
  refine pm_Fv.iadd rfl ?_
  refine pm_Fv.sc rfl (by omega) ?_
  refine pm_Fv.go 1 (f' := (1, 260, [(4, _), (0, _), (1, _), (2, _), (3, _)], [_, _, _])) rfl ?_
  refine pm_Fv.callG rfl rfl rfl rfl rfl (pm_Fv.mono (st_remove L xs J n5 (sx_r xs (i + 1))) ?_)
  rintro o s1 ⟨c, hc, rfl, ⟨ad1, z1, ar1, lr1, H1⟩, q⟩
  refine ⟨_, rfl, ?_⟩
  refine pm_Fv.go 5 (f' := (1, 270, [(5, _), (4, _), (0, _), (1, _), (2, _), (3, _)], [_, _, _, _])) rfl ?_
  refine pm_Fv.iadd rfl ?_
  refine pm_Fv.sc rfl (by omega) ?_
  refine pm_Fv.cvG rfl rfl rfl rfl (by decide) (Nat.le_of_ble_eq_true rfl) (Nat.le_of_ble_eq_true rfl) H1.m199 H1.o199 (pm_Fv.mono q ?_)
  rintro o s2 ⟨v, vr, rfl, l, J2, hv⟩
  refine ⟨_, rfl, ?_⟩
  have J3 := J2
  obtain ⟨ad2, z2, ar2, lr2, Cs2, H2, X2, F2, cn2, e29, el, rm2⟩ := J2
  refine pm_Fv.go 2 (f' := (1, 278, [(6, _), (5, _), (4, _), (0, _), (1, _), (2, _), (3, _)], [_])) rfl ?_
  refine pm_Fv.cv rfl rfl rfl rfl (by decide) (Nat.le_of_ble_eq_true rfl) (Nat.le_of_ble_eq_true rfl) H2.m199 H2.o199 (ev_m_thrown L xs H2) ?_
  rw [e29]
  refine pm_Fv.go 1 (f' := (1, 283, [(6, _), (5, _), (4, _), (0, _), (1, _), (2, _), (3, _)], [_, _])) rfl ?_
  refine pm_Fv.jeq rfl (by omega) rfl (fun h1 => ?_) (fun h1 => ?_)
  · refine pm_Fv.go 1 (f' := (1, 290, [(6, _), (5, _), (4, _), (0, _), (1, _), (2, _), (3, _)], [_])) rfl ?_
    refine pm_Fv.zne rfl (by omega) rfl (fun h2 => ?_) (fun h2 => ?_)
    · refine pm_Fv.go 1 (f' := (1, 1831, [(6, _), (5, _), (4, _), (0, _), (1, _), (2, _), (3, _)], [])) rfl ?_
      exact pm_Fv.weak (kk s2 _ _ J3) rfl
    · refine pm_Fv.go 2 (f' := (1, 295, [(6, _), (5, _), (4, _), (0, _), (1, _), (2, _), (3, _)], [_, _])) rfl ?_
      refine pm_Fv.oll H2 F2.o1 (el.trans (hv (by omega))) rfl ?_
      refine pm_Fv.go 1 (f' := (1, 298, [(6, _), (5, _), (4, _), (0, _), (1, _), (2, _), (3, _)], [_, _])) rfl ?_
      refine pm_Fv.i2l rfl (by omega) ?_
      refine pm_Fv.lcmp rfl (by omega) ?_
      rw [if_neg (by omega), if_pos (by omega)]
      refine pm_Fv.zeq rfl (by omega) rfl (fun h3 => ?_) (fun h3 => ?_)
      · refine pm_Fv.go 1 (f' := (1, 1831, [(6, _), (5, _), (4, _), (0, _), (1, _), (2, _), (3, _)], [])) rfl ?_
        exact pm_Fv.weak (kk s2 _ _ J3) rfl
      · exact absurd h3 (by omega)
  · exact absurd h1 (by omega)
set_option maxRecDepth 8000 in
theorem lc_move (J : JX N σ k0 l0) (n5 : N ≤ 600) {i : Int} (i0 : 0 ≤ i) (i7 : i + 7 ≤ L) (hL : L ≤ 3584) {Q : pm_O → pm_S → Prop} (kk : ∀ t k l, JX (N + 1) t k l → pm_Fv (tq_P L xs) (1, 1831, [(4, .int (zI i)), (0, .float 0), (1, .ref 0), (2, .ref 199), (3, .ref 208)], []) t Q) : pm_Fv (tq_P L xs) (1, 308, [(4, .int (zI i)), (0, .float 0), (1, .ref 0), (2, .ref 199), (3, .ref 208)], []) σ Q := by
  refine pm_Fv.go 4 (f' := (1, 313, [(4, _), (0, _), (1, _), (2, _), (3, _)], [_, _, _, _])) rfl ?_
  refine pm_Fv.iadd rfl ?_
  refine pm_Fv.sc rfl (by omega) ?_
  refine pm_Fv.go 3 (f' := (1, 319, [(4, _), (0, _), (1, _), (2, _), (3, _)], [_, _, _, _, _])) rfl ?_
  refine pm_Fv.iadd rfl ?_
  refine pm_Fv.sc rfl (by omega) ?_
  refine pm_Fv.go 3 (f' := (1, 325, [(4, _), (0, _), (1, _), (2, _), (3, _)], [_, _, _, _, _, _])) rfl ?_
  refine pm_Fv.iadd rfl ?_
  refine pm_Fv.sc rfl (by omega) ?_
  refine pm_Fv.callG rfl rfl rfl rfl rfl (pm_Fv.mono (st_move L xs J n5 (sx_r xs (i + 1)) (sx_r xs (i + 2)) (sx_r xs (i + 3))) ?_)
  rintro o s1 ⟨c, hc, rfl, ⟨ad1, z1, ar1, lr1, H1⟩, q⟩
  refine ⟨_, rfl, ?_⟩
  refine pm_Fv.go 5 (f' := (1, 337, [(5, _), (4, _), (0, _), (1, _), (2, _), (3, _)], [_, _, _, _])) rfl ?_
  refine pm_Fv.iadd rfl ?_
  refine pm_Fv.sc rfl (by omega) ?_
  refine pm_Fv.go 3 (f' := (1, 343, [(5, _), (4, _), (0, _), (1, _), (2, _), (3, _)], [_, _, _, _, _])) rfl ?_
  refine pm_Fv.iadd rfl ?_
  refine pm_Fv.sc rfl (by omega) ?_
  refine pm_Fv.go 3 (f' := (1, 349, [(5, _), (4, _), (0, _), (1, _), (2, _), (3, _)], [_, _, _, _, _, _])) rfl ?_
  refine pm_Fv.iadd rfl ?_
  refine pm_Fv.sc rfl (by omega) ?_
  refine pm_Fv.cvG rfl rfl rfl rfl (by decide) (Nat.le_of_ble_eq_true rfl) (Nat.le_of_ble_eq_true rfl) H1.m199 H1.o199 (pm_Fv.mono q ?_)
  rintro o s2 ⟨rfl, l, J2⟩
  refine ⟨_, rfl, ?_⟩
  have J3 := J2
  obtain ⟨ad2, z2, ar2, lr2, Cs2, H2, X2, F2, cn2, e29, el, rm2⟩ := J2
  refine pm_Fv.go 1 (f' := (1, 355, [(5, _), (4, _), (0, _), (1, _), (2, _), (3, _)], [_])) rfl ?_
  refine pm_Fv.cv rfl rfl rfl rfl (by decide) (Nat.le_of_ble_eq_true rfl) (Nat.le_of_ble_eq_true rfl) H2.m199 H2.o199 (ev_m_thrown L xs H2) ?_
  rw [e29]
  refine pm_Fv.go 1 (f' := (1, 360, [(5, _), (4, _), (0, _), (1, _), (2, _), (3, _)], [_, _])) rfl ?_
  refine pm_Fv.jeq rfl (by omega) rfl (fun h1 => ?_) (fun h1 => ?_)
  · refine pm_Fv.go 1 (f' := (1, 1831, [(5, _), (4, _), (0, _), (1, _), (2, _), (3, _)], [])) rfl ?_
    exact pm_Fv.weak (kk s2 _ _ J3) rfl
  · exact absurd h1 (by omega)
set_option maxRecDepth 8000 in
theorem lc_promote (J : JX N σ k0 l0) (n5 : N ≤ 600) {i : Int} (i0 : 0 ≤ i) (i7 : i + 7 ≤ L) (hL : L ≤ 3584) {Q : pm_O → pm_S → Prop} (kk : ∀ t k l, JX (N + 1) t k l → pm_Fv (tq_P L xs) (1, 1831, [(4, .int (zI i)), (0, .float 0), (1, .ref 0), (2, .ref 199), (3, .ref 208)], []) t Q) : pm_Fv (tq_P L xs) (1, 368, [(4, .int (zI i)), (0, .float 0), (1, .ref 0), (2, .ref 199), (3, .ref 208)], []) σ Q := by
  refine pm_Fv.go 4 (f' := (1, 373, [(4, _), (0, _), (1, _), (2, _), (3, _)], [_, _, _, _])) rfl ?_
  refine pm_Fv.iadd rfl ?_
  refine pm_Fv.sc rfl (by omega) ?_
  refine pm_Fv.callG rfl rfl rfl rfl rfl (pm_Fv.mono (st_promote L xs J n5 (sx_r xs (i + 1))) ?_)
  rintro o s1 ⟨c, hc, rfl, ⟨ad1, z1, ar1, lr1, H1⟩, q⟩
  refine ⟨_, rfl, ?_⟩
  refine pm_Fv.go 5 (f' := (1, 385, [(5, _), (4, _), (0, _), (1, _), (2, _), (3, _)], [_, _, _, _])) rfl ?_
  refine pm_Fv.iadd rfl ?_
  refine pm_Fv.sc rfl (by omega) ?_
  refine pm_Fv.cvG rfl rfl rfl rfl (by decide) (Nat.le_of_ble_eq_true rfl) (Nat.le_of_ble_eq_true rfl) H1.m199 H1.o199 (pm_Fv.mono q ?_)
  rintro o s2 ⟨rfl, l, J2⟩
  refine ⟨_, rfl, ?_⟩
  have J3 := J2
  obtain ⟨ad2, z2, ar2, lr2, Cs2, H2, X2, F2, cn2, e29, el, rm2⟩ := J2
  refine pm_Fv.go 1 (f' := (1, 391, [(5, _), (4, _), (0, _), (1, _), (2, _), (3, _)], [_])) rfl ?_
  refine pm_Fv.cv rfl rfl rfl rfl (by decide) (Nat.le_of_ble_eq_true rfl) (Nat.le_of_ble_eq_true rfl) H2.m199 H2.o199 (ev_m_thrown L xs H2) ?_
  rw [e29]
  refine pm_Fv.go 1 (f' := (1, 396, [(5, _), (4, _), (0, _), (1, _), (2, _), (3, _)], [_, _])) rfl ?_
  refine pm_Fv.jeq rfl (by omega) rfl (fun h1 => ?_) (fun h1 => ?_)
  · refine pm_Fv.go 1 (f' := (1, 1831, [(5, _), (4, _), (0, _), (1, _), (2, _), (3, _)], [])) rfl ?_
    exact pm_Fv.weak (kk s2 _ _ J3) rfl
  · exact absurd h1 (by omega)
set_option maxRecDepth 8000 in
theorem lc_demote (J : JX N σ k0 l0) (n5 : N ≤ 600) {i : Int} (i0 : 0 ≤ i) (i7 : i + 7 ≤ L) (hL : L ≤ 3584) {Q : pm_O → pm_S → Prop} (kk : ∀ t k l, JX (N + 1) t k l → pm_Fv (tq_P L xs) (1, 1831, [(4, .int (zI i)), (0, .float 0), (1, .ref 0), (2, .ref 199), (3, .ref 208)], []) t Q) : pm_Fv (tq_P L xs) (1, 404, [(4, .int (zI i)), (0, .float 0), (1, .ref 0), (2, .ref 199), (3, .ref 208)], []) σ Q := by
  refine pm_Fv.go 4 (f' := (1, 409, [(4, _), (0, _), (1, _), (2, _), (3, _)], [_, _, _, _])) rfl ?_
  refine pm_Fv.iadd rfl ?_
  refine pm_Fv.sc rfl (by omega) ?_
  refine pm_Fv.callG rfl rfl rfl rfl rfl (pm_Fv.mono (st_demote L xs J n5 (sx_r xs (i + 1))) ?_)
  rintro o s1 ⟨c, hc, rfl, ⟨ad1, z1, ar1, lr1, H1⟩, q⟩
  refine ⟨_, rfl, ?_⟩
  refine pm_Fv.go 5 (f' := (1, 421, [(5, _), (4, _), (0, _), (1, _), (2, _), (3, _)], [_, _, _, _])) rfl ?_
  refine pm_Fv.iadd rfl ?_
  refine pm_Fv.sc rfl (by omega) ?_
  refine pm_Fv.cvG rfl rfl rfl rfl (by decide) (Nat.le_of_ble_eq_true rfl) (Nat.le_of_ble_eq_true rfl) H1.m199 H1.o199 (pm_Fv.mono q ?_)
  rintro o s2 ⟨rfl, l, J2⟩
  refine ⟨_, rfl, ?_⟩
  have J3 := J2
  obtain ⟨ad2, z2, ar2, lr2, Cs2, H2, X2, F2, cn2, e29, el, rm2⟩ := J2
  refine pm_Fv.go 1 (f' := (1, 427, [(5, _), (4, _), (0, _), (1, _), (2, _), (3, _)], [_])) rfl ?_
  refine pm_Fv.cv rfl rfl rfl rfl (by decide) (Nat.le_of_ble_eq_true rfl) (Nat.le_of_ble_eq_true rfl) H2.m199 H2.o199 (ev_m_thrown L xs H2) ?_
  rw [e29]
  refine pm_Fv.go 1 (f' := (1, 432, [(5, _), (4, _), (0, _), (1, _), (2, _), (3, _)], [_, _])) rfl ?_
  refine pm_Fv.jeq rfl (by omega) rfl (fun h1 => ?_) (fun h1 => ?_)
  · refine pm_Fv.go 1 (f' := (1, 1831, [(5, _), (4, _), (0, _), (1, _), (2, _), (3, _)], [])) rfl ?_
    exact pm_Fv.weak (kk s2 _ _ J3) rfl
  · exact absurd h1 (by omega)
set_option maxRecDepth 8000 in
theorem lc_title (J : JX N σ k0 l0) (n5 : N ≤ 600) {i : Int} (i0 : 0 ≤ i) (i7 : i + 7 ≤ L) (hL : L ≤ 3584) {Q : pm_O → pm_S → Prop} (kk : ∀ t k l, JX (N + 1) t k l → pm_Fv (tq_P L xs) (1, 1831, [(4, .int (zI i)), (0, .float 0), (1, .ref 0), (2, .ref 199), (3, .ref 208)], []) t Q) : pm_Fv (tq_P L xs) (1, 440, [(4, .int (zI i)), (0, .float 0), (1, .ref 0), (2, .ref 199), (3, .ref 208)], []) σ Q := by
  refine pm_Fv.go 4 (f' := (1, 445, [(4, _), (0, _), (1, _), (2, _), (3, _)], [_, _, _, _])) rfl ?_
  refine pm_Fv.iadd rfl ?_
  refine pm_Fv.sc rfl (by omega) ?_
  refine pm_Fv.go 3 (f' := (1, 451, [(4, _), (0, _), (1, _), (2, _), (3, _)], [_, _, _, _, _])) rfl ?_
  refine pm_Fv.iadd rfl ?_
  refine pm_Fv.sc rfl (by omega) ?_
  refine pm_Fv.callG rfl rfl rfl rfl rfl (pm_Fv.mono (st_title L xs J n5 (sx_r xs (i + 1)) (sx_r xs (i + 2))) ?_)
  rintro o s1 ⟨c, hc, rfl, ⟨ad1, z1, ar1, lr1, H1⟩, q⟩
  refine ⟨_, rfl, ?_⟩
  refine pm_Fv.go 5 (f' := (1, 463, [(5, _), (4, _), (0, _), (1, _), (2, _), (3, _)], [_, _, _, _])) rfl ?_
  refine pm_Fv.iadd rfl ?_
  refine pm_Fv.sc rfl (by omega) ?_
  refine pm_Fv.go 3 (f' := (1, 469, [(5, _), (4, _), (0, _), (1, _), (2, _), (3, _)], [_, _, _, _, _])) rfl ?_
  refine pm_Fv.iadd rfl ?_
  refine pm_Fv.sc rfl (by omega) ?_
  refine pm_Fv.cvG rfl rfl rfl rfl (by decide) (Nat.le_of_ble_eq_true rfl) (Nat.le_of_ble_eq_true rfl) H1.m199 H1.o199 (pm_Fv.mono q ?_)
  rintro o s2 ⟨rfl, l, J2⟩
  refine ⟨_, rfl, ?_⟩
  have J3 := J2
  obtain ⟨ad2, z2, ar2, lr2, Cs2, H2, X2, F2, cn2, e29, el, rm2⟩ := J2
  refine pm_Fv.go 1 (f' := (1, 475, [(5, _), (4, _), (0, _), (1, _), (2, _), (3, _)], [_])) rfl ?_
  refine pm_Fv.cv rfl rfl rfl rfl (by decide) (Nat.le_of_ble_eq_true rfl) (Nat.le_of_ble_eq_true rfl) H2.m199 H2.o199 (ev_m_thrown L xs H2) ?_
  rw [e29]
  refine pm_Fv.go 1 (f' := (1, 480, [(5, _), (4, _), (0, _), (1, _), (2, _), (3, _)], [_, _])) rfl ?_
  refine pm_Fv.jeq rfl (by omega) rfl (fun h1 => ?_) (fun h1 => ?_)
  · refine pm_Fv.go 1 (f' := (1, 1831, [(5, _), (4, _), (0, _), (1, _), (2, _), (3, _)], [])) rfl ?_
    exact pm_Fv.weak (kk s2 _ _ J3) rfl
  · exact absurd h1 (by omega)
set_option maxRecDepth 8000 in
theorem lc_state (J : JX N σ k0 l0) (n5 : N ≤ 600) {i : Int} (i0 : 0 ≤ i) (i7 : i + 7 ≤ L) (hL : L ≤ 3584) {Q : pm_O → pm_S → Prop} (kk : ∀ t k l, JX (N + 1) t k l → pm_Fv (tq_P L xs) (1, 1831, [(4, .int (zI i)), (0, .float 0), (1, .ref 0), (2, .ref 199), (3, .ref 208)], []) t Q) : pm_Fv (tq_P L xs) (1, 488, [(4, .int (zI i)), (0, .float 0), (1, .ref 0), (2, .ref 199), (3, .ref 208)], []) σ Q := by
  refine pm_Fv.go 4 (f' := (1, 493, [(4, _), (0, _), (1, _), (2, _), (3, _)], [_, _, _, _])) rfl ?_
  refine pm_Fv.iadd rfl ?_
  refine pm_Fv.sc rfl (by omega) ?_
  refine pm_Fv.go 3 (f' := (1, 499, [(4, _), (0, _), (1, _), (2, _), (3, _)], [_, _, _, _, _])) rfl ?_
  refine pm_Fv.iadd rfl ?_
  refine pm_Fv.sc rfl (by omega) ?_
  refine pm_Fv.go 1 (f' := (1, 502, [(4, _), (0, _), (1, _), (2, _), (3, _)], [_, _, _, _])) rfl ?_
  refine pm_Fv.callG rfl rfl rfl rfl rfl (pm_Fv.mono (st_state L xs J n5 (sx_r xs (i + 1)) (sx_r xs (i + 2))) ?_)
  rintro o s1 ⟨c, hc, rfl, ⟨ad1, z1, ar1, lr1, H1⟩, q⟩
  refine ⟨_, rfl, ?_⟩
  refine pm_Fv.go 5 (f' := (1, 512, [(5, _), (4, _), (0, _), (1, _), (2, _), (3, _)], [_, _, _, _])) rfl ?_
  refine pm_Fv.iadd rfl ?_
  refine pm_Fv.sc rfl (by omega) ?_
  refine pm_Fv.go 3 (f' := (1, 518, [(5, _), (4, _), (0, _), (1, _), (2, _), (3, _)], [_, _, _, _, _])) rfl ?_
  refine pm_Fv.iadd rfl ?_
  refine pm_Fv.sc rfl (by omega) ?_
  refine pm_Fv.cvG rfl rfl rfl rfl (by decide) (Nat.le_of_ble_eq_true rfl) (Nat.le_of_ble_eq_true rfl) H1.m199 H1.o199 (pm_Fv.mono q ?_)
  rintro o s2 ⟨v, vr, rfl, l, J2, hv⟩
  refine ⟨_, rfl, ?_⟩
  have J3 := J2
  obtain ⟨ad2, z2, ar2, lr2, Cs2, H2, X2, F2, cn2, e29, el, rm2⟩ := J2
  refine pm_Fv.go 2 (f' := (1, 526, [(6, _), (5, _), (4, _), (0, _), (1, _), (2, _), (3, _)], [_])) rfl ?_
  refine pm_Fv.cv rfl rfl rfl rfl (by decide) (Nat.le_of_ble_eq_true rfl) (Nat.le_of_ble_eq_true rfl) H2.m199 H2.o199 (ev_m_thrown L xs H2) ?_
  rw [e29]
  refine pm_Fv.go 1 (f' := (1, 531, [(6, _), (5, _), (4, _), (0, _), (1, _), (2, _), (3, _)], [_, _])) rfl ?_
  refine pm_Fv.jeq rfl (by omega) rfl (fun h1 => ?_) (fun h1 => ?_)
  · refine pm_Fv.go 1 (f' := (1, 538, [(6, _), (5, _), (4, _), (0, _), (1, _), (2, _), (3, _)], [_])) rfl ?_
    refine pm_Fv.zne rfl (by omega) rfl (fun h2 => ?_) (fun h2 => ?_)
    · refine pm_Fv.go 1 (f' := (1, 1831, [(6, _), (5, _), (4, _), (0, _), (1, _), (2, _), (3, _)], [])) rfl ?_
      exact pm_Fv.weak (kk s2 _ _ J3) rfl
    · refine pm_Fv.go 2 (f' := (1, 543, [(6, _), (5, _), (4, _), (0, _), (1, _), (2, _), (3, _)], [_, _])) rfl ?_
      refine pm_Fv.oll H2 F2.o1 (el.trans (hv (by omega))) rfl ?_
      refine pm_Fv.go 1 (f' := (1, 546, [(6, _), (5, _), (4, _), (0, _), (1, _), (2, _), (3, _)], [_, _])) rfl ?_
      refine pm_Fv.i2l rfl (by omega) ?_
      refine pm_Fv.lcmp rfl (by omega) ?_
      rw [if_neg (by omega), if_pos (by omega)]
      refine pm_Fv.zeq rfl (by omega) rfl (fun h3 => ?_) (fun h3 => ?_)
      · refine pm_Fv.go 1 (f' := (1, 1831, [(6, _), (5, _), (4, _), (0, _), (1, _), (2, _), (3, _)], [])) rfl ?_
        exact pm_Fv.weak (kk s2 _ _ J3) rfl
      · exact absurd h3 (by omega)
  · exact absurd h1 (by omega)
set_option maxRecDepth 8000 in
theorem lc_rank (J : JX N σ k0 l0) (n5 : N ≤ 600) {i : Int} (i0 : 0 ≤ i) (i7 : i + 7 ≤ L) (hL : L ≤ 3584) {Q : pm_O → pm_S → Prop} (kk : ∀ t k l, JX (N + 1) t k l → pm_Fv (tq_P L xs) (1, 1831, [(4, .int (zI i)), (0, .float 0), (1, .ref 0), (2, .ref 199), (3, .ref 208)], []) t Q) : pm_Fv (tq_P L xs) (1, 556, [(4, .int (zI i)), (0, .float 0), (1, .ref 0), (2, .ref 199), (3, .ref 208)], []) σ Q := by
  refine pm_Fv.go 4 (f' := (1, 561, [(4, _), (0, _), (1, _), (2, _), (3, _)], [_, _, _, _])) rfl ?_
  refine pm_Fv.iadd rfl ?_
  refine pm_Fv.sc rfl (by omega) ?_
  refine pm_Fv.go 3 (f' := (1, 567, [(4, _), (0, _), (1, _), (2, _), (3, _)], [_, _, _, _, _])) rfl ?_
  refine pm_Fv.iadd rfl ?_
  refine pm_Fv.sc rfl (by omega) ?_
  refine pm_Fv.callG rfl rfl rfl rfl rfl (pm_Fv.mono (st_rank L xs J n5 (sx_r xs (i + 1)) (sx_r xs (i + 2))) ?_)
  rintro o s1 ⟨c, hc, rfl, ⟨ad1, z1, ar1, lr1, H1⟩, q⟩
  refine ⟨_, rfl, ?_⟩
  refine pm_Fv.go 5 (f' := (1, 579, [(5, _), (4, _), (0, _), (1, _), (2, _), (3, _)], [_, _, _, _])) rfl ?_
  refine pm_Fv.iadd rfl ?_
  refine pm_Fv.sc rfl (by omega) ?_
  refine pm_Fv.go 3 (f' := (1, 585, [(5, _), (4, _), (0, _), (1, _), (2, _), (3, _)], [_, _, _, _, _])) rfl ?_
  refine pm_Fv.iadd rfl ?_
  refine pm_Fv.sc rfl (by omega) ?_
  refine pm_Fv.cvG rfl rfl rfl rfl (by decide) (Nat.le_of_ble_eq_true rfl) (Nat.le_of_ble_eq_true rfl) H1.m199 H1.o199 (pm_Fv.mono q ?_)
  rintro o s2 ⟨rfl, l, J2⟩
  refine ⟨_, rfl, ?_⟩
  have J3 := J2
  obtain ⟨ad2, z2, ar2, lr2, Cs2, H2, X2, F2, cn2, e29, el, rm2⟩ := J2
  refine pm_Fv.go 1 (f' := (1, 591, [(5, _), (4, _), (0, _), (1, _), (2, _), (3, _)], [_])) rfl ?_
  refine pm_Fv.cv rfl rfl rfl rfl (by decide) (Nat.le_of_ble_eq_true rfl) (Nat.le_of_ble_eq_true rfl) H2.m199 H2.o199 (ev_m_thrown L xs H2) ?_
  rw [e29]
  refine pm_Fv.go 1 (f' := (1, 596, [(5, _), (4, _), (0, _), (1, _), (2, _), (3, _)], [_, _])) rfl ?_
  refine pm_Fv.jeq rfl (by omega) rfl (fun h1 => ?_) (fun h1 => ?_)
  · refine pm_Fv.go 1 (f' := (1, 1831, [(5, _), (4, _), (0, _), (1, _), (2, _), (3, _)], [])) rfl ?_
    exact pm_Fv.weak (kk s2 _ _ J3) rfl
  · exact absurd h1 (by omega)
set_option maxRecDepth 8000 in
theorem lc_tag (J : JX N σ k0 l0) (n5 : N ≤ 600) {i : Int} (i0 : 0 ≤ i) (i7 : i + 7 ≤ L) (hL : L ≤ 3584) {Q : pm_O → pm_S → Prop} (kk : ∀ t k l, JX (N + 1) t k l → pm_Fv (tq_P L xs) (1, 1831, [(4, .int (zI i)), (0, .float 0), (1, .ref 0), (2, .ref 199), (3, .ref 208)], []) t Q) : pm_Fv (tq_P L xs) (1, 604, [(4, .int (zI i)), (0, .float 0), (1, .ref 0), (2, .ref 199), (3, .ref 208)], []) σ Q := by
  have szr := sx_r xs (i + 3)
  by_cases cz : sx xs (i + 3) = 0
  · skip
    refine pm_Fv.go 4 (f' := (1, 609, [(4, _), (0, _), (1, _), (2, _), (3, _)], [_, _, _, _])) rfl ?_
    refine pm_Fv.iadd rfl ?_
    refine pm_Fv.sc rfl (by omega) ?_
    refine pm_Fv.go 3 (f' := (1, 615, [(4, _), (0, _), (1, _), (2, _), (3, _)], [_, _, _, _, _])) rfl ?_
    refine pm_Fv.iadd rfl ?_
    refine pm_Fv.sc rfl (by omega) ?_
    refine pm_Fv.go 3 (f' := (1, 621, [(4, _), (0, _), (1, _), (2, _), (3, _)], [_, _, _, _, _, _])) rfl ?_
    refine pm_Fv.iadd rfl ?_
    refine pm_Fv.sc rfl (by omega) ?_
    refine pm_Fv.zeq rfl (by omega) rfl (fun h1 => ?_) (fun h1 => ?_)
    · refine pm_Fv.go 1 (f' := (1, 631, [(4, _), (0, _), (1, _), (2, _), (3, _)], [_, _, _, _])) rfl ?_
      refine pm_Fv.callG rfl rfl rfl rfl rfl (pm_Fv.mono (st_tag L xs J n5 (sx_r xs (i + 1)) (sx_r xs (i + 2)) (v := 0) (Or.inl rfl)) ?_)
      rintro o s1 ⟨c, hc, rfl, ⟨ad1, z1, ar1, lr1, H1⟩, q⟩
      refine ⟨_, rfl, ?_⟩
      refine pm_Fv.go 5 (f' := (1, 641, [(5, _), (4, _), (0, _), (1, _), (2, _), (3, _)], [_, _, _, _])) rfl ?_
      refine pm_Fv.iadd rfl ?_
      refine pm_Fv.sc rfl (by omega) ?_
      refine pm_Fv.go 3 (f' := (1, 647, [(5, _), (4, _), (0, _), (1, _), (2, _), (3, _)], [_, _, _, _, _])) rfl ?_
      refine pm_Fv.iadd rfl ?_
      refine pm_Fv.sc rfl (by omega) ?_
      refine pm_Fv.go 3 (f' := (1, 653, [(5, _), (4, _), (0, _), (1, _), (2, _), (3, _)], [_, _, _, _, _, _])) rfl ?_
      refine pm_Fv.iadd rfl ?_
      refine pm_Fv.sc rfl (by omega) ?_
      refine pm_Fv.zeq rfl (by omega) rfl (fun h2 => ?_) (fun h2 => ?_)
      · refine pm_Fv.go 1 (f' := (1, 663, [(5, _), (4, _), (0, _), (1, _), (2, _), (3, _)], [_, _, _, _])) rfl ?_
        refine pm_Fv.cvG rfl rfl rfl rfl (by decide) (Nat.le_of_ble_eq_true rfl) (Nat.le_of_ble_eq_true rfl) H1.m199 H1.o199 (pm_Fv.mono q ?_)
        rintro o s2 ⟨rfl, l, J2⟩
        refine ⟨_, rfl, ?_⟩
        have J3 := J2
        obtain ⟨ad2, z2, ar2, lr2, Cs2, H2, X2, F2, cn2, e29, el, rm2⟩ := J2
        refine pm_Fv.go 1 (f' := (1, 667, [(5, _), (4, _), (0, _), (1, _), (2, _), (3, _)], [_])) rfl ?_
        refine pm_Fv.cv rfl rfl rfl rfl (by decide) (Nat.le_of_ble_eq_true rfl) (Nat.le_of_ble_eq_true rfl) H2.m199 H2.o199 (ev_m_thrown L xs H2) ?_
        rw [e29]
        refine pm_Fv.go 1 (f' := (1, 672, [(5, _), (4, _), (0, _), (1, _), (2, _), (3, _)], [_, _])) rfl ?_
        refine pm_Fv.jeq rfl (by omega) rfl (fun h3 => ?_) (fun h3 => ?_)
        · refine pm_Fv.go 1 (f' := (1, 1831, [(5, _), (4, _), (0, _), (1, _), (2, _), (3, _)], [])) rfl ?_
          exact pm_Fv.weak (kk s2 _ _ J3) rfl
        · exact absurd h3 (by omega)
      · exact absurd h2 (by omega)
    · exact absurd h1 (by omega)
  · skip
    refine pm_Fv.go 4 (f' := (1, 609, [(4, _), (0, _), (1, _), (2, _), (3, _)], [_, _, _, _])) rfl ?_
    refine pm_Fv.iadd rfl ?_
    refine pm_Fv.sc rfl (by omega) ?_
    refine pm_Fv.go 3 (f' := (1, 615, [(4, _), (0, _), (1, _), (2, _), (3, _)], [_, _, _, _, _])) rfl ?_
    refine pm_Fv.iadd rfl ?_
    refine pm_Fv.sc rfl (by omega) ?_
    refine pm_Fv.go 3 (f' := (1, 621, [(4, _), (0, _), (1, _), (2, _), (3, _)], [_, _, _, _, _, _])) rfl ?_
    refine pm_Fv.iadd rfl ?_
    refine pm_Fv.sc rfl (by omega) ?_
    refine pm_Fv.zeq rfl (by omega) rfl (fun h1 => ?_) (fun h1 => ?_)
    · exact absurd h1 (by omega)
    · refine pm_Fv.go 2 (f' := (1, 631, [(4, _), (0, _), (1, _), (2, _), (3, _)], [_, _, _, _])) rfl ?_
      refine pm_Fv.callG rfl rfl rfl rfl rfl (pm_Fv.mono (st_tag L xs J n5 (sx_r xs (i + 1)) (sx_r xs (i + 2)) (v := 1) (Or.inr rfl)) ?_)
      rintro o s1 ⟨c, hc, rfl, ⟨ad1, z1, ar1, lr1, H1⟩, q⟩
      refine ⟨_, rfl, ?_⟩
      refine pm_Fv.go 5 (f' := (1, 641, [(5, _), (4, _), (0, _), (1, _), (2, _), (3, _)], [_, _, _, _])) rfl ?_
      refine pm_Fv.iadd rfl ?_
      refine pm_Fv.sc rfl (by omega) ?_
      refine pm_Fv.go 3 (f' := (1, 647, [(5, _), (4, _), (0, _), (1, _), (2, _), (3, _)], [_, _, _, _, _])) rfl ?_
      refine pm_Fv.iadd rfl ?_
      refine pm_Fv.sc rfl (by omega) ?_
      refine pm_Fv.go 3 (f' := (1, 653, [(5, _), (4, _), (0, _), (1, _), (2, _), (3, _)], [_, _, _, _, _, _])) rfl ?_
      refine pm_Fv.iadd rfl ?_
      refine pm_Fv.sc rfl (by omega) ?_
      refine pm_Fv.zeq rfl (by omega) rfl (fun h2 => ?_) (fun h2 => ?_)
      · exact absurd h2 (by omega)
      · refine pm_Fv.go 2 (f' := (1, 663, [(5, _), (4, _), (0, _), (1, _), (2, _), (3, _)], [_, _, _, _])) rfl ?_
        refine pm_Fv.cvG rfl rfl rfl rfl (by decide) (Nat.le_of_ble_eq_true rfl) (Nat.le_of_ble_eq_true rfl) H1.m199 H1.o199 (pm_Fv.mono q ?_)
        rintro o s2 ⟨rfl, l, J2⟩
        refine ⟨_, rfl, ?_⟩
        have J3 := J2
        obtain ⟨ad2, z2, ar2, lr2, Cs2, H2, X2, F2, cn2, e29, el, rm2⟩ := J2
        refine pm_Fv.go 1 (f' := (1, 667, [(5, _), (4, _), (0, _), (1, _), (2, _), (3, _)], [_])) rfl ?_
        refine pm_Fv.cv rfl rfl rfl rfl (by decide) (Nat.le_of_ble_eq_true rfl) (Nat.le_of_ble_eq_true rfl) H2.m199 H2.o199 (ev_m_thrown L xs H2) ?_
        rw [e29]
        refine pm_Fv.go 1 (f' := (1, 672, [(5, _), (4, _), (0, _), (1, _), (2, _), (3, _)], [_, _])) rfl ?_
        refine pm_Fv.jeq rfl (by omega) rfl (fun h3 => ?_) (fun h3 => ?_)
        · refine pm_Fv.go 1 (f' := (1, 1831, [(5, _), (4, _), (0, _), (1, _), (2, _), (3, _)], [])) rfl ?_
          exact pm_Fv.weak (kk s2 _ _ J3) rfl
        · exact absurd h3 (by omega)
set_option maxRecDepth 8000 in
theorem lc_date (J : JX N σ k0 l0) (n5 : N ≤ 600) {i : Int} (i0 : 0 ≤ i) (i7 : i + 7 ≤ L) (hL : L ≤ 3584) {Q : pm_O → pm_S → Prop} (kk : ∀ t k l, JX (N + 1) t k l → pm_Fv (tq_P L xs) (1, 1831, [(4, .int (zI i)), (0, .float 0), (1, .ref 0), (2, .ref 199), (3, .ref 208)], []) t Q) : pm_Fv (tq_P L xs) (1, 680, [(4, .int (zI i)), (0, .float 0), (1, .ref 0), (2, .ref 199), (3, .ref 208)], []) σ Q := by
  refine pm_Fv.go 4 (f' := (1, 685, [(4, _), (0, _), (1, _), (2, _), (3, _)], [_, _, _, _])) rfl ?_
  refine pm_Fv.iadd rfl ?_
  refine pm_Fv.sc rfl (by omega) ?_
  refine pm_Fv.go 3 (f' := (1, 691, [(4, _), (0, _), (1, _), (2, _), (3, _)], [_, _, _, _, _])) rfl ?_
  refine pm_Fv.iadd rfl ?_
  refine pm_Fv.sc rfl (by omega) ?_
  refine pm_Fv.go 3 (f' := (1, 697, [(4, _), (0, _), (1, _), (2, _), (3, _)], [_, _, _, _, _, _])) rfl ?_
  refine pm_Fv.iadd rfl ?_
  refine pm_Fv.sc rfl (by omega) ?_
  refine pm_Fv.go 3 (f' := (1, 703, [(4, _), (0, _), (1, _), (2, _), (3, _)], [_, _, _, _, _, _, _])) rfl ?_
  refine pm_Fv.iadd rfl ?_
  refine pm_Fv.sc rfl (by omega) ?_
  refine pm_Fv.go 3 (f' := (1, 709, [(4, _), (0, _), (1, _), (2, _), (3, _)], [_, _, _, _, _, _, _, _])) rfl ?_
  refine pm_Fv.iadd rfl ?_
  refine pm_Fv.sc rfl (by omega) ?_
  refine pm_Fv.go 2 (f' := (1, 714, [(4, _), (0, _), (1, _), (2, _), (3, _)], [_, _, _, _, _, _, _, _])) rfl ?_
  refine pm_Fv.bp rfl rfl ?_
  refine pm_Fv.iadd rfl ?_
  refine pm_Fv.sc rfl (by omega) ?_
  refine pm_Fv.callG rfl rfl rfl rfl rfl (pm_Fv.mono (st_date L xs J n5 (sx_r xs (i + 1)) (sx_r xs (i + 2)) (sx_r xs (i + 3)) (sx_r xs (i + 4)) (sx_r xs (i + 5)) (sx_r xs (i + 6))) ?_)
  rintro o s1 ⟨c, hc, rfl, ⟨ad1, z1, ar1, lr1, H1⟩, q⟩
  refine ⟨_, rfl, ?_⟩
  refine pm_Fv.go 5 (f' := (1, 728, [(5, _), (4, _), (0, _), (1, _), (2, _), (3, _)], [_, _, _, _])) rfl ?_
  refine pm_Fv.iadd rfl ?_
  refine pm_Fv.sc rfl (by omega) ?_
  refine pm_Fv.go 3 (f' := (1, 734, [(5, _), (4, _), (0, _), (1, _), (2, _), (3, _)], [_, _, _, _, _])) rfl ?_
  refine pm_Fv.iadd rfl ?_
  refine pm_Fv.sc rfl (by omega) ?_
  refine pm_Fv.go 3 (f' := (1, 740, [(5, _), (4, _), (0, _), (1, _), (2, _), (3, _)], [_, _, _, _, _, _])) rfl ?_
  refine pm_Fv.iadd rfl ?_
  refine pm_Fv.sc rfl (by omega) ?_
  refine pm_Fv.go 3 (f' := (1, 746, [(5, _), (4, _), (0, _), (1, _), (2, _), (3, _)], [_, _, _, _, _, _, _])) rfl ?_
  refine pm_Fv.iadd rfl ?_
  refine pm_Fv.sc rfl (by omega) ?_
  refine pm_Fv.go 3 (f' := (1, 752, [(5, _), (4, _), (0, _), (1, _), (2, _), (3, _)], [_, _, _, _, _, _, _, _])) rfl ?_
  refine pm_Fv.iadd rfl ?_
  refine pm_Fv.sc rfl (by omega) ?_
  refine pm_Fv.go 2 (f' := (1, 757, [(5, _), (4, _), (0, _), (1, _), (2, _), (3, _)], [_, _, _, _, _, _, _, _])) rfl ?_
  refine pm_Fv.bp rfl rfl ?_
  refine pm_Fv.iadd rfl ?_
  refine pm_Fv.sc rfl (by omega) ?_
  refine pm_Fv.cvG rfl rfl rfl rfl (by decide) (Nat.le_of_ble_eq_true rfl) (Nat.le_of_ble_eq_true rfl) H1.m199 H1.o199 (pm_Fv.mono q ?_)
  rintro o s2 ⟨rfl, l, J2⟩
  refine ⟨_, rfl, ?_⟩
  have J3 := J2
  obtain ⟨ad2, z2, ar2, lr2, Cs2, H2, X2, F2, cn2, e29, el, rm2⟩ := J2
  refine pm_Fv.go 1 (f' := (1, 765, [(5, _), (4, _), (0, _), (1, _), (2, _), (3, _)], [_])) rfl ?_
  refine pm_Fv.cv rfl rfl rfl rfl (by decide) (Nat.le_of_ble_eq_true rfl) (Nat.le_of_ble_eq_true rfl) H2.m199 H2.o199 (ev_m_thrown L xs H2) ?_
  rw [e29]
  refine pm_Fv.go 1 (f' := (1, 770, [(5, _), (4, _), (0, _), (1, _), (2, _), (3, _)], [_, _])) rfl ?_
  refine pm_Fv.jeq rfl (by omega) rfl (fun h1 => ?_) (fun h1 => ?_)
  · refine pm_Fv.go 1 (f' := (1, 1831, [(5, _), (4, _), (0, _), (1, _), (2, _), (3, _)], [])) rfl ?_
    exact pm_Fv.weak (kk s2 _ _ J3) rfl
  · exact absurd h1 (by omega)
set_option maxRecDepth 8000 in
theorem lc_minutes (J : JX N σ k0 l0) (n5 : N ≤ 600) {i : Int} (i0 : 0 ≤ i) (i7 : i + 7 ≤ L) (hL : L ≤ 3584) {Q : pm_O → pm_S → Prop} (kk : ∀ t k l, JX (N + 1) t k l → pm_Fv (tq_P L xs) (1, 1831, [(4, .int (zI i)), (0, .float 0), (1, .ref 0), (2, .ref 199), (3, .ref 208)], []) t Q) : pm_Fv (tq_P L xs) (1, 778, [(4, .int (zI i)), (0, .float 0), (1, .ref 0), (2, .ref 199), (3, .ref 208)], []) σ Q := by
  refine pm_Fv.go 4 (f' := (1, 783, [(4, _), (0, _), (1, _), (2, _), (3, _)], [_, _, _, _])) rfl ?_
  refine pm_Fv.iadd rfl ?_
  refine pm_Fv.sc rfl (by omega) ?_
  refine pm_Fv.go 3 (f' := (1, 789, [(4, _), (0, _), (1, _), (2, _), (3, _)], [_, _, _, _, _])) rfl ?_
  refine pm_Fv.iadd rfl ?_
  refine pm_Fv.sc rfl (by omega) ?_
  refine pm_Fv.go 3 (f' := (1, 795, [(4, _), (0, _), (1, _), (2, _), (3, _)], [_, _, _, _, _, _])) rfl ?_
  refine pm_Fv.iadd rfl ?_
  refine pm_Fv.sc rfl (by omega) ?_
  refine pm_Fv.callG rfl rfl rfl rfl rfl (pm_Fv.mono (st_minutes L xs J n5 (sx_r xs (i + 1)) (sx_r xs (i + 2)) (sx_r xs (i + 3))) ?_)
  rintro o s1 ⟨c, hc, rfl, ⟨ad1, z1, ar1, lr1, H1⟩, q⟩
  refine ⟨_, rfl, ?_⟩
  refine pm_Fv.go 5 (f' := (1, 807, [(5, _), (4, _), (0, _), (1, _), (2, _), (3, _)], [_, _, _, _])) rfl ?_
  refine pm_Fv.iadd rfl ?_
  refine pm_Fv.sc rfl (by omega) ?_
  refine pm_Fv.go 3 (f' := (1, 813, [(5, _), (4, _), (0, _), (1, _), (2, _), (3, _)], [_, _, _, _, _])) rfl ?_
  refine pm_Fv.iadd rfl ?_
  refine pm_Fv.sc rfl (by omega) ?_
  refine pm_Fv.go 3 (f' := (1, 819, [(5, _), (4, _), (0, _), (1, _), (2, _), (3, _)], [_, _, _, _, _, _])) rfl ?_
  refine pm_Fv.iadd rfl ?_
  refine pm_Fv.sc rfl (by omega) ?_
  refine pm_Fv.cvG rfl rfl rfl rfl (by decide) (Nat.le_of_ble_eq_true rfl) (Nat.le_of_ble_eq_true rfl) H1.m199 H1.o199 (pm_Fv.mono q ?_)
  rintro o s2 ⟨rfl, l, J2⟩
  refine ⟨_, rfl, ?_⟩
  have J3 := J2
  obtain ⟨ad2, z2, ar2, lr2, Cs2, H2, X2, F2, cn2, e29, el, rm2⟩ := J2
  refine pm_Fv.go 1 (f' := (1, 825, [(5, _), (4, _), (0, _), (1, _), (2, _), (3, _)], [_])) rfl ?_
  refine pm_Fv.cv rfl rfl rfl rfl (by decide) (Nat.le_of_ble_eq_true rfl) (Nat.le_of_ble_eq_true rfl) H2.m199 H2.o199 (ev_m_thrown L xs H2) ?_
  rw [e29]
  refine pm_Fv.go 1 (f' := (1, 830, [(5, _), (4, _), (0, _), (1, _), (2, _), (3, _)], [_, _])) rfl ?_
  refine pm_Fv.jeq rfl (by omega) rfl (fun h1 => ?_) (fun h1 => ?_)
  · refine pm_Fv.go 1 (f' := (1, 1831, [(5, _), (4, _), (0, _), (1, _), (2, _), (3, _)], [])) rfl ?_
    exact pm_Fv.weak (kk s2 _ _ J3) rfl
  · exact absurd h1 (by omega)
set_option maxRecDepth 8000 in
theorem lc_fold (J : JX N σ k0 l0) (n5 : N ≤ 600) {i : Int} (i0 : 0 ≤ i) (i7 : i + 7 ≤ L) (hL : L ≤ 3584) {Q : pm_O → pm_S → Prop} (kk : ∀ t k l, JX (N + 1) t k l → pm_Fv (tq_P L xs) (1, 1831, [(4, .int (zI i)), (0, .float 0), (1, .ref 0), (2, .ref 199), (3, .ref 208)], []) t Q) : pm_Fv (tq_P L xs) (1, 838, [(4, .int (zI i)), (0, .float 0), (1, .ref 0), (2, .ref 199), (3, .ref 208)], []) σ Q := by
  have szr := sx_r xs (i + 2)
  by_cases cz : sx xs (i + 2) = 0
  · skip
    refine pm_Fv.go 4 (f' := (1, 843, [(4, _), (0, _), (1, _), (2, _), (3, _)], [_, _, _, _])) rfl ?_
    refine pm_Fv.iadd rfl ?_
    refine pm_Fv.sc rfl (by omega) ?_
    refine pm_Fv.go 3 (f' := (1, 849, [(4, _), (0, _), (1, _), (2, _), (3, _)], [_, _, _, _, _])) rfl ?_
    refine pm_Fv.iadd rfl ?_
    refine pm_Fv.sc rfl (by omega) ?_
    refine pm_Fv.zeq rfl (by omega) rfl (fun h1 => ?_) (fun h1 => ?_)
    · refine pm_Fv.go 1 (f' := (1, 859, [(4, _), (0, _), (1, _), (2, _), (3, _)], [_, _, _])) rfl ?_
      refine pm_Fv.callG rfl rfl rfl rfl rfl (pm_Fv.mono (st_fold L xs J n5 (sx_r xs (i + 1)) (v := 0) (Or.inl rfl)) ?_)
      rintro o s1 ⟨c, hc, rfl, ⟨ad1, z1, ar1, lr1, H1⟩, q⟩
      refine ⟨_, rfl, ?_⟩
      refine pm_Fv.go 5 (f' := (1, 869, [(5, _), (4, _), (0, _), (1, _), (2, _), (3, _)], [_, _, _, _])) rfl ?_
      refine pm_Fv.iadd rfl ?_
      refine pm_Fv.sc rfl (by omega) ?_
      refine pm_Fv.go 3 (f' := (1, 875, [(5, _), (4, _), (0, _), (1, _), (2, _), (3, _)], [_, _, _, _, _])) rfl ?_
      refine pm_Fv.iadd rfl ?_
      refine pm_Fv.sc rfl (by omega) ?_
      refine pm_Fv.zeq rfl (by omega) rfl (fun h2 => ?_) (fun h2 => ?_)
      · refine pm_Fv.go 1 (f' := (1, 885, [(5, _), (4, _), (0, _), (1, _), (2, _), (3, _)], [_, _, _])) rfl ?_
        refine pm_Fv.cvG rfl rfl rfl rfl (by decide) (Nat.le_of_ble_eq_true rfl) (Nat.le_of_ble_eq_true rfl) H1.m199 H1.o199 (pm_Fv.mono q ?_)
        rintro o s2 ⟨rfl, l, J2⟩
        refine ⟨_, rfl, ?_⟩
        have J3 := J2
        obtain ⟨ad2, z2, ar2, lr2, Cs2, H2, X2, F2, cn2, e29, el, rm2⟩ := J2
        refine pm_Fv.go 1 (f' := (1, 889, [(5, _), (4, _), (0, _), (1, _), (2, _), (3, _)], [_])) rfl ?_
        refine pm_Fv.cv rfl rfl rfl rfl (by decide) (Nat.le_of_ble_eq_true rfl) (Nat.le_of_ble_eq_true rfl) H2.m199 H2.o199 (ev_m_thrown L xs H2) ?_
        rw [e29]
        refine pm_Fv.go 1 (f' := (1, 894, [(5, _), (4, _), (0, _), (1, _), (2, _), (3, _)], [_, _])) rfl ?_
        refine pm_Fv.jeq rfl (by omega) rfl (fun h3 => ?_) (fun h3 => ?_)
        · refine pm_Fv.go 1 (f' := (1, 1831, [(5, _), (4, _), (0, _), (1, _), (2, _), (3, _)], [])) rfl ?_
          exact pm_Fv.weak (kk s2 _ _ J3) rfl
        · exact absurd h3 (by omega)
      · exact absurd h2 (by omega)
    · exact absurd h1 (by omega)
  · skip
    refine pm_Fv.go 4 (f' := (1, 843, [(4, _), (0, _), (1, _), (2, _), (3, _)], [_, _, _, _])) rfl ?_
    refine pm_Fv.iadd rfl ?_
    refine pm_Fv.sc rfl (by omega) ?_
    refine pm_Fv.go 3 (f' := (1, 849, [(4, _), (0, _), (1, _), (2, _), (3, _)], [_, _, _, _, _])) rfl ?_
    refine pm_Fv.iadd rfl ?_
    refine pm_Fv.sc rfl (by omega) ?_
    refine pm_Fv.zeq rfl (by omega) rfl (fun h1 => ?_) (fun h1 => ?_)
    · exact absurd h1 (by omega)
    · refine pm_Fv.go 2 (f' := (1, 859, [(4, _), (0, _), (1, _), (2, _), (3, _)], [_, _, _])) rfl ?_
      refine pm_Fv.callG rfl rfl rfl rfl rfl (pm_Fv.mono (st_fold L xs J n5 (sx_r xs (i + 1)) (v := 1) (Or.inr rfl)) ?_)
      rintro o s1 ⟨c, hc, rfl, ⟨ad1, z1, ar1, lr1, H1⟩, q⟩
      refine ⟨_, rfl, ?_⟩
      refine pm_Fv.go 5 (f' := (1, 869, [(5, _), (4, _), (0, _), (1, _), (2, _), (3, _)], [_, _, _, _])) rfl ?_
      refine pm_Fv.iadd rfl ?_
      refine pm_Fv.sc rfl (by omega) ?_
      refine pm_Fv.go 3 (f' := (1, 875, [(5, _), (4, _), (0, _), (1, _), (2, _), (3, _)], [_, _, _, _, _])) rfl ?_
      refine pm_Fv.iadd rfl ?_
      refine pm_Fv.sc rfl (by omega) ?_
      refine pm_Fv.zeq rfl (by omega) rfl (fun h2 => ?_) (fun h2 => ?_)
      · exact absurd h2 (by omega)
      · refine pm_Fv.go 2 (f' := (1, 885, [(5, _), (4, _), (0, _), (1, _), (2, _), (3, _)], [_, _, _])) rfl ?_
        refine pm_Fv.cvG rfl rfl rfl rfl (by decide) (Nat.le_of_ble_eq_true rfl) (Nat.le_of_ble_eq_true rfl) H1.m199 H1.o199 (pm_Fv.mono q ?_)
        rintro o s2 ⟨rfl, l, J2⟩
        refine ⟨_, rfl, ?_⟩
        have J3 := J2
        obtain ⟨ad2, z2, ar2, lr2, Cs2, H2, X2, F2, cn2, e29, el, rm2⟩ := J2
        refine pm_Fv.go 1 (f' := (1, 889, [(5, _), (4, _), (0, _), (1, _), (2, _), (3, _)], [_])) rfl ?_
        refine pm_Fv.cv rfl rfl rfl rfl (by decide) (Nat.le_of_ble_eq_true rfl) (Nat.le_of_ble_eq_true rfl) H2.m199 H2.o199 (ev_m_thrown L xs H2) ?_
        rw [e29]
        refine pm_Fv.go 1 (f' := (1, 894, [(5, _), (4, _), (0, _), (1, _), (2, _), (3, _)], [_, _])) rfl ?_
        refine pm_Fv.jeq rfl (by omega) rfl (fun h3 => ?_) (fun h3 => ?_)
        · refine pm_Fv.go 1 (f' := (1, 1831, [(5, _), (4, _), (0, _), (1, _), (2, _), (3, _)], [])) rfl ?_
          exact pm_Fv.weak (kk s2 _ _ J3) rfl
        · exact absurd h3 (by omega)
set_option maxRecDepth 8000 in
theorem lc_sort (J : JX N σ k0 l0) (n5 : N ≤ 600) {i : Int} (i0 : 0 ≤ i) (i7 : i + 7 ≤ L) (hL : L ≤ 3584) {Q : pm_O → pm_S → Prop} (kk : ∀ t k l, JX (N + 1) t k l → pm_Fv (tq_P L xs) (1, 1831, [(4, .int (zI i)), (0, .float 0), (1, .ref 0), (2, .ref 199), (3, .ref 208)], []) t Q) : pm_Fv (tq_P L xs) (1, 902, [(4, .int (zI i)), (0, .float 0), (1, .ref 0), (2, .ref 199), (3, .ref 208)], []) σ Q := by
  refine pm_Fv.go 4 (f' := (1, 907, [(4, _), (0, _), (1, _), (2, _), (3, _)], [_, _, _, _])) rfl ?_
  refine pm_Fv.iadd rfl ?_
  refine pm_Fv.sc rfl (by omega) ?_
  refine pm_Fv.go 3 (f' := (1, 913, [(4, _), (0, _), (1, _), (2, _), (3, _)], [_, _, _, _, _])) rfl ?_
  refine pm_Fv.iadd rfl ?_
  refine pm_Fv.sc rfl (by omega) ?_
  refine pm_Fv.callG rfl rfl rfl rfl rfl (pm_Fv.mono (st_sort L xs J n5 (sx_r xs (i + 1)) (sx_r xs (i + 2))) ?_)
  rintro o s1 ⟨c, hc, rfl, ⟨ad1, z1, ar1, lr1, H1⟩, q⟩
  refine ⟨_, rfl, ?_⟩
  refine pm_Fv.go 5 (f' := (1, 925, [(5, _), (4, _), (0, _), (1, _), (2, _), (3, _)], [_, _, _, _])) rfl ?_
  refine pm_Fv.iadd rfl ?_
  refine pm_Fv.sc rfl (by omega) ?_
  refine pm_Fv.go 3 (f' := (1, 931, [(5, _), (4, _), (0, _), (1, _), (2, _), (3, _)], [_, _, _, _, _])) rfl ?_
  refine pm_Fv.iadd rfl ?_
  refine pm_Fv.sc rfl (by omega) ?_
  refine pm_Fv.cvG rfl rfl rfl rfl (by decide) (Nat.le_of_ble_eq_true rfl) (Nat.le_of_ble_eq_true rfl) H1.m199 H1.o199 (pm_Fv.mono q ?_)
  rintro o s2 ⟨rfl, l, J2⟩
  refine ⟨_, rfl, ?_⟩
  have J3 := J2
  obtain ⟨ad2, z2, ar2, lr2, Cs2, H2, X2, F2, cn2, e29, el, rm2⟩ := J2
  refine pm_Fv.go 1 (f' := (1, 937, [(5, _), (4, _), (0, _), (1, _), (2, _), (3, _)], [_])) rfl ?_
  refine pm_Fv.cv rfl rfl rfl rfl (by decide) (Nat.le_of_ble_eq_true rfl) (Nat.le_of_ble_eq_true rfl) H2.m199 H2.o199 (ev_m_thrown L xs H2) ?_
  rw [e29]
  refine pm_Fv.go 1 (f' := (1, 942, [(5, _), (4, _), (0, _), (1, _), (2, _), (3, _)], [_, _])) rfl ?_
  refine pm_Fv.jeq rfl (by omega) rfl (fun h1 => ?_) (fun h1 => ?_)
  · refine pm_Fv.go 1 (f' := (1, 1831, [(5, _), (4, _), (0, _), (1, _), (2, _), (3, _)], [])) rfl ?_
    exact pm_Fv.weak (kk s2 _ _ J3) rfl
  · exact absurd h1 (by omega)
set_option maxRecDepth 8000 in
theorem lc_open (J : JX N σ k0 l0) (n5 : N ≤ 600) {i : Int} (i0 : 0 ≤ i) (i7 : i + 7 ≤ L) (hL : L ≤ 3584) {Q : pm_O → pm_S → Prop} (kk : ∀ t k l, JX (N + 1) t k l → pm_Fv (tq_P L xs) (1, 1831, [(4, .int (zI i)), (0, .float 0), (1, .ref 0), (2, .ref 199), (3, .ref 208)], []) t Q) : pm_Fv (tq_P L xs) (1, 950, [(4, .int (zI i)), (0, .float 0), (1, .ref 0), (2, .ref 199), (3, .ref 208)], []) σ Q := by
  refine pm_Fv.go 1 (f' := (1, 951, [(4, _), (0, _), (1, _), (2, _), (3, _)], [_])) rfl ?_
  refine pm_Fv.callG rfl rfl rfl rfl rfl (pm_Fv.mono (st_open L xs J n5 ) ?_)
  rintro o s1 ⟨c, hc, rfl, ⟨ad1, z1, ar1, lr1, H1⟩, q⟩
  refine ⟨_, rfl, ?_⟩
  refine pm_Fv.go 2 (f' := (1, 957, [(5, _), (4, _), (0, _), (1, _), (2, _), (3, _)], [_])) rfl ?_
  refine pm_Fv.cvG rfl rfl rfl rfl (by decide) (Nat.le_of_ble_eq_true rfl) (Nat.le_of_ble_eq_true rfl) H1.m199 H1.o199 (pm_Fv.mono q ?_)
  rintro o s2 ⟨rfl, l, J2⟩
  refine ⟨_, rfl, ?_⟩
  have J3 := J2
  obtain ⟨ad2, z2, ar2, lr2, Cs2, H2, X2, F2, cn2, e29, el, rm2⟩ := J2
  refine pm_Fv.go 1 (f' := (1, 961, [(5, _), (4, _), (0, _), (1, _), (2, _), (3, _)], [_])) rfl ?_
  refine pm_Fv.cv rfl rfl rfl rfl (by decide) (Nat.le_of_ble_eq_true rfl) (Nat.le_of_ble_eq_true rfl) H2.m199 H2.o199 (ev_m_thrown L xs H2) ?_
  rw [e29]
  refine pm_Fv.go 1 (f' := (1, 966, [(5, _), (4, _), (0, _), (1, _), (2, _), (3, _)], [_, _])) rfl ?_
  refine pm_Fv.jeq rfl (by omega) rfl (fun h1 => ?_) (fun h1 => ?_)
  · refine pm_Fv.go 1 (f' := (1, 1831, [(5, _), (4, _), (0, _), (1, _), (2, _), (3, _)], [])) rfl ?_
    exact pm_Fv.weak (kk s2 _ _ J3) rfl
  · exact absurd h1 (by omega)
set_option maxRecDepth 8000 in
theorem lc_close (J : JX N σ k0 l0) (n5 : N ≤ 600) {i : Int} (i0 : 0 ≤ i) (i7 : i + 7 ≤ L) (hL : L ≤ 3584) {Q : pm_O → pm_S → Prop} (kk : ∀ t k l, JX (N + 1) t k l → pm_Fv (tq_P L xs) (1, 1831, [(4, .int (zI i)), (0, .float 0), (1, .ref 0), (2, .ref 199), (3, .ref 208)], []) t Q) : pm_Fv (tq_P L xs) (1, 974, [(4, .int (zI i)), (0, .float 0), (1, .ref 0), (2, .ref 199), (3, .ref 208)], []) σ Q := by
  refine pm_Fv.go 2 (f' := (1, 976, [(4, _), (0, _), (1, _), (2, _), (3, _)], [_, _])) rfl ?_
  refine pm_Fv.callG rfl rfl rfl rfl rfl (pm_Fv.mono (st_close L xs J n5 ) ?_)
  rintro o s1 ⟨c, hc, rfl, ⟨ad1, z1, ar1, lr1, H1⟩, q⟩
  refine ⟨_, rfl, ?_⟩
  refine pm_Fv.go 2 (f' := (1, 982, [(5, _), (4, _), (0, _), (1, _), (2, _), (3, _)], [_])) rfl ?_
  refine pm_Fv.cvG rfl rfl rfl rfl (by decide) (Nat.le_of_ble_eq_true rfl) (Nat.le_of_ble_eq_true rfl) H1.m199 H1.o199 (pm_Fv.mono q ?_)
  rintro o s2 ⟨v, vr, rfl, l, J2, hv⟩
  refine ⟨_, rfl, ?_⟩
  have J3 := J2
  obtain ⟨ad2, z2, ar2, lr2, Cs2, H2, X2, F2, cn2, e29, el, rm2⟩ := J2
  refine pm_Fv.go 2 (f' := (1, 988, [(6, _), (5, _), (4, _), (0, _), (1, _), (2, _), (3, _)], [_])) rfl ?_
  refine pm_Fv.cv rfl rfl rfl rfl (by decide) (Nat.le_of_ble_eq_true rfl) (Nat.le_of_ble_eq_true rfl) H2.m199 H2.o199 (ev_m_thrown L xs H2) ?_
  rw [e29]
  refine pm_Fv.go 1 (f' := (1, 993, [(6, _), (5, _), (4, _), (0, _), (1, _), (2, _), (3, _)], [_, _])) rfl ?_
  refine pm_Fv.jeq rfl (by omega) rfl (fun h1 => ?_) (fun h1 => ?_)
  · refine pm_Fv.go 1 (f' := (1, 1000, [(6, _), (5, _), (4, _), (0, _), (1, _), (2, _), (3, _)], [_])) rfl ?_
    refine pm_Fv.zne rfl (by omega) rfl (fun h2 => ?_) (fun h2 => ?_)
    · refine pm_Fv.go 1 (f' := (1, 1831, [(6, _), (5, _), (4, _), (0, _), (1, _), (2, _), (3, _)], [])) rfl ?_
      exact pm_Fv.weak (kk s2 _ _ J3) rfl
    · refine pm_Fv.go 2 (f' := (1, 1005, [(6, _), (5, _), (4, _), (0, _), (1, _), (2, _), (3, _)], [_, _])) rfl ?_
      refine pm_Fv.oll H2 F2.o1 (el.trans (hv (by omega))) rfl ?_
      refine pm_Fv.go 1 (f' := (1, 1008, [(6, _), (5, _), (4, _), (0, _), (1, _), (2, _), (3, _)], [_, _])) rfl ?_
      refine pm_Fv.i2l rfl (by omega) ?_
      refine pm_Fv.lcmp rfl (by omega) ?_
      rw [if_neg (by omega), if_pos (by omega)]
      refine pm_Fv.zeq rfl (by omega) rfl (fun h3 => ?_) (fun h3 => ?_)
      · refine pm_Fv.go 1 (f' := (1, 1831, [(6, _), (5, _), (4, _), (0, _), (1, _), (2, _), (3, _)], [])) rfl ?_
        exact pm_Fv.weak (kk s2 _ _ J3) rfl
      · exact absurd h3 (by omega)
  · exact absurd h1 (by omega)
set_option maxRecDepth 8000 in
theorem lc_undo (J : JX N σ k0 l0) (n5 : N ≤ 600) {i : Int} (i0 : 0 ≤ i) (i7 : i + 7 ≤ L) (hL : L ≤ 3584) {Q : pm_O → pm_S → Prop} (kk : ∀ t k l, JX (N + 1) t k l → pm_Fv (tq_P L xs) (1, 1831, [(4, .int (zI i)), (0, .float 0), (1, .ref 0), (2, .ref 199), (3, .ref 208)], []) t Q) : pm_Fv (tq_P L xs) (1, 1018, [(4, .int (zI i)), (0, .float 0), (1, .ref 0), (2, .ref 199), (3, .ref 208)], []) σ Q := by
  refine pm_Fv.go 2 (f' := (1, 1020, [(4, _), (0, _), (1, _), (2, _), (3, _)], [_, _])) rfl ?_
  refine pm_Fv.callG rfl rfl rfl rfl rfl (pm_Fv.mono (st_undo L xs J n5 ) ?_)
  rintro o s1 ⟨c, hc, rfl, ⟨ad1, z1, ar1, lr1, H1⟩, q⟩
  refine ⟨_, rfl, ?_⟩
  refine pm_Fv.go 2 (f' := (1, 1026, [(5, _), (4, _), (0, _), (1, _), (2, _), (3, _)], [_])) rfl ?_
  refine pm_Fv.cvG rfl rfl rfl rfl (by decide) (Nat.le_of_ble_eq_true rfl) (Nat.le_of_ble_eq_true rfl) H1.m199 H1.o199 (pm_Fv.mono q ?_)
  rintro o s2 ⟨v, vr, rfl, l, J2, hv⟩
  refine ⟨_, rfl, ?_⟩
  have J3 := J2
  obtain ⟨ad2, z2, ar2, lr2, Cs2, H2, X2, F2, cn2, e29, el, rm2⟩ := J2
  refine pm_Fv.go 2 (f' := (1, 1032, [(6, _), (5, _), (4, _), (0, _), (1, _), (2, _), (3, _)], [_])) rfl ?_
  refine pm_Fv.cv rfl rfl rfl rfl (by decide) (Nat.le_of_ble_eq_true rfl) (Nat.le_of_ble_eq_true rfl) H2.m199 H2.o199 (ev_m_thrown L xs H2) ?_
  rw [e29]
  refine pm_Fv.go 1 (f' := (1, 1037, [(6, _), (5, _), (4, _), (0, _), (1, _), (2, _), (3, _)], [_, _])) rfl ?_
  refine pm_Fv.jeq rfl (by omega) rfl (fun h1 => ?_) (fun h1 => ?_)
  · refine pm_Fv.go 1 (f' := (1, 1044, [(6, _), (5, _), (4, _), (0, _), (1, _), (2, _), (3, _)], [_])) rfl ?_
    refine pm_Fv.zne rfl (by omega) rfl (fun h2 => ?_) (fun h2 => ?_)
    · refine pm_Fv.go 1 (f' := (1, 1831, [(6, _), (5, _), (4, _), (0, _), (1, _), (2, _), (3, _)], [])) rfl ?_
      exact pm_Fv.weak (kk s2 _ _ J3) rfl
    · refine pm_Fv.go 2 (f' := (1, 1049, [(6, _), (5, _), (4, _), (0, _), (1, _), (2, _), (3, _)], [_, _])) rfl ?_
      refine pm_Fv.oll H2 F2.o1 (el.trans (hv (by omega))) rfl ?_
      refine pm_Fv.go 1 (f' := (1, 1052, [(6, _), (5, _), (4, _), (0, _), (1, _), (2, _), (3, _)], [_, _])) rfl ?_
      refine pm_Fv.zeq rfl (by omega) rfl (fun h3 => ?_) (fun h3 => ?_)
      · refine pm_Fv.lc 0 rfl rfl ?_
        refine pm_Fv.lcmp rfl (by omega) ?_
        rw [if_neg (by omega), if_pos (by omega)]
        refine pm_Fv.zeq rfl (by omega) rfl (fun h4 => ?_) (fun h4 => ?_)
        · refine pm_Fv.go 1 (f' := (1, 1831, [(6, _), (5, _), (4, _), (0, _), (1, _), (2, _), (3, _)], [])) rfl ?_
          exact pm_Fv.weak (kk s2 _ _ J3) rfl
        · exact absurd h4 (by omega)
      · refine pm_Fv.lc 1 rfl rfl ?_
        refine pm_Fv.go 1 (f' := (1, 1060, [(6, _), (5, _), (4, _), (0, _), (1, _), (2, _), (3, _)], [_, _])) rfl ?_
        refine pm_Fv.lcmp rfl (by omega) ?_
        rw [if_neg (by omega), if_pos (by omega)]
        refine pm_Fv.zeq rfl (by omega) rfl (fun h5 => ?_) (fun h5 => ?_)
        · refine pm_Fv.go 1 (f' := (1, 1831, [(6, _), (5, _), (4, _), (0, _), (1, _), (2, _), (3, _)], [])) rfl ?_
          exact pm_Fv.weak (kk s2 _ _ J3) rfl
        · exact absurd h5 (by omega)
  · exact absurd h1 (by omega)
set_option maxRecDepth 8000 in
theorem lc_redo (J : JX N σ k0 l0) (n5 : N ≤ 600) {i : Int} (i0 : 0 ≤ i) (i7 : i + 7 ≤ L) (hL : L ≤ 3584) {Q : pm_O → pm_S → Prop} (kk : ∀ t k l, JX (N + 1) t k l → pm_Fv (tq_P L xs) (1, 1831, [(4, .int (zI i)), (0, .float 0), (1, .ref 0), (2, .ref 199), (3, .ref 208)], []) t Q) : pm_Fv (tq_P L xs) (1, 1069, [(4, .int (zI i)), (0, .float 0), (1, .ref 0), (2, .ref 199), (3, .ref 208)], []) σ Q := by
  refine pm_Fv.go 2 (f' := (1, 1071, [(4, _), (0, _), (1, _), (2, _), (3, _)], [_, _])) rfl ?_
  refine pm_Fv.callG rfl rfl rfl rfl rfl (pm_Fv.mono (st_redo L xs J n5 ) ?_)
  rintro o s1 ⟨c, hc, rfl, ⟨ad1, z1, ar1, lr1, H1⟩, q⟩
  refine ⟨_, rfl, ?_⟩
  refine pm_Fv.go 2 (f' := (1, 1077, [(5, _), (4, _), (0, _), (1, _), (2, _), (3, _)], [_])) rfl ?_
  refine pm_Fv.cvG rfl rfl rfl rfl (by decide) (Nat.le_of_ble_eq_true rfl) (Nat.le_of_ble_eq_true rfl) H1.m199 H1.o199 (pm_Fv.mono q ?_)
  rintro o s2 ⟨v, vr, rfl, l, J2, hv⟩
  refine ⟨_, rfl, ?_⟩
  have J3 := J2
  obtain ⟨ad2, z2, ar2, lr2, Cs2, H2, X2, F2, cn2, e29, el, rm2⟩ := J2
  refine pm_Fv.go 2 (f' := (1, 1083, [(6, _), (5, _), (4, _), (0, _), (1, _), (2, _), (3, _)], [_])) rfl ?_
  refine pm_Fv.cv rfl rfl rfl rfl (by decide) (Nat.le_of_ble_eq_true rfl) (Nat.le_of_ble_eq_true rfl) H2.m199 H2.o199 (ev_m_thrown L xs H2) ?_
  rw [e29]
  refine pm_Fv.go 1 (f' := (1, 1088, [(6, _), (5, _), (4, _), (0, _), (1, _), (2, _), (3, _)], [_, _])) rfl ?_
  refine pm_Fv.jeq rfl (by omega) rfl (fun h1 => ?_) (fun h1 => ?_)
  · refine pm_Fv.go 1 (f' := (1, 1095, [(6, _), (5, _), (4, _), (0, _), (1, _), (2, _), (3, _)], [_])) rfl ?_
    refine pm_Fv.zne rfl (by omega) rfl (fun h2 => ?_) (fun h2 => ?_)
    · refine pm_Fv.go 1 (f' := (1, 1831, [(6, _), (5, _), (4, _), (0, _), (1, _), (2, _), (3, _)], [])) rfl ?_
      exact pm_Fv.weak (kk s2 _ _ J3) rfl
    · refine pm_Fv.go 2 (f' := (1, 1100, [(6, _), (5, _), (4, _), (0, _), (1, _), (2, _), (3, _)], [_, _])) rfl ?_
      refine pm_Fv.oll H2 F2.o1 (el.trans (hv (by omega))) rfl ?_
      refine pm_Fv.go 1 (f' := (1, 1103, [(6, _), (5, _), (4, _), (0, _), (1, _), (2, _), (3, _)], [_, _])) rfl ?_
      refine pm_Fv.zeq rfl (by omega) rfl (fun h3 => ?_) (fun h3 => ?_)
      · refine pm_Fv.lc 0 rfl rfl ?_
        refine pm_Fv.lcmp rfl (by omega) ?_
        rw [if_neg (by omega), if_pos (by omega)]
        refine pm_Fv.zeq rfl (by omega) rfl (fun h4 => ?_) (fun h4 => ?_)
        · refine pm_Fv.go 1 (f' := (1, 1831, [(6, _), (5, _), (4, _), (0, _), (1, _), (2, _), (3, _)], [])) rfl ?_
          exact pm_Fv.weak (kk s2 _ _ J3) rfl
        · exact absurd h4 (by omega)
      · refine pm_Fv.lc 1 rfl rfl ?_
        refine pm_Fv.go 1 (f' := (1, 1111, [(6, _), (5, _), (4, _), (0, _), (1, _), (2, _), (3, _)], [_, _])) rfl ?_
        refine pm_Fv.lcmp rfl (by omega) ?_
        rw [if_neg (by omega), if_pos (by omega)]
        refine pm_Fv.zeq rfl (by omega) rfl (fun h5 => ?_) (fun h5 => ?_)
        · refine pm_Fv.go 1 (f' := (1, 1831, [(6, _), (5, _), (4, _), (0, _), (1, _), (2, _), (3, _)], [])) rfl ?_
          exact pm_Fv.weak (kk s2 _ _ J3) rfl
        · exact absurd h5 (by omega)
  · exact absurd h1 (by omega)
set_option maxRecDepth 8000 in
theorem lc_steps (J : JX N σ k0 l0) (n5 : N ≤ 600) {i : Int} (i0 : 0 ≤ i) (i7 : i + 7 ≤ L) (hL : L ≤ 3584) {Q : pm_O → pm_S → Prop} (kk : ∀ t k l, JX (N + 1) t k l → pm_Fv (tq_P L xs) (1, 1831, [(4, .int (zI i)), (0, .float 0), (1, .ref 0), (2, .ref 199), (3, .ref 208)], []) t Q) : pm_Fv (tq_P L xs) (1, 1120, [(4, .int (zI i)), (0, .float 0), (1, .ref 0), (2, .ref 199), (3, .ref 208)], []) σ Q := by
  refine pm_Fv.go 4 (f' := (1, 1125, [(4, _), (0, _), (1, _), (2, _), (3, _)], [_, _, _, _])) rfl ?_
  refine pm_Fv.iadd rfl ?_
  refine pm_Fv.sc rfl (by omega) ?_
  refine pm_Fv.go 1 (f' := (1, 1128, [(4, _), (0, _), (1, _), (2, _), (3, _)], [_, _, _])) rfl ?_
  refine pm_Fv.callG rfl rfl rfl rfl rfl (pm_Fv.mono (st_steps L xs J n5 (sx_r xs (i + 1))) ?_)
  rintro o s1 ⟨c, hc, rfl, ⟨ad1, z1, ar1, lr1, H1⟩, q⟩
  refine ⟨_, rfl, ?_⟩
  refine pm_Fv.go 5 (f' := (1, 1138, [(5, _), (4, _), (0, _), (1, _), (2, _), (3, _)], [_, _, _, _])) rfl ?_
  refine pm_Fv.iadd rfl ?_
  refine pm_Fv.sc rfl (by omega) ?_
  refine pm_Fv.cvG rfl rfl rfl rfl (by decide) (Nat.le_of_ble_eq_true rfl) (Nat.le_of_ble_eq_true rfl) H1.m199 H1.o199 (pm_Fv.mono q ?_)
  rintro o s2 ⟨v, vr, rfl, l, J2, hv⟩
  refine ⟨_, rfl, ?_⟩
  have J3 := J2
  obtain ⟨ad2, z2, ar2, lr2, Cs2, H2, X2, F2, cn2, e29, el, rm2⟩ := J2
  refine pm_Fv.go 2 (f' := (1, 1146, [(6, _), (5, _), (4, _), (0, _), (1, _), (2, _), (3, _)], [_])) rfl ?_
  refine pm_Fv.cv rfl rfl rfl rfl (by decide) (Nat.le_of_ble_eq_true rfl) (Nat.le_of_ble_eq_true rfl) H2.m199 H2.o199 (ev_m_thrown L xs H2) ?_
  rw [e29]
  refine pm_Fv.go 1 (f' := (1, 1151, [(6, _), (5, _), (4, _), (0, _), (1, _), (2, _), (3, _)], [_, _])) rfl ?_
  refine pm_Fv.jeq rfl (by omega) rfl (fun h1 => ?_) (fun h1 => ?_)
  · refine pm_Fv.go 1 (f' := (1, 1158, [(6, _), (5, _), (4, _), (0, _), (1, _), (2, _), (3, _)], [_])) rfl ?_
    refine pm_Fv.zne rfl (by omega) rfl (fun h2 => ?_) (fun h2 => ?_)
    · refine pm_Fv.go 1 (f' := (1, 1831, [(6, _), (5, _), (4, _), (0, _), (1, _), (2, _), (3, _)], [])) rfl ?_
      exact pm_Fv.weak (kk s2 _ _ J3) rfl
    · refine pm_Fv.go 2 (f' := (1, 1163, [(6, _), (5, _), (4, _), (0, _), (1, _), (2, _), (3, _)], [_, _])) rfl ?_
      refine pm_Fv.oll H2 F2.o1 (el.trans (hv (by omega))) rfl ?_
      refine pm_Fv.go 1 (f' := (1, 1166, [(6, _), (5, _), (4, _), (0, _), (1, _), (2, _), (3, _)], [_, _])) rfl ?_
      refine pm_Fv.i2l rfl (by omega) ?_
      refine pm_Fv.lcmp rfl (by omega) ?_
      rw [if_neg (by omega), if_pos (by omega)]
      refine pm_Fv.zeq rfl (by omega) rfl (fun h3 => ?_) (fun h3 => ?_)
      · refine pm_Fv.go 1 (f' := (1, 1831, [(6, _), (5, _), (4, _), (0, _), (1, _), (2, _), (3, _)], [])) rfl ?_
        exact pm_Fv.weak (kk s2 _ _ J3) rfl
      · exact absurd h3 (by omega)
  · exact absurd h1 (by omega)
set_option maxRecDepth 8000 in
theorem lc_today (J : JX N σ k0 l0) (n5 : N ≤ 600) {i : Int} (i0 : 0 ≤ i) (i7 : i + 7 ≤ L) (hL : L ≤ 3584) {Q : pm_O → pm_S → Prop} (kk : ∀ t k l, JX (N + 1) t k l → pm_Fv (tq_P L xs) (1, 1831, [(4, .int (zI i)), (0, .float 0), (1, .ref 0), (2, .ref 199), (3, .ref 208)], []) t Q) : pm_Fv (tq_P L xs) (1, 1176, [(4, .int (zI i)), (0, .float 0), (1, .ref 0), (2, .ref 199), (3, .ref 208)], []) σ Q := by
  refine pm_Fv.go 4 (f' := (1, 1181, [(4, _), (0, _), (1, _), (2, _), (3, _)], [_, _, _, _])) rfl ?_
  refine pm_Fv.iadd rfl ?_
  refine pm_Fv.sc rfl (by omega) ?_
  refine pm_Fv.go 1 (f' := (1, 1184, [(4, _), (0, _), (1, _), (2, _), (3, _)], [_, _, _])) rfl ?_
  refine pm_Fv.callG rfl rfl rfl rfl rfl (pm_Fv.mono (st_today L xs J n5 (sx_r xs (i + 1))) ?_)
  rintro o s1 ⟨c, hc, rfl, ⟨ad1, z1, ar1, lr1, H1⟩, q⟩
  refine ⟨_, rfl, ?_⟩
  refine pm_Fv.go 5 (f' := (1, 1194, [(5, _), (4, _), (0, _), (1, _), (2, _), (3, _)], [_, _, _, _])) rfl ?_
  refine pm_Fv.iadd rfl ?_
  refine pm_Fv.sc rfl (by omega) ?_
  refine pm_Fv.cvG rfl rfl rfl rfl (by decide) (Nat.le_of_ble_eq_true rfl) (Nat.le_of_ble_eq_true rfl) H1.m199 H1.o199 (pm_Fv.mono q ?_)
  rintro o s2 ⟨v, vr, rfl, l, J2, hv⟩
  refine ⟨_, rfl, ?_⟩
  have J3 := J2
  obtain ⟨ad2, z2, ar2, lr2, Cs2, H2, X2, F2, cn2, e29, el, rm2⟩ := J2
  refine pm_Fv.go 2 (f' := (1, 1202, [(6, _), (5, _), (4, _), (0, _), (1, _), (2, _), (3, _)], [_])) rfl ?_
  refine pm_Fv.cv rfl rfl rfl rfl (by decide) (Nat.le_of_ble_eq_true rfl) (Nat.le_of_ble_eq_true rfl) H2.m199 H2.o199 (ev_m_thrown L xs H2) ?_
  rw [e29]
  refine pm_Fv.go 1 (f' := (1, 1207, [(6, _), (5, _), (4, _), (0, _), (1, _), (2, _), (3, _)], [_, _])) rfl ?_
  refine pm_Fv.jeq rfl (by omega) rfl (fun h1 => ?_) (fun h1 => ?_)
  · refine pm_Fv.go 1 (f' := (1, 1214, [(6, _), (5, _), (4, _), (0, _), (1, _), (2, _), (3, _)], [_])) rfl ?_
    refine pm_Fv.zne rfl (by omega) rfl (fun h2 => ?_) (fun h2 => ?_)
    · refine pm_Fv.go 1 (f' := (1, 1831, [(6, _), (5, _), (4, _), (0, _), (1, _), (2, _), (3, _)], [])) rfl ?_
      exact pm_Fv.weak (kk s2 _ _ J3) rfl
    · refine pm_Fv.go 2 (f' := (1, 1219, [(6, _), (5, _), (4, _), (0, _), (1, _), (2, _), (3, _)], [_, _])) rfl ?_
      refine pm_Fv.oll H2 F2.o1 (el.trans (hv (by omega))) rfl ?_
      refine pm_Fv.go 1 (f' := (1, 1222, [(6, _), (5, _), (4, _), (0, _), (1, _), (2, _), (3, _)], [_, _])) rfl ?_
      refine pm_Fv.i2l rfl (by omega) ?_
      refine pm_Fv.lcmp rfl (by omega) ?_
      rw [if_neg (by omega), if_pos (by omega)]
      refine pm_Fv.zeq rfl (by omega) rfl (fun h3 => ?_) (fun h3 => ?_)
      · refine pm_Fv.go 1 (f' := (1, 1831, [(6, _), (5, _), (4, _), (0, _), (1, _), (2, _), (3, _)], [])) rfl ?_
        exact pm_Fv.weak (kk s2 _ _ J3) rfl
      · exact absurd h3 (by omega)
  · exact absurd h1 (by omega)
set_option maxRecDepth 8000 in
theorem lc_day (J : JX N σ k0 l0) (n5 : N ≤ 600) {i : Int} (i0 : 0 ≤ i) (i7 : i + 7 ≤ L) (hL : L ≤ 3584) {Q : pm_O → pm_S → Prop} (kk : ∀ t k l, JX (N + 1) t k l → pm_Fv (tq_P L xs) (1, 1831, [(4, .int (zI i)), (0, .float 0), (1, .ref 0), (2, .ref 199), (3, .ref 208)], []) t Q) : pm_Fv (tq_P L xs) (1, 1232, [(4, .int (zI i)), (0, .float 0), (1, .ref 0), (2, .ref 199), (3, .ref 208)], []) σ Q := by
  refine pm_Fv.go 4 (f' := (1, 1237, [(4, _), (0, _), (1, _), (2, _), (3, _)], [_, _, _, _])) rfl ?_
  refine pm_Fv.iadd rfl ?_
  refine pm_Fv.sc rfl (by omega) ?_
  refine pm_Fv.go 3 (f' := (1, 1243, [(4, _), (0, _), (1, _), (2, _), (3, _)], [_, _, _, _, _])) rfl ?_
  refine pm_Fv.iadd rfl ?_
  refine pm_Fv.sc rfl (by omega) ?_
  refine pm_Fv.go 3 (f' := (1, 1249, [(4, _), (0, _), (1, _), (2, _), (3, _)], [_, _, _, _, _, _])) rfl ?_
  refine pm_Fv.iadd rfl ?_
  refine pm_Fv.sc rfl (by omega) ?_
  refine pm_Fv.go 1 (f' := (1, 1252, [(4, _), (0, _), (1, _), (2, _), (3, _)], [_, _, _, _, _])) rfl ?_
  refine pm_Fv.callG rfl rfl rfl rfl rfl (pm_Fv.mono (st_day L xs J n5 (sx_r xs (i + 1)) (sx_r xs (i + 2)) (sx_r xs (i + 3))) ?_)
  rintro o s1 ⟨c, hc, rfl, ⟨ad1, z1, ar1, lr1, H1⟩, q⟩
  refine ⟨_, rfl, ?_⟩
  refine pm_Fv.go 5 (f' := (1, 1262, [(5, _), (4, _), (0, _), (1, _), (2, _), (3, _)], [_, _, _, _])) rfl ?_
  refine pm_Fv.iadd rfl ?_
  refine pm_Fv.sc rfl (by omega) ?_
  refine pm_Fv.go 3 (f' := (1, 1268, [(5, _), (4, _), (0, _), (1, _), (2, _), (3, _)], [_, _, _, _, _])) rfl ?_
  refine pm_Fv.iadd rfl ?_
  refine pm_Fv.sc rfl (by omega) ?_
  refine pm_Fv.go 3 (f' := (1, 1274, [(5, _), (4, _), (0, _), (1, _), (2, _), (3, _)], [_, _, _, _, _, _])) rfl ?_
  refine pm_Fv.iadd rfl ?_
  refine pm_Fv.sc rfl (by omega) ?_
  refine pm_Fv.cvG rfl rfl rfl rfl (by decide) (Nat.le_of_ble_eq_true rfl) (Nat.le_of_ble_eq_true rfl) H1.m199 H1.o199 (pm_Fv.mono q ?_)
  rintro o s2 ⟨v, vr, rfl, l, J2, hv⟩
  refine ⟨_, rfl, ?_⟩
  have J3 := J2
  obtain ⟨ad2, z2, ar2, lr2, Cs2, H2, X2, F2, cn2, e29, el, rm2⟩ := J2
  refine pm_Fv.go 2 (f' := (1, 1282, [(6, _), (5, _), (4, _), (0, _), (1, _), (2, _), (3, _)], [_])) rfl ?_
  refine pm_Fv.cv rfl rfl rfl rfl (by decide) (Nat.le_of_ble_eq_true rfl) (Nat.le_of_ble_eq_true rfl) H2.m199 H2.o199 (ev_m_thrown L xs H2) ?_
  rw [e29]
  refine pm_Fv.go 1 (f' := (1, 1287, [(6, _), (5, _), (4, _), (0, _), (1, _), (2, _), (3, _)], [_, _])) rfl ?_
  refine pm_Fv.jeq rfl (by omega) rfl (fun h1 => ?_) (fun h1 => ?_)
  · refine pm_Fv.go 1 (f' := (1, 1294, [(6, _), (5, _), (4, _), (0, _), (1, _), (2, _), (3, _)], [_])) rfl ?_
    refine pm_Fv.zne rfl (by omega) rfl (fun h2 => ?_) (fun h2 => ?_)
    · refine pm_Fv.go 1 (f' := (1, 1831, [(6, _), (5, _), (4, _), (0, _), (1, _), (2, _), (3, _)], [])) rfl ?_
      exact pm_Fv.weak (kk s2 _ _ J3) rfl
    · refine pm_Fv.go 2 (f' := (1, 1299, [(6, _), (5, _), (4, _), (0, _), (1, _), (2, _), (3, _)], [_, _])) rfl ?_
      refine pm_Fv.oll H2 F2.o1 (el.trans (hv (by omega))) rfl ?_
      refine pm_Fv.go 1 (f' := (1, 1302, [(6, _), (5, _), (4, _), (0, _), (1, _), (2, _), (3, _)], [_, _])) rfl ?_
      refine pm_Fv.i2l rfl (by omega) ?_
      refine pm_Fv.lcmp rfl (by omega) ?_
      rw [if_neg (by omega), if_pos (by omega)]
      refine pm_Fv.zeq rfl (by omega) rfl (fun h3 => ?_) (fun h3 => ?_)
      · refine pm_Fv.go 1 (f' := (1, 1831, [(6, _), (5, _), (4, _), (0, _), (1, _), (2, _), (3, _)], [])) rfl ?_
        exact pm_Fv.weak (kk s2 _ _ J3) rfl
      · exact absurd h3 (by omega)
  · exact absurd h1 (by omega)
set_option maxRecDepth 8000 in
theorem lc_calendar (J : JX N σ k0 l0) (n5 : N ≤ 600) {i : Int} (i0 : 0 ≤ i) (i7 : i + 7 ≤ L) (hL : L ≤ 3584) {Q : pm_O → pm_S → Prop} (kk : ∀ t k l, JX (N + 1) t k l → pm_Fv (tq_P L xs) (1, 1831, [(4, .int (zI i)), (0, .float 0), (1, .ref 0), (2, .ref 199), (3, .ref 208)], []) t Q) : pm_Fv (tq_P L xs) (1, 1312, [(4, .int (zI i)), (0, .float 0), (1, .ref 0), (2, .ref 199), (3, .ref 208)], []) σ Q := by
  refine pm_Fv.go 4 (f' := (1, 1317, [(4, _), (0, _), (1, _), (2, _), (3, _)], [_, _, _, _])) rfl ?_
  refine pm_Fv.iadd rfl ?_
  refine pm_Fv.sc rfl (by omega) ?_
  refine pm_Fv.go 3 (f' := (1, 1323, [(4, _), (0, _), (1, _), (2, _), (3, _)], [_, _, _, _, _])) rfl ?_
  refine pm_Fv.iadd rfl ?_
  refine pm_Fv.sc rfl (by omega) ?_
  refine pm_Fv.go 1 (f' := (1, 1326, [(4, _), (0, _), (1, _), (2, _), (3, _)], [_, _, _, _])) rfl ?_
  refine pm_Fv.callG rfl rfl rfl rfl rfl (pm_Fv.mono (st_calendar L xs J n5 (sx_r xs (i + 1)) (sx_r xs (i + 2))) ?_)
  rintro o s1 ⟨c, hc, rfl, ⟨ad1, z1, ar1, lr1, H1⟩, q⟩
  refine ⟨_, rfl, ?_⟩
  refine pm_Fv.go 5 (f' := (1, 1336, [(5, _), (4, _), (0, _), (1, _), (2, _), (3, _)], [_, _, _, _])) rfl ?_
  refine pm_Fv.iadd rfl ?_
  refine pm_Fv.sc rfl (by omega) ?_
  refine pm_Fv.go 3 (f' := (1, 1342, [(5, _), (4, _), (0, _), (1, _), (2, _), (3, _)], [_, _, _, _, _])) rfl ?_
  refine pm_Fv.iadd rfl ?_
  refine pm_Fv.sc rfl (by omega) ?_
  refine pm_Fv.cvG rfl rfl rfl rfl (by decide) (Nat.le_of_ble_eq_true rfl) (Nat.le_of_ble_eq_true rfl) H1.m199 H1.o199 (pm_Fv.mono q ?_)
  rintro o s2 ⟨v, vr, rfl, l, J2, hv⟩
  refine ⟨_, rfl, ?_⟩
  have J3 := J2
  obtain ⟨ad2, z2, ar2, lr2, Cs2, H2, X2, F2, cn2, e29, el, rm2⟩ := J2
  refine pm_Fv.go 2 (f' := (1, 1350, [(6, _), (5, _), (4, _), (0, _), (1, _), (2, _), (3, _)], [_])) rfl ?_
  refine pm_Fv.cv rfl rfl rfl rfl (by decide) (Nat.le_of_ble_eq_true rfl) (Nat.le_of_ble_eq_true rfl) H2.m199 H2.o199 (ev_m_thrown L xs H2) ?_
  rw [e29]
  refine pm_Fv.go 1 (f' := (1, 1355, [(6, _), (5, _), (4, _), (0, _), (1, _), (2, _), (3, _)], [_, _])) rfl ?_
  refine pm_Fv.jeq rfl (by omega) rfl (fun h1 => ?_) (fun h1 => ?_)
  · refine pm_Fv.go 1 (f' := (1, 1362, [(6, _), (5, _), (4, _), (0, _), (1, _), (2, _), (3, _)], [_])) rfl ?_
    refine pm_Fv.zne rfl (by omega) rfl (fun h2 => ?_) (fun h2 => ?_)
    · refine pm_Fv.go 1 (f' := (1, 1831, [(6, _), (5, _), (4, _), (0, _), (1, _), (2, _), (3, _)], [])) rfl ?_
      exact pm_Fv.weak (kk s2 _ _ J3) rfl
    · refine pm_Fv.go 2 (f' := (1, 1367, [(6, _), (5, _), (4, _), (0, _), (1, _), (2, _), (3, _)], [_, _])) rfl ?_
      refine pm_Fv.oll H2 F2.o1 (el.trans (hv (by omega))) rfl ?_
      refine pm_Fv.go 1 (f' := (1, 1370, [(6, _), (5, _), (4, _), (0, _), (1, _), (2, _), (3, _)], [_, _])) rfl ?_
      refine pm_Fv.i2l rfl (by omega) ?_
      refine pm_Fv.lcmp rfl (by omega) ?_
      rw [if_neg (by omega), if_pos (by omega)]
      refine pm_Fv.zeq rfl (by omega) rfl (fun h3 => ?_) (fun h3 => ?_)
      · refine pm_Fv.go 1 (f' := (1, 1831, [(6, _), (5, _), (4, _), (0, _), (1, _), (2, _), (3, _)], [])) rfl ?_
        exact pm_Fv.weak (kk s2 _ _ J3) rfl
      · exact absurd h3 (by omega)
  · exact absurd h1 (by omega)
set_option maxRecDepth 8000 in
theorem lc_match (J : JX N σ k0 l0) (n5 : N ≤ 600) {i : Int} (i0 : 0 ≤ i) (i7 : i + 7 ≤ L) (hL : L ≤ 3584) {Q : pm_O → pm_S → Prop} (kk : ∀ t k l, JX (N + 1) t k l → pm_Fv (tq_P L xs) (1, 1831, [(4, .int (zI i)), (0, .float 0), (1, .ref 0), (2, .ref 199), (3, .ref 208)], []) t Q) : pm_Fv (tq_P L xs) (1, 1380, [(4, .int (zI i)), (0, .float 0), (1, .ref 0), (2, .ref 199), (3, .ref 208)], []) σ Q := by
  have J0 := J
  obtain ⟨ad, z, ar, lr, Cs, H, _⟩ := J0
  refine pm_Fv.go 4 (f' := (1, 1385, [(4, _), (0, _), (1, _), (2, _), (3, _)], [_, _, _, _])) rfl ?_
  refine pm_Fv.iadd rfl ?_
  refine pm_Fv.sc rfl (by omega) ?_
  refine pm_Fv.go 3 (f' := (1, 1391, [(4, _), (0, _), (1, _), (2, _), (3, _)], [_, _, _, _, _])) rfl ?_
  refine pm_Fv.iadd rfl ?_
  refine pm_Fv.sc rfl (by omega) ?_
  refine pm_Fv.go 3 (f' := (1, 1397, [(4, _), (0, _), (1, _), (2, _), (3, _)], [_, _, _, _, _, _])) rfl ?_
  refine pm_Fv.iadd rfl ?_
  refine pm_Fv.sc rfl (by omega) ?_
  refine pm_Fv.go 3 (f' := (1, 1403, [(4, _), (0, _), (1, _), (2, _), (3, _)], [_, _, _, _, _, _, _])) rfl ?_
  refine pm_Fv.iadd rfl ?_
  refine pm_Fv.sc rfl (by omega) ?_
  refine pm_Fv.cvG rfl rfl rfl rfl (by decide) (Nat.le_of_ble_eq_true rfl) (Nat.le_of_ble_eq_true rfl) H.m0 H.o0 (pm_Fv.mono (st_match L xs J n5 (sx_r xs (i + 1)) (sx_r xs (i + 2)) (sx_r xs (i + 3)) (sx_r xs (i + 4))) ?_)
  rintro o s1 ⟨v, vr, rfl, ⟨ad1, z1, ar1, lr1, H1⟩, q⟩
  refine ⟨_, rfl, ?_⟩
  refine pm_Fv.go 4 (f' := (1, 1413, [(4, _), (0, _), (1, _), (2, _), (3, _)], [_, _, _, _, _])) rfl ?_
  refine pm_Fv.iadd rfl ?_
  refine pm_Fv.sc rfl (by omega) ?_
  refine pm_Fv.go 3 (f' := (1, 1419, [(4, _), (0, _), (1, _), (2, _), (3, _)], [_, _, _, _, _, _])) rfl ?_
  refine pm_Fv.iadd rfl ?_
  refine pm_Fv.sc rfl (by omega) ?_
  refine pm_Fv.go 3 (f' := (1, 1425, [(4, _), (0, _), (1, _), (2, _), (3, _)], [_, _, _, _, _, _, _])) rfl ?_
  refine pm_Fv.iadd rfl ?_
  refine pm_Fv.sc rfl (by omega) ?_
  refine pm_Fv.go 3 (f' := (1, 1431, [(4, _), (0, _), (1, _), (2, _), (3, _)], [_, _, _, _, _, _, _, _])) rfl ?_
  refine pm_Fv.iadd rfl ?_
  refine pm_Fv.sc rfl (by omega) ?_
  refine pm_Fv.cvG rfl rfl rfl rfl (by decide) (Nat.le_of_ble_eq_true rfl) (Nat.le_of_ble_eq_true rfl) H1.m199 H1.o199 (pm_Fv.mono q ?_)
  rintro o s2 ⟨rfl, k2, l2, J3⟩
  refine ⟨_, rfl, ?_⟩
  refine pm_Fv.jeq rfl (by omega) rfl (fun h1 => ?_) (fun h1 => ?_)
  · exact pm_Fv.weak (kk s2 _ _ J3) rfl
  · exact absurd h1 (by omega)
set_option maxRecDepth 8000 in
theorem lc_agenda (J : JX N σ k0 l0) (n5 : N ≤ 600) {i : Int} (i0 : 0 ≤ i) (i7 : i + 7 ≤ L) (hL : L ≤ 3584) {Q : pm_O → pm_S → Prop} (kk : ∀ t k l, JX (N + 1) t k l → pm_Fv (tq_P L xs) (1, 1831, [(4, .int (zI i)), (0, .float 0), (1, .ref 0), (2, .ref 199), (3, .ref 208)], []) t Q) : pm_Fv (tq_P L xs) (1, 1441, [(4, .int (zI i)), (0, .float 0), (1, .ref 0), (2, .ref 199), (3, .ref 208)], []) σ Q := by
  have J0 := J
  obtain ⟨ad, z, ar, lr, Cs, H, _⟩ := J0
  refine pm_Fv.go 4 (f' := (1, 1446, [(4, _), (0, _), (1, _), (2, _), (3, _)], [_, _, _, _])) rfl ?_
  refine pm_Fv.iadd rfl ?_
  refine pm_Fv.sc rfl (by omega) ?_
  refine pm_Fv.go 3 (f' := (1, 1452, [(4, _), (0, _), (1, _), (2, _), (3, _)], [_, _, _, _, _])) rfl ?_
  refine pm_Fv.iadd rfl ?_
  refine pm_Fv.sc rfl (by omega) ?_
  refine pm_Fv.cvG rfl rfl rfl rfl (by decide) (Nat.le_of_ble_eq_true rfl) (Nat.le_of_ble_eq_true rfl) H.m0 H.o0 (pm_Fv.mono (st_agenda L xs J n5 (sx_r xs (i + 1)) (sx_r xs (i + 2))) ?_)
  rintro o s1 ⟨v, vr, rfl, ⟨ad1, z1, ar1, lr1, H1⟩, q⟩
  refine ⟨_, rfl, ?_⟩
  refine pm_Fv.go 4 (f' := (1, 1462, [(4, _), (0, _), (1, _), (2, _), (3, _)], [_, _, _, _, _])) rfl ?_
  refine pm_Fv.iadd rfl ?_
  refine pm_Fv.sc rfl (by omega) ?_
  refine pm_Fv.go 3 (f' := (1, 1468, [(4, _), (0, _), (1, _), (2, _), (3, _)], [_, _, _, _, _, _])) rfl ?_
  refine pm_Fv.iadd rfl ?_
  refine pm_Fv.sc rfl (by omega) ?_
  refine pm_Fv.cvG rfl rfl rfl rfl (by decide) (Nat.le_of_ble_eq_true rfl) (Nat.le_of_ble_eq_true rfl) H1.m199 H1.o199 (pm_Fv.mono q ?_)
  rintro o s2 ⟨rfl, k2, l2, J3⟩
  refine ⟨_, rfl, ?_⟩
  refine pm_Fv.jeq rfl (by omega) rfl (fun h1 => ?_) (fun h1 => ?_)
  · exact pm_Fv.weak (kk s2 _ _ J3) rfl
  · exact absurd h1 (by omega)
set_option maxRecDepth 8000 in
theorem lc_found (J : JX N σ k0 l0) (n5 : N ≤ 600) {i : Int} (i0 : 0 ≤ i) (i7 : i + 7 ≤ L) (hL : L ≤ 3584) {Q : pm_O → pm_S → Prop} (kk : ∀ t k l, JX (N + 1) t k l → pm_Fv (tq_P L xs) (1, 1831, [(4, .int (zI i)), (0, .float 0), (1, .ref 0), (2, .ref 199), (3, .ref 208)], []) t Q) : pm_Fv (tq_P L xs) (1, 1478, [(4, .int (zI i)), (0, .float 0), (1, .ref 0), (2, .ref 199), (3, .ref 208)], []) σ Q := by
  refine pm_Fv.go 4 (f' := (1, 1483, [(4, _), (0, _), (1, _), (2, _), (3, _)], [_, _, _, _])) rfl ?_
  refine pm_Fv.iadd rfl ?_
  refine pm_Fv.sc rfl (by omega) ?_
  refine pm_Fv.go 3 (f' := (1, 1489, [(4, _), (0, _), (1, _), (2, _), (3, _)], [_, _, _, _, _])) rfl ?_
  refine pm_Fv.iadd rfl ?_
  refine pm_Fv.sc rfl (by omega) ?_
  refine pm_Fv.go 1 (f' := (1, 1492, [(4, _), (0, _), (1, _), (2, _), (3, _)], [_, _, _, _])) rfl ?_
  refine pm_Fv.callG rfl rfl rfl rfl rfl (pm_Fv.mono (st_found L xs J n5 (sx_r xs (i + 1)) (sx_r xs (i + 2))) ?_)
  rintro o s1 ⟨c, hc, rfl, ⟨ad1, z1, ar1, lr1, H1⟩, q⟩
  refine ⟨_, rfl, ?_⟩
  refine pm_Fv.go 5 (f' := (1, 1502, [(5, _), (4, _), (0, _), (1, _), (2, _), (3, _)], [_, _, _, _])) rfl ?_
  refine pm_Fv.iadd rfl ?_
  refine pm_Fv.sc rfl (by omega) ?_
  refine pm_Fv.go 3 (f' := (1, 1508, [(5, _), (4, _), (0, _), (1, _), (2, _), (3, _)], [_, _, _, _, _])) rfl ?_
  refine pm_Fv.iadd rfl ?_
  refine pm_Fv.sc rfl (by omega) ?_
  refine pm_Fv.cvG rfl rfl rfl rfl (by decide) (Nat.le_of_ble_eq_true rfl) (Nat.le_of_ble_eq_true rfl) H1.m199 H1.o199 (pm_Fv.mono q ?_)
  rintro o s2 ⟨v, vr, rfl, l, J2, hv⟩
  refine ⟨_, rfl, ?_⟩
  have J3 := J2
  obtain ⟨ad2, z2, ar2, lr2, Cs2, H2, X2, F2, cn2, e29, el, rm2⟩ := J2
  refine pm_Fv.go 2 (f' := (1, 1516, [(6, _), (5, _), (4, _), (0, _), (1, _), (2, _), (3, _)], [_])) rfl ?_
  refine pm_Fv.cv rfl rfl rfl rfl (by decide) (Nat.le_of_ble_eq_true rfl) (Nat.le_of_ble_eq_true rfl) H2.m199 H2.o199 (ev_m_thrown L xs H2) ?_
  rw [e29]
  refine pm_Fv.go 1 (f' := (1, 1521, [(6, _), (5, _), (4, _), (0, _), (1, _), (2, _), (3, _)], [_, _])) rfl ?_
  refine pm_Fv.jeq rfl (by omega) rfl (fun h1 => ?_) (fun h1 => ?_)
  · refine pm_Fv.go 1 (f' := (1, 1528, [(6, _), (5, _), (4, _), (0, _), (1, _), (2, _), (3, _)], [_])) rfl ?_
    refine pm_Fv.zne rfl (by omega) rfl (fun h2 => ?_) (fun h2 => ?_)
    · refine pm_Fv.go 1 (f' := (1, 1831, [(6, _), (5, _), (4, _), (0, _), (1, _), (2, _), (3, _)], [])) rfl ?_
      exact pm_Fv.weak (kk s2 _ _ J3) rfl
    · refine pm_Fv.go 2 (f' := (1, 1533, [(6, _), (5, _), (4, _), (0, _), (1, _), (2, _), (3, _)], [_, _])) rfl ?_
      refine pm_Fv.oll H2 F2.o1 (el.trans (hv (by omega))) rfl ?_
      refine pm_Fv.go 1 (f' := (1, 1536, [(6, _), (5, _), (4, _), (0, _), (1, _), (2, _), (3, _)], [_, _])) rfl ?_
      refine pm_Fv.i2l rfl (by omega) ?_
      refine pm_Fv.lcmp rfl (by omega) ?_
      rw [if_neg (by omega), if_pos (by omega)]
      refine pm_Fv.zeq rfl (by omega) rfl (fun h3 => ?_) (fun h3 => ?_)
      · refine pm_Fv.go 1 (f' := (1, 1831, [(6, _), (5, _), (4, _), (0, _), (1, _), (2, _), (3, _)], [])) rfl ?_
        exact pm_Fv.weak (kk s2 _ _ J3) rfl
      · exact absurd h3 (by omega)
  · exact absurd h1 (by omega)
set_option maxRecDepth 8000 in
theorem lc_line (J : JX N σ k0 l0) (n5 : N ≤ 600) {i : Int} (i0 : 0 ≤ i) (i7 : i + 7 ≤ L) (hL : L ≤ 3584) {Q : pm_O → pm_S → Prop} (kk : ∀ t k l, JX (N + 1) t k l → pm_Fv (tq_P L xs) (1, 1831, [(4, .int (zI i)), (0, .float 0), (1, .ref 0), (2, .ref 199), (3, .ref 208)], []) t Q) : pm_Fv (tq_P L xs) (1, 1546, [(4, .int (zI i)), (0, .float 0), (1, .ref 0), (2, .ref 199), (3, .ref 208)], []) σ Q := by
  have J0 := J
  obtain ⟨ad, z, ar, lr, Cs, H, _⟩ := J0
  refine pm_Fv.go 4 (f' := (1, 1551, [(4, _), (0, _), (1, _), (2, _), (3, _)], [_, _, _, _])) rfl ?_
  refine pm_Fv.iadd rfl ?_
  refine pm_Fv.sc rfl (by omega) ?_
  refine pm_Fv.cvG rfl rfl rfl rfl (by decide) (Nat.le_of_ble_eq_true rfl) (Nat.le_of_ble_eq_true rfl) H.m0 H.o0 (pm_Fv.mono (st_line L xs J n5 (sx_r xs (i + 1))) ?_)
  rintro o s1 ⟨v, vr, rfl, ⟨ad1, z1, ar1, lr1, H1⟩, q⟩
  refine ⟨_, rfl, ?_⟩
  refine pm_Fv.go 4 (f' := (1, 1561, [(4, _), (0, _), (1, _), (2, _), (3, _)], [_, _, _, _, _])) rfl ?_
  refine pm_Fv.iadd rfl ?_
  refine pm_Fv.sc rfl (by omega) ?_
  refine pm_Fv.cvG rfl rfl rfl rfl (by decide) (Nat.le_of_ble_eq_true rfl) (Nat.le_of_ble_eq_true rfl) H1.m199 H1.o199 (pm_Fv.mono q ?_)
  rintro o s2 ⟨rfl, k2, l2, J3⟩
  refine ⟨_, rfl, ?_⟩
  refine pm_Fv.jeq rfl (by omega) rfl (fun h1 => ?_) (fun h1 => ?_)
  · exact pm_Fv.weak (kk s2 _ _ J3) rfl
  · exact absurd h1 (by omega)
set_option maxRecDepth 8000 in
theorem lc_child (J : JX N σ k0 l0) (n5 : N ≤ 600) {i : Int} (i0 : 0 ≤ i) (i7 : i + 7 ≤ L) (hL : L ≤ 3584) {Q : pm_O → pm_S → Prop} (kk : ∀ t k l, JX (N + 1) t k l → pm_Fv (tq_P L xs) (1, 1831, [(4, .int (zI i)), (0, .float 0), (1, .ref 0), (2, .ref 199), (3, .ref 208)], []) t Q) : pm_Fv (tq_P L xs) (1, 1571, [(4, .int (zI i)), (0, .float 0), (1, .ref 0), (2, .ref 199), (3, .ref 208)], []) σ Q := by
  refine pm_Fv.go 4 (f' := (1, 1576, [(4, _), (0, _), (1, _), (2, _), (3, _)], [_, _, _, _])) rfl ?_
  refine pm_Fv.iadd rfl ?_
  refine pm_Fv.sc rfl (by omega) ?_
  refine pm_Fv.go 3 (f' := (1, 1582, [(4, _), (0, _), (1, _), (2, _), (3, _)], [_, _, _, _, _])) rfl ?_
  refine pm_Fv.iadd rfl ?_
  refine pm_Fv.sc rfl (by omega) ?_
  refine pm_Fv.go 1 (f' := (1, 1585, [(4, _), (0, _), (1, _), (2, _), (3, _)], [_, _, _, _])) rfl ?_
  refine pm_Fv.callG rfl rfl rfl rfl rfl (pm_Fv.mono (st_child L xs J n5 (sx_r xs (i + 1)) (sx_r xs (i + 2))) ?_)
  rintro o s1 ⟨c, hc, rfl, ⟨ad1, z1, ar1, lr1, H1⟩, q⟩
  refine ⟨_, rfl, ?_⟩
  refine pm_Fv.go 5 (f' := (1, 1595, [(5, _), (4, _), (0, _), (1, _), (2, _), (3, _)], [_, _, _, _])) rfl ?_
  refine pm_Fv.iadd rfl ?_
  refine pm_Fv.sc rfl (by omega) ?_
  refine pm_Fv.go 3 (f' := (1, 1601, [(5, _), (4, _), (0, _), (1, _), (2, _), (3, _)], [_, _, _, _, _])) rfl ?_
  refine pm_Fv.iadd rfl ?_
  refine pm_Fv.sc rfl (by omega) ?_
  refine pm_Fv.cvG rfl rfl rfl rfl (by decide) (Nat.le_of_ble_eq_true rfl) (Nat.le_of_ble_eq_true rfl) H1.m199 H1.o199 (pm_Fv.mono q ?_)
  rintro o s2 ⟨v, vr, rfl, l, J2, hv⟩
  refine ⟨_, rfl, ?_⟩
  have J3 := J2
  obtain ⟨ad2, z2, ar2, lr2, Cs2, H2, X2, F2, cn2, e29, el, rm2⟩ := J2
  refine pm_Fv.go 2 (f' := (1, 1609, [(6, _), (5, _), (4, _), (0, _), (1, _), (2, _), (3, _)], [_])) rfl ?_
  refine pm_Fv.cv rfl rfl rfl rfl (by decide) (Nat.le_of_ble_eq_true rfl) (Nat.le_of_ble_eq_true rfl) H2.m199 H2.o199 (ev_m_thrown L xs H2) ?_
  rw [e29]
  refine pm_Fv.go 1 (f' := (1, 1614, [(6, _), (5, _), (4, _), (0, _), (1, _), (2, _), (3, _)], [_, _])) rfl ?_
  refine pm_Fv.jeq rfl (by omega) rfl (fun h1 => ?_) (fun h1 => ?_)
  · refine pm_Fv.go 1 (f' := (1, 1621, [(6, _), (5, _), (4, _), (0, _), (1, _), (2, _), (3, _)], [_])) rfl ?_
    refine pm_Fv.zne rfl (by omega) rfl (fun h2 => ?_) (fun h2 => ?_)
    · refine pm_Fv.go 1 (f' := (1, 1831, [(6, _), (5, _), (4, _), (0, _), (1, _), (2, _), (3, _)], [])) rfl ?_
      exact pm_Fv.weak (kk s2 _ _ J3) rfl
    · refine pm_Fv.go 2 (f' := (1, 1626, [(6, _), (5, _), (4, _), (0, _), (1, _), (2, _), (3, _)], [_, _])) rfl ?_
      refine pm_Fv.oll H2 F2.o1 (el.trans (hv (by omega))) rfl ?_
      refine pm_Fv.go 1 (f' := (1, 1629, [(6, _), (5, _), (4, _), (0, _), (1, _), (2, _), (3, _)], [_, _])) rfl ?_
      refine pm_Fv.i2l rfl (by omega) ?_
      refine pm_Fv.lcmp rfl (by omega) ?_
      rw [if_neg (by omega), if_pos (by omega)]
      refine pm_Fv.zeq rfl (by omega) rfl (fun h3 => ?_) (fun h3 => ?_)
      · refine pm_Fv.go 1 (f' := (1, 1831, [(6, _), (5, _), (4, _), (0, _), (1, _), (2, _), (3, _)], [])) rfl ?_
        exact pm_Fv.weak (kk s2 _ _ J3) rfl
      · exact absurd h3 (by omega)
  · exact absurd h1 (by omega)
set_option maxRecDepth 8000 in
theorem lc_sum (J : JX N σ k0 l0) (n5 : N ≤ 600) {i : Int} (i0 : 0 ≤ i) (i7 : i + 7 ≤ L) (hL : L ≤ 3584) {Q : pm_O → pm_S → Prop} (kk : ∀ t k l, JX (N + 1) t k l → pm_Fv (tq_P L xs) (1, 1831, [(4, .int (zI i)), (0, .float 0), (1, .ref 0), (2, .ref 199), (3, .ref 208)], []) t Q) : pm_Fv (tq_P L xs) (1, 1639, [(4, .int (zI i)), (0, .float 0), (1, .ref 0), (2, .ref 199), (3, .ref 208)], []) σ Q := by
  refine pm_Fv.go 4 (f' := (1, 1644, [(4, _), (0, _), (1, _), (2, _), (3, _)], [_, _, _, _])) rfl ?_
  refine pm_Fv.iadd rfl ?_
  refine pm_Fv.sc rfl (by omega) ?_
  refine pm_Fv.go 3 (f' := (1, 1650, [(4, _), (0, _), (1, _), (2, _), (3, _)], [_, _, _, _, _])) rfl ?_
  refine pm_Fv.iadd rfl ?_
  refine pm_Fv.sc rfl (by omega) ?_
  refine pm_Fv.go 1 (f' := (1, 1653, [(4, _), (0, _), (1, _), (2, _), (3, _)], [_, _, _, _])) rfl ?_
  refine pm_Fv.callG rfl rfl rfl rfl rfl (pm_Fv.mono (st_sum L xs J n5 (sx_r xs (i + 1)) (sx_r xs (i + 2))) ?_)
  rintro o s1 ⟨c, hc, rfl, ⟨ad1, z1, ar1, lr1, H1⟩, q⟩
  refine ⟨_, rfl, ?_⟩
  refine pm_Fv.go 5 (f' := (1, 1663, [(5, _), (4, _), (0, _), (1, _), (2, _), (3, _)], [_, _, _, _])) rfl ?_
  refine pm_Fv.iadd rfl ?_
  refine pm_Fv.sc rfl (by omega) ?_
  refine pm_Fv.go 3 (f' := (1, 1669, [(5, _), (4, _), (0, _), (1, _), (2, _), (3, _)], [_, _, _, _, _])) rfl ?_
  refine pm_Fv.iadd rfl ?_
  refine pm_Fv.sc rfl (by omega) ?_
  refine pm_Fv.cvG rfl rfl rfl rfl (by decide) (Nat.le_of_ble_eq_true rfl) (Nat.le_of_ble_eq_true rfl) H1.m199 H1.o199 (pm_Fv.mono q ?_)
  rintro o s2 ⟨v, vr, rfl, l, J2, hv⟩
  refine ⟨_, rfl, ?_⟩
  have J3 := J2
  obtain ⟨ad2, z2, ar2, lr2, Cs2, H2, X2, F2, cn2, e29, el, rm2⟩ := J2
  refine pm_Fv.go 2 (f' := (1, 1677, [(6, _), (5, _), (4, _), (0, _), (1, _), (2, _), (3, _)], [_])) rfl ?_
  refine pm_Fv.cv rfl rfl rfl rfl (by decide) (Nat.le_of_ble_eq_true rfl) (Nat.le_of_ble_eq_true rfl) H2.m199 H2.o199 (ev_m_thrown L xs H2) ?_
  rw [e29]
  refine pm_Fv.go 1 (f' := (1, 1682, [(6, _), (5, _), (4, _), (0, _), (1, _), (2, _), (3, _)], [_, _])) rfl ?_
  refine pm_Fv.jeq rfl (by omega) rfl (fun h1 => ?_) (fun h1 => ?_)
  · refine pm_Fv.go 1 (f' := (1, 1689, [(6, _), (5, _), (4, _), (0, _), (1, _), (2, _), (3, _)], [_])) rfl ?_
    refine pm_Fv.zne rfl (by omega) rfl (fun h2 => ?_) (fun h2 => ?_)
    · refine pm_Fv.go 1 (f' := (1, 1831, [(6, _), (5, _), (4, _), (0, _), (1, _), (2, _), (3, _)], [])) rfl ?_
      exact pm_Fv.weak (kk s2 _ _ J3) rfl
    · refine pm_Fv.go 2 (f' := (1, 1694, [(6, _), (5, _), (4, _), (0, _), (1, _), (2, _), (3, _)], [_, _])) rfl ?_
      refine pm_Fv.oll H2 F2.o1 (el.trans (hv (by omega))) rfl ?_
      refine pm_Fv.go 1 (f' := (1, 1697, [(6, _), (5, _), (4, _), (0, _), (1, _), (2, _), (3, _)], [_, _])) rfl ?_
      refine pm_Fv.i2l rfl (by omega) ?_
      refine pm_Fv.lcmp rfl (by omega) ?_
      rw [if_neg (by omega), if_pos (by omega)]
      refine pm_Fv.zeq rfl (by omega) rfl (fun h3 => ?_) (fun h3 => ?_)
      · refine pm_Fv.go 1 (f' := (1, 1831, [(6, _), (5, _), (4, _), (0, _), (1, _), (2, _), (3, _)], [])) rfl ?_
        exact pm_Fv.weak (kk s2 _ _ J3) rfl
      · exact absurd h3 (by omega)
  · exact absurd h1 (by omega)
set_option maxRecDepth 8000 in
theorem lc_told (J : JX N σ k0 l0) (n5 : N ≤ 600) {i : Int} (i0 : 0 ≤ i) (i7 : i + 7 ≤ L) (hL : L ≤ 3584) {Q : pm_O → pm_S → Prop} (kk : ∀ t k l, JX (N + 1) t k l → pm_Fv (tq_P L xs) (1, 1831, [(4, .int (zI i)), (0, .float 0), (1, .ref 0), (2, .ref 199), (3, .ref 208)], []) t Q) : pm_Fv (tq_P L xs) (1, 1707, [(4, .int (zI i)), (0, .float 0), (1, .ref 0), (2, .ref 199), (3, .ref 208)], []) σ Q := by
  refine pm_Fv.go 4 (f' := (1, 1712, [(4, _), (0, _), (1, _), (2, _), (3, _)], [_, _, _, _])) rfl ?_
  refine pm_Fv.iadd rfl ?_
  refine pm_Fv.sc rfl (by omega) ?_
  refine pm_Fv.go 3 (f' := (1, 1718, [(4, _), (0, _), (1, _), (2, _), (3, _)], [_, _, _, _, _])) rfl ?_
  refine pm_Fv.iadd rfl ?_
  refine pm_Fv.sc rfl (by omega) ?_
  refine pm_Fv.go 1 (f' := (1, 1721, [(4, _), (0, _), (1, _), (2, _), (3, _)], [_, _, _, _])) rfl ?_
  refine pm_Fv.callG rfl rfl rfl rfl rfl (pm_Fv.mono (st_told L xs J n5 (sx_r xs (i + 1)) (sx_r xs (i + 2))) ?_)
  rintro o s1 ⟨c, hc, rfl, ⟨ad1, z1, ar1, lr1, H1⟩, q⟩
  refine ⟨_, rfl, ?_⟩
  refine pm_Fv.go 5 (f' := (1, 1731, [(5, _), (4, _), (0, _), (1, _), (2, _), (3, _)], [_, _, _, _])) rfl ?_
  refine pm_Fv.iadd rfl ?_
  refine pm_Fv.sc rfl (by omega) ?_
  refine pm_Fv.go 3 (f' := (1, 1737, [(5, _), (4, _), (0, _), (1, _), (2, _), (3, _)], [_, _, _, _, _])) rfl ?_
  refine pm_Fv.iadd rfl ?_
  refine pm_Fv.sc rfl (by omega) ?_
  refine pm_Fv.cvG rfl rfl rfl rfl (by decide) (Nat.le_of_ble_eq_true rfl) (Nat.le_of_ble_eq_true rfl) H1.m199 H1.o199 (pm_Fv.mono q ?_)
  rintro o s2 ⟨v, vr, rfl, l, J2, hv⟩
  refine ⟨_, rfl, ?_⟩
  have J3 := J2
  obtain ⟨ad2, z2, ar2, lr2, Cs2, H2, X2, F2, cn2, e29, el, rm2⟩ := J2
  refine pm_Fv.go 2 (f' := (1, 1745, [(6, _), (5, _), (4, _), (0, _), (1, _), (2, _), (3, _)], [_])) rfl ?_
  refine pm_Fv.cv rfl rfl rfl rfl (by decide) (Nat.le_of_ble_eq_true rfl) (Nat.le_of_ble_eq_true rfl) H2.m199 H2.o199 (ev_m_thrown L xs H2) ?_
  rw [e29]
  refine pm_Fv.go 1 (f' := (1, 1750, [(6, _), (5, _), (4, _), (0, _), (1, _), (2, _), (3, _)], [_, _])) rfl ?_
  refine pm_Fv.jeq rfl (by omega) rfl (fun h1 => ?_) (fun h1 => ?_)
  · refine pm_Fv.go 1 (f' := (1, 1757, [(6, _), (5, _), (4, _), (0, _), (1, _), (2, _), (3, _)], [_])) rfl ?_
    refine pm_Fv.zne rfl (by omega) rfl (fun h2 => ?_) (fun h2 => ?_)
    · refine pm_Fv.go 1 (f' := (1, 1831, [(6, _), (5, _), (4, _), (0, _), (1, _), (2, _), (3, _)], [])) rfl ?_
      exact pm_Fv.weak (kk s2 _ _ J3) rfl
    · refine pm_Fv.go 2 (f' := (1, 1762, [(6, _), (5, _), (4, _), (0, _), (1, _), (2, _), (3, _)], [_, _])) rfl ?_
      refine pm_Fv.oll H2 F2.o1 (el.trans (hv (by omega))) rfl ?_
      refine pm_Fv.go 1 (f' := (1, 1765, [(6, _), (5, _), (4, _), (0, _), (1, _), (2, _), (3, _)], [_, _])) rfl ?_
      refine pm_Fv.i2l rfl (by omega) ?_
      refine pm_Fv.lcmp rfl (by omega) ?_
      rw [if_neg (by omega), if_pos (by omega)]
      refine pm_Fv.zeq rfl (by omega) rfl (fun h3 => ?_) (fun h3 => ?_)
      · refine pm_Fv.go 1 (f' := (1, 1831, [(6, _), (5, _), (4, _), (0, _), (1, _), (2, _), (3, _)], [])) rfl ?_
        exact pm_Fv.weak (kk s2 _ _ J3) rfl
      · exact absurd h3 (by omega)
  · exact absurd h1 (by omega)
set_option maxRecDepth 8000 in
theorem lc_about (J : JX N σ k0 l0) (n5 : N ≤ 600) {i : Int} (i0 : 0 ≤ i) (i7 : i + 7 ≤ L) (hL : L ≤ 3584) {Q : pm_O → pm_S → Prop} (kk : ∀ t k l, JX (N + 1) t k l → pm_Fv (tq_P L xs) (1, 1831, [(4, .int (zI i)), (0, .float 0), (1, .ref 0), (2, .ref 199), (3, .ref 208)], []) t Q) : pm_Fv (tq_P L xs) (1, 1775, [(4, .int (zI i)), (0, .float 0), (1, .ref 0), (2, .ref 199), (3, .ref 208)], []) σ Q := by
  refine pm_Fv.go 4 (f' := (1, 1780, [(4, _), (0, _), (1, _), (2, _), (3, _)], [_, _, _, _])) rfl ?_
  refine pm_Fv.iadd rfl ?_
  refine pm_Fv.sc rfl (by omega) ?_
  refine pm_Fv.go 1 (f' := (1, 1783, [(4, _), (0, _), (1, _), (2, _), (3, _)], [_, _, _])) rfl ?_
  refine pm_Fv.callG rfl rfl rfl rfl rfl (pm_Fv.mono (st_about L xs J n5 (sx_r xs (i + 1))) ?_)
  rintro o s1 ⟨c, hc, rfl, ⟨ad1, z1, ar1, lr1, H1⟩, q⟩
  refine ⟨_, rfl, ?_⟩
  refine pm_Fv.go 5 (f' := (1, 1793, [(5, _), (4, _), (0, _), (1, _), (2, _), (3, _)], [_, _, _, _])) rfl ?_
  refine pm_Fv.iadd rfl ?_
  refine pm_Fv.sc rfl (by omega) ?_
  refine pm_Fv.cvG rfl rfl rfl rfl (by decide) (Nat.le_of_ble_eq_true rfl) (Nat.le_of_ble_eq_true rfl) H1.m199 H1.o199 (pm_Fv.mono q ?_)
  rintro o s2 ⟨v, vr, rfl, l, J2, hv⟩
  refine ⟨_, rfl, ?_⟩
  have J3 := J2
  obtain ⟨ad2, z2, ar2, lr2, Cs2, H2, X2, F2, cn2, e29, el, rm2⟩ := J2
  refine pm_Fv.go 2 (f' := (1, 1801, [(6, _), (5, _), (4, _), (0, _), (1, _), (2, _), (3, _)], [_])) rfl ?_
  refine pm_Fv.cv rfl rfl rfl rfl (by decide) (Nat.le_of_ble_eq_true rfl) (Nat.le_of_ble_eq_true rfl) H2.m199 H2.o199 (ev_m_thrown L xs H2) ?_
  rw [e29]
  refine pm_Fv.go 1 (f' := (1, 1806, [(6, _), (5, _), (4, _), (0, _), (1, _), (2, _), (3, _)], [_, _])) rfl ?_
  refine pm_Fv.jeq rfl (by omega) rfl (fun h1 => ?_) (fun h1 => ?_)
  · refine pm_Fv.go 1 (f' := (1, 1813, [(6, _), (5, _), (4, _), (0, _), (1, _), (2, _), (3, _)], [_])) rfl ?_
    refine pm_Fv.zne rfl (by omega) rfl (fun h2 => ?_) (fun h2 => ?_)
    · refine pm_Fv.go 1 (f' := (1, 1831, [(6, _), (5, _), (4, _), (0, _), (1, _), (2, _), (3, _)], [])) rfl ?_
      exact pm_Fv.weak (kk s2 _ _ J3) rfl
    · refine pm_Fv.go 2 (f' := (1, 1818, [(6, _), (5, _), (4, _), (0, _), (1, _), (2, _), (3, _)], [_, _])) rfl ?_
      refine pm_Fv.oll H2 F2.o1 (el.trans (hv (by omega))) rfl ?_
      refine pm_Fv.go 1 (f' := (1, 1821, [(6, _), (5, _), (4, _), (0, _), (1, _), (2, _), (3, _)], [_, _])) rfl ?_
      refine pm_Fv.i2l rfl (by omega) ?_
      refine pm_Fv.lcmp rfl (by omega) ?_
      rw [if_neg (by omega), if_pos (by omega)]
      refine pm_Fv.zeq rfl (by omega) rfl (fun h3 => ?_) (fun h3 => ?_)
      · refine pm_Fv.go 1 (f' := (1, 1831, [(6, _), (5, _), (4, _), (0, _), (1, _), (2, _), (3, _)], [])) rfl ?_
        exact pm_Fv.weak (kk s2 _ _ J3) rfl
      · exact absurd h3 (by omega)
  · exact absurd h1 (by omega)
set_option maxRecDepth 8000 in
theorem lw_loop (hL : L ≤ 3584) : ∀ (j : Nat) (i : Int) (N : Nat) (σ : pm_S) (k : Int) (l : Int64), i = 7 * N → (L : Int) ≤ i + 7 * j + 6 → i ≤ L → JX N σ k l → pm_Fv (tq_P L xs) (1, 23, [(4, .int (zI i)), (0, .float 0), (1, .ref 0), (2, .ref 199), (3, .ref 208)], []) σ (fun o s => o = .inl (some (.int (zI 1))) ∧ ∃ N k l, N ≤ 600 ∧ JX N s k l) := by
  intro j
  induction j with
  | zero =>
    intro i N σ k l iN Lj iL J
    refine pm_Fv.go 2 (f' := (1, 26, [(4, _), (0, _), (1, _), (2, _), (3, _)], [_, _])) rfl ?_
    refine pm_Fv.scl rfl ?_
    refine pm_Fv.bp rfl rfl ?_
    refine pm_Fv.isub rfl ?_
    refine pm_Fv.jgt rfl (by omega) rfl (fun h1 => ?_) (fun h1 => ?_)
    · refine pm_Fv.go 1 (f' := (1, 1838, [(4, _), (0, _), (1, _), (2, _), (3, _)], [_])) rfl ?_
      exact pm_Fv.rb rfl rfl (by decide) ⟨rfl, N, k, l, by omega, J⟩
    · exact absurd h1 (by omega)
  | succ j ih =>
    intro i N σ k l iN Lj iL J
    by_cases c : i ≤ L - 7
    · have kk : ∀ t k l, JX (N + 1) t k l → pm_Fv (tq_P L xs) (1, 1831, [(4, .int (zI i)), (0, .float 0), (1, .ref 0), (2, .ref 199), (3, .ref 208)], []) t (fun o s => o = .inl (some (.int (zI 1))) ∧ ∃ N k l, N ≤ 600 ∧ JX N s k l) := by
        intro t k l J2
        refine pm_Fv.inc rfl rfl (Nat.le_of_ble_eq_true rfl) ?_
        refine pm_Fv.go 1 (f' := (1, 23, [(4, _), (0, _), (1, _), (2, _), (3, _)], [])) rfl ?_
        exact pm_Fv.weak (ih (i + 7) (N + 1) t k l (by omega) (by omega) (by omega) J2) rfl
      have zr := zand_31 (sx xs i)
      rcases (show zand (sx xs i) 31 = 0 ∨ zand (sx xs i) 31 = 1 ∨ zand (sx xs i) 31 = 2 ∨ zand (sx xs i) 31 = 3 ∨ zand (sx xs i) 31 = 4 ∨ zand (sx xs i) 31 = 5 ∨ zand (sx xs i) 31 = 6 ∨ zand (sx xs i) 31 = 7 ∨ zand (sx xs i) 31 = 8 ∨ zand (sx xs i) 31 = 9 ∨ zand (sx xs i) 31 = 10 ∨ zand (sx xs i) 31 = 11 ∨ zand (sx xs i) 31 = 12 ∨ zand (sx xs i) 31 = 13 ∨ zand (sx xs i) 31 = 14 ∨ zand (sx xs i) 31 = 15 ∨ zand (sx xs i) 31 = 16 ∨ zand (sx xs i) 31 = 17 ∨ zand (sx xs i) 31 = 18 ∨ zand (sx xs i) 31 = 19 ∨ zand (sx xs i) 31 = 20 ∨ zand (sx xs i) 31 = 21 ∨ zand (sx xs i) 31 = 22 ∨ zand (sx xs i) 31 = 23 ∨ zand (sx xs i) 31 = 24 ∨ zand (sx xs i) 31 = 25 ∨ zand (sx xs i) 31 = 26 ∨ zand (sx xs i) 31 = 27 ∨ zand (sx xs i) 31 = 28 ∨ zand (sx xs i) 31 = 29 ∨ zand (sx xs i) 31 = 30 ∨ zand (sx xs i) 31 = 31 by omega) with e | e | e | e | e | e | e | e | e | e | e | e | e | e | e | e | e | e | e | e | e | e | e | e | e | e | e | e | e | e | e | e
      · skip
        refine pm_Fv.go 2 (f' := (1, 26, [(4, _), (0, _), (1, _), (2, _), (3, _)], [_, _])) rfl ?_
        refine pm_Fv.scl rfl ?_
        refine pm_Fv.bp rfl rfl ?_
        refine pm_Fv.isub rfl ?_
        refine pm_Fv.jgt rfl (by omega) rfl (fun h1 => ?_) (fun h1 => ?_)
        · exact absurd h1 (by omega)
        · refine pm_Fv.go 2 (f' := (1, 36, [(4, _), (0, _), (1, _), (2, _), (3, _)], [_, _])) rfl ?_
          refine pm_Fv.sc rfl (by omega) ?_
          refine pm_Fv.bp rfl rfl ?_
          refine pm_Fv.iandx rfl ?_
          rw [e]
          refine pm_Fv.go 1 (f' := (1, 172, [(4, _), (0, _), (1, _), (2, _), (3, _)], [])) rfl ?_
          exact lc_insert L xs J (by omega) (by omega) (by omega) hL kk
      · skip
        refine pm_Fv.go 2 (f' := (1, 26, [(4, _), (0, _), (1, _), (2, _), (3, _)], [_, _])) rfl ?_
        refine pm_Fv.scl rfl ?_
        refine pm_Fv.bp rfl rfl ?_
        refine pm_Fv.isub rfl ?_
        refine pm_Fv.jgt rfl (by omega) rfl (fun h1 => ?_) (fun h1 => ?_)
        · exact absurd h1 (by omega)
        · refine pm_Fv.go 2 (f' := (1, 36, [(4, _), (0, _), (1, _), (2, _), (3, _)], [_, _])) rfl ?_
          refine pm_Fv.sc rfl (by omega) ?_
          refine pm_Fv.bp rfl rfl ?_
          refine pm_Fv.iandx rfl ?_
          rw [e]
          refine pm_Fv.go 1 (f' := (1, 252, [(4, _), (0, _), (1, _), (2, _), (3, _)], [])) rfl ?_
          exact lc_remove L xs J (by omega) (by omega) (by omega) hL kk
      · skip
        refine pm_Fv.go 2 (f' := (1, 26, [(4, _), (0, _), (1, _), (2, _), (3, _)], [_, _])) rfl ?_
        refine pm_Fv.scl rfl ?_
        refine pm_Fv.bp rfl rfl ?_
        refine pm_Fv.isub rfl ?_
        refine pm_Fv.jgt rfl (by omega) rfl (fun h1 => ?_) (fun h1 => ?_)
        · exact absurd h1 (by omega)
        · refine pm_Fv.go 2 (f' := (1, 36, [(4, _), (0, _), (1, _), (2, _), (3, _)], [_, _])) rfl ?_
          refine pm_Fv.sc rfl (by omega) ?_
          refine pm_Fv.bp rfl rfl ?_
          refine pm_Fv.iandx rfl ?_
          rw [e]
          refine pm_Fv.go 1 (f' := (1, 308, [(4, _), (0, _), (1, _), (2, _), (3, _)], [])) rfl ?_
          exact lc_move L xs J (by omega) (by omega) (by omega) hL kk
      · skip
        refine pm_Fv.go 2 (f' := (1, 26, [(4, _), (0, _), (1, _), (2, _), (3, _)], [_, _])) rfl ?_
        refine pm_Fv.scl rfl ?_
        refine pm_Fv.bp rfl rfl ?_
        refine pm_Fv.isub rfl ?_
        refine pm_Fv.jgt rfl (by omega) rfl (fun h1 => ?_) (fun h1 => ?_)
        · exact absurd h1 (by omega)
        · refine pm_Fv.go 2 (f' := (1, 36, [(4, _), (0, _), (1, _), (2, _), (3, _)], [_, _])) rfl ?_
          refine pm_Fv.sc rfl (by omega) ?_
          refine pm_Fv.bp rfl rfl ?_
          refine pm_Fv.iandx rfl ?_
          rw [e]
          refine pm_Fv.go 1 (f' := (1, 368, [(4, _), (0, _), (1, _), (2, _), (3, _)], [])) rfl ?_
          exact lc_promote L xs J (by omega) (by omega) (by omega) hL kk
      · skip
        refine pm_Fv.go 2 (f' := (1, 26, [(4, _), (0, _), (1, _), (2, _), (3, _)], [_, _])) rfl ?_
        refine pm_Fv.scl rfl ?_
        refine pm_Fv.bp rfl rfl ?_
        refine pm_Fv.isub rfl ?_
        refine pm_Fv.jgt rfl (by omega) rfl (fun h1 => ?_) (fun h1 => ?_)
        · exact absurd h1 (by omega)
        · refine pm_Fv.go 2 (f' := (1, 36, [(4, _), (0, _), (1, _), (2, _), (3, _)], [_, _])) rfl ?_
          refine pm_Fv.sc rfl (by omega) ?_
          refine pm_Fv.bp rfl rfl ?_
          refine pm_Fv.iandx rfl ?_
          rw [e]
          refine pm_Fv.go 1 (f' := (1, 404, [(4, _), (0, _), (1, _), (2, _), (3, _)], [])) rfl ?_
          exact lc_demote L xs J (by omega) (by omega) (by omega) hL kk
      · skip
        refine pm_Fv.go 2 (f' := (1, 26, [(4, _), (0, _), (1, _), (2, _), (3, _)], [_, _])) rfl ?_
        refine pm_Fv.scl rfl ?_
        refine pm_Fv.bp rfl rfl ?_
        refine pm_Fv.isub rfl ?_
        refine pm_Fv.jgt rfl (by omega) rfl (fun h1 => ?_) (fun h1 => ?_)
        · exact absurd h1 (by omega)
        · refine pm_Fv.go 2 (f' := (1, 36, [(4, _), (0, _), (1, _), (2, _), (3, _)], [_, _])) rfl ?_
          refine pm_Fv.sc rfl (by omega) ?_
          refine pm_Fv.bp rfl rfl ?_
          refine pm_Fv.iandx rfl ?_
          rw [e]
          refine pm_Fv.go 1 (f' := (1, 440, [(4, _), (0, _), (1, _), (2, _), (3, _)], [])) rfl ?_
          exact lc_title L xs J (by omega) (by omega) (by omega) hL kk
      · skip
        refine pm_Fv.go 2 (f' := (1, 26, [(4, _), (0, _), (1, _), (2, _), (3, _)], [_, _])) rfl ?_
        refine pm_Fv.scl rfl ?_
        refine pm_Fv.bp rfl rfl ?_
        refine pm_Fv.isub rfl ?_
        refine pm_Fv.jgt rfl (by omega) rfl (fun h1 => ?_) (fun h1 => ?_)
        · exact absurd h1 (by omega)
        · refine pm_Fv.go 2 (f' := (1, 36, [(4, _), (0, _), (1, _), (2, _), (3, _)], [_, _])) rfl ?_
          refine pm_Fv.sc rfl (by omega) ?_
          refine pm_Fv.bp rfl rfl ?_
          refine pm_Fv.iandx rfl ?_
          rw [e]
          refine pm_Fv.go 1 (f' := (1, 488, [(4, _), (0, _), (1, _), (2, _), (3, _)], [])) rfl ?_
          exact lc_state L xs J (by omega) (by omega) (by omega) hL kk
      · skip
        refine pm_Fv.go 2 (f' := (1, 26, [(4, _), (0, _), (1, _), (2, _), (3, _)], [_, _])) rfl ?_
        refine pm_Fv.scl rfl ?_
        refine pm_Fv.bp rfl rfl ?_
        refine pm_Fv.isub rfl ?_
        refine pm_Fv.jgt rfl (by omega) rfl (fun h1 => ?_) (fun h1 => ?_)
        · exact absurd h1 (by omega)
        · refine pm_Fv.go 2 (f' := (1, 36, [(4, _), (0, _), (1, _), (2, _), (3, _)], [_, _])) rfl ?_
          refine pm_Fv.sc rfl (by omega) ?_
          refine pm_Fv.bp rfl rfl ?_
          refine pm_Fv.iandx rfl ?_
          rw [e]
          refine pm_Fv.go 1 (f' := (1, 556, [(4, _), (0, _), (1, _), (2, _), (3, _)], [])) rfl ?_
          exact lc_rank L xs J (by omega) (by omega) (by omega) hL kk
      · skip
        refine pm_Fv.go 2 (f' := (1, 26, [(4, _), (0, _), (1, _), (2, _), (3, _)], [_, _])) rfl ?_
        refine pm_Fv.scl rfl ?_
        refine pm_Fv.bp rfl rfl ?_
        refine pm_Fv.isub rfl ?_
        refine pm_Fv.jgt rfl (by omega) rfl (fun h1 => ?_) (fun h1 => ?_)
        · exact absurd h1 (by omega)
        · refine pm_Fv.go 2 (f' := (1, 36, [(4, _), (0, _), (1, _), (2, _), (3, _)], [_, _])) rfl ?_
          refine pm_Fv.sc rfl (by omega) ?_
          refine pm_Fv.bp rfl rfl ?_
          refine pm_Fv.iandx rfl ?_
          rw [e]
          refine pm_Fv.go 1 (f' := (1, 604, [(4, _), (0, _), (1, _), (2, _), (3, _)], [])) rfl ?_
          exact lc_tag L xs J (by omega) (by omega) (by omega) hL kk
      · skip
        refine pm_Fv.go 2 (f' := (1, 26, [(4, _), (0, _), (1, _), (2, _), (3, _)], [_, _])) rfl ?_
        refine pm_Fv.scl rfl ?_
        refine pm_Fv.bp rfl rfl ?_
        refine pm_Fv.isub rfl ?_
        refine pm_Fv.jgt rfl (by omega) rfl (fun h1 => ?_) (fun h1 => ?_)
        · exact absurd h1 (by omega)
        · refine pm_Fv.go 2 (f' := (1, 36, [(4, _), (0, _), (1, _), (2, _), (3, _)], [_, _])) rfl ?_
          refine pm_Fv.sc rfl (by omega) ?_
          refine pm_Fv.bp rfl rfl ?_
          refine pm_Fv.iandx rfl ?_
          rw [e]
          refine pm_Fv.go 1 (f' := (1, 680, [(4, _), (0, _), (1, _), (2, _), (3, _)], [])) rfl ?_
          exact lc_date L xs J (by omega) (by omega) (by omega) hL kk
      · skip
        refine pm_Fv.go 2 (f' := (1, 26, [(4, _), (0, _), (1, _), (2, _), (3, _)], [_, _])) rfl ?_
        refine pm_Fv.scl rfl ?_
        refine pm_Fv.bp rfl rfl ?_
        refine pm_Fv.isub rfl ?_
        refine pm_Fv.jgt rfl (by omega) rfl (fun h1 => ?_) (fun h1 => ?_)
        · exact absurd h1 (by omega)
        · refine pm_Fv.go 2 (f' := (1, 36, [(4, _), (0, _), (1, _), (2, _), (3, _)], [_, _])) rfl ?_
          refine pm_Fv.sc rfl (by omega) ?_
          refine pm_Fv.bp rfl rfl ?_
          refine pm_Fv.iandx rfl ?_
          rw [e]
          refine pm_Fv.go 1 (f' := (1, 778, [(4, _), (0, _), (1, _), (2, _), (3, _)], [])) rfl ?_
          exact lc_minutes L xs J (by omega) (by omega) (by omega) hL kk
      · skip
        refine pm_Fv.go 2 (f' := (1, 26, [(4, _), (0, _), (1, _), (2, _), (3, _)], [_, _])) rfl ?_
        refine pm_Fv.scl rfl ?_
        refine pm_Fv.bp rfl rfl ?_
        refine pm_Fv.isub rfl ?_
        refine pm_Fv.jgt rfl (by omega) rfl (fun h1 => ?_) (fun h1 => ?_)
        · exact absurd h1 (by omega)
        · refine pm_Fv.go 2 (f' := (1, 36, [(4, _), (0, _), (1, _), (2, _), (3, _)], [_, _])) rfl ?_
          refine pm_Fv.sc rfl (by omega) ?_
          refine pm_Fv.bp rfl rfl ?_
          refine pm_Fv.iandx rfl ?_
          rw [e]
          refine pm_Fv.go 1 (f' := (1, 838, [(4, _), (0, _), (1, _), (2, _), (3, _)], [])) rfl ?_
          exact lc_fold L xs J (by omega) (by omega) (by omega) hL kk
      · skip
        refine pm_Fv.go 2 (f' := (1, 26, [(4, _), (0, _), (1, _), (2, _), (3, _)], [_, _])) rfl ?_
        refine pm_Fv.scl rfl ?_
        refine pm_Fv.bp rfl rfl ?_
        refine pm_Fv.isub rfl ?_
        refine pm_Fv.jgt rfl (by omega) rfl (fun h1 => ?_) (fun h1 => ?_)
        · exact absurd h1 (by omega)
        · refine pm_Fv.go 2 (f' := (1, 36, [(4, _), (0, _), (1, _), (2, _), (3, _)], [_, _])) rfl ?_
          refine pm_Fv.sc rfl (by omega) ?_
          refine pm_Fv.bp rfl rfl ?_
          refine pm_Fv.iandx rfl ?_
          rw [e]
          refine pm_Fv.go 1 (f' := (1, 902, [(4, _), (0, _), (1, _), (2, _), (3, _)], [])) rfl ?_
          exact lc_sort L xs J (by omega) (by omega) (by omega) hL kk
      · skip
        refine pm_Fv.go 2 (f' := (1, 26, [(4, _), (0, _), (1, _), (2, _), (3, _)], [_, _])) rfl ?_
        refine pm_Fv.scl rfl ?_
        refine pm_Fv.bp rfl rfl ?_
        refine pm_Fv.isub rfl ?_
        refine pm_Fv.jgt rfl (by omega) rfl (fun h1 => ?_) (fun h1 => ?_)
        · exact absurd h1 (by omega)
        · refine pm_Fv.go 2 (f' := (1, 36, [(4, _), (0, _), (1, _), (2, _), (3, _)], [_, _])) rfl ?_
          refine pm_Fv.sc rfl (by omega) ?_
          refine pm_Fv.bp rfl rfl ?_
          refine pm_Fv.iandx rfl ?_
          rw [e]
          refine pm_Fv.go 1 (f' := (1, 950, [(4, _), (0, _), (1, _), (2, _), (3, _)], [])) rfl ?_
          exact lc_open L xs J (by omega) (by omega) (by omega) hL kk
      · skip
        refine pm_Fv.go 2 (f' := (1, 26, [(4, _), (0, _), (1, _), (2, _), (3, _)], [_, _])) rfl ?_
        refine pm_Fv.scl rfl ?_
        refine pm_Fv.bp rfl rfl ?_
        refine pm_Fv.isub rfl ?_
        refine pm_Fv.jgt rfl (by omega) rfl (fun h1 => ?_) (fun h1 => ?_)
        · exact absurd h1 (by omega)
        · refine pm_Fv.go 2 (f' := (1, 36, [(4, _), (0, _), (1, _), (2, _), (3, _)], [_, _])) rfl ?_
          refine pm_Fv.sc rfl (by omega) ?_
          refine pm_Fv.bp rfl rfl ?_
          refine pm_Fv.iandx rfl ?_
          rw [e]
          refine pm_Fv.go 1 (f' := (1, 974, [(4, _), (0, _), (1, _), (2, _), (3, _)], [])) rfl ?_
          exact lc_close L xs J (by omega) (by omega) (by omega) hL kk
      · skip
        refine pm_Fv.go 2 (f' := (1, 26, [(4, _), (0, _), (1, _), (2, _), (3, _)], [_, _])) rfl ?_
        refine pm_Fv.scl rfl ?_
        refine pm_Fv.bp rfl rfl ?_
        refine pm_Fv.isub rfl ?_
        refine pm_Fv.jgt rfl (by omega) rfl (fun h1 => ?_) (fun h1 => ?_)
        · exact absurd h1 (by omega)
        · refine pm_Fv.go 2 (f' := (1, 36, [(4, _), (0, _), (1, _), (2, _), (3, _)], [_, _])) rfl ?_
          refine pm_Fv.sc rfl (by omega) ?_
          refine pm_Fv.bp rfl rfl ?_
          refine pm_Fv.iandx rfl ?_
          rw [e]
          refine pm_Fv.go 1 (f' := (1, 1018, [(4, _), (0, _), (1, _), (2, _), (3, _)], [])) rfl ?_
          exact lc_undo L xs J (by omega) (by omega) (by omega) hL kk
      · skip
        refine pm_Fv.go 2 (f' := (1, 26, [(4, _), (0, _), (1, _), (2, _), (3, _)], [_, _])) rfl ?_
        refine pm_Fv.scl rfl ?_
        refine pm_Fv.bp rfl rfl ?_
        refine pm_Fv.isub rfl ?_
        refine pm_Fv.jgt rfl (by omega) rfl (fun h1 => ?_) (fun h1 => ?_)
        · exact absurd h1 (by omega)
        · refine pm_Fv.go 2 (f' := (1, 36, [(4, _), (0, _), (1, _), (2, _), (3, _)], [_, _])) rfl ?_
          refine pm_Fv.sc rfl (by omega) ?_
          refine pm_Fv.bp rfl rfl ?_
          refine pm_Fv.iandx rfl ?_
          rw [e]
          refine pm_Fv.go 1 (f' := (1, 1069, [(4, _), (0, _), (1, _), (2, _), (3, _)], [])) rfl ?_
          exact lc_redo L xs J (by omega) (by omega) (by omega) hL kk
      · skip
        refine pm_Fv.go 2 (f' := (1, 26, [(4, _), (0, _), (1, _), (2, _), (3, _)], [_, _])) rfl ?_
        refine pm_Fv.scl rfl ?_
        refine pm_Fv.bp rfl rfl ?_
        refine pm_Fv.isub rfl ?_
        refine pm_Fv.jgt rfl (by omega) rfl (fun h1 => ?_) (fun h1 => ?_)
        · exact absurd h1 (by omega)
        · refine pm_Fv.go 2 (f' := (1, 36, [(4, _), (0, _), (1, _), (2, _), (3, _)], [_, _])) rfl ?_
          refine pm_Fv.sc rfl (by omega) ?_
          refine pm_Fv.bp rfl rfl ?_
          refine pm_Fv.iandx rfl ?_
          rw [e]
          refine pm_Fv.go 1 (f' := (1, 1120, [(4, _), (0, _), (1, _), (2, _), (3, _)], [])) rfl ?_
          exact lc_steps L xs J (by omega) (by omega) (by omega) hL kk
      · skip
        refine pm_Fv.go 2 (f' := (1, 26, [(4, _), (0, _), (1, _), (2, _), (3, _)], [_, _])) rfl ?_
        refine pm_Fv.scl rfl ?_
        refine pm_Fv.bp rfl rfl ?_
        refine pm_Fv.isub rfl ?_
        refine pm_Fv.jgt rfl (by omega) rfl (fun h1 => ?_) (fun h1 => ?_)
        · exact absurd h1 (by omega)
        · refine pm_Fv.go 2 (f' := (1, 36, [(4, _), (0, _), (1, _), (2, _), (3, _)], [_, _])) rfl ?_
          refine pm_Fv.sc rfl (by omega) ?_
          refine pm_Fv.bp rfl rfl ?_
          refine pm_Fv.iandx rfl ?_
          rw [e]
          refine pm_Fv.go 1 (f' := (1, 1176, [(4, _), (0, _), (1, _), (2, _), (3, _)], [])) rfl ?_
          exact lc_today L xs J (by omega) (by omega) (by omega) hL kk
      · skip
        refine pm_Fv.go 2 (f' := (1, 26, [(4, _), (0, _), (1, _), (2, _), (3, _)], [_, _])) rfl ?_
        refine pm_Fv.scl rfl ?_
        refine pm_Fv.bp rfl rfl ?_
        refine pm_Fv.isub rfl ?_
        refine pm_Fv.jgt rfl (by omega) rfl (fun h1 => ?_) (fun h1 => ?_)
        · exact absurd h1 (by omega)
        · refine pm_Fv.go 2 (f' := (1, 36, [(4, _), (0, _), (1, _), (2, _), (3, _)], [_, _])) rfl ?_
          refine pm_Fv.sc rfl (by omega) ?_
          refine pm_Fv.bp rfl rfl ?_
          refine pm_Fv.iandx rfl ?_
          rw [e]
          refine pm_Fv.go 1 (f' := (1, 1232, [(4, _), (0, _), (1, _), (2, _), (3, _)], [])) rfl ?_
          exact lc_day L xs J (by omega) (by omega) (by omega) hL kk
      · skip
        refine pm_Fv.go 2 (f' := (1, 26, [(4, _), (0, _), (1, _), (2, _), (3, _)], [_, _])) rfl ?_
        refine pm_Fv.scl rfl ?_
        refine pm_Fv.bp rfl rfl ?_
        refine pm_Fv.isub rfl ?_
        refine pm_Fv.jgt rfl (by omega) rfl (fun h1 => ?_) (fun h1 => ?_)
        · exact absurd h1 (by omega)
        · refine pm_Fv.go 2 (f' := (1, 36, [(4, _), (0, _), (1, _), (2, _), (3, _)], [_, _])) rfl ?_
          refine pm_Fv.sc rfl (by omega) ?_
          refine pm_Fv.bp rfl rfl ?_
          refine pm_Fv.iandx rfl ?_
          rw [e]
          refine pm_Fv.go 1 (f' := (1, 1312, [(4, _), (0, _), (1, _), (2, _), (3, _)], [])) rfl ?_
          exact lc_calendar L xs J (by omega) (by omega) (by omega) hL kk
      · skip
        refine pm_Fv.go 2 (f' := (1, 26, [(4, _), (0, _), (1, _), (2, _), (3, _)], [_, _])) rfl ?_
        refine pm_Fv.scl rfl ?_
        refine pm_Fv.bp rfl rfl ?_
        refine pm_Fv.isub rfl ?_
        refine pm_Fv.jgt rfl (by omega) rfl (fun h1 => ?_) (fun h1 => ?_)
        · exact absurd h1 (by omega)
        · refine pm_Fv.go 2 (f' := (1, 36, [(4, _), (0, _), (1, _), (2, _), (3, _)], [_, _])) rfl ?_
          refine pm_Fv.sc rfl (by omega) ?_
          refine pm_Fv.bp rfl rfl ?_
          refine pm_Fv.iandx rfl ?_
          rw [e]
          refine pm_Fv.go 1 (f' := (1, 1380, [(4, _), (0, _), (1, _), (2, _), (3, _)], [])) rfl ?_
          exact lc_match L xs J (by omega) (by omega) (by omega) hL kk
      · skip
        refine pm_Fv.go 2 (f' := (1, 26, [(4, _), (0, _), (1, _), (2, _), (3, _)], [_, _])) rfl ?_
        refine pm_Fv.scl rfl ?_
        refine pm_Fv.bp rfl rfl ?_
        refine pm_Fv.isub rfl ?_
        refine pm_Fv.jgt rfl (by omega) rfl (fun h1 => ?_) (fun h1 => ?_)
        · exact absurd h1 (by omega)
        · refine pm_Fv.go 2 (f' := (1, 36, [(4, _), (0, _), (1, _), (2, _), (3, _)], [_, _])) rfl ?_
          refine pm_Fv.sc rfl (by omega) ?_
          refine pm_Fv.bp rfl rfl ?_
          refine pm_Fv.iandx rfl ?_
          rw [e]
          refine pm_Fv.go 1 (f' := (1, 1441, [(4, _), (0, _), (1, _), (2, _), (3, _)], [])) rfl ?_
          exact lc_agenda L xs J (by omega) (by omega) (by omega) hL kk
      · skip
        refine pm_Fv.go 2 (f' := (1, 26, [(4, _), (0, _), (1, _), (2, _), (3, _)], [_, _])) rfl ?_
        refine pm_Fv.scl rfl ?_
        refine pm_Fv.bp rfl rfl ?_
        refine pm_Fv.isub rfl ?_
        refine pm_Fv.jgt rfl (by omega) rfl (fun h1 => ?_) (fun h1 => ?_)
        · exact absurd h1 (by omega)
        · refine pm_Fv.go 2 (f' := (1, 36, [(4, _), (0, _), (1, _), (2, _), (3, _)], [_, _])) rfl ?_
          refine pm_Fv.sc rfl (by omega) ?_
          refine pm_Fv.bp rfl rfl ?_
          refine pm_Fv.iandx rfl ?_
          rw [e]
          refine pm_Fv.go 1 (f' := (1, 1478, [(4, _), (0, _), (1, _), (2, _), (3, _)], [])) rfl ?_
          exact lc_found L xs J (by omega) (by omega) (by omega) hL kk
      · skip
        refine pm_Fv.go 2 (f' := (1, 26, [(4, _), (0, _), (1, _), (2, _), (3, _)], [_, _])) rfl ?_
        refine pm_Fv.scl rfl ?_
        refine pm_Fv.bp rfl rfl ?_
        refine pm_Fv.isub rfl ?_
        refine pm_Fv.jgt rfl (by omega) rfl (fun h1 => ?_) (fun h1 => ?_)
        · exact absurd h1 (by omega)
        · refine pm_Fv.go 2 (f' := (1, 36, [(4, _), (0, _), (1, _), (2, _), (3, _)], [_, _])) rfl ?_
          refine pm_Fv.sc rfl (by omega) ?_
          refine pm_Fv.bp rfl rfl ?_
          refine pm_Fv.iandx rfl ?_
          rw [e]
          refine pm_Fv.go 1 (f' := (1, 1546, [(4, _), (0, _), (1, _), (2, _), (3, _)], [])) rfl ?_
          exact lc_line L xs J (by omega) (by omega) (by omega) hL kk
      · skip
        refine pm_Fv.go 2 (f' := (1, 26, [(4, _), (0, _), (1, _), (2, _), (3, _)], [_, _])) rfl ?_
        refine pm_Fv.scl rfl ?_
        refine pm_Fv.bp rfl rfl ?_
        refine pm_Fv.isub rfl ?_
        refine pm_Fv.jgt rfl (by omega) rfl (fun h1 => ?_) (fun h1 => ?_)
        · exact absurd h1 (by omega)
        · refine pm_Fv.go 2 (f' := (1, 36, [(4, _), (0, _), (1, _), (2, _), (3, _)], [_, _])) rfl ?_
          refine pm_Fv.sc rfl (by omega) ?_
          refine pm_Fv.bp rfl rfl ?_
          refine pm_Fv.iandx rfl ?_
          rw [e]
          refine pm_Fv.go 1 (f' := (1, 1571, [(4, _), (0, _), (1, _), (2, _), (3, _)], [])) rfl ?_
          exact lc_child L xs J (by omega) (by omega) (by omega) hL kk
      · skip
        refine pm_Fv.go 2 (f' := (1, 26, [(4, _), (0, _), (1, _), (2, _), (3, _)], [_, _])) rfl ?_
        refine pm_Fv.scl rfl ?_
        refine pm_Fv.bp rfl rfl ?_
        refine pm_Fv.isub rfl ?_
        refine pm_Fv.jgt rfl (by omega) rfl (fun h1 => ?_) (fun h1 => ?_)
        · exact absurd h1 (by omega)
        · refine pm_Fv.go 2 (f' := (1, 36, [(4, _), (0, _), (1, _), (2, _), (3, _)], [_, _])) rfl ?_
          refine pm_Fv.sc rfl (by omega) ?_
          refine pm_Fv.bp rfl rfl ?_
          refine pm_Fv.iandx rfl ?_
          rw [e]
          refine pm_Fv.go 1 (f' := (1, 1639, [(4, _), (0, _), (1, _), (2, _), (3, _)], [])) rfl ?_
          exact lc_sum L xs J (by omega) (by omega) (by omega) hL kk
      · skip
        refine pm_Fv.go 2 (f' := (1, 26, [(4, _), (0, _), (1, _), (2, _), (3, _)], [_, _])) rfl ?_
        refine pm_Fv.scl rfl ?_
        refine pm_Fv.bp rfl rfl ?_
        refine pm_Fv.isub rfl ?_
        refine pm_Fv.jgt rfl (by omega) rfl (fun h1 => ?_) (fun h1 => ?_)
        · exact absurd h1 (by omega)
        · refine pm_Fv.go 2 (f' := (1, 36, [(4, _), (0, _), (1, _), (2, _), (3, _)], [_, _])) rfl ?_
          refine pm_Fv.sc rfl (by omega) ?_
          refine pm_Fv.bp rfl rfl ?_
          refine pm_Fv.iandx rfl ?_
          rw [e]
          refine pm_Fv.go 1 (f' := (1, 1707, [(4, _), (0, _), (1, _), (2, _), (3, _)], [])) rfl ?_
          exact lc_told L xs J (by omega) (by omega) (by omega) hL kk
      · skip
        refine pm_Fv.go 2 (f' := (1, 26, [(4, _), (0, _), (1, _), (2, _), (3, _)], [_, _])) rfl ?_
        refine pm_Fv.scl rfl ?_
        refine pm_Fv.bp rfl rfl ?_
        refine pm_Fv.isub rfl ?_
        refine pm_Fv.jgt rfl (by omega) rfl (fun h1 => ?_) (fun h1 => ?_)
        · exact absurd h1 (by omega)
        · refine pm_Fv.go 2 (f' := (1, 36, [(4, _), (0, _), (1, _), (2, _), (3, _)], [_, _])) rfl ?_
          refine pm_Fv.sc rfl (by omega) ?_
          refine pm_Fv.bp rfl rfl ?_
          refine pm_Fv.iandx rfl ?_
          rw [e]
          refine pm_Fv.go 1 (f' := (1, 1775, [(4, _), (0, _), (1, _), (2, _), (3, _)], [])) rfl ?_
          exact lc_about L xs J (by omega) (by omega) (by omega) hL kk
      · skip
        refine pm_Fv.go 2 (f' := (1, 26, [(4, _), (0, _), (1, _), (2, _), (3, _)], [_, _])) rfl ?_
        refine pm_Fv.scl rfl ?_
        refine pm_Fv.bp rfl rfl ?_
        refine pm_Fv.isub rfl ?_
        refine pm_Fv.jgt rfl (by omega) rfl (fun h1 => ?_) (fun h1 => ?_)
        · exact absurd h1 (by omega)
        · refine pm_Fv.go 2 (f' := (1, 36, [(4, _), (0, _), (1, _), (2, _), (3, _)], [_, _])) rfl ?_
          refine pm_Fv.sc rfl (by omega) ?_
          refine pm_Fv.bp rfl rfl ?_
          refine pm_Fv.iandx rfl ?_
          rw [e]
          refine pm_Fv.go 1 (f' := (1, 1831, [(4, _), (0, _), (1, _), (2, _), (3, _)], [])) rfl ?_
          exact kk σ _ _ J.up
      · skip
        refine pm_Fv.go 2 (f' := (1, 26, [(4, _), (0, _), (1, _), (2, _), (3, _)], [_, _])) rfl ?_
        refine pm_Fv.scl rfl ?_
        refine pm_Fv.bp rfl rfl ?_
        refine pm_Fv.isub rfl ?_
        refine pm_Fv.jgt rfl (by omega) rfl (fun h1 => ?_) (fun h1 => ?_)
        · exact absurd h1 (by omega)
        · refine pm_Fv.go 2 (f' := (1, 36, [(4, _), (0, _), (1, _), (2, _), (3, _)], [_, _])) rfl ?_
          refine pm_Fv.sc rfl (by omega) ?_
          refine pm_Fv.bp rfl rfl ?_
          refine pm_Fv.iandx rfl ?_
          rw [e]
          refine pm_Fv.go 1 (f' := (1, 1831, [(4, _), (0, _), (1, _), (2, _), (3, _)], [])) rfl ?_
          exact kk σ _ _ J.up
      · skip
        refine pm_Fv.go 2 (f' := (1, 26, [(4, _), (0, _), (1, _), (2, _), (3, _)], [_, _])) rfl ?_
        refine pm_Fv.scl rfl ?_
        refine pm_Fv.bp rfl rfl ?_
        refine pm_Fv.isub rfl ?_
        refine pm_Fv.jgt rfl (by omega) rfl (fun h1 => ?_) (fun h1 => ?_)
        · exact absurd h1 (by omega)
        · refine pm_Fv.go 2 (f' := (1, 36, [(4, _), (0, _), (1, _), (2, _), (3, _)], [_, _])) rfl ?_
          refine pm_Fv.sc rfl (by omega) ?_
          refine pm_Fv.bp rfl rfl ?_
          refine pm_Fv.iandx rfl ?_
          rw [e]
          refine pm_Fv.go 1 (f' := (1, 1831, [(4, _), (0, _), (1, _), (2, _), (3, _)], [])) rfl ?_
          exact kk σ _ _ J.up
    · skip
      refine pm_Fv.go 2 (f' := (1, 26, [(4, _), (0, _), (1, _), (2, _), (3, _)], [_, _])) rfl ?_
      refine pm_Fv.scl rfl ?_
      refine pm_Fv.bp rfl rfl ?_
      refine pm_Fv.isub rfl ?_
      refine pm_Fv.jgt rfl (by omega) rfl (fun h1 => ?_) (fun h1 => ?_)
      · refine pm_Fv.go 1 (f' := (1, 1838, [(4, _), (0, _), (1, _), (2, _), (3, _)], [_])) rfl ?_
        exact pm_Fv.rb rfl rfl (by decide) ⟨rfl, N, k, l, by omega, J⟩
      · exact absurd h1 (by omega)
end JJ
