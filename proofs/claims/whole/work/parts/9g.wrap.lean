/-! the law's small methods: a call of the desk, and what it answered -/
section RU
variable {P : pm_P} {mi pc : Nat} {i : Instr} {n : Nat} {lv : pm_L} {st : List Value} {σ : pm_S} {res : pm_O × pm_S} {Q : pm_O → pm_S → Prop}
theorem pm_Ev.cvC {ix k ci y n a x hp cj : Nat} {as r fs gs : List Value} {σ1 : pm_S} (hc : pm_cod P mi pc = some (.invokevirtual ix, 3)) (hk : pm_cal P mi ix = some (k, ci, y, n)) (hd : st.drop n = .ref a :: r) (has : .ref a :: (st.take n).reverse = as) (hkk : k = 0 ∨ k = 1) (hs : (r.map fun v => v.category).sum ≤ 8) (hz : pm_asz as ≤ pm_mxl P y) (ha : a < σ.2.1) (ho : σ.1 a = .inr (ci, fs)) (k1 : pm_Ev P (pm_enter y as) σ (.inr x, σ1)) (hx : x < σ1.2.1) (ho2 : σ1.1 x = .inr (cj, gs)) (hi : pm_isa P cj 0 = true) (hf : pm_find P pc cj (pm_hdl P mi) = some hp) (k2 : pm_Ev P (mi, hp, lv, [.ref x]) σ1 res) : pm_Ev P (mi, pc, lv, st) σ res := by
  subst has
  refine pm_Ev.callC (r := r) hc rfl rfl rfl ?_ k1 hx ho2 hi hf k2
  unfold pm_ca
  simp only [hk, hd, if_pos (show (k = 0 ∨ k = 1) ∧ a < σ.2.1 ∧ (r.map fun v => v.category).sum ≤ 8 from ⟨hkk, ha, hs⟩), ho, true_and, if_pos hz]
theorem pm_Fv.cvG {ix k ci y n a : Nat} {as r fs : List Value} (hc : pm_cod P mi pc = some (.invokevirtual ix, 3)) (hk : pm_cal P mi ix = some (k, ci, y, n)) (hd : st.drop n = .ref a :: r) (has : .ref a :: (st.take n).reverse = as) (hkk : k = 0 ∨ k = 1) (hs : (r.map fun v => v.category).sum ≤ 8) (hz : pm_asz as ≤ pm_mxl P y) (ha : a < σ.2.1) (ho : σ.1 a = .inr (ci, fs)) (k1 : pm_Fv P (pm_enter y as) σ (fun o s => ∃ v, o = .inl v ∧ pm_Fv P (mi, pc + 3, lv, v.toList ++ r) s Q)) : pm_Fv P (mi, pc, lv, st) σ Q := by
  obtain ⟨o, s, e, v, rfl, q⟩ := k1
  exact pm_Fv.cv hc hk hd has hkk hs hz ha ho e q
theorem pm_Fv.callG {y : Nat} {as r : List Value} (hc : pm_cod P mi pc = some (i, n)) (hl : pm_ln i n = true) (h0 : pm_in P mi pc lv st σ i = none) (h1 : pm_dn P mi pc st σ i = none) (h2 : pm_ca P mi st σ i = some (y, as, r)) (k1 : pm_Fv P (pm_enter y as) σ (fun o s => ∃ v, o = .inl v ∧ pm_Fv P (mi, pc + 3, lv, v.toList ++ r) s Q)) : pm_Fv P (mi, pc, lv, st) σ Q := by
  obtain ⟨o, s, e, v, rfl, q⟩ := k1
  exact pm_Fv.call hc hl h0 h1 h2 e q
end RU
def ol_w (lr : Nat → Nat × (Nat → Int64)) (v : Int) : Nat → Nat × (Nat → Int64) := hq_u lr 1 ((lr 1).1, vp_updL (lr 1).2 0 (zL v))
theorem ol_w_0 (lr : Nat → Nat × (Nat → Int64)) (v : Int) : ol_w lr v 0 = lr 0 := rfl
theorem ol_w_1 (lr : Nat → Nat × (Nat → Int64)) (v : Int) : (ol_w lr v 1).1 = (lr 1).1 := rfl
theorem ol_w_v (lr : Nat → Nat × (Nat → Int64)) (v : Int) : (ol_w lr v 1).2 0 = zL v := by
  show vp_updL (lr 1).2 0 (zL v) 0 = zL v
  unfold vp_updL
  exact if_pos rfl
section RO
variable {P : pm_P} {mi pc : Nat} {lv : pm_L} {st : List Value} {σ : pm_S} {Q : pm_O → pm_S → Prop}
variable {ad : Nat → Nat} {z : Nat → Int} {ar : Nat → Nat × (Nat → Int32)} {lr : Nat → Nat × (Nat → Int64)}
theorem Hp.a208 (H : Hp σ ad z ar lr) : σ.1 208 = .inl (1, (lr 1).1, .inr (.inl (lr 1).2)) := (H.fat (r := 208) (by decide) rfl).trans rfl
theorem pm_Fv.ols (H : Hp σ ad z ar lr) (l1 : (lr 1).1 = 1) {v : Int} (hc : pm_cod P mi pc = some (.lastore, 1)) (kk : ∀ t : pm_S, t.2 = σ.2 → (∀ ad z ar lr, Hp σ ad z ar lr → Hp t ad z ar (ol_w lr v)) → pm_Fv P (mi, pc + 1, lv, st) t Q) : pm_Fv P (mi, pc, lv, .long (zL v) :: .int (zI 0) :: .ref 208 :: st) σ Q := by
  refine pm_Fv.ls hc (H.flt (r := 208) (by decide) rfl) H.a208 (zI_ix (by omega) (by rw [l1]; decide) (by rw [l1]; decide)) (kk _ rfl ?_)
  intro ad2 z2 ar2 lr2 H2
  have e : (Sum.inl (1, (lr 1).1, .inr (.inl (lr 1).2)) : pm_E) = .inl (1, (lr2 1).1, .inr (.inl (lr2 1).2)) := H.a208.symm.trans H2.a208
  have e2 : lr 1 = lr2 1 := by
    injection e with e
    injection e with e1 e
    injection e with e3 e
    injection e with e
    injection e with e
    exact Prod.ext e3 e
  rw [e2, zI_nat (by omega) (by omega)]
  exact Hp.oset H2 ((lr2 1).1, vp_updL (lr2 1).2 0 (zL v))
theorem pm_Fv.oll (H : Hp σ ad z ar lr) (l1 : (lr 1).1 = 1) {v : Int} (e : (lr 1).2 0 = zL v) (hc : pm_cod P mi pc = some (.laload, 1)) (kk : pm_Fv P (mi, pc + 1, lv, .long (zL v) :: st) σ Q) : pm_Fv P (mi, pc, lv, .int (zI 0) :: .ref 208 :: st) σ Q := by
  refine pm_Fv.la hc (H.flt (r := 208) (by decide) rfl) H.a208 (zI_ix (by omega) (by rw [l1]; decide) (by rw [l1]; decide)) ?_
  rw [zI_nat (by omega) (by omega)]
  show pm_Fv P (mi, pc + 1, lv, .long ((lr 1).2 0) :: st) σ Q
  rw [e]
  exact kk
end RO
section MS
variable (L : Nat) (xs : Nat → Int32)
variable {σ : pm_S} {ad : Nat → Nat} {z : Nat → Int} {ar : Nat → Nat × (Nat → Int32)} {lr : Nat → Nat × (Nat → Int64)}
theorem wr_insert1 (H : Hp σ ad z ar lr) {a1 a2 a3 : Int} (k : pm_Ev (tq_P L xs) (pm_enter 3 [.ref 0, .int (zI a1), .int (zI a2), .int (zI a3)]) σ (.inr σ.2.1, pm_add σ (.inr (9, [])) 6)) : pm_Ev (tq_P L xs) (pm_enter 173 [.ref 0, .int (zI a1), .int (zI a2), .int (zI a3), .ref 208]) σ (.inl (some (.int (zI 1))), pm_add σ (.inr (9, [])) 6) := by
  show pm_Ev (tq_P L xs) (173, 0, [(0, .ref 0), (1, .int (zI a1)), (2, .int (zI a2)), (3, .int (zI a3)), (4, .ref 208)], []) σ _
  refine pm_Ev.go 6 (f' := (173, 7, [(0, _), (1, _), (2, _), (3, _), (4, _)], [_, _, _, _, _, _])) rfl ?_
  refine pm_Ev.cvC rfl rfl rfl rfl (by decide) (Nat.le_of_ble_eq_true rfl) (Nat.le_of_ble_eq_true rfl) H.m0 H.o0 k (Nat.lt_succ_self _) (pm_add_at _ _ _) rfl rfl ?_
  refine pm_Ev.go 2 rfl ?_
  exact pm_Ev.rv rfl rfl rfl
theorem wr_insert2 (H : Hp σ ad z ar lr) {a1 a2 a3 : Int} (k : pm_Ev (tq_P L xs) (pm_enter 3 [.ref 0, .int (zI a1), .int (zI a2), .int (zI a3)]) σ (.inr σ.2.1, pm_add σ (.inr (7, [])) 6)) : pm_Ev (tq_P L xs) (pm_enter 173 [.ref 0, .int (zI a1), .int (zI a2), .int (zI a3), .ref 208]) σ (.inl (some (.int (zI 2))), pm_add σ (.inr (7, [])) 6) := by
  show pm_Ev (tq_P L xs) (173, 0, [(0, .ref 0), (1, .int (zI a1)), (2, .int (zI a2)), (3, .int (zI a3)), (4, .ref 208)], []) σ _
  refine pm_Ev.go 6 (f' := (173, 7, [(0, _), (1, _), (2, _), (3, _), (4, _)], [_, _, _, _, _, _])) rfl ?_
  refine pm_Ev.cvC rfl rfl rfl rfl (by decide) (Nat.le_of_ble_eq_true rfl) (Nat.le_of_ble_eq_true rfl) H.m0 H.o0 k (Nat.lt_succ_self _) (pm_add_at _ _ _) rfl rfl ?_
  refine pm_Ev.go 2 rfl ?_
  exact pm_Ev.rv rfl rfl rfl
theorem wr_insert3 (H : Hp σ ad z ar lr) {a1 a2 a3 : Int} (k : pm_Ev (tq_P L xs) (pm_enter 3 [.ref 0, .int (zI a1), .int (zI a2), .int (zI a3)]) σ (.inr σ.2.1, pm_add σ (.inr (10, [])) 6)) : pm_Ev (tq_P L xs) (pm_enter 173 [.ref 0, .int (zI a1), .int (zI a2), .int (zI a3), .ref 208]) σ (.inl (some (.int (zI 3))), pm_add σ (.inr (10, [])) 6) := by
  show pm_Ev (tq_P L xs) (173, 0, [(0, .ref 0), (1, .int (zI a1)), (2, .int (zI a2)), (3, .int (zI a3)), (4, .ref 208)], []) σ _
  refine pm_Ev.go 6 (f' := (173, 7, [(0, _), (1, _), (2, _), (3, _), (4, _)], [_, _, _, _, _, _])) rfl ?_
  refine pm_Ev.cvC rfl rfl rfl rfl (by decide) (Nat.le_of_ble_eq_true rfl) (Nat.le_of_ble_eq_true rfl) H.m0 H.o0 k (Nat.lt_succ_self _) (pm_add_at _ _ _) rfl rfl ?_
  refine pm_Ev.go 2 rfl ?_
  exact pm_Ev.rv rfl rfl rfl
theorem wr_insertN (H : Hp σ ad z ar lr) {a1 a2 a3 : Int} {v : Int} (vr : -2147483648 ≤ v ∧ v ≤ 2147483647) {R : pm_S → Prop} (k : pm_Fv (tq_P L xs) (pm_enter 3 [.ref 0, .int (zI a1), .int (zI a2), .int (zI a3)]) σ (fun o s => o = .inl (some (.int (zI v))) ∧ R s)) (hR : ∀ s, R s → ∃ ad z ar lr, Hp s ad z ar lr ∧ (lr 1).1 = 1) : pm_Fv (tq_P L xs) (pm_enter 173 [.ref 0, .int (zI a1), .int (zI a2), .int (zI a3), .ref 208]) σ (fun o t => o = .inl (some (.int (zI 0))) ∧ ∃ s, R s ∧ t.2 = s.2 ∧ ∀ ad z ar lr, Hp s ad z ar lr → Hp t ad z ar (ol_w lr v)) := by
  show pm_Fv (tq_P L xs) (173, 0, [(0, .ref 0), (1, .int (zI a1)), (2, .int (zI a2)), (3, .int (zI a3)), (4, .ref 208)], []) σ _
  refine pm_Fv.go 6 (f' := (173, 7, [(0, _), (1, _), (2, _), (3, _), (4, _)], [_, _, _, _, _, _])) rfl ?_
  refine pm_Fv.cvF rfl rfl rfl rfl (by decide) (Nat.le_of_ble_eq_true rfl) (Nat.le_of_ble_eq_true rfl) H.m0 H.o0 k (fun s q => ?_)
  obtain ⟨ad1, z1, ar1, lr1, H1, l1⟩ := hR s q
  refine pm_Fv.i2l rfl vr ?_
  refine pm_Fv.ols H1 l1 rfl (fun t rt ht => ?_)
  refine pm_Fv.go 2 rfl ?_
  exact pm_Fv.rv rfl rfl ⟨rfl, s, q, rt, ht⟩
theorem wr_remove1 (H : Hp σ ad z ar lr) {a1 : Int} (k : pm_Ev (tq_P L xs) (pm_enter 4 [.ref 0, .int (zI a1)]) σ (.inr σ.2.1, pm_add σ (.inr (9, [])) 6)) : pm_Ev (tq_P L xs) (pm_enter 174 [.ref 0, .int (zI a1), .ref 208]) σ (.inl (some (.int (zI 1))), pm_add σ (.inr (9, [])) 6) := by
  show pm_Ev (tq_P L xs) (174, 0, [(0, .ref 0), (1, .int (zI a1)), (2, .ref 208)], []) σ _
  refine pm_Ev.go 4 (f' := (174, 4, [(0, _), (1, _), (2, _)], [_, _, _, _])) rfl ?_
  refine pm_Ev.cvC rfl rfl rfl rfl (by decide) (Nat.le_of_ble_eq_true rfl) (Nat.le_of_ble_eq_true rfl) H.m0 H.o0 k (Nat.lt_succ_self _) (pm_add_at _ _ _) rfl rfl ?_
  refine pm_Ev.go 2 rfl ?_
  exact pm_Ev.rv rfl rfl rfl
theorem wr_removeN (H : Hp σ ad z ar lr) {a1 : Int} {v : Int} (vr : -2147483648 ≤ v ∧ v ≤ 2147483647) {R : pm_S → Prop} (k : pm_Fv (tq_P L xs) (pm_enter 4 [.ref 0, .int (zI a1)]) σ (fun o s => o = .inl (some (.int (zI v))) ∧ R s)) (hR : ∀ s, R s → ∃ ad z ar lr, Hp s ad z ar lr ∧ (lr 1).1 = 1) : pm_Fv (tq_P L xs) (pm_enter 174 [.ref 0, .int (zI a1), .ref 208]) σ (fun o t => o = .inl (some (.int (zI 0))) ∧ ∃ s, R s ∧ t.2 = s.2 ∧ ∀ ad z ar lr, Hp s ad z ar lr → Hp t ad z ar (ol_w lr v)) := by
  show pm_Fv (tq_P L xs) (174, 0, [(0, .ref 0), (1, .int (zI a1)), (2, .ref 208)], []) σ _
  refine pm_Fv.go 4 (f' := (174, 4, [(0, _), (1, _), (2, _)], [_, _, _, _])) rfl ?_
  refine pm_Fv.cvF rfl rfl rfl rfl (by decide) (Nat.le_of_ble_eq_true rfl) (Nat.le_of_ble_eq_true rfl) H.m0 H.o0 k (fun s q => ?_)
  obtain ⟨ad1, z1, ar1, lr1, H1, l1⟩ := hR s q
  refine pm_Fv.i2l rfl vr ?_
  refine pm_Fv.ols H1 l1 rfl (fun t rt ht => ?_)
  refine pm_Fv.go 2 rfl ?_
  exact pm_Fv.rv rfl rfl ⟨rfl, s, q, rt, ht⟩
theorem wr_move1 (H : Hp σ ad z ar lr) {a1 a2 a3 : Int} (k : pm_Ev (tq_P L xs) (pm_enter 5 [.ref 0, .int (zI a1), .int (zI a2), .int (zI a3)]) σ (.inr σ.2.1, pm_add σ (.inr (9, [])) 6)) : pm_Ev (tq_P L xs) (pm_enter 175 [.ref 0, .int (zI a1), .int (zI a2), .int (zI a3)]) σ (.inl (some (.int (zI 1))), pm_add σ (.inr (9, [])) 6) := by
  show pm_Ev (tq_P L xs) (175, 0, [(0, .ref 0), (1, .int (zI a1)), (2, .int (zI a2)), (3, .int (zI a3))], []) σ _
  refine pm_Ev.go 4 (f' := (175, 4, [(0, _), (1, _), (2, _), (3, _)], [_, _, _, _])) rfl ?_
  refine pm_Ev.cvC rfl rfl rfl rfl (by decide) (Nat.le_of_ble_eq_true rfl) (Nat.le_of_ble_eq_true rfl) H.m0 H.o0 k (Nat.lt_succ_self _) (pm_add_at _ _ _) rfl rfl ?_
  refine pm_Ev.go 2 rfl ?_
  exact pm_Ev.rv rfl rfl rfl
theorem wr_move2 (H : Hp σ ad z ar lr) {a1 a2 a3 : Int} (k : pm_Ev (tq_P L xs) (pm_enter 5 [.ref 0, .int (zI a1), .int (zI a2), .int (zI a3)]) σ (.inr σ.2.1, pm_add σ (.inr (8, [])) 6)) : pm_Ev (tq_P L xs) (pm_enter 175 [.ref 0, .int (zI a1), .int (zI a2), .int (zI a3)]) σ (.inl (some (.int (zI 2))), pm_add σ (.inr (8, [])) 6) := by
  show pm_Ev (tq_P L xs) (175, 0, [(0, .ref 0), (1, .int (zI a1)), (2, .int (zI a2)), (3, .int (zI a3))], []) σ _
  refine pm_Ev.go 4 (f' := (175, 4, [(0, _), (1, _), (2, _), (3, _)], [_, _, _, _])) rfl ?_
  refine pm_Ev.cvC rfl rfl rfl rfl (by decide) (Nat.le_of_ble_eq_true rfl) (Nat.le_of_ble_eq_true rfl) H.m0 H.o0 k (Nat.lt_succ_self _) (pm_add_at _ _ _) rfl rfl ?_
  refine pm_Ev.go 2 rfl ?_
  exact pm_Ev.rv rfl rfl rfl
theorem wr_move3 (H : Hp σ ad z ar lr) {a1 a2 a3 : Int} (k : pm_Ev (tq_P L xs) (pm_enter 5 [.ref 0, .int (zI a1), .int (zI a2), .int (zI a3)]) σ (.inr σ.2.1, pm_add σ (.inr (7, [])) 6)) : pm_Ev (tq_P L xs) (pm_enter 175 [.ref 0, .int (zI a1), .int (zI a2), .int (zI a3)]) σ (.inl (some (.int (zI 3))), pm_add σ (.inr (7, [])) 6) := by
  show pm_Ev (tq_P L xs) (175, 0, [(0, .ref 0), (1, .int (zI a1)), (2, .int (zI a2)), (3, .int (zI a3))], []) σ _
  refine pm_Ev.go 4 (f' := (175, 4, [(0, _), (1, _), (2, _), (3, _)], [_, _, _, _])) rfl ?_
  refine pm_Ev.cvC rfl rfl rfl rfl (by decide) (Nat.le_of_ble_eq_true rfl) (Nat.le_of_ble_eq_true rfl) H.m0 H.o0 k (Nat.lt_succ_self _) (pm_add_at _ _ _) rfl rfl ?_
  refine pm_Ev.go 2 rfl ?_
  exact pm_Ev.rv rfl rfl rfl
theorem wr_move4 (H : Hp σ ad z ar lr) {a1 a2 a3 : Int} (k : pm_Ev (tq_P L xs) (pm_enter 5 [.ref 0, .int (zI a1), .int (zI a2), .int (zI a3)]) σ (.inr σ.2.1, pm_add σ (.inr (10, [])) 6)) : pm_Ev (tq_P L xs) (pm_enter 175 [.ref 0, .int (zI a1), .int (zI a2), .int (zI a3)]) σ (.inl (some (.int (zI 4))), pm_add σ (.inr (10, [])) 6) := by
  show pm_Ev (tq_P L xs) (175, 0, [(0, .ref 0), (1, .int (zI a1)), (2, .int (zI a2)), (3, .int (zI a3))], []) σ _
  refine pm_Ev.go 4 (f' := (175, 4, [(0, _), (1, _), (2, _), (3, _)], [_, _, _, _])) rfl ?_
  refine pm_Ev.cvC rfl rfl rfl rfl (by decide) (Nat.le_of_ble_eq_true rfl) (Nat.le_of_ble_eq_true rfl) H.m0 H.o0 k (Nat.lt_succ_self _) (pm_add_at _ _ _) rfl rfl ?_
  refine pm_Ev.go 2 rfl ?_
  exact pm_Ev.rv rfl rfl rfl
theorem wr_moveV (H : Hp σ ad z ar lr) {a1 a2 a3 : Int} {R : pm_S → Prop} (k : pm_Fv (tq_P L xs) (pm_enter 5 [.ref 0, .int (zI a1), .int (zI a2), .int (zI a3)]) σ (fun o s => o = .inl none ∧ R s)) : pm_Fv (tq_P L xs) (pm_enter 175 [.ref 0, .int (zI a1), .int (zI a2), .int (zI a3)]) σ (fun o s => o = .inl (some (.int (zI 0))) ∧ R s) := by
  show pm_Fv (tq_P L xs) (175, 0, [(0, .ref 0), (1, .int (zI a1)), (2, .int (zI a2)), (3, .int (zI a3))], []) σ _
  refine pm_Fv.go 4 (f' := (175, 4, [(0, _), (1, _), (2, _), (3, _)], [_, _, _, _])) rfl ?_
  refine pm_Fv.cvF rfl rfl rfl rfl (by decide) (Nat.le_of_ble_eq_true rfl) (Nat.le_of_ble_eq_true rfl) H.m0 H.o0 k (fun s q => ?_)
  refine pm_Fv.go 2 rfl ?_
  exact pm_Fv.rv rfl rfl ⟨rfl, q⟩
theorem wr_promote1 (H : Hp σ ad z ar lr) {a1 : Int} (k : pm_Ev (tq_P L xs) (pm_enter 6 [.ref 0, .int (zI a1)]) σ (.inr σ.2.1, pm_add σ (.inr (9, [])) 6)) : pm_Ev (tq_P L xs) (pm_enter 176 [.ref 0, .int (zI a1)]) σ (.inl (some (.int (zI 1))), pm_add σ (.inr (9, [])) 6) := by
  show pm_Ev (tq_P L xs) (176, 0, [(0, .ref 0), (1, .int (zI a1))], []) σ _
  refine pm_Ev.go 2 (f' := (176, 2, [(0, _), (1, _)], [_, _])) rfl ?_
  refine pm_Ev.cvC rfl rfl rfl rfl (by decide) (Nat.le_of_ble_eq_true rfl) (Nat.le_of_ble_eq_true rfl) H.m0 H.o0 k (Nat.lt_succ_self _) (pm_add_at _ _ _) rfl rfl ?_
  refine pm_Ev.go 2 rfl ?_
  exact pm_Ev.rv rfl rfl rfl
theorem wr_promote2 (H : Hp σ ad z ar lr) {a1 : Int} (k : pm_Ev (tq_P L xs) (pm_enter 6 [.ref 0, .int (zI a1)]) σ (.inr σ.2.1, pm_add σ (.inr (8, [])) 6)) : pm_Ev (tq_P L xs) (pm_enter 176 [.ref 0, .int (zI a1)]) σ (.inl (some (.int (zI 2))), pm_add σ (.inr (8, [])) 6) := by
  show pm_Ev (tq_P L xs) (176, 0, [(0, .ref 0), (1, .int (zI a1))], []) σ _
  refine pm_Ev.go 2 (f' := (176, 2, [(0, _), (1, _)], [_, _])) rfl ?_
  refine pm_Ev.cvC rfl rfl rfl rfl (by decide) (Nat.le_of_ble_eq_true rfl) (Nat.le_of_ble_eq_true rfl) H.m0 H.o0 k (Nat.lt_succ_self _) (pm_add_at _ _ _) rfl rfl ?_
  refine pm_Ev.go 2 rfl ?_
  exact pm_Ev.rv rfl rfl rfl
theorem wr_promoteV (H : Hp σ ad z ar lr) {a1 : Int} {R : pm_S → Prop} (k : pm_Fv (tq_P L xs) (pm_enter 6 [.ref 0, .int (zI a1)]) σ (fun o s => o = .inl none ∧ R s)) : pm_Fv (tq_P L xs) (pm_enter 176 [.ref 0, .int (zI a1)]) σ (fun o s => o = .inl (some (.int (zI 0))) ∧ R s) := by
  show pm_Fv (tq_P L xs) (176, 0, [(0, .ref 0), (1, .int (zI a1))], []) σ _
  refine pm_Fv.go 2 (f' := (176, 2, [(0, _), (1, _)], [_, _])) rfl ?_
  refine pm_Fv.cvF rfl rfl rfl rfl (by decide) (Nat.le_of_ble_eq_true rfl) (Nat.le_of_ble_eq_true rfl) H.m0 H.o0 k (fun s q => ?_)
  refine pm_Fv.go 2 rfl ?_
  exact pm_Fv.rv rfl rfl ⟨rfl, q⟩
theorem wr_demote1 (H : Hp σ ad z ar lr) {a1 : Int} (k : pm_Ev (tq_P L xs) (pm_enter 7 [.ref 0, .int (zI a1)]) σ (.inr σ.2.1, pm_add σ (.inr (9, [])) 6)) : pm_Ev (tq_P L xs) (pm_enter 177 [.ref 0, .int (zI a1)]) σ (.inl (some (.int (zI 1))), pm_add σ (.inr (9, [])) 6) := by
  show pm_Ev (tq_P L xs) (177, 0, [(0, .ref 0), (1, .int (zI a1))], []) σ _
  refine pm_Ev.go 2 (f' := (177, 2, [(0, _), (1, _)], [_, _])) rfl ?_
  refine pm_Ev.cvC rfl rfl rfl rfl (by decide) (Nat.le_of_ble_eq_true rfl) (Nat.le_of_ble_eq_true rfl) H.m0 H.o0 k (Nat.lt_succ_self _) (pm_add_at _ _ _) rfl rfl ?_
  refine pm_Ev.go 2 rfl ?_
  exact pm_Ev.rv rfl rfl rfl
theorem wr_demote2 (H : Hp σ ad z ar lr) {a1 : Int} (k : pm_Ev (tq_P L xs) (pm_enter 7 [.ref 0, .int (zI a1)]) σ (.inr σ.2.1, pm_add σ (.inr (8, [])) 6)) : pm_Ev (tq_P L xs) (pm_enter 177 [.ref 0, .int (zI a1)]) σ (.inl (some (.int (zI 2))), pm_add σ (.inr (8, [])) 6) := by
  show pm_Ev (tq_P L xs) (177, 0, [(0, .ref 0), (1, .int (zI a1))], []) σ _
  refine pm_Ev.go 2 (f' := (177, 2, [(0, _), (1, _)], [_, _])) rfl ?_
  refine pm_Ev.cvC rfl rfl rfl rfl (by decide) (Nat.le_of_ble_eq_true rfl) (Nat.le_of_ble_eq_true rfl) H.m0 H.o0 k (Nat.lt_succ_self _) (pm_add_at _ _ _) rfl rfl ?_
  refine pm_Ev.go 2 rfl ?_
  exact pm_Ev.rv rfl rfl rfl
theorem wr_demote3 (H : Hp σ ad z ar lr) {a1 : Int} (k : pm_Ev (tq_P L xs) (pm_enter 7 [.ref 0, .int (zI a1)]) σ (.inr σ.2.1, pm_add σ (.inr (10, [])) 6)) : pm_Ev (tq_P L xs) (pm_enter 177 [.ref 0, .int (zI a1)]) σ (.inl (some (.int (zI 3))), pm_add σ (.inr (10, [])) 6) := by
  show pm_Ev (tq_P L xs) (177, 0, [(0, .ref 0), (1, .int (zI a1))], []) σ _
  refine pm_Ev.go 2 (f' := (177, 2, [(0, _), (1, _)], [_, _])) rfl ?_
  refine pm_Ev.cvC rfl rfl rfl rfl (by decide) (Nat.le_of_ble_eq_true rfl) (Nat.le_of_ble_eq_true rfl) H.m0 H.o0 k (Nat.lt_succ_self _) (pm_add_at _ _ _) rfl rfl ?_
  refine pm_Ev.go 2 rfl ?_
  exact pm_Ev.rv rfl rfl rfl
theorem wr_demoteV (H : Hp σ ad z ar lr) {a1 : Int} {R : pm_S → Prop} (k : pm_Fv (tq_P L xs) (pm_enter 7 [.ref 0, .int (zI a1)]) σ (fun o s => o = .inl none ∧ R s)) : pm_Fv (tq_P L xs) (pm_enter 177 [.ref 0, .int (zI a1)]) σ (fun o s => o = .inl (some (.int (zI 0))) ∧ R s) := by
  show pm_Fv (tq_P L xs) (177, 0, [(0, .ref 0), (1, .int (zI a1))], []) σ _
  refine pm_Fv.go 2 (f' := (177, 2, [(0, _), (1, _)], [_, _])) rfl ?_
  refine pm_Fv.cvF rfl rfl rfl rfl (by decide) (Nat.le_of_ble_eq_true rfl) (Nat.le_of_ble_eq_true rfl) H.m0 H.o0 k (fun s q => ?_)
  refine pm_Fv.go 2 rfl ?_
  exact pm_Fv.rv rfl rfl ⟨rfl, q⟩
theorem wr_title1 (H : Hp σ ad z ar lr) {a1 a2 : Int} (k : pm_Ev (tq_P L xs) (pm_enter 8 [.ref 0, .int (zI a1), .int (zI a2)]) σ (.inr σ.2.1, pm_add σ (.inr (9, [])) 6)) : pm_Ev (tq_P L xs) (pm_enter 178 [.ref 0, .int (zI a1), .int (zI a2)]) σ (.inl (some (.int (zI 1))), pm_add σ (.inr (9, [])) 6) := by
  show pm_Ev (tq_P L xs) (178, 0, [(0, .ref 0), (1, .int (zI a1)), (2, .int (zI a2))], []) σ _
  refine pm_Ev.go 3 (f' := (178, 3, [(0, _), (1, _), (2, _)], [_, _, _])) rfl ?_
  refine pm_Ev.cvC rfl rfl rfl rfl (by decide) (Nat.le_of_ble_eq_true rfl) (Nat.le_of_ble_eq_true rfl) H.m0 H.o0 k (Nat.lt_succ_self _) (pm_add_at _ _ _) rfl rfl ?_
  refine pm_Ev.go 2 rfl ?_
  exact pm_Ev.rv rfl rfl rfl
theorem wr_title2 (H : Hp σ ad z ar lr) {a1 a2 : Int} (k : pm_Ev (tq_P L xs) (pm_enter 8 [.ref 0, .int (zI a1), .int (zI a2)]) σ (.inr σ.2.1, pm_add σ (.inr (7, [])) 6)) : pm_Ev (tq_P L xs) (pm_enter 178 [.ref 0, .int (zI a1), .int (zI a2)]) σ (.inl (some (.int (zI 2))), pm_add σ (.inr (7, [])) 6) := by
  show pm_Ev (tq_P L xs) (178, 0, [(0, .ref 0), (1, .int (zI a1)), (2, .int (zI a2))], []) σ _
  refine pm_Ev.go 3 (f' := (178, 3, [(0, _), (1, _), (2, _)], [_, _, _])) rfl ?_
  refine pm_Ev.cvC rfl rfl rfl rfl (by decide) (Nat.le_of_ble_eq_true rfl) (Nat.le_of_ble_eq_true rfl) H.m0 H.o0 k (Nat.lt_succ_self _) (pm_add_at _ _ _) rfl rfl ?_
  refine pm_Ev.go 2 rfl ?_
  exact pm_Ev.rv rfl rfl rfl
theorem wr_titleV (H : Hp σ ad z ar lr) {a1 a2 : Int} {R : pm_S → Prop} (k : pm_Fv (tq_P L xs) (pm_enter 8 [.ref 0, .int (zI a1), .int (zI a2)]) σ (fun o s => o = .inl none ∧ R s)) : pm_Fv (tq_P L xs) (pm_enter 178 [.ref 0, .int (zI a1), .int (zI a2)]) σ (fun o s => o = .inl (some (.int (zI 0))) ∧ R s) := by
  show pm_Fv (tq_P L xs) (178, 0, [(0, .ref 0), (1, .int (zI a1)), (2, .int (zI a2))], []) σ _
  refine pm_Fv.go 3 (f' := (178, 3, [(0, _), (1, _), (2, _)], [_, _, _])) rfl ?_
  refine pm_Fv.cvF rfl rfl rfl rfl (by decide) (Nat.le_of_ble_eq_true rfl) (Nat.le_of_ble_eq_true rfl) H.m0 H.o0 k (fun s q => ?_)
  refine pm_Fv.go 2 rfl ?_
  exact pm_Fv.rv rfl rfl ⟨rfl, q⟩
theorem wr_state1 (H : Hp σ ad z ar lr) {a1 a2 : Int} (k : pm_Ev (tq_P L xs) (pm_enter 9 [.ref 0, .int (zI a1), .int (zI a2)]) σ (.inr σ.2.1, pm_add σ (.inr (9, [])) 6)) : pm_Ev (tq_P L xs) (pm_enter 179 [.ref 0, .int (zI a1), .int (zI a2), .ref 208]) σ (.inl (some (.int (zI 1))), pm_add σ (.inr (9, [])) 6) := by
  show pm_Ev (tq_P L xs) (179, 0, [(0, .ref 0), (1, .int (zI a1)), (2, .int (zI a2)), (3, .ref 208)], []) σ _
  refine pm_Ev.go 5 (f' := (179, 5, [(0, _), (1, _), (2, _), (3, _)], [_, _, _, _, _])) rfl ?_
  refine pm_Ev.cvC rfl rfl rfl rfl (by decide) (Nat.le_of_ble_eq_true rfl) (Nat.le_of_ble_eq_true rfl) H.m0 H.o0 k (Nat.lt_succ_self _) (pm_add_at _ _ _) rfl rfl ?_
  refine pm_Ev.go 2 rfl ?_
  exact pm_Ev.rv rfl rfl rfl
theorem wr_state2 (H : Hp σ ad z ar lr) {a1 a2 : Int} (k : pm_Ev (tq_P L xs) (pm_enter 9 [.ref 0, .int (zI a1), .int (zI a2)]) σ (.inr σ.2.1, pm_add σ (.inr (7, [])) 6)) : pm_Ev (tq_P L xs) (pm_enter 179 [.ref 0, .int (zI a1), .int (zI a2), .ref 208]) σ (.inl (some (.int (zI 2))), pm_add σ (.inr (7, [])) 6) := by
  show pm_Ev (tq_P L xs) (179, 0, [(0, .ref 0), (1, .int (zI a1)), (2, .int (zI a2)), (3, .ref 208)], []) σ _
  refine pm_Ev.go 5 (f' := (179, 5, [(0, _), (1, _), (2, _), (3, _)], [_, _, _, _, _])) rfl ?_
  refine pm_Ev.cvC rfl rfl rfl rfl (by decide) (Nat.le_of_ble_eq_true rfl) (Nat.le_of_ble_eq_true rfl) H.m0 H.o0 k (Nat.lt_succ_self _) (pm_add_at _ _ _) rfl rfl ?_
  refine pm_Ev.go 2 rfl ?_
  exact pm_Ev.rv rfl rfl rfl
theorem wr_state3 (H : Hp σ ad z ar lr) {a1 a2 : Int} (k : pm_Ev (tq_P L xs) (pm_enter 9 [.ref 0, .int (zI a1), .int (zI a2)]) σ (.inr σ.2.1, pm_add σ (.inr (10, [])) 6)) : pm_Ev (tq_P L xs) (pm_enter 179 [.ref 0, .int (zI a1), .int (zI a2), .ref 208]) σ (.inl (some (.int (zI 3))), pm_add σ (.inr (10, [])) 6) := by
  show pm_Ev (tq_P L xs) (179, 0, [(0, .ref 0), (1, .int (zI a1)), (2, .int (zI a2)), (3, .ref 208)], []) σ _
  refine pm_Ev.go 5 (f' := (179, 5, [(0, _), (1, _), (2, _), (3, _)], [_, _, _, _, _])) rfl ?_
  refine pm_Ev.cvC rfl rfl rfl rfl (by decide) (Nat.le_of_ble_eq_true rfl) (Nat.le_of_ble_eq_true rfl) H.m0 H.o0 k (Nat.lt_succ_self _) (pm_add_at _ _ _) rfl rfl ?_
  refine pm_Ev.go 2 rfl ?_
  exact pm_Ev.rv rfl rfl rfl
theorem wr_stateN (H : Hp σ ad z ar lr) {a1 a2 : Int} {v : Int} (vr : -2147483648 ≤ v ∧ v ≤ 2147483647) {R : pm_S → Prop} (k : pm_Fv (tq_P L xs) (pm_enter 9 [.ref 0, .int (zI a1), .int (zI a2)]) σ (fun o s => o = .inl (some (.int (zI v))) ∧ R s)) (hR : ∀ s, R s → ∃ ad z ar lr, Hp s ad z ar lr ∧ (lr 1).1 = 1) : pm_Fv (tq_P L xs) (pm_enter 179 [.ref 0, .int (zI a1), .int (zI a2), .ref 208]) σ (fun o t => o = .inl (some (.int (zI 0))) ∧ ∃ s, R s ∧ t.2 = s.2 ∧ ∀ ad z ar lr, Hp s ad z ar lr → Hp t ad z ar (ol_w lr v)) := by
  show pm_Fv (tq_P L xs) (179, 0, [(0, .ref 0), (1, .int (zI a1)), (2, .int (zI a2)), (3, .ref 208)], []) σ _
  refine pm_Fv.go 5 (f' := (179, 5, [(0, _), (1, _), (2, _), (3, _)], [_, _, _, _, _])) rfl ?_
  refine pm_Fv.cvF rfl rfl rfl rfl (by decide) (Nat.le_of_ble_eq_true rfl) (Nat.le_of_ble_eq_true rfl) H.m0 H.o0 k (fun s q => ?_)
  obtain ⟨ad1, z1, ar1, lr1, H1, l1⟩ := hR s q
  refine pm_Fv.i2l rfl vr ?_
  refine pm_Fv.ols H1 l1 rfl (fun t rt ht => ?_)
  refine pm_Fv.go 2 rfl ?_
  exact pm_Fv.rv rfl rfl ⟨rfl, s, q, rt, ht⟩
theorem wr_rank1 (H : Hp σ ad z ar lr) {a1 a2 : Int} (k : pm_Ev (tq_P L xs) (pm_enter 10 [.ref 0, .int (zI a1), .int (zI a2)]) σ (.inr σ.2.1, pm_add σ (.inr (9, [])) 6)) : pm_Ev (tq_P L xs) (pm_enter 180 [.ref 0, .int (zI a1), .int (zI a2)]) σ (.inl (some (.int (zI 1))), pm_add σ (.inr (9, [])) 6) := by
  show pm_Ev (tq_P L xs) (180, 0, [(0, .ref 0), (1, .int (zI a1)), (2, .int (zI a2))], []) σ _
  refine pm_Ev.go 3 (f' := (180, 3, [(0, _), (1, _), (2, _)], [_, _, _])) rfl ?_
  refine pm_Ev.cvC rfl rfl rfl rfl (by decide) (Nat.le_of_ble_eq_true rfl) (Nat.le_of_ble_eq_true rfl) H.m0 H.o0 k (Nat.lt_succ_self _) (pm_add_at _ _ _) rfl rfl ?_
  refine pm_Ev.go 2 rfl ?_
  exact pm_Ev.rv rfl rfl rfl
theorem wr_rank2 (H : Hp σ ad z ar lr) {a1 a2 : Int} (k : pm_Ev (tq_P L xs) (pm_enter 10 [.ref 0, .int (zI a1), .int (zI a2)]) σ (.inr σ.2.1, pm_add σ (.inr (7, [])) 6)) : pm_Ev (tq_P L xs) (pm_enter 180 [.ref 0, .int (zI a1), .int (zI a2)]) σ (.inl (some (.int (zI 2))), pm_add σ (.inr (7, [])) 6) := by
  show pm_Ev (tq_P L xs) (180, 0, [(0, .ref 0), (1, .int (zI a1)), (2, .int (zI a2))], []) σ _
  refine pm_Ev.go 3 (f' := (180, 3, [(0, _), (1, _), (2, _)], [_, _, _])) rfl ?_
  refine pm_Ev.cvC rfl rfl rfl rfl (by decide) (Nat.le_of_ble_eq_true rfl) (Nat.le_of_ble_eq_true rfl) H.m0 H.o0 k (Nat.lt_succ_self _) (pm_add_at _ _ _) rfl rfl ?_
  refine pm_Ev.go 2 rfl ?_
  exact pm_Ev.rv rfl rfl rfl
theorem wr_rankV (H : Hp σ ad z ar lr) {a1 a2 : Int} {R : pm_S → Prop} (k : pm_Fv (tq_P L xs) (pm_enter 10 [.ref 0, .int (zI a1), .int (zI a2)]) σ (fun o s => o = .inl none ∧ R s)) : pm_Fv (tq_P L xs) (pm_enter 180 [.ref 0, .int (zI a1), .int (zI a2)]) σ (fun o s => o = .inl (some (.int (zI 0))) ∧ R s) := by
  show pm_Fv (tq_P L xs) (180, 0, [(0, .ref 0), (1, .int (zI a1)), (2, .int (zI a2))], []) σ _
  refine pm_Fv.go 3 (f' := (180, 3, [(0, _), (1, _), (2, _)], [_, _, _])) rfl ?_
  refine pm_Fv.cvF rfl rfl rfl rfl (by decide) (Nat.le_of_ble_eq_true rfl) (Nat.le_of_ble_eq_true rfl) H.m0 H.o0 k (fun s q => ?_)
  refine pm_Fv.go 2 rfl ?_
  exact pm_Fv.rv rfl rfl ⟨rfl, q⟩
theorem wr_tag1 (H : Hp σ ad z ar lr) {a1 a2 a3 : Int} (k : pm_Ev (tq_P L xs) (pm_enter 11 [.ref 0, .int (zI a1), .int (zI a2), .int (zI a3)]) σ (.inr σ.2.1, pm_add σ (.inr (9, [])) 6)) : pm_Ev (tq_P L xs) (pm_enter 181 [.ref 0, .int (zI a1), .int (zI a2), .int (zI a3)]) σ (.inl (some (.int (zI 1))), pm_add σ (.inr (9, [])) 6) := by
  show pm_Ev (tq_P L xs) (181, 0, [(0, .ref 0), (1, .int (zI a1)), (2, .int (zI a2)), (3, .int (zI a3))], []) σ _
  refine pm_Ev.go 4 (f' := (181, 4, [(0, _), (1, _), (2, _), (3, _)], [_, _, _, _])) rfl ?_
  refine pm_Ev.cvC rfl rfl rfl rfl (by decide) (Nat.le_of_ble_eq_true rfl) (Nat.le_of_ble_eq_true rfl) H.m0 H.o0 k (Nat.lt_succ_self _) (pm_add_at _ _ _) rfl rfl ?_
  refine pm_Ev.go 2 rfl ?_
  exact pm_Ev.rv rfl rfl rfl
theorem wr_tag2 (H : Hp σ ad z ar lr) {a1 a2 a3 : Int} (k : pm_Ev (tq_P L xs) (pm_enter 11 [.ref 0, .int (zI a1), .int (zI a2), .int (zI a3)]) σ (.inr σ.2.1, pm_add σ (.inr (7, [])) 6)) : pm_Ev (tq_P L xs) (pm_enter 181 [.ref 0, .int (zI a1), .int (zI a2), .int (zI a3)]) σ (.inl (some (.int (zI 2))), pm_add σ (.inr (7, [])) 6) := by
  show pm_Ev (tq_P L xs) (181, 0, [(0, .ref 0), (1, .int (zI a1)), (2, .int (zI a2)), (3, .int (zI a3))], []) σ _
  refine pm_Ev.go 4 (f' := (181, 4, [(0, _), (1, _), (2, _), (3, _)], [_, _, _, _])) rfl ?_
  refine pm_Ev.cvC rfl rfl rfl rfl (by decide) (Nat.le_of_ble_eq_true rfl) (Nat.le_of_ble_eq_true rfl) H.m0 H.o0 k (Nat.lt_succ_self _) (pm_add_at _ _ _) rfl rfl ?_
  refine pm_Ev.go 2 rfl ?_
  exact pm_Ev.rv rfl rfl rfl
theorem wr_tagV (H : Hp σ ad z ar lr) {a1 a2 a3 : Int} {R : pm_S → Prop} (k : pm_Fv (tq_P L xs) (pm_enter 11 [.ref 0, .int (zI a1), .int (zI a2), .int (zI a3)]) σ (fun o s => o = .inl none ∧ R s)) : pm_Fv (tq_P L xs) (pm_enter 181 [.ref 0, .int (zI a1), .int (zI a2), .int (zI a3)]) σ (fun o s => o = .inl (some (.int (zI 0))) ∧ R s) := by
  show pm_Fv (tq_P L xs) (181, 0, [(0, .ref 0), (1, .int (zI a1)), (2, .int (zI a2)), (3, .int (zI a3))], []) σ _
  refine pm_Fv.go 4 (f' := (181, 4, [(0, _), (1, _), (2, _), (3, _)], [_, _, _, _])) rfl ?_
  refine pm_Fv.cvF rfl rfl rfl rfl (by decide) (Nat.le_of_ble_eq_true rfl) (Nat.le_of_ble_eq_true rfl) H.m0 H.o0 k (fun s q => ?_)
  refine pm_Fv.go 2 rfl ?_
  exact pm_Fv.rv rfl rfl ⟨rfl, q⟩
theorem wr_date1 (H : Hp σ ad z ar lr) {a1 a2 a3 a4 a5 a6 : Int} (k : pm_Ev (tq_P L xs) (pm_enter 12 [.ref 0, .int (zI a1), .int (zI a2), .int (zI a3), .int (zI a4), .int (zI a5), .int (zI a6)]) σ (.inr σ.2.1, pm_add σ (.inr (9, [])) 6)) : pm_Ev (tq_P L xs) (pm_enter 182 [.ref 0, .int (zI a1), .int (zI a2), .int (zI a3), .int (zI a4), .int (zI a5), .int (zI a6)]) σ (.inl (some (.int (zI 1))), pm_add σ (.inr (9, [])) 6) := by
  show pm_Ev (tq_P L xs) (182, 0, [(0, .ref 0), (1, .int (zI a1)), (2, .int (zI a2)), (3, .int (zI a3)), (4, .int (zI a4)), (5, .int (zI a5)), (6, .int (zI a6))], []) σ _
  refine pm_Ev.go 7 (f' := (182, 10, [(0, _), (1, _), (2, _), (3, _), (4, _), (5, _), (6, _)], [_, _, _, _, _, _, _])) rfl ?_
  refine pm_Ev.cvC rfl rfl rfl rfl (by decide) (Nat.le_of_ble_eq_true rfl) (Nat.le_of_ble_eq_true rfl) H.m0 H.o0 k (Nat.lt_succ_self _) (pm_add_at _ _ _) rfl rfl ?_
  refine pm_Ev.go 2 rfl ?_
  exact pm_Ev.rv rfl rfl rfl
theorem wr_date2 (H : Hp σ ad z ar lr) {a1 a2 a3 a4 a5 a6 : Int} (k : pm_Ev (tq_P L xs) (pm_enter 12 [.ref 0, .int (zI a1), .int (zI a2), .int (zI a3), .int (zI a4), .int (zI a5), .int (zI a6)]) σ (.inr σ.2.1, pm_add σ (.inr (7, [])) 6)) : pm_Ev (tq_P L xs) (pm_enter 182 [.ref 0, .int (zI a1), .int (zI a2), .int (zI a3), .int (zI a4), .int (zI a5), .int (zI a6)]) σ (.inl (some (.int (zI 2))), pm_add σ (.inr (7, [])) 6) := by
  show pm_Ev (tq_P L xs) (182, 0, [(0, .ref 0), (1, .int (zI a1)), (2, .int (zI a2)), (3, .int (zI a3)), (4, .int (zI a4)), (5, .int (zI a5)), (6, .int (zI a6))], []) σ _
  refine pm_Ev.go 7 (f' := (182, 10, [(0, _), (1, _), (2, _), (3, _), (4, _), (5, _), (6, _)], [_, _, _, _, _, _, _])) rfl ?_
  refine pm_Ev.cvC rfl rfl rfl rfl (by decide) (Nat.le_of_ble_eq_true rfl) (Nat.le_of_ble_eq_true rfl) H.m0 H.o0 k (Nat.lt_succ_self _) (pm_add_at _ _ _) rfl rfl ?_
  refine pm_Ev.go 2 rfl ?_
  exact pm_Ev.rv rfl rfl rfl
theorem wr_dateV (H : Hp σ ad z ar lr) {a1 a2 a3 a4 a5 a6 : Int} {R : pm_S → Prop} (k : pm_Fv (tq_P L xs) (pm_enter 12 [.ref 0, .int (zI a1), .int (zI a2), .int (zI a3), .int (zI a4), .int (zI a5), .int (zI a6)]) σ (fun o s => o = .inl none ∧ R s)) : pm_Fv (tq_P L xs) (pm_enter 182 [.ref 0, .int (zI a1), .int (zI a2), .int (zI a3), .int (zI a4), .int (zI a5), .int (zI a6)]) σ (fun o s => o = .inl (some (.int (zI 0))) ∧ R s) := by
  show pm_Fv (tq_P L xs) (182, 0, [(0, .ref 0), (1, .int (zI a1)), (2, .int (zI a2)), (3, .int (zI a3)), (4, .int (zI a4)), (5, .int (zI a5)), (6, .int (zI a6))], []) σ _
  refine pm_Fv.go 7 (f' := (182, 10, [(0, _), (1, _), (2, _), (3, _), (4, _), (5, _), (6, _)], [_, _, _, _, _, _, _])) rfl ?_
  refine pm_Fv.cvF rfl rfl rfl rfl (by decide) (Nat.le_of_ble_eq_true rfl) (Nat.le_of_ble_eq_true rfl) H.m0 H.o0 k (fun s q => ?_)
  refine pm_Fv.go 2 rfl ?_
  exact pm_Fv.rv rfl rfl ⟨rfl, q⟩
theorem wr_minutes1 (H : Hp σ ad z ar lr) {a1 a2 a3 : Int} (k : pm_Ev (tq_P L xs) (pm_enter 13 [.ref 0, .int (zI a1), .int (zI a2), .int (zI a3)]) σ (.inr σ.2.1, pm_add σ (.inr (9, [])) 6)) : pm_Ev (tq_P L xs) (pm_enter 183 [.ref 0, .int (zI a1), .int (zI a2), .int (zI a3)]) σ (.inl (some (.int (zI 1))), pm_add σ (.inr (9, [])) 6) := by
  show pm_Ev (tq_P L xs) (183, 0, [(0, .ref 0), (1, .int (zI a1)), (2, .int (zI a2)), (3, .int (zI a3))], []) σ _
  refine pm_Ev.go 4 (f' := (183, 4, [(0, _), (1, _), (2, _), (3, _)], [_, _, _, _])) rfl ?_
  refine pm_Ev.cvC rfl rfl rfl rfl (by decide) (Nat.le_of_ble_eq_true rfl) (Nat.le_of_ble_eq_true rfl) H.m0 H.o0 k (Nat.lt_succ_self _) (pm_add_at _ _ _) rfl rfl ?_
  refine pm_Ev.go 2 rfl ?_
  exact pm_Ev.rv rfl rfl rfl
theorem wr_minutes2 (H : Hp σ ad z ar lr) {a1 a2 a3 : Int} (k : pm_Ev (tq_P L xs) (pm_enter 13 [.ref 0, .int (zI a1), .int (zI a2), .int (zI a3)]) σ (.inr σ.2.1, pm_add σ (.inr (7, [])) 6)) : pm_Ev (tq_P L xs) (pm_enter 183 [.ref 0, .int (zI a1), .int (zI a2), .int (zI a3)]) σ (.inl (some (.int (zI 2))), pm_add σ (.inr (7, [])) 6) := by
  show pm_Ev (tq_P L xs) (183, 0, [(0, .ref 0), (1, .int (zI a1)), (2, .int (zI a2)), (3, .int (zI a3))], []) σ _
  refine pm_Ev.go 4 (f' := (183, 4, [(0, _), (1, _), (2, _), (3, _)], [_, _, _, _])) rfl ?_
  refine pm_Ev.cvC rfl rfl rfl rfl (by decide) (Nat.le_of_ble_eq_true rfl) (Nat.le_of_ble_eq_true rfl) H.m0 H.o0 k (Nat.lt_succ_self _) (pm_add_at _ _ _) rfl rfl ?_
  refine pm_Ev.go 2 rfl ?_
  exact pm_Ev.rv rfl rfl rfl
theorem wr_minutesV (H : Hp σ ad z ar lr) {a1 a2 a3 : Int} {R : pm_S → Prop} (k : pm_Fv (tq_P L xs) (pm_enter 13 [.ref 0, .int (zI a1), .int (zI a2), .int (zI a3)]) σ (fun o s => o = .inl none ∧ R s)) : pm_Fv (tq_P L xs) (pm_enter 183 [.ref 0, .int (zI a1), .int (zI a2), .int (zI a3)]) σ (fun o s => o = .inl (some (.int (zI 0))) ∧ R s) := by
  show pm_Fv (tq_P L xs) (183, 0, [(0, .ref 0), (1, .int (zI a1)), (2, .int (zI a2)), (3, .int (zI a3))], []) σ _
  refine pm_Fv.go 4 (f' := (183, 4, [(0, _), (1, _), (2, _), (3, _)], [_, _, _, _])) rfl ?_
  refine pm_Fv.cvF rfl rfl rfl rfl (by decide) (Nat.le_of_ble_eq_true rfl) (Nat.le_of_ble_eq_true rfl) H.m0 H.o0 k (fun s q => ?_)
  refine pm_Fv.go 2 rfl ?_
  exact pm_Fv.rv rfl rfl ⟨rfl, q⟩
theorem wr_fold1 (H : Hp σ ad z ar lr) {a1 a2 : Int} (k : pm_Ev (tq_P L xs) (pm_enter 14 [.ref 0, .int (zI a1), .int (zI a2)]) σ (.inr σ.2.1, pm_add σ (.inr (9, [])) 6)) : pm_Ev (tq_P L xs) (pm_enter 184 [.ref 0, .int (zI a1), .int (zI a2)]) σ (.inl (some (.int (zI 1))), pm_add σ (.inr (9, [])) 6) := by
  show pm_Ev (tq_P L xs) (184, 0, [(0, .ref 0), (1, .int (zI a1)), (2, .int (zI a2))], []) σ _
  refine pm_Ev.go 3 (f' := (184, 3, [(0, _), (1, _), (2, _)], [_, _, _])) rfl ?_
  refine pm_Ev.cvC rfl rfl rfl rfl (by decide) (Nat.le_of_ble_eq_true rfl) (Nat.le_of_ble_eq_true rfl) H.m0 H.o0 k (Nat.lt_succ_self _) (pm_add_at _ _ _) rfl rfl ?_
  refine pm_Ev.go 2 rfl ?_
  exact pm_Ev.rv rfl rfl rfl
theorem wr_foldV (H : Hp σ ad z ar lr) {a1 a2 : Int} {R : pm_S → Prop} (k : pm_Fv (tq_P L xs) (pm_enter 14 [.ref 0, .int (zI a1), .int (zI a2)]) σ (fun o s => o = .inl none ∧ R s)) : pm_Fv (tq_P L xs) (pm_enter 184 [.ref 0, .int (zI a1), .int (zI a2)]) σ (fun o s => o = .inl (some (.int (zI 0))) ∧ R s) := by
  show pm_Fv (tq_P L xs) (184, 0, [(0, .ref 0), (1, .int (zI a1)), (2, .int (zI a2))], []) σ _
  refine pm_Fv.go 3 (f' := (184, 3, [(0, _), (1, _), (2, _)], [_, _, _])) rfl ?_
  refine pm_Fv.cvF rfl rfl rfl rfl (by decide) (Nat.le_of_ble_eq_true rfl) (Nat.le_of_ble_eq_true rfl) H.m0 H.o0 k (fun s q => ?_)
  refine pm_Fv.go 2 rfl ?_
  exact pm_Fv.rv rfl rfl ⟨rfl, q⟩
theorem wr_sort1 (H : Hp σ ad z ar lr) {a1 a2 : Int} (k : pm_Ev (tq_P L xs) (pm_enter 15 [.ref 0, .int (zI a1), .int (zI a2)]) σ (.inr σ.2.1, pm_add σ (.inr (9, [])) 6)) : pm_Ev (tq_P L xs) (pm_enter 185 [.ref 0, .int (zI a1), .int (zI a2)]) σ (.inl (some (.int (zI 1))), pm_add σ (.inr (9, [])) 6) := by
  show pm_Ev (tq_P L xs) (185, 0, [(0, .ref 0), (1, .int (zI a1)), (2, .int (zI a2))], []) σ _
  refine pm_Ev.go 3 (f' := (185, 3, [(0, _), (1, _), (2, _)], [_, _, _])) rfl ?_
  refine pm_Ev.cvC rfl rfl rfl rfl (by decide) (Nat.le_of_ble_eq_true rfl) (Nat.le_of_ble_eq_true rfl) H.m0 H.o0 k (Nat.lt_succ_self _) (pm_add_at _ _ _) rfl rfl ?_
  refine pm_Ev.go 2 rfl ?_
  exact pm_Ev.rv rfl rfl rfl
theorem wr_sort2 (H : Hp σ ad z ar lr) {a1 a2 : Int} (k : pm_Ev (tq_P L xs) (pm_enter 15 [.ref 0, .int (zI a1), .int (zI a2)]) σ (.inr σ.2.1, pm_add σ (.inr (7, [])) 6)) : pm_Ev (tq_P L xs) (pm_enter 185 [.ref 0, .int (zI a1), .int (zI a2)]) σ (.inl (some (.int (zI 2))), pm_add σ (.inr (7, [])) 6) := by
  show pm_Ev (tq_P L xs) (185, 0, [(0, .ref 0), (1, .int (zI a1)), (2, .int (zI a2))], []) σ _
  refine pm_Ev.go 3 (f' := (185, 3, [(0, _), (1, _), (2, _)], [_, _, _])) rfl ?_
  refine pm_Ev.cvC rfl rfl rfl rfl (by decide) (Nat.le_of_ble_eq_true rfl) (Nat.le_of_ble_eq_true rfl) H.m0 H.o0 k (Nat.lt_succ_self _) (pm_add_at _ _ _) rfl rfl ?_
  refine pm_Ev.go 2 rfl ?_
  exact pm_Ev.rv rfl rfl rfl
theorem wr_sortV (H : Hp σ ad z ar lr) {a1 a2 : Int} {R : pm_S → Prop} (k : pm_Fv (tq_P L xs) (pm_enter 15 [.ref 0, .int (zI a1), .int (zI a2)]) σ (fun o s => o = .inl none ∧ R s)) : pm_Fv (tq_P L xs) (pm_enter 185 [.ref 0, .int (zI a1), .int (zI a2)]) σ (fun o s => o = .inl (some (.int (zI 0))) ∧ R s) := by
  show pm_Fv (tq_P L xs) (185, 0, [(0, .ref 0), (1, .int (zI a1)), (2, .int (zI a2))], []) σ _
  refine pm_Fv.go 3 (f' := (185, 3, [(0, _), (1, _), (2, _)], [_, _, _])) rfl ?_
  refine pm_Fv.cvF rfl rfl rfl rfl (by decide) (Nat.le_of_ble_eq_true rfl) (Nat.le_of_ble_eq_true rfl) H.m0 H.o0 k (fun s q => ?_)
  refine pm_Fv.go 2 rfl ?_
  exact pm_Fv.rv rfl rfl ⟨rfl, q⟩
theorem wr_open1 (H : Hp σ ad z ar lr) (k : pm_Ev (tq_P L xs) (pm_enter 16 [.ref 0]) σ (.inr σ.2.1, pm_add σ (.inr (8, [])) 6)) : pm_Ev (tq_P L xs) (pm_enter 186 [.ref 0]) σ (.inl (some (.int (zI 1))), pm_add σ (.inr (8, [])) 6) := by
  show pm_Ev (tq_P L xs) (186, 0, [(0, .ref 0)], []) σ _
  refine pm_Ev.go 1 (f' := (186, 1, [(0, _)], [_])) rfl ?_
  refine pm_Ev.cvC rfl rfl rfl rfl (by decide) (Nat.le_of_ble_eq_true rfl) (Nat.le_of_ble_eq_true rfl) H.m0 H.o0 k (Nat.lt_succ_self _) (pm_add_at _ _ _) rfl rfl ?_
  refine pm_Ev.go 2 rfl ?_
  exact pm_Ev.rv rfl rfl rfl
theorem wr_openV (H : Hp σ ad z ar lr) {R : pm_S → Prop} (k : pm_Fv (tq_P L xs) (pm_enter 16 [.ref 0]) σ (fun o s => o = .inl none ∧ R s)) : pm_Fv (tq_P L xs) (pm_enter 186 [.ref 0]) σ (fun o s => o = .inl (some (.int (zI 0))) ∧ R s) := by
  show pm_Fv (tq_P L xs) (186, 0, [(0, .ref 0)], []) σ _
  refine pm_Fv.go 1 (f' := (186, 1, [(0, _)], [_])) rfl ?_
  refine pm_Fv.cvF rfl rfl rfl rfl (by decide) (Nat.le_of_ble_eq_true rfl) (Nat.le_of_ble_eq_true rfl) H.m0 H.o0 k (fun s q => ?_)
  refine pm_Fv.go 2 rfl ?_
  exact pm_Fv.rv rfl rfl ⟨rfl, q⟩
theorem wr_close1 (H : Hp σ ad z ar lr) (k : pm_Ev (tq_P L xs) (pm_enter 17 [.ref 0]) σ (.inr σ.2.1, pm_add σ (.inr (8, [])) 6)) : pm_Ev (tq_P L xs) (pm_enter 187 [.ref 0, .ref 208]) σ (.inl (some (.int (zI 1))), pm_add σ (.inr (8, [])) 6) := by
  show pm_Ev (tq_P L xs) (187, 0, [(0, .ref 0), (1, .ref 208)], []) σ _
  refine pm_Ev.go 3 (f' := (187, 3, [(0, _), (1, _)], [_, _, _])) rfl ?_
  refine pm_Ev.cvC rfl rfl rfl rfl (by decide) (Nat.le_of_ble_eq_true rfl) (Nat.le_of_ble_eq_true rfl) H.m0 H.o0 k (Nat.lt_succ_self _) (pm_add_at _ _ _) rfl rfl ?_
  refine pm_Ev.go 2 rfl ?_
  exact pm_Ev.rv rfl rfl rfl
theorem wr_closeN (H : Hp σ ad z ar lr) {v : Int} (vr : -2147483648 ≤ v ∧ v ≤ 2147483647) {R : pm_S → Prop} (k : pm_Fv (tq_P L xs) (pm_enter 17 [.ref 0]) σ (fun o s => o = .inl (some (.int (zI v))) ∧ R s)) (hR : ∀ s, R s → ∃ ad z ar lr, Hp s ad z ar lr ∧ (lr 1).1 = 1) : pm_Fv (tq_P L xs) (pm_enter 187 [.ref 0, .ref 208]) σ (fun o t => o = .inl (some (.int (zI 0))) ∧ ∃ s, R s ∧ t.2 = s.2 ∧ ∀ ad z ar lr, Hp s ad z ar lr → Hp t ad z ar (ol_w lr v)) := by
  show pm_Fv (tq_P L xs) (187, 0, [(0, .ref 0), (1, .ref 208)], []) σ _
  refine pm_Fv.go 3 (f' := (187, 3, [(0, _), (1, _)], [_, _, _])) rfl ?_
  refine pm_Fv.cvF rfl rfl rfl rfl (by decide) (Nat.le_of_ble_eq_true rfl) (Nat.le_of_ble_eq_true rfl) H.m0 H.o0 k (fun s q => ?_)
  obtain ⟨ad1, z1, ar1, lr1, H1, l1⟩ := hR s q
  refine pm_Fv.i2l rfl vr ?_
  refine pm_Fv.ols H1 l1 rfl (fun t rt ht => ?_)
  refine pm_Fv.go 2 rfl ?_
  exact pm_Fv.rv rfl rfl ⟨rfl, s, q, rt, ht⟩
theorem wr_undo1 (H : Hp σ ad z ar lr) (k : pm_Ev (tq_P L xs) (pm_enter 18 [.ref 0]) σ (.inr σ.2.1, pm_add σ (.inr (8, [])) 6)) : pm_Ev (tq_P L xs) (pm_enter 188 [.ref 0, .ref 208]) σ (.inl (some (.int (zI 1))), pm_add σ (.inr (8, [])) 6) := by
  show pm_Ev (tq_P L xs) (188, 0, [(0, .ref 0), (1, .ref 208)], []) σ _
  refine pm_Ev.go 3 (f' := (188, 3, [(0, _), (1, _)], [_, _, _])) rfl ?_
  refine pm_Ev.cvC rfl rfl rfl rfl (by decide) (Nat.le_of_ble_eq_true rfl) (Nat.le_of_ble_eq_true rfl) H.m0 H.o0 k (Nat.lt_succ_self _) (pm_add_at _ _ _) rfl rfl ?_
  refine pm_Ev.go 2 rfl ?_
  exact pm_Ev.rv rfl rfl rfl
theorem wr_undoN (H : Hp σ ad z ar lr) {v : Int} (vr : v = 0 ∨ v = 1) {R : pm_S → Prop} (k : pm_Fv (tq_P L xs) (pm_enter 18 [.ref 0]) σ (fun o s => o = .inl (some (.int (zI v))) ∧ R s)) (hR : ∀ s, R s → ∃ ad z ar lr, Hp s ad z ar lr ∧ (lr 1).1 = 1) : pm_Fv (tq_P L xs) (pm_enter 188 [.ref 0, .ref 208]) σ (fun o t => o = .inl (some (.int (zI 0))) ∧ ∃ s, R s ∧ t.2 = s.2 ∧ ∀ ad z ar lr, Hp s ad z ar lr → Hp t ad z ar (ol_w lr v)) := by
  show pm_Fv (tq_P L xs) (188, 0, [(0, .ref 0), (1, .ref 208)], []) σ _
  refine pm_Fv.go 3 (f' := (188, 3, [(0, _), (1, _)], [_, _, _])) rfl ?_
  refine pm_Fv.cvF rfl rfl rfl rfl (by decide) (Nat.le_of_ble_eq_true rfl) (Nat.le_of_ble_eq_true rfl) H.m0 H.o0 k (fun s q => ?_)
  obtain ⟨ad1, z1, ar1, lr1, H1, l1⟩ := hR s q
  refine pm_Fv.zeq rfl (by omega) rfl (fun h1 => ?_) (fun h1 => ?_)
  · subst h1
    refine pm_Fv.lc 0 rfl rfl ?_
    refine pm_Fv.ols H1 l1 rfl (fun t rt ht => ?_)
    refine pm_Fv.go 2 rfl ?_
    exact pm_Fv.rv rfl rfl ⟨rfl, s, q, rt, ht⟩
  · have e1 : v = 1 := by omega
    subst e1
    refine pm_Fv.lc 1 rfl rfl ?_
    refine pm_Fv.go 1 rfl ?_
    refine pm_Fv.ols H1 l1 rfl (fun t rt ht => ?_)
    refine pm_Fv.go 2 rfl ?_
    exact pm_Fv.rv rfl rfl ⟨rfl, s, q, rt, ht⟩
theorem wr_redo1 (H : Hp σ ad z ar lr) (k : pm_Ev (tq_P L xs) (pm_enter 19 [.ref 0]) σ (.inr σ.2.1, pm_add σ (.inr (8, [])) 6)) : pm_Ev (tq_P L xs) (pm_enter 189 [.ref 0, .ref 208]) σ (.inl (some (.int (zI 1))), pm_add σ (.inr (8, [])) 6) := by
  show pm_Ev (tq_P L xs) (189, 0, [(0, .ref 0), (1, .ref 208)], []) σ _
  refine pm_Ev.go 3 (f' := (189, 3, [(0, _), (1, _)], [_, _, _])) rfl ?_
  refine pm_Ev.cvC rfl rfl rfl rfl (by decide) (Nat.le_of_ble_eq_true rfl) (Nat.le_of_ble_eq_true rfl) H.m0 H.o0 k (Nat.lt_succ_self _) (pm_add_at _ _ _) rfl rfl ?_
  refine pm_Ev.go 2 rfl ?_
  exact pm_Ev.rv rfl rfl rfl
theorem wr_redoN (H : Hp σ ad z ar lr) {v : Int} (vr : v = 0 ∨ v = 1) {R : pm_S → Prop} (k : pm_Fv (tq_P L xs) (pm_enter 19 [.ref 0]) σ (fun o s => o = .inl (some (.int (zI v))) ∧ R s)) (hR : ∀ s, R s → ∃ ad z ar lr, Hp s ad z ar lr ∧ (lr 1).1 = 1) : pm_Fv (tq_P L xs) (pm_enter 189 [.ref 0, .ref 208]) σ (fun o t => o = .inl (some (.int (zI 0))) ∧ ∃ s, R s ∧ t.2 = s.2 ∧ ∀ ad z ar lr, Hp s ad z ar lr → Hp t ad z ar (ol_w lr v)) := by
  show pm_Fv (tq_P L xs) (189, 0, [(0, .ref 0), (1, .ref 208)], []) σ _
  refine pm_Fv.go 3 (f' := (189, 3, [(0, _), (1, _)], [_, _, _])) rfl ?_
  refine pm_Fv.cvF rfl rfl rfl rfl (by decide) (Nat.le_of_ble_eq_true rfl) (Nat.le_of_ble_eq_true rfl) H.m0 H.o0 k (fun s q => ?_)
  obtain ⟨ad1, z1, ar1, lr1, H1, l1⟩ := hR s q
  refine pm_Fv.zeq rfl (by omega) rfl (fun h1 => ?_) (fun h1 => ?_)
  · subst h1
    refine pm_Fv.lc 0 rfl rfl ?_
    refine pm_Fv.ols H1 l1 rfl (fun t rt ht => ?_)
    refine pm_Fv.go 2 rfl ?_
    exact pm_Fv.rv rfl rfl ⟨rfl, s, q, rt, ht⟩
  · have e1 : v = 1 := by omega
    subst e1
    refine pm_Fv.lc 1 rfl rfl ?_
    refine pm_Fv.go 1 rfl ?_
    refine pm_Fv.ols H1 l1 rfl (fun t rt ht => ?_)
    refine pm_Fv.go 2 rfl ?_
    exact pm_Fv.rv rfl rfl ⟨rfl, s, q, rt, ht⟩
theorem wr_steps1 (H : Hp σ ad z ar lr) {a1 : Int} (k : pm_Ev (tq_P L xs) (pm_enter 20 [.ref 0, .int (zI a1)]) σ (.inr σ.2.1, pm_add σ (.inr (7, [])) 6)) : pm_Ev (tq_P L xs) (pm_enter 190 [.ref 0, .int (zI a1), .ref 208]) σ (.inl (some (.int (zI 1))), pm_add σ (.inr (7, [])) 6) := by
  show pm_Ev (tq_P L xs) (190, 0, [(0, .ref 0), (1, .int (zI a1)), (2, .ref 208)], []) σ _
  refine pm_Ev.go 4 (f' := (190, 4, [(0, _), (1, _), (2, _)], [_, _, _, _])) rfl ?_
  refine pm_Ev.cvC rfl rfl rfl rfl (by decide) (Nat.le_of_ble_eq_true rfl) (Nat.le_of_ble_eq_true rfl) H.m0 H.o0 k (Nat.lt_succ_self _) (pm_add_at _ _ _) rfl rfl ?_
  refine pm_Ev.go 2 rfl ?_
  exact pm_Ev.rv rfl rfl rfl
theorem wr_stepsN (H : Hp σ ad z ar lr) {a1 : Int} {v : Int} (vr : -2147483648 ≤ v ∧ v ≤ 2147483647) {R : pm_S → Prop} (k : pm_Fv (tq_P L xs) (pm_enter 20 [.ref 0, .int (zI a1)]) σ (fun o s => o = .inl (some (.int (zI v))) ∧ R s)) (hR : ∀ s, R s → ∃ ad z ar lr, Hp s ad z ar lr ∧ (lr 1).1 = 1) : pm_Fv (tq_P L xs) (pm_enter 190 [.ref 0, .int (zI a1), .ref 208]) σ (fun o t => o = .inl (some (.int (zI 0))) ∧ ∃ s, R s ∧ t.2 = s.2 ∧ ∀ ad z ar lr, Hp s ad z ar lr → Hp t ad z ar (ol_w lr v)) := by
  show pm_Fv (tq_P L xs) (190, 0, [(0, .ref 0), (1, .int (zI a1)), (2, .ref 208)], []) σ _
  refine pm_Fv.go 4 (f' := (190, 4, [(0, _), (1, _), (2, _)], [_, _, _, _])) rfl ?_
  refine pm_Fv.cvF rfl rfl rfl rfl (by decide) (Nat.le_of_ble_eq_true rfl) (Nat.le_of_ble_eq_true rfl) H.m0 H.o0 k (fun s q => ?_)
  obtain ⟨ad1, z1, ar1, lr1, H1, l1⟩ := hR s q
  refine pm_Fv.i2l rfl vr ?_
  refine pm_Fv.ols H1 l1 rfl (fun t rt ht => ?_)
  refine pm_Fv.go 2 rfl ?_
  exact pm_Fv.rv rfl rfl ⟨rfl, s, q, rt, ht⟩
theorem wr_today1 (H : Hp σ ad z ar lr) {a1 : Int} (k : pm_Ev (tq_P L xs) (pm_enter 21 [.ref 0, .int (zI a1)]) σ (.inr σ.2.1, pm_add σ (.inr (7, [])) 6)) : pm_Ev (tq_P L xs) (pm_enter 191 [.ref 0, .int (zI a1), .ref 208]) σ (.inl (some (.int (zI 1))), pm_add σ (.inr (7, [])) 6) := by
  show pm_Ev (tq_P L xs) (191, 0, [(0, .ref 0), (1, .int (zI a1)), (2, .ref 208)], []) σ _
  refine pm_Ev.go 4 (f' := (191, 4, [(0, _), (1, _), (2, _)], [_, _, _, _])) rfl ?_
  refine pm_Ev.cvC rfl rfl rfl rfl (by decide) (Nat.le_of_ble_eq_true rfl) (Nat.le_of_ble_eq_true rfl) H.m0 H.o0 k (Nat.lt_succ_self _) (pm_add_at _ _ _) rfl rfl ?_
  refine pm_Ev.go 2 rfl ?_
  exact pm_Ev.rv rfl rfl rfl
theorem wr_todayN (H : Hp σ ad z ar lr) {a1 : Int} {v : Int} (vr : -2147483648 ≤ v ∧ v ≤ 2147483647) {R : pm_S → Prop} (k : pm_Fv (tq_P L xs) (pm_enter 21 [.ref 0, .int (zI a1)]) σ (fun o s => o = .inl (some (.int (zI v))) ∧ R s)) (hR : ∀ s, R s → ∃ ad z ar lr, Hp s ad z ar lr ∧ (lr 1).1 = 1) : pm_Fv (tq_P L xs) (pm_enter 191 [.ref 0, .int (zI a1), .ref 208]) σ (fun o t => o = .inl (some (.int (zI 0))) ∧ ∃ s, R s ∧ t.2 = s.2 ∧ ∀ ad z ar lr, Hp s ad z ar lr → Hp t ad z ar (ol_w lr v)) := by
  show pm_Fv (tq_P L xs) (191, 0, [(0, .ref 0), (1, .int (zI a1)), (2, .ref 208)], []) σ _
  refine pm_Fv.go 4 (f' := (191, 4, [(0, _), (1, _), (2, _)], [_, _, _, _])) rfl ?_
  refine pm_Fv.cvF rfl rfl rfl rfl (by decide) (Nat.le_of_ble_eq_true rfl) (Nat.le_of_ble_eq_true rfl) H.m0 H.o0 k (fun s q => ?_)
  obtain ⟨ad1, z1, ar1, lr1, H1, l1⟩ := hR s q
  refine pm_Fv.i2l rfl vr ?_
  refine pm_Fv.ols H1 l1 rfl (fun t rt ht => ?_)
  refine pm_Fv.go 2 rfl ?_
  exact pm_Fv.rv rfl rfl ⟨rfl, s, q, rt, ht⟩
theorem wr_day1 (H : Hp σ ad z ar lr) {a1 a2 a3 : Int} (k : pm_Ev (tq_P L xs) (pm_enter 22 [.ref 0, .int (zI a1), .int (zI a2), .int (zI a3)]) σ (.inr σ.2.1, pm_add σ (.inr (7, [])) 6)) : pm_Ev (tq_P L xs) (pm_enter 192 [.ref 0, .int (zI a1), .int (zI a2), .int (zI a3), .ref 208]) σ (.inl (some (.int (zI 1))), pm_add σ (.inr (7, [])) 6) := by
  show pm_Ev (tq_P L xs) (192, 0, [(0, .ref 0), (1, .int (zI a1)), (2, .int (zI a2)), (3, .int (zI a3)), (4, .ref 208)], []) σ _
  refine pm_Ev.go 6 (f' := (192, 7, [(0, _), (1, _), (2, _), (3, _), (4, _)], [_, _, _, _, _, _])) rfl ?_
  refine pm_Ev.cvC rfl rfl rfl rfl (by decide) (Nat.le_of_ble_eq_true rfl) (Nat.le_of_ble_eq_true rfl) H.m0 H.o0 k (Nat.lt_succ_self _) (pm_add_at _ _ _) rfl rfl ?_
  refine pm_Ev.go 2 rfl ?_
  exact pm_Ev.rv rfl rfl rfl
theorem wr_dayN (H : Hp σ ad z ar lr) {a1 a2 a3 : Int} {v : Int} (vr : -2147483648 ≤ v ∧ v ≤ 2147483647) {R : pm_S → Prop} (k : pm_Fv (tq_P L xs) (pm_enter 22 [.ref 0, .int (zI a1), .int (zI a2), .int (zI a3)]) σ (fun o s => o = .inl (some (.int (zI v))) ∧ R s)) (hR : ∀ s, R s → ∃ ad z ar lr, Hp s ad z ar lr ∧ (lr 1).1 = 1) : pm_Fv (tq_P L xs) (pm_enter 192 [.ref 0, .int (zI a1), .int (zI a2), .int (zI a3), .ref 208]) σ (fun o t => o = .inl (some (.int (zI 0))) ∧ ∃ s, R s ∧ t.2 = s.2 ∧ ∀ ad z ar lr, Hp s ad z ar lr → Hp t ad z ar (ol_w lr v)) := by
  show pm_Fv (tq_P L xs) (192, 0, [(0, .ref 0), (1, .int (zI a1)), (2, .int (zI a2)), (3, .int (zI a3)), (4, .ref 208)], []) σ _
  refine pm_Fv.go 6 (f' := (192, 7, [(0, _), (1, _), (2, _), (3, _), (4, _)], [_, _, _, _, _, _])) rfl ?_
  refine pm_Fv.cvF rfl rfl rfl rfl (by decide) (Nat.le_of_ble_eq_true rfl) (Nat.le_of_ble_eq_true rfl) H.m0 H.o0 k (fun s q => ?_)
  obtain ⟨ad1, z1, ar1, lr1, H1, l1⟩ := hR s q
  refine pm_Fv.i2l rfl vr ?_
  refine pm_Fv.ols H1 l1 rfl (fun t rt ht => ?_)
  refine pm_Fv.go 2 rfl ?_
  exact pm_Fv.rv rfl rfl ⟨rfl, s, q, rt, ht⟩
theorem wr_calendar1 (H : Hp σ ad z ar lr) {a1 a2 : Int} (k : pm_Ev (tq_P L xs) (pm_enter 23 [.ref 0, .int (zI a1), .int (zI a2)]) σ (.inr σ.2.1, pm_add σ (.inr (7, [])) 6)) : pm_Ev (tq_P L xs) (pm_enter 193 [.ref 0, .int (zI a1), .int (zI a2), .ref 208]) σ (.inl (some (.int (zI 1))), pm_add σ (.inr (7, [])) 6) := by
  show pm_Ev (tq_P L xs) (193, 0, [(0, .ref 0), (1, .int (zI a1)), (2, .int (zI a2)), (3, .ref 208)], []) σ _
  refine pm_Ev.go 5 (f' := (193, 5, [(0, _), (1, _), (2, _), (3, _)], [_, _, _, _, _])) rfl ?_
  refine pm_Ev.cvC rfl rfl rfl rfl (by decide) (Nat.le_of_ble_eq_true rfl) (Nat.le_of_ble_eq_true rfl) H.m0 H.o0 k (Nat.lt_succ_self _) (pm_add_at _ _ _) rfl rfl ?_
  refine pm_Ev.go 2 rfl ?_
  exact pm_Ev.rv rfl rfl rfl
theorem wr_calendarN (H : Hp σ ad z ar lr) {a1 a2 : Int} {v : Int} (vr : -2147483648 ≤ v ∧ v ≤ 2147483647) {R : pm_S → Prop} (k : pm_Fv (tq_P L xs) (pm_enter 23 [.ref 0, .int (zI a1), .int (zI a2)]) σ (fun o s => o = .inl (some (.int (zI v))) ∧ R s)) (hR : ∀ s, R s → ∃ ad z ar lr, Hp s ad z ar lr ∧ (lr 1).1 = 1) : pm_Fv (tq_P L xs) (pm_enter 193 [.ref 0, .int (zI a1), .int (zI a2), .ref 208]) σ (fun o t => o = .inl (some (.int (zI 0))) ∧ ∃ s, R s ∧ t.2 = s.2 ∧ ∀ ad z ar lr, Hp s ad z ar lr → Hp t ad z ar (ol_w lr v)) := by
  show pm_Fv (tq_P L xs) (193, 0, [(0, .ref 0), (1, .int (zI a1)), (2, .int (zI a2)), (3, .ref 208)], []) σ _
  refine pm_Fv.go 5 (f' := (193, 5, [(0, _), (1, _), (2, _), (3, _)], [_, _, _, _, _])) rfl ?_
  refine pm_Fv.cvF rfl rfl rfl rfl (by decide) (Nat.le_of_ble_eq_true rfl) (Nat.le_of_ble_eq_true rfl) H.m0 H.o0 k (fun s q => ?_)
  obtain ⟨ad1, z1, ar1, lr1, H1, l1⟩ := hR s q
  refine pm_Fv.i2l rfl vr ?_
  refine pm_Fv.ols H1 l1 rfl (fun t rt ht => ?_)
  refine pm_Fv.go 2 rfl ?_
  exact pm_Fv.rv rfl rfl ⟨rfl, s, q, rt, ht⟩
theorem wr_found1 (H : Hp σ ad z ar lr) {a1 a2 : Int} (k : pm_Ev (tq_P L xs) (pm_enter 26 [.ref 0, .int (zI a1), .int (zI a2)]) σ (.inr σ.2.1, pm_add σ (.inr (9, [])) 6)) : pm_Ev (tq_P L xs) (pm_enter 194 [.ref 0, .int (zI a1), .int (zI a2), .ref 208]) σ (.inl (some (.int (zI 1))), pm_add σ (.inr (9, [])) 6) := by
  show pm_Ev (tq_P L xs) (194, 0, [(0, .ref 0), (1, .int (zI a1)), (2, .int (zI a2)), (3, .ref 208)], []) σ _
  refine pm_Ev.go 5 (f' := (194, 5, [(0, _), (1, _), (2, _), (3, _)], [_, _, _, _, _])) rfl ?_
  refine pm_Ev.cvC rfl rfl rfl rfl (by decide) (Nat.le_of_ble_eq_true rfl) (Nat.le_of_ble_eq_true rfl) H.m0 H.o0 k (Nat.lt_succ_self _) (pm_add_at _ _ _) rfl rfl ?_
  refine pm_Ev.go 2 rfl ?_
  exact pm_Ev.rv rfl rfl rfl
theorem wr_found2 (H : Hp σ ad z ar lr) {a1 a2 : Int} (k : pm_Ev (tq_P L xs) (pm_enter 26 [.ref 0, .int (zI a1), .int (zI a2)]) σ (.inr σ.2.1, pm_add σ (.inr (7, [])) 6)) : pm_Ev (tq_P L xs) (pm_enter 194 [.ref 0, .int (zI a1), .int (zI a2), .ref 208]) σ (.inl (some (.int (zI 2))), pm_add σ (.inr (7, [])) 6) := by
  show pm_Ev (tq_P L xs) (194, 0, [(0, .ref 0), (1, .int (zI a1)), (2, .int (zI a2)), (3, .ref 208)], []) σ _
  refine pm_Ev.go 5 (f' := (194, 5, [(0, _), (1, _), (2, _), (3, _)], [_, _, _, _, _])) rfl ?_
  refine pm_Ev.cvC rfl rfl rfl rfl (by decide) (Nat.le_of_ble_eq_true rfl) (Nat.le_of_ble_eq_true rfl) H.m0 H.o0 k (Nat.lt_succ_self _) (pm_add_at _ _ _) rfl rfl ?_
  refine pm_Ev.go 2 rfl ?_
  exact pm_Ev.rv rfl rfl rfl
theorem wr_foundN (H : Hp σ ad z ar lr) {a1 a2 : Int} {v : Int} (vr : -2147483648 ≤ v ∧ v ≤ 2147483647) {R : pm_S → Prop} (k : pm_Fv (tq_P L xs) (pm_enter 26 [.ref 0, .int (zI a1), .int (zI a2)]) σ (fun o s => o = .inl (some (.int (zI v))) ∧ R s)) (hR : ∀ s, R s → ∃ ad z ar lr, Hp s ad z ar lr ∧ (lr 1).1 = 1) : pm_Fv (tq_P L xs) (pm_enter 194 [.ref 0, .int (zI a1), .int (zI a2), .ref 208]) σ (fun o t => o = .inl (some (.int (zI 0))) ∧ ∃ s, R s ∧ t.2 = s.2 ∧ ∀ ad z ar lr, Hp s ad z ar lr → Hp t ad z ar (ol_w lr v)) := by
  show pm_Fv (tq_P L xs) (194, 0, [(0, .ref 0), (1, .int (zI a1)), (2, .int (zI a2)), (3, .ref 208)], []) σ _
  refine pm_Fv.go 5 (f' := (194, 5, [(0, _), (1, _), (2, _), (3, _)], [_, _, _, _, _])) rfl ?_
  refine pm_Fv.cvF rfl rfl rfl rfl (by decide) (Nat.le_of_ble_eq_true rfl) (Nat.le_of_ble_eq_true rfl) H.m0 H.o0 k (fun s q => ?_)
  obtain ⟨ad1, z1, ar1, lr1, H1, l1⟩ := hR s q
  refine pm_Fv.i2l rfl vr ?_
  refine pm_Fv.ols H1 l1 rfl (fun t rt ht => ?_)
  refine pm_Fv.go 2 rfl ?_
  exact pm_Fv.rv rfl rfl ⟨rfl, s, q, rt, ht⟩
theorem wr_child1 (H : Hp σ ad z ar lr) {a1 a2 : Int} (k : pm_Ev (tq_P L xs) (pm_enter 28 [.ref 0, .int (zI a1), .int (zI a2)]) σ (.inr σ.2.1, pm_add σ (.inr (9, [])) 6)) : pm_Ev (tq_P L xs) (pm_enter 195 [.ref 0, .int (zI a1), .int (zI a2), .ref 208]) σ (.inl (some (.int (zI 1))), pm_add σ (.inr (9, [])) 6) := by
  show pm_Ev (tq_P L xs) (195, 0, [(0, .ref 0), (1, .int (zI a1)), (2, .int (zI a2)), (3, .ref 208)], []) σ _
  refine pm_Ev.go 5 (f' := (195, 5, [(0, _), (1, _), (2, _), (3, _)], [_, _, _, _, _])) rfl ?_
  refine pm_Ev.cvC rfl rfl rfl rfl (by decide) (Nat.le_of_ble_eq_true rfl) (Nat.le_of_ble_eq_true rfl) H.m0 H.o0 k (Nat.lt_succ_self _) (pm_add_at _ _ _) rfl rfl ?_
  refine pm_Ev.go 2 rfl ?_
  exact pm_Ev.rv rfl rfl rfl
theorem wr_childN (H : Hp σ ad z ar lr) {a1 a2 : Int} {v : Int} (vr : -2147483648 ≤ v ∧ v ≤ 2147483647) {R : pm_S → Prop} (k : pm_Fv (tq_P L xs) (pm_enter 28 [.ref 0, .int (zI a1), .int (zI a2)]) σ (fun o s => o = .inl (some (.int (zI v))) ∧ R s)) (hR : ∀ s, R s → ∃ ad z ar lr, Hp s ad z ar lr ∧ (lr 1).1 = 1) : pm_Fv (tq_P L xs) (pm_enter 195 [.ref 0, .int (zI a1), .int (zI a2), .ref 208]) σ (fun o t => o = .inl (some (.int (zI 0))) ∧ ∃ s, R s ∧ t.2 = s.2 ∧ ∀ ad z ar lr, Hp s ad z ar lr → Hp t ad z ar (ol_w lr v)) := by
  show pm_Fv (tq_P L xs) (195, 0, [(0, .ref 0), (1, .int (zI a1)), (2, .int (zI a2)), (3, .ref 208)], []) σ _
  refine pm_Fv.go 5 (f' := (195, 5, [(0, _), (1, _), (2, _), (3, _)], [_, _, _, _, _])) rfl ?_
  refine pm_Fv.cvF rfl rfl rfl rfl (by decide) (Nat.le_of_ble_eq_true rfl) (Nat.le_of_ble_eq_true rfl) H.m0 H.o0 k (fun s q => ?_)
  obtain ⟨ad1, z1, ar1, lr1, H1, l1⟩ := hR s q
  refine pm_Fv.i2l rfl vr ?_
  refine pm_Fv.ols H1 l1 rfl (fun t rt ht => ?_)
  refine pm_Fv.go 2 rfl ?_
  exact pm_Fv.rv rfl rfl ⟨rfl, s, q, rt, ht⟩
theorem wr_sum1 (H : Hp σ ad z ar lr) {a1 a2 : Int} (k : pm_Ev (tq_P L xs) (pm_enter 29 [.ref 0, .int (zI a1), .int (zI a2)]) σ (.inr σ.2.1, pm_add σ (.inr (9, [])) 6)) : pm_Ev (tq_P L xs) (pm_enter 196 [.ref 0, .int (zI a1), .int (zI a2), .ref 208]) σ (.inl (some (.int (zI 1))), pm_add σ (.inr (9, [])) 6) := by
  show pm_Ev (tq_P L xs) (196, 0, [(0, .ref 0), (1, .int (zI a1)), (2, .int (zI a2)), (3, .ref 208)], []) σ _
  refine pm_Ev.go 5 (f' := (196, 5, [(0, _), (1, _), (2, _), (3, _)], [_, _, _, _, _])) rfl ?_
  refine pm_Ev.cvC rfl rfl rfl rfl (by decide) (Nat.le_of_ble_eq_true rfl) (Nat.le_of_ble_eq_true rfl) H.m0 H.o0 k (Nat.lt_succ_self _) (pm_add_at _ _ _) rfl rfl ?_
  refine pm_Ev.go 2 rfl ?_
  exact pm_Ev.rv rfl rfl rfl
theorem wr_sum2 (H : Hp σ ad z ar lr) {a1 a2 : Int} (k : pm_Ev (tq_P L xs) (pm_enter 29 [.ref 0, .int (zI a1), .int (zI a2)]) σ (.inr σ.2.1, pm_add σ (.inr (7, [])) 6)) : pm_Ev (tq_P L xs) (pm_enter 196 [.ref 0, .int (zI a1), .int (zI a2), .ref 208]) σ (.inl (some (.int (zI 2))), pm_add σ (.inr (7, [])) 6) := by
  show pm_Ev (tq_P L xs) (196, 0, [(0, .ref 0), (1, .int (zI a1)), (2, .int (zI a2)), (3, .ref 208)], []) σ _
  refine pm_Ev.go 5 (f' := (196, 5, [(0, _), (1, _), (2, _), (3, _)], [_, _, _, _, _])) rfl ?_
  refine pm_Ev.cvC rfl rfl rfl rfl (by decide) (Nat.le_of_ble_eq_true rfl) (Nat.le_of_ble_eq_true rfl) H.m0 H.o0 k (Nat.lt_succ_self _) (pm_add_at _ _ _) rfl rfl ?_
  refine pm_Ev.go 2 rfl ?_
  exact pm_Ev.rv rfl rfl rfl
theorem wr_sumN (H : Hp σ ad z ar lr) {a1 a2 : Int} {v : Int} (vr : -2147483648 ≤ v ∧ v ≤ 2147483647) {R : pm_S → Prop} (k : pm_Fv (tq_P L xs) (pm_enter 29 [.ref 0, .int (zI a1), .int (zI a2)]) σ (fun o s => o = .inl (some (.int (zI v))) ∧ R s)) (hR : ∀ s, R s → ∃ ad z ar lr, Hp s ad z ar lr ∧ (lr 1).1 = 1) : pm_Fv (tq_P L xs) (pm_enter 196 [.ref 0, .int (zI a1), .int (zI a2), .ref 208]) σ (fun o t => o = .inl (some (.int (zI 0))) ∧ ∃ s, R s ∧ t.2 = s.2 ∧ ∀ ad z ar lr, Hp s ad z ar lr → Hp t ad z ar (ol_w lr v)) := by
  show pm_Fv (tq_P L xs) (196, 0, [(0, .ref 0), (1, .int (zI a1)), (2, .int (zI a2)), (3, .ref 208)], []) σ _
  refine pm_Fv.go 5 (f' := (196, 5, [(0, _), (1, _), (2, _), (3, _)], [_, _, _, _, _])) rfl ?_
  refine pm_Fv.cvF rfl rfl rfl rfl (by decide) (Nat.le_of_ble_eq_true rfl) (Nat.le_of_ble_eq_true rfl) H.m0 H.o0 k (fun s q => ?_)
  obtain ⟨ad1, z1, ar1, lr1, H1, l1⟩ := hR s q
  refine pm_Fv.i2l rfl vr ?_
  refine pm_Fv.ols H1 l1 rfl (fun t rt ht => ?_)
  refine pm_Fv.go 2 rfl ?_
  exact pm_Fv.rv rfl rfl ⟨rfl, s, q, rt, ht⟩
theorem wr_told1 (H : Hp σ ad z ar lr) {a1 a2 : Int} (k : pm_Ev (tq_P L xs) (pm_enter 30 [.ref 0, .int (zI a1), .int (zI a2)]) σ (.inr σ.2.1, pm_add σ (.inr (9, [])) 6)) : pm_Ev (tq_P L xs) (pm_enter 197 [.ref 0, .int (zI a1), .int (zI a2), .ref 208]) σ (.inl (some (.int (zI 1))), pm_add σ (.inr (9, [])) 6) := by
  show pm_Ev (tq_P L xs) (197, 0, [(0, .ref 0), (1, .int (zI a1)), (2, .int (zI a2)), (3, .ref 208)], []) σ _
  refine pm_Ev.go 5 (f' := (197, 5, [(0, _), (1, _), (2, _), (3, _)], [_, _, _, _, _])) rfl ?_
  refine pm_Ev.cvC rfl rfl rfl rfl (by decide) (Nat.le_of_ble_eq_true rfl) (Nat.le_of_ble_eq_true rfl) H.m0 H.o0 k (Nat.lt_succ_self _) (pm_add_at _ _ _) rfl rfl ?_
  refine pm_Ev.go 2 rfl ?_
  exact pm_Ev.rv rfl rfl rfl
theorem wr_told2 (H : Hp σ ad z ar lr) {a1 a2 : Int} (k : pm_Ev (tq_P L xs) (pm_enter 30 [.ref 0, .int (zI a1), .int (zI a2)]) σ (.inr σ.2.1, pm_add σ (.inr (7, [])) 6)) : pm_Ev (tq_P L xs) (pm_enter 197 [.ref 0, .int (zI a1), .int (zI a2), .ref 208]) σ (.inl (some (.int (zI 2))), pm_add σ (.inr (7, [])) 6) := by
  show pm_Ev (tq_P L xs) (197, 0, [(0, .ref 0), (1, .int (zI a1)), (2, .int (zI a2)), (3, .ref 208)], []) σ _
  refine pm_Ev.go 5 (f' := (197, 5, [(0, _), (1, _), (2, _), (3, _)], [_, _, _, _, _])) rfl ?_
  refine pm_Ev.cvC rfl rfl rfl rfl (by decide) (Nat.le_of_ble_eq_true rfl) (Nat.le_of_ble_eq_true rfl) H.m0 H.o0 k (Nat.lt_succ_self _) (pm_add_at _ _ _) rfl rfl ?_
  refine pm_Ev.go 2 rfl ?_
  exact pm_Ev.rv rfl rfl rfl
theorem wr_toldN (H : Hp σ ad z ar lr) {a1 a2 : Int} {v : Int} (vr : -2147483648 ≤ v ∧ v ≤ 2147483647) {R : pm_S → Prop} (k : pm_Fv (tq_P L xs) (pm_enter 30 [.ref 0, .int (zI a1), .int (zI a2)]) σ (fun o s => o = .inl (some (.int (zI v))) ∧ R s)) (hR : ∀ s, R s → ∃ ad z ar lr, Hp s ad z ar lr ∧ (lr 1).1 = 1) : pm_Fv (tq_P L xs) (pm_enter 197 [.ref 0, .int (zI a1), .int (zI a2), .ref 208]) σ (fun o t => o = .inl (some (.int (zI 0))) ∧ ∃ s, R s ∧ t.2 = s.2 ∧ ∀ ad z ar lr, Hp s ad z ar lr → Hp t ad z ar (ol_w lr v)) := by
  show pm_Fv (tq_P L xs) (197, 0, [(0, .ref 0), (1, .int (zI a1)), (2, .int (zI a2)), (3, .ref 208)], []) σ _
  refine pm_Fv.go 5 (f' := (197, 5, [(0, _), (1, _), (2, _), (3, _)], [_, _, _, _, _])) rfl ?_
  refine pm_Fv.cvF rfl rfl rfl rfl (by decide) (Nat.le_of_ble_eq_true rfl) (Nat.le_of_ble_eq_true rfl) H.m0 H.o0 k (fun s q => ?_)
  obtain ⟨ad1, z1, ar1, lr1, H1, l1⟩ := hR s q
  refine pm_Fv.i2l rfl vr ?_
  refine pm_Fv.ols H1 l1 rfl (fun t rt ht => ?_)
  refine pm_Fv.go 2 rfl ?_
  exact pm_Fv.rv rfl rfl ⟨rfl, s, q, rt, ht⟩
theorem wr_about1 (H : Hp σ ad z ar lr) {a1 : Int} (k : pm_Ev (tq_P L xs) (pm_enter 31 [.ref 0, .int (zI a1)]) σ (.inr σ.2.1, pm_add σ (.inr (7, [])) 6)) : pm_Ev (tq_P L xs) (pm_enter 198 [.ref 0, .int (zI a1), .ref 208]) σ (.inl (some (.int (zI 1))), pm_add σ (.inr (7, [])) 6) := by
  show pm_Ev (tq_P L xs) (198, 0, [(0, .ref 0), (1, .int (zI a1)), (2, .ref 208)], []) σ _
  refine pm_Ev.go 4 (f' := (198, 4, [(0, _), (1, _), (2, _)], [_, _, _, _])) rfl ?_
  refine pm_Ev.cvC rfl rfl rfl rfl (by decide) (Nat.le_of_ble_eq_true rfl) (Nat.le_of_ble_eq_true rfl) H.m0 H.o0 k (Nat.lt_succ_self _) (pm_add_at _ _ _) rfl rfl ?_
  refine pm_Ev.go 2 rfl ?_
  exact pm_Ev.rv rfl rfl rfl
theorem wr_aboutN (H : Hp σ ad z ar lr) {a1 : Int} {v : Int} (vr : -2147483648 ≤ v ∧ v ≤ 2147483647) {R : pm_S → Prop} (k : pm_Fv (tq_P L xs) (pm_enter 31 [.ref 0, .int (zI a1)]) σ (fun o s => o = .inl (some (.int (zI v))) ∧ R s)) (hR : ∀ s, R s → ∃ ad z ar lr, Hp s ad z ar lr ∧ (lr 1).1 = 1) : pm_Fv (tq_P L xs) (pm_enter 198 [.ref 0, .int (zI a1), .ref 208]) σ (fun o t => o = .inl (some (.int (zI 0))) ∧ ∃ s, R s ∧ t.2 = s.2 ∧ ∀ ad z ar lr, Hp s ad z ar lr → Hp t ad z ar (ol_w lr v)) := by
  show pm_Fv (tq_P L xs) (198, 0, [(0, .ref 0), (1, .int (zI a1)), (2, .ref 208)], []) σ _
  refine pm_Fv.go 4 (f' := (198, 4, [(0, _), (1, _), (2, _)], [_, _, _, _])) rfl ?_
  refine pm_Fv.cvF rfl rfl rfl rfl (by decide) (Nat.le_of_ble_eq_true rfl) (Nat.le_of_ble_eq_true rfl) H.m0 H.o0 k (fun s q => ?_)
  obtain ⟨ad1, z1, ar1, lr1, H1, l1⟩ := hR s q
  refine pm_Fv.i2l rfl vr ?_
  refine pm_Fv.ols H1 l1 rfl (fun t rt ht => ?_)
  refine pm_Fv.go 2 rfl ?_
  exact pm_Fv.rv rfl rfl ⟨rfl, s, q, rt, ht⟩
end MS
