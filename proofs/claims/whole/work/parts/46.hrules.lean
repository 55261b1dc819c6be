/-! instructions over the heap by roles -/
def hq_g (ar : Nat → Nat × (Nat → Int32)) (r : Nat) (j : Int) : Int := ((ar r).2 j.toNat).toInt
def hq_w (ar : Nat → Nat × (Nat → Int32)) (r : Nat) (j v : Int) : Nat → Nat × (Nat → Int32) := hq_u ar r ((ar r).1, upd (ar r).2 j.toNat (zI v))
theorem hq_g_r (ar : Nat → Nat × (Nat → Int32)) (r : Nat) (j : Int) : -2147483648 ≤ hq_g ar r j ∧ hq_g ar r j ≤ 2147483647 := ⟨zI_lo _, zI_hi _⟩
section HR
variable {P : pm_P} {mi pc : Nat} {lv : pm_L} {st : List Value} {σ : pm_S} {res : pm_O × pm_S}
variable {ad : Nat → Nat} {z : Nat → Int} {ar : Nat → Nat × (Nat → Int32)} {lr : Nat → Nat × (Nat → Int64)}
theorem Hp.m0 (H : Hp σ ad z ar lr) : 0 < σ.2.1 := H.flt (r := 0) (by decide) rfl
theorem Hp.m1 (H : Hp σ ad z ar lr) : 1 < σ.2.1 := H.flt (r := 1) (by decide) rfl
theorem Hp.m188 (H : Hp σ ad z ar lr) : 188 < σ.2.1 := H.flt (r := 188) (by decide) rfl
theorem Hp.m192 (H : Hp σ ad z ar lr) : 192 < σ.2.1 := H.flt (r := 192) (by decide) rfl
theorem Hp.m196 (H : Hp σ ad z ar lr) : 196 < σ.2.1 := H.flt (r := 196) (by decide) rfl
theorem Hp.m199 (H : Hp σ ad z ar lr) : 199 < σ.2.1 := H.flt (r := 199) (by decide) rfl
theorem Hp.o0 (H : Hp σ ad z ar lr) : σ.1 0 = .inr (0, [.ref 1, .ref 188, .ref 192, .ref 196, .ref 198, .int (zI (z 0))]) := H.fat (r := 0) (by decide) rfl
theorem Hp.o1 (H : Hp σ ad z ar lr) : σ.1 1 = .inr (1, [.ref (ad 190), .ref (ad 191), .int (zI (z 1)), .ref 4, .int (zI (z 2)), .int (zI (z 3)), .int (zI (z 4)), .int (zI (z 5)), .int (zI (z 6)), .int (zI (z 7))]) := H.fat (r := 1) (by decide) rfl
theorem Hp.o188 (H : Hp σ ad z ar lr) : σ.1 188 = .inr (2, [.ref 1, .ref 189, .int (zI (z 8))]) := H.fat (r := 188) (by decide) rfl
theorem Hp.o192 (H : Hp σ ad z ar lr) : σ.1 192 = .inr (3, [.ref (ad 193), .ref (ad 194), .ref (ad 195), .int (zI (z 9))]) := H.fat (r := 192) (by decide) rfl
theorem Hp.o196 (H : Hp σ ad z ar lr) : σ.1 196 = .inr (4, [.ref (ad 197), .int (zI (z 10))]) := H.fat (r := 196) (by decide) rfl
theorem Hp.o199 (H : Hp σ ad z ar lr) : σ.1 199 = .inr (6, [.ref 200, .ref 201, .int (zI (z 20)), .int (zI (z 21)), .int (zI (z 22)), .int (zI (z 23)), .int (zI (z 24)), .int (zI (z 25)), .int (zI (z 26)), .ref 202, .ref 203, .int (zI (z 27)), .ref 204, .ref 205, .ref 206, .int (zI (z 28)), .ref 207, .int (zI (z 29))]) := H.fat (r := 199) (by decide) rfl
/-- a call of an instance method -/
theorem pm_Ev.cv {ix k ci y n a : Nat} {as r fs : List Value} {v : Option Value} {σ1 : pm_S} (hc : pm_cod P mi pc = some (.invokevirtual ix, 3)) (hk : pm_cal P mi ix = some (k, ci, y, n)) (hd : st.drop n = .ref a :: r) (has : .ref a :: (st.take n).reverse = as) (hkk : k = 0 ∨ k = 1) (hs : (r.map fun v => v.category).sum ≤ 8) (hz : pm_asz as ≤ pm_mxl P y) (ha : a < σ.2.1) (ho : σ.1 a = .inr (ci, fs)) (k1 : pm_Ev P (pm_enter y as) σ (.inl v, σ1)) (k2 : pm_Ev P (mi, pc + 3, lv, v.toList ++ r) σ1 res) : pm_Ev P (mi, pc, lv, st) σ res := by
  subst has
  refine pm_Ev.call hc rfl rfl rfl ?_ k1 k2
  unfold pm_ca
  simp only [hk, hd, if_pos (show (k = 0 ∨ k = 1) ∧ a < σ.2.1 ∧ (r.map fun v => v.category).sum ≤ 8 from ⟨hkk, ha, hs⟩), ho, true_and, if_pos hz]
theorem pm_Ev.cvT {ix k ci y n a x : Nat} {as r fs : List Value} {σ1 : pm_S} (hc : pm_cod P mi pc = some (.invokevirtual ix, 3)) (hk : pm_cal P mi ix = some (k, ci, y, n)) (hd : st.drop n = .ref a :: r) (has : .ref a :: (st.take n).reverse = as) (hkk : k = 0 ∨ k = 1) (hs : (r.map fun v => v.category).sum ≤ 8) (hz : pm_asz as ≤ pm_mxl P y) (ha : a < σ.2.1) (ho : σ.1 a = .inr (ci, fs)) (k1 : pm_Ev P (pm_enter y as) σ (.inr x, σ1)) (hh : pm_hdl P mi = []) : pm_Ev P (mi, pc, lv, st) σ (.inr x, σ1) := by
  subst has
  refine pm_Ev.callT (r := r) hc rfl rfl rfl ?_ k1 hh
  unfold pm_ca
  simp only [hk, hd, if_pos (show (k = 0 ∨ k = 1) ∧ a < σ.2.1 ∧ (r.map fun v => v.category).sum ≤ 8 from ⟨hkk, ha, hs⟩), ho, true_and, if_pos hz]
/-- an array that stays where it is -/
theorem pm_Ev.fia (H : Hp σ ad z ar lr) {r : Nat} {j : Int} (hc : pm_cod P mi pc = some (.iaload, 1)) (hr : r < 209) (hd : hq_dyn r = false) (hA : hq_isA r = true) (hj : 0 ≤ j ∧ j < (ar r).1 ∧ (ar r).1 ≤ 2147483647) (k : pm_Ev P (mi, pc + 1, lv, .int (zI (hq_g ar r j)) :: st) σ res) : pm_Ev P (mi, pc, lv, .int (zI j) :: .ref r :: st) σ res := by
  refine pm_Ev.ia hc (H.flt hr hd) (H.faat hr hd hA) (zI_ix hj.1 hj.2.1 hj.2.2) ?_
  rw [zI_nat hj.1 (by omega), ← zI_x ((ar r).2 j.toNat)]
  exact k
theorem pm_Ev.dia (H : Hp σ ad z ar lr) {r : Nat} {j : Int} (hc : pm_cod P mi pc = some (.iaload, 1)) (hr : r < 209) (hA : hq_isA r = true) (hj : 0 ≤ j ∧ j < (ar r).1 ∧ (ar r).1 ≤ 2147483647) (k : pm_Ev P (mi, pc + 1, lv, .int (zI (hq_g ar r j)) :: st) σ res) : pm_Ev P (mi, pc, lv, .int (zI j) :: .ref (ad r) :: st) σ res := by
  refine pm_Ev.ia hc (H.lt hr) (H.aat hr hA) (zI_ix hj.1 hj.2.1 hj.2.2) ?_
  rw [zI_nat hj.1 (by omega), ← zI_x ((ar r).2 j.toNat)]
  exact k
theorem pm_Ev.fis (H : Hp σ ad z ar lr) {r : Nat} {j v : Int} (hc : pm_cod P mi pc = some (.iastore, 1)) (hr : r < 209) (hd : hq_dyn r = false) (hA : hq_isA r = true) (hj : 0 ≤ j ∧ j < (ar r).1 ∧ (ar r).1 ≤ 2147483647) (k : ∀ σ', Hp σ' ad z (hq_w ar r j v) lr → σ'.2 = σ.2 → pm_Ev P (mi, pc + 1, lv, st) σ' res) : pm_Ev P (mi, pc, lv, .int (zI v) :: .int (zI j) :: .ref r :: st) σ res := by
  refine pm_Ev.is hc (H.flt hr hd) (H.faat hr hd hA) (zI_ix hj.1 hj.2.1 hj.2.2) ?_
  rw [zI_nat hj.1 (by omega)]
  exact k _ (H.faset hr hd hA ((ar r).1, upd (ar r).2 j.toNat (zI v))) rfl
theorem pm_Ev.dis (H : Hp σ ad z ar lr) {r : Nat} {j v : Int} (hc : pm_cod P mi pc = some (.iastore, 1)) (hr : r < 209) (hA : hq_isA r = true) (hj : 0 ≤ j ∧ j < (ar r).1 ∧ (ar r).1 ≤ 2147483647) (k : ∀ σ', Hp σ' ad z (hq_w ar r j v) lr → σ'.2 = σ.2 → pm_Ev P (mi, pc + 1, lv, st) σ' res) : pm_Ev P (mi, pc, lv, .int (zI v) :: .int (zI j) :: .ref (ad r) :: st) σ res := by
  refine pm_Ev.is hc (H.lt hr) (H.aat hr hA) (zI_ix hj.1 hj.2.1 hj.2.2) ?_
  rw [zI_nat hj.1 (by omega)]
  exact k _ (H.aset hr hA ((ar r).1, upd (ar r).2 j.toNat (zI v))) rfl
/-- a field of a fixed object is written -/
theorem pm_Ev.pz (H : Hp σ ad z ar lr) (zk : Nat) {v : Int} {ix a kd ci k : Nat} {ty : FieldType} {fs : List Value} (hc : pm_cod P mi pc = some (.putfield ix, 3)) (hf : pm_fld P mi ix = some (kd, ci, k, ty)) (hzo : hq_zo zk = a) (hr : a < 209) (hd : hq_dyn a = false) (ho : hq_lay ad z ar lr a = .inr (ci, fs)) (hk : k < fs.length) (hok : pm_ok ty (.int (zI v)) = true) (hkd : kd ≠ 0) (hx : hq_lay ad (hq_u z zk v) ar lr a = .inr (ci, fs.set k (.int (zI v)))) (kk : ∀ σ', Hp σ' ad (hq_u z zk v) ar lr → σ'.2 = σ.2 → pm_Ev P (mi, pc + 3, lv, st) σ' res) : pm_Ev P (mi, pc, lv, .int (zI v) :: .ref a :: st) σ res := by
  refine pm_Ev.pf hc hf (H.flt hr hd) ((H.fat hr hd).trans ho) hk hok hkd ?_
  refine kk _ (H.zset zk v (by rw [hzo]; exact hr) (by rw [hzo]; exact hd) hzo hx) rfl
end HR
