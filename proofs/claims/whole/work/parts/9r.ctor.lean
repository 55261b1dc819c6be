/-! the constructors -/
def HI (σ : pm_S) (k w : Nat) (h : Nat → pm_E) : Prop := σ.2.1 = k ∧ σ.2.2 = w ∧ ∀ a, a < k → σ.1 a = h a
section HI
variable {P : pm_P} {mi pc : Nat} {lv : pm_L} {st : List Value} {σ : pm_S} {Q : pm_O → pm_S → Prop} {k w : Nat} {h : Nat → pm_E}
theorem HI.add (H : HI σ k w h) (x : pm_E) (n : Nat) : HI (pm_add σ x n) (k + 1) (w + n) (hq_u h k x) := by
  obtain ⟨rfl, rfl, H⟩ := H
  refine ⟨rfl, rfl, fun a ha => ?_⟩
  by_cases e : a = σ.2.1
  · rw [e, hq_u_at]
    exact pm_add_at _ _ _
  · rw [hq_u_ne e, pm_add_ne e]
    exact H a (by omega)
theorem HI.set (H : HI σ k w h) (a : Nat) (x : pm_E) : HI (pm_set σ a x) k w (hq_u h a x) := by
  refine ⟨H.1, H.2.1, fun b hb => ?_⟩
  by_cases e : b = a
  · rw [e, hq_u_at]
    exact pm_set_at _ _ _
  · rw [hq_u_ne e, pm_set_ne e]
    exact H.2.2 b hb
theorem HI.cg {g : Nat → pm_E} (H : HI σ k w h) (e : ∀ a, a < k → h a = g a) : HI σ k w g := ⟨H.1, H.2.1, fun a ha => (H.2.2 a ha).trans (e a ha)⟩
theorem HI.l (H : HI σ k w h) {a : Nat} (ha : a < k) : a < σ.2.1 := by
  rw [H.1]
  exact ha
theorem pm_Fv.nwI (H : HI σ k w h) {ix ci : Nat} {fs : List Value} (hc : pm_cod P mi pc = some (.new ix, 3)) (hm : pm_mak P mi ix = some (ci, fs)) (kk : ∀ t, HI t (k + 1) (w + fs.length) (hq_u h k (.inr (ci, fs))) → pm_Fv P (mi, pc + 3, lv, .ref k :: st) t Q) : pm_Fv P (mi, pc, lv, st) σ Q := by
  refine pm_Fv.in (pc' := pc + 3) (lv' := lv) (st' := .ref k :: st) (σ' := pm_add σ (.inr (ci, fs)) fs.length) hc rfl ?_ (kk _ (H.add _ _))
  show pm_i6 P mi pc lv st σ (.new ix) = _
  simp only [pm_i6, hm, H.1]
theorem zI_cnt {n : Nat} (hn : n ≤ 50000000) : (zI (n : Int)).toNatClampNeg = n ∧ ¬ (zI (n : Int) < 0 ∨ 536870912 < n * 4) ∧ ¬ (zI (n : Int) < 0 ∨ 536870912 < n * 8) := by
  have kc : (zI (n : Int)).toNatClampNeg = n := by
    rw [zI_nat (by omega) (by omega)]
    omega
  refine ⟨kc, ?_, ?_⟩
  all_goals
    rw [show (0 : Int32) = zI 0 from rfl, zI_lt (by omega) (by omega) (by omega) (by omega)]
    omega
theorem pm_Fv.naI (H : HI σ k w h) (n : Nat) (hc : pm_cod P mi pc = some (.newarray .int, 2)) (hn : n ≤ 50000000) (kk : ∀ t, HI t (k + 1) (w + n) (hq_u h k (hq_arr (n, fun _ => 0))) → pm_Fv P (mi, pc + 2, lv, .ref k :: st) t Q) : pm_Fv P (mi, pc, lv, .int (zI (n : Int)) :: st) σ Q := by
  obtain ⟨kc, kn, -⟩ := zI_cnt hn
  refine pm_Fv.in (pc' := pc + 2) (lv' := lv) (st' := .ref k :: st) (σ' := pm_add σ (hq_arr (n, fun _ => 0)) n) hc rfl ?_ (kk _ (H.add _ _))
  show pm_i6 P mi pc lv (.int (zI (n : Int)) :: st) σ (.newarray .int) = _
  simp only [pm_i6, if_neg kn, kc, H.1]
  rfl
theorem pm_Fv.nlI (H : HI σ k w h) (n : Nat) (hc : pm_cod P mi pc = some (.newarray .long, 2)) (hn : n ≤ 50000000) (kk : ∀ t, HI t (k + 1) (w + n) (hq_u h k (hq_lon (n, fun _ => 0))) → pm_Fv P (mi, pc + 2, lv, .ref k :: st) t Q) : pm_Fv P (mi, pc, lv, .int (zI (n : Int)) :: st) σ Q := by
  obtain ⟨kc, -, kn⟩ := zI_cnt hn
  refine pm_Fv.in (pc' := pc + 2) (lv' := lv) (st' := .ref k :: st) (σ' := pm_add σ (hq_lon (n, fun _ => 0)) n) hc rfl ?_ (kk _ (H.add _ _))
  show pm_i6 P mi pc lv (.int (zI (n : Int)) :: st) σ (.newarray .long) = _
  simp only [pm_i6, if_neg kn, kc, H.1]
  rfl
theorem pm_Fv.anI (H : HI σ k w h) (n : Nat) {ix ci : Nat} (hc : pm_cod P mi pc = some (.anewarray ix, 3)) (ha : pm_arr P mi ix = some ci) (hn : n ≤ 50000000) (kk : ∀ t, HI t (k + 1) (w + n) (hq_u h k (.inl (2, n, .inr (.inr (.inr (.inr (fun _ => none))))))) → pm_Fv P (mi, pc + 3, lv, .ref k :: st) t Q) : pm_Fv P (mi, pc, lv, .int (zI (n : Int)) :: st) σ Q := by
  obtain ⟨kc, kn, -⟩ := zI_cnt hn
  refine pm_Fv.in (pc' := pc + 3) (lv' := lv) (st' := .ref k :: st) (σ' := pm_add σ (.inl (2, n, .inr (.inr (.inr (.inr (fun _ => none)))))) n) hc rfl ?_ (kk _ (H.add _ _))
  show pm_i6 P mi pc lv (.int (zI (n : Int)) :: st) σ (.anewarray ix) = _
  simp only [pm_i6, ha, if_neg kn, kc, H.1]
theorem pm_Fv.gfI (H : HI σ k w h) {ix a kd ci f : Nat} {ty : FieldType} {fs : List Value} {v : Value} (hc : pm_cod P mi pc = some (.getfield ix, 3)) (hf : pm_fld P mi ix = some (kd, ci, f, ty)) (ha : a < k) (ho : h a = .inr (ci, fs)) (hv : fs[f]? = some v) (kk : pm_Fv P (mi, pc + 3, lv, v :: st) σ Q) : pm_Fv P (mi, pc, lv, .ref a :: st) σ Q :=
  pm_Fv.gf hc hf (H.l ha) ((H.2.2 a ha).trans ho) hv kk
theorem pm_Fv.pfI (H : HI σ k w h) {ix a kd ci f : Nat} {ty : FieldType} {fs : List Value} {v : Value} (hc : pm_cod P mi pc = some (.putfield ix, 3)) (hf : pm_fld P mi ix = some (kd, ci, f, ty)) (ha : a < k) (ho : h a = .inr (ci, fs)) (hk : f < fs.length) (hok : pm_ok ty v = true) (hkd : kd ≠ 0) (kk : ∀ t, HI t k w (hq_u h a (.inr (ci, fs.set f v))) → pm_Fv P (mi, pc + 3, lv, st) t Q) : pm_Fv P (mi, pc, lv, v :: .ref a :: st) σ Q :=
  pm_Fv.pf hc hf (H.l ha) ((H.2.2 a ha).trans ho) hk hok hkd (kk _ (H.set _ _))
theorem pm_Fv.asI (H : HI σ k w h) {a x m ci : Nat} {f : Nat → Option Nat} {fs : List Value} {j : Int} (hc : pm_cod P mi pc = some (.aastore, 1)) (ha : a < k) (hx : x < k) (ho : h a = .inl (2, m, .inr (.inr (.inr (.inr f))))) (hxo : h x = .inr (ci, fs)) (hr : pm_arr P 0 0 = some ci) (hj : 0 ≤ j ∧ j < m ∧ m ≤ 2147483647) (kk : ∀ t, HI t k w (hq_u h a (.inl (2, m, .inr (.inr (.inr (.inr (va_up f j.toNat (some x)))))))) → pm_Fv P (mi, pc + 1, lv, st) t Q) : pm_Fv P (mi, pc, lv, .ref x :: .int (zI j) :: .ref a :: st) σ Q := by
  refine pm_Fv.in (pc' := pc + 1) (lv' := lv) (st' := st) (σ' := pm_set σ a (.inl (2, m, .inr (.inr (.inr (.inr (va_up f j.toNat (some x)))))))) hc rfl ?_ (kk _ (H.set _ _))
  have a1 : σ.1 a = .inl (2, m, .inr (.inr (.inr (.inr f)))) := (H.2.2 a ha).trans ho
  have x1 : σ.1 x = .inr (ci, fs) := (H.2.2 x hx).trans hxo
  have cn : a < σ.2.1 ∧ x < σ.2.1 := ⟨H.l ha, H.l hx⟩
  have jn : ¬ ((zI j < 0 ∨ m ≤ (zI j).toNatClampNeg) ∨ ci ≠ ci) := fun q => q.elim (zI_ix hj.1 hj.2.1 hj.2.2) (fun r => r rfl)
  have e : pm_i5 P mi pc lv (.ref x :: .int (zI j) :: .ref a :: st) σ .aastore = some (pc + 1, lv, st, pm_set σ a (.inl (2, m, .inr (.inr (.inr (.inr (va_up f j.toNat (some x)))))))) := by
    simp only [pm_i5, if_pos cn, a1, x1, hr]
    rw [if_neg jn, zI_nat hj.1 (by omega)]
  show (match pm_i5 P mi pc lv (.ref x :: .int (zI j) :: .ref a :: st) σ .aastore with
    | some r => some r
    | none => pm_i6 P mi pc lv (.ref x :: .int (zI j) :: .ref a :: st) σ .aastore) = _
  rw [e]
end HI
/-- the heap behind the constructors -/
def c0_l (r : Nat) : Nat := if 5 ≤ r ∧ r < 188 ∧ ¬ r % 3 = 2 then 4 else if r = 189 then 400 else if r = 190 then 401 else if r = 191 then 401 else if 193 ≤ r ∧ r ≤ 195 then 16 else if r = 198 then 13 else if r = 200 then 5600 else if r = 201 then 341600 else if r = 202 then 5600 else if r = 203 then 400 else if 204 ≤ r ∧ r ≤ 206 then 800 else if r = 207 then 400 else 0
def c0_a (r : Nat) : Nat × (Nat → Int32) := (c0_l r, fun _ => 0)
def c0_r (r : Nat) : Nat × (Nat → Int64) := (if r = 0 then 16 else if r = 1 then 1 else 0, fun _ => 0)
def c0_z (_ : Nat) : Int := 0
def c0_h : Nat → pm_E := hq_lay (fun r => r) c0_z c0_a c0_r
def c0_d (n : Nat) : pm_E := .inr (0, [if 0 < n then .ref 1 else .null, if 1 < n then .ref 188 else .null, if 2 < n then .ref 192 else .null, if 3 < n then .ref 196 else .null, if 4 < n then .ref 198 else .null, .int 0])
theorem hq_u_4 {α : Type} (h : Nat → α) (p q a : Nat) (u v x y : α) : hq_u (hq_u (hq_u (hq_u h p u) a x) q v) a y = hq_u (hq_u (hq_u h p u) q v) a y := by
  funext b
  by_cases e : b = a
  · rw [e, hq_u_at, hq_u_at]
  · rw [hq_u_ne e, hq_u_ne e]
    by_cases f : b = q
    · rw [f, hq_u_at, hq_u_at]
    · rw [hq_u_ne f, hq_u_ne f, hq_u_ne e]
def c0_g (i : Nat) : Nat → Option Nat := fun j => if j < i then some (5 + 3 * j) else none
def c0_i (i : Nat) : Nat → pm_E := hq_u (hq_u (hq_u c0_h 0 (c0_d 0)) 1 (.inr (1, [.ref 2, .ref 3, .int 0, .ref 4, .int 0, .int 0, .int 0, .int 0, .int 0, .int 0]))) 4 (.inl (2, 61, .inr (.inr (.inr (.inr (c0_g i))))))
theorem c0_st {a : Nat} (h : 5 ≤ a ∧ a < 188 ∧ a % 3 = 2) : c0_h a = .inr (5, [.ref (a + 1), .ref (a + 2), .int 0]) := by
  unfold c0_h hq_lay
  rw [if_neg (by omega), if_neg (by omega), if_neg (by omega), if_neg (by omega), if_neg (by omega), if_neg (by omega), if_neg (by omega), if_neg (by omega), if_neg (by omega), if_pos h]
  rfl
theorem c0_ar {a : Nat} (h : 5 ≤ a ∧ a < 188 ∧ ¬ a % 3 = 2) : c0_h a = hq_arr (4, fun _ => 0) := by
  unfold c0_h hq_lay
  rw [if_neg (by omega), if_neg (by omega), if_neg (by omega), if_neg (by omega), if_neg (by omega), if_neg (by omega), if_neg (by omega), if_neg (by omega), if_neg (by omega), if_neg (by omega)]
  unfold c0_a c0_l
  rw [if_pos h]
section CI
variable (L : Nat) (xs : Nat → Int32) {σ : pm_S} {k w : Nat} {h : Nat → pm_E}

theorem pm_Fv.acI {P : pm_P} {mi pc ix a b m y z2 z3 : Nat} {lv : pm_L} {Q : pm_O → pm_S → Prop} {f g : Nat → Int32} (H : HI σ k w h) (hc : pm_cod P mi pc = some (.invokestatic ix, 3)) (hk : pm_cal P mi ix = some (7, y, z2, z3)) (ha : a < k) (hb : b < k) (ho : h a = .inl (0, 0, .inl f)) (hp : h b = .inl (0, m, .inl g)) (kk : ∀ t, HI t k w (hq_u h b (.inl (0, m, .inl g))) → pm_Fv P (mi, pc + 3, lv, []) t Q) : pm_Fv P (mi, pc, lv, [.int (zI 0), .int (zI 0), .ref b, .int (zI 0), .ref a]) σ Q := by
  refine pm_Fv.in (pc' := pc + 3) (lv' := lv) (st' := []) (σ' := pm_set σ b (.inl (0, m, .inl g))) hc rfl ?_ (kk _ (H.set _ _))
  have a1 : σ.1 a = .inl (0, 0, .inl f) := (H.2.2 a ha).trans ho
  have b1 : σ.1 b = .inl (0, m, .inl g) := (H.2.2 b hb).trans hp
  have cn : a < σ.2.1 ∧ b < σ.2.1 ∧ ¬ zI 0 < 0 ∧ ¬ zI 0 < 0 ∧ ¬ zI 0 < 0 ∧ (List.map (fun v : Value => v.category) []).sum ≤ 8 := ⟨H.l ha, H.l hb, by decide, by decide, by decide, by decide⟩
  have c2 : (zI 0).toNatClampNeg + (zI 0).toNatClampNeg ≤ 0 ∧ (zI 0).toNatClampNeg + (zI 0).toNatClampNeg ≤ m := by
    rw [zI_nat (by omega) (by omega)]
    exact ⟨by decide, Nat.zero_le _⟩
  have ve : va_cpy f g (zI 0).toNatClampNeg (zI 0).toNatClampNeg (zI 0).toNatClampNeg = g := by
    funext i
    unfold va_cpy
    rw [zI_nat (by omega) (by omega)]
    exact if_neg (fun q => absurd q.2 (Nat.not_lt.mpr (Nat.zero_le _)))
  show pm_i6 P mi pc lv [.int (zI 0), .int (zI 0), .ref b, .int (zI 0), .ref a] σ (.invokestatic ix) = _
  simp only [pm_i6, hk]
  rw [if_pos cn]
  simp only [a1, b1]
  rw [if_pos c2, ve]
theorem ci_step (H : HI σ k w h) {a : Nat} (ha : a < k) (ho : h a = .inr (5, [.null, .null, .int 0])) : pm_Fv (tq_P L xs) (pm_enter 92 [.ref a]) σ (fun o s => o = .inl none ∧ HI s (k + 2) (w + 8) (hq_u (hq_u (hq_u h k (hq_arr (4, fun _ => 0))) (k + 1) (hq_arr (4, fun _ => 0))) a (.inr (5, [.ref k, .ref (k + 1), .int 0])))) := by
  show pm_Fv (tq_P L xs) (92, 0, [(0, .ref a)], []) σ _
  refine pm_Fv.go 3 (f' := (92, 5, [(0, _)], [_])) rfl ?_
  refine pm_Fv.ic rfl ?_
  refine pm_Fv.naI H 4 rfl (by decide) (fun t1 H1 => ?_)
  refine pm_Fv.pfI H1 rfl rfl (by omega) ((hq_u_ne (by omega)).trans ho) (Nat.le_of_ble_eq_true rfl) rfl (by decide) (fun t2 H2 => ?_)
  refine pm_Fv.go 1 (f' := (92, 12, [(0, _)], [_])) rfl ?_
  refine pm_Fv.ic rfl ?_
  refine pm_Fv.naI H2 4 rfl (by decide) (fun t3 H3 => ?_)
  refine pm_Fv.pfI H3 rfl rfl (by omega) ((hq_u_ne (by omega)).trans (hq_u_at _ _ _)) (Nat.le_of_ble_eq_true rfl) rfl (by decide) (fun t4 H4 => ?_)
  refine pm_Fv.ret rfl rfl rfl rfl ⟨rfl, ?_⟩
  rw [hq_u_4] at H4
  exact H4
theorem c0_up (i : Nat) : va_up (c0_g i) i (some (5 + 3 * i)) = c0_g (i + 1) := by
  funext j
  unfold va_up c0_g
  by_cases e : j = i
  · rw [if_pos e, if_pos (by omega), e]
  · rw [if_neg e]
    by_cases f : j < i
    · rw [if_pos f, if_pos (by omega)]
    · rw [if_neg f, if_neg (by omega)]
theorem c0_nx {i : Nat} (hi : i < 61) {b : Nat} (hb : b < 5 + 3 * (i + 1)) : hq_u (hq_u (hq_u (hq_u (hq_u (c0_i i) (5 + 3 * i) (.inr (5, [.null, .null, .int 0]))) (5 + 3 * i + 1) (hq_arr (4, fun _ => 0))) (5 + 3 * i + 1 + 1) (hq_arr (4, fun _ => 0))) (5 + 3 * i) (.inr (5, [.ref (5 + 3 * i + 1), .ref (5 + 3 * i + 1 + 1), .int 0]))) 4 (.inl (2, 61, .inr (.inr (.inr (.inr (c0_g (i + 1))))))) b = c0_i (i + 1) b := by
  by_cases e4 : b = 4
  · rw [e4, hq_u_at]
    unfold c0_i
    rw [hq_u_at]
  have r : 5 ≤ b → c0_i (i + 1) b = c0_h b := fun q => by
    unfold c0_i
    rw [hq_u_ne e4, hq_u_ne (by omega), hq_u_ne (by omega)]
  rw [hq_u_ne e4]
  by_cases e0 : b = 5 + 3 * i
  · rw [e0, hq_u_at, ← e0, r (by omega), c0_st (by omega)]
  rw [hq_u_ne e0]
  by_cases e1 : b = 5 + 3 * i + 1 + 1
  · rw [e1, hq_u_at, ← e1, r (by omega), c0_ar (by omega)]
  rw [hq_u_ne e1]
  by_cases e2 : b = 5 + 3 * i + 1
  · rw [e2, hq_u_at, ← e2, r (by omega), c0_ar (by omega)]
  rw [hq_u_ne e2, hq_u_ne e0]
  unfold c0_i
  rw [hq_u_ne e4, hq_u_ne e4]
theorem ci_loop : ∀ (j i : Nat) (σ : pm_S), i + j = 61 → HI σ (5 + 3 * i) (77 + 11 * i) (c0_i i) → pm_Fv (tq_P L xs) (46, 29, [(1, .int (zI (i : Int))), (0, .ref 1)], []) σ (fun o s => o = .inl none ∧ HI s 188 748 (c0_i 61))
  | 0, i, σ, e, H => by
    obtain rfl : i = 61 := by omega
    refine pm_Fv.go 1 (f' := (46, 30, [(1, _), (0, _)], [_])) rfl ?_
    refine pm_Fv.bp rfl rfl ?_
    refine pm_Fv.jge rfl (by omega) rfl (fun _ => ?_) (fun q => absurd q (by omega))
    exact pm_Fv.ret rfl rfl rfl rfl ⟨rfl, H⟩
  | j + 1, i, σ, e, H => by
    refine pm_Fv.go 1 (f' := (46, 30, [(1, _), (0, _)], [_])) rfl ?_
    refine pm_Fv.bp rfl rfl ?_
    refine pm_Fv.jge rfl (by omega) rfl (fun q => absurd q (by omega)) (fun _ => ?_)
    refine pm_Fv.go 1 (f' := (46, 36, [(1, _), (0, _)], [_])) rfl ?_
    refine pm_Fv.gfI H rfl rfl (by omega) (fs := [.ref 2, .ref 3, .int 0, .ref 4, .int 0, .int 0, .int 0, .int 0, .int 0, .int 0]) rfl rfl ?_
    refine pm_Fv.go 1 (f' := (46, 40, [(1, _), (0, _)], [_, _])) rfl ?_
    refine pm_Fv.nwI H rfl rfl (fun t1 H1 => ?_)
    refine pm_Fv.go 1 (f' := (46, 44, [(1, _), (0, _)], [_, _, _, _])) rfl ?_
    refine pm_Fv.callF rfl rfl rfl rfl rfl (ci_step L xs H1 (a := 5 + 3 * i) (by omega) (hq_u_at _ _ _)) (fun t2 H2 => ?_)
    refine pm_Fv.asI H2 (j := (i : Int)) (m := 61) (f := c0_g i) (ci := 5) rfl (by omega) (by omega) (by
      rw [hq_u_ne (by omega), hq_u_ne (by omega), hq_u_ne (by omega), hq_u_ne (by omega)]
      rfl) (hq_u_at _ _ _) rfl (by omega) (fun t3 H3 => ?_)
    refine pm_Fv.inc (a := (i : Int)) rfl rfl (Nat.le_of_ble_eq_true rfl) ?_
    refine pm_Fv.go 1 (f' := (46, 29, [(1, .int (zI ((i : Int) + 1))), (0, .ref 1)], [])) rfl ?_
    rw [Int.toNat_natCast, c0_up] at H3
    exact ci_loop j (i + 1) t3 (by omega) ⟨H3.1.trans (by omega), H3.2.1.trans (by
      show 77 + 11 * i + 3 + 8 = 77 + 11 * (i + 1)
      omega), fun b hb => (H3.2.2 b (by omega)).trans (c0_nx (by omega) hb)⟩
theorem ci_hist (H : HI σ 2 16 h) (h0 : h 0 = c0_d 0) (h1 : h 1 = .inr (1, [.null, .null, .int 0, .null, .int 0, .int 0, .int 0, .int 0, .int 0, .int 0])) : pm_Fv (tq_P L xs) (pm_enter 46 [.ref 1]) σ (fun o s => o = .inl none ∧ HI s 188 748 (c0_i 61)) := by
  show pm_Fv (tq_P L xs) (46, 0, [(0, .ref 1)], []) σ _
  refine pm_Fv.go 3 (f' := (46, 5, [(0, _)], [_])) rfl ?_
  refine pm_Fv.ic rfl ?_
  refine pm_Fv.naI H 0 rfl (by decide) (fun t1 H1 => ?_)
  refine pm_Fv.pfI H1 rfl rfl (by decide) ((hq_u_ne (by decide)).trans h1) (Nat.le_of_ble_eq_true rfl) rfl (by decide) (fun t2 H2 => ?_)
  refine pm_Fv.go 1 (f' := (46, 12, [(0, _)], [_])) rfl ?_
  refine pm_Fv.ic rfl ?_
  refine pm_Fv.naI H2 0 rfl (by decide) (fun t3 H3 => ?_)
  refine pm_Fv.pfI H3 rfl rfl (by decide) rfl (Nat.le_of_ble_eq_true rfl) rfl (by decide) (fun t4 H4 => ?_)
  refine pm_Fv.go 1 (f' := (46, 19, [(0, _)], [_])) rfl ?_
  refine pm_Fv.bp rfl rfl ?_
  refine pm_Fv.anI H4 61 rfl rfl (by decide) (fun t5 H5 => ?_)
  refine pm_Fv.pfI H5 rfl rfl (by decide) rfl (Nat.le_of_ble_eq_true rfl) rfl (by decide) (fun t6 H6 => ?_)
  refine pm_Fv.ic rfl ?_
  refine pm_Fv.go 1 (f' := (46, 29, [(1, _), (0, _)], [])) rfl ?_
  refine ci_loop L xs 61 0 _ rfl ⟨H6.1, H6.2.1, fun b hb => (H6.2.2 b hb).trans ?_⟩
  have hb2 : b < 5 := hb
  rcases (show b = 0 ∨ b = 1 ∨ b = 2 ∨ b = 3 ∨ b = 4 by omega) with rfl | rfl | rfl | rfl | rfl
  · exact h0
  · rfl
  · rfl
  · rfl
  · have e : (fun _ => none) = c0_g 0 := funext (fun j => (if_neg (Nat.not_lt_zero j)).symm)
    show (Sum.inl (2, 61, .inr (.inr (.inr (.inr (fun _ => none))))) : pm_E) = .inl (2, 61, .inr (.inr (.inr (.inr (c0_g 0)))))
    rw [e]
theorem ci_copy (H : HI σ k w h) {a : Nat} {f : Nat → Int32} (ha : a < k) (ho : h a = .inl (0, 0, .inl f)) : pm_Fv (tq_P L xs) (pm_enter 201 [.ref a, .int (zI 401)]) σ (fun o s => o = .inl (some (.ref k)) ∧ HI s (k + 1) (w + 401) (hq_u h k (hq_arr (401, fun _ => 0)))) := by
  show pm_Fv (tq_P L xs) (201, 0, [(0, .ref a), (1, .int (zI 401))], []) σ _
  refine pm_Fv.go 2 (f' := (201, 2, [(0, _), (1, _)], [_, _])) rfl ?_
  refine pm_Fv.al rfl (H.l ha) ((H.2.2 a ha).trans ho) ?_
  show pm_Fv (tq_P L xs) (201, 3, [(0, .ref a), (1, .int (zI 401))], [.int (zI 0), .int (zI 401)]) σ _
  refine pm_Fv.jne rfl (by omega) rfl (fun _ => ?_) (fun q => absurd q (by omega))
  refine pm_Fv.go 1 (f' := (201, 15, [(0, _), (1, _)], [_])) rfl ?_
  refine pm_Fv.naI H 401 rfl (by decide) (fun t1 H1 => ?_)
  refine pm_Fv.go 6 (f' := (201, 23, [(2, _), (0, _), (1, _)], [_, _, _, _, _])) rfl ?_
  refine pm_Fv.al rfl (H1.l (by omega)) ((H1.2.2 a (by omega)).trans ((hq_u_ne (by omega)).trans ho)) ?_
  show pm_Fv (tq_P L xs) (201, 24, [(2, .ref k), (0, .ref a), (1, .int (zI 401))], [.int (zI 0), .int (zI 0), .ref k, .int (zI 0), .ref a]) t1 _
  refine pm_Fv.go 1 (f' := (201, 25, [(2, _), (0, _), (1, _)], [_, _, _, _, _, _])) rfl ?_
  refine pm_Fv.call rfl rfl rfl rfl rfl (ev_min L xs _ (by omega)) ?_
  rw [if_pos (by omega)]
  refine pm_Fv.acI H1 rfl rfl (by omega) (by omega) ((hq_u_ne (by omega)).trans ho) (hq_u_at _ _ _) (fun t2 H2 => ?_)
  refine pm_Fv.go 1 (f' := (201, 32, [(2, _), (0, _), (1, _)], [_])) rfl ?_
  refine pm_Fv.ret rfl rfl rfl rfl ⟨rfl, H2.cg (fun b _ => ?_)⟩
  by_cases e : b = k
  · rw [e, hq_u_at, hq_u_at]
    rfl
  · rw [hq_u_ne e]
theorem ci_reach (H : HI σ 190 w h) (h1 : h 1 = .inr (1, [.ref 2, .ref 3, .int 0, .ref 4, .int 0, .int 0, .int 0, .int 0, .int 0, .int 0])) (h2 : h 2 = .inl (0, 0, .inl (fun _ => 0))) (h3 : h 3 = .inl (0, 0, .inl (fun _ => 0))) : pm_Fv (tq_P L xs) (pm_enter 47 [.ref 1, .int (zI 401)]) σ (fun o s => o = .inl none ∧ HI s 192 (w + 802) (hq_u (hq_u (hq_u h 190 (hq_arr (401, fun _ => 0))) 191 (hq_arr (401, fun _ => 0))) 1 (.inr (1, [.ref 190, .ref 191, .int 0, .ref 4, .int 0, .int 0, .int 0, .int 0, .int 0, .int 0])))) := by
  show pm_Fv (tq_P L xs) (47, 0, [(0, .ref 1), (1, .int (zI 401))], []) σ _
  refine pm_Fv.go 2 (f' := (47, 2, [(0, _), (1, _)], [_, _])) rfl ?_
  refine pm_Fv.gfI H rfl rfl (by decide) h1 rfl ?_
  refine pm_Fv.al rfl (H.l (by decide)) ((H.2.2 2 (by decide)).trans h2) ?_
  show pm_Fv (tq_P L xs) (47, 6, [(0, .ref 1), (1, .int (zI 401))], [.int (zI 0), .int (zI 401)]) σ _
  refine pm_Fv.jle rfl (by omega) rfl (fun q => absurd q (by omega)) (fun _ => ?_)
  refine pm_Fv.go 2 (f' := (47, 11, [(0, _), (1, _)], [_, _])) rfl ?_
  refine pm_Fv.gfI H rfl rfl (by decide) h1 rfl ?_
  refine pm_Fv.al rfl (H.l (by decide)) ((H.2.2 2 (by decide)).trans h2) ?_
  show pm_Fv (tq_P L xs) (47, 15, [(0, .ref 1), (1, .int (zI 401))], [.int (zI 0), .int (zI 401)]) σ _
  refine pm_Fv.ic rfl ?_
  refine pm_Fv.imul rfl ?_
  refine pm_Fv.call rfl rfl rfl rfl rfl (ev_max L xs (by omega)) ?_
  rw [if_neg (by omega)]
  refine pm_Fv.go 3 (f' := (47, 23, [(2, _), (0, _), (1, _)], [_, _])) rfl ?_
  refine pm_Fv.gfI H rfl rfl (by decide) h1 rfl ?_
  refine pm_Fv.go 1 (f' := (47, 27, [(2, _), (0, _), (1, _)], [_, _, _])) rfl ?_
  refine pm_Fv.callF rfl rfl rfl rfl rfl (ci_copy L xs H (a := 2) (by decide) h2) (fun t1 H1 => ?_)
  refine pm_Fv.pfI H1 rfl rfl (by decide) ((hq_u_ne (by decide)).trans h1) (by decide) rfl (by decide) (fun t2 H2 => ?_)
  refine pm_Fv.go 2 (f' := (47, 35, [(2, _), (0, _), (1, _)], [_, _])) rfl ?_
  refine pm_Fv.gfI H2 rfl rfl (by decide) (hq_u_at _ _ _) rfl ?_
  refine pm_Fv.go 1 (f' := (47, 39, [(2, _), (0, _), (1, _)], [_, _, _])) rfl ?_
  refine pm_Fv.callF rfl rfl rfl rfl rfl (ci_copy L xs H2 (a := 3) (by decide) ((hq_u_ne (by decide)).trans ((hq_u_ne (by decide)).trans h3))) (fun t3 H3 => ?_)
  refine pm_Fv.pfI H3 rfl rfl (by decide) ((hq_u_ne (by decide)).trans (hq_u_at _ _ _)) (by decide) rfl (by decide) (fun t4 H4 => ?_)
  rw [hq_u_4] at H4
  exact pm_Fv.ret rfl rfl rfl rfl ⟨rfl, H4⟩
theorem ci_outl (H : HI σ 189 751 h) (h0 : h 0 = c0_d 1) (h1 : h 1 = .inr (1, [.ref 2, .ref 3, .int 0, .ref 4, .int 0, .int 0, .int 0, .int 0, .int 0, .int 0])) (h8 : h 188 = .inr (2, [.null, .null, .int 0])) (hh : ∀ b, 2 ≤ b → b < 188 → h b = c0_h b) : pm_Fv (tq_P L xs) (pm_enter 57 [.ref 188, .ref 1]) σ (fun o s => o = .inl none ∧ HI s 192 1953 (hq_u c0_h 0 (c0_d 1))) := by
  show pm_Fv (tq_P L xs) (57, 0, [(0, .ref 188), (1, .ref 1)], []) σ _
  refine pm_Fv.go 4 (f' := (57, 6, [(0, _), (1, _)], [_, _])) rfl ?_
  refine pm_Fv.pfI H rfl rfl (by decide) h8 (Nat.le_of_ble_eq_true rfl) rfl (by decide) (fun t1 H1 => ?_)
  refine pm_Fv.go 1 (f' := (57, 10, [(0, _), (1, _)], [_])) rfl ?_
  refine pm_Fv.sp rfl rfl ?_
  refine pm_Fv.naI H1 400 rfl (by decide) (fun t2 H2 => ?_)
  refine pm_Fv.pfI H2 rfl rfl (by decide) ((hq_u_ne (by decide)).trans (hq_u_at _ _ _)) (Nat.le_of_ble_eq_true rfl) rfl (by decide) (fun t3 H3 => ?_)
  refine pm_Fv.go 1 (f' := (57, 19, [(0, _), (1, _)], [_])) rfl ?_
  refine pm_Fv.sp rfl rfl ?_
  refine pm_Fv.cvF rfl rfl rfl rfl (by decide) (Nat.le_of_ble_eq_true rfl) (Nat.le_of_ble_eq_true rfl) (H3.l (by decide)) ((H3.2.2 1 (by decide)).trans h1) (ci_reach L xs H3 h1 (hh 2 (by decide) (by decide)) (hh 3 (by decide) (by decide))) (fun t9 H9 => ?_)
  refine pm_Fv.ret rfl rfl rfl rfl ⟨rfl, H9.cg (fun b hb => ?_)⟩
  rcases (show b = 0 ∨ b = 1 ∨ (2 ≤ b ∧ b < 188) ∨ b = 188 ∨ b = 189 ∨ b = 190 ∨ b = 191 by omega) with rfl | rfl | q | rfl | rfl | rfl | rfl
  · exact h0
  · rfl
  · rw [hq_u_ne (by omega), hq_u_ne (by omega), hq_u_ne (by omega), hq_u_ne (by omega), hq_u_ne (by omega), hq_u_ne (by omega), hq_u_ne (by omega)]
    exact hh b q.1 q.2
  · rfl
  · rfl
  · rfl
  · rfl
theorem ci_find (H : HI σ 193 1957 h) (h8 : h 192 = .inr (3, [.null, .null, .null, .int 0])) (hh : ∀ b, b < 192 → h b = hq_u c0_h 0 (c0_d 2) b) : pm_Fv (tq_P L xs) (pm_enter 83 [.ref 192]) σ (fun o s => o = .inl none ∧ HI s 196 2005 (hq_u c0_h 0 (c0_d 2))) := by
  show pm_Fv (tq_P L xs) (83, 0, [(0, .ref 192)], []) σ _
  refine pm_Fv.go 3 (f' := (83, 5, [(0, _)], [_])) rfl ?_
  refine pm_Fv.bp rfl rfl ?_
  refine pm_Fv.naI H 16 rfl (by decide) (fun t1 H1 => ?_)
  refine pm_Fv.pfI H1 rfl rfl (by decide) ((hq_u_ne (by decide)).trans h8) (Nat.le_of_ble_eq_true rfl) rfl (by decide) (fun t2 H2 => ?_)
  refine pm_Fv.go 1 (f' := (83, 13, [(0, _)], [_])) rfl ?_
  refine pm_Fv.bp rfl rfl ?_
  refine pm_Fv.naI H2 16 rfl (by decide) (fun t3 H3 => ?_)
  refine pm_Fv.pfI H3 rfl rfl (by decide) rfl (Nat.le_of_ble_eq_true rfl) rfl (by decide) (fun t4 H4 => ?_)
  refine pm_Fv.go 1 (f' := (83, 21, [(0, _)], [_])) rfl ?_
  refine pm_Fv.bp rfl rfl ?_
  refine pm_Fv.naI H4 16 rfl (by decide) (fun t5 H5 => ?_)
  refine pm_Fv.pfI H5 rfl rfl (by decide) rfl (Nat.le_of_ble_eq_true rfl) rfl (by decide) (fun t6 H6 => ?_)
  refine pm_Fv.ret rfl rfl rfl rfl ⟨rfl, H6.cg (fun b hb => ?_)⟩
  rcases (show b < 192 ∨ b = 192 ∨ b = 193 ∨ b = 194 ∨ b = 195 by omega) with q | rfl | rfl | rfl | rfl
  · rw [hq_u_ne (by omega), hq_u_ne (by omega), hq_u_ne (by omega), hq_u_ne (by omega), hq_u_ne (by omega), hq_u_ne (by omega)]
    exact hh b q
  · rfl
  · rfl
  · rfl
  · rfl
theorem ci_keys (H : HI σ 197 2007 h) (h8 : h 196 = .inr (4, [.null, .int 0])) (hh : ∀ b, b < 196 → h b = hq_u c0_h 0 (c0_d 3) b) : pm_Fv (tq_P L xs) (pm_enter 86 [.ref 196]) σ (fun o s => o = .inl none ∧ HI s 198 2023 (hq_u c0_h 0 (c0_d 3))) := by
  show pm_Fv (tq_P L xs) (86, 0, [(0, .ref 196)], []) σ _
  refine pm_Fv.go 3 (f' := (86, 5, [(0, _)], [_])) rfl ?_
  refine pm_Fv.bp rfl rfl ?_
  refine pm_Fv.nlI H 16 rfl (by decide) (fun t1 H1 => ?_)
  refine pm_Fv.pfI H1 rfl rfl (by decide) ((hq_u_ne (by decide)).trans h8) (Nat.le_of_ble_eq_true rfl) rfl (by decide) (fun t2 H2 => ?_)
  refine pm_Fv.ret rfl rfl rfl rfl ⟨rfl, H2.cg (fun b hb => ?_)⟩
  rcases (show b < 196 ∨ b = 196 ∨ b = 197 by omega) with q | rfl | rfl
  · rw [hq_u_ne (by omega), hq_u_ne (by omega)]
    exact hh b q
  · rfl
  · rfl
theorem ci_model (H : HI σ 200 2054 h) (h8 : h 199 = .inr (6, [.null, .null, .int 0, .int 0, .int 0, .int 0, .int 0, .int 0, .int 0, .null, .null, .int 0, .null, .null, .null, .int 0, .null, .int 0])) (hh : ∀ b, b < 199 → h b = c0_h b) : pm_Fv (tq_P L xs) (pm_enter 95 [.ref 199]) σ (fun o s => o = .inl none ∧ HI s 208 358054 (c0_h)) := by
  show pm_Fv (tq_P L xs) (95, 0, [(0, .ref 199)], []) σ _
  refine pm_Fv.go 3 (f' := (95, 5, [(0, _)], [_])) rfl ?_
  refine pm_Fv.sp rfl rfl ?_
  refine pm_Fv.naI H 5600 rfl (by decide) (fun t1 H1 => ?_)
  refine pm_Fv.pfI H1 rfl rfl (by decide) ((hq_u_ne (by decide)).trans h8) (Nat.le_of_ble_eq_true rfl) rfl (by decide) (fun t2 H2 => ?_)
  refine pm_Fv.go 1 (f' := (95, 14, [(0, _)], [_])) rfl ?_
  refine pm_Fv.cc1 341600 rfl rfl rfl ?_
  refine pm_Fv.naI H2 341600 rfl (by decide) (fun t3 H3 => ?_)
  refine pm_Fv.pfI H3 rfl rfl (by decide) rfl (Nat.le_of_ble_eq_true rfl) rfl (by decide) (fun t4 H4 => ?_)
  refine pm_Fv.go 1 (f' := (95, 22, [(0, _)], [_])) rfl ?_
  refine pm_Fv.sp rfl rfl ?_
  refine pm_Fv.naI H4 5600 rfl (by decide) (fun t5 H5 => ?_)
  refine pm_Fv.pfI H5 rfl rfl (by decide) rfl (Nat.le_of_ble_eq_true rfl) rfl (by decide) (fun t6 H6 => ?_)
  refine pm_Fv.go 1 (f' := (95, 31, [(0, _)], [_])) rfl ?_
  refine pm_Fv.sp rfl rfl ?_
  refine pm_Fv.naI H6 400 rfl (by decide) (fun t7 H7 => ?_)
  refine pm_Fv.pfI H7 rfl rfl (by decide) rfl (Nat.le_of_ble_eq_true rfl) rfl (by decide) (fun t8 H8 => ?_)
  refine pm_Fv.go 1 (f' := (95, 40, [(0, _)], [_])) rfl ?_
  refine pm_Fv.sp rfl rfl ?_
  refine pm_Fv.naI H8 800 rfl (by decide) (fun t9 H9 => ?_)
  refine pm_Fv.pfI H9 rfl rfl (by decide) rfl (Nat.le_of_ble_eq_true rfl) rfl (by decide) (fun t10 H10 => ?_)
  refine pm_Fv.go 1 (f' := (95, 49, [(0, _)], [_])) rfl ?_
  refine pm_Fv.sp rfl rfl ?_
  refine pm_Fv.naI H10 800 rfl (by decide) (fun t11 H11 => ?_)
  refine pm_Fv.pfI H11 rfl rfl (by decide) rfl (Nat.le_of_ble_eq_true rfl) rfl (by decide) (fun t12 H12 => ?_)
  refine pm_Fv.go 1 (f' := (95, 58, [(0, _)], [_])) rfl ?_
  refine pm_Fv.sp rfl rfl ?_
  refine pm_Fv.naI H12 800 rfl (by decide) (fun t13 H13 => ?_)
  refine pm_Fv.pfI H13 rfl rfl (by decide) rfl (Nat.le_of_ble_eq_true rfl) rfl (by decide) (fun t14 H14 => ?_)
  refine pm_Fv.go 1 (f' := (95, 67, [(0, _)], [_])) rfl ?_
  refine pm_Fv.sp rfl rfl ?_
  refine pm_Fv.naI H14 400 rfl (by decide) (fun t15 H15 => ?_)
  refine pm_Fv.pfI H15 rfl rfl (by decide) rfl (Nat.le_of_ble_eq_true rfl) rfl (by decide) (fun t16 H16 => ?_)
  refine pm_Fv.ret rfl rfl rfl rfl ⟨rfl, H16.cg (fun b hb => ?_)⟩
  rcases (show b < 199 ∨ b = 199 ∨ b = 200 ∨ b = 201 ∨ b = 202 ∨ b = 203 ∨ b = 204 ∨ b = 205 ∨ b = 206 ∨ b = 207 by omega) with q | rfl | rfl | rfl | rfl | rfl | rfl | rfl | rfl | rfl
  · rw [hq_u_ne (by omega), hq_u_ne (by omega), hq_u_ne (by omega), hq_u_ne (by omega), hq_u_ne (by omega), hq_u_ne (by omega), hq_u_ne (by omega), hq_u_ne (by omega), hq_u_ne (by omega), hq_u_ne (by omega), hq_u_ne (by omega), hq_u_ne (by omega), hq_u_ne (by omega), hq_u_ne (by omega), hq_u_ne (by omega), hq_u_ne (by omega)]
    exact hh b q
  · rfl
  · rfl
  · rfl
  · rfl
  · rfl
  · rfl
  · rfl
  · rfl
  · rfl
theorem ci_desk (H : HI σ 1 6 h) (h0 : h 0 = c0_d 0) : pm_Fv (tq_P L xs) (pm_enter 2 [.ref 0]) σ (fun o s => o = .inl none ∧ HI s 199 2036 c0_h) := by
  show pm_Fv (tq_P L xs) (2, 0, [(0, .ref 0)], []) σ _
  refine pm_Fv.go 3 (f' := (2, 5, [(0, _)], [_])) rfl ?_
  refine pm_Fv.nwI H rfl rfl (fun t1 H1 => ?_)
  refine pm_Fv.go 1 (f' := (2, 9, [(0, _)], [_, _, _])) rfl ?_
  refine pm_Fv.callF rfl rfl rfl rfl rfl (ci_hist L xs H1 ((hq_u_ne (by decide)).trans h0) (hq_u_at _ _ _)) (fun t2 H2 => ?_)
  refine pm_Fv.pfI H2 rfl rfl (by decide) rfl (Nat.le_of_ble_eq_true rfl) rfl (by decide) (fun t3 H3 => ?_)
  refine pm_Fv.go 1 (f' := (2, 16, [(0, _)], [_])) rfl ?_
  refine pm_Fv.nwI H3 rfl rfl (fun t4 H4 => ?_)
  refine pm_Fv.go 2 (f' := (2, 21, [(0, _)], [_, _, _, _])) rfl ?_
  refine pm_Fv.gfI H4 rfl rfl (by decide) rfl rfl ?_
  refine pm_Fv.callF rfl rfl rfl rfl rfl (ci_outl L xs H4 rfl rfl (hq_u_at _ _ _) (fun b b2 hb => by
      rw [hq_u_ne (by omega), hq_u_ne (by omega)]
      by_cases e4 : b = 4
      · rw [e4]
        rfl
      · unfold c0_i
        rw [hq_u_ne e4, hq_u_ne (by omega), hq_u_ne (by omega)])) (fun t5 H5 => ?_)
  refine pm_Fv.pfI H5 rfl rfl (by decide) rfl (Nat.le_of_ble_eq_true rfl) rfl (by decide) (fun t6 H6 => ?_)
  refine pm_Fv.go 1 (f' := (2, 31, [(0, _)], [_])) rfl ?_
  refine pm_Fv.nwI H6 rfl rfl (fun t7 H7 => ?_)
  refine pm_Fv.go 1 (f' := (2, 35, [(0, _)], [_, _, _])) rfl ?_
  refine pm_Fv.callF rfl rfl rfl rfl rfl (ci_find L xs H7 (hq_u_at _ _ _) (fun b hb => by
      rw [hq_u_ne (by omega)]
      by_cases e : b = 0
      · rw [e]
        rfl
      · rw [hq_u_ne e, hq_u_ne e, hq_u_ne e])) (fun t8 H8 => ?_)
  refine pm_Fv.pfI H8 rfl rfl (by decide) rfl (Nat.le_of_ble_eq_true rfl) rfl (by decide) (fun t9 H9 => ?_)
  refine pm_Fv.go 1 (f' := (2, 42, [(0, _)], [_])) rfl ?_
  refine pm_Fv.nwI H9 rfl rfl (fun t10 H10 => ?_)
  refine pm_Fv.go 1 (f' := (2, 46, [(0, _)], [_, _, _])) rfl ?_
  refine pm_Fv.callF rfl rfl rfl rfl rfl (ci_keys L xs H10 (hq_u_at _ _ _) (fun b hb => by
      rw [hq_u_ne (by omega)]
      by_cases e : b = 0
      · rw [e]
        rfl
      · rw [hq_u_ne e, hq_u_ne e, hq_u_ne e])) (fun t11 H11 => ?_)
  refine pm_Fv.pfI H11 rfl rfl (by decide) rfl (Nat.le_of_ble_eq_true rfl) rfl (by decide) (fun t12 H12 => ?_)
  refine pm_Fv.go 1 (f' := (2, 53, [(0, _)], [_])) rfl ?_
  refine pm_Fv.bp rfl rfl ?_
  refine pm_Fv.naI H12 13 rfl (by decide) (fun t13 H13 => ?_)
  refine pm_Fv.pfI H13 rfl rfl (by decide) rfl (Nat.le_of_ble_eq_true rfl) rfl (by decide) (fun t14 H14 => ?_)
  refine pm_Fv.ret rfl rfl rfl rfl ⟨rfl, H14.cg (fun b hb => ?_)⟩
  rcases (show b = 0 ∨ b = 198 ∨ (b ≠ 0 ∧ b < 198) by omega) with rfl | rfl | q
  · rfl
  · rfl
  · rw [hq_u_ne (by omega), hq_u_ne (by omega), hq_u_ne (by omega), hq_u_ne (by omega)]
theorem ci_law {Q : pm_O → pm_S → Prop} (kk : ∀ t, HI t 209 358055 c0_h → pm_Fv (tq_P L xs) (1, 23, [(4, .int (zI 0)), (0, .float 0), (1, .ref 0), (2, .ref 199), (3, .ref 208)], []) t Q) : pm_Fv (tq_P L xs) tq_f0 tq_s0 Q := by
  have H : HI tq_s0 0 0 (fun _ => .inr (0, [])) := ⟨rfl, rfl, fun a ha => absurd ha (Nat.not_lt_zero a)⟩
  show pm_Fv (tq_P L xs) (1, 0, [(0, .float 0)], []) tq_s0 _
  refine pm_Fv.nwI H rfl rfl (fun t1 H1 => ?_)
  refine pm_Fv.go 1 (f' := (1, 4, [(0, _)], [_, _])) rfl ?_
  refine pm_Fv.callF rfl rfl rfl rfl rfl (ci_desk L xs H1 (hq_u_at _ _ _)) (fun t2 H2 => ?_)
  refine pm_Fv.go 1 (f' := (1, 8, [(1, _), (0, _)], [])) rfl ?_
  refine pm_Fv.nwI H2 rfl rfl (fun t3 H3 => ?_)
  refine pm_Fv.go 1 (f' := (1, 12, [(1, _), (0, _)], [_, _])) rfl ?_
  refine pm_Fv.callF rfl rfl rfl rfl rfl (ci_model L xs H3 (hq_u_at _ _ _) (fun b hb => hq_u_ne (by omega))) (fun t4 H4 => ?_)
  refine pm_Fv.go 1 (f' := (1, 16, [(2, _), (1, _), (0, _)], [])) rfl ?_
  refine pm_Fv.ic rfl ?_
  refine pm_Fv.nlI H4 1 rfl (by decide) (fun t5 H5 => ?_)
  refine pm_Fv.go 1 (f' := (1, 20, [(3, _), (2, _), (1, _), (0, _)], [])) rfl ?_
  refine pm_Fv.ic rfl ?_
  refine pm_Fv.go 1 (f' := (1, 23, [(4, _), (3, _), (2, _), (1, _), (0, _)], [])) rfl ?_
  refine (kk _ ⟨H5.1, H5.2.1, fun b hb => (H5.2.2 b hb).trans ?_⟩).weak rfl
  have hb2 : b < 209 := hb
  by_cases e : b = 208
  · rw [e]
    rfl
  · rw [hq_u_ne e]
end CI
