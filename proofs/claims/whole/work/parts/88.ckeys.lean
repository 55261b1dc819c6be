/-! the desk: keys -/
def lq_g (lr : Nat → Nat × (Nat → Int64)) (j : Int) : Int := ((lr 0).2 j.toNat).toInt
def lq_w (lr : Nat → Nat × (Nat → Int64)) (j v : Int) : Nat → Nat × (Nat → Int64) := hq_u lr 0 ((lr 0).1, vp_updL (lr 0).2 j.toNat (zL v))
theorem lq_g_r (lr : Nat → Nat × (Nat → Int64)) (j : Int) : -9223372036854775808 ≤ lq_g lr j ∧ lq_g lr j ≤ 9223372036854775807 := ⟨Int64.le_toInt _, Int.le_of_lt_add_one (Int64.toInt_lt _)⟩
theorem lq_w_g {lr : Nat → Nat × (Nat → Int64)} {j v i : Int} (j0 : 0 ≤ j) (i0 : 0 ≤ i) (hv : -9223372036854775808 ≤ v ∧ v ≤ 9223372036854775807) : lq_g (lq_w lr j v) i = if i = j then v else lq_g lr i := by
  unfold lq_g lq_w
  rw [hq_u_at]
  show (if i.toNat = j.toNat then zL v else (lr 0).2 i.toNat).toInt = _
  by_cases c : i = j
  · rw [if_pos c, if_pos (by omega)]
    exact zL_ti hv.1 hv.2
  · rw [if_neg c, if_neg (by omega)]
theorem lq_w_len (lr : Nat → Nat × (Nat → Int64)) (j v : Int) : (lq_w lr j v 0).1 = (lr 0).1 := rfl
theorem lq_w_1 (lr : Nat → Nat × (Nat → Int64)) (j v : Int) : lq_w lr j v 1 = lr 1 := rfl
section HQ
variable {P : pm_P} {mi pc : Nat} {lv : pm_L} {st : List Value} {σ : pm_S} {Q : pm_O → pm_S → Prop}
variable {ad : Nat → Nat} {z : Nat → Int} {ar : Nat → Nat × (Nat → Int32)} {lr : Nat → Nat × (Nat → Int64)}
theorem Hp.a197 (H : Hp σ ad z ar lr) : σ.1 (ad 197) = .inl (1, (lr 0).1, .inr (.inl (lr 0).2)) := H.at (r := 197) (by decide)
theorem pm_Fv.dla (H : Hp σ ad z ar lr) {j : Int} (hc : pm_cod P mi pc = some (.laload, 1)) (hj : 0 ≤ j ∧ j < ((lr 0).1 : Int) ∧ (lr 0).1 ≤ 2147483647) (kk : pm_Fv P (mi, pc + 1, lv, .long (zL (lq_g lr j)) :: st) σ Q) : pm_Fv P (mi, pc, lv, .int (zI j) :: .ref (ad 197) :: st) σ Q := by
  refine pm_Fv.la hc (H.lt (by decide)) H.a197 (zI_ix hj.1 hj.2.1 hj.2.2) ?_
  rw [zI_nat hj.1 (by omega), ← zL_x ((lr 0).2 j.toNat)]
  exact kk
theorem pm_Fv.dls (H : Hp σ ad z ar lr) {j v : Int} (hc : pm_cod P mi pc = some (.lastore, 1)) (hj : 0 ≤ j ∧ j < ((lr 0).1 : Int) ∧ (lr 0).1 ≤ 2147483647) (kk : ∀ s, Hp s ad z ar (lq_w lr j v) → s.2 = σ.2 → pm_Fv P (mi, pc + 1, lv, st) s Q) : pm_Fv P (mi, pc, lv, .long (zL v) :: .int (zI j) :: .ref (ad 197) :: st) σ Q := by
  refine pm_Fv.ls hc (H.lt (by decide)) H.a197 (zI_ix hj.1 hj.2.1 hj.2.2) ?_
  rw [zI_nat hj.1 (by omega)]
  exact kk _ (H.lset ((lr 0).1, vp_updL (lr 0).2 j.toNat (zL v))) rfl
theorem pm_Fv.dll (H : Hp σ ad z ar lr) (hc : pm_cod P mi pc = some (.arraylength, 1)) (kk : pm_Fv P (mi, pc + 1, lv, .int (zI ((lr 0).1 : Int)) :: st) σ Q) : pm_Fv P (mi, pc, lv, .ref (ad 197) :: st) σ Q := by
  refine pm_Fv.all hc (H.lt (by decide)) H.a197 ?_
  rw [zI_ofNat]
  exact kk
end HQ
section MS
variable (L : Nat) (xs : Nat → Int32)
variable {σ : pm_S} {ad : Nat → Nat} {z : Nat → Int} {ar : Nat → Nat × (Nat → Int32)} {lr : Nat → Nat × (Nat → Int64)}
theorem ev_copyOfL (H : Hp σ ad z ar lr) {k : Nat} (hk : (lr 0).1 < k) (hk2 : k ≤ 200000) : pm_Fv (tq_P L xs) (pm_enter 202 [.ref (ad 197), .int (zI (k : Int))]) σ (fun o s => o = .inl (some (.ref σ.2.1)) ∧ Hp s ad z ar lr ∧ s.2 = (σ.2.1 + 1, σ.2.2 + k) ∧ s.1 σ.2.1 = hq_lon (k, hq_cpf (lr 0).1 (lr 0).2 0)) := by
  show pm_Fv (tq_P L xs) (202, 0, [(0, .ref (ad 197)), (1, .int (zI (k : Int)))], []) σ _
  refine pm_Fv.go 2 (f' := (202, 2, [(0, _), (1, _)], [_, _])) rfl ?_
  refine pm_Fv.dll H rfl ?_
  refine pm_Fv.jne rfl (by omega) rfl (fun h1 => ?_) (fun h1 => absurd h1 (by omega))
  refine pm_Fv.go 1 (f' := (202, 15, [(0, _), (1, _)], [_])) rfl ?_
  have kc : (zI (k : Int)).toNatClampNeg = k := by
    rw [zI_nat (by omega) (by omega)]
    omega
  have kn : ¬ (zI (k : Int) < 0 ∨ 536870912 < (zI (k : Int)).toNatClampNeg * 8) := by
    rw [kc, show (0 : Int32) = zI 0 from rfl, zI_lt (by omega) (by omega) (by omega) (by omega)]
    omega
  refine pm_Fv.in (i := .newarray .long) (n := 2) rfl rfl (by
    show (if zI (k : Int) < 0 ∨ 536870912 < (zI (k : Int)).toNatClampNeg * 8 then none else some _) = _
    exact if_neg kn) ?_
  rw [kc]
  have fr : ∀ s, s < 209 → ad s ≠ σ.2.1 := fun s hs => Nat.ne_of_lt (H.lt hs)
  have H1 := H.add (.inl (1, k, .inr (.inl (fun _ => 0)))) k
  refine pm_Fv.go 6 (f' := (202, 23, [(2, _), (0, _), (1, _)], [_, _, _, _, _])) rfl ?_
  refine pm_Fv.dll H1 rfl ?_
  refine pm_Fv.go 1 (f' := (202, 25, [(2, _), (0, _), (1, _)], [_, _, _, _, _, _])) rfl ?_
  refine pm_Fv.call rfl rfl rfl rfl rfl (ev_min L xs _ (by omega)) ?_
  rw [if_pos (by omega)]
  have mc : (zI ((lr 0).1 : Int)).toNatClampNeg = (lr 0).1 := by
    rw [zI_nat (by omega) (by omega)]
    omega
  have a1 : (pm_add σ (.inl (1, k, .inr (.inl (fun _ => 0)))) k).1 (ad 197) = .inl (1, (lr 0).1, .inr (.inl (lr 0).2)) := H1.a197
  have a2 : (pm_add σ (.inl (1, k, .inr (.inl (fun _ => 0)))) k).1 σ.2.1 = .inl (1, k, .inr (.inl (fun _ => 0))) := pm_add_at _ _ _
  have cnd : ad 197 < (pm_add σ (.inl (1, k, .inr (.inl (fun _ => 0)))) k).2.1 ∧ σ.2.1 < (pm_add σ (.inl (1, k, .inr (.inl (fun _ => 0)))) k).2.1 ∧ ¬ (0 : Int32) < 0 ∧ ¬ (0 : Int32) < 0 ∧ ¬ zI ((lr 0).1 : Int) < 0 ∧ (List.map (fun v : Value => v.category) []).sum ≤ 8 := by
    refine ⟨H1.lt (by decide), Nat.lt_succ_self _, by decide, by decide, ?_, by decide⟩
    rw [show (0 : Int32) = zI 0 from rfl, zI_lt (by omega) (by omega) (by omega) (by omega)]
    omega
  refine pm_Fv.in (i := .invokestatic 150) (n := 3) (σ' := pm_set (pm_add σ (.inl (1, k, .inr (.inl (fun _ => 0)))) k) σ.2.1 (hq_lon (k, hq_cpf (lr 0).1 (lr 0).2 0))) (st' := []) (pc' := 31) (lv' := [(2, .ref σ.2.1), (0, .ref (ad 197)), (1, .int (zI (k : Int)))]) rfl rfl ?_ ?_
  · show (if ad 197 < (pm_add σ (.inl (1, k, .inr (.inl (fun _ => 0)))) k).2.1 ∧ σ.2.1 < (pm_add σ (.inl (1, k, .inr (.inl (fun _ => 0)))) k).2.1 ∧ ¬ (0 : Int32) < 0 ∧ ¬ (0 : Int32) < 0 ∧ ¬ zI ((lr 0).1 : Int) < 0 ∧ (List.map (fun v : Value => v.category) []).sum ≤ 8 then _ else none) = _
    rw [if_pos cnd]
    simp only [a1, a2, mc]
    rw [if_pos (by
      show (0 : Int32).toNatClampNeg + (lr 0).1 ≤ (lr 0).1 ∧ (0 : Int32).toNatClampNeg + (lr 0).1 ≤ k
      rw [show (0 : Int32).toNatClampNeg = 0 from rfl]
      omega)]
    have fe : va_cpy (lr 0).2 (fun _ => (0 : Int64)) (0 : Int32).toNatClampNeg (0 : Int32).toNatClampNeg (lr 0).1 = hq_cpf (lr 0).1 (lr 0).2 0 := by
      funext i
      unfold va_cpy hq_cpf
      rw [show (0 : Int32).toNatClampNeg = 0 from rfl, Nat.zero_add]
      by_cases c : i < (lr 0).1
      · rw [if_pos ⟨Nat.zero_le _, c⟩, if_pos c, Nat.zero_add]
        rfl
      · rw [if_neg (fun q => c q.2), if_neg c]
    rw [show va_cpy (lr 0).2 (fun _ => (0 : Int64)) (Int32.ofInt 0).toNatClampNeg (Int32.ofInt 0).toNatClampNeg (lr 0).1 = hq_cpf (lr 0).1 (lr 0).2 0 from fe]
    rfl
  · refine pm_Fv.go 1 (f' := (202, 32, [(2, _), (0, _), (1, _)], [_])) rfl ?_
    exact pm_Fv.ret rfl rfl rfl rfl ⟨rfl, H1.out fr _, rfl, pm_set_at _ _ _⟩

theorem ev_kclear (H : Hp σ ad z ar lr) : pm_Fv (tq_P L xs) (pm_enter 87 [.ref 196]) σ (fun o s => o = .inl none ∧ Hp s ad (hq_u z 10 0) ar lr ∧ s.2 = σ.2) := by
  show pm_Fv (tq_P L xs) (87, 0, [(0, .ref 196)], []) σ _
  refine pm_Fv.go 2 (f' := (87, 2, [(0, _)], [_, _])) rfl ?_
  refine pm_Fv.pz H 10 rfl rfl rfl (by decide) rfl rfl (Nat.le_of_ble_eq_true rfl) rfl (by decide) rfl (fun s1 H1 r1 => ?_)
  exact pm_Fv.ret rfl rfl rfl rfl ⟨rfl, H1, r1⟩
theorem ev_fclear (H : Hp σ ad z ar lr) : pm_Fv (tq_P L xs) (pm_enter 84 [.ref 192]) σ (fun o s => o = .inl none ∧ Hp s ad (hq_u z 9 0) ar lr ∧ s.2 = σ.2) := by
  show pm_Fv (tq_P L xs) (84, 0, [(0, .ref 192)], []) σ _
  refine pm_Fv.go 2 (f' := (84, 2, [(0, _)], [_, _])) rfl ?_
  refine pm_Fv.pz H 9 rfl rfl rfl (by decide) rfl rfl (Nat.le_of_ble_eq_true rfl) rfl (by decide) rfl (fun s1 H1 r1 => ?_)
  exact pm_Fv.ret rfl rfl rfl rfl ⟨rfl, H1, r1⟩
theorem ev_kaddT (H : Hp σ ad z ar lr) {v : Int} (hv : -9223372036854775808 ≤ v ∧ v ≤ 9223372036854775807) (s0 : 0 ≤ z 10) (s1 : z 10 < ((lr 0).1 : Int)) (h4 : 16 ≤ (lr 0).1) (hb : (lr 0).1 ≤ 1600) : pm_Fv (tq_P L xs) (88, 29, [(0, .ref 196), (1, .long (zL v))], []) σ (fun o s => o = .inl none ∧ (∃ lr', Hp s ad (hq_u z 10 (z 10 + 1)) ar lr' ∧ lr' 1 = lr 1 ∧ (∀ i, 0 ≤ i → i ≤ z 10 → lq_g lr' i = if i = z 10 then v else lq_g lr i) ∧ (lr' 0).1 = (lr 0).1) ∧ s.2 = σ.2) := by
  refine pm_Fv.go 1 (f' := (88, 30, [(0, _), (1, _)], [_])) rfl ?_
  refine pm_Fv.gf rfl rfl H.m196 H.o196 rfl ?_
  refine pm_Fv.go 1 (f' := (88, 34, [(0, _), (1, _)], [_, _])) rfl ?_
  refine pm_Fv.gf rfl rfl H.m196 H.o196 rfl ?_
  refine pm_Fv.go 1 (f' := (88, 38, [(0, _), (1, _)], [_, _, _])) rfl ?_
  refine pm_Fv.dls H rfl (by omega) (fun s1 H1 r1 => ?_)
  refine pm_Fv.go 2 (f' := (88, 41, [(0, _), (1, _)], [_, _])) rfl ?_
  refine pm_Fv.gf rfl rfl H1.m196 H1.o196 rfl ?_
  refine pm_Fv.go 1 (f' := (88, 45, [(0, _), (1, _)], [_, _, _])) rfl ?_
  refine pm_Fv.iadd rfl ?_
  refine pm_Fv.pz H1 10 rfl rfl rfl (by decide) rfl rfl (Nat.le_of_ble_eq_true rfl) rfl (by decide) rfl (fun s2 H2 r2 => ?_)
  exact pm_Fv.ret rfl rfl rfl rfl ⟨rfl, ⟨_, H2, rfl, fun i i0 i1 => lq_w_g s0 i0 hv, rfl⟩, (r2.trans r1)⟩
theorem ev_kadd (H : Hp σ ad z ar lr) {v : Int} (hv : -9223372036854775808 ≤ v ∧ v ≤ 9223372036854775807) (s0 : 0 ≤ z 10) (s1 : z 10 ≤ ((lr 0).1 : Int)) (s2 : z 10 < 800) (h4 : 16 ≤ (lr 0).1) (hb : (lr 0).1 ≤ 1600) : pm_Fv (tq_P L xs) (pm_enter 88 [.ref 196, .long (zL v)]) σ (fun o s => o = .inl none ∧ ∃ ad' lr', Hp s ad' (hq_u z 10 (z 10 + 1)) ar lr' ∧ lr' 1 = lr 1 ∧ (∀ i, 0 ≤ i → i ≤ z 10 → lq_g lr' i = if i = z 10 then v else lq_g lr i) ∧ 16 ≤ (lr' 0).1 ∧ (lr' 0).1 ≤ 1600 ∧ z 10 + 1 ≤ ((lr' 0).1 : Int) ∧ hq_rm σ ar lr s ar lr') := by
  show pm_Fv (tq_P L xs) (88, 0, [(0, .ref 196), (1, .long (zL v))], []) σ _
  by_cases q : z 10 = ((lr 0).1 : Int)
  · have ek : z 10 * 2 = ((2 * (lr 0).1 : Nat) : Int) := by omega
    have f0 : ∀ s, s < 209 → ad s ≠ σ.2.1 := fun s hs => Nat.ne_of_lt (H.lt hs)
    refine pm_Fv.go 1 (f' := (88, 1, [(0, _), (1, _)], [_])) rfl ?_
    refine pm_Fv.gf rfl rfl H.m196 H.o196 rfl ?_
    refine pm_Fv.go 1 (f' := (88, 5, [(0, _), (1, _)], [_, _])) rfl ?_
    refine pm_Fv.gf rfl rfl H.m196 H.o196 rfl ?_
    refine pm_Fv.dll H rfl ?_
    refine pm_Fv.jne rfl (by omega) rfl (fun h1 => ?_) (fun h1 => ?_)
    · exact absurd h1 (by omega)
    · refine pm_Fv.go 2 (f' := (88, 14, [(0, _), (1, _)], [_, _])) rfl ?_
      refine pm_Fv.gf rfl rfl H.m196 H.o196 rfl ?_
      refine pm_Fv.go 1 (f' := (88, 18, [(0, _), (1, _)], [_, _, _])) rfl ?_
      refine pm_Fv.gf rfl rfl H.m196 H.o196 rfl ?_
      refine pm_Fv.go 1 (f' := (88, 22, [(0, _), (1, _)], [_, _, _, _])) rfl ?_
      refine pm_Fv.imul rfl ?_
      rw [ek]
      refine pm_Fv.callF rfl rfl rfl rfl rfl (ev_copyOfL L xs H (k := 2 * (lr 0).1) (by omega) (by omega)) (fun s1 q1 => ?_)
      obtain ⟨H1, r1, e1⟩ := q1
      refine pm_Fv.pml H1 rfl rfl rfl rfl (by decide) f0 (by rw [r1]; exact Nat.lt_succ_self _) e1 (fun s2 H2 r2 => ?_)
      refine (ev_kaddT L xs H2 hv s0 (show z 10 < ((2 * (lr 0).1 : Nat) : Int) by omega) (show 16 ≤ 2 * (lr 0).1 by omega) (show 2 * (lr 0).1 ≤ 1600 by omega)).mono (fun o s q => ⟨q.1, ?_⟩)
      obtain ⟨lr', H', l1, c', n'⟩ := q.2.1
      have n2 : (lr' 0).1 = 2 * (lr 0).1 := n'
      refine ⟨_, lr', H', l1.trans rfl, fun i i0 i1 => ?_, by omega, by omega, by omega, ?_⟩
      · rw [c' i i0 i1]
        by_cases e : i = z 10
        · rw [if_pos e, if_pos e]
        · rw [if_neg e, if_neg e]
          show (if i.toNat < (lr 0).1 then (lr 0).2 i.toNat else 0).toInt = _
          rw [if_pos (by omega)]
          rfl
      · have e6 : s.2 = (σ.2.1 + 1, σ.2.2 + 2 * (lr 0).1) := by rw [q.2.2, r2, r1]
        unfold hq_rm hq_po
        rw [e6, n2]
        show σ.2.2 + 2 * (lr 0).1 + _ ≤ _ ∧ 4 * (σ.2.1 + 1) + _ ≤ _
        omega
  · skip
    refine pm_Fv.go 1 (f' := (88, 1, [(0, _), (1, _)], [_])) rfl ?_
    refine pm_Fv.gf rfl rfl H.m196 H.o196 rfl ?_
    refine pm_Fv.go 1 (f' := (88, 5, [(0, _), (1, _)], [_, _])) rfl ?_
    refine pm_Fv.gf rfl rfl H.m196 H.o196 rfl ?_
    refine pm_Fv.dll H rfl ?_
    refine pm_Fv.jne rfl (by omega) rfl (fun h1 => ?_) (fun h1 => ?_)
    · refine (ev_kaddT L xs H hv s0 (by omega) h4 hb).mono (fun o s q => ⟨q.1, ?_⟩)
      obtain ⟨lr', H', l1, c', n'⟩ := q.2.1
      exact ⟨ad, lr', H', l1, c', by omega, by omega, by omega, hq_rm_len q.2.2 (fun _ => rfl) n'⟩
    · exact absurd h1 (by omega)
/-- the same numbers in another order -/
def so_P (m : Int) (G f : Int → Int) : Prop := (∀ i, 0 ≤ i → i < m → ∃ j, 0 ≤ j ∧ j < m ∧ f i = G j) ∧ (∀ j, 0 ≤ j → j < m → ∃ i, 0 ≤ i ∧ i < m ∧ f i = G j) ∧ (∀ i j, 0 ≤ i → i < m → 0 ≤ j → j < m → f i = f j → i = j)
theorem so_P_cg {m : Int} {G f g : Int → Int} (h : so_P m G f) (e : ∀ i, 0 ≤ i → i < m → g i = f i) : so_P m G g := by
  refine ⟨fun i i0 i1 => by rw [e i i0 i1]; exact h.1 i i0 i1, fun j j0 j1 => ?_, fun i j i0 i1 j0 j1 q => h.2.2 i j i0 i1 j0 j1 (by rw [e i i0 i1, e j j0 j1] at q; exact q)⟩
  obtain ⟨i, i0, i1, i2⟩ := h.2.1 j j0 j1
  exact ⟨i, i0, i1, by rw [e i i0 i1]; exact i2⟩
theorem so_P_sw {m a b v : Int} {G X : Int → Int} (a0 : 0 ≤ a) (am : a < m) (b0 : 0 ≤ b) (bm : b < m) (ab : a ≠ b) (h : so_P m G (iu X a v)) : so_P m G (iu (iu X a (X b)) b v) := by
  have key : ∀ i, iu (iu X a (X b)) b v i = iu X a v (if i = a then b else if i = b then a else i) := by
    intro i
    unfold iu
    by_cases x : i = b
    · rw [if_pos x, if_neg (show ¬ i = a by omega), if_pos x, if_pos rfl]
    · rw [if_neg x]
      by_cases y : i = a
      · rw [if_pos y, if_pos y, if_neg (show ¬ b = a by omega)]
      · rw [if_neg y, if_neg y, if_neg x, if_neg y]
  have rg : ∀ i, 0 ≤ i → i < m → 0 ≤ (if i = a then b else if i = b then a else i) ∧ (if i = a then b else if i = b then a else i) < m := by
    intro i i0 i1
    split
    · omega
    · split <;> omega
  refine ⟨fun i i0 i1 => by rw [key]; exact h.1 _ (rg i i0 i1).1 (rg i i0 i1).2, fun j j0 j1 => ?_, fun i j i0 i1 j0 j1 q => ?_⟩
  · obtain ⟨i, i0, i1, i2⟩ := h.2.1 j j0 j1
    refine ⟨if i = a then b else if i = b then a else i, (rg i i0 i1).1, (rg i i0 i1).2, ?_⟩
    rw [key, ← i2]
    refine congrArg _ ?_
    by_cases y : i = a
    · rw [if_pos y, if_neg (by omega), if_pos rfl, y]
    · rw [if_neg y]
      by_cases x : i = b
      · rw [if_pos x, if_pos rfl, x]
      · rw [if_neg x, if_neg y, if_neg x]
  · rw [key, key] at q
    have := h.2.2 _ _ (rg i i0 i1).1 (rg i i0 i1).2 (rg j j0 j1).1 (rg j j0 j1).2 q
    omega
theorem ev_sinkL {i g m v : Int} {G : Int → Int} (hv : -9223372036854775808 ≤ v ∧ v ≤ 9223372036854775807) (g0 : 0 < g) (i0 : 0 ≤ i) (im : i < m) (ml : m ≤ ((lr 0).1 : Int)) (m8 : (lr 0).1 ≤ 1600) (g8 : g ≤ 2000) : ∀ (k : Nat) (q : Int) (X : Int → Int) (lr1 : Nat → Nat × (Nat → Int64)) (σ : pm_S), q ≤ k → 0 ≤ q → q ≤ i → Hp σ ad z ar lr1 → lr1 1 = lr 1 → (lr1 0).1 = (lr 0).1 → (∀ a, 0 ≤ a → a < m → lq_g lr1 a = X a) → so_P m G (iu X q v) → (g = 1 → (∀ a, 0 ≤ a → a < m → X a = so_sh (lq_g lr) q i a) ∧ (∀ a, q ≤ a → a < i → v < lq_g lr a)) → pm_Fv (tq_P L xs) (91, 10, [(5, .int (zI q)), (3, .long (zL v)), (0, .ref 196), (1, .int (zI i)), (2, .int (zI g))], []) σ (fun o s => o = .inl none ∧ (∃ lr' p, Hp s ad z ar lr' ∧ lr' 1 = lr 1 ∧ (lr' 0).1 = (lr 0).1 ∧ so_P m G (lq_g lr') ∧ 0 ≤ p ∧ p ≤ i ∧ (g = 1 → (∀ a, 0 ≤ a → a < m → lq_g lr' a = so_in (lq_g lr) p i v a) ∧ (∀ a, p ≤ a → a < i → v < lq_g lr a) ∧ (p = 0 ∨ lq_g lr (p - 1) ≤ v))) ∧ s.2 = σ.2) := by
  intro k
  have fin : ∀ (q : Int) (X : Int → Int) (lr1 : Nat → Nat × (Nat → Int64)) (σ : pm_S), 0 ≤ q → q ≤ i → Hp σ ad z ar lr1 → lr1 1 = lr 1 → (lr1 0).1 = (lr 0).1 → (∀ a, 0 ≤ a → a < m → lq_g lr1 a = X a) → so_P m G (iu X q v) → (g = 1 → (∀ a, 0 ≤ a → a < m → X a = so_sh (lq_g lr) q i a) ∧ (∀ a, q ≤ a → a < i → v < lq_g lr a)) → (g = 1 → q = 0 ∨ lq_g lr (q - 1) ≤ v) → pm_Fv (tq_P L xs) (91, 55, [(5, .int (zI q)), (3, .long (zL v)), (0, .ref 196), (1, .int (zI i)), (2, .int (zI g))], []) σ (fun o s => o = .inl none ∧ (∃ lr' p, Hp s ad z ar lr' ∧ lr' 1 = lr 1 ∧ (lr' 0).1 = (lr 0).1 ∧ so_P m G (lq_g lr') ∧ 0 ≤ p ∧ p ≤ i ∧ (g = 1 → (∀ a, 0 ≤ a → a < m → lq_g lr' a = so_in (lq_g lr) p i v a) ∧ (∀ a, p ≤ a → a < i → v < lq_g lr a) ∧ (p = 0 ∨ lq_g lr (p - 1) ≤ v))) ∧ s.2 = σ.2) := by
    intro q X lr1 σ q0 qi H l1 ln hX P hg hq
    refine pm_Fv.go 1 (f' := (91, 56, [(5, _), (3, _), (0, _), (1, _), (2, _)], [_])) rfl ?_
    refine pm_Fv.gf rfl rfl H.m196 H.o196 rfl ?_
    refine pm_Fv.go 2 (f' := (91, 62, [(5, _), (3, _), (0, _), (1, _), (2, _)], [_, _, _])) rfl ?_
    refine pm_Fv.dls H rfl (by omega) (fun s1 H1 r1 => ?_)
    refine pm_Fv.ret rfl rfl rfl rfl ⟨rfl, ⟨_, q, H1, l1, ln, so_P_cg P (fun a a0 a1 => ?_), q0, qi, fun g1 => ⟨fun a a0 a1 => ?_, (hg g1).2, hq g1⟩⟩, r1⟩
    · rw [lq_w_g q0 a0 hv, hX a a0 a1]
      rfl
    · rw [lq_w_g q0 a0 hv, hX a a0 a1, (hg g1).1 a a0 a1]
      rfl
  induction k with
  | zero =>
    intro q X lr1 σ qk q0 qi H l1 ln hX P hg
    refine pm_Fv.go 2 (f' := (91, 13, [(5, _), (3, _), (0, _), (1, _), (2, _)], [_, _])) rfl ?_
    refine pm_Fv.jlt rfl (by omega) rfl (fun h1 => ?_) (fun h1 => ?_)
    · exact fin q X lr1 σ q0 qi H l1 ln hX P hg (fun _ => Or.inl (by omega))
    · exact absurd h1 (by omega)
  | succ k ih =>
    intro q X lr1 σ qk q0 qi H l1 ln hX P hg
    by_cases c : q < g
    · skip
      refine pm_Fv.go 2 (f' := (91, 13, [(5, _), (3, _), (0, _), (1, _), (2, _)], [_, _])) rfl ?_
      refine pm_Fv.jlt rfl (by omega) rfl (fun h1 => ?_) (fun h1 => ?_)
      · exact fin q X lr1 σ q0 qi H l1 ln hX P hg (fun g1 => Or.inl (by omega))
      · exact absurd h1 (by omega)
    · have xr := lq_g_r lr1 (q - g)
      have xx := hX (q - g) (by omega) (by omega)
      by_cases d : v < lq_g lr1 (q - g)
      · skip
        refine pm_Fv.go 2 (f' := (91, 13, [(5, _), (3, _), (0, _), (1, _), (2, _)], [_, _])) rfl ?_
        refine pm_Fv.jlt rfl (by omega) rfl (fun h1 => ?_) (fun h1 => ?_)
        · exact absurd h1 (by omega)
        · refine pm_Fv.go 1 (f' := (91, 17, [(5, _), (3, _), (0, _), (1, _), (2, _)], [_])) rfl ?_
          refine pm_Fv.gf rfl rfl H.m196 H.o196 rfl ?_
          refine pm_Fv.go 2 (f' := (91, 23, [(5, _), (3, _), (0, _), (1, _), (2, _)], [_, _, _])) rfl ?_
          refine pm_Fv.isub rfl ?_
          refine pm_Fv.dla H rfl (by omega) ?_
          refine pm_Fv.go 1 (f' := (91, 26, [(5, _), (3, _), (0, _), (1, _), (2, _)], [_, _])) rfl ?_
          refine pm_Fv.lcmp rfl (by omega) ?_
          refine pm_Fv.zle rfl (by omega) rfl (fun h2 => ?_) (fun h2 => ?_)
          · exact absurd h2 (by omega)
          · refine pm_Fv.go 1 (f' := (91, 31, [(5, _), (3, _), (0, _), (1, _), (2, _)], [_])) rfl ?_
            refine pm_Fv.gf rfl rfl H.m196 H.o196 rfl ?_
            refine pm_Fv.go 2 (f' := (91, 37, [(5, _), (3, _), (0, _), (1, _), (2, _)], [_, _, _])) rfl ?_
            refine pm_Fv.gf rfl rfl H.m196 H.o196 rfl ?_
            refine pm_Fv.go 2 (f' := (91, 43, [(5, _), (3, _), (0, _), (1, _), (2, _)], [_, _, _, _, _])) rfl ?_
            refine pm_Fv.isub rfl ?_
            refine pm_Fv.dla H rfl (by omega) ?_
            refine pm_Fv.dls H rfl (by omega) (fun s1 H1 r1 => ?_)
            refine pm_Fv.go 2 (f' := (91, 49, [(5, _), (3, _), (0, _), (1, _), (2, _)], [_, _])) rfl ?_
            refine pm_Fv.isub rfl ?_
            refine pm_Fv.go 2 (f' := (91, 10, [(5, _), (3, _), (0, _), (1, _), (2, _)], [])) rfl ?_
            refine pm_Fv.weak ((ih (q - g) (iu X q (X (q - g))) _ s1 (by omega) (by omega) (by omega) H1 l1 ln (fun a a0 a1 => ?_) (so_P_sw q0 (by omega) (by omega) (by omega) (by omega) P) (fun g1 => ⟨fun a a0 a1 => ?_, fun a a0 a1 => ?_⟩)).mono (fun o s q => ⟨q.1, q.2.1, q.2.2.trans r1⟩)) rfl
            · rw [lq_w_g q0 a0 xr, hX a a0 a1, xx]
              rfl
            · rw [g1, ← so_sh_s (lq_g lr) qi]
              unfold iu
              by_cases x : a = q
              · rw [if_pos x, if_pos x, (hg g1).1 _ (by omega) (by omega)]
              · rw [if_neg x, if_neg x, (hg g1).1 a a0 a1]
            · by_cases x : q ≤ a
              · exact (hg g1).2 a x a1
              · have e1 := (hg g1).1 (q - 1) (by omega) (by omega)
                have e2 : so_sh (lq_g lr) q i (q - 1) = lq_g lr (q - 1) := if_neg (by omega)
                rw [show a = q - 1 by omega]
                rw [g1] at xx d
                omega
      · skip
        refine pm_Fv.go 2 (f' := (91, 13, [(5, _), (3, _), (0, _), (1, _), (2, _)], [_, _])) rfl ?_
        refine pm_Fv.jlt rfl (by omega) rfl (fun h1 => ?_) (fun h1 => ?_)
        · exact absurd h1 (by omega)
        · refine pm_Fv.go 1 (f' := (91, 17, [(5, _), (3, _), (0, _), (1, _), (2, _)], [_])) rfl ?_
          refine pm_Fv.gf rfl rfl H.m196 H.o196 rfl ?_
          refine pm_Fv.go 2 (f' := (91, 23, [(5, _), (3, _), (0, _), (1, _), (2, _)], [_, _, _])) rfl ?_
          refine pm_Fv.isub rfl ?_
          refine pm_Fv.dla H rfl (by omega) ?_
          refine pm_Fv.go 1 (f' := (91, 26, [(5, _), (3, _), (0, _), (1, _), (2, _)], [_, _])) rfl ?_
          refine pm_Fv.lcmp rfl (by omega) ?_
          refine pm_Fv.zle rfl (by omega) rfl (fun h2 => ?_) (fun h2 => ?_)
          · refine fin q X lr1 σ q0 qi H l1 ln hX P hg (fun g1 => Or.inr ?_)
            have e1 := (hg g1).1 (q - 1) (by omega) (by omega)
            have e2 : so_sh (lq_g lr) q i (q - 1) = lq_g lr (q - 1) := if_neg (by omega)
            rw [g1] at xx d
            omega
          · exact absurd h2 (by omega)
theorem ev_sink (H : Hp σ ad z ar lr) {i g m : Int} {G : Int → Int} (g0 : 0 < g) (i0 : 0 ≤ i) (im : i < m) (ml : m ≤ ((lr 0).1 : Int)) (m8 : (lr 0).1 ≤ 1600) (g8 : g ≤ 2000) (P : so_P m G (lq_g lr)) : pm_Fv (tq_P L xs) (pm_enter 91 [.ref 196, .int (zI i), .int (zI g)]) σ (fun o s => o = .inl none ∧ (∃ lr' p, Hp s ad z ar lr' ∧ lr' 1 = lr 1 ∧ (lr' 0).1 = (lr 0).1 ∧ so_P m G (lq_g lr') ∧ 0 ≤ p ∧ p ≤ i ∧ (g = 1 → (∀ a, 0 ≤ a → a < m → lq_g lr' a = so_in (lq_g lr) p i (lq_g lr i) a) ∧ (∀ a, p ≤ a → a < i → lq_g lr i < lq_g lr a) ∧ (p = 0 ∨ lq_g lr (p - 1) ≤ lq_g lr i))) ∧ s.2 = σ.2) := by
  show pm_Fv (tq_P L xs) (91, 0, [(0, .ref 196), (1, .int (zI i)), (2, .int (zI g))], []) σ _
  refine pm_Fv.go 1 (f' := (91, 1, [(0, _), (1, _), (2, _)], [_])) rfl ?_
  refine pm_Fv.gf rfl rfl H.m196 H.o196 rfl ?_
  refine pm_Fv.go 1 (f' := (91, 5, [(0, _), (1, _), (2, _)], [_, _])) rfl ?_
  refine pm_Fv.dla H rfl (by omega) ?_
  refine pm_Fv.go 3 (f' := (91, 10, [(5, _), (3, _), (0, _), (1, _), (2, _)], [])) rfl ?_
  refine ev_sinkL (lr := lr) L xs (lq_g_r lr i) g0 i0 im ml m8 g8 i.toNat i (lq_g lr) lr σ (by omega) i0 (by omega) H rfl rfl (fun _ _ _ => rfl) (so_P_cg P (fun a a0 a1 => ?_)) (fun _ => ⟨fun a a0 a1 => by rw [so_sh_c], fun a a0 a1 => absurd a1 (by omega)⟩)
  unfold iu
  by_cases x : a = i
  · rw [if_pos x, x]
  · rw [if_neg x]
end MS
