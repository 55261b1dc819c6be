/-! the desk: what is refused -/
section LW
variable {P : pm_P} {mi pc : Nat} {lv : pm_L} {st : List Value} {σ : pm_S} {res : pm_O × pm_S} {Q : pm_O → pm_S → Prop}
theorem pm_Ev.ccw {ix : Nat} (z : Int) {v : Int32} (hc : pm_cod P mi pc = some (.ldc_w ix, 3)) (h1 : pm_cst P mi ix = some (.int v)) (h : v = zI z) (k : pm_Ev P (mi, pc + 3, lv, .int (zI z) :: st) σ res) : pm_Ev P (mi, pc, lv, st) σ res := by
  refine pm_Ev.in hc rfl ?_ k
  unfold pm_in
  simp only [pm_i1, h1, h, pm_wp]
theorem pm_Fv.ccw {ix : Nat} (z : Int) {v : Int32} (hc : pm_cod P mi pc = some (.ldc_w ix, 3)) (h1 : pm_cst P mi ix = some (.int v)) (h : v = zI z) (k : pm_Fv P (mi, pc + 3, lv, .int (zI z) :: st) σ Q) : pm_Fv P (mi, pc, lv, st) σ Q := by
  obtain ⟨o, s, e, q⟩ := k
  exact ⟨o, s, pm_Ev.ccw z hc h1 h e, q⟩
end LW
section MS
variable (L : Nat) (xs : Nat → Int32)
variable {σ : pm_S} {ad : Nat → Nat} {z : Nat → Int} {ar : Nat → Nat × (Nat → Int32)} {lr : Nat → Nat × (Nat → Int64)}
theorem ev_ckS1 : pm_Ev (tq_P L xs) (pm_enter 34 [.int (zI 1)]) σ (.inl none, σ) := by
  show pm_Ev (tq_P L xs) (34, 0, [(0, .int (zI 1))], []) σ _
  refine pm_Ev.go 1 (f' := (34, 1, [(0, _)], [_])) rfl ?_
  refine pm_Ev.zne rfl (by omega) rfl (fun h1 => ?_) (fun h1 => ?_)
  · exact pm_Ev.ret rfl rfl rfl rfl
  · exact absurd h1 (by omega)
theorem ev_ckS0 : pm_Ev (tq_P L xs) (pm_enter 34 [.int (zI 0)]) σ (.inr σ.2.1, pm_add σ (.inr (8, [])) 6) := by
  show pm_Ev (tq_P L xs) (34, 0, [(0, .int (zI 0))], []) σ _
  refine pm_Ev.go 1 (f' := (34, 1, [(0, _)], [_])) rfl ?_
  refine pm_Ev.zne rfl (by omega) rfl (fun h1 => ?_) (fun h1 => ?_)
  · exact absurd h1 (by omega)
  · exact pm_Ev.ret rfl rfl rfl rfl
theorem ev_ckN1 : pm_Ev (tq_P L xs) (pm_enter 35 [.int (zI 1)]) σ (.inl none, σ) := by
  show pm_Ev (tq_P L xs) (35, 0, [(0, .int (zI 1))], []) σ _
  refine pm_Ev.go 1 (f' := (35, 1, [(0, _)], [_])) rfl ?_
  refine pm_Ev.zne rfl (by omega) rfl (fun h1 => ?_) (fun h1 => ?_)
  · exact pm_Ev.ret rfl rfl rfl rfl
  · exact absurd h1 (by omega)
theorem ev_ckN0 : pm_Ev (tq_P L xs) (pm_enter 35 [.int (zI 0)]) σ (.inr σ.2.1, pm_add σ (.inr (7, [])) 6) := by
  show pm_Ev (tq_P L xs) (35, 0, [(0, .int (zI 0))], []) σ _
  refine pm_Ev.go 1 (f' := (35, 1, [(0, _)], [_])) rfl ?_
  refine pm_Ev.zne rfl (by omega) rfl (fun h1 => ?_) (fun h1 => ?_)
  · exact absurd h1 (by omega)
  · exact pm_Ev.ret rfl rfl rfl rfl
theorem ev_ckL1 : pm_Ev (tq_P L xs) (pm_enter 36 [.int (zI 1)]) σ (.inl none, σ) := by
  show pm_Ev (tq_P L xs) (36, 0, [(0, .int (zI 1))], []) σ _
  refine pm_Ev.go 1 (f' := (36, 1, [(0, _)], [_])) rfl ?_
  refine pm_Ev.zne rfl (by omega) rfl (fun h1 => ?_) (fun h1 => ?_)
  · exact pm_Ev.ret rfl rfl rfl rfl
  · exact absurd h1 (by omega)
theorem ev_ckL0 : pm_Ev (tq_P L xs) (pm_enter 36 [.int (zI 0)]) σ (.inr σ.2.1, pm_add σ (.inr (10, [])) 6) := by
  show pm_Ev (tq_P L xs) (36, 0, [(0, .int (zI 0))], []) σ _
  refine pm_Ev.go 1 (f' := (36, 1, [(0, _)], [_])) rfl ?_
  refine pm_Ev.zne rfl (by omega) rfl (fun h1 => ?_) (fun h1 => ?_)
  · exact absurd h1 (by omega)
  · exact pm_Ev.ret rfl rfl rfl rfl
theorem ev_in1 {v lo hi : Int} (h : (-2147483648 ≤ v ∧ v ≤ 2147483647) ∧ (-2147483648 ≤ lo ∧ lo ≤ 2147483647) ∧ (-2147483648 ≤ hi ∧ hi ≤ 2147483647)) (c : lo ≤ v ∧ v ≤ hi) : pm_Ev (tq_P L xs) (pm_enter 37 [.int (zI v), .int (zI lo), .int (zI hi)]) σ (.inl (some (.int (zI 1))), σ) := by
  show pm_Ev (tq_P L xs) (37, 0, [(0, .int (zI v)), (1, .int (zI lo)), (2, .int (zI hi))], []) σ _
  refine pm_Ev.go 2 (f' := (37, 2, [(0, _), (1, _), (2, _)], [_, _])) rfl ?_
  refine pm_Ev.jlt rfl (by omega) rfl (fun h1 => ?_) (fun h1 => ?_)
  · exact absurd h1 (by omega)
  · refine pm_Ev.go 2 (f' := (37, 7, [(0, _), (1, _), (2, _)], [_, _])) rfl ?_
    refine pm_Ev.jgt rfl (by omega) rfl (fun h2 => ?_) (fun h2 => ?_)
    · exact absurd h2 (by omega)
    · refine pm_Ev.go 2 (f' := (37, 15, [(0, _), (1, _), (2, _)], [_])) rfl ?_
      exact pm_Ev.rb rfl rfl rfl (by decide)
theorem ev_in0 {v lo hi : Int} (h : (-2147483648 ≤ v ∧ v ≤ 2147483647) ∧ (-2147483648 ≤ lo ∧ lo ≤ 2147483647) ∧ (-2147483648 ≤ hi ∧ hi ≤ 2147483647)) (c : ¬ (lo ≤ v ∧ v ≤ hi)) : pm_Ev (tq_P L xs) (pm_enter 37 [.int (zI v), .int (zI lo), .int (zI hi)]) σ (.inl (some (.int (zI 0))), σ) := by
  show pm_Ev (tq_P L xs) (37, 0, [(0, .int (zI v)), (1, .int (zI lo)), (2, .int (zI hi))], []) σ _
  refine pm_Ev.go 2 (f' := (37, 2, [(0, _), (1, _), (2, _)], [_, _])) rfl ?_
  refine pm_Ev.jlt rfl (by omega) rfl (fun h1 => ?_) (fun h1 => ?_)
  · refine pm_Ev.go 1 (f' := (37, 15, [(0, _), (1, _), (2, _)], [_])) rfl ?_
    exact pm_Ev.rb rfl rfl rfl (by decide)
  · refine pm_Ev.go 2 (f' := (37, 7, [(0, _), (1, _), (2, _)], [_, _])) rfl ?_
    refine pm_Ev.jgt rfl (by omega) rfl (fun h2 => ?_) (fun h2 => ?_)
    · refine pm_Ev.go 1 (f' := (37, 15, [(0, _), (1, _), (2, _)], [_])) rfl ?_
      exact pm_Ev.rb rfl rfl rfl (by decide)
    · exact absurd h2 (by omega)
theorem ev_day1 {v : Int} (h : -2147483648 ≤ v ∧ v ≤ 2147483647) (c : 0 ≤ v ∧ v ≤ 3652058) : pm_Ev (tq_P L xs) (pm_enter 38 [.int (zI v)]) σ (.inl (some (.int (zI 1))), σ) := by
  show pm_Ev (tq_P L xs) (38, 0, [(0, .int (zI v))], []) σ _
  refine pm_Ev.go 2 (f' := (38, 2, [(0, _)], [_, _])) rfl ?_
  refine pm_Ev.ccw (3652058) rfl rfl rfl ?_
  refine pm_Ev.call rfl rfl rfl rfl rfl (ev_in1 L xs (by omega) c) ?_
  exact pm_Ev.rb rfl rfl rfl (by decide)
theorem ev_day0 {v : Int} (h : -2147483648 ≤ v ∧ v ≤ 2147483647) (c : ¬ (0 ≤ v ∧ v ≤ 3652058)) : pm_Ev (tq_P L xs) (pm_enter 38 [.int (zI v)]) σ (.inl (some (.int (zI 0))), σ) := by
  show pm_Ev (tq_P L xs) (38, 0, [(0, .int (zI v))], []) σ _
  refine pm_Ev.go 2 (f' := (38, 2, [(0, _)], [_, _])) rfl ?_
  refine pm_Ev.ccw (3652058) rfl rfl rfl ?_
  refine pm_Ev.call rfl rfl rfl rfl rfl (ev_in0 L xs (by omega) c) ?_
  exact pm_Ev.rb rfl rfl rfl (by decide)
theorem ev_isW {v lo hi : Int} (h : (-2147483648 ≤ v ∧ v ≤ 2147483647) ∧ (-2147483648 ≤ lo ∧ lo ≤ 2147483647) ∧ (-2147483648 ≤ hi ∧ hi ≤ 2147483647)) : pm_Ev (tq_P L xs) (pm_enter 37 [.int (zI v), .int (zI lo), .int (zI hi)]) σ (.inl (some (.int (zI (if lo ≤ v ∧ v ≤ hi then 1 else 0)))), σ) := by
  by_cases c : lo ≤ v ∧ v ≤ hi
  · rw [if_pos c]
    exact ev_in1 L xs h c
  · rw [if_neg c]
    exact ev_in0 L xs h c
theorem ev_isRep {k u c : Int} (hk : -2147483648 ≤ k ∧ k ≤ 2147483647) (hu : -2147483648 ≤ u ∧ u ≤ 2147483647) (hc : -2147483648 ≤ c ∧ c ≤ 2147483647) : pm_Ev (tq_P L xs) (pm_enter 161 [.int (zI k), .int (zI u), .int (zI c)]) σ (.inl (some (.int (zI (if k = 0 ∨ (1 ≤ k ∧ k ≤ 3) ∧ (0 ≤ u ∧ u ≤ 3) ∧ (1 ≤ c ∧ c ≤ 99) then 1 else 0)))), σ) := by
  show pm_Ev (tq_P L xs) (161, 0, [(0, .int (zI k)), (1, .int (zI u)), (2, .int (zI c))], []) σ _
  refine pm_Ev.go 1 (f' := (161, 1, [(0, _), (1, _), (2, _)], [_])) rfl ?_
  refine pm_Ev.zeq rfl (by omega) rfl (fun h1 => ?_) (fun h1 => ?_)
  · refine pm_Ev.go 2 (f' := (161, 37, [(0, _), (1, _), (2, _)], [_])) rfl ?_
    exact pm_Ev.rb rfl rfl (by first | (rw [if_pos (by omega)]; done) | (rw [if_neg (by omega)]; done)) (by decide)
  · refine pm_Ev.go 3 (f' := (161, 7, [(0, _), (1, _), (2, _)], [_, _, _])) rfl ?_
    refine pm_Ev.call rfl rfl rfl rfl rfl (ev_isW L xs (by omega)) ?_
    refine pm_Ev.zeq rfl (by omega) rfl (fun h2 => ?_) (fun h2 => ?_)
    · refine pm_Ev.go 1 (f' := (161, 37, [(0, _), (1, _), (2, _)], [_])) rfl ?_
      exact pm_Ev.rb rfl rfl (by first | (rw [if_pos (by omega)]; done) | (rw [if_neg (by omega)]; done)) (by decide)
    · refine pm_Ev.go 3 (f' := (161, 16, [(0, _), (1, _), (2, _)], [_, _, _])) rfl ?_
      refine pm_Ev.call rfl rfl rfl rfl rfl (ev_isW L xs (by omega)) ?_
      refine pm_Ev.zeq rfl (by omega) rfl (fun h3 => ?_) (fun h3 => ?_)
      · refine pm_Ev.go 1 (f' := (161, 37, [(0, _), (1, _), (2, _)], [_])) rfl ?_
        exact pm_Ev.rb rfl rfl (by first | (rw [if_pos (by omega)]; done) | (rw [if_neg (by omega)]; done)) (by decide)
      · refine pm_Ev.go 2 (f' := (161, 24, [(0, _), (1, _), (2, _)], [_, _])) rfl ?_
        refine pm_Ev.bp rfl rfl ?_
        refine pm_Ev.call rfl rfl rfl rfl rfl (ev_isW L xs (by omega)) ?_
        refine pm_Ev.zeq rfl (by omega) rfl (fun h4 => ?_) (fun h4 => ?_)
        · refine pm_Ev.go 1 (f' := (161, 37, [(0, _), (1, _), (2, _)], [_])) rfl ?_
          exact pm_Ev.rb rfl rfl (by first | (rw [if_pos (by omega)]; done) | (rw [if_neg (by omega)]; done)) (by decide)
        · refine pm_Ev.go 2 (f' := (161, 37, [(0, _), (1, _), (2, _)], [_])) rfl ?_
          exact pm_Ev.rb rfl rfl (by first | (rw [if_pos (by omega)]; done) | (rw [if_neg (by omega)]; done)) (by decide)
theorem ev_repeat {k u c : Int} (hk : -2147483648 ≤ k ∧ k ≤ 2147483647) : pm_Ev (tq_P L xs) (pm_enter 162 [.int (zI k), .int (zI u), .int (zI c)]) σ (.inl (some (.int (zI (if k = 0 then 0 else k + 10 * u + 100 * c)))), σ) := by
  show pm_Ev (tq_P L xs) (162, 0, [(0, .int (zI k)), (1, .int (zI u)), (2, .int (zI c))], []) σ _
  by_cases k0 : k = 0
  · rw [if_pos k0]
    refine pm_Ev.go 1 (f' := (162, 1, [(0, _), (1, _), (2, _)], [_])) rfl ?_
    refine pm_Ev.zne rfl (by omega) rfl (fun h1 => ?_) (fun h1 => ?_)
    · exact absurd h1 (by omega)
    · refine pm_Ev.go 2 (f' := (162, 19, [(0, _), (1, _), (2, _)], [_])) rfl ?_
      exact pm_Ev.rv rfl rfl rfl
  · rw [if_neg k0]
    refine pm_Ev.go 1 (f' := (162, 1, [(0, _), (1, _), (2, _)], [_])) rfl ?_
    refine pm_Ev.zne rfl (by omega) rfl (fun h1 => ?_) (fun h1 => ?_)
    · refine pm_Ev.go 1 (f' := (162, 9, [(0, _), (1, _), (2, _)], [_])) rfl ?_
      refine pm_Ev.bp rfl rfl ?_
      refine pm_Ev.go 1 (f' := (162, 12, [(0, _), (1, _), (2, _)], [_, _, _])) rfl ?_
      refine pm_Ev.imul rfl ?_
      refine pm_Ev.iadd rfl ?_
      refine pm_Ev.bp rfl rfl ?_
      refine pm_Ev.go 1 (f' := (162, 17, [(0, _), (1, _), (2, _)], [_, _, _])) rfl ?_
      refine pm_Ev.imul rfl ?_
      refine pm_Ev.iadd rfl ?_
      exact pm_Ev.rv rfl rfl rfl
    · exact absurd h1 (by omega)
theorem ev_pos (H : Hp σ ad z ar lr) (hl : od_L z ar) (N : od_N (hq_g ar 190) (z 8)) {b : Int} (b0 : 0 ≤ b) (b1 : b < (hq_g ar 190 0)) : pm_Ev (tq_P L xs) (pm_enter 32 [.ref 0, .int (zI ((oI (hq_g ar 190)) b))]) σ (.inl (some (.int (zI (b)))), σ) := by
  show pm_Ev (tq_P L xs) (32, 0, [(0, .ref 0), (1, .int (zI ((oI (hq_g ar 190)) b)))], []) σ _
  have nm := N.nm
  have m4 := N.m4
  have i0 := N.J.1 b b0 b1
  have i1 := N.lt b b0 b1
  refine pm_Ev.go 1 (f' := (32, 1, [(0, _), (1, _)], [_])) rfl ?_
  refine pm_Ev.gf rfl rfl H.m0 H.o0 rfl ?_
  refine pm_Ev.go 1 (f' := (32, 5, [(0, _), (1, _)], [_, _])) rfl ?_
  refine pm_Ev.cv rfl rfl rfl rfl (by decide) (Nat.le_of_ble_eq_true rfl) (Nat.le_of_ble_eq_true rfl) H.m188 H.o188 (ev_find L xs H hl N (by omega) (Or.inl ⟨b0, b1, rfl⟩)) ?_
  refine pm_Ev.go 2 (f' := (32, 10, [(2, _), (0, _), (1, _)], [_])) rfl ?_
  refine pm_Ev.bp rfl rfl ?_
  refine pm_Ev.jne rfl (by omega) rfl (fun h1 => ?_) (fun h1 => ?_)
  · refine pm_Ev.go 1 (f' := (32, 24, [(2, _), (0, _), (1, _)], [_])) rfl ?_
    exact pm_Ev.rv rfl rfl rfl
  · exact absurd h1 (by omega)
theorem ev_posT (H : Hp σ ad z ar lr) (hl : od_L z ar) (N : od_N (hq_g ar 190) (z 8)) {p : Int} (hp : -2147483648 ≤ p ∧ p ≤ 2147483647) (n2 : ∀ x, 0 ≤ x → x < (hq_g ar 190 0) → (oI (hq_g ar 190)) x ≠ p) : pm_Ev (tq_P L xs) (pm_enter 32 [.ref 0, .int (zI p)]) σ (.inr σ.2.1, pm_add σ (.inr (9, [])) 6) := by
  show pm_Ev (tq_P L xs) (32, 0, [(0, .ref 0), (1, .int (zI p))], []) σ _
  refine pm_Ev.go 1 (f' := (32, 1, [(0, _), (1, _)], [_])) rfl ?_
  refine pm_Ev.gf rfl rfl H.m0 H.o0 rfl ?_
  refine pm_Ev.go 1 (f' := (32, 5, [(0, _), (1, _)], [_, _])) rfl ?_
  refine pm_Ev.cv rfl rfl rfl rfl (by decide) (Nat.le_of_ble_eq_true rfl) (Nat.le_of_ble_eq_true rfl) H.m188 H.o188 (ev_find L xs H hl N hp (Or.inr ⟨rfl, n2⟩)) ?_
  refine pm_Ev.go 2 (f' := (32, 10, [(2, _), (0, _), (1, _)], [_])) rfl ?_
  refine pm_Ev.bp rfl rfl ?_
  refine pm_Ev.jne rfl (by omega) rfl (fun h1 => ?_) (fun h1 => ?_)
  · exact absurd h1 (by omega)
  · exact pm_Ev.ret rfl rfl rfl rfl
theorem ev_por (H : Hp σ ad z ar lr) (hl : od_L z ar) (N : od_N (hq_g ar 190) (z 8)) {r : Int} (u0 : -1 ≤ r) (u1 : r < (hq_g ar 190 0) ∨ r = -1) : pm_Ev (tq_P L xs) (pm_enter 33 [.ref 0, .int (zI (fo_id (oI (hq_g ar 190)) r))]) σ (.inl (some (.int (zI (r)))), σ) := by
  show pm_Ev (tq_P L xs) (33, 0, [(0, .ref 0), (1, .int (zI (fo_id (oI (hq_g ar 190)) r)))], []) σ _
  have nm := N.nm
  have m4 := N.m4
  by_cases c : r = -1
  · have e : fo_id (oI (hq_g ar 190)) r = -1 := if_pos c
    refine pm_Ev.go 2 (f' := (33, 2, [(0, _), (1, _)], [_, _])) rfl ?_
    refine pm_Ev.jne rfl (by omega) rfl (fun h1 => ?_) (fun h1 => ?_)
    · exact absurd h1 (by omega)
    · refine pm_Ev.go 2 (f' := (33, 14, [(0, _), (1, _)], [_])) rfl ?_
      exact pm_Ev.rv rfl rfl c.symm
  · have e : fo_id (oI (hq_g ar 190)) r = (oI (hq_g ar 190)) r := if_neg c
    have i0 := N.J.1 r (by omega) (by omega)
    have i1 := N.lt r (by omega) (by omega)
    rw [e]
    refine pm_Ev.go 2 (f' := (33, 2, [(0, _), (1, _)], [_, _])) rfl ?_
    refine pm_Ev.jne rfl (by omega) rfl (fun h1 => ?_) (fun h1 => ?_)
    · refine pm_Ev.go 2 (f' := (33, 11, [(0, _), (1, _)], [_, _])) rfl ?_
      refine pm_Ev.cv rfl rfl rfl rfl (by decide) (Nat.le_of_ble_eq_true rfl) (Nat.le_of_ble_eq_true rfl) H.m0 H.o0 (ev_pos L xs H hl N (by omega) (by omega)) ?_
      exact pm_Ev.rv rfl rfl rfl
    · exact absurd h1 (by omega)
theorem ev_porT (H : Hp σ ad z ar lr) (hl : od_L z ar) (N : od_N (hq_g ar 190) (z 8)) {p : Int} (hp : -2147483648 ≤ p ∧ p ≤ 2147483647) (n1 : p ≠ -1) (n2 : ∀ x, 0 ≤ x → x < (hq_g ar 190 0) → (oI (hq_g ar 190)) x ≠ p) : pm_Ev (tq_P L xs) (pm_enter 33 [.ref 0, .int (zI p)]) σ (.inr σ.2.1, pm_add σ (.inr (9, [])) 6) := by
  show pm_Ev (tq_P L xs) (33, 0, [(0, .ref 0), (1, .int (zI p))], []) σ _
  refine pm_Ev.go 2 (f' := (33, 2, [(0, _), (1, _)], [_, _])) rfl ?_
  refine pm_Ev.jne rfl (by omega) rfl (fun h1 => ?_) (fun h1 => ?_)
  · refine pm_Ev.go 2 (f' := (33, 11, [(0, _), (1, _)], [_, _])) rfl ?_
    exact pm_Ev.cvT rfl rfl rfl rfl (by decide) (Nat.le_of_ble_eq_true rfl) (Nat.le_of_ble_eq_true rfl) H.m0 H.o0 (ev_posT L xs H hl N hp n2) rfl
  · exact absurd h1 (by omega)
theorem ev_dinsert1 (H : Hp σ ad z ar lr) (hl : od_L z ar) (N : od_N (hq_g ar 190) (z 8)) {p k t : Int} (hp : -2147483648 ≤ p ∧ p ≤ 2147483647) (n1 : p ≠ -1) (n2 : ∀ x, 0 ≤ x → x < (hq_g ar 190 0) → (oI (hq_g ar 190)) x ≠ p) : pm_Ev (tq_P L xs) (pm_enter 3 [.ref 0, .int (zI p), .int (zI k), .int (zI t)]) σ (.inr σ.2.1, pm_add σ (.inr (9, [])) 6) := by
  show pm_Ev (tq_P L xs) (3, 0, [(0, .ref 0), (1, .int (zI p)), (2, .int (zI k)), (3, .int (zI t))], []) σ _
  refine pm_Ev.go 2 (f' := (3, 2, [(0, _), (1, _), (2, _), (3, _)], [_, _])) rfl ?_
  exact pm_Ev.cvT rfl rfl rfl rfl (by decide) (Nat.le_of_ble_eq_true rfl) (Nat.le_of_ble_eq_true rfl) H.m0 H.o0 (ev_porT L xs H hl N hp n1 n2) rfl
theorem ev_dinsert2a (H : Hp σ ad z ar lr) (hl : od_L z ar) (N : od_N (hq_g ar 190) (z 8)) {k t : Int} (hk : -2147483648 ≤ k ∧ k ≤ 2147483647) (ht : -2147483648 ≤ t ∧ t ≤ 2147483647) {r : Int} (u0 : -1 ≤ r) (u1 : r < (hq_g ar 190 0) ∨ r = -1) (c : ¬ (0 ≤ k ∧ k ≤ fo_cc (oD (hq_g ar 190)) (hq_g ar 190 0) r)) : pm_Ev (tq_P L xs) (pm_enter 3 [.ref 0, .int (zI (fo_id (oI (hq_g ar 190)) r)), .int (zI k), .int (zI t)]) σ (.inr σ.2.1, pm_add σ (.inr (7, [])) 6) := by
  show pm_Ev (tq_P L xs) (3, 0, [(0, .ref 0), (1, .int (zI (fo_id (oI (hq_g ar 190)) r))), (2, .int (zI k)), (3, .int (zI t))], []) σ _
  have cc := fo_cc_r N.W u0 u1
  have nm := N.nm
  have m4 := N.m4
  refine pm_Ev.go 2 (f' := (3, 2, [(0, _), (1, _), (2, _), (3, _)], [_, _])) rfl ?_
  refine pm_Ev.cv rfl rfl rfl rfl (by decide) (Nat.le_of_ble_eq_true rfl) (Nat.le_of_ble_eq_true rfl) H.m0 H.o0 (ev_por L xs H hl N u0 u1) ?_
  refine pm_Ev.go 4 (f' := (3, 10, [(4, _), (0, _), (1, _), (2, _), (3, _)], [_, _, _])) rfl ?_
  refine pm_Ev.gf rfl rfl H.m0 H.o0 rfl ?_
  refine pm_Ev.go 1 (f' := (3, 15, [(4, _), (0, _), (1, _), (2, _), (3, _)], [_, _, _, _])) rfl ?_
  refine pm_Ev.cv rfl rfl rfl rfl (by decide) (Nat.le_of_ble_eq_true rfl) (Nat.le_of_ble_eq_true rfl) H.m188 H.o188 (ev_childCount L xs H hl N u0 u1) ?_
  refine pm_Ev.call rfl rfl rfl rfl rfl (ev_in0 L xs (by omega) c) ?_
  refine pm_Ev.zeq rfl (by omega) rfl (fun h1 => ?_) (fun h1 => ?_)
  · refine pm_Ev.go 1 (f' := (3, 39, [(4, _), (0, _), (1, _), (2, _), (3, _)], [_])) rfl ?_
    exact pm_Ev.callT rfl rfl rfl rfl rfl (ev_ckN0 L xs) rfl
  · exact absurd h1 (by omega)
theorem ev_dinsert2b (H : Hp σ ad z ar lr) (hl : od_L z ar) (N : od_N (hq_g ar 190) (z 8)) {k t : Int} (hk : -2147483648 ≤ k ∧ k ≤ 2147483647) (ht : -2147483648 ≤ t ∧ t ≤ 2147483647) {r : Int} (u0 : -1 ≤ r) (u1 : r < (hq_g ar 190 0) ∨ r = -1) (c : 0 ≤ k ∧ k ≤ fo_cc (oD (hq_g ar 190)) (hq_g ar 190 0) r) (d : ¬ (0 ≤ t ∧ t ≤ 999999)) : pm_Ev (tq_P L xs) (pm_enter 3 [.ref 0, .int (zI (fo_id (oI (hq_g ar 190)) r)), .int (zI k), .int (zI t)]) σ (.inr σ.2.1, pm_add σ (.inr (7, [])) 6) := by
  show pm_Ev (tq_P L xs) (3, 0, [(0, .ref 0), (1, .int (zI (fo_id (oI (hq_g ar 190)) r))), (2, .int (zI k)), (3, .int (zI t))], []) σ _
  have cc := fo_cc_r N.W u0 u1
  have nm := N.nm
  have m4 := N.m4
  refine pm_Ev.go 2 (f' := (3, 2, [(0, _), (1, _), (2, _), (3, _)], [_, _])) rfl ?_
  refine pm_Ev.cv rfl rfl rfl rfl (by decide) (Nat.le_of_ble_eq_true rfl) (Nat.le_of_ble_eq_true rfl) H.m0 H.o0 (ev_por L xs H hl N u0 u1) ?_
  refine pm_Ev.go 4 (f' := (3, 10, [(4, _), (0, _), (1, _), (2, _), (3, _)], [_, _, _])) rfl ?_
  refine pm_Ev.gf rfl rfl H.m0 H.o0 rfl ?_
  refine pm_Ev.go 1 (f' := (3, 15, [(4, _), (0, _), (1, _), (2, _), (3, _)], [_, _, _, _])) rfl ?_
  refine pm_Ev.cv rfl rfl rfl rfl (by decide) (Nat.le_of_ble_eq_true rfl) (Nat.le_of_ble_eq_true rfl) H.m188 H.o188 (ev_childCount L xs H hl N u0 u1) ?_
  refine pm_Ev.call rfl rfl rfl rfl rfl (ev_in1 L xs (by omega) c) ?_
  refine pm_Ev.zeq rfl (by omega) rfl (fun h1 => ?_) (fun h1 => ?_)
  · exact absurd h1 (by omega)
  · refine pm_Ev.go 2 (f' := (3, 26, [(4, _), (0, _), (1, _), (2, _), (3, _)], [_, _])) rfl ?_
    refine pm_Ev.cc1 (999999) rfl rfl rfl ?_
    refine pm_Ev.call rfl rfl rfl rfl rfl (ev_in0 L xs (by omega) d) ?_
    refine pm_Ev.zeq rfl (by omega) rfl (fun h2 => ?_) (fun h2 => ?_)
    · refine pm_Ev.go 1 (f' := (3, 39, [(4, _), (0, _), (1, _), (2, _), (3, _)], [_])) rfl ?_
      exact pm_Ev.callT rfl rfl rfl rfl rfl (ev_ckN0 L xs) rfl
    · exact absurd h2 (by omega)
theorem ev_dinsert3b (H : Hp σ ad z ar lr) (hl : od_L z ar) (N : od_N (hq_g ar 190) (z 8)) {k t : Int} (hk : -2147483648 ≤ k ∧ k ≤ 2147483647) (ht : -2147483648 ≤ t ∧ t ≤ 2147483647) {r : Int} (u0 : -1 ≤ r) (u1 : r < (hq_g ar 190 0) ∨ r = -1) (c : 0 ≤ k ∧ k ≤ fo_cc (oD (hq_g ar 190)) (hq_g ar 190 0) r) (d : 0 ≤ t ∧ t ≤ 999999) (g : (oD (hq_g ar 190)) r = 12) : pm_Ev (tq_P L xs) (pm_enter 3 [.ref 0, .int (zI (fo_id (oI (hq_g ar 190)) r)), .int (zI k), .int (zI t)]) σ (.inr σ.2.1, pm_add σ (.inr (10, [])) 6) := by
  show pm_Ev (tq_P L xs) (3, 0, [(0, .ref 0), (1, .int (zI (fo_id (oI (hq_g ar 190)) r))), (2, .int (zI k)), (3, .int (zI t))], []) σ _
  have cc := fo_cc_r N.W u0 u1
  have nm := N.nm
  have m4 := N.m4
  have dr := N.dr u0 u1
  have m0 := N.m0
  refine pm_Ev.go 2 (f' := (3, 2, [(0, _), (1, _), (2, _), (3, _)], [_, _])) rfl ?_
  refine pm_Ev.cv rfl rfl rfl rfl (by decide) (Nat.le_of_ble_eq_true rfl) (Nat.le_of_ble_eq_true rfl) H.m0 H.o0 (ev_por L xs H hl N u0 u1) ?_
  refine pm_Ev.go 4 (f' := (3, 10, [(4, _), (0, _), (1, _), (2, _), (3, _)], [_, _, _])) rfl ?_
  refine pm_Ev.gf rfl rfl H.m0 H.o0 rfl ?_
  refine pm_Ev.go 1 (f' := (3, 15, [(4, _), (0, _), (1, _), (2, _), (3, _)], [_, _, _, _])) rfl ?_
  refine pm_Ev.cv rfl rfl rfl rfl (by decide) (Nat.le_of_ble_eq_true rfl) (Nat.le_of_ble_eq_true rfl) H.m188 H.o188 (ev_childCount L xs H hl N u0 u1) ?_
  refine pm_Ev.call rfl rfl rfl rfl rfl (ev_in1 L xs (by omega) c) ?_
  refine pm_Ev.zeq rfl (by omega) rfl (fun h1 => ?_) (fun h1 => ?_)
  · exact absurd h1 (by omega)
  · refine pm_Ev.go 2 (f' := (3, 26, [(4, _), (0, _), (1, _), (2, _), (3, _)], [_, _])) rfl ?_
    refine pm_Ev.cc1 (999999) rfl rfl rfl ?_
    refine pm_Ev.call rfl rfl rfl rfl rfl (ev_in1 L xs (by omega) d) ?_
    refine pm_Ev.zeq rfl (by omega) rfl (fun h2 => ?_) (fun h2 => ?_)
    · exact absurd h2 (by omega)
    · refine pm_Ev.go 2 (f' := (3, 39, [(4, _), (0, _), (1, _), (2, _), (3, _)], [_])) rfl ?_
      refine pm_Ev.call rfl rfl rfl rfl rfl (ev_ckN1 L xs) ?_
      refine pm_Ev.go 1 (f' := (3, 43, [(4, _), (0, _), (1, _), (2, _), (3, _)], [_])) rfl ?_
      refine pm_Ev.gf rfl rfl H.m0 H.o0 rfl ?_
      refine pm_Ev.go 1 (f' := (3, 48, [(4, _), (0, _), (1, _), (2, _), (3, _)], [_, _])) rfl ?_
      refine pm_Ev.cv rfl rfl rfl rfl (by decide) (Nat.le_of_ble_eq_true rfl) (Nat.le_of_ble_eq_true rfl) H.m188 H.o188 (ev_depthAt L xs H hl N u0 u1) ?_
      refine pm_Ev.go 1 (f' := (3, 52, [(4, _), (0, _), (1, _), (2, _), (3, _)], [_, _])) rfl ?_
      refine pm_Ev.iadd rfl ?_
      refine pm_Ev.go 2 (f' := (3, 57, [(5, _), (4, _), (0, _), (1, _), (2, _), (3, _)], [_])) rfl ?_
      refine pm_Ev.bp rfl rfl ?_
      refine pm_Ev.jgt rfl (by omega) rfl (fun h3 => ?_) (fun h3 => ?_)
      · refine pm_Ev.go 1 (f' := (3, 80, [(5, _), (4, _), (0, _), (1, _), (2, _), (3, _)], [_])) rfl ?_
        exact pm_Ev.callT rfl rfl rfl rfl rfl (ev_ckL0 L xs) rfl
      · exact absurd h3 (by omega)
theorem ev_dinsert3a (H : Hp σ ad z ar lr) (hl : od_L z ar) (N : od_N (hq_g ar 190) (z 8)) {k t : Int} (hk : -2147483648 ≤ k ∧ k ≤ 2147483647) (ht : -2147483648 ≤ t ∧ t ≤ 2147483647) {r : Int} (u0 : -1 ≤ r) (u1 : r < (hq_g ar 190 0) ∨ r = -1) (c : 0 ≤ k ∧ k ≤ fo_cc (oD (hq_g ar 190)) (hq_g ar 190 0) r) (d : 0 ≤ t ∧ t ≤ 999999) (g : (oD (hq_g ar 190)) r < 12) (e : z 8 = 400) : pm_Ev (tq_P L xs) (pm_enter 3 [.ref 0, .int (zI (fo_id (oI (hq_g ar 190)) r)), .int (zI k), .int (zI t)]) σ (.inr σ.2.1, pm_add σ (.inr (10, [])) 6) := by
  show pm_Ev (tq_P L xs) (3, 0, [(0, .ref 0), (1, .int (zI (fo_id (oI (hq_g ar 190)) r))), (2, .int (zI k)), (3, .int (zI t))], []) σ _
  have cc := fo_cc_r N.W u0 u1
  have nm := N.nm
  have m4 := N.m4
  have dr := N.dr u0 u1
  have m0 := N.m0
  refine pm_Ev.go 2 (f' := (3, 2, [(0, _), (1, _), (2, _), (3, _)], [_, _])) rfl ?_
  refine pm_Ev.cv rfl rfl rfl rfl (by decide) (Nat.le_of_ble_eq_true rfl) (Nat.le_of_ble_eq_true rfl) H.m0 H.o0 (ev_por L xs H hl N u0 u1) ?_
  refine pm_Ev.go 4 (f' := (3, 10, [(4, _), (0, _), (1, _), (2, _), (3, _)], [_, _, _])) rfl ?_
  refine pm_Ev.gf rfl rfl H.m0 H.o0 rfl ?_
  refine pm_Ev.go 1 (f' := (3, 15, [(4, _), (0, _), (1, _), (2, _), (3, _)], [_, _, _, _])) rfl ?_
  refine pm_Ev.cv rfl rfl rfl rfl (by decide) (Nat.le_of_ble_eq_true rfl) (Nat.le_of_ble_eq_true rfl) H.m188 H.o188 (ev_childCount L xs H hl N u0 u1) ?_
  refine pm_Ev.call rfl rfl rfl rfl rfl (ev_in1 L xs (by omega) c) ?_
  refine pm_Ev.zeq rfl (by omega) rfl (fun h1 => ?_) (fun h1 => ?_)
  · exact absurd h1 (by omega)
  · refine pm_Ev.go 2 (f' := (3, 26, [(4, _), (0, _), (1, _), (2, _), (3, _)], [_, _])) rfl ?_
    refine pm_Ev.cc1 (999999) rfl rfl rfl ?_
    refine pm_Ev.call rfl rfl rfl rfl rfl (ev_in1 L xs (by omega) d) ?_
    refine pm_Ev.zeq rfl (by omega) rfl (fun h2 => ?_) (fun h2 => ?_)
    · exact absurd h2 (by omega)
    · refine pm_Ev.go 2 (f' := (3, 39, [(4, _), (0, _), (1, _), (2, _), (3, _)], [_])) rfl ?_
      refine pm_Ev.call rfl rfl rfl rfl rfl (ev_ckN1 L xs) ?_
      refine pm_Ev.go 1 (f' := (3, 43, [(4, _), (0, _), (1, _), (2, _), (3, _)], [_])) rfl ?_
      refine pm_Ev.gf rfl rfl H.m0 H.o0 rfl ?_
      refine pm_Ev.go 1 (f' := (3, 48, [(4, _), (0, _), (1, _), (2, _), (3, _)], [_, _])) rfl ?_
      refine pm_Ev.cv rfl rfl rfl rfl (by decide) (Nat.le_of_ble_eq_true rfl) (Nat.le_of_ble_eq_true rfl) H.m188 H.o188 (ev_depthAt L xs H hl N u0 u1) ?_
      refine pm_Ev.go 1 (f' := (3, 52, [(4, _), (0, _), (1, _), (2, _), (3, _)], [_, _])) rfl ?_
      refine pm_Ev.iadd rfl ?_
      refine pm_Ev.go 2 (f' := (3, 57, [(5, _), (4, _), (0, _), (1, _), (2, _), (3, _)], [_])) rfl ?_
      refine pm_Ev.bp rfl rfl ?_
      refine pm_Ev.jgt rfl (by omega) rfl (fun h3 => ?_) (fun h3 => ?_)
      · exact absurd h3 (by omega)
      · refine pm_Ev.go 1 (f' := (3, 63, [(5, _), (4, _), (0, _), (1, _), (2, _), (3, _)], [_])) rfl ?_
        refine pm_Ev.gf rfl rfl H.m0 H.o0 rfl ?_
        refine pm_Ev.gf rfl rfl H.m188 H.o188 rfl ?_
        refine pm_Ev.sp rfl rfl ?_
        refine pm_Ev.jge rfl (by omega) rfl (fun h4 => ?_) (fun h4 => ?_)
        · refine pm_Ev.go 1 (f' := (3, 80, [(5, _), (4, _), (0, _), (1, _), (2, _), (3, _)], [_])) rfl ?_
          exact pm_Ev.callT rfl rfl rfl rfl rfl (ev_ckL0 L xs) rfl
        · exact absurd h4 (by omega)
theorem ev_dremove1 (H : Hp σ ad z ar lr) (hl : od_L z ar) (N : od_N (hq_g ar 190) (z 8)) {p : Int} (hp : -2147483648 ≤ p ∧ p ≤ 2147483647) (n2 : ∀ x, 0 ≤ x → x < (hq_g ar 190 0) → (oI (hq_g ar 190)) x ≠ p) : pm_Ev (tq_P L xs) (pm_enter 4 [.ref 0, .int (zI p)]) σ (.inr σ.2.1, pm_add σ (.inr (9, [])) 6) := by
  show pm_Ev (tq_P L xs) (4, 0, [(0, .ref 0), (1, .int (zI p))], []) σ _
  refine pm_Ev.go 2 (f' := (4, 2, [(0, _), (1, _)], [_, _])) rfl ?_
  exact pm_Ev.cvT rfl rfl rfl rfl (by decide) (Nat.le_of_ble_eq_true rfl) (Nat.le_of_ble_eq_true rfl) H.m0 H.o0 (ev_posT L xs H hl N hp n2) rfl
theorem ev_dmove1a (H : Hp σ ad z ar lr) (hl : od_L z ar) (N : od_N (hq_g ar 190) (z 8)) {p q k : Int} (hp : -2147483648 ≤ p ∧ p ≤ 2147483647) (n2 : ∀ x, 0 ≤ x → x < (hq_g ar 190 0) → (oI (hq_g ar 190)) x ≠ p) : pm_Ev (tq_P L xs) (pm_enter 5 [.ref 0, .int (zI p), .int (zI q), .int (zI k)]) σ (.inr σ.2.1, pm_add σ (.inr (9, [])) 6) := by
  show pm_Ev (tq_P L xs) (5, 0, [(0, .ref 0), (1, .int (zI p)), (2, .int (zI q)), (3, .int (zI k))], []) σ _
  refine pm_Ev.go 2 (f' := (5, 2, [(0, _), (1, _), (2, _), (3, _)], [_, _])) rfl ?_
  exact pm_Ev.cvT rfl rfl rfl rfl (by decide) (Nat.le_of_ble_eq_true rfl) (Nat.le_of_ble_eq_true rfl) H.m0 H.o0 (ev_posT L xs H hl N hp n2) rfl
theorem ev_dmove1b (H : Hp σ ad z ar lr) (hl : od_L z ar) (N : od_N (hq_g ar 190) (z 8)) {b : Int} (b0 : 0 ≤ b) (b1 : b < (hq_g ar 190 0)) {p k : Int} (hp : -2147483648 ≤ p ∧ p ≤ 2147483647) (n1 : p ≠ -1) (n2 : ∀ x, 0 ≤ x → x < (hq_g ar 190 0) → (oI (hq_g ar 190)) x ≠ p) : pm_Ev (tq_P L xs) (pm_enter 5 [.ref 0, .int (zI ((oI (hq_g ar 190)) b)), .int (zI p), .int (zI k)]) σ (.inr σ.2.1, pm_add σ (.inr (9, [])) 6) := by
  show pm_Ev (tq_P L xs) (5, 0, [(0, .ref 0), (1, .int (zI ((oI (hq_g ar 190)) b))), (2, .int (zI p)), (3, .int (zI k))], []) σ _
  refine pm_Ev.go 2 (f' := (5, 2, [(0, _), (1, _), (2, _), (3, _)], [_, _])) rfl ?_
  refine pm_Ev.cv rfl rfl rfl rfl (by decide) (Nat.le_of_ble_eq_true rfl) (Nat.le_of_ble_eq_true rfl) H.m0 H.o0 (ev_pos L xs H hl N b0 b1) ?_
  refine pm_Ev.go 3 (f' := (5, 9, [(4, _), (0, _), (1, _), (2, _), (3, _)], [_, _])) rfl ?_
  exact pm_Ev.cvT rfl rfl rfl rfl (by decide) (Nat.le_of_ble_eq_true rfl) (Nat.le_of_ble_eq_true rfl) H.m0 H.o0 (ev_porT L xs H hl N hp n1 n2) rfl
theorem ev_dmove2 (H : Hp σ ad z ar lr) (hl : od_L z ar) (N : od_N (hq_g ar 190) (z 8)) {b : Int} (b0 : 0 ≤ b) (b1 : b < (hq_g ar 190 0)) {r : Int} (u0 : -1 ≤ r) (u1 : r < (hq_g ar 190 0) ∨ r = -1) {k : Int} (c : b ≤ r ∧ r < fo_end (oD (hq_g ar 190)) (hq_g ar 190 0) b) : pm_Ev (tq_P L xs) (pm_enter 5 [.ref 0, .int (zI ((oI (hq_g ar 190)) b)), .int (zI (fo_id (oI (hq_g ar 190)) r)), .int (zI k)]) σ (.inr σ.2.1, pm_add σ (.inr (8, [])) 6) := by
  show pm_Ev (tq_P L xs) (5, 0, [(0, .ref 0), (1, .int (zI ((oI (hq_g ar 190)) b))), (2, .int (zI (fo_id (oI (hq_g ar 190)) r))), (3, .int (zI k))], []) σ _
  have nm := N.nm
  have m4 := N.m4
  have B := fo_end_B (D := (oD (hq_g ar 190))) b1
  have bb := B.1
  have be := B.2.1
  refine pm_Ev.go 2 (f' := (5, 2, [(0, _), (1, _), (2, _), (3, _)], [_, _])) rfl ?_
  refine pm_Ev.cv rfl rfl rfl rfl (by decide) (Nat.le_of_ble_eq_true rfl) (Nat.le_of_ble_eq_true rfl) H.m0 H.o0 (ev_pos L xs H hl N b0 b1) ?_
  refine pm_Ev.go 3 (f' := (5, 9, [(4, _), (0, _), (1, _), (2, _), (3, _)], [_, _])) rfl ?_
  refine pm_Ev.cv rfl rfl rfl rfl (by decide) (Nat.le_of_ble_eq_true rfl) (Nat.le_of_ble_eq_true rfl) H.m0 H.o0 (ev_por L xs H hl N u0 u1) ?_
  refine pm_Ev.go 2 (f' := (5, 15, [(5, _), (4, _), (0, _), (1, _), (2, _), (3, _)], [_])) rfl ?_
  refine pm_Ev.gf rfl rfl H.m0 H.o0 rfl ?_
  refine pm_Ev.go 1 (f' := (5, 20, [(5, _), (4, _), (0, _), (1, _), (2, _), (3, _)], [_, _])) rfl ?_
  refine pm_Ev.cv rfl rfl rfl rfl (by decide) (Nat.le_of_ble_eq_true rfl) (Nat.le_of_ble_eq_true rfl) H.m188 H.o188 (ev_branchEnd L xs H hl N (by omega) (by omega)) ?_
  refine pm_Ev.go 3 (f' := (5, 29, [(6, _), (5, _), (4, _), (0, _), (1, _), (2, _), (3, _)], [_, _])) rfl ?_
  refine pm_Ev.jlt rfl (by omega) rfl (fun h1 => ?_) (fun h1 => ?_)
  · exact absurd h1 (by omega)
  · refine pm_Ev.go 2 (f' := (5, 36, [(6, _), (5, _), (4, _), (0, _), (1, _), (2, _), (3, _)], [_, _])) rfl ?_
    refine pm_Ev.jlt rfl (by omega) rfl (fun h2 => ?_) (fun h2 => ?_)
    · refine pm_Ev.go 1 (f' := (5, 44, [(6, _), (5, _), (4, _), (0, _), (1, _), (2, _), (3, _)], [_])) rfl ?_
      exact pm_Ev.callT rfl rfl rfl rfl rfl (ev_ckS0 L xs) rfl
    · exact absurd h2 (by omega)
theorem ev_dmove3 (H : Hp σ ad z ar lr) (hl : od_L z ar) (N : od_N (hq_g ar 190) (z 8)) {b : Int} (b0 : 0 ≤ b) (b1 : b < (hq_g ar 190 0)) {r : Int} (u0 : -1 ≤ r) (u1 : r < (hq_g ar 190 0) ∨ r = -1) {k : Int} (hk : -2147483648 ≤ k ∧ k ≤ 2147483647) (c : ¬ (b ≤ r ∧ r < fo_end (oD (hq_g ar 190)) (hq_g ar 190 0) b)) (d : ¬ (0 ≤ k ∧ k ≤ (fo_cc (oD (hq_g ar 190)) (hq_g ar 190 0) r - (if fo_par (oD (hq_g ar 190)) b = r then 1 else 0)))) : pm_Ev (tq_P L xs) (pm_enter 5 [.ref 0, .int (zI ((oI (hq_g ar 190)) b)), .int (zI (fo_id (oI (hq_g ar 190)) r)), .int (zI k)]) σ (.inr σ.2.1, pm_add σ (.inr (7, [])) 6) := by
  show pm_Ev (tq_P L xs) (5, 0, [(0, .ref 0), (1, .int (zI ((oI (hq_g ar 190)) b))), (2, .int (zI (fo_id (oI (hq_g ar 190)) r))), (3, .int (zI k))], []) σ _
  have nm := N.nm
  have m4 := N.m4
  have B := fo_end_B (D := (oD (hq_g ar 190))) b1
  have bb := B.1
  have be := B.2.1
  have cc := fo_cc_r N.W u0 u1
  skip
  have P := fo_par_P N.W b0 b1
  have p0 := P.1
  have p1 := P.2.1
  have dr := N.dr u0 u1
  have db := N.dr (p := b) (by omega) (Or.inl b1)
  by_cases x1 : r < b
  · skip
    by_cases x2 : fo_par (oD (hq_g ar 190)) b = r
    · skip
      rw [if_pos x2] at d
      refine pm_Ev.go 2 (f' := (5, 2, [(0, _), (1, _), (2, _), (3, _)], [_, _])) rfl ?_
      refine pm_Ev.cv rfl rfl rfl rfl (by decide) (Nat.le_of_ble_eq_true rfl) (Nat.le_of_ble_eq_true rfl) H.m0 H.o0 (ev_pos L xs H hl N b0 b1) ?_
      refine pm_Ev.go 3 (f' := (5, 9, [(4, _), (0, _), (1, _), (2, _), (3, _)], [_, _])) rfl ?_
      refine pm_Ev.cv rfl rfl rfl rfl (by decide) (Nat.le_of_ble_eq_true rfl) (Nat.le_of_ble_eq_true rfl) H.m0 H.o0 (ev_por L xs H hl N u0 u1) ?_
      refine pm_Ev.go 2 (f' := (5, 15, [(5, _), (4, _), (0, _), (1, _), (2, _), (3, _)], [_])) rfl ?_
      refine pm_Ev.gf rfl rfl H.m0 H.o0 rfl ?_
      refine pm_Ev.go 1 (f' := (5, 20, [(5, _), (4, _), (0, _), (1, _), (2, _), (3, _)], [_, _])) rfl ?_
      refine pm_Ev.cv rfl rfl rfl rfl (by decide) (Nat.le_of_ble_eq_true rfl) (Nat.le_of_ble_eq_true rfl) H.m188 H.o188 (ev_branchEnd L xs H hl N (by omega) (by omega)) ?_
      refine pm_Ev.go 3 (f' := (5, 29, [(6, _), (5, _), (4, _), (0, _), (1, _), (2, _), (3, _)], [_, _])) rfl ?_
      refine pm_Ev.jlt rfl (by omega) rfl (fun h1 => ?_) (fun h1 => ?_)
      · refine pm_Ev.go 2 (f' := (5, 44, [(6, _), (5, _), (4, _), (0, _), (1, _), (2, _), (3, _)], [_])) rfl ?_
        refine pm_Ev.call rfl rfl rfl rfl rfl (ev_ckS1 L xs) ?_
        refine pm_Ev.go 1 (f' := (5, 48, [(6, _), (5, _), (4, _), (0, _), (1, _), (2, _), (3, _)], [_])) rfl ?_
        refine pm_Ev.gf rfl rfl H.m0 H.o0 rfl ?_
        refine pm_Ev.go 1 (f' := (5, 53, [(6, _), (5, _), (4, _), (0, _), (1, _), (2, _), (3, _)], [_, _])) rfl ?_
        refine pm_Ev.cv rfl rfl rfl rfl (by decide) (Nat.le_of_ble_eq_true rfl) (Nat.le_of_ble_eq_true rfl) H.m188 H.o188 (ev_childCount L xs H hl N u0 u1) ?_
        refine pm_Ev.go 1 (f' := (5, 57, [(6, _), (5, _), (4, _), (0, _), (1, _), (2, _), (3, _)], [_, _])) rfl ?_
        refine pm_Ev.gf rfl rfl H.m0 H.o0 rfl ?_
        refine pm_Ev.go 1 (f' := (5, 62, [(6, _), (5, _), (4, _), (0, _), (1, _), (2, _), (3, _)], [_, _, _])) rfl ?_
        refine pm_Ev.cv rfl rfl rfl rfl (by decide) (Nat.le_of_ble_eq_true rfl) (Nat.le_of_ble_eq_true rfl) H.m188 H.o188 (ev_parentPosition L xs H hl N b0 b1) ?_
        refine pm_Ev.go 1 (f' := (5, 67, [(6, _), (5, _), (4, _), (0, _), (1, _), (2, _), (3, _)], [_, _, _])) rfl ?_
        refine pm_Ev.jne rfl (by omega) rfl (fun h2 => ?_) (fun h2 => ?_)
        · exact absurd h2 (by omega)
        · refine pm_Ev.go 2 (f' := (5, 75, [(6, _), (5, _), (4, _), (0, _), (1, _), (2, _), (3, _)], [_, _])) rfl ?_
          refine pm_Ev.isub rfl ?_
          refine pm_Ev.go 4 (f' := (5, 82, [(7, _), (6, _), (5, _), (4, _), (0, _), (1, _), (2, _), (3, _)], [_, _, _])) rfl ?_
          refine pm_Ev.call rfl rfl rfl rfl rfl (ev_in0 L xs (by omega) d) ?_
          exact pm_Ev.callT rfl rfl rfl rfl rfl (ev_ckN0 L xs) rfl
      · exact absurd h1 (by omega)
    · skip
      rw [if_neg x2] at d
      refine pm_Ev.go 2 (f' := (5, 2, [(0, _), (1, _), (2, _), (3, _)], [_, _])) rfl ?_
      refine pm_Ev.cv rfl rfl rfl rfl (by decide) (Nat.le_of_ble_eq_true rfl) (Nat.le_of_ble_eq_true rfl) H.m0 H.o0 (ev_pos L xs H hl N b0 b1) ?_
      refine pm_Ev.go 3 (f' := (5, 9, [(4, _), (0, _), (1, _), (2, _), (3, _)], [_, _])) rfl ?_
      refine pm_Ev.cv rfl rfl rfl rfl (by decide) (Nat.le_of_ble_eq_true rfl) (Nat.le_of_ble_eq_true rfl) H.m0 H.o0 (ev_por L xs H hl N u0 u1) ?_
      refine pm_Ev.go 2 (f' := (5, 15, [(5, _), (4, _), (0, _), (1, _), (2, _), (3, _)], [_])) rfl ?_
      refine pm_Ev.gf rfl rfl H.m0 H.o0 rfl ?_
      refine pm_Ev.go 1 (f' := (5, 20, [(5, _), (4, _), (0, _), (1, _), (2, _), (3, _)], [_, _])) rfl ?_
      refine pm_Ev.cv rfl rfl rfl rfl (by decide) (Nat.le_of_ble_eq_true rfl) (Nat.le_of_ble_eq_true rfl) H.m188 H.o188 (ev_branchEnd L xs H hl N (by omega) (by omega)) ?_
      refine pm_Ev.go 3 (f' := (5, 29, [(6, _), (5, _), (4, _), (0, _), (1, _), (2, _), (3, _)], [_, _])) rfl ?_
      refine pm_Ev.jlt rfl (by omega) rfl (fun h1 => ?_) (fun h1 => ?_)
      · refine pm_Ev.go 2 (f' := (5, 44, [(6, _), (5, _), (4, _), (0, _), (1, _), (2, _), (3, _)], [_])) rfl ?_
        refine pm_Ev.call rfl rfl rfl rfl rfl (ev_ckS1 L xs) ?_
        refine pm_Ev.go 1 (f' := (5, 48, [(6, _), (5, _), (4, _), (0, _), (1, _), (2, _), (3, _)], [_])) rfl ?_
        refine pm_Ev.gf rfl rfl H.m0 H.o0 rfl ?_
        refine pm_Ev.go 1 (f' := (5, 53, [(6, _), (5, _), (4, _), (0, _), (1, _), (2, _), (3, _)], [_, _])) rfl ?_
        refine pm_Ev.cv rfl rfl rfl rfl (by decide) (Nat.le_of_ble_eq_true rfl) (Nat.le_of_ble_eq_true rfl) H.m188 H.o188 (ev_childCount L xs H hl N u0 u1) ?_
        refine pm_Ev.go 1 (f' := (5, 57, [(6, _), (5, _), (4, _), (0, _), (1, _), (2, _), (3, _)], [_, _])) rfl ?_
        refine pm_Ev.gf rfl rfl H.m0 H.o0 rfl ?_
        refine pm_Ev.go 1 (f' := (5, 62, [(6, _), (5, _), (4, _), (0, _), (1, _), (2, _), (3, _)], [_, _, _])) rfl ?_
        refine pm_Ev.cv rfl rfl rfl rfl (by decide) (Nat.le_of_ble_eq_true rfl) (Nat.le_of_ble_eq_true rfl) H.m188 H.o188 (ev_parentPosition L xs H hl N b0 b1) ?_
        refine pm_Ev.go 1 (f' := (5, 67, [(6, _), (5, _), (4, _), (0, _), (1, _), (2, _), (3, _)], [_, _, _])) rfl ?_
        refine pm_Ev.jne rfl (by omega) rfl (fun h2 => ?_) (fun h2 => ?_)
        · refine pm_Ev.go 1 (f' := (5, 75, [(6, _), (5, _), (4, _), (0, _), (1, _), (2, _), (3, _)], [_, _])) rfl ?_
          refine pm_Ev.isub rfl ?_
          refine pm_Ev.go 4 (f' := (5, 82, [(7, _), (6, _), (5, _), (4, _), (0, _), (1, _), (2, _), (3, _)], [_, _, _])) rfl ?_
          refine pm_Ev.call rfl rfl rfl rfl rfl (ev_in0 L xs (by omega) d) ?_
          exact pm_Ev.callT rfl rfl rfl rfl rfl (ev_ckN0 L xs) rfl
        · exact absurd h2 (by omega)
      · exact absurd h1 (by omega)
  · skip
    by_cases x2 : fo_par (oD (hq_g ar 190)) b = r
    · skip
      rw [if_pos x2] at d
      refine pm_Ev.go 2 (f' := (5, 2, [(0, _), (1, _), (2, _), (3, _)], [_, _])) rfl ?_
      refine pm_Ev.cv rfl rfl rfl rfl (by decide) (Nat.le_of_ble_eq_true rfl) (Nat.le_of_ble_eq_true rfl) H.m0 H.o0 (ev_pos L xs H hl N b0 b1) ?_
      refine pm_Ev.go 3 (f' := (5, 9, [(4, _), (0, _), (1, _), (2, _), (3, _)], [_, _])) rfl ?_
      refine pm_Ev.cv rfl rfl rfl rfl (by decide) (Nat.le_of_ble_eq_true rfl) (Nat.le_of_ble_eq_true rfl) H.m0 H.o0 (ev_por L xs H hl N u0 u1) ?_
      refine pm_Ev.go 2 (f' := (5, 15, [(5, _), (4, _), (0, _), (1, _), (2, _), (3, _)], [_])) rfl ?_
      refine pm_Ev.gf rfl rfl H.m0 H.o0 rfl ?_
      refine pm_Ev.go 1 (f' := (5, 20, [(5, _), (4, _), (0, _), (1, _), (2, _), (3, _)], [_, _])) rfl ?_
      refine pm_Ev.cv rfl rfl rfl rfl (by decide) (Nat.le_of_ble_eq_true rfl) (Nat.le_of_ble_eq_true rfl) H.m188 H.o188 (ev_branchEnd L xs H hl N (by omega) (by omega)) ?_
      refine pm_Ev.go 3 (f' := (5, 29, [(6, _), (5, _), (4, _), (0, _), (1, _), (2, _), (3, _)], [_, _])) rfl ?_
      refine pm_Ev.jlt rfl (by omega) rfl (fun h1 => ?_) (fun h1 => ?_)
      · exact absurd h1 (by omega)
      · refine pm_Ev.go 2 (f' := (5, 36, [(6, _), (5, _), (4, _), (0, _), (1, _), (2, _), (3, _)], [_, _])) rfl ?_
        refine pm_Ev.jlt rfl (by omega) rfl (fun h2 => ?_) (fun h2 => ?_)
        · exact absurd h2 (by omega)
        · refine pm_Ev.go 2 (f' := (5, 44, [(6, _), (5, _), (4, _), (0, _), (1, _), (2, _), (3, _)], [_])) rfl ?_
          refine pm_Ev.call rfl rfl rfl rfl rfl (ev_ckS1 L xs) ?_
          refine pm_Ev.go 1 (f' := (5, 48, [(6, _), (5, _), (4, _), (0, _), (1, _), (2, _), (3, _)], [_])) rfl ?_
          refine pm_Ev.gf rfl rfl H.m0 H.o0 rfl ?_
          refine pm_Ev.go 1 (f' := (5, 53, [(6, _), (5, _), (4, _), (0, _), (1, _), (2, _), (3, _)], [_, _])) rfl ?_
          refine pm_Ev.cv rfl rfl rfl rfl (by decide) (Nat.le_of_ble_eq_true rfl) (Nat.le_of_ble_eq_true rfl) H.m188 H.o188 (ev_childCount L xs H hl N u0 u1) ?_
          refine pm_Ev.go 1 (f' := (5, 57, [(6, _), (5, _), (4, _), (0, _), (1, _), (2, _), (3, _)], [_, _])) rfl ?_
          refine pm_Ev.gf rfl rfl H.m0 H.o0 rfl ?_
          refine pm_Ev.go 1 (f' := (5, 62, [(6, _), (5, _), (4, _), (0, _), (1, _), (2, _), (3, _)], [_, _, _])) rfl ?_
          refine pm_Ev.cv rfl rfl rfl rfl (by decide) (Nat.le_of_ble_eq_true rfl) (Nat.le_of_ble_eq_true rfl) H.m188 H.o188 (ev_parentPosition L xs H hl N b0 b1) ?_
          refine pm_Ev.go 1 (f' := (5, 67, [(6, _), (5, _), (4, _), (0, _), (1, _), (2, _), (3, _)], [_, _, _])) rfl ?_
          refine pm_Ev.jne rfl (by omega) rfl (fun h3 => ?_) (fun h3 => ?_)
          · exact absurd h3 (by omega)
          · refine pm_Ev.go 2 (f' := (5, 75, [(6, _), (5, _), (4, _), (0, _), (1, _), (2, _), (3, _)], [_, _])) rfl ?_
            refine pm_Ev.isub rfl ?_
            refine pm_Ev.go 4 (f' := (5, 82, [(7, _), (6, _), (5, _), (4, _), (0, _), (1, _), (2, _), (3, _)], [_, _, _])) rfl ?_
            refine pm_Ev.call rfl rfl rfl rfl rfl (ev_in0 L xs (by omega) d) ?_
            exact pm_Ev.callT rfl rfl rfl rfl rfl (ev_ckN0 L xs) rfl
    · skip
      rw [if_neg x2] at d
      refine pm_Ev.go 2 (f' := (5, 2, [(0, _), (1, _), (2, _), (3, _)], [_, _])) rfl ?_
      refine pm_Ev.cv rfl rfl rfl rfl (by decide) (Nat.le_of_ble_eq_true rfl) (Nat.le_of_ble_eq_true rfl) H.m0 H.o0 (ev_pos L xs H hl N b0 b1) ?_
      refine pm_Ev.go 3 (f' := (5, 9, [(4, _), (0, _), (1, _), (2, _), (3, _)], [_, _])) rfl ?_
      refine pm_Ev.cv rfl rfl rfl rfl (by decide) (Nat.le_of_ble_eq_true rfl) (Nat.le_of_ble_eq_true rfl) H.m0 H.o0 (ev_por L xs H hl N u0 u1) ?_
      refine pm_Ev.go 2 (f' := (5, 15, [(5, _), (4, _), (0, _), (1, _), (2, _), (3, _)], [_])) rfl ?_
      refine pm_Ev.gf rfl rfl H.m0 H.o0 rfl ?_
      refine pm_Ev.go 1 (f' := (5, 20, [(5, _), (4, _), (0, _), (1, _), (2, _), (3, _)], [_, _])) rfl ?_
      refine pm_Ev.cv rfl rfl rfl rfl (by decide) (Nat.le_of_ble_eq_true rfl) (Nat.le_of_ble_eq_true rfl) H.m188 H.o188 (ev_branchEnd L xs H hl N (by omega) (by omega)) ?_
      refine pm_Ev.go 3 (f' := (5, 29, [(6, _), (5, _), (4, _), (0, _), (1, _), (2, _), (3, _)], [_, _])) rfl ?_
      refine pm_Ev.jlt rfl (by omega) rfl (fun h1 => ?_) (fun h1 => ?_)
      · exact absurd h1 (by omega)
      · refine pm_Ev.go 2 (f' := (5, 36, [(6, _), (5, _), (4, _), (0, _), (1, _), (2, _), (3, _)], [_, _])) rfl ?_
        refine pm_Ev.jlt rfl (by omega) rfl (fun h2 => ?_) (fun h2 => ?_)
        · exact absurd h2 (by omega)
        · refine pm_Ev.go 2 (f' := (5, 44, [(6, _), (5, _), (4, _), (0, _), (1, _), (2, _), (3, _)], [_])) rfl ?_
          refine pm_Ev.call rfl rfl rfl rfl rfl (ev_ckS1 L xs) ?_
          refine pm_Ev.go 1 (f' := (5, 48, [(6, _), (5, _), (4, _), (0, _), (1, _), (2, _), (3, _)], [_])) rfl ?_
          refine pm_Ev.gf rfl rfl H.m0 H.o0 rfl ?_
          refine pm_Ev.go 1 (f' := (5, 53, [(6, _), (5, _), (4, _), (0, _), (1, _), (2, _), (3, _)], [_, _])) rfl ?_
          refine pm_Ev.cv rfl rfl rfl rfl (by decide) (Nat.le_of_ble_eq_true rfl) (Nat.le_of_ble_eq_true rfl) H.m188 H.o188 (ev_childCount L xs H hl N u0 u1) ?_
          refine pm_Ev.go 1 (f' := (5, 57, [(6, _), (5, _), (4, _), (0, _), (1, _), (2, _), (3, _)], [_, _])) rfl ?_
          refine pm_Ev.gf rfl rfl H.m0 H.o0 rfl ?_
          refine pm_Ev.go 1 (f' := (5, 62, [(6, _), (5, _), (4, _), (0, _), (1, _), (2, _), (3, _)], [_, _, _])) rfl ?_
          refine pm_Ev.cv rfl rfl rfl rfl (by decide) (Nat.le_of_ble_eq_true rfl) (Nat.le_of_ble_eq_true rfl) H.m188 H.o188 (ev_parentPosition L xs H hl N b0 b1) ?_
          refine pm_Ev.go 1 (f' := (5, 67, [(6, _), (5, _), (4, _), (0, _), (1, _), (2, _), (3, _)], [_, _, _])) rfl ?_
          refine pm_Ev.jne rfl (by omega) rfl (fun h3 => ?_) (fun h3 => ?_)
          · refine pm_Ev.go 1 (f' := (5, 75, [(6, _), (5, _), (4, _), (0, _), (1, _), (2, _), (3, _)], [_, _])) rfl ?_
            refine pm_Ev.isub rfl ?_
            refine pm_Ev.go 4 (f' := (5, 82, [(7, _), (6, _), (5, _), (4, _), (0, _), (1, _), (2, _), (3, _)], [_, _, _])) rfl ?_
            refine pm_Ev.call rfl rfl rfl rfl rfl (ev_in0 L xs (by omega) d) ?_
            exact pm_Ev.callT rfl rfl rfl rfl rfl (ev_ckN0 L xs) rfl
          · exact absurd h3 (by omega)
theorem ev_dmove4 (H : Hp σ ad z ar lr) (hl : od_L z ar) (N : od_N (hq_g ar 190) (z 8)) {b : Int} (b0 : 0 ≤ b) (b1 : b < (hq_g ar 190 0)) {r : Int} (u0 : -1 ≤ r) (u1 : r < (hq_g ar 190 0) ∨ r = -1) {k : Int} (hk : -2147483648 ≤ k ∧ k ≤ 2147483647) (c : ¬ (b ≤ r ∧ r < fo_end (oD (hq_g ar 190)) (hq_g ar 190 0) b)) {v : Int} (hv : fo_hi (oD (hq_g ar 190)) b (fo_end (oD (hq_g ar 190)) (hq_g ar 190 0) b) v) (d : 0 ≤ k ∧ k ≤ (fo_cc (oD (hq_g ar 190)) (hq_g ar 190 0) r - (if fo_par (oD (hq_g ar 190)) b = r then 1 else 0))) (e : 12 < (oD (hq_g ar 190)) r + (v - (oD (hq_g ar 190)) b + 1)) : pm_Ev (tq_P L xs) (pm_enter 5 [.ref 0, .int (zI ((oI (hq_g ar 190)) b)), .int (zI (fo_id (oI (hq_g ar 190)) r)), .int (zI k)]) σ (.inr σ.2.1, pm_add σ (.inr (10, [])) 6) := by
  show pm_Ev (tq_P L xs) (5, 0, [(0, .ref 0), (1, .int (zI ((oI (hq_g ar 190)) b))), (2, .int (zI (fo_id (oI (hq_g ar 190)) r))), (3, .int (zI k))], []) σ _
  have nm := N.nm
  have m4 := N.m4
  have B := fo_end_B (D := (oD (hq_g ar 190))) b1
  have bb := B.1
  have be := B.2.1
  have cc := fo_cc_r N.W u0 u1
  skip
  have P := fo_par_P N.W b0 b1
  have p0 := P.1
  have p1 := P.2.1
  have dr := N.dr u0 u1
  have db := N.dr (p := b) (by omega) (Or.inl b1)
  have hb := hv.1 b (by omega) (by omega)
  have vv : v ≤ 12 := by
    obtain ⟨y, y0, y1, y2⟩ := hv.2
    have := N.dp y (by omega) (by omega)
    omega
  by_cases x1 : r < b
  · skip
    by_cases x2 : fo_par (oD (hq_g ar 190)) b = r
    · skip
      rw [if_pos x2] at d
      refine pm_Ev.go 2 (f' := (5, 2, [(0, _), (1, _), (2, _), (3, _)], [_, _])) rfl ?_
      refine pm_Ev.cv rfl rfl rfl rfl (by decide) (Nat.le_of_ble_eq_true rfl) (Nat.le_of_ble_eq_true rfl) H.m0 H.o0 (ev_pos L xs H hl N b0 b1) ?_
      refine pm_Ev.go 3 (f' := (5, 9, [(4, _), (0, _), (1, _), (2, _), (3, _)], [_, _])) rfl ?_
      refine pm_Ev.cv rfl rfl rfl rfl (by decide) (Nat.le_of_ble_eq_true rfl) (Nat.le_of_ble_eq_true rfl) H.m0 H.o0 (ev_por L xs H hl N u0 u1) ?_
      refine pm_Ev.go 2 (f' := (5, 15, [(5, _), (4, _), (0, _), (1, _), (2, _), (3, _)], [_])) rfl ?_
      refine pm_Ev.gf rfl rfl H.m0 H.o0 rfl ?_
      refine pm_Ev.go 1 (f' := (5, 20, [(5, _), (4, _), (0, _), (1, _), (2, _), (3, _)], [_, _])) rfl ?_
      refine pm_Ev.cv rfl rfl rfl rfl (by decide) (Nat.le_of_ble_eq_true rfl) (Nat.le_of_ble_eq_true rfl) H.m188 H.o188 (ev_branchEnd L xs H hl N (by omega) (by omega)) ?_
      refine pm_Ev.go 3 (f' := (5, 29, [(6, _), (5, _), (4, _), (0, _), (1, _), (2, _), (3, _)], [_, _])) rfl ?_
      refine pm_Ev.jlt rfl (by omega) rfl (fun h1 => ?_) (fun h1 => ?_)
      · refine pm_Ev.go 2 (f' := (5, 44, [(6, _), (5, _), (4, _), (0, _), (1, _), (2, _), (3, _)], [_])) rfl ?_
        refine pm_Ev.call rfl rfl rfl rfl rfl (ev_ckS1 L xs) ?_
        refine pm_Ev.go 1 (f' := (5, 48, [(6, _), (5, _), (4, _), (0, _), (1, _), (2, _), (3, _)], [_])) rfl ?_
        refine pm_Ev.gf rfl rfl H.m0 H.o0 rfl ?_
        refine pm_Ev.go 1 (f' := (5, 53, [(6, _), (5, _), (4, _), (0, _), (1, _), (2, _), (3, _)], [_, _])) rfl ?_
        refine pm_Ev.cv rfl rfl rfl rfl (by decide) (Nat.le_of_ble_eq_true rfl) (Nat.le_of_ble_eq_true rfl) H.m188 H.o188 (ev_childCount L xs H hl N u0 u1) ?_
        refine pm_Ev.go 1 (f' := (5, 57, [(6, _), (5, _), (4, _), (0, _), (1, _), (2, _), (3, _)], [_, _])) rfl ?_
        refine pm_Ev.gf rfl rfl H.m0 H.o0 rfl ?_
        refine pm_Ev.go 1 (f' := (5, 62, [(6, _), (5, _), (4, _), (0, _), (1, _), (2, _), (3, _)], [_, _, _])) rfl ?_
        refine pm_Ev.cv rfl rfl rfl rfl (by decide) (Nat.le_of_ble_eq_true rfl) (Nat.le_of_ble_eq_true rfl) H.m188 H.o188 (ev_parentPosition L xs H hl N b0 b1) ?_
        refine pm_Ev.go 1 (f' := (5, 67, [(6, _), (5, _), (4, _), (0, _), (1, _), (2, _), (3, _)], [_, _, _])) rfl ?_
        refine pm_Ev.jne rfl (by omega) rfl (fun h2 => ?_) (fun h2 => ?_)
        · exact absurd h2 (by omega)
        · refine pm_Ev.go 2 (f' := (5, 75, [(6, _), (5, _), (4, _), (0, _), (1, _), (2, _), (3, _)], [_, _])) rfl ?_
          refine pm_Ev.isub rfl ?_
          refine pm_Ev.go 4 (f' := (5, 82, [(7, _), (6, _), (5, _), (4, _), (0, _), (1, _), (2, _), (3, _)], [_, _, _])) rfl ?_
          refine pm_Ev.call rfl rfl rfl rfl rfl (ev_in1 L xs (by omega) d) ?_
          refine pm_Ev.call rfl rfl rfl rfl rfl (ev_ckN1 L xs) ?_
          refine pm_Ev.go 1 (f' := (5, 89, [(7, _), (6, _), (5, _), (4, _), (0, _), (1, _), (2, _), (3, _)], [_])) rfl ?_
          refine pm_Ev.gf rfl rfl H.m0 H.o0 rfl ?_
          refine pm_Ev.go 1 (f' := (5, 94, [(7, _), (6, _), (5, _), (4, _), (0, _), (1, _), (2, _), (3, _)], [_, _])) rfl ?_
          refine pm_Ev.cv rfl rfl rfl rfl (by decide) (Nat.le_of_ble_eq_true rfl) (Nat.le_of_ble_eq_true rfl) H.m188 H.o188 (ev_depthAt L xs H hl N u0 u1) ?_
          refine pm_Ev.go 1 (f' := (5, 98, [(7, _), (6, _), (5, _), (4, _), (0, _), (1, _), (2, _), (3, _)], [_, _])) rfl ?_
          refine pm_Ev.iadd rfl ?_
          refine pm_Ev.go 1 (f' := (5, 100, [(7, _), (6, _), (5, _), (4, _), (0, _), (1, _), (2, _), (3, _)], [_, _])) rfl ?_
          refine pm_Ev.gf rfl rfl H.m0 H.o0 rfl ?_
          refine pm_Ev.go 1 (f' := (5, 105, [(7, _), (6, _), (5, _), (4, _), (0, _), (1, _), (2, _), (3, _)], [_, _, _])) rfl ?_
          refine pm_Ev.cv rfl rfl rfl rfl (by decide) (Nat.le_of_ble_eq_true rfl) (Nat.le_of_ble_eq_true rfl) H.m188 H.o188 (ev_depthAt L xs H hl N (by omega) (Or.inl b1)) ?_
          refine pm_Ev.isub rfl ?_
          refine pm_Ev.go 2 (f' := (5, 112, [(8, _), (7, _), (6, _), (5, _), (4, _), (0, _), (1, _), (2, _), (3, _)], [_])) rfl ?_
          refine pm_Ev.gf rfl rfl H.m0 H.o0 rfl ?_
          refine pm_Ev.go 1 (f' := (5, 117, [(8, _), (7, _), (6, _), (5, _), (4, _), (0, _), (1, _), (2, _), (3, _)], [_, _])) rfl ?_
          refine pm_Ev.cv rfl rfl rfl rfl (by decide) (Nat.le_of_ble_eq_true rfl) (Nat.le_of_ble_eq_true rfl) H.m188 H.o188 (ev_deepestFrom L xs H hl N b0 b1 hv) ?_
          refine pm_Ev.go 1 (f' := (5, 122, [(8, _), (7, _), (6, _), (5, _), (4, _), (0, _), (1, _), (2, _), (3, _)], [_, _])) rfl ?_
          refine pm_Ev.iadd rfl ?_
          refine pm_Ev.bp rfl rfl ?_
          refine pm_Ev.jgt rfl (by omega) rfl (fun h3 => ?_) (fun h3 => ?_)
          · refine pm_Ev.go 1 (f' := (5, 133, [(8, _), (7, _), (6, _), (5, _), (4, _), (0, _), (1, _), (2, _), (3, _)], [_])) rfl ?_
            exact pm_Ev.callT rfl rfl rfl rfl rfl (ev_ckL0 L xs) rfl
          · exact absurd h3 (by omega)
      · exact absurd h1 (by omega)
    · skip
      rw [if_neg x2] at d
      refine pm_Ev.go 2 (f' := (5, 2, [(0, _), (1, _), (2, _), (3, _)], [_, _])) rfl ?_
      refine pm_Ev.cv rfl rfl rfl rfl (by decide) (Nat.le_of_ble_eq_true rfl) (Nat.le_of_ble_eq_true rfl) H.m0 H.o0 (ev_pos L xs H hl N b0 b1) ?_
      refine pm_Ev.go 3 (f' := (5, 9, [(4, _), (0, _), (1, _), (2, _), (3, _)], [_, _])) rfl ?_
      refine pm_Ev.cv rfl rfl rfl rfl (by decide) (Nat.le_of_ble_eq_true rfl) (Nat.le_of_ble_eq_true rfl) H.m0 H.o0 (ev_por L xs H hl N u0 u1) ?_
      refine pm_Ev.go 2 (f' := (5, 15, [(5, _), (4, _), (0, _), (1, _), (2, _), (3, _)], [_])) rfl ?_
      refine pm_Ev.gf rfl rfl H.m0 H.o0 rfl ?_
      refine pm_Ev.go 1 (f' := (5, 20, [(5, _), (4, _), (0, _), (1, _), (2, _), (3, _)], [_, _])) rfl ?_
      refine pm_Ev.cv rfl rfl rfl rfl (by decide) (Nat.le_of_ble_eq_true rfl) (Nat.le_of_ble_eq_true rfl) H.m188 H.o188 (ev_branchEnd L xs H hl N (by omega) (by omega)) ?_
      refine pm_Ev.go 3 (f' := (5, 29, [(6, _), (5, _), (4, _), (0, _), (1, _), (2, _), (3, _)], [_, _])) rfl ?_
      refine pm_Ev.jlt rfl (by omega) rfl (fun h1 => ?_) (fun h1 => ?_)
      · refine pm_Ev.go 2 (f' := (5, 44, [(6, _), (5, _), (4, _), (0, _), (1, _), (2, _), (3, _)], [_])) rfl ?_
        refine pm_Ev.call rfl rfl rfl rfl rfl (ev_ckS1 L xs) ?_
        refine pm_Ev.go 1 (f' := (5, 48, [(6, _), (5, _), (4, _), (0, _), (1, _), (2, _), (3, _)], [_])) rfl ?_
        refine pm_Ev.gf rfl rfl H.m0 H.o0 rfl ?_
        refine pm_Ev.go 1 (f' := (5, 53, [(6, _), (5, _), (4, _), (0, _), (1, _), (2, _), (3, _)], [_, _])) rfl ?_
        refine pm_Ev.cv rfl rfl rfl rfl (by decide) (Nat.le_of_ble_eq_true rfl) (Nat.le_of_ble_eq_true rfl) H.m188 H.o188 (ev_childCount L xs H hl N u0 u1) ?_
        refine pm_Ev.go 1 (f' := (5, 57, [(6, _), (5, _), (4, _), (0, _), (1, _), (2, _), (3, _)], [_, _])) rfl ?_
        refine pm_Ev.gf rfl rfl H.m0 H.o0 rfl ?_
        refine pm_Ev.go 1 (f' := (5, 62, [(6, _), (5, _), (4, _), (0, _), (1, _), (2, _), (3, _)], [_, _, _])) rfl ?_
        refine pm_Ev.cv rfl rfl rfl rfl (by decide) (Nat.le_of_ble_eq_true rfl) (Nat.le_of_ble_eq_true rfl) H.m188 H.o188 (ev_parentPosition L xs H hl N b0 b1) ?_
        refine pm_Ev.go 1 (f' := (5, 67, [(6, _), (5, _), (4, _), (0, _), (1, _), (2, _), (3, _)], [_, _, _])) rfl ?_
        refine pm_Ev.jne rfl (by omega) rfl (fun h2 => ?_) (fun h2 => ?_)
        · refine pm_Ev.go 1 (f' := (5, 75, [(6, _), (5, _), (4, _), (0, _), (1, _), (2, _), (3, _)], [_, _])) rfl ?_
          refine pm_Ev.isub rfl ?_
          refine pm_Ev.go 4 (f' := (5, 82, [(7, _), (6, _), (5, _), (4, _), (0, _), (1, _), (2, _), (3, _)], [_, _, _])) rfl ?_
          refine pm_Ev.call rfl rfl rfl rfl rfl (ev_in1 L xs (by omega) d) ?_
          refine pm_Ev.call rfl rfl rfl rfl rfl (ev_ckN1 L xs) ?_
          refine pm_Ev.go 1 (f' := (5, 89, [(7, _), (6, _), (5, _), (4, _), (0, _), (1, _), (2, _), (3, _)], [_])) rfl ?_
          refine pm_Ev.gf rfl rfl H.m0 H.o0 rfl ?_
          refine pm_Ev.go 1 (f' := (5, 94, [(7, _), (6, _), (5, _), (4, _), (0, _), (1, _), (2, _), (3, _)], [_, _])) rfl ?_
          refine pm_Ev.cv rfl rfl rfl rfl (by decide) (Nat.le_of_ble_eq_true rfl) (Nat.le_of_ble_eq_true rfl) H.m188 H.o188 (ev_depthAt L xs H hl N u0 u1) ?_
          refine pm_Ev.go 1 (f' := (5, 98, [(7, _), (6, _), (5, _), (4, _), (0, _), (1, _), (2, _), (3, _)], [_, _])) rfl ?_
          refine pm_Ev.iadd rfl ?_
          refine pm_Ev.go 1 (f' := (5, 100, [(7, _), (6, _), (5, _), (4, _), (0, _), (1, _), (2, _), (3, _)], [_, _])) rfl ?_
          refine pm_Ev.gf rfl rfl H.m0 H.o0 rfl ?_
          refine pm_Ev.go 1 (f' := (5, 105, [(7, _), (6, _), (5, _), (4, _), (0, _), (1, _), (2, _), (3, _)], [_, _, _])) rfl ?_
          refine pm_Ev.cv rfl rfl rfl rfl (by decide) (Nat.le_of_ble_eq_true rfl) (Nat.le_of_ble_eq_true rfl) H.m188 H.o188 (ev_depthAt L xs H hl N (by omega) (Or.inl b1)) ?_
          refine pm_Ev.isub rfl ?_
          refine pm_Ev.go 2 (f' := (5, 112, [(8, _), (7, _), (6, _), (5, _), (4, _), (0, _), (1, _), (2, _), (3, _)], [_])) rfl ?_
          refine pm_Ev.gf rfl rfl H.m0 H.o0 rfl ?_
          refine pm_Ev.go 1 (f' := (5, 117, [(8, _), (7, _), (6, _), (5, _), (4, _), (0, _), (1, _), (2, _), (3, _)], [_, _])) rfl ?_
          refine pm_Ev.cv rfl rfl rfl rfl (by decide) (Nat.le_of_ble_eq_true rfl) (Nat.le_of_ble_eq_true rfl) H.m188 H.o188 (ev_deepestFrom L xs H hl N b0 b1 hv) ?_
          refine pm_Ev.go 1 (f' := (5, 122, [(8, _), (7, _), (6, _), (5, _), (4, _), (0, _), (1, _), (2, _), (3, _)], [_, _])) rfl ?_
          refine pm_Ev.iadd rfl ?_
          refine pm_Ev.bp rfl rfl ?_
          refine pm_Ev.jgt rfl (by omega) rfl (fun h3 => ?_) (fun h3 => ?_)
          · refine pm_Ev.go 1 (f' := (5, 133, [(8, _), (7, _), (6, _), (5, _), (4, _), (0, _), (1, _), (2, _), (3, _)], [_])) rfl ?_
            exact pm_Ev.callT rfl rfl rfl rfl rfl (ev_ckL0 L xs) rfl
          · exact absurd h3 (by omega)
        · exact absurd h2 (by omega)
      · exact absurd h1 (by omega)
  · skip
    by_cases x2 : fo_par (oD (hq_g ar 190)) b = r
    · skip
      rw [if_pos x2] at d
      refine pm_Ev.go 2 (f' := (5, 2, [(0, _), (1, _), (2, _), (3, _)], [_, _])) rfl ?_
      refine pm_Ev.cv rfl rfl rfl rfl (by decide) (Nat.le_of_ble_eq_true rfl) (Nat.le_of_ble_eq_true rfl) H.m0 H.o0 (ev_pos L xs H hl N b0 b1) ?_
      refine pm_Ev.go 3 (f' := (5, 9, [(4, _), (0, _), (1, _), (2, _), (3, _)], [_, _])) rfl ?_
      refine pm_Ev.cv rfl rfl rfl rfl (by decide) (Nat.le_of_ble_eq_true rfl) (Nat.le_of_ble_eq_true rfl) H.m0 H.o0 (ev_por L xs H hl N u0 u1) ?_
      refine pm_Ev.go 2 (f' := (5, 15, [(5, _), (4, _), (0, _), (1, _), (2, _), (3, _)], [_])) rfl ?_
      refine pm_Ev.gf rfl rfl H.m0 H.o0 rfl ?_
      refine pm_Ev.go 1 (f' := (5, 20, [(5, _), (4, _), (0, _), (1, _), (2, _), (3, _)], [_, _])) rfl ?_
      refine pm_Ev.cv rfl rfl rfl rfl (by decide) (Nat.le_of_ble_eq_true rfl) (Nat.le_of_ble_eq_true rfl) H.m188 H.o188 (ev_branchEnd L xs H hl N (by omega) (by omega)) ?_
      refine pm_Ev.go 3 (f' := (5, 29, [(6, _), (5, _), (4, _), (0, _), (1, _), (2, _), (3, _)], [_, _])) rfl ?_
      refine pm_Ev.jlt rfl (by omega) rfl (fun h1 => ?_) (fun h1 => ?_)
      · exact absurd h1 (by omega)
      · refine pm_Ev.go 2 (f' := (5, 36, [(6, _), (5, _), (4, _), (0, _), (1, _), (2, _), (3, _)], [_, _])) rfl ?_
        refine pm_Ev.jlt rfl (by omega) rfl (fun h2 => ?_) (fun h2 => ?_)
        · exact absurd h2 (by omega)
        · refine pm_Ev.go 2 (f' := (5, 44, [(6, _), (5, _), (4, _), (0, _), (1, _), (2, _), (3, _)], [_])) rfl ?_
          refine pm_Ev.call rfl rfl rfl rfl rfl (ev_ckS1 L xs) ?_
          refine pm_Ev.go 1 (f' := (5, 48, [(6, _), (5, _), (4, _), (0, _), (1, _), (2, _), (3, _)], [_])) rfl ?_
          refine pm_Ev.gf rfl rfl H.m0 H.o0 rfl ?_
          refine pm_Ev.go 1 (f' := (5, 53, [(6, _), (5, _), (4, _), (0, _), (1, _), (2, _), (3, _)], [_, _])) rfl ?_
          refine pm_Ev.cv rfl rfl rfl rfl (by decide) (Nat.le_of_ble_eq_true rfl) (Nat.le_of_ble_eq_true rfl) H.m188 H.o188 (ev_childCount L xs H hl N u0 u1) ?_
          refine pm_Ev.go 1 (f' := (5, 57, [(6, _), (5, _), (4, _), (0, _), (1, _), (2, _), (3, _)], [_, _])) rfl ?_
          refine pm_Ev.gf rfl rfl H.m0 H.o0 rfl ?_
          refine pm_Ev.go 1 (f' := (5, 62, [(6, _), (5, _), (4, _), (0, _), (1, _), (2, _), (3, _)], [_, _, _])) rfl ?_
          refine pm_Ev.cv rfl rfl rfl rfl (by decide) (Nat.le_of_ble_eq_true rfl) (Nat.le_of_ble_eq_true rfl) H.m188 H.o188 (ev_parentPosition L xs H hl N b0 b1) ?_
          refine pm_Ev.go 1 (f' := (5, 67, [(6, _), (5, _), (4, _), (0, _), (1, _), (2, _), (3, _)], [_, _, _])) rfl ?_
          refine pm_Ev.jne rfl (by omega) rfl (fun h3 => ?_) (fun h3 => ?_)
          · exact absurd h3 (by omega)
          · refine pm_Ev.go 2 (f' := (5, 75, [(6, _), (5, _), (4, _), (0, _), (1, _), (2, _), (3, _)], [_, _])) rfl ?_
            refine pm_Ev.isub rfl ?_
            refine pm_Ev.go 4 (f' := (5, 82, [(7, _), (6, _), (5, _), (4, _), (0, _), (1, _), (2, _), (3, _)], [_, _, _])) rfl ?_
            refine pm_Ev.call rfl rfl rfl rfl rfl (ev_in1 L xs (by omega) d) ?_
            refine pm_Ev.call rfl rfl rfl rfl rfl (ev_ckN1 L xs) ?_
            refine pm_Ev.go 1 (f' := (5, 89, [(7, _), (6, _), (5, _), (4, _), (0, _), (1, _), (2, _), (3, _)], [_])) rfl ?_
            refine pm_Ev.gf rfl rfl H.m0 H.o0 rfl ?_
            refine pm_Ev.go 1 (f' := (5, 94, [(7, _), (6, _), (5, _), (4, _), (0, _), (1, _), (2, _), (3, _)], [_, _])) rfl ?_
            refine pm_Ev.cv rfl rfl rfl rfl (by decide) (Nat.le_of_ble_eq_true rfl) (Nat.le_of_ble_eq_true rfl) H.m188 H.o188 (ev_depthAt L xs H hl N u0 u1) ?_
            refine pm_Ev.go 1 (f' := (5, 98, [(7, _), (6, _), (5, _), (4, _), (0, _), (1, _), (2, _), (3, _)], [_, _])) rfl ?_
            refine pm_Ev.iadd rfl ?_
            refine pm_Ev.go 1 (f' := (5, 100, [(7, _), (6, _), (5, _), (4, _), (0, _), (1, _), (2, _), (3, _)], [_, _])) rfl ?_
            refine pm_Ev.gf rfl rfl H.m0 H.o0 rfl ?_
            refine pm_Ev.go 1 (f' := (5, 105, [(7, _), (6, _), (5, _), (4, _), (0, _), (1, _), (2, _), (3, _)], [_, _, _])) rfl ?_
            refine pm_Ev.cv rfl rfl rfl rfl (by decide) (Nat.le_of_ble_eq_true rfl) (Nat.le_of_ble_eq_true rfl) H.m188 H.o188 (ev_depthAt L xs H hl N (by omega) (Or.inl b1)) ?_
            refine pm_Ev.isub rfl ?_
            refine pm_Ev.go 2 (f' := (5, 112, [(8, _), (7, _), (6, _), (5, _), (4, _), (0, _), (1, _), (2, _), (3, _)], [_])) rfl ?_
            refine pm_Ev.gf rfl rfl H.m0 H.o0 rfl ?_
            refine pm_Ev.go 1 (f' := (5, 117, [(8, _), (7, _), (6, _), (5, _), (4, _), (0, _), (1, _), (2, _), (3, _)], [_, _])) rfl ?_
            refine pm_Ev.cv rfl rfl rfl rfl (by decide) (Nat.le_of_ble_eq_true rfl) (Nat.le_of_ble_eq_true rfl) H.m188 H.o188 (ev_deepestFrom L xs H hl N b0 b1 hv) ?_
            refine pm_Ev.go 1 (f' := (5, 122, [(8, _), (7, _), (6, _), (5, _), (4, _), (0, _), (1, _), (2, _), (3, _)], [_, _])) rfl ?_
            refine pm_Ev.iadd rfl ?_
            refine pm_Ev.bp rfl rfl ?_
            refine pm_Ev.jgt rfl (by omega) rfl (fun h4 => ?_) (fun h4 => ?_)
            · refine pm_Ev.go 1 (f' := (5, 133, [(8, _), (7, _), (6, _), (5, _), (4, _), (0, _), (1, _), (2, _), (3, _)], [_])) rfl ?_
              exact pm_Ev.callT rfl rfl rfl rfl rfl (ev_ckL0 L xs) rfl
            · exact absurd h4 (by omega)
    · skip
      rw [if_neg x2] at d
      refine pm_Ev.go 2 (f' := (5, 2, [(0, _), (1, _), (2, _), (3, _)], [_, _])) rfl ?_
      refine pm_Ev.cv rfl rfl rfl rfl (by decide) (Nat.le_of_ble_eq_true rfl) (Nat.le_of_ble_eq_true rfl) H.m0 H.o0 (ev_pos L xs H hl N b0 b1) ?_
      refine pm_Ev.go 3 (f' := (5, 9, [(4, _), (0, _), (1, _), (2, _), (3, _)], [_, _])) rfl ?_
      refine pm_Ev.cv rfl rfl rfl rfl (by decide) (Nat.le_of_ble_eq_true rfl) (Nat.le_of_ble_eq_true rfl) H.m0 H.o0 (ev_por L xs H hl N u0 u1) ?_
      refine pm_Ev.go 2 (f' := (5, 15, [(5, _), (4, _), (0, _), (1, _), (2, _), (3, _)], [_])) rfl ?_
      refine pm_Ev.gf rfl rfl H.m0 H.o0 rfl ?_
      refine pm_Ev.go 1 (f' := (5, 20, [(5, _), (4, _), (0, _), (1, _), (2, _), (3, _)], [_, _])) rfl ?_
      refine pm_Ev.cv rfl rfl rfl rfl (by decide) (Nat.le_of_ble_eq_true rfl) (Nat.le_of_ble_eq_true rfl) H.m188 H.o188 (ev_branchEnd L xs H hl N (by omega) (by omega)) ?_
      refine pm_Ev.go 3 (f' := (5, 29, [(6, _), (5, _), (4, _), (0, _), (1, _), (2, _), (3, _)], [_, _])) rfl ?_
      refine pm_Ev.jlt rfl (by omega) rfl (fun h1 => ?_) (fun h1 => ?_)
      · exact absurd h1 (by omega)
      · refine pm_Ev.go 2 (f' := (5, 36, [(6, _), (5, _), (4, _), (0, _), (1, _), (2, _), (3, _)], [_, _])) rfl ?_
        refine pm_Ev.jlt rfl (by omega) rfl (fun h2 => ?_) (fun h2 => ?_)
        · exact absurd h2 (by omega)
        · refine pm_Ev.go 2 (f' := (5, 44, [(6, _), (5, _), (4, _), (0, _), (1, _), (2, _), (3, _)], [_])) rfl ?_
          refine pm_Ev.call rfl rfl rfl rfl rfl (ev_ckS1 L xs) ?_
          refine pm_Ev.go 1 (f' := (5, 48, [(6, _), (5, _), (4, _), (0, _), (1, _), (2, _), (3, _)], [_])) rfl ?_
          refine pm_Ev.gf rfl rfl H.m0 H.o0 rfl ?_
          refine pm_Ev.go 1 (f' := (5, 53, [(6, _), (5, _), (4, _), (0, _), (1, _), (2, _), (3, _)], [_, _])) rfl ?_
          refine pm_Ev.cv rfl rfl rfl rfl (by decide) (Nat.le_of_ble_eq_true rfl) (Nat.le_of_ble_eq_true rfl) H.m188 H.o188 (ev_childCount L xs H hl N u0 u1) ?_
          refine pm_Ev.go 1 (f' := (5, 57, [(6, _), (5, _), (4, _), (0, _), (1, _), (2, _), (3, _)], [_, _])) rfl ?_
          refine pm_Ev.gf rfl rfl H.m0 H.o0 rfl ?_
          refine pm_Ev.go 1 (f' := (5, 62, [(6, _), (5, _), (4, _), (0, _), (1, _), (2, _), (3, _)], [_, _, _])) rfl ?_
          refine pm_Ev.cv rfl rfl rfl rfl (by decide) (Nat.le_of_ble_eq_true rfl) (Nat.le_of_ble_eq_true rfl) H.m188 H.o188 (ev_parentPosition L xs H hl N b0 b1) ?_
          refine pm_Ev.go 1 (f' := (5, 67, [(6, _), (5, _), (4, _), (0, _), (1, _), (2, _), (3, _)], [_, _, _])) rfl ?_
          refine pm_Ev.jne rfl (by omega) rfl (fun h3 => ?_) (fun h3 => ?_)
          · refine pm_Ev.go 1 (f' := (5, 75, [(6, _), (5, _), (4, _), (0, _), (1, _), (2, _), (3, _)], [_, _])) rfl ?_
            refine pm_Ev.isub rfl ?_
            refine pm_Ev.go 4 (f' := (5, 82, [(7, _), (6, _), (5, _), (4, _), (0, _), (1, _), (2, _), (3, _)], [_, _, _])) rfl ?_
            refine pm_Ev.call rfl rfl rfl rfl rfl (ev_in1 L xs (by omega) d) ?_
            refine pm_Ev.call rfl rfl rfl rfl rfl (ev_ckN1 L xs) ?_
            refine pm_Ev.go 1 (f' := (5, 89, [(7, _), (6, _), (5, _), (4, _), (0, _), (1, _), (2, _), (3, _)], [_])) rfl ?_
            refine pm_Ev.gf rfl rfl H.m0 H.o0 rfl ?_
            refine pm_Ev.go 1 (f' := (5, 94, [(7, _), (6, _), (5, _), (4, _), (0, _), (1, _), (2, _), (3, _)], [_, _])) rfl ?_
            refine pm_Ev.cv rfl rfl rfl rfl (by decide) (Nat.le_of_ble_eq_true rfl) (Nat.le_of_ble_eq_true rfl) H.m188 H.o188 (ev_depthAt L xs H hl N u0 u1) ?_
            refine pm_Ev.go 1 (f' := (5, 98, [(7, _), (6, _), (5, _), (4, _), (0, _), (1, _), (2, _), (3, _)], [_, _])) rfl ?_
            refine pm_Ev.iadd rfl ?_
            refine pm_Ev.go 1 (f' := (5, 100, [(7, _), (6, _), (5, _), (4, _), (0, _), (1, _), (2, _), (3, _)], [_, _])) rfl ?_
            refine pm_Ev.gf rfl rfl H.m0 H.o0 rfl ?_
            refine pm_Ev.go 1 (f' := (5, 105, [(7, _), (6, _), (5, _), (4, _), (0, _), (1, _), (2, _), (3, _)], [_, _, _])) rfl ?_
            refine pm_Ev.cv rfl rfl rfl rfl (by decide) (Nat.le_of_ble_eq_true rfl) (Nat.le_of_ble_eq_true rfl) H.m188 H.o188 (ev_depthAt L xs H hl N (by omega) (Or.inl b1)) ?_
            refine pm_Ev.isub rfl ?_
            refine pm_Ev.go 2 (f' := (5, 112, [(8, _), (7, _), (6, _), (5, _), (4, _), (0, _), (1, _), (2, _), (3, _)], [_])) rfl ?_
            refine pm_Ev.gf rfl rfl H.m0 H.o0 rfl ?_
            refine pm_Ev.go 1 (f' := (5, 117, [(8, _), (7, _), (6, _), (5, _), (4, _), (0, _), (1, _), (2, _), (3, _)], [_, _])) rfl ?_
            refine pm_Ev.cv rfl rfl rfl rfl (by decide) (Nat.le_of_ble_eq_true rfl) (Nat.le_of_ble_eq_true rfl) H.m188 H.o188 (ev_deepestFrom L xs H hl N b0 b1 hv) ?_
            refine pm_Ev.go 1 (f' := (5, 122, [(8, _), (7, _), (6, _), (5, _), (4, _), (0, _), (1, _), (2, _), (3, _)], [_, _])) rfl ?_
            refine pm_Ev.iadd rfl ?_
            refine pm_Ev.bp rfl rfl ?_
            refine pm_Ev.jgt rfl (by omega) rfl (fun h4 => ?_) (fun h4 => ?_)
            · refine pm_Ev.go 1 (f' := (5, 133, [(8, _), (7, _), (6, _), (5, _), (4, _), (0, _), (1, _), (2, _), (3, _)], [_])) rfl ?_
              exact pm_Ev.callT rfl rfl rfl rfl rfl (ev_ckL0 L xs) rfl
            · exact absurd h4 (by omega)
          · exact absurd h3 (by omega)
theorem ev_dpromote1 (H : Hp σ ad z ar lr) (hl : od_L z ar) (N : od_N (hq_g ar 190) (z 8)) {p : Int} (hp : -2147483648 ≤ p ∧ p ≤ 2147483647) (n2 : ∀ x, 0 ≤ x → x < (hq_g ar 190 0) → (oI (hq_g ar 190)) x ≠ p) : pm_Ev (tq_P L xs) (pm_enter 6 [.ref 0, .int (zI p)]) σ (.inr σ.2.1, pm_add σ (.inr (9, [])) 6) := by
  show pm_Ev (tq_P L xs) (6, 0, [(0, .ref 0), (1, .int (zI p))], []) σ _
  refine pm_Ev.go 2 (f' := (6, 2, [(0, _), (1, _)], [_, _])) rfl ?_
  exact pm_Ev.cvT rfl rfl rfl rfl (by decide) (Nat.le_of_ble_eq_true rfl) (Nat.le_of_ble_eq_true rfl) H.m0 H.o0 (ev_posT L xs H hl N hp n2) rfl
theorem ev_dpromote2 (H : Hp σ ad z ar lr) (hl : od_L z ar) (N : od_N (hq_g ar 190) (z 8)) {b : Int} (b0 : 0 ≤ b) (b1 : b < (hq_g ar 190 0)) (c : fo_par (oD (hq_g ar 190)) b = -1) : pm_Ev (tq_P L xs) (pm_enter 6 [.ref 0, .int (zI ((oI (hq_g ar 190)) b))]) σ (.inr σ.2.1, pm_add σ (.inr (8, [])) 6) := by
  show pm_Ev (tq_P L xs) (6, 0, [(0, .ref 0), (1, .int (zI ((oI (hq_g ar 190)) b)))], []) σ _
  have P := fo_par_P N.W b0 b1
  have p0 := P.1
  have p1 := P.2.1
  have nm := N.nm
  have m4 := N.m4
  refine pm_Ev.go 2 (f' := (6, 2, [(0, _), (1, _)], [_, _])) rfl ?_
  refine pm_Ev.cv rfl rfl rfl rfl (by decide) (Nat.le_of_ble_eq_true rfl) (Nat.le_of_ble_eq_true rfl) H.m0 H.o0 (ev_pos L xs H hl N b0 b1) ?_
  refine pm_Ev.go 2 (f' := (6, 7, [(2, _), (0, _), (1, _)], [_])) rfl ?_
  refine pm_Ev.gf rfl rfl H.m0 H.o0 rfl ?_
  refine pm_Ev.go 1 (f' := (6, 11, [(2, _), (0, _), (1, _)], [_, _])) rfl ?_
  refine pm_Ev.cv rfl rfl rfl rfl (by decide) (Nat.le_of_ble_eq_true rfl) (Nat.le_of_ble_eq_true rfl) H.m188 H.o188 (ev_parentPosition L xs H hl N b0 b1) ?_
  refine pm_Ev.go 3 (f' := (6, 17, [(3, _), (2, _), (0, _), (1, _)], [_, _])) rfl ?_
  refine pm_Ev.jeq rfl (by omega) rfl (fun h1 => ?_) (fun h1 => ?_)
  · refine pm_Ev.go 1 (f' := (6, 25, [(3, _), (2, _), (0, _), (1, _)], [_])) rfl ?_
    exact pm_Ev.callT rfl rfl rfl rfl rfl (ev_ckS0 L xs) rfl
  · exact absurd h1 (by omega)
theorem ev_ddemote1 (H : Hp σ ad z ar lr) (hl : od_L z ar) (N : od_N (hq_g ar 190) (z 8)) {p : Int} (hp : -2147483648 ≤ p ∧ p ≤ 2147483647) (n2 : ∀ x, 0 ≤ x → x < (hq_g ar 190 0) → (oI (hq_g ar 190)) x ≠ p) : pm_Ev (tq_P L xs) (pm_enter 7 [.ref 0, .int (zI p)]) σ (.inr σ.2.1, pm_add σ (.inr (9, [])) 6) := by
  show pm_Ev (tq_P L xs) (7, 0, [(0, .ref 0), (1, .int (zI p))], []) σ _
  refine pm_Ev.go 2 (f' := (7, 2, [(0, _), (1, _)], [_, _])) rfl ?_
  exact pm_Ev.cvT rfl rfl rfl rfl (by decide) (Nat.le_of_ble_eq_true rfl) (Nat.le_of_ble_eq_true rfl) H.m0 H.o0 (ev_posT L xs H hl N hp n2) rfl
theorem ev_ddemote2 (H : Hp σ ad z ar lr) (hl : od_L z ar) (N : od_N (hq_g ar 190) (z 8)) {b : Int} (b0 : 0 ≤ b) (b1 : b < (hq_g ar 190 0)) (c : fo_pl (oD (hq_g ar 190)) b = 0) : pm_Ev (tq_P L xs) (pm_enter 7 [.ref 0, .int (zI ((oI (hq_g ar 190)) b))]) σ (.inr σ.2.1, pm_add σ (.inr (8, [])) 6) := by
  show pm_Ev (tq_P L xs) (7, 0, [(0, .ref 0), (1, .int (zI ((oI (hq_g ar 190)) b)))], []) σ _
  have P := fo_par_P N.W b0 b1
  have p0 := P.1
  have p1 := P.2.1
  have nm := N.nm
  have m4 := N.m4
  have c0 := fo_c_nn (oD (hq_g ar 190)) ((oD (hq_g ar 190)) b) (fo_par (oD (hq_g ar 190)) b + 1) b
  have c1 := fo_c_le (D := (oD (hq_g ar 190))) (v := (oD (hq_g ar 190)) b) (a := fo_par (oD (hq_g ar 190)) b + 1) (b := b) (by omega)
  have pe : fo_pl (oD (hq_g ar 190)) b = fo_c (oD (hq_g ar 190)) ((oD (hq_g ar 190)) b) (fo_par (oD (hq_g ar 190)) b + 1) b := rfl
  refine pm_Ev.go 2 (f' := (7, 2, [(0, _), (1, _)], [_, _])) rfl ?_
  refine pm_Ev.cv rfl rfl rfl rfl (by decide) (Nat.le_of_ble_eq_true rfl) (Nat.le_of_ble_eq_true rfl) H.m0 H.o0 (ev_pos L xs H hl N b0 b1) ?_
  refine pm_Ev.go 2 (f' := (7, 7, [(2, _), (0, _), (1, _)], [_])) rfl ?_
  refine pm_Ev.gf rfl rfl H.m0 H.o0 rfl ?_
  refine pm_Ev.go 1 (f' := (7, 11, [(2, _), (0, _), (1, _)], [_, _])) rfl ?_
  refine pm_Ev.cv rfl rfl rfl rfl (by decide) (Nat.le_of_ble_eq_true rfl) (Nat.le_of_ble_eq_true rfl) H.m188 H.o188 (ev_placeAt L xs H hl N b0 b1) ?_
  refine pm_Ev.zle rfl (by omega) rfl (fun h1 => ?_) (fun h1 => ?_)
  · refine pm_Ev.go 1 (f' := (7, 22, [(2, _), (0, _), (1, _)], [_])) rfl ?_
    exact pm_Ev.callT rfl rfl rfl rfl rfl (ev_ckS0 L xs) rfl
  · exact absurd h1 (by omega)
theorem ev_ddemote3 (H : Hp σ ad z ar lr) (hl : od_L z ar) (N : od_N (hq_g ar 190) (z 8)) {b : Int} (b0 : 0 ≤ b) (b1 : b < (hq_g ar 190 0)) {v : Int} (hv : fo_hi (oD (hq_g ar 190)) b (fo_end (oD (hq_g ar 190)) (hq_g ar 190 0) b) v) (c : fo_pl (oD (hq_g ar 190)) b ≠ 0) (d : 12 < v + 1) : pm_Ev (tq_P L xs) (pm_enter 7 [.ref 0, .int (zI ((oI (hq_g ar 190)) b))]) σ (.inr σ.2.1, pm_add σ (.inr (10, [])) 6) := by
  show pm_Ev (tq_P L xs) (7, 0, [(0, .ref 0), (1, .int (zI ((oI (hq_g ar 190)) b)))], []) σ _
  have P := fo_par_P N.W b0 b1
  have p0 := P.1
  have p1 := P.2.1
  have nm := N.nm
  have m4 := N.m4
  have c0 := fo_c_nn (oD (hq_g ar 190)) ((oD (hq_g ar 190)) b) (fo_par (oD (hq_g ar 190)) b + 1) b
  have c1 := fo_c_le (D := (oD (hq_g ar 190))) (v := (oD (hq_g ar 190)) b) (a := fo_par (oD (hq_g ar 190)) b + 1) (b := b) (by omega)
  have pe : fo_pl (oD (hq_g ar 190)) b = fo_c (oD (hq_g ar 190)) ((oD (hq_g ar 190)) b) (fo_par (oD (hq_g ar 190)) b + 1) b := rfl
  have B := fo_end_B (D := (oD (hq_g ar 190))) b1
  have bb := B.1
  have be := B.2.1
  have hb := hv.1 b (by omega) (by omega)
  have vv : v ≤ 12 := by
    obtain ⟨y, y0, y1, y2⟩ := hv.2
    have := N.dp y (by omega) (by omega)
    omega
  refine pm_Ev.go 2 (f' := (7, 2, [(0, _), (1, _)], [_, _])) rfl ?_
  refine pm_Ev.cv rfl rfl rfl rfl (by decide) (Nat.le_of_ble_eq_true rfl) (Nat.le_of_ble_eq_true rfl) H.m0 H.o0 (ev_pos L xs H hl N b0 b1) ?_
  refine pm_Ev.go 2 (f' := (7, 7, [(2, _), (0, _), (1, _)], [_])) rfl ?_
  refine pm_Ev.gf rfl rfl H.m0 H.o0 rfl ?_
  refine pm_Ev.go 1 (f' := (7, 11, [(2, _), (0, _), (1, _)], [_, _])) rfl ?_
  refine pm_Ev.cv rfl rfl rfl rfl (by decide) (Nat.le_of_ble_eq_true rfl) (Nat.le_of_ble_eq_true rfl) H.m188 H.o188 (ev_placeAt L xs H hl N b0 b1) ?_
  refine pm_Ev.zle rfl (by omega) rfl (fun h1 => ?_) (fun h1 => ?_)
  · exact absurd h1 (by omega)
  · refine pm_Ev.go 2 (f' := (7, 22, [(2, _), (0, _), (1, _)], [_])) rfl ?_
    refine pm_Ev.call rfl rfl rfl rfl rfl (ev_ckS1 L xs) ?_
    refine pm_Ev.go 1 (f' := (7, 26, [(2, _), (0, _), (1, _)], [_])) rfl ?_
    refine pm_Ev.gf rfl rfl H.m0 H.o0 rfl ?_
    refine pm_Ev.go 1 (f' := (7, 30, [(2, _), (0, _), (1, _)], [_, _])) rfl ?_
    refine pm_Ev.cv rfl rfl rfl rfl (by decide) (Nat.le_of_ble_eq_true rfl) (Nat.le_of_ble_eq_true rfl) H.m188 H.o188 (ev_deepestFrom L xs H hl N b0 b1 hv) ?_
    refine pm_Ev.bp rfl rfl ?_
    refine pm_Ev.jge rfl (by omega) rfl (fun h2 => ?_) (fun h2 => ?_)
    · refine pm_Ev.go 1 (f' := (7, 43, [(2, _), (0, _), (1, _)], [_])) rfl ?_
      exact pm_Ev.callT rfl rfl rfl rfl rfl (ev_ckL0 L xs) rfl
    · exact absurd h2 (by omega)
theorem ev_dtitle1 (H : Hp σ ad z ar lr) (hl : od_L z ar) (N : od_N (hq_g ar 190) (z 8)) {p v : Int} (hp : -2147483648 ≤ p ∧ p ≤ 2147483647) (n2 : ∀ x, 0 ≤ x → x < (hq_g ar 190 0) → (oI (hq_g ar 190)) x ≠ p) : pm_Ev (tq_P L xs) (pm_enter 8 [.ref 0, .int (zI p), .int (zI v)]) σ (.inr σ.2.1, pm_add σ (.inr (9, [])) 6) := by
  show pm_Ev (tq_P L xs) (8, 0, [(0, .ref 0), (1, .int (zI p)), (2, .int (zI v))], []) σ _
  refine pm_Ev.go 2 (f' := (8, 2, [(0, _), (1, _), (2, _)], [_, _])) rfl ?_
  exact pm_Ev.cvT rfl rfl rfl rfl (by decide) (Nat.le_of_ble_eq_true rfl) (Nat.le_of_ble_eq_true rfl) H.m0 H.o0 (ev_posT L xs H hl N hp n2) rfl
theorem ev_dtitle2 (H : Hp σ ad z ar lr) (hl : od_L z ar) (N : od_N (hq_g ar 190) (z 8)) {b : Int} (b0 : 0 ≤ b) (b1 : b < (hq_g ar 190 0)) {v : Int} (hv : -2147483648 ≤ v ∧ v ≤ 2147483647) (c : ¬ (0 ≤ v ∧ v ≤ 999999)) : pm_Ev (tq_P L xs) (pm_enter 8 [.ref 0, .int (zI ((oI (hq_g ar 190)) b)), .int (zI v)]) σ (.inr σ.2.1, pm_add σ (.inr (7, [])) 6) := by
  show pm_Ev (tq_P L xs) (8, 0, [(0, .ref 0), (1, .int (zI ((oI (hq_g ar 190)) b))), (2, .int (zI v))], []) σ _
  refine pm_Ev.go 2 (f' := (8, 2, [(0, _), (1, _), (2, _)], [_, _])) rfl ?_
  refine pm_Ev.cv rfl rfl rfl rfl (by decide) (Nat.le_of_ble_eq_true rfl) (Nat.le_of_ble_eq_true rfl) H.m0 H.o0 (ev_pos L xs H hl N b0 b1) ?_
  refine pm_Ev.go 3 (f' := (8, 8, [(0, _), (1, _), (2, _)], [_, _])) rfl ?_
  refine pm_Ev.cc1 (999999) rfl rfl rfl ?_
  refine pm_Ev.call rfl rfl rfl rfl rfl (ev_in0 L xs (by omega) c) ?_
  exact pm_Ev.callT rfl rfl rfl rfl rfl (ev_ckN0 L xs) rfl
theorem ev_drank1 (H : Hp σ ad z ar lr) (hl : od_L z ar) (N : od_N (hq_g ar 190) (z 8)) {p v : Int} (hp : -2147483648 ≤ p ∧ p ≤ 2147483647) (n2 : ∀ x, 0 ≤ x → x < (hq_g ar 190 0) → (oI (hq_g ar 190)) x ≠ p) : pm_Ev (tq_P L xs) (pm_enter 10 [.ref 0, .int (zI p), .int (zI v)]) σ (.inr σ.2.1, pm_add σ (.inr (9, [])) 6) := by
  show pm_Ev (tq_P L xs) (10, 0, [(0, .ref 0), (1, .int (zI p)), (2, .int (zI v))], []) σ _
  refine pm_Ev.go 2 (f' := (10, 2, [(0, _), (1, _), (2, _)], [_, _])) rfl ?_
  exact pm_Ev.cvT rfl rfl rfl rfl (by decide) (Nat.le_of_ble_eq_true rfl) (Nat.le_of_ble_eq_true rfl) H.m0 H.o0 (ev_posT L xs H hl N hp n2) rfl
theorem ev_drank2 (H : Hp σ ad z ar lr) (hl : od_L z ar) (N : od_N (hq_g ar 190) (z 8)) {b : Int} (b0 : 0 ≤ b) (b1 : b < (hq_g ar 190 0)) {v : Int} (hv : -2147483648 ≤ v ∧ v ≤ 2147483647) (c : ¬ (0 ≤ v ∧ v ≤ 3)) : pm_Ev (tq_P L xs) (pm_enter 10 [.ref 0, .int (zI ((oI (hq_g ar 190)) b)), .int (zI v)]) σ (.inr σ.2.1, pm_add σ (.inr (7, [])) 6) := by
  show pm_Ev (tq_P L xs) (10, 0, [(0, .ref 0), (1, .int (zI ((oI (hq_g ar 190)) b))), (2, .int (zI v))], []) σ _
  refine pm_Ev.go 2 (f' := (10, 2, [(0, _), (1, _), (2, _)], [_, _])) rfl ?_
  refine pm_Ev.cv rfl rfl rfl rfl (by decide) (Nat.le_of_ble_eq_true rfl) (Nat.le_of_ble_eq_true rfl) H.m0 H.o0 (ev_pos L xs H hl N b0 b1) ?_
  refine pm_Ev.go 4 (f' := (10, 9, [(0, _), (1, _), (2, _)], [_, _, _])) rfl ?_
  refine pm_Ev.call rfl rfl rfl rfl rfl (ev_in0 L xs (by omega) c) ?_
  exact pm_Ev.callT rfl rfl rfl rfl rfl (ev_ckN0 L xs) rfl
theorem ev_dstate1 (H : Hp σ ad z ar lr) (hl : od_L z ar) (N : od_N (hq_g ar 190) (z 8)) {p v : Int} (hp : -2147483648 ≤ p ∧ p ≤ 2147483647) (n2 : ∀ x, 0 ≤ x → x < (hq_g ar 190 0) → (oI (hq_g ar 190)) x ≠ p) : pm_Ev (tq_P L xs) (pm_enter 9 [.ref 0, .int (zI p), .int (zI v)]) σ (.inr σ.2.1, pm_add σ (.inr (9, [])) 6) := by
  show pm_Ev (tq_P L xs) (9, 0, [(0, .ref 0), (1, .int (zI p)), (2, .int (zI v))], []) σ _
  refine pm_Ev.go 2 (f' := (9, 2, [(0, _), (1, _), (2, _)], [_, _])) rfl ?_
  exact pm_Ev.cvT rfl rfl rfl rfl (by decide) (Nat.le_of_ble_eq_true rfl) (Nat.le_of_ble_eq_true rfl) H.m0 H.o0 (ev_posT L xs H hl N hp n2) rfl
theorem ev_dstate2 (H : Hp σ ad z ar lr) (hl : od_L z ar) (N : od_N (hq_g ar 190) (z 8)) {b : Int} (b0 : 0 ≤ b) (b1 : b < (hq_g ar 190 0)) {v : Int} (hv : -2147483648 ≤ v ∧ v ≤ 2147483647) (c : ¬ (0 ≤ v ∧ v ≤ 4)) : pm_Ev (tq_P L xs) (pm_enter 9 [.ref 0, .int (zI ((oI (hq_g ar 190)) b)), .int (zI v)]) σ (.inr σ.2.1, pm_add σ (.inr (7, [])) 6) := by
  show pm_Ev (tq_P L xs) (9, 0, [(0, .ref 0), (1, .int (zI ((oI (hq_g ar 190)) b))), (2, .int (zI v))], []) σ _
  refine pm_Ev.go 2 (f' := (9, 2, [(0, _), (1, _), (2, _)], [_, _])) rfl ?_
  refine pm_Ev.cv rfl rfl rfl rfl (by decide) (Nat.le_of_ble_eq_true rfl) (Nat.le_of_ble_eq_true rfl) H.m0 H.o0 (ev_pos L xs H hl N b0 b1) ?_
  refine pm_Ev.go 4 (f' := (9, 9, [(0, _), (1, _), (2, _)], [_, _, _])) rfl ?_
  refine pm_Ev.call rfl rfl rfl rfl rfl (ev_in0 L xs (by omega) c) ?_
  exact pm_Ev.callT rfl rfl rfl rfl rfl (ev_ckN0 L xs) rfl
theorem ev_dtag1 (H : Hp σ ad z ar lr) (hl : od_L z ar) (N : od_N (hq_g ar 190) (z 8)) {p q v : Int} (hp : -2147483648 ≤ p ∧ p ≤ 2147483647) (n2 : ∀ x, 0 ≤ x → x < (hq_g ar 190 0) → (oI (hq_g ar 190)) x ≠ p) : pm_Ev (tq_P L xs) (pm_enter 11 [.ref 0, .int (zI p), .int (zI q), .int (zI v)]) σ (.inr σ.2.1, pm_add σ (.inr (9, [])) 6) := by
  show pm_Ev (tq_P L xs) (11, 0, [(0, .ref 0), (1, .int (zI p)), (2, .int (zI q)), (3, .int (zI v))], []) σ _
  refine pm_Ev.go 2 (f' := (11, 2, [(0, _), (1, _), (2, _), (3, _)], [_, _])) rfl ?_
  exact pm_Ev.cvT rfl rfl rfl rfl (by decide) (Nat.le_of_ble_eq_true rfl) (Nat.le_of_ble_eq_true rfl) H.m0 H.o0 (ev_posT L xs H hl N hp n2) rfl
theorem ev_dtag2 (H : Hp σ ad z ar lr) (hl : od_L z ar) (N : od_N (hq_g ar 190) (z 8)) {b : Int} (b0 : 0 ≤ b) (b1 : b < (hq_g ar 190 0)) {q v : Int} (hq : -2147483648 ≤ q ∧ q ≤ 2147483647) (c : ¬ (0 ≤ q ∧ q ≤ 23)) : pm_Ev (tq_P L xs) (pm_enter 11 [.ref 0, .int (zI ((oI (hq_g ar 190)) b)), .int (zI q), .int (zI v)]) σ (.inr σ.2.1, pm_add σ (.inr (7, [])) 6) := by
  show pm_Ev (tq_P L xs) (11, 0, [(0, .ref 0), (1, .int (zI ((oI (hq_g ar 190)) b))), (2, .int (zI q)), (3, .int (zI v))], []) σ _
  refine pm_Ev.go 2 (f' := (11, 2, [(0, _), (1, _), (2, _), (3, _)], [_, _])) rfl ?_
  refine pm_Ev.cv rfl rfl rfl rfl (by decide) (Nat.le_of_ble_eq_true rfl) (Nat.le_of_ble_eq_true rfl) H.m0 H.o0 (ev_pos L xs H hl N b0 b1) ?_
  refine pm_Ev.go 3 (f' := (11, 8, [(0, _), (1, _), (2, _), (3, _)], [_, _])) rfl ?_
  refine pm_Ev.bp rfl rfl ?_
  refine pm_Ev.call rfl rfl rfl rfl rfl (ev_in0 L xs (by omega) c) ?_
  exact pm_Ev.callT rfl rfl rfl rfl rfl (ev_ckN0 L xs) rfl
theorem ev_dfold1 (H : Hp σ ad z ar lr) (hl : od_L z ar) (N : od_N (hq_g ar 190) (z 8)) {p v : Int} (hp : -2147483648 ≤ p ∧ p ≤ 2147483647) (n2 : ∀ x, 0 ≤ x → x < (hq_g ar 190 0) → (oI (hq_g ar 190)) x ≠ p) : pm_Ev (tq_P L xs) (pm_enter 14 [.ref 0, .int (zI p), .int (zI v)]) σ (.inr σ.2.1, pm_add σ (.inr (9, [])) 6) := by
  show pm_Ev (tq_P L xs) (14, 0, [(0, .ref 0), (1, .int (zI p)), (2, .int (zI v))], []) σ _
  refine pm_Ev.go 2 (f' := (14, 2, [(0, _), (1, _), (2, _)], [_, _])) rfl ?_
  exact pm_Ev.cvT rfl rfl rfl rfl (by decide) (Nat.le_of_ble_eq_true rfl) (Nat.le_of_ble_eq_true rfl) H.m0 H.o0 (ev_posT L xs H hl N hp n2) rfl
theorem ev_dminutes1 (H : Hp σ ad z ar lr) (hl : od_L z ar) (N : od_N (hq_g ar 190) (z 8)) {p q v : Int} (hp : -2147483648 ≤ p ∧ p ≤ 2147483647) (n2 : ∀ x, 0 ≤ x → x < (hq_g ar 190 0) → (oI (hq_g ar 190)) x ≠ p) : pm_Ev (tq_P L xs) (pm_enter 13 [.ref 0, .int (zI p), .int (zI q), .int (zI v)]) σ (.inr σ.2.1, pm_add σ (.inr (9, [])) 6) := by
  show pm_Ev (tq_P L xs) (13, 0, [(0, .ref 0), (1, .int (zI p)), (2, .int (zI q)), (3, .int (zI v))], []) σ _
  refine pm_Ev.go 2 (f' := (13, 2, [(0, _), (1, _), (2, _), (3, _)], [_, _])) rfl ?_
  exact pm_Ev.cvT rfl rfl rfl rfl (by decide) (Nat.le_of_ble_eq_true rfl) (Nat.le_of_ble_eq_true rfl) H.m0 H.o0 (ev_posT L xs H hl N hp n2) rfl
theorem ev_dminutes2a (H : Hp σ ad z ar lr) (hl : od_L z ar) (N : od_N (hq_g ar 190) (z 8)) {b : Int} (b0 : 0 ≤ b) (b1 : b < (hq_g ar 190 0)) {q v : Int} (hq : -2147483648 ≤ q ∧ q ≤ 2147483647) (hv : -2147483648 ≤ v ∧ v ≤ 2147483647) (c : ¬ (0 ≤ q ∧ q ≤ 1)) : pm_Ev (tq_P L xs) (pm_enter 13 [.ref 0, .int (zI ((oI (hq_g ar 190)) b)), .int (zI q), .int (zI v)]) σ (.inr σ.2.1, pm_add σ (.inr (7, [])) 6) := by
  show pm_Ev (tq_P L xs) (13, 0, [(0, .ref 0), (1, .int (zI ((oI (hq_g ar 190)) b))), (2, .int (zI q)), (3, .int (zI v))], []) σ _
  refine pm_Ev.go 2 (f' := (13, 2, [(0, _), (1, _), (2, _), (3, _)], [_, _])) rfl ?_
  refine pm_Ev.cv rfl rfl rfl rfl (by decide) (Nat.le_of_ble_eq_true rfl) (Nat.le_of_ble_eq_true rfl) H.m0 H.o0 (ev_pos L xs H hl N b0 b1) ?_
  refine pm_Ev.go 4 (f' := (13, 9, [(0, _), (1, _), (2, _), (3, _)], [_, _, _])) rfl ?_
  refine pm_Ev.call rfl rfl rfl rfl rfl (ev_in0 L xs (by omega) c) ?_
  refine pm_Ev.zeq rfl (by omega) rfl (fun h1 => ?_) (fun h1 => ?_)
  · refine pm_Ev.go 1 (f' := (13, 30, [(0, _), (1, _), (2, _), (3, _)], [_])) rfl ?_
    exact pm_Ev.callT rfl rfl rfl rfl rfl (ev_ckN0 L xs) rfl
  · exact absurd h1 (by omega)
theorem ev_dminutes2b (H : Hp σ ad z ar lr) (hl : od_L z ar) (N : od_N (hq_g ar 190) (z 8)) {b : Int} (b0 : 0 ≤ b) (b1 : b < (hq_g ar 190 0)) {q v : Int} (hq : -2147483648 ≤ q ∧ q ≤ 2147483647) (hv : -2147483648 ≤ v ∧ v ≤ 2147483647) (c : 0 ≤ q ∧ q ≤ 1) (d : ¬ (0 ≤ v ∧ v ≤ 1000000)) : pm_Ev (tq_P L xs) (pm_enter 13 [.ref 0, .int (zI ((oI (hq_g ar 190)) b)), .int (zI q), .int (zI v)]) σ (.inr σ.2.1, pm_add σ (.inr (7, [])) 6) := by
  show pm_Ev (tq_P L xs) (13, 0, [(0, .ref 0), (1, .int (zI ((oI (hq_g ar 190)) b))), (2, .int (zI q)), (3, .int (zI v))], []) σ _
  refine pm_Ev.go 2 (f' := (13, 2, [(0, _), (1, _), (2, _), (3, _)], [_, _])) rfl ?_
  refine pm_Ev.cv rfl rfl rfl rfl (by decide) (Nat.le_of_ble_eq_true rfl) (Nat.le_of_ble_eq_true rfl) H.m0 H.o0 (ev_pos L xs H hl N b0 b1) ?_
  refine pm_Ev.go 4 (f' := (13, 9, [(0, _), (1, _), (2, _), (3, _)], [_, _, _])) rfl ?_
  refine pm_Ev.call rfl rfl rfl rfl rfl (ev_in1 L xs (by omega) c) ?_
  refine pm_Ev.zeq rfl (by omega) rfl (fun h1 => ?_) (fun h1 => ?_)
  · exact absurd h1 (by omega)
  · refine pm_Ev.go 2 (f' := (13, 17, [(0, _), (1, _), (2, _), (3, _)], [_, _])) rfl ?_
    refine pm_Ev.cc1 (1000000) rfl rfl rfl ?_
    refine pm_Ev.call rfl rfl rfl rfl rfl (ev_in0 L xs (by omega) d) ?_
    refine pm_Ev.zeq rfl (by omega) rfl (fun h2 => ?_) (fun h2 => ?_)
    · refine pm_Ev.go 1 (f' := (13, 30, [(0, _), (1, _), (2, _), (3, _)], [_])) rfl ?_
      exact pm_Ev.callT rfl rfl rfl rfl rfl (ev_ckN0 L xs) rfl
    · exact absurd h2 (by omega)
theorem ev_ddate1 (H : Hp σ ad z ar lr) (hl : od_L z ar) (N : od_N (hq_g ar 190) (z 8)) {p q d k u c : Int} (hp : -2147483648 ≤ p ∧ p ≤ 2147483647) (n2 : ∀ x, 0 ≤ x → x < (hq_g ar 190 0) → (oI (hq_g ar 190)) x ≠ p) : pm_Ev (tq_P L xs) (pm_enter 12 [.ref 0, .int (zI p), .int (zI q), .int (zI d), .int (zI k), .int (zI u), .int (zI c)]) σ (.inr σ.2.1, pm_add σ (.inr (9, [])) 6) := by
  show pm_Ev (tq_P L xs) (12, 0, [(0, .ref 0), (1, .int (zI p)), (2, .int (zI q)), (3, .int (zI d)), (4, .int (zI k)), (5, .int (zI u)), (6, .int (zI c))], []) σ _
  refine pm_Ev.go 2 (f' := (12, 2, [(0, _), (1, _), (2, _), (3, _), (4, _), (5, _), (6, _)], [_, _])) rfl ?_
  exact pm_Ev.cvT rfl rfl rfl rfl (by decide) (Nat.le_of_ble_eq_true rfl) (Nat.le_of_ble_eq_true rfl) H.m0 H.o0 (ev_posT L xs H hl N hp n2) rfl
theorem ev_ddate2a (H : Hp σ ad z ar lr) (hl : od_L z ar) (N : od_N (hq_g ar 190) (z 8)) {b : Int} (b0 : 0 ≤ b) (b1 : b < (hq_g ar 190 0)) {q d k u c : Int} (hq : -2147483648 ≤ q ∧ q ≤ 2147483647) (hd : -2147483648 ≤ d ∧ d ≤ 2147483647) (hk : -2147483648 ≤ k ∧ k ≤ 2147483647) (hu : -2147483648 ≤ u ∧ u ≤ 2147483647) (hc : -2147483648 ≤ c ∧ c ≤ 2147483647) (x : ¬ (0 ≤ q ∧ q ≤ 1)) : pm_Ev (tq_P L xs) (pm_enter 12 [.ref 0, .int (zI ((oI (hq_g ar 190)) b)), .int (zI q), .int (zI d), .int (zI k), .int (zI u), .int (zI c)]) σ (.inr σ.2.1, pm_add σ (.inr (7, [])) 6) := by
  show pm_Ev (tq_P L xs) (12, 0, [(0, .ref 0), (1, .int (zI ((oI (hq_g ar 190)) b))), (2, .int (zI q)), (3, .int (zI d)), (4, .int (zI k)), (5, .int (zI u)), (6, .int (zI c))], []) σ _
  refine pm_Ev.go 2 (f' := (12, 2, [(0, _), (1, _), (2, _), (3, _), (4, _), (5, _), (6, _)], [_, _])) rfl ?_
  refine pm_Ev.cv rfl rfl rfl rfl (by decide) (Nat.le_of_ble_eq_true rfl) (Nat.le_of_ble_eq_true rfl) H.m0 H.o0 (ev_pos L xs H hl N b0 b1) ?_
  refine pm_Ev.go 4 (f' := (12, 9, [(0, _), (1, _), (2, _), (3, _), (4, _), (5, _), (6, _)], [_, _, _])) rfl ?_
  refine pm_Ev.call rfl rfl rfl rfl rfl (ev_in0 L xs (by omega) x) ?_
  exact pm_Ev.callT rfl rfl rfl rfl rfl (ev_ckN0 L xs) rfl
theorem ev_ddate2b (H : Hp σ ad z ar lr) (hl : od_L z ar) (N : od_N (hq_g ar 190) (z 8)) {b : Int} (b0 : 0 ≤ b) (b1 : b < (hq_g ar 190 0)) {q d k u c : Int} (hq : -2147483648 ≤ q ∧ q ≤ 2147483647) (hd : -2147483648 ≤ d ∧ d ≤ 2147483647) (hk : -2147483648 ≤ k ∧ k ≤ 2147483647) (hu : -2147483648 ≤ u ∧ u ≤ 2147483647) (hc : -2147483648 ≤ c ∧ c ≤ 2147483647) (x : 0 ≤ q ∧ q ≤ 1) (y : d ≠ -1) (w : ¬ (0 ≤ d ∧ d ≤ 3652058)) : pm_Ev (tq_P L xs) (pm_enter 12 [.ref 0, .int (zI ((oI (hq_g ar 190)) b)), .int (zI q), .int (zI d), .int (zI k), .int (zI u), .int (zI c)]) σ (.inr σ.2.1, pm_add σ (.inr (7, [])) 6) := by
  show pm_Ev (tq_P L xs) (12, 0, [(0, .ref 0), (1, .int (zI ((oI (hq_g ar 190)) b))), (2, .int (zI q)), (3, .int (zI d)), (4, .int (zI k)), (5, .int (zI u)), (6, .int (zI c))], []) σ _
  refine pm_Ev.go 2 (f' := (12, 2, [(0, _), (1, _), (2, _), (3, _), (4, _), (5, _), (6, _)], [_, _])) rfl ?_
  refine pm_Ev.cv rfl rfl rfl rfl (by decide) (Nat.le_of_ble_eq_true rfl) (Nat.le_of_ble_eq_true rfl) H.m0 H.o0 (ev_pos L xs H hl N b0 b1) ?_
  refine pm_Ev.go 4 (f' := (12, 9, [(0, _), (1, _), (2, _), (3, _), (4, _), (5, _), (6, _)], [_, _, _])) rfl ?_
  refine pm_Ev.call rfl rfl rfl rfl rfl (ev_in1 L xs (by omega) x) ?_
  refine pm_Ev.call rfl rfl rfl rfl rfl (ev_ckN1 L xs) ?_
  refine pm_Ev.go 2 (f' := (12, 17, [(0, _), (1, _), (2, _), (3, _), (4, _), (5, _), (6, _)], [_, _])) rfl ?_
  refine pm_Ev.jeq rfl (by omega) rfl (fun h1 => ?_) (fun h1 => ?_)
  · exact absurd h1 (by omega)
  · refine pm_Ev.go 1 (f' := (12, 21, [(0, _), (1, _), (2, _), (3, _), (4, _), (5, _), (6, _)], [_])) rfl ?_
    refine pm_Ev.call rfl rfl rfl rfl rfl (ev_day0 L xs hd w) ?_
    refine pm_Ev.zeq rfl (by omega) rfl (fun h2 => ?_) (fun h2 => ?_)
    · refine pm_Ev.go 1 (f' := (12, 44, [(0, _), (1, _), (2, _), (3, _), (4, _), (5, _), (6, _)], [_])) rfl ?_
      exact pm_Ev.callT rfl rfl rfl rfl rfl (ev_ckN0 L xs) rfl
    · exact absurd h2 (by omega)
theorem ev_ddate2c (H : Hp σ ad z ar lr) (hl : od_L z ar) (N : od_N (hq_g ar 190) (z 8)) {b : Int} (b0 : 0 ≤ b) (b1 : b < (hq_g ar 190 0)) {q d k u c : Int} (hq : -2147483648 ≤ q ∧ q ≤ 2147483647) (hd : -2147483648 ≤ d ∧ d ≤ 2147483647) (hk : -2147483648 ≤ k ∧ k ≤ 2147483647) (hu : -2147483648 ≤ u ∧ u ≤ 2147483647) (hc : -2147483648 ≤ c ∧ c ≤ 2147483647) (x : 0 ≤ q ∧ q ≤ 1) (y : d ≠ -1) (w : 0 ≤ d ∧ d ≤ 3652058) (v : ¬ (k = 0 ∨ (1 ≤ k ∧ k ≤ 3) ∧ (0 ≤ u ∧ u ≤ 3) ∧ (1 ≤ c ∧ c ≤ 99))) : pm_Ev (tq_P L xs) (pm_enter 12 [.ref 0, .int (zI ((oI (hq_g ar 190)) b)), .int (zI q), .int (zI d), .int (zI k), .int (zI u), .int (zI c)]) σ (.inr σ.2.1, pm_add σ (.inr (7, [])) 6) := by
  show pm_Ev (tq_P L xs) (12, 0, [(0, .ref 0), (1, .int (zI ((oI (hq_g ar 190)) b))), (2, .int (zI q)), (3, .int (zI d)), (4, .int (zI k)), (5, .int (zI u)), (6, .int (zI c))], []) σ _
  refine pm_Ev.go 2 (f' := (12, 2, [(0, _), (1, _), (2, _), (3, _), (4, _), (5, _), (6, _)], [_, _])) rfl ?_
  refine pm_Ev.cv rfl rfl rfl rfl (by decide) (Nat.le_of_ble_eq_true rfl) (Nat.le_of_ble_eq_true rfl) H.m0 H.o0 (ev_pos L xs H hl N b0 b1) ?_
  refine pm_Ev.go 4 (f' := (12, 9, [(0, _), (1, _), (2, _), (3, _), (4, _), (5, _), (6, _)], [_, _, _])) rfl ?_
  refine pm_Ev.call rfl rfl rfl rfl rfl (ev_in1 L xs (by omega) x) ?_
  refine pm_Ev.call rfl rfl rfl rfl rfl (ev_ckN1 L xs) ?_
  refine pm_Ev.go 2 (f' := (12, 17, [(0, _), (1, _), (2, _), (3, _), (4, _), (5, _), (6, _)], [_, _])) rfl ?_
  refine pm_Ev.jeq rfl (by omega) rfl (fun h1 => ?_) (fun h1 => ?_)
  · exact absurd h1 (by omega)
  · refine pm_Ev.go 1 (f' := (12, 21, [(0, _), (1, _), (2, _), (3, _), (4, _), (5, _), (6, _)], [_])) rfl ?_
    refine pm_Ev.call rfl rfl rfl rfl rfl (ev_day1 L xs hd w) ?_
    refine pm_Ev.zeq rfl (by omega) rfl (fun h2 => ?_) (fun h2 => ?_)
    · exact absurd h2 (by omega)
    · refine pm_Ev.go 3 (f' := (12, 33, [(0, _), (1, _), (2, _), (3, _), (4, _), (5, _), (6, _)], [_, _, _])) rfl ?_
      refine pm_Ev.call rfl rfl rfl rfl rfl ((by have q := ev_isRep L xs (σ := σ) hk hu hc; rw [if_neg v] at q; exact q)) ?_
      refine pm_Ev.zeq rfl (by omega) rfl (fun h3 => ?_) (fun h3 => ?_)
      · refine pm_Ev.go 1 (f' := (12, 44, [(0, _), (1, _), (2, _), (3, _), (4, _), (5, _), (6, _)], [_])) rfl ?_
        exact pm_Ev.callT rfl rfl rfl rfl rfl (ev_ckN0 L xs) rfl
      · exact absurd h3 (by omega)
theorem ev_dsort1 (H : Hp σ ad z ar lr) (hl : od_L z ar) (N : od_N (hq_g ar 190) (z 8)) {p y : Int} (hp : -2147483648 ≤ p ∧ p ≤ 2147483647) (n1 : p ≠ -1) (n2 : ∀ x, 0 ≤ x → x < (hq_g ar 190 0) → (oI (hq_g ar 190)) x ≠ p) : pm_Ev (tq_P L xs) (pm_enter 15 [.ref 0, .int (zI p), .int (zI y)]) σ (.inr σ.2.1, pm_add σ (.inr (9, [])) 6) := by
  show pm_Ev (tq_P L xs) (15, 0, [(0, .ref 0), (1, .int (zI p)), (2, .int (zI y))], []) σ _
  refine pm_Ev.go 2 (f' := (15, 2, [(0, _), (1, _), (2, _)], [_, _])) rfl ?_
  exact pm_Ev.cvT rfl rfl rfl rfl (by decide) (Nat.le_of_ble_eq_true rfl) (Nat.le_of_ble_eq_true rfl) H.m0 H.o0 (ev_porT L xs H hl N hp n1 n2) rfl
theorem ev_dsort2 (H : Hp σ ad z ar lr) (hl : od_L z ar) (N : od_N (hq_g ar 190) (z 8)) {r : Int} (u0 : -1 ≤ r) (u1 : r < (hq_g ar 190 0) ∨ r = -1) {y : Int} (hy : -2147483648 ≤ y ∧ y ≤ 2147483647) (c : ¬ (0 ≤ y ∧ y ≤ 4)) : pm_Ev (tq_P L xs) (pm_enter 15 [.ref 0, .int (zI (fo_id (oI (hq_g ar 190)) r)), .int (zI y)]) σ (.inr σ.2.1, pm_add σ (.inr (7, [])) 6) := by
  show pm_Ev (tq_P L xs) (15, 0, [(0, .ref 0), (1, .int (zI (fo_id (oI (hq_g ar 190)) r))), (2, .int (zI y))], []) σ _
  refine pm_Ev.go 2 (f' := (15, 2, [(0, _), (1, _), (2, _)], [_, _])) rfl ?_
  refine pm_Ev.cv rfl rfl rfl rfl (by decide) (Nat.le_of_ble_eq_true rfl) (Nat.le_of_ble_eq_true rfl) H.m0 H.o0 (ev_por L xs H hl N u0 u1) ?_
  refine pm_Ev.go 4 (f' := (15, 9, [(3, _), (0, _), (1, _), (2, _)], [_, _, _])) rfl ?_
  refine pm_Ev.call rfl rfl rfl rfl rfl (ev_in0 L xs (by omega) c) ?_
  exact pm_Ev.callT rfl rfl rfl rfl rfl (ev_ckN0 L xs) rfl
theorem ev_dopen1 (H : Hp σ ad z ar lr) (c : z 5 = 1) : pm_Ev (tq_P L xs) (pm_enter 16 [.ref 0]) σ (.inr σ.2.1, pm_add σ (.inr (8, [])) 6) := by
  show pm_Ev (tq_P L xs) (16, 0, [(0, .ref 0)], []) σ _
  refine pm_Ev.go 1 (f' := (16, 1, [(0, _)], [_])) rfl ?_
  refine pm_Ev.gf rfl rfl H.m0 H.o0 rfl ?_
  refine pm_Ev.gf rfl rfl H.m1 H.o1 rfl ?_
  rw [c]
  refine pm_Ev.zne rfl (by omega) rfl (fun h1 => ?_) (fun h1 => ?_)
  · refine pm_Ev.go 1 (f' := (16, 15, [(0, _)], [_])) rfl ?_
    exact pm_Ev.callT rfl rfl rfl rfl rfl (ev_ckS0 L xs) rfl
  · exact absurd h1 (by omega)
theorem ev_dclose1 (H : Hp σ ad z ar lr) (c : z 5 = 0) : pm_Ev (tq_P L xs) (pm_enter 17 [.ref 0]) σ (.inr σ.2.1, pm_add σ (.inr (8, [])) 6) := by
  show pm_Ev (tq_P L xs) (17, 0, [(0, .ref 0)], []) σ _
  refine pm_Ev.go 1 (f' := (17, 1, [(0, _)], [_])) rfl ?_
  refine pm_Ev.gf rfl rfl H.m0 H.o0 rfl ?_
  refine pm_Ev.gf rfl rfl H.m1 H.o1 rfl ?_
  rw [c]
  exact pm_Ev.callT rfl rfl rfl rfl rfl (ev_ckS0 L xs) rfl
theorem ev_dundo1 (H : Hp σ ad z ar lr) (c : z 5 = 1) : pm_Ev (tq_P L xs) (pm_enter 18 [.ref 0]) σ (.inr σ.2.1, pm_add σ (.inr (8, [])) 6) := by
  show pm_Ev (tq_P L xs) (18, 0, [(0, .ref 0)], []) σ _
  refine pm_Ev.go 1 (f' := (18, 1, [(0, _)], [_])) rfl ?_
  refine pm_Ev.gf rfl rfl H.m0 H.o0 rfl ?_
  refine pm_Ev.gf rfl rfl H.m1 H.o1 rfl ?_
  rw [c]
  refine pm_Ev.zne rfl (by omega) rfl (fun h1 => ?_) (fun h1 => ?_)
  · refine pm_Ev.go 1 (f' := (18, 15, [(0, _)], [_])) rfl ?_
    exact pm_Ev.callT rfl rfl rfl rfl rfl (ev_ckS0 L xs) rfl
  · exact absurd h1 (by omega)
theorem ev_dredo1 (H : Hp σ ad z ar lr) (c : z 5 = 1) : pm_Ev (tq_P L xs) (pm_enter 19 [.ref 0]) σ (.inr σ.2.1, pm_add σ (.inr (8, [])) 6) := by
  show pm_Ev (tq_P L xs) (19, 0, [(0, .ref 0)], []) σ _
  refine pm_Ev.go 1 (f' := (19, 1, [(0, _)], [_])) rfl ?_
  refine pm_Ev.gf rfl rfl H.m0 H.o0 rfl ?_
  refine pm_Ev.gf rfl rfl H.m1 H.o1 rfl ?_
  rw [c]
  refine pm_Ev.zne rfl (by omega) rfl (fun h1 => ?_) (fun h1 => ?_)
  · refine pm_Ev.go 1 (f' := (19, 15, [(0, _)], [_])) rfl ?_
    exact pm_Ev.callT rfl rfl rfl rfl rfl (ev_ckS0 L xs) rfl
  · exact absurd h1 (by omega)
theorem ev_dsteps1 (H : Hp σ ad z ar lr) {v : Int} (hv : -2147483648 ≤ v ∧ v ≤ 2147483647) (c : ¬ (0 ≤ v ∧ v ≤ 2)) : pm_Ev (tq_P L xs) (pm_enter 20 [.ref 0, .int (zI v)]) σ (.inr σ.2.1, pm_add σ (.inr (7, [])) 6) := by
  show pm_Ev (tq_P L xs) (20, 0, [(0, .ref 0), (1, .int (zI v))], []) σ _
  refine pm_Ev.go 3 (f' := (20, 3, [(0, _), (1, _)], [_, _, _])) rfl ?_
  refine pm_Ev.call rfl rfl rfl rfl rfl (ev_in0 L xs (by omega) c) ?_
  exact pm_Ev.callT rfl rfl rfl rfl rfl (ev_ckN0 L xs) rfl
theorem ev_dtoday1 (H : Hp σ ad z ar lr) {v : Int} (hv : -2147483648 ≤ v ∧ v ≤ 2147483647) (c : ¬ (0 ≤ v ∧ v ≤ 3652058)) : pm_Ev (tq_P L xs) (pm_enter 21 [.ref 0, .int (zI v)]) σ (.inr σ.2.1, pm_add σ (.inr (7, [])) 6) := by
  show pm_Ev (tq_P L xs) (21, 0, [(0, .ref 0), (1, .int (zI v))], []) σ _
  refine pm_Ev.go 1 (f' := (21, 1, [(0, _), (1, _)], [_])) rfl ?_
  refine pm_Ev.call rfl rfl rfl rfl rfl (ev_day0 L xs hv c) ?_
  exact pm_Ev.callT rfl rfl rfl rfl rfl (ev_ckN0 L xs) rfl
theorem ev_dday1a (H : Hp σ ad z ar lr) {y m v : Int} (hy : -2147483648 ≤ y ∧ y ≤ 2147483647) (hm : -2147483648 ≤ m ∧ m ≤ 2147483647) (hv : -2147483648 ≤ v ∧ v ≤ 2147483647) (c : ¬ (1 ≤ y ∧ y ≤ 9999)) : pm_Ev (tq_P L xs) (pm_enter 22 [.ref 0, .int (zI y), .int (zI m), .int (zI v)]) σ (.inr σ.2.1, pm_add σ (.inr (7, [])) 6) := by
  show pm_Ev (tq_P L xs) (22, 0, [(0, .ref 0), (1, .int (zI y)), (2, .int (zI m)), (3, .int (zI v))], []) σ _
  refine pm_Ev.go 2 (f' := (22, 2, [(0, _), (1, _), (2, _), (3, _)], [_, _])) rfl ?_
  refine pm_Ev.sp rfl rfl ?_
  refine pm_Ev.call rfl rfl rfl rfl rfl (ev_in0 L xs (by omega) c) ?_
  refine pm_Ev.zeq rfl (by omega) rfl (fun h1 => ?_) (fun h1 => ?_)
  · refine pm_Ev.go 1 (f' := (22, 26, [(0, _), (1, _), (2, _), (3, _)], [_])) rfl ?_
    exact pm_Ev.callT rfl rfl rfl rfl rfl (ev_ckN0 L xs) rfl
  · exact absurd h1 (by omega)
theorem ev_dday1b (H : Hp σ ad z ar lr) {y m v : Int} (hy : -2147483648 ≤ y ∧ y ≤ 2147483647) (hm : -2147483648 ≤ m ∧ m ≤ 2147483647) (hv : -2147483648 ≤ v ∧ v ≤ 2147483647) (c : 1 ≤ y ∧ y ≤ 9999) (d : ¬ (1 ≤ m ∧ m ≤ 12)) : pm_Ev (tq_P L xs) (pm_enter 22 [.ref 0, .int (zI y), .int (zI m), .int (zI v)]) σ (.inr σ.2.1, pm_add σ (.inr (7, [])) 6) := by
  show pm_Ev (tq_P L xs) (22, 0, [(0, .ref 0), (1, .int (zI y)), (2, .int (zI m)), (3, .int (zI v))], []) σ _
  refine pm_Ev.go 2 (f' := (22, 2, [(0, _), (1, _), (2, _), (3, _)], [_, _])) rfl ?_
  refine pm_Ev.sp rfl rfl ?_
  refine pm_Ev.call rfl rfl rfl rfl rfl (ev_in1 L xs (by omega) c) ?_
  refine pm_Ev.zeq rfl (by omega) rfl (fun h1 => ?_) (fun h1 => ?_)
  · exact absurd h1 (by omega)
  · refine pm_Ev.go 2 (f' := (22, 13, [(0, _), (1, _), (2, _), (3, _)], [_, _])) rfl ?_
    refine pm_Ev.bp rfl rfl ?_
    refine pm_Ev.call rfl rfl rfl rfl rfl (ev_in0 L xs (by omega) d) ?_
    refine pm_Ev.zeq rfl (by omega) rfl (fun h2 => ?_) (fun h2 => ?_)
    · refine pm_Ev.go 1 (f' := (22, 26, [(0, _), (1, _), (2, _), (3, _)], [_])) rfl ?_
      exact pm_Ev.callT rfl rfl rfl rfl rfl (ev_ckN0 L xs) rfl
    · exact absurd h2 (by omega)
theorem ev_dday1c (H : Hp σ ad z ar lr) {y m v : Int} (hy : -2147483648 ≤ y ∧ y ≤ 2147483647) (hm : -2147483648 ≤ m ∧ m ≤ 2147483647) (hv : -2147483648 ≤ v ∧ v ≤ 2147483647) (c : 1 ≤ y ∧ y ≤ 9999) (d : 1 ≤ m ∧ m ≤ 12) (e : ¬ (1 ≤ v ∧ v ≤ cd_len ((y - 1) * 12 + m - 1))) : pm_Ev (tq_P L xs) (pm_enter 22 [.ref 0, .int (zI y), .int (zI m), .int (zI v)]) σ (.inr σ.2.1, pm_add σ (.inr (7, [])) 6) := by
  show pm_Ev (tq_P L xs) (22, 0, [(0, .ref 0), (1, .int (zI y)), (2, .int (zI m)), (3, .int (zI v))], []) σ _
  have ln := cd_len_r ((y - 1) * 12 + m - 1)
  refine pm_Ev.go 2 (f' := (22, 2, [(0, _), (1, _), (2, _), (3, _)], [_, _])) rfl ?_
  refine pm_Ev.sp rfl rfl ?_
  refine pm_Ev.call rfl rfl rfl rfl rfl (ev_in1 L xs (by omega) c) ?_
  refine pm_Ev.zeq rfl (by omega) rfl (fun h1 => ?_) (fun h1 => ?_)
  · exact absurd h1 (by omega)
  · refine pm_Ev.go 2 (f' := (22, 13, [(0, _), (1, _), (2, _), (3, _)], [_, _])) rfl ?_
    refine pm_Ev.bp rfl rfl ?_
    refine pm_Ev.call rfl rfl rfl rfl rfl (ev_in1 L xs (by omega) d) ?_
    refine pm_Ev.zeq rfl (by omega) rfl (fun h2 => ?_) (fun h2 => ?_)
    · exact absurd h2 (by omega)
    · refine pm_Ev.go 2 (f' := (22, 26, [(0, _), (1, _), (2, _), (3, _)], [_])) rfl ?_
      refine pm_Ev.call rfl rfl rfl rfl rfl (ev_ckN1 L xs) ?_
      refine pm_Ev.go 2 (f' := (22, 31, [(0, _), (1, _), (2, _), (3, _)], [_, _])) rfl ?_
      refine pm_Ev.isub rfl ?_
      refine pm_Ev.bp rfl rfl ?_
      refine pm_Ev.imul rfl ?_
      refine pm_Ev.go 1 (f' := (22, 36, [(0, _), (1, _), (2, _), (3, _)], [_, _])) rfl ?_
      refine pm_Ev.iadd rfl ?_
      refine pm_Ev.go 1 (f' := (22, 38, [(0, _), (1, _), (2, _), (3, _)], [_, _])) rfl ?_
      refine pm_Ev.isub rfl ?_
      refine pm_Ev.go 4 (f' := (22, 45, [(4, _), (0, _), (1, _), (2, _), (3, _)], [_, _, _])) rfl ?_
      refine pm_Ev.call rfl rfl rfl rfl rfl (ev_lengthOf L xs _ (by omega)) ?_
      refine pm_Ev.call rfl rfl rfl rfl rfl (ev_in0 L xs (by omega) e) ?_
      exact pm_Ev.callT rfl rfl rfl rfl rfl (ev_ckN0 L xs) rfl
theorem ev_dcal1a (H : Hp σ ad z ar lr) {d v : Int} (hd : -2147483648 ≤ d ∧ d ≤ 2147483647) (hv : -2147483648 ≤ v ∧ v ≤ 2147483647) (c : ¬ (0 ≤ d ∧ d ≤ 3652058)) : pm_Ev (tq_P L xs) (pm_enter 23 [.ref 0, .int (zI d), .int (zI v)]) σ (.inr σ.2.1, pm_add σ (.inr (7, [])) 6) := by
  show pm_Ev (tq_P L xs) (23, 0, [(0, .ref 0), (1, .int (zI d)), (2, .int (zI v))], []) σ _
  refine pm_Ev.go 1 (f' := (23, 1, [(0, _), (1, _), (2, _)], [_])) rfl ?_
  refine pm_Ev.call rfl rfl rfl rfl rfl (ev_day0 L xs hd c) ?_
  refine pm_Ev.zeq rfl (by omega) rfl (fun h1 => ?_) (fun h1 => ?_)
  · refine pm_Ev.go 1 (f' := (23, 21, [(0, _), (1, _), (2, _)], [_])) rfl ?_
    exact pm_Ev.callT rfl rfl rfl rfl rfl (ev_ckN0 L xs) rfl
  · exact absurd h1 (by omega)
theorem ev_dcal1b (H : Hp σ ad z ar lr) {d v : Int} (hd : -2147483648 ≤ d ∧ d ≤ 2147483647) (hv : -2147483648 ≤ v ∧ v ≤ 2147483647) (c : 0 ≤ d ∧ d ≤ 3652058) (e : ¬ (0 ≤ v ∧ v ≤ 3)) : pm_Ev (tq_P L xs) (pm_enter 23 [.ref 0, .int (zI d), .int (zI v)]) σ (.inr σ.2.1, pm_add σ (.inr (7, [])) 6) := by
  show pm_Ev (tq_P L xs) (23, 0, [(0, .ref 0), (1, .int (zI d)), (2, .int (zI v))], []) σ _
  refine pm_Ev.go 1 (f' := (23, 1, [(0, _), (1, _), (2, _)], [_])) rfl ?_
  refine pm_Ev.call rfl rfl rfl rfl rfl (ev_day1 L xs hd c) ?_
  refine pm_Ev.zeq rfl (by omega) rfl (fun h1 => ?_) (fun h1 => ?_)
  · exact absurd h1 (by omega)
  · refine pm_Ev.go 3 (f' := (23, 10, [(0, _), (1, _), (2, _)], [_, _, _])) rfl ?_
    refine pm_Ev.call rfl rfl rfl rfl rfl (ev_in0 L xs (by omega) e) ?_
    refine pm_Ev.zeq rfl (by omega) rfl (fun h2 => ?_) (fun h2 => ?_)
    · refine pm_Ev.go 1 (f' := (23, 21, [(0, _), (1, _), (2, _)], [_])) rfl ?_
      exact pm_Ev.callT rfl rfl rfl rfl rfl (ev_ckN0 L xs) rfl
    · exact absurd h2 (by omega)
theorem ev_dfound1 (H : Hp σ ad z ar lr) {i v : Int} (hi : -2147483648 ≤ i ∧ i ≤ 2147483647) (hv : -2147483648 ≤ v ∧ v ≤ 2147483647) (f0 : 0 ≤ z 9 ∧ z 9 ≤ 800) (c : ¬ (0 ≤ i ∧ i ≤ z 9 - 1)) : pm_Ev (tq_P L xs) (pm_enter 26 [.ref 0, .int (zI i), .int (zI v)]) σ (.inr σ.2.1, pm_add σ (.inr (9, [])) 6) := by
  show pm_Ev (tq_P L xs) (26, 0, [(0, .ref 0), (1, .int (zI i)), (2, .int (zI v))], []) σ _
  refine pm_Ev.go 3 (f' := (26, 3, [(0, _), (1, _), (2, _)], [_, _, _])) rfl ?_
  refine pm_Ev.gf rfl rfl H.m0 H.o0 rfl ?_
  refine pm_Ev.gf rfl rfl H.m192 H.o192 rfl ?_
  refine pm_Ev.go 1 (f' := (26, 10, [(0, _), (1, _), (2, _)], [_, _, _, _])) rfl ?_
  refine pm_Ev.isub rfl ?_
  refine pm_Ev.call rfl rfl rfl rfl rfl (ev_in0 L xs (by omega) c) ?_
  refine pm_Ev.zne rfl (by omega) rfl (fun h1 => ?_) (fun h1 => ?_)
  · exact absurd h1 (by omega)
  · exact pm_Ev.ret rfl rfl rfl rfl
theorem ev_dfound2 (H : Hp σ ad z ar lr) {i v : Int} (hi : -2147483648 ≤ i ∧ i ≤ 2147483647) (hv : -2147483648 ≤ v ∧ v ≤ 2147483647) (f0 : 0 ≤ z 9 ∧ z 9 ≤ 800) (c : 0 ≤ i ∧ i ≤ z 9 - 1) (d : ¬ (0 ≤ v ∧ v ≤ 2)) : pm_Ev (tq_P L xs) (pm_enter 26 [.ref 0, .int (zI i), .int (zI v)]) σ (.inr σ.2.1, pm_add σ (.inr (7, [])) 6) := by
  show pm_Ev (tq_P L xs) (26, 0, [(0, .ref 0), (1, .int (zI i)), (2, .int (zI v))], []) σ _
  refine pm_Ev.go 3 (f' := (26, 3, [(0, _), (1, _), (2, _)], [_, _, _])) rfl ?_
  refine pm_Ev.gf rfl rfl H.m0 H.o0 rfl ?_
  refine pm_Ev.gf rfl rfl H.m192 H.o192 rfl ?_
  refine pm_Ev.go 1 (f' := (26, 10, [(0, _), (1, _), (2, _)], [_, _, _, _])) rfl ?_
  refine pm_Ev.isub rfl ?_
  refine pm_Ev.call rfl rfl rfl rfl rfl (ev_in1 L xs (by omega) c) ?_
  refine pm_Ev.zne rfl (by omega) rfl (fun h1 => ?_) (fun h1 => ?_)
  · refine pm_Ev.go 3 (f' := (26, 28, [(0, _), (1, _), (2, _)], [_, _, _])) rfl ?_
    refine pm_Ev.call rfl rfl rfl rfl rfl (ev_in0 L xs (by omega) d) ?_
    exact pm_Ev.callT rfl rfl rfl rfl rfl (ev_ckN0 L xs) rfl
  · exact absurd h1 (by omega)
theorem ev_dchild1 (H : Hp σ ad z ar lr) (hl : od_L z ar) (N : od_N (hq_g ar 190) (z 8)) {p k : Int} (hp : -2147483648 ≤ p ∧ p ≤ 2147483647) (n1 : p ≠ -1) (n2 : ∀ x, 0 ≤ x → x < (hq_g ar 190 0) → (oI (hq_g ar 190)) x ≠ p) : pm_Ev (tq_P L xs) (pm_enter 28 [.ref 0, .int (zI p), .int (zI k)]) σ (.inr σ.2.1, pm_add σ (.inr (9, [])) 6) := by
  show pm_Ev (tq_P L xs) (28, 0, [(0, .ref 0), (1, .int (zI p)), (2, .int (zI k))], []) σ _
  refine pm_Ev.go 2 (f' := (28, 2, [(0, _), (1, _), (2, _)], [_, _])) rfl ?_
  exact pm_Ev.cvT rfl rfl rfl rfl (by decide) (Nat.le_of_ble_eq_true rfl) (Nat.le_of_ble_eq_true rfl) H.m0 H.o0 (ev_porT L xs H hl N hp n1 n2) rfl
theorem ev_dsum1 (H : Hp σ ad z ar lr) (hl : od_L z ar) (N : od_N (hq_g ar 190) (z 8)) {p v : Int} (hp : -2147483648 ≤ p ∧ p ≤ 2147483647) (n1 : p ≠ -1) (n2 : ∀ x, 0 ≤ x → x < (hq_g ar 190 0) → (oI (hq_g ar 190)) x ≠ p) : pm_Ev (tq_P L xs) (pm_enter 29 [.ref 0, .int (zI p), .int (zI v)]) σ (.inr σ.2.1, pm_add σ (.inr (9, [])) 6) := by
  show pm_Ev (tq_P L xs) (29, 0, [(0, .ref 0), (1, .int (zI p)), (2, .int (zI v))], []) σ _
  refine pm_Ev.go 2 (f' := (29, 2, [(0, _), (1, _), (2, _)], [_, _])) rfl ?_
  exact pm_Ev.cvT rfl rfl rfl rfl (by decide) (Nat.le_of_ble_eq_true rfl) (Nat.le_of_ble_eq_true rfl) H.m0 H.o0 (ev_porT L xs H hl N hp n1 n2) rfl
theorem ev_dsum2 (H : Hp σ ad z ar lr) (hl : od_L z ar) (N : od_N (hq_g ar 190) (z 8)) {r : Int} (u0 : -1 ≤ r) (u1 : r < (hq_g ar 190 0) ∨ r = -1) {v : Int} (hv : -2147483648 ≤ v ∧ v ≤ 2147483647) (c : ¬ (0 ≤ v ∧ v ≤ 4)) : pm_Ev (tq_P L xs) (pm_enter 29 [.ref 0, .int (zI (fo_id (oI (hq_g ar 190)) r)), .int (zI v)]) σ (.inr σ.2.1, pm_add σ (.inr (7, [])) 6) := by
  show pm_Ev (tq_P L xs) (29, 0, [(0, .ref 0), (1, .int (zI (fo_id (oI (hq_g ar 190)) r))), (2, .int (zI v))], []) σ _
  refine pm_Ev.go 2 (f' := (29, 2, [(0, _), (1, _), (2, _)], [_, _])) rfl ?_
  refine pm_Ev.cv rfl rfl rfl rfl (by decide) (Nat.le_of_ble_eq_true rfl) (Nat.le_of_ble_eq_true rfl) H.m0 H.o0 (ev_por L xs H hl N u0 u1) ?_
  refine pm_Ev.go 4 (f' := (29, 9, [(3, _), (0, _), (1, _), (2, _)], [_, _, _])) rfl ?_
  refine pm_Ev.call rfl rfl rfl rfl rfl (ev_in0 L xs (by omega) c) ?_
  exact pm_Ev.callT rfl rfl rfl rfl rfl (ev_ckN0 L xs) rfl
theorem ev_dtold1 (H : Hp σ ad z ar lr) (hl : od_L z ar) (N : od_N (hq_g ar 190) (z 8)) {p v : Int} (hp : -2147483648 ≤ p ∧ p ≤ 2147483647) (n2 : ∀ x, 0 ≤ x → x < (hq_g ar 190 0) → (oI (hq_g ar 190)) x ≠ p) : pm_Ev (tq_P L xs) (pm_enter 30 [.ref 0, .int (zI p), .int (zI v)]) σ (.inr σ.2.1, pm_add σ (.inr (9, [])) 6) := by
  show pm_Ev (tq_P L xs) (30, 0, [(0, .ref 0), (1, .int (zI p)), (2, .int (zI v))], []) σ _
  refine pm_Ev.go 2 (f' := (30, 2, [(0, _), (1, _), (2, _)], [_, _])) rfl ?_
  exact pm_Ev.cvT rfl rfl rfl rfl (by decide) (Nat.le_of_ble_eq_true rfl) (Nat.le_of_ble_eq_true rfl) H.m0 H.o0 (ev_posT L xs H hl N hp n2) rfl
theorem ev_dtold2 (H : Hp σ ad z ar lr) (hl : od_L z ar) (N : od_N (hq_g ar 190) (z 8)) {b : Int} (b0 : 0 ≤ b) (b1 : b < (hq_g ar 190 0)) {v : Int} (hv : -2147483648 ≤ v ∧ v ≤ 2147483647) (c : ¬ (0 ≤ v ∧ v ≤ 15)) : pm_Ev (tq_P L xs) (pm_enter 30 [.ref 0, .int (zI ((oI (hq_g ar 190)) b)), .int (zI v)]) σ (.inr σ.2.1, pm_add σ (.inr (7, [])) 6) := by
  show pm_Ev (tq_P L xs) (30, 0, [(0, .ref 0), (1, .int (zI ((oI (hq_g ar 190)) b))), (2, .int (zI v))], []) σ _
  refine pm_Ev.go 2 (f' := (30, 2, [(0, _), (1, _), (2, _)], [_, _])) rfl ?_
  refine pm_Ev.cv rfl rfl rfl rfl (by decide) (Nat.le_of_ble_eq_true rfl) (Nat.le_of_ble_eq_true rfl) H.m0 H.o0 (ev_pos L xs H hl N b0 b1) ?_
  refine pm_Ev.go 3 (f' := (30, 8, [(3, _), (0, _), (1, _), (2, _)], [_, _])) rfl ?_
  refine pm_Ev.bp rfl rfl ?_
  refine pm_Ev.call rfl rfl rfl rfl rfl (ev_in0 L xs (by omega) c) ?_
  exact pm_Ev.callT rfl rfl rfl rfl rfl (ev_ckN0 L xs) rfl
theorem ev_dabout1 (H : Hp σ ad z ar lr) {v : Int} (hv : -2147483648 ≤ v ∧ v ≤ 2147483647) (c : ¬ (0 ≤ v ∧ v ≤ 3)) : pm_Ev (tq_P L xs) (pm_enter 31 [.ref 0, .int (zI v)]) σ (.inr σ.2.1, pm_add σ (.inr (7, [])) 6) := by
  show pm_Ev (tq_P L xs) (31, 0, [(0, .ref 0), (1, .int (zI v))], []) σ _
  refine pm_Ev.go 3 (f' := (31, 3, [(0, _), (1, _)], [_, _, _])) rfl ?_
  refine pm_Ev.call rfl rfl rfl rfl rfl (ev_in0 L xs (by omega) c) ?_
  exact pm_Ev.callT rfl rfl rfl rfl rfl (ev_ckN0 L xs) rfl
end MS
