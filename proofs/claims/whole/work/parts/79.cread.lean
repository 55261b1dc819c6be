/-! the desk: what is read of the row -/
def oI (C : Int → Int) (p : Int) : Int := C (1 + p)
def oV (C : Int → Int) (e f : Int) : Int := C (401 + e * 16 + f)
def oD (C : Int → Int) (p : Int) : Int := if p = -1 then 0 else oV C (oI C p) 2
def od_N (C : Int → Int) (m : Int) : Prop :=
  (fo_W (oD C) (C 0)) ∧
  (fo_J (oI C) (C 0)) ∧
  (∀ p, 0 ≤ p → p < C 0 → oI C p < m) ∧
  (∀ p, 0 ≤ p → p < C 0 → oD C p ≤ 12) ∧
  (0 ≤ m) ∧
  (m ≤ 400)
theorem od_N.W {C : Int → Int} {m : Int} (h : od_N C m) : fo_W (oD C) (C 0) := h.1
theorem od_N.J {C : Int → Int} {m : Int} (h : od_N C m) : fo_J (oI C) (C 0) := h.2.1
theorem od_N.lt {C : Int → Int} {m : Int} (h : od_N C m) : ∀ p, 0 ≤ p → p < C 0 → oI C p < m := h.2.2.1
theorem od_N.dp {C : Int → Int} {m : Int} (h : od_N C m) : ∀ p, 0 ≤ p → p < C 0 → oD C p ≤ 12 := h.2.2.2.1
theorem od_N.m0 {C : Int → Int} {m : Int} (h : od_N C m) : 0 ≤ m := h.2.2.2.2.1
theorem od_N.m4 {C : Int → Int} {m : Int} (h : od_N C m) : m ≤ 400 := h.2.2.2.2.2
theorem od_N.mk {C : Int → Int} {m : Int} (h_W : fo_W (oD C) (C 0)) (h_J : fo_J (oI C) (C 0)) (h_lt : ∀ p, 0 ≤ p → p < C 0 → oI C p < m) (h_dp : ∀ p, 0 ≤ p → p < C 0 → oD C p ≤ 12) (h_m0 : 0 ≤ m) (h_m4 : m ≤ 400) : od_N C m := ⟨h_W, h_J, h_lt, h_dp, h_m0, h_m4⟩
def od_L (z : Nat → Int) (ar : Nat → Nat × (Nat → Int32)) : Prop := 401 + 16 * z 8 ≤ ((ar 190).1 : Int) ∧ ((ar 190).1 : Int) ≤ 13602
theorem od_N.nm {C : Int → Int} {m : Int} (N : od_N C m) : C 0 ≤ m := fs_pg N.W.2.1 N.m0 (fun p p0 p1 => ⟨N.J.1 p p0 p1, N.lt p p0 p1⟩) N.J.2
theorem od_N.dr {C : Int → Int} {m : Int} (N : od_N C m) {p : Int} (p0 : -1 ≤ p) (p1 : p < C 0 ∨ p = -1) : 0 ≤ oD C p ∧ oD C p ≤ 12 := by
  by_cases c : p = -1
  · rw [c, N.W.1]
    omega
  · have := N.dp p (by omega) (by omega)
    have := fo_nonneg N.W p0 (by omega)
    omega
section MS
variable (L : Nat) (xs : Nat → Int32)
variable {σ : pm_S} {ad : Nat → Nat} {z : Nat → Int} {ar : Nat → Nat × (Nat → Int32)} {lr : Nat → Nat × (Nat → Int64)}
theorem ev_count (H : Hp σ ad z ar lr) (hl : od_L z ar) (m0 : 0 ≤ z 8) : pm_Ev (tq_P L xs) (pm_enter 58 [.ref 188]) σ (.inl (some (.int (zI (hq_g ar 190 0)))), σ) := by
  show pm_Ev (tq_P L xs) (58, 0, [(0, .ref 188)], []) σ _
  unfold od_L at hl
  refine pm_Ev.go 1 (f' := (58, 1, [(0, _)], [_])) rfl ?_
  refine pm_Ev.gf rfl rfl H.m188 H.o188 rfl ?_
  refine pm_Ev.gf rfl rfl H.m1 H.o1 rfl ?_
  refine pm_Ev.go 1 (f' := (58, 8, [(0, _)], [_, _])) rfl ?_
  refine pm_Ev.dia H rfl (by decide) rfl (by omega) ?_
  exact pm_Ev.rv rfl rfl rfl
theorem ev_entryAt (H : Hp σ ad z ar lr) (hl : od_L z ar) (m0 : 0 ≤ z 8) {p : Int} (h : 0 ≤ 1 + p ∧ p < 400) : pm_Ev (tq_P L xs) (pm_enter 59 [.ref 188, .int (zI p)]) σ (.inl (some (.int (zI (oI (hq_g ar 190) p)))), σ) := by
  show pm_Ev (tq_P L xs) (59, 0, [(0, .ref 188), (1, .int (zI p))], []) σ _
  unfold od_L at hl
  refine pm_Ev.go 1 (f' := (59, 1, [(0, _), (1, _)], [_])) rfl ?_
  refine pm_Ev.gf rfl rfl H.m188 H.o188 rfl ?_
  refine pm_Ev.gf rfl rfl H.m1 H.o1 rfl ?_
  refine pm_Ev.go 2 (f' := (59, 9, [(0, _), (1, _)], [_, _, _])) rfl ?_
  refine pm_Ev.iadd rfl ?_
  refine pm_Ev.dia H rfl (by decide) rfl (by omega) ?_
  exact pm_Ev.rv rfl rfl rfl
theorem ev_value (H : Hp σ ad z ar lr) (hl : od_L z ar) (m0 : 0 ≤ z 8) {e f : Int} (h : 0 ≤ e ∧ e < z 8 ∧ 0 ≤ f ∧ f < 16) : pm_Ev (tq_P L xs) (pm_enter 60 [.ref 188, .int (zI e), .int (zI f)]) σ (.inl (some (.int (zI (oV (hq_g ar 190) e f)))), σ) := by
  show pm_Ev (tq_P L xs) (60, 0, [(0, .ref 188), (1, .int (zI e)), (2, .int (zI f))], []) σ _
  unfold od_L at hl
  refine pm_Ev.go 1 (f' := (60, 1, [(0, _), (1, _), (2, _)], [_])) rfl ?_
  refine pm_Ev.gf rfl rfl H.m188 H.o188 rfl ?_
  refine pm_Ev.gf rfl rfl H.m1 H.o1 rfl ?_
  refine pm_Ev.sp rfl rfl ?_
  refine pm_Ev.go 1 (f' := (60, 11, [(0, _), (1, _), (2, _)], [_, _, _])) rfl ?_
  refine pm_Ev.bp rfl rfl ?_
  refine pm_Ev.imul rfl ?_
  refine pm_Ev.iadd rfl ?_
  refine pm_Ev.go 1 (f' := (60, 16, [(0, _), (1, _), (2, _)], [_, _, _])) rfl ?_
  refine pm_Ev.iadd rfl ?_
  refine pm_Ev.dia H rfl (by decide) rfl (by omega) ?_
  exact pm_Ev.rv rfl rfl rfl
theorem ev_depthAt (H : Hp σ ad z ar lr) (hl : od_L z ar) (N : od_N (hq_g ar 190) (z 8)) {p : Int} (p0 : -1 ≤ p) (p1 : p < (hq_g ar 190 0) ∨ p = -1) : pm_Ev (tq_P L xs) (pm_enter 62 [.ref 188, .int (zI p)]) σ (.inl (some (.int (zI (oD (hq_g ar 190) p)))), σ) := by
  show pm_Ev (tq_P L xs) (62, 0, [(0, .ref 188), (1, .int (zI p))], []) σ _
  have nm := N.nm
  have m4 := N.m4
  have m0 := N.m0
  by_cases c : p = -1
  · rw [show oD (hq_g ar 190) p = 0 from if_pos c]
    refine pm_Ev.go 2 (f' := (62, 2, [(0, _), (1, _)], [_, _])) rfl ?_
    refine pm_Ev.jne rfl (by omega) rfl (fun h1 => ?_) (fun h1 => ?_)
    · exact absurd h1 (by omega)
    · refine pm_Ev.go 2 (f' := (62, 19, [(0, _), (1, _)], [_])) rfl ?_
      exact pm_Ev.rv rfl rfl rfl
  · rw [show oD (hq_g ar 190) p = oV (hq_g ar 190) (oI (hq_g ar 190) p) 2 from if_neg c]
    have i0 := N.J.1 p (by omega) (by omega)
    have i1 := N.lt p (by omega) (by omega)
    refine pm_Ev.go 2 (f' := (62, 2, [(0, _), (1, _)], [_, _])) rfl ?_
    refine pm_Ev.jne rfl (by omega) rfl (fun h1 => ?_) (fun h1 => ?_)
    · refine pm_Ev.go 3 (f' := (62, 12, [(0, _), (1, _)], [_, _, _])) rfl ?_
      refine pm_Ev.cv rfl rfl rfl rfl (by decide) (Nat.le_of_ble_eq_true rfl) (Nat.le_of_ble_eq_true rfl) H.m188 H.o188 (ev_entryAt L xs H hl N.m0 (by omega)) ?_
      refine pm_Ev.go 1 (f' := (62, 16, [(0, _), (1, _)], [_, _, _])) rfl ?_
      refine pm_Ev.cv rfl rfl rfl rfl (by decide) (Nat.le_of_ble_eq_true rfl) (Nat.le_of_ble_eq_true rfl) H.m188 H.o188 (ev_value L xs H hl N.m0 (by omega)) ?_
      exact pm_Ev.rv rfl rfl rfl
    · exact absurd h1 (by omega)
theorem ev_isClosed (H : Hp σ ad z ar lr) (hl : od_L z ar) (m0 : 0 ≤ z 8) {e : Int} (h : 0 ≤ e ∧ e < z 8) : pm_Ev (tq_P L xs) (pm_enter 63 [.ref 188, .int (zI e)]) σ (.inl (some (.int (zI (if 3 ≤ oV (hq_g ar 190) e 4 then 1 else 0)))), σ) := by
  show pm_Ev (tq_P L xs) (63, 0, [(0, .ref 188), (1, .int (zI e))], []) σ _
  have g := hq_g_r ar 190 (401 + e * 16 + 4)
  have g2 : -2147483648 ≤ oV (hq_g ar 190) e 4 ∧ oV (hq_g ar 190) e 4 ≤ 2147483647 := g
  refine pm_Ev.go 3 (f' := (63, 3, [(0, _), (1, _)], [_, _, _])) rfl ?_
  refine pm_Ev.cv rfl rfl rfl rfl (by decide) (Nat.le_of_ble_eq_true rfl) (Nat.le_of_ble_eq_true rfl) H.m188 H.o188 (ev_value L xs H hl m0 (by omega)) ?_
  refine pm_Ev.go 1 (f' := (63, 7, [(0, _), (1, _)], [_, _])) rfl ?_
  refine pm_Ev.jlt rfl (by omega) rfl (fun h1 => ?_) (fun h1 => ?_)
  · refine pm_Ev.go 1 (f' := (63, 15, [(0, _), (1, _)], [_])) rfl ?_
    exact pm_Ev.rb rfl rfl (by first | (rw [if_pos (by omega)]; done) | (rw [if_neg (by omega)]; done)) (by decide)
  · refine pm_Ev.go 2 (f' := (63, 15, [(0, _), (1, _)], [_])) rfl ?_
    exact pm_Ev.rb rfl rfl (by first | (rw [if_pos (by omega)]; done) | (rw [if_neg (by omega)]; done)) (by decide)
theorem ev_findL (H : Hp σ ad z ar lr) (hl : od_L z ar) (N : od_N (hq_g ar 190) (z 8)) {e x : Int} (he : -2147483648 ≤ e ∧ e ≤ 2147483647) (hx : (0 ≤ x ∧ x < (hq_g ar 190 0) ∧ oI (hq_g ar 190) x = e) ∨ (x = -2 ∧ ∀ p, 0 ≤ p → p < (hq_g ar 190 0) → oI (hq_g ar 190) p ≠ e)) : ∀ (k : Nat) (p : Int), 0 ≤ p → p + k = (hq_g ar 190 0) → (∀ q, 0 ≤ q → q < p → oI (hq_g ar 190) q ≠ e) → pm_Ev (tq_P L xs) (64, 2, [(2, .int (zI p)), (0, .ref 188), (1, .int (zI e))], []) σ (.inl (some (.int (zI x))), σ) := by
  intro k
  have nm := N.nm
  have m4 := N.m4
  have m0 := N.m0
  induction k with
  | zero =>
    intro p p0 pk hp
    have xe : x = -2 := by
      rcases hx with ⟨a, b, c⟩ | ⟨a, _⟩
      · exact absurd c (hp x a (by omega))
      · exact a
    refine pm_Ev.go 2 (f' := (64, 4, [(2, _), (0, _), (1, _)], [_, _])) rfl ?_
    refine pm_Ev.cv rfl rfl rfl rfl (by decide) (Nat.le_of_ble_eq_true rfl) (Nat.le_of_ble_eq_true rfl) H.m188 H.o188 (ev_count L xs H hl N.m0) ?_
    refine pm_Ev.jge rfl (by omega) rfl (fun h1 => ?_) (fun h1 => ?_)
    · refine pm_Ev.bp rfl rfl ?_
      exact pm_Ev.rv rfl rfl (by omega)
    · exact absurd h1 (by omega)
  | succ k ih =>
    intro p p0 pk hp
    have i0 := N.J.1 p p0 (by omega)
    have i1 := N.lt p p0 (by omega)
    by_cases c : oI (hq_g ar 190) p = e
    · have xe : x = p := by
        rcases hx with ⟨a, b, d⟩ | ⟨_, b⟩
        · exact N.J.2 x p a b p0 (by omega) (by rw [d, c])
        · exact absurd c (b p p0 (by omega))
      refine pm_Ev.go 2 (f' := (64, 4, [(2, _), (0, _), (1, _)], [_, _])) rfl ?_
      refine pm_Ev.cv rfl rfl rfl rfl (by decide) (Nat.le_of_ble_eq_true rfl) (Nat.le_of_ble_eq_true rfl) H.m188 H.o188 (ev_count L xs H hl N.m0) ?_
      refine pm_Ev.jge rfl (by omega) rfl (fun h1 => ?_) (fun h1 => ?_)
      · exact absurd h1 (by omega)
      · refine pm_Ev.go 2 (f' := (64, 12, [(2, _), (0, _), (1, _)], [_, _])) rfl ?_
        refine pm_Ev.cv rfl rfl rfl rfl (by decide) (Nat.le_of_ble_eq_true rfl) (Nat.le_of_ble_eq_true rfl) H.m188 H.o188 (ev_entryAt L xs H hl N.m0 (by omega)) ?_
        refine pm_Ev.go 1 (f' := (64, 16, [(2, _), (0, _), (1, _)], [_, _])) rfl ?_
        refine pm_Ev.jne rfl (by omega) rfl (fun h2 => ?_) (fun h2 => ?_)
        · exact absurd h2 (by omega)
        · refine pm_Ev.go 1 (f' := (64, 20, [(2, _), (0, _), (1, _)], [_])) rfl ?_
          exact pm_Ev.rv rfl rfl xe.symm
    · skip
      refine pm_Ev.go 2 (f' := (64, 4, [(2, _), (0, _), (1, _)], [_, _])) rfl ?_
      refine pm_Ev.cv rfl rfl rfl rfl (by decide) (Nat.le_of_ble_eq_true rfl) (Nat.le_of_ble_eq_true rfl) H.m188 H.o188 (ev_count L xs H hl N.m0) ?_
      refine pm_Ev.jge rfl (by omega) rfl (fun h1 => ?_) (fun h1 => ?_)
      · exact absurd h1 (by omega)
      · refine pm_Ev.go 2 (f' := (64, 12, [(2, _), (0, _), (1, _)], [_, _])) rfl ?_
        refine pm_Ev.cv rfl rfl rfl rfl (by decide) (Nat.le_of_ble_eq_true rfl) (Nat.le_of_ble_eq_true rfl) H.m188 H.o188 (ev_entryAt L xs H hl N.m0 (by omega)) ?_
        refine pm_Ev.go 1 (f' := (64, 16, [(2, _), (0, _), (1, _)], [_, _])) rfl ?_
        refine pm_Ev.jne rfl (by omega) rfl (fun h2 => ?_) (fun h2 => ?_)
        · refine pm_Ev.inc rfl rfl (Nat.le_of_ble_eq_true rfl) ?_
          refine pm_Ev.go 1 (f' := (64, 2, [(2, _), (0, _), (1, _)], [])) rfl ?_
          refine pm_Ev.weak (ih (p + 1) (by omega) (by omega) (fun q q0 q1 => ?_)) rfl
          by_cases d : q = p
          · rw [d]
            exact c
          · exact hp q q0 (by omega)
        · exact absurd h2 (by omega)
theorem ev_find (H : Hp σ ad z ar lr) (hl : od_L z ar) (N : od_N (hq_g ar 190) (z 8)) {e x : Int} (he : -2147483648 ≤ e ∧ e ≤ 2147483647) (hx : (0 ≤ x ∧ x < (hq_g ar 190 0) ∧ oI (hq_g ar 190) x = e) ∨ (x = -2 ∧ ∀ p, 0 ≤ p → p < (hq_g ar 190 0) → oI (hq_g ar 190) p ≠ e)) : pm_Ev (tq_P L xs) (pm_enter 64 [.ref 188, .int (zI e)]) σ (.inl (some (.int (zI (x)))), σ) := by
  show pm_Ev (tq_P L xs) (64, 0, [(0, .ref 188), (1, .int (zI e))], []) σ _
  have n0 := N.W.2.1
  refine pm_Ev.go 2 (f' := (64, 2, [(2, _), (0, _), (1, _)], [])) rfl ?_
  exact ev_findL L xs H hl N he hx (hq_g ar 190 0).toNat 0 (by omega) (by omega) (fun q q0 q1 => absurd q1 (by omega))
theorem ev_branchEndL (H : Hp σ ad z ar lr) (hl : od_L z ar) (N : od_N (hq_g ar 190) (z 8)) {v b : Int} (hv : 0 ≤ v ∧ v ≤ 12) : ∀ (k : Nat) (p : Int), 0 ≤ p → p + k = (hq_g ar 190 0) → pm_Ev (tq_P L xs) (65, 10, [(3, .int (zI p)), (2, .int (zI v)), (0, .ref 188), (1, .int (zI b))], []) σ (.inl (some (.int (zI (fo_bn (oD (hq_g ar 190)) v k p)))), σ) := by
  intro k
  have nm := N.nm
  have m4 := N.m4
  have m0 := N.m0
  induction k with
  | zero =>
    intro p p0 pk
    rw [fo_bn]
    refine pm_Ev.go 2 (f' := (65, 12, [(3, _), (2, _), (0, _), (1, _)], [_, _])) rfl ?_
    refine pm_Ev.cv rfl rfl rfl rfl (by decide) (Nat.le_of_ble_eq_true rfl) (Nat.le_of_ble_eq_true rfl) H.m188 H.o188 (ev_count L xs H hl N.m0) ?_
    refine pm_Ev.jge rfl (by omega) rfl (fun h1 => ?_) (fun h1 => ?_)
    · refine pm_Ev.go 1 (f' := (65, 36, [(3, _), (2, _), (0, _), (1, _)], [_])) rfl ?_
      refine pm_Ev.cv rfl rfl rfl rfl (by decide) (Nat.le_of_ble_eq_true rfl) (Nat.le_of_ble_eq_true rfl) H.m188 H.o188 (ev_count L xs H hl N.m0) ?_
      exact pm_Ev.rv rfl rfl (by omega)
    · exact absurd h1 (by omega)
  | succ k ih =>
    intro p p0 pk
    have d0 := N.dr (p := p) (by omega) (by omega)
    rw [fo_bn]
    by_cases c : (oD (hq_g ar 190)) p ≤ v
    · rw [if_pos c]
      refine pm_Ev.go 2 (f' := (65, 12, [(3, _), (2, _), (0, _), (1, _)], [_, _])) rfl ?_
      refine pm_Ev.cv rfl rfl rfl rfl (by decide) (Nat.le_of_ble_eq_true rfl) (Nat.le_of_ble_eq_true rfl) H.m188 H.o188 (ev_count L xs H hl N.m0) ?_
      refine pm_Ev.jge rfl (by omega) rfl (fun h1 => ?_) (fun h1 => ?_)
      · exact absurd h1 (by omega)
      · refine pm_Ev.go 2 (f' := (65, 20, [(3, _), (2, _), (0, _), (1, _)], [_, _])) rfl ?_
        refine pm_Ev.cv rfl rfl rfl rfl (by decide) (Nat.le_of_ble_eq_true rfl) (Nat.le_of_ble_eq_true rfl) H.m188 H.o188 (ev_depthAt L xs H hl N (by omega) (by omega)) ?_
        refine pm_Ev.go 1 (f' := (65, 24, [(3, _), (2, _), (0, _), (1, _)], [_, _])) rfl ?_
        refine pm_Ev.jgt rfl (by omega) rfl (fun h2 => ?_) (fun h2 => ?_)
        · exact absurd h2 (by omega)
        · refine pm_Ev.go 1 (f' := (65, 28, [(3, _), (2, _), (0, _), (1, _)], [_])) rfl ?_
          exact pm_Ev.rv rfl rfl rfl
    · rw [if_neg c]
      refine pm_Ev.go 2 (f' := (65, 12, [(3, _), (2, _), (0, _), (1, _)], [_, _])) rfl ?_
      refine pm_Ev.cv rfl rfl rfl rfl (by decide) (Nat.le_of_ble_eq_true rfl) (Nat.le_of_ble_eq_true rfl) H.m188 H.o188 (ev_count L xs H hl N.m0) ?_
      refine pm_Ev.jge rfl (by omega) rfl (fun h1 => ?_) (fun h1 => ?_)
      · exact absurd h1 (by omega)
      · refine pm_Ev.go 2 (f' := (65, 20, [(3, _), (2, _), (0, _), (1, _)], [_, _])) rfl ?_
        refine pm_Ev.cv rfl rfl rfl rfl (by decide) (Nat.le_of_ble_eq_true rfl) (Nat.le_of_ble_eq_true rfl) H.m188 H.o188 (ev_depthAt L xs H hl N (by omega) (by omega)) ?_
        refine pm_Ev.go 1 (f' := (65, 24, [(3, _), (2, _), (0, _), (1, _)], [_, _])) rfl ?_
        refine pm_Ev.jgt rfl (by omega) rfl (fun h2 => ?_) (fun h2 => ?_)
        · refine pm_Ev.inc rfl rfl (Nat.le_of_ble_eq_true rfl) ?_
          refine pm_Ev.go 1 (f' := (65, 10, [(3, _), (2, _), (0, _), (1, _)], [])) rfl ?_
          exact pm_Ev.weak (ih (p + 1) (by omega) (by omega)) rfl
        · exact absurd h2 (by omega)
theorem ev_branchEnd (H : Hp σ ad z ar lr) (hl : od_L z ar) (N : od_N (hq_g ar 190) (z 8)) {b : Int} (b0 : -1 ≤ b) (b1 : b < (hq_g ar 190 0) ∨ b = -1) : pm_Ev (tq_P L xs) (pm_enter 65 [.ref 188, .int (zI b)]) σ (.inl (some (.int (zI (fo_end (oD (hq_g ar 190)) (hq_g ar 190 0) b)))), σ) := by
  show pm_Ev (tq_P L xs) (65, 0, [(0, .ref 188), (1, .int (zI b))], []) σ _
  have n0 := N.W.2.1
  refine pm_Ev.go 2 (f' := (65, 2, [(0, _), (1, _)], [_, _])) rfl ?_
  refine pm_Ev.cv rfl rfl rfl rfl (by decide) (Nat.le_of_ble_eq_true rfl) (Nat.le_of_ble_eq_true rfl) H.m188 H.o188 (ev_depthAt L xs H hl N b0 b1) ?_
  refine pm_Ev.go 3 (f' := (65, 8, [(2, _), (0, _), (1, _)], [_, _])) rfl ?_
  refine pm_Ev.iadd rfl ?_
  refine pm_Ev.go 1 (f' := (65, 10, [(3, _), (2, _), (0, _), (1, _)], [])) rfl ?_
  exact ev_branchEndL L xs H hl N (N.dr b0 b1) ((hq_g ar 190 0) - (b + 1)).toNat (b + 1) (by omega) (by omega)
theorem ev_max {a b : Int} (h : -2147483648 ≤ a ∧ a ≤ 2147483647 ∧ -2147483648 ≤ b ∧ b ≤ 2147483647) : pm_Ev (tq_P L xs) (pm_enter 199 [.int (zI a), .int (zI b)]) σ (.inl (some (.int (zI (if a < b then b else a)))), σ) := by
  show pm_Ev (tq_P L xs) (199, 0, [(0, .int (zI a)), (1, .int (zI b))], []) σ _
  refine pm_Ev.go 2 (f' := (199, 2, [(0, _), (1, _)], [_, _])) rfl ?_
  refine pm_Ev.jlt rfl (by omega) rfl (fun h1 => ?_) (fun h1 => ?_)
  · refine pm_Ev.go 1 (f' := (199, 10, [(0, _), (1, _)], [_])) rfl ?_
    exact pm_Ev.rv rfl rfl (by first | (rw [if_pos (by omega)]; done) | (rw [if_neg (by omega)]; done))
  · refine pm_Ev.go 2 (f' := (199, 10, [(0, _), (1, _)], [_])) rfl ?_
    exact pm_Ev.rv rfl rfl (by first | (rw [if_pos (by omega)]; done) | (rw [if_neg (by omega)]; done))
theorem ev_deepL (H : Hp σ ad z ar lr) (hl : od_L z ar) (N : od_N (hq_g ar 190) (z 8)) {b v : Int} (b0 : 0 ≤ b) (b1 : b < (hq_g ar 190 0)) (hv : fo_hi (oD (hq_g ar 190)) b (fo_end (oD (hq_g ar 190)) (hq_g ar 190 0) b) v) : ∀ (k : Nat) (p c : Int), b < p → p + k = fo_end (oD (hq_g ar 190)) (hq_g ar 190 0) b → (∀ x, b ≤ x → x < p → (oD (hq_g ar 190)) x ≤ c) → c ≤ v → 0 ≤ c → pm_Ev (tq_P L xs) (66, 17, [(4, .int (zI p)), (3, .int (zI (fo_end (oD (hq_g ar 190)) (hq_g ar 190 0) b))), (2, .int (zI c)), (0, .ref 188), (1, .int (zI b))], []) σ (.inl (some (.int (zI v))), σ) := by
  intro k
  have nm := N.nm
  have m4 := N.m4
  have B := fo_end_B (D := (oD (hq_g ar 190))) b1
  have be := B.2.1
  have vv : v ≤ 12 := by
    obtain ⟨x, x0, x1, x2⟩ := hv.2
    have := N.dp x (by omega) (by omega)
    omega
  induction k with
  | zero =>
    intro p c bp pk hc cv c0
    obtain ⟨x, x0, x1, x2⟩ := hv.2
    have := hc x x0 (by omega)
    refine pm_Ev.go 2 (f' := (66, 20, [(4, _), (3, _), (2, _), (0, _), (1, _)], [_, _])) rfl ?_
    refine pm_Ev.jge rfl (by omega) rfl (fun h1 => ?_) (fun h1 => ?_)
    · refine pm_Ev.go 1 (f' := (66, 41, [(4, _), (3, _), (2, _), (0, _), (1, _)], [_])) rfl ?_
      exact pm_Ev.rv rfl rfl (by omega)
    · exact absurd h1 (by omega)
  | succ k ih =>
    intro p c bp pk hc cv c0
    have d0 := N.dr (p := p) (by omega) (by omega)
    have hp := hv.1 p (by omega) (by omega)
    refine pm_Ev.go 2 (f' := (66, 20, [(4, _), (3, _), (2, _), (0, _), (1, _)], [_, _])) rfl ?_
    refine pm_Ev.jge rfl (by omega) rfl (fun h1 => ?_) (fun h1 => ?_)
    · exact absurd h1 (by omega)
    · refine pm_Ev.go 3 (f' := (66, 27, [(4, _), (3, _), (2, _), (0, _), (1, _)], [_, _, _])) rfl ?_
      refine pm_Ev.cv rfl rfl rfl rfl (by decide) (Nat.le_of_ble_eq_true rfl) (Nat.le_of_ble_eq_true rfl) H.m188 H.o188 (ev_depthAt L xs H hl N (by omega) (by omega)) ?_
      refine pm_Ev.call rfl rfl rfl rfl rfl (ev_max L xs (by omega)) ?_
      refine pm_Ev.go 1 (f' := (66, 34, [(2, _), (4, _), (3, _), (0, _), (1, _)], [])) rfl ?_
      refine pm_Ev.inc rfl rfl (Nat.le_of_ble_eq_true rfl) ?_
      refine pm_Ev.go 1 (f' := (66, 17, [(4, _), (2, _), (3, _), (0, _), (1, _)], [])) rfl ?_
      refine pm_Ev.weak (ih (p + 1) (if c < (oD (hq_g ar 190)) p then (oD (hq_g ar 190)) p else c) (by omega) (by omega) (fun x x0 x1 => ?_) (by split <;> omega) (by split <;> omega)) rfl
      by_cases e : x = p
      · rw [e]
        split <;> omega
      · have := hc x x0 (by omega)
        split <;> omega
theorem ev_deepestFrom (H : Hp σ ad z ar lr) (hl : od_L z ar) (N : od_N (hq_g ar 190) (z 8)) {b v : Int} (b0 : 0 ≤ b) (b1 : b < (hq_g ar 190 0)) (hv : fo_hi (oD (hq_g ar 190)) b (fo_end (oD (hq_g ar 190)) (hq_g ar 190 0) b) v) : pm_Ev (tq_P L xs) (pm_enter 66 [.ref 188, .int (zI b)]) σ (.inl (some (.int (zI (v)))), σ) := by
  show pm_Ev (tq_P L xs) (66, 0, [(0, .ref 188), (1, .int (zI b))], []) σ _
  have B := fo_end_B (D := (oD (hq_g ar 190))) b1
  have bb := B.1
  have hb := hv.1 b (by omega) (by omega)
  have d0 := N.dr (p := b) (by omega) (by omega)
  refine pm_Ev.go 2 (f' := (66, 2, [(0, _), (1, _)], [_, _])) rfl ?_
  refine pm_Ev.cv rfl rfl rfl rfl (by decide) (Nat.le_of_ble_eq_true rfl) (Nat.le_of_ble_eq_true rfl) H.m188 H.o188 (ev_depthAt L xs H hl N (by omega) (by omega)) ?_
  refine pm_Ev.go 3 (f' := (66, 8, [(2, _), (0, _), (1, _)], [_, _])) rfl ?_
  refine pm_Ev.cv rfl rfl rfl rfl (by decide) (Nat.le_of_ble_eq_true rfl) (Nat.le_of_ble_eq_true rfl) H.m188 H.o188 (ev_branchEnd L xs H hl N (by omega) (by omega)) ?_
  refine pm_Ev.go 3 (f' := (66, 14, [(3, _), (2, _), (0, _), (1, _)], [_, _])) rfl ?_
  refine pm_Ev.iadd rfl ?_
  refine pm_Ev.go 1 (f' := (66, 17, [(4, _), (3, _), (2, _), (0, _), (1, _)], [])) rfl ?_
  exact ev_deepL L xs H hl N b0 b1 hv (fo_end (oD (hq_g ar 190)) (hq_g ar 190 0) b - (b + 1)).toNat (b + 1) ((oD (hq_g ar 190)) b) (by omega) (by omega) (fun x x0 x1 => by rw [show x = b by omega]; omega) hb d0.1
theorem ev_childCountL (H : Hp σ ad z ar lr) (hl : od_L z ar) (N : od_N (hq_g ar 190) (z 8)) {r : Int} (u0 : -1 ≤ r) (u1 : r < (hq_g ar 190 0) ∨ r = -1) : ∀ (k : Nat) (p : Int), r < p → p + k = fo_end (oD (hq_g ar 190)) (hq_g ar 190 0) r → pm_Ev (tq_P L xs) (67, 13, [(4, .int (zI p)), (3, .int (zI (fo_end (oD (hq_g ar 190)) (hq_g ar 190 0) r))), (2, .int (zI (fo_c (oD (hq_g ar 190)) ((oD (hq_g ar 190)) r + 1) (r + 1) p))), (0, .ref 188), (1, .int (zI r))], []) σ (.inl (some (.int (zI (fo_cc (oD (hq_g ar 190)) (hq_g ar 190 0) r)))), σ) := by
  intro k
  have nm := N.nm
  have m4 := N.m4
  have B := fo_end_B' N.W u0 u1
  have dr := N.dr u0 u1
  induction k with
  | zero =>
    intro p bp pk
    have e : p = fo_end (oD (hq_g ar 190)) (hq_g ar 190 0) r := by omega
    refine pm_Ev.go 2 (f' := (67, 16, [(4, _), (3, _), (2, _), (0, _), (1, _)], [_, _])) rfl ?_
    refine pm_Ev.jge rfl (by omega) rfl (fun h1 => ?_) (fun h1 => ?_)
    · refine pm_Ev.go 1 (f' := (67, 45, [(4, _), (3, _), (2, _), (0, _), (1, _)], [_])) rfl ?_
      exact pm_Ev.rv rfl rfl (by rw [e]; rfl)
    · exact absurd h1 (by omega)
  | succ k ih =>
    intro p bp pk
    have d0 := N.dr (p := p) (by omega) (by omega)
    have ih1 := ih (p + 1) (by omega) (by omega)
    rw [fo_c_r (by omega)] at ih1
    by_cases c : (oD (hq_g ar 190)) p = (oD (hq_g ar 190)) r + 1
    · rw [if_pos c] at ih1
      refine pm_Ev.go 2 (f' := (67, 16, [(4, _), (3, _), (2, _), (0, _), (1, _)], [_, _])) rfl ?_
      refine pm_Ev.jge rfl (by omega) rfl (fun h1 => ?_) (fun h1 => ?_)
      · exact absurd h1 (by omega)
      · refine pm_Ev.go 2 (f' := (67, 22, [(4, _), (3, _), (2, _), (0, _), (1, _)], [_, _])) rfl ?_
        refine pm_Ev.cv rfl rfl rfl rfl (by decide) (Nat.le_of_ble_eq_true rfl) (Nat.le_of_ble_eq_true rfl) H.m188 H.o188 (ev_depthAt L xs H hl N (by omega) (by omega)) ?_
        refine pm_Ev.go 2 (f' := (67, 27, [(4, _), (3, _), (2, _), (0, _), (1, _)], [_, _, _])) rfl ?_
        refine pm_Ev.cv rfl rfl rfl rfl (by decide) (Nat.le_of_ble_eq_true rfl) (Nat.le_of_ble_eq_true rfl) H.m188 H.o188 (ev_depthAt L xs H hl N u0 u1) ?_
        refine pm_Ev.go 1 (f' := (67, 31, [(4, _), (3, _), (2, _), (0, _), (1, _)], [_, _, _])) rfl ?_
        refine pm_Ev.iadd rfl ?_
        refine pm_Ev.jne rfl (by omega) rfl (fun h2 => ?_) (fun h2 => ?_)
        · exact absurd h2 (by omega)
        · refine pm_Ev.inc rfl rfl (Nat.le_of_ble_eq_true rfl) ?_
          refine pm_Ev.inc rfl rfl (Nat.le_of_ble_eq_true rfl) ?_
          refine pm_Ev.go 1 (f' := (67, 13, [(4, _), (2, _), (3, _), (0, _), (1, _)], [])) rfl ?_
          exact pm_Ev.weak ih1 rfl
    · rw [if_neg c, Int.add_zero] at ih1
      refine pm_Ev.go 2 (f' := (67, 16, [(4, _), (3, _), (2, _), (0, _), (1, _)], [_, _])) rfl ?_
      refine pm_Ev.jge rfl (by omega) rfl (fun h1 => ?_) (fun h1 => ?_)
      · exact absurd h1 (by omega)
      · refine pm_Ev.go 2 (f' := (67, 22, [(4, _), (3, _), (2, _), (0, _), (1, _)], [_, _])) rfl ?_
        refine pm_Ev.cv rfl rfl rfl rfl (by decide) (Nat.le_of_ble_eq_true rfl) (Nat.le_of_ble_eq_true rfl) H.m188 H.o188 (ev_depthAt L xs H hl N (by omega) (by omega)) ?_
        refine pm_Ev.go 2 (f' := (67, 27, [(4, _), (3, _), (2, _), (0, _), (1, _)], [_, _, _])) rfl ?_
        refine pm_Ev.cv rfl rfl rfl rfl (by decide) (Nat.le_of_ble_eq_true rfl) (Nat.le_of_ble_eq_true rfl) H.m188 H.o188 (ev_depthAt L xs H hl N u0 u1) ?_
        refine pm_Ev.go 1 (f' := (67, 31, [(4, _), (3, _), (2, _), (0, _), (1, _)], [_, _, _])) rfl ?_
        refine pm_Ev.iadd rfl ?_
        refine pm_Ev.jne rfl (by omega) rfl (fun h2 => ?_) (fun h2 => ?_)
        · refine pm_Ev.inc rfl rfl (Nat.le_of_ble_eq_true rfl) ?_
          refine pm_Ev.go 1 (f' := (67, 13, [(4, _), (3, _), (2, _), (0, _), (1, _)], [])) rfl ?_
          exact pm_Ev.weak ih1 rfl
        · exact absurd h2 (by omega)
theorem ev_childCount (H : Hp σ ad z ar lr) (hl : od_L z ar) (N : od_N (hq_g ar 190) (z 8)) {r : Int} (u0 : -1 ≤ r) (u1 : r < (hq_g ar 190 0) ∨ r = -1) : pm_Ev (tq_P L xs) (pm_enter 67 [.ref 188, .int (zI r)]) σ (.inl (some (.int (zI (fo_cc (oD (hq_g ar 190)) (hq_g ar 190 0) r)))), σ) := by
  show pm_Ev (tq_P L xs) (67, 0, [(0, .ref 188), (1, .int (zI r))], []) σ _
  have B := fo_end_B' N.W u0 u1
  refine pm_Ev.go 4 (f' := (67, 4, [(2, _), (0, _), (1, _)], [_, _])) rfl ?_
  refine pm_Ev.cv rfl rfl rfl rfl (by decide) (Nat.le_of_ble_eq_true rfl) (Nat.le_of_ble_eq_true rfl) H.m188 H.o188 (ev_branchEnd L xs H hl N u0 u1) ?_
  refine pm_Ev.go 3 (f' := (67, 10, [(3, _), (2, _), (0, _), (1, _)], [_, _])) rfl ?_
  refine pm_Ev.iadd rfl ?_
  refine pm_Ev.go 1 (f' := (67, 13, [(4, _), (3, _), (2, _), (0, _), (1, _)], [])) rfl ?_
  have q := ev_childCountL L xs H hl N u0 u1 (fo_end (oD (hq_g ar 190)) (hq_g ar 190 0) r - (r + 1)).toNat (r + 1) (by omega) (by omega)
  rw [fo_c_0 (Int.le_refl _)] at q
  exact pm_Ev.weak q rfl
theorem ev_parPosL (H : Hp σ ad z ar lr) (hl : od_L z ar) (N : od_N (hq_g ar 190) (z 8)) {v b : Int} (hv : 0 ≤ v ∧ v ≤ 12) : ∀ (k : Nat), (k : Int) ≤ (hq_g ar 190 0) → pm_Ev (tq_P L xs) (70, 10, [(3, .int (zI ((k : Int) - 1))), (2, .int (zI v)), (0, .ref 188), (1, .int (zI b))], []) σ (.inl (some (.int (zI (fo_pr (oD (hq_g ar 190)) v k)))), σ) := by
  intro k
  have nm := N.nm
  have m4 := N.m4
  induction k with
  | zero =>
    intro kn
    rw [fo_pr]
    refine pm_Ev.go 1 (f' := (70, 11, [(3, _), (2, _), (0, _), (1, _)], [_])) rfl ?_
    refine pm_Ev.zlt rfl (by omega) rfl (fun h1 => ?_) (fun h1 => ?_)
    · refine pm_Ev.go 1 (f' := (70, 32, [(3, _), (2, _), (0, _), (1, _)], [_])) rfl ?_
      exact pm_Ev.rv rfl rfl rfl
    · exact absurd h1 (by omega)
  | succ k ih =>
    intro kn
    have d0 := N.dr (p := (k : Int)) (by omega) (by omega)
    rw [fo_pr, show ((k + 1 : Nat) : Int) - 1 = (k : Int) by omega]
    by_cases c : (oD (hq_g ar 190)) k < v
    · rw [if_pos c]
      refine pm_Ev.go 1 (f' := (70, 11, [(3, _), (2, _), (0, _), (1, _)], [_])) rfl ?_
      refine pm_Ev.zlt rfl (by omega) rfl (fun h1 => ?_) (fun h1 => ?_)
      · exact absurd h1 (by omega)
      · refine pm_Ev.go 2 (f' := (70, 16, [(3, _), (2, _), (0, _), (1, _)], [_, _])) rfl ?_
        refine pm_Ev.cv rfl rfl rfl rfl (by decide) (Nat.le_of_ble_eq_true rfl) (Nat.le_of_ble_eq_true rfl) H.m188 H.o188 (ev_depthAt L xs H hl N (by omega) (by omega)) ?_
        refine pm_Ev.go 1 (f' := (70, 20, [(3, _), (2, _), (0, _), (1, _)], [_, _])) rfl ?_
        refine pm_Ev.jge rfl (by omega) rfl (fun h2 => ?_) (fun h2 => ?_)
        · exact absurd h2 (by omega)
        · refine pm_Ev.go 1 (f' := (70, 24, [(3, _), (2, _), (0, _), (1, _)], [_])) rfl ?_
          exact pm_Ev.rv rfl rfl rfl
    · rw [if_neg c]
      refine pm_Ev.go 1 (f' := (70, 11, [(3, _), (2, _), (0, _), (1, _)], [_])) rfl ?_
      refine pm_Ev.zlt rfl (by omega) rfl (fun h1 => ?_) (fun h1 => ?_)
      · exact absurd h1 (by omega)
      · refine pm_Ev.go 2 (f' := (70, 16, [(3, _), (2, _), (0, _), (1, _)], [_, _])) rfl ?_
        refine pm_Ev.cv rfl rfl rfl rfl (by decide) (Nat.le_of_ble_eq_true rfl) (Nat.le_of_ble_eq_true rfl) H.m188 H.o188 (ev_depthAt L xs H hl N (by omega) (by omega)) ?_
        refine pm_Ev.go 1 (f' := (70, 20, [(3, _), (2, _), (0, _), (1, _)], [_, _])) rfl ?_
        refine pm_Ev.jge rfl (by omega) rfl (fun h2 => ?_) (fun h2 => ?_)
        · refine pm_Ev.inc rfl rfl (Nat.le_of_ble_eq_true rfl) ?_
          refine pm_Ev.go 1 (f' := (70, 10, [(3, _), (2, _), (0, _), (1, _)], [])) rfl ?_
          exact pm_Ev.weak (ih (by omega)) rfl
        · exact absurd h2 (by omega)
theorem ev_parentPosition (H : Hp σ ad z ar lr) (hl : od_L z ar) (N : od_N (hq_g ar 190) (z 8)) {b : Int} (b0 : 0 ≤ b) (b1 : b < (hq_g ar 190 0)) : pm_Ev (tq_P L xs) (pm_enter 70 [.ref 188, .int (zI b)]) σ (.inl (some (.int (zI (fo_par (oD (hq_g ar 190)) b)))), σ) := by
  show pm_Ev (tq_P L xs) (70, 0, [(0, .ref 188), (1, .int (zI b))], []) σ _
  refine pm_Ev.go 2 (f' := (70, 2, [(0, _), (1, _)], [_, _])) rfl ?_
  refine pm_Ev.cv rfl rfl rfl rfl (by decide) (Nat.le_of_ble_eq_true rfl) (Nat.le_of_ble_eq_true rfl) H.m188 H.o188 (ev_depthAt L xs H hl N (by omega) (by omega)) ?_
  refine pm_Ev.go 3 (f' := (70, 8, [(2, _), (0, _), (1, _)], [_, _])) rfl ?_
  refine pm_Ev.isub rfl ?_
  refine pm_Ev.go 1 (f' := (70, 10, [(3, _), (2, _), (0, _), (1, _)], [])) rfl ?_
  have q := ev_parPosL L xs H hl N (b := b) (N.dr (by omega) (Or.inl b1)) b.toNat (by omega)
  rw [show ((b.toNat : Nat) : Int) = b by omega] at q
  exact pm_Ev.weak q rfl
theorem ev_parentAt (H : Hp σ ad z ar lr) (hl : od_L z ar) (N : od_N (hq_g ar 190) (z 8)) {b : Int} (b0 : 0 ≤ b) (b1 : b < (hq_g ar 190 0)) : pm_Ev (tq_P L xs) (pm_enter 71 [.ref 188, .int (zI b)]) σ (.inl (some (.int (zI (fo_id (oI (hq_g ar 190)) (fo_par (oD (hq_g ar 190)) b))))), σ) := by
  show pm_Ev (tq_P L xs) (71, 0, [(0, .ref 188), (1, .int (zI b))], []) σ _
  have nm := N.nm
  have m4 := N.m4
  have P := fo_par_P N.W b0 b1
  have p0 := P.1
  have p1 := P.2.1
  by_cases c : fo_par (oD (hq_g ar 190)) b = -1
  · rw [show fo_id (oI (hq_g ar 190)) (fo_par (oD (hq_g ar 190)) b) = -1 from if_pos c]
    refine pm_Ev.go 2 (f' := (71, 2, [(0, _), (1, _)], [_, _])) rfl ?_
    refine pm_Ev.cv rfl rfl rfl rfl (by decide) (Nat.le_of_ble_eq_true rfl) (Nat.le_of_ble_eq_true rfl) H.m188 H.o188 (ev_parentPosition L xs H hl N b0 b1) ?_
    refine pm_Ev.go 3 (f' := (71, 8, [(2, _), (0, _), (1, _)], [_, _])) rfl ?_
    refine pm_Ev.jne rfl (by omega) rfl (fun h1 => ?_) (fun h1 => ?_)
    · exact absurd h1 (by omega)
    · refine pm_Ev.go 2 (f' := (71, 20, [(2, _), (0, _), (1, _)], [_])) rfl ?_
      exact pm_Ev.rv rfl rfl rfl
  · rw [show fo_id (oI (hq_g ar 190)) (fo_par (oD (hq_g ar 190)) b) = (oI (hq_g ar 190)) (fo_par (oD (hq_g ar 190)) b) from if_neg c]
    refine pm_Ev.go 2 (f' := (71, 2, [(0, _), (1, _)], [_, _])) rfl ?_
    refine pm_Ev.cv rfl rfl rfl rfl (by decide) (Nat.le_of_ble_eq_true rfl) (Nat.le_of_ble_eq_true rfl) H.m188 H.o188 (ev_parentPosition L xs H hl N b0 b1) ?_
    refine pm_Ev.go 3 (f' := (71, 8, [(2, _), (0, _), (1, _)], [_, _])) rfl ?_
    refine pm_Ev.jne rfl (by omega) rfl (fun h1 => ?_) (fun h1 => ?_)
    · refine pm_Ev.go 2 (f' := (71, 17, [(2, _), (0, _), (1, _)], [_, _])) rfl ?_
      refine pm_Ev.cv rfl rfl rfl rfl (by decide) (Nat.le_of_ble_eq_true rfl) (Nat.le_of_ble_eq_true rfl) H.m188 H.o188 (ev_entryAt L xs H hl N.m0 (by omega)) ?_
      exact pm_Ev.rv rfl rfl rfl
    · exact absurd h1 (by omega)
theorem ev_placeL (H : Hp σ ad z ar lr) (hl : od_L z ar) (N : od_N (hq_g ar 190) (z 8)) {b : Int} (b0 : 0 ≤ b) (b1 : b < (hq_g ar 190 0)) : ∀ (k : Nat) (p : Int), fo_par (oD (hq_g ar 190)) b < p → p + k = b → pm_Ev (tq_P L xs) (72, 10, [(3, .int (zI p)), (2, .int (zI (fo_c (oD (hq_g ar 190)) ((oD (hq_g ar 190)) b) (fo_par (oD (hq_g ar 190)) b + 1) p))), (0, .ref 188), (1, .int (zI b))], []) σ (.inl (some (.int (zI (fo_pl (oD (hq_g ar 190)) b)))), σ) := by
  intro k
  have nm := N.nm
  have m4 := N.m4
  have P := fo_par_P N.W b0 b1
  have p0 := P.1
  have d1 := N.dr (p := b) (by omega) (by omega)
  induction k with
  | zero =>
    intro p bp pk
    have e : p = b := by omega
    refine pm_Ev.go 2 (f' := (72, 12, [(3, _), (2, _), (0, _), (1, _)], [_, _])) rfl ?_
    refine pm_Ev.jge rfl (by omega) rfl (fun h1 => ?_) (fun h1 => ?_)
    · refine pm_Ev.go 1 (f' := (72, 38, [(3, _), (2, _), (0, _), (1, _)], [_])) rfl ?_
      exact pm_Ev.rv rfl rfl (by rw [e]; rfl)
    · exact absurd h1 (by omega)
  | succ k ih =>
    intro p bp pk
    have d0 := N.dr (p := p) (by omega) (by omega)
    have ih1 := ih (p + 1) (by omega) (by omega)
    rw [fo_c_r (by omega)] at ih1
    by_cases c : (oD (hq_g ar 190)) p = (oD (hq_g ar 190)) b
    · rw [if_pos c] at ih1
      refine pm_Ev.go 2 (f' := (72, 12, [(3, _), (2, _), (0, _), (1, _)], [_, _])) rfl ?_
      refine pm_Ev.jge rfl (by omega) rfl (fun h1 => ?_) (fun h1 => ?_)
      · exact absurd h1 (by omega)
      · refine pm_Ev.go 2 (f' := (72, 17, [(3, _), (2, _), (0, _), (1, _)], [_, _])) rfl ?_
        refine pm_Ev.cv rfl rfl rfl rfl (by decide) (Nat.le_of_ble_eq_true rfl) (Nat.le_of_ble_eq_true rfl) H.m188 H.o188 (ev_depthAt L xs H hl N (by omega) (by omega)) ?_
        refine pm_Ev.go 2 (f' := (72, 22, [(3, _), (2, _), (0, _), (1, _)], [_, _, _])) rfl ?_
        refine pm_Ev.cv rfl rfl rfl rfl (by decide) (Nat.le_of_ble_eq_true rfl) (Nat.le_of_ble_eq_true rfl) H.m188 H.o188 (ev_depthAt L xs H hl N (by omega) (by omega)) ?_
        refine pm_Ev.jne rfl (by omega) rfl (fun h2 => ?_) (fun h2 => ?_)
        · exact absurd h2 (by omega)
        · refine pm_Ev.inc rfl rfl (Nat.le_of_ble_eq_true rfl) ?_
          refine pm_Ev.inc rfl rfl (Nat.le_of_ble_eq_true rfl) ?_
          refine pm_Ev.go 1 (f' := (72, 10, [(3, _), (2, _), (0, _), (1, _)], [])) rfl ?_
          exact pm_Ev.weak ih1 rfl
    · rw [if_neg c, Int.add_zero] at ih1
      refine pm_Ev.go 2 (f' := (72, 12, [(3, _), (2, _), (0, _), (1, _)], [_, _])) rfl ?_
      refine pm_Ev.jge rfl (by omega) rfl (fun h1 => ?_) (fun h1 => ?_)
      · exact absurd h1 (by omega)
      · refine pm_Ev.go 2 (f' := (72, 17, [(3, _), (2, _), (0, _), (1, _)], [_, _])) rfl ?_
        refine pm_Ev.cv rfl rfl rfl rfl (by decide) (Nat.le_of_ble_eq_true rfl) (Nat.le_of_ble_eq_true rfl) H.m188 H.o188 (ev_depthAt L xs H hl N (by omega) (by omega)) ?_
        refine pm_Ev.go 2 (f' := (72, 22, [(3, _), (2, _), (0, _), (1, _)], [_, _, _])) rfl ?_
        refine pm_Ev.cv rfl rfl rfl rfl (by decide) (Nat.le_of_ble_eq_true rfl) (Nat.le_of_ble_eq_true rfl) H.m188 H.o188 (ev_depthAt L xs H hl N (by omega) (by omega)) ?_
        refine pm_Ev.jne rfl (by omega) rfl (fun h2 => ?_) (fun h2 => ?_)
        · refine pm_Ev.inc rfl rfl (Nat.le_of_ble_eq_true rfl) ?_
          refine pm_Ev.go 1 (f' := (72, 10, [(3, _), (2, _), (0, _), (1, _)], [])) rfl ?_
          exact pm_Ev.weak ih1 rfl
        · exact absurd h2 (by omega)
theorem ev_placeAt (H : Hp σ ad z ar lr) (hl : od_L z ar) (N : od_N (hq_g ar 190) (z 8)) {b : Int} (b0 : 0 ≤ b) (b1 : b < (hq_g ar 190 0)) : pm_Ev (tq_P L xs) (pm_enter 72 [.ref 188, .int (zI b)]) σ (.inl (some (.int (zI (fo_pl (oD (hq_g ar 190)) b)))), σ) := by
  show pm_Ev (tq_P L xs) (72, 0, [(0, .ref 188), (1, .int (zI b))], []) σ _
  have P := fo_par_P N.W b0 b1
  have p1 := P.2.1
  refine pm_Ev.go 4 (f' := (72, 4, [(2, _), (0, _), (1, _)], [_, _])) rfl ?_
  refine pm_Ev.cv rfl rfl rfl rfl (by decide) (Nat.le_of_ble_eq_true rfl) (Nat.le_of_ble_eq_true rfl) H.m188 H.o188 (ev_parentPosition L xs H hl N b0 b1) ?_
  refine pm_Ev.go 1 (f' := (72, 8, [(2, _), (0, _), (1, _)], [_, _])) rfl ?_
  refine pm_Ev.iadd rfl ?_
  refine pm_Ev.go 1 (f' := (72, 10, [(3, _), (2, _), (0, _), (1, _)], [])) rfl ?_
  have q := ev_placeL L xs H hl N b0 b1 (b - (fo_par (oD (hq_g ar 190)) b + 1)).toNat (fo_par (oD (hq_g ar 190)) b + 1) (by omega) (by omega)
  rw [fo_c_0 (Int.le_refl _)] at q
  exact pm_Ev.weak q rfl
end MS
