/-! the reference: sum, told, about, line -/
def mo_hv (g : Int → Int → Int) (v e : Int) : Int := if v = 0 then 1 else if v = 1 then g e 12 else if v = 2 then g e 13 else if v = 3 then (if 2 < g e 4 then 1 else 0) else (if 0 < g e 4 then 1 else 0)
def fo_ln (S I : Int → Int) (i : Int) : Nat → Int → Int → Int
  | 0, _, _ => -1
  | j + 1, k, c => if S k = 1 then (if c = i then I k else fo_ln S I i j (k + 1) (c + 1)) else fo_ln S I i j (k + 1) c
section MS
variable (L : Nat) (xs : Nat → Int32)
variable {σ : pm_S} {ad : Nat → Nat} {z : Nat → Int} {ar : Nat → Nat × (Nat → Int32)} {lr : Nat → Nat × (Nat → Int64)}
theorem ev_msumL0r (H : Hp σ ad z ar lr) (hl : (ar 200).1 = 5600) {n : Int} {I D : Int → Int} (M : mo_R (mo_g ar) (z 23) n I D) {q : Int → Int} (q1 : ∀ x, 0 ≤ x → x < n → q (I x) = if 0 ≤ x ∧ x < n then mo_hv (mo_g ar) 0 (I x) else 0) (q0 : ∀ i, 0 ≤ i → i < z 23 → mo_g ar i 0 ≠ 1 → q i = 0) : ∀ (k : Nat) (e : Int), 0 ≤ e → e + k = z 23 → pm_Ev (tq_P L xs) (158, 50, [(4, .int (zI e)), (3, .int (zI (fs q 0 e))), (0, .ref 199), (1, .int (zI (-1))), (2, .int (zI 0))], []) σ (.inl (some (.int (zI (fs q 0 (z 23))))), σ) := by
  intro k
  have hm : 0 ≤ z 23 ∧ z 23 ≤ 400 := ⟨M.m0, M.m4⟩
  induction k with
  | zero =>
    intro e e0 ek
    have ee : e = z 23 := by omega
    subst ee
    refine pm_Ev.go 2 (f' := (158, 53, [(4, _), (3, _), (0, _), (1, _), (2, _)], [_, _])) rfl ?_
    refine pm_Ev.gf rfl rfl H.m199 H.o199 rfl ?_
    refine pm_Ev.jge rfl (by omega) rfl (fun h1 => ?_) (fun h1 => ?_)
    · refine pm_Ev.go 1 (f' := (158, 163, [(4, _), (3, _), (0, _), (1, _), (2, _)], [_])) rfl ?_
      exact pm_Ev.rv rfl rfl rfl
    · exact absurd h1 (by omega)
  | succ k ih =>
    intro e e0 ek
    have ge := mo_g_r ar e 0
    have g4 := mo_g_r ar e 4
    have ih1 := ih (e + 1) (by omega) (by omega)
    rw [fs_r e0] at ih1
    rcases M.th e e0 (by omega) with ⟨t1, x, x0, x1, xe⟩ | ⟨t0, t1⟩
    · have qx := q1 x x0 x1
      rw [xe] at qx
      have hx : mo_hv (mo_g ar) 0 e = 1 := rfl
      rw [if_pos ⟨x0, x1⟩] at qx
      rw [hx] at qx
      rw [qx] at ih1
      refine pm_Ev.go 2 (f' := (158, 53, [(4, _), (3, _), (0, _), (1, _), (2, _)], [_, _])) rfl ?_
      refine pm_Ev.gf rfl rfl H.m199 H.o199 rfl ?_
      refine pm_Ev.jge rfl (by omega) rfl (fun h1 => ?_) (fun h1 => ?_)
      · exact absurd h1 (by omega)
      · refine pm_Ev.go 3 (f' := (158, 63, [(4, _), (3, _), (0, _), (1, _), (2, _)], [_, _, _])) rfl ?_
        refine pm_Ev.cv rfl rfl rfl rfl (by decide) (Nat.le_of_ble_eq_true rfl) (Nat.le_of_ble_eq_true rfl) H.m199 H.o199 (ev_g L xs H hl (by omega)) ?_
        refine pm_Ev.zeq rfl (by omega) rfl (fun h2 => ?_) (fun h2 => ?_)
        · exact absurd h2 (by omega)
        · refine pm_Ev.go 2 (f' := (158, 71, [(4, _), (3, _), (0, _), (1, _), (2, _)], [_, _])) rfl ?_
          refine pm_Ev.jeq rfl (by omega) rfl (fun h3 => ?_) (fun h3 => ?_)
          · refine pm_Ev.go 3 (f' := (158, 91, [(4, _), (3, _), (0, _), (1, _), (2, _)], [_, _, _])) rfl ?_
            refine pm_Ev.cv rfl rfl rfl rfl (by decide) (Nat.le_of_ble_eq_true rfl) (Nat.le_of_ble_eq_true rfl) H.m199 H.o199 (ev_g L xs H hl (by omega)) ?_
            refine pm_Ev.go 3 (f' := (158, 98, [(5, _), (4, _), (3, _), (0, _), (1, _), (2, _)], [_, _])) rfl ?_
            refine pm_Ev.zne rfl (by omega) rfl (fun h4 => ?_) (fun h4 => ?_)
            · exact absurd h4 (by omega)
            · refine pm_Ev.go 2 (f' := (158, 154, [(5, _), (4, _), (3, _), (0, _), (1, _), (2, _)], [_, _])) rfl ?_
              refine pm_Ev.iadd rfl ?_
              refine pm_Ev.go 1 (f' := (158, 156, [(3, _), (5, _), (4, _), (0, _), (1, _), (2, _)], [])) rfl ?_
              refine pm_Ev.inc rfl rfl (Nat.le_of_ble_eq_true rfl) ?_
              refine pm_Ev.go 1 (f' := (158, 50, [(4, _), (3, _), (5, _), (0, _), (1, _), (2, _)], [])) rfl ?_
              exact pm_Ev.weak ih1 rfl
          · exact absurd h3 (by omega)
    · rw [q0 e e0 (by omega) (by omega), Int.add_zero] at ih1
      refine pm_Ev.go 2 (f' := (158, 53, [(4, _), (3, _), (0, _), (1, _), (2, _)], [_, _])) rfl ?_
      refine pm_Ev.gf rfl rfl H.m199 H.o199 rfl ?_
      refine pm_Ev.jge rfl (by omega) rfl (fun h1 => ?_) (fun h1 => ?_)
      · exact absurd h1 (by omega)
      · refine pm_Ev.go 3 (f' := (158, 63, [(4, _), (3, _), (0, _), (1, _), (2, _)], [_, _, _])) rfl ?_
        refine pm_Ev.cv rfl rfl rfl rfl (by decide) (Nat.le_of_ble_eq_true rfl) (Nat.le_of_ble_eq_true rfl) H.m199 H.o199 (ev_g L xs H hl (by omega)) ?_
        refine pm_Ev.zeq rfl (by omega) rfl (fun h2 => ?_) (fun h2 => ?_)
        · refine pm_Ev.inc rfl rfl (Nat.le_of_ble_eq_true rfl) ?_
          refine pm_Ev.go 1 (f' := (158, 50, [(4, _), (3, _), (0, _), (1, _), (2, _)], [])) rfl ?_
          exact pm_Ev.weak ih1 rfl
        · exact absurd h2 (by omega)
theorem ev_msumL0b (H : Hp σ ad z ar lr) (hl : (ar 200).1 = 5600) {n : Int} {I D : Int → Int} (M : mo_R (mo_g ar) (z 23) n I D) {b : Int} (b0 : 0 ≤ b) (b1 : b < n) {q : Int → Int} (q1 : ∀ x, 0 ≤ x → x < n → q (I x) = if b ≤ x ∧ x < fo_end D n b then mo_hv (mo_g ar) 0 (I x) else 0) (q0 : ∀ i, 0 ≤ i → i < z 23 → mo_g ar i 0 ≠ 1 → q i = 0) : ∀ (k : Nat) (e : Int), 0 ≤ e → e + k = z 23 → pm_Ev (tq_P L xs) (158, 50, [(4, .int (zI e)), (3, .int (zI (fs q 0 e))), (0, .ref 199), (1, .int (zI (fo_id I b))), (2, .int (zI 0))], []) σ (.inl (some (.int (zI (fs q 0 (z 23))))), σ) := by
  intro k
  have hm : 0 ≤ z 23 ∧ z 23 ≤ 400 := ⟨M.m0, M.m4⟩
  induction k with
  | zero =>
    intro e e0 ek
    have ee : e = z 23 := by omega
    subst ee
    refine pm_Ev.go 2 (f' := (158, 53, [(4, _), (3, _), (0, _), (1, _), (2, _)], [_, _])) rfl ?_
    refine pm_Ev.gf rfl rfl H.m199 H.o199 rfl ?_
    refine pm_Ev.jge rfl (by omega) rfl (fun h1 => ?_) (fun h1 => ?_)
    · refine pm_Ev.go 1 (f' := (158, 163, [(4, _), (3, _), (0, _), (1, _), (2, _)], [_])) rfl ?_
      exact pm_Ev.rv rfl rfl rfl
    · exact absurd h1 (by omega)
  | succ k ih =>
    intro e e0 ek
    have ge := mo_g_r ar e 0
    have g4 := mo_g_r ar e 4
    have ih1 := ih (e + 1) (by omega) (by omega)
    rw [fs_r e0] at ih1
    rcases M.th e e0 (by omega) with ⟨t1, x, x0, x1, xe⟩ | ⟨t0, t1⟩
    · have qx := q1 x x0 x1
      rw [xe] at qx
      have ix := ev_isIn L xs H hl M b0 b1 (x := x) (by omega) (Or.inl x1)
      have idb := M.idr (x := b) (by omega) (Or.inl b1)
      rw [fo_id_at x0, xe] at ix
      have hx : mo_hv (mo_g ar) 0 e = 1 := rfl
      by_cases c : b ≤ x ∧ x < fo_end D n b
      · rw [if_pos c] at ix qx
        rw [hx] at qx
        rw [qx] at ih1
        refine pm_Ev.go 2 (f' := (158, 53, [(4, _), (3, _), (0, _), (1, _), (2, _)], [_, _])) rfl ?_
        refine pm_Ev.gf rfl rfl H.m199 H.o199 rfl ?_
        refine pm_Ev.jge rfl (by omega) rfl (fun h1 => ?_) (fun h1 => ?_)
        · exact absurd h1 (by omega)
        · refine pm_Ev.go 3 (f' := (158, 63, [(4, _), (3, _), (0, _), (1, _), (2, _)], [_, _, _])) rfl ?_
          refine pm_Ev.cv rfl rfl rfl rfl (by decide) (Nat.le_of_ble_eq_true rfl) (Nat.le_of_ble_eq_true rfl) H.m199 H.o199 (ev_g L xs H hl (by omega)) ?_
          refine pm_Ev.zeq rfl (by omega) rfl (fun h2 => ?_) (fun h2 => ?_)
          · exact absurd h2 (by omega)
          · refine pm_Ev.go 2 (f' := (158, 71, [(4, _), (3, _), (0, _), (1, _), (2, _)], [_, _])) rfl ?_
            refine pm_Ev.jeq rfl (by omega) rfl (fun h3 => ?_) (fun h3 => ?_)
            · exact absurd h3 (by omega)
            · refine pm_Ev.go 3 (f' := (158, 78, [(4, _), (3, _), (0, _), (1, _), (2, _)], [_, _, _])) rfl ?_
              refine pm_Ev.cv rfl rfl rfl rfl (by decide) (Nat.le_of_ble_eq_true rfl) (Nat.le_of_ble_eq_true rfl) H.m199 H.o199 (ix) ?_
              refine pm_Ev.zne rfl (by omega) rfl (fun h4 => ?_) (fun h4 => ?_)
              · refine pm_Ev.go 3 (f' := (158, 91, [(4, _), (3, _), (0, _), (1, _), (2, _)], [_, _, _])) rfl ?_
                refine pm_Ev.cv rfl rfl rfl rfl (by decide) (Nat.le_of_ble_eq_true rfl) (Nat.le_of_ble_eq_true rfl) H.m199 H.o199 (ev_g L xs H hl (by omega)) ?_
                refine pm_Ev.go 3 (f' := (158, 98, [(5, _), (4, _), (3, _), (0, _), (1, _), (2, _)], [_, _])) rfl ?_
                refine pm_Ev.zne rfl (by omega) rfl (fun h5 => ?_) (fun h5 => ?_)
                · exact absurd h5 (by omega)
                · refine pm_Ev.go 2 (f' := (158, 154, [(5, _), (4, _), (3, _), (0, _), (1, _), (2, _)], [_, _])) rfl ?_
                  refine pm_Ev.iadd rfl ?_
                  refine pm_Ev.go 1 (f' := (158, 156, [(3, _), (5, _), (4, _), (0, _), (1, _), (2, _)], [])) rfl ?_
                  refine pm_Ev.inc rfl rfl (Nat.le_of_ble_eq_true rfl) ?_
                  refine pm_Ev.go 1 (f' := (158, 50, [(4, _), (3, _), (5, _), (0, _), (1, _), (2, _)], [])) rfl ?_
                  exact pm_Ev.weak ih1 rfl
              · exact absurd h4 (by omega)
      · rw [if_neg c] at ix qx
        rw [qx, Int.add_zero] at ih1
        refine pm_Ev.go 2 (f' := (158, 53, [(4, _), (3, _), (0, _), (1, _), (2, _)], [_, _])) rfl ?_
        refine pm_Ev.gf rfl rfl H.m199 H.o199 rfl ?_
        refine pm_Ev.jge rfl (by omega) rfl (fun h1 => ?_) (fun h1 => ?_)
        · exact absurd h1 (by omega)
        · refine pm_Ev.go 3 (f' := (158, 63, [(4, _), (3, _), (0, _), (1, _), (2, _)], [_, _, _])) rfl ?_
          refine pm_Ev.cv rfl rfl rfl rfl (by decide) (Nat.le_of_ble_eq_true rfl) (Nat.le_of_ble_eq_true rfl) H.m199 H.o199 (ev_g L xs H hl (by omega)) ?_
          refine pm_Ev.zeq rfl (by omega) rfl (fun h2 => ?_) (fun h2 => ?_)
          · exact absurd h2 (by omega)
          · refine pm_Ev.go 2 (f' := (158, 71, [(4, _), (3, _), (0, _), (1, _), (2, _)], [_, _])) rfl ?_
            refine pm_Ev.jeq rfl (by omega) rfl (fun h3 => ?_) (fun h3 => ?_)
            · exact absurd h3 (by omega)
            · refine pm_Ev.go 3 (f' := (158, 78, [(4, _), (3, _), (0, _), (1, _), (2, _)], [_, _, _])) rfl ?_
              refine pm_Ev.cv rfl rfl rfl rfl (by decide) (Nat.le_of_ble_eq_true rfl) (Nat.le_of_ble_eq_true rfl) H.m199 H.o199 (ix) ?_
              refine pm_Ev.zne rfl (by omega) rfl (fun h4 => ?_) (fun h4 => ?_)
              · exact absurd h4 (by omega)
              · refine pm_Ev.go 1 (f' := (158, 156, [(4, _), (3, _), (0, _), (1, _), (2, _)], [])) rfl ?_
                refine pm_Ev.inc rfl rfl (Nat.le_of_ble_eq_true rfl) ?_
                refine pm_Ev.go 1 (f' := (158, 50, [(4, _), (3, _), (0, _), (1, _), (2, _)], [])) rfl ?_
                exact pm_Ev.weak ih1 rfl
    · rw [q0 e e0 (by omega) (by omega), Int.add_zero] at ih1
      refine pm_Ev.go 2 (f' := (158, 53, [(4, _), (3, _), (0, _), (1, _), (2, _)], [_, _])) rfl ?_
      refine pm_Ev.gf rfl rfl H.m199 H.o199 rfl ?_
      refine pm_Ev.jge rfl (by omega) rfl (fun h1 => ?_) (fun h1 => ?_)
      · exact absurd h1 (by omega)
      · refine pm_Ev.go 3 (f' := (158, 63, [(4, _), (3, _), (0, _), (1, _), (2, _)], [_, _, _])) rfl ?_
        refine pm_Ev.cv rfl rfl rfl rfl (by decide) (Nat.le_of_ble_eq_true rfl) (Nat.le_of_ble_eq_true rfl) H.m199 H.o199 (ev_g L xs H hl (by omega)) ?_
        refine pm_Ev.zeq rfl (by omega) rfl (fun h2 => ?_) (fun h2 => ?_)
        · refine pm_Ev.inc rfl rfl (Nat.le_of_ble_eq_true rfl) ?_
          refine pm_Ev.go 1 (f' := (158, 50, [(4, _), (3, _), (0, _), (1, _), (2, _)], [])) rfl ?_
          exact pm_Ev.weak ih1 rfl
        · exact absurd h2 (by omega)
theorem ev_msumL1r (H : Hp σ ad z ar lr) (hl : (ar 200).1 = 5600) {n : Int} {I D : Int → Int} (M : mo_R (mo_g ar) (z 23) n I D) {q : Int → Int} (q1 : ∀ x, 0 ≤ x → x < n → q (I x) = if 0 ≤ x ∧ x < n then mo_hv (mo_g ar) 1 (I x) else 0) (q0 : ∀ i, 0 ≤ i → i < z 23 → mo_g ar i 0 ≠ 1 → q i = 0) : ∀ (k : Nat) (e : Int), 0 ≤ e → e + k = z 23 → pm_Ev (tq_P L xs) (158, 50, [(4, .int (zI e)), (3, .int (zI (fs q 0 e))), (0, .ref 199), (1, .int (zI (-1))), (2, .int (zI 1))], []) σ (.inl (some (.int (zI (fs q 0 (z 23))))), σ) := by
  intro k
  have hm : 0 ≤ z 23 ∧ z 23 ≤ 400 := ⟨M.m0, M.m4⟩
  induction k with
  | zero =>
    intro e e0 ek
    have ee : e = z 23 := by omega
    subst ee
    refine pm_Ev.go 2 (f' := (158, 53, [(4, _), (3, _), (0, _), (1, _), (2, _)], [_, _])) rfl ?_
    refine pm_Ev.gf rfl rfl H.m199 H.o199 rfl ?_
    refine pm_Ev.jge rfl (by omega) rfl (fun h1 => ?_) (fun h1 => ?_)
    · refine pm_Ev.go 1 (f' := (158, 163, [(4, _), (3, _), (0, _), (1, _), (2, _)], [_])) rfl ?_
      exact pm_Ev.rv rfl rfl rfl
    · exact absurd h1 (by omega)
  | succ k ih =>
    intro e e0 ek
    have ge := mo_g_r ar e 0
    have g4 := mo_g_r ar e 4
    have ih1 := ih (e + 1) (by omega) (by omega)
    rw [fs_r e0] at ih1
    rcases M.th e e0 (by omega) with ⟨t1, x, x0, x1, xe⟩ | ⟨t0, t1⟩
    · have qx := q1 x x0 x1
      rw [xe] at qx
      have hx : mo_hv (mo_g ar) 1 e = mo_g ar e 12 := rfl
      rw [if_pos ⟨x0, x1⟩] at qx
      rw [hx] at qx
      rw [qx] at ih1
      refine pm_Ev.go 2 (f' := (158, 53, [(4, _), (3, _), (0, _), (1, _), (2, _)], [_, _])) rfl ?_
      refine pm_Ev.gf rfl rfl H.m199 H.o199 rfl ?_
      refine pm_Ev.jge rfl (by omega) rfl (fun h1 => ?_) (fun h1 => ?_)
      · exact absurd h1 (by omega)
      · refine pm_Ev.go 3 (f' := (158, 63, [(4, _), (3, _), (0, _), (1, _), (2, _)], [_, _, _])) rfl ?_
        refine pm_Ev.cv rfl rfl rfl rfl (by decide) (Nat.le_of_ble_eq_true rfl) (Nat.le_of_ble_eq_true rfl) H.m199 H.o199 (ev_g L xs H hl (by omega)) ?_
        refine pm_Ev.zeq rfl (by omega) rfl (fun h2 => ?_) (fun h2 => ?_)
        · exact absurd h2 (by omega)
        · refine pm_Ev.go 2 (f' := (158, 71, [(4, _), (3, _), (0, _), (1, _), (2, _)], [_, _])) rfl ?_
          refine pm_Ev.jeq rfl (by omega) rfl (fun h3 => ?_) (fun h3 => ?_)
          · refine pm_Ev.go 3 (f' := (158, 91, [(4, _), (3, _), (0, _), (1, _), (2, _)], [_, _, _])) rfl ?_
            refine pm_Ev.cv rfl rfl rfl rfl (by decide) (Nat.le_of_ble_eq_true rfl) (Nat.le_of_ble_eq_true rfl) H.m199 H.o199 (ev_g L xs H hl (by omega)) ?_
            refine pm_Ev.go 3 (f' := (158, 98, [(5, _), (4, _), (3, _), (0, _), (1, _), (2, _)], [_, _])) rfl ?_
            refine pm_Ev.zne rfl (by omega) rfl (fun h4 => ?_) (fun h4 => ?_)
            · refine pm_Ev.go 2 (f' := (158, 107, [(5, _), (4, _), (3, _), (0, _), (1, _), (2, _)], [_, _, _])) rfl ?_
              refine pm_Ev.jge rfl (by omega) rfl (fun h5 => ?_) (fun h5 => ?_)
              · exact absurd h5 (by omega)
              · refine pm_Ev.go 2 (f' := (158, 113, [(5, _), (4, _), (3, _), (0, _), (1, _), (2, _)], [_, _, _])) rfl ?_
                refine pm_Ev.bp rfl rfl ?_
                refine pm_Ev.go 1 (f' := (158, 116, [(5, _), (4, _), (3, _), (0, _), (1, _), (2, _)], [_, _, _, _, _])) rfl ?_
                refine pm_Ev.iadd rfl ?_
                refine pm_Ev.go 1 (f' := (158, 118, [(5, _), (4, _), (3, _), (0, _), (1, _), (2, _)], [_, _, _, _, _])) rfl ?_
                refine pm_Ev.isub rfl ?_
                rw [show (12 : Int) + 1 - 1 = 12 from rfl]
                refine pm_Ev.cv rfl rfl rfl rfl (by decide) (Nat.le_of_ble_eq_true rfl) (Nat.le_of_ble_eq_true rfl) H.m199 H.o199 (ev_g L xs H hl (by omega)) ?_
                refine pm_Ev.go 1 (f' := (158, 154, [(5, _), (4, _), (3, _), (0, _), (1, _), (2, _)], [_, _])) rfl ?_
                refine pm_Ev.iadd rfl ?_
                refine pm_Ev.go 1 (f' := (158, 156, [(3, _), (5, _), (4, _), (0, _), (1, _), (2, _)], [])) rfl ?_
                refine pm_Ev.inc rfl rfl (Nat.le_of_ble_eq_true rfl) ?_
                refine pm_Ev.go 1 (f' := (158, 50, [(4, _), (3, _), (5, _), (0, _), (1, _), (2, _)], [])) rfl ?_
                exact pm_Ev.weak ih1 rfl
            · exact absurd h4 (by omega)
          · exact absurd h3 (by omega)
    · rw [q0 e e0 (by omega) (by omega), Int.add_zero] at ih1
      refine pm_Ev.go 2 (f' := (158, 53, [(4, _), (3, _), (0, _), (1, _), (2, _)], [_, _])) rfl ?_
      refine pm_Ev.gf rfl rfl H.m199 H.o199 rfl ?_
      refine pm_Ev.jge rfl (by omega) rfl (fun h1 => ?_) (fun h1 => ?_)
      · exact absurd h1 (by omega)
      · refine pm_Ev.go 3 (f' := (158, 63, [(4, _), (3, _), (0, _), (1, _), (2, _)], [_, _, _])) rfl ?_
        refine pm_Ev.cv rfl rfl rfl rfl (by decide) (Nat.le_of_ble_eq_true rfl) (Nat.le_of_ble_eq_true rfl) H.m199 H.o199 (ev_g L xs H hl (by omega)) ?_
        refine pm_Ev.zeq rfl (by omega) rfl (fun h2 => ?_) (fun h2 => ?_)
        · refine pm_Ev.inc rfl rfl (Nat.le_of_ble_eq_true rfl) ?_
          refine pm_Ev.go 1 (f' := (158, 50, [(4, _), (3, _), (0, _), (1, _), (2, _)], [])) rfl ?_
          exact pm_Ev.weak ih1 rfl
        · exact absurd h2 (by omega)
theorem ev_msumL1b (H : Hp σ ad z ar lr) (hl : (ar 200).1 = 5600) {n : Int} {I D : Int → Int} (M : mo_R (mo_g ar) (z 23) n I D) {b : Int} (b0 : 0 ≤ b) (b1 : b < n) {q : Int → Int} (q1 : ∀ x, 0 ≤ x → x < n → q (I x) = if b ≤ x ∧ x < fo_end D n b then mo_hv (mo_g ar) 1 (I x) else 0) (q0 : ∀ i, 0 ≤ i → i < z 23 → mo_g ar i 0 ≠ 1 → q i = 0) : ∀ (k : Nat) (e : Int), 0 ≤ e → e + k = z 23 → pm_Ev (tq_P L xs) (158, 50, [(4, .int (zI e)), (3, .int (zI (fs q 0 e))), (0, .ref 199), (1, .int (zI (fo_id I b))), (2, .int (zI 1))], []) σ (.inl (some (.int (zI (fs q 0 (z 23))))), σ) := by
  intro k
  have hm : 0 ≤ z 23 ∧ z 23 ≤ 400 := ⟨M.m0, M.m4⟩
  induction k with
  | zero =>
    intro e e0 ek
    have ee : e = z 23 := by omega
    subst ee
    refine pm_Ev.go 2 (f' := (158, 53, [(4, _), (3, _), (0, _), (1, _), (2, _)], [_, _])) rfl ?_
    refine pm_Ev.gf rfl rfl H.m199 H.o199 rfl ?_
    refine pm_Ev.jge rfl (by omega) rfl (fun h1 => ?_) (fun h1 => ?_)
    · refine pm_Ev.go 1 (f' := (158, 163, [(4, _), (3, _), (0, _), (1, _), (2, _)], [_])) rfl ?_
      exact pm_Ev.rv rfl rfl rfl
    · exact absurd h1 (by omega)
  | succ k ih =>
    intro e e0 ek
    have ge := mo_g_r ar e 0
    have g4 := mo_g_r ar e 4
    have ih1 := ih (e + 1) (by omega) (by omega)
    rw [fs_r e0] at ih1
    rcases M.th e e0 (by omega) with ⟨t1, x, x0, x1, xe⟩ | ⟨t0, t1⟩
    · have qx := q1 x x0 x1
      rw [xe] at qx
      have ix := ev_isIn L xs H hl M b0 b1 (x := x) (by omega) (Or.inl x1)
      have idb := M.idr (x := b) (by omega) (Or.inl b1)
      rw [fo_id_at x0, xe] at ix
      have hx : mo_hv (mo_g ar) 1 e = mo_g ar e 12 := rfl
      by_cases c : b ≤ x ∧ x < fo_end D n b
      · rw [if_pos c] at ix qx
        rw [hx] at qx
        rw [qx] at ih1
        refine pm_Ev.go 2 (f' := (158, 53, [(4, _), (3, _), (0, _), (1, _), (2, _)], [_, _])) rfl ?_
        refine pm_Ev.gf rfl rfl H.m199 H.o199 rfl ?_
        refine pm_Ev.jge rfl (by omega) rfl (fun h1 => ?_) (fun h1 => ?_)
        · exact absurd h1 (by omega)
        · refine pm_Ev.go 3 (f' := (158, 63, [(4, _), (3, _), (0, _), (1, _), (2, _)], [_, _, _])) rfl ?_
          refine pm_Ev.cv rfl rfl rfl rfl (by decide) (Nat.le_of_ble_eq_true rfl) (Nat.le_of_ble_eq_true rfl) H.m199 H.o199 (ev_g L xs H hl (by omega)) ?_
          refine pm_Ev.zeq rfl (by omega) rfl (fun h2 => ?_) (fun h2 => ?_)
          · exact absurd h2 (by omega)
          · refine pm_Ev.go 2 (f' := (158, 71, [(4, _), (3, _), (0, _), (1, _), (2, _)], [_, _])) rfl ?_
            refine pm_Ev.jeq rfl (by omega) rfl (fun h3 => ?_) (fun h3 => ?_)
            · exact absurd h3 (by omega)
            · refine pm_Ev.go 3 (f' := (158, 78, [(4, _), (3, _), (0, _), (1, _), (2, _)], [_, _, _])) rfl ?_
              refine pm_Ev.cv rfl rfl rfl rfl (by decide) (Nat.le_of_ble_eq_true rfl) (Nat.le_of_ble_eq_true rfl) H.m199 H.o199 (ix) ?_
              refine pm_Ev.zne rfl (by omega) rfl (fun h4 => ?_) (fun h4 => ?_)
              · refine pm_Ev.go 3 (f' := (158, 91, [(4, _), (3, _), (0, _), (1, _), (2, _)], [_, _, _])) rfl ?_
                refine pm_Ev.cv rfl rfl rfl rfl (by decide) (Nat.le_of_ble_eq_true rfl) (Nat.le_of_ble_eq_true rfl) H.m199 H.o199 (ev_g L xs H hl (by omega)) ?_
                refine pm_Ev.go 3 (f' := (158, 98, [(5, _), (4, _), (3, _), (0, _), (1, _), (2, _)], [_, _])) rfl ?_
                refine pm_Ev.zne rfl (by omega) rfl (fun h5 => ?_) (fun h5 => ?_)
                · refine pm_Ev.go 2 (f' := (158, 107, [(5, _), (4, _), (3, _), (0, _), (1, _), (2, _)], [_, _, _])) rfl ?_
                  refine pm_Ev.jge rfl (by omega) rfl (fun h6 => ?_) (fun h6 => ?_)
                  · exact absurd h6 (by omega)
                  · refine pm_Ev.go 2 (f' := (158, 113, [(5, _), (4, _), (3, _), (0, _), (1, _), (2, _)], [_, _, _])) rfl ?_
                    refine pm_Ev.bp rfl rfl ?_
                    refine pm_Ev.go 1 (f' := (158, 116, [(5, _), (4, _), (3, _), (0, _), (1, _), (2, _)], [_, _, _, _, _])) rfl ?_
                    refine pm_Ev.iadd rfl ?_
                    refine pm_Ev.go 1 (f' := (158, 118, [(5, _), (4, _), (3, _), (0, _), (1, _), (2, _)], [_, _, _, _, _])) rfl ?_
                    refine pm_Ev.isub rfl ?_
                    rw [show (12 : Int) + 1 - 1 = 12 from rfl]
                    refine pm_Ev.cv rfl rfl rfl rfl (by decide) (Nat.le_of_ble_eq_true rfl) (Nat.le_of_ble_eq_true rfl) H.m199 H.o199 (ev_g L xs H hl (by omega)) ?_
                    refine pm_Ev.go 1 (f' := (158, 154, [(5, _), (4, _), (3, _), (0, _), (1, _), (2, _)], [_, _])) rfl ?_
                    refine pm_Ev.iadd rfl ?_
                    refine pm_Ev.go 1 (f' := (158, 156, [(3, _), (5, _), (4, _), (0, _), (1, _), (2, _)], [])) rfl ?_
                    refine pm_Ev.inc rfl rfl (Nat.le_of_ble_eq_true rfl) ?_
                    refine pm_Ev.go 1 (f' := (158, 50, [(4, _), (3, _), (5, _), (0, _), (1, _), (2, _)], [])) rfl ?_
                    exact pm_Ev.weak ih1 rfl
                · exact absurd h5 (by omega)
              · exact absurd h4 (by omega)
      · rw [if_neg c] at ix qx
        rw [qx, Int.add_zero] at ih1
        refine pm_Ev.go 2 (f' := (158, 53, [(4, _), (3, _), (0, _), (1, _), (2, _)], [_, _])) rfl ?_
        refine pm_Ev.gf rfl rfl H.m199 H.o199 rfl ?_
        refine pm_Ev.jge rfl (by omega) rfl (fun h1 => ?_) (fun h1 => ?_)
        · exact absurd h1 (by omega)
        · refine pm_Ev.go 3 (f' := (158, 63, [(4, _), (3, _), (0, _), (1, _), (2, _)], [_, _, _])) rfl ?_
          refine pm_Ev.cv rfl rfl rfl rfl (by decide) (Nat.le_of_ble_eq_true rfl) (Nat.le_of_ble_eq_true rfl) H.m199 H.o199 (ev_g L xs H hl (by omega)) ?_
          refine pm_Ev.zeq rfl (by omega) rfl (fun h2 => ?_) (fun h2 => ?_)
          · exact absurd h2 (by omega)
          · refine pm_Ev.go 2 (f' := (158, 71, [(4, _), (3, _), (0, _), (1, _), (2, _)], [_, _])) rfl ?_
            refine pm_Ev.jeq rfl (by omega) rfl (fun h3 => ?_) (fun h3 => ?_)
            · exact absurd h3 (by omega)
            · refine pm_Ev.go 3 (f' := (158, 78, [(4, _), (3, _), (0, _), (1, _), (2, _)], [_, _, _])) rfl ?_
              refine pm_Ev.cv rfl rfl rfl rfl (by decide) (Nat.le_of_ble_eq_true rfl) (Nat.le_of_ble_eq_true rfl) H.m199 H.o199 (ix) ?_
              refine pm_Ev.zne rfl (by omega) rfl (fun h4 => ?_) (fun h4 => ?_)
              · exact absurd h4 (by omega)
              · refine pm_Ev.go 1 (f' := (158, 156, [(4, _), (3, _), (0, _), (1, _), (2, _)], [])) rfl ?_
                refine pm_Ev.inc rfl rfl (Nat.le_of_ble_eq_true rfl) ?_
                refine pm_Ev.go 1 (f' := (158, 50, [(4, _), (3, _), (0, _), (1, _), (2, _)], [])) rfl ?_
                exact pm_Ev.weak ih1 rfl
    · rw [q0 e e0 (by omega) (by omega), Int.add_zero] at ih1
      refine pm_Ev.go 2 (f' := (158, 53, [(4, _), (3, _), (0, _), (1, _), (2, _)], [_, _])) rfl ?_
      refine pm_Ev.gf rfl rfl H.m199 H.o199 rfl ?_
      refine pm_Ev.jge rfl (by omega) rfl (fun h1 => ?_) (fun h1 => ?_)
      · exact absurd h1 (by omega)
      · refine pm_Ev.go 3 (f' := (158, 63, [(4, _), (3, _), (0, _), (1, _), (2, _)], [_, _, _])) rfl ?_
        refine pm_Ev.cv rfl rfl rfl rfl (by decide) (Nat.le_of_ble_eq_true rfl) (Nat.le_of_ble_eq_true rfl) H.m199 H.o199 (ev_g L xs H hl (by omega)) ?_
        refine pm_Ev.zeq rfl (by omega) rfl (fun h2 => ?_) (fun h2 => ?_)
        · refine pm_Ev.inc rfl rfl (Nat.le_of_ble_eq_true rfl) ?_
          refine pm_Ev.go 1 (f' := (158, 50, [(4, _), (3, _), (0, _), (1, _), (2, _)], [])) rfl ?_
          exact pm_Ev.weak ih1 rfl
        · exact absurd h2 (by omega)
theorem ev_msumL2r (H : Hp σ ad z ar lr) (hl : (ar 200).1 = 5600) {n : Int} {I D : Int → Int} (M : mo_R (mo_g ar) (z 23) n I D) {q : Int → Int} (q1 : ∀ x, 0 ≤ x → x < n → q (I x) = if 0 ≤ x ∧ x < n then mo_hv (mo_g ar) 2 (I x) else 0) (q0 : ∀ i, 0 ≤ i → i < z 23 → mo_g ar i 0 ≠ 1 → q i = 0) : ∀ (k : Nat) (e : Int), 0 ≤ e → e + k = z 23 → pm_Ev (tq_P L xs) (158, 50, [(4, .int (zI e)), (3, .int (zI (fs q 0 e))), (0, .ref 199), (1, .int (zI (-1))), (2, .int (zI 2))], []) σ (.inl (some (.int (zI (fs q 0 (z 23))))), σ) := by
  intro k
  have hm : 0 ≤ z 23 ∧ z 23 ≤ 400 := ⟨M.m0, M.m4⟩
  induction k with
  | zero =>
    intro e e0 ek
    have ee : e = z 23 := by omega
    subst ee
    refine pm_Ev.go 2 (f' := (158, 53, [(4, _), (3, _), (0, _), (1, _), (2, _)], [_, _])) rfl ?_
    refine pm_Ev.gf rfl rfl H.m199 H.o199 rfl ?_
    refine pm_Ev.jge rfl (by omega) rfl (fun h1 => ?_) (fun h1 => ?_)
    · refine pm_Ev.go 1 (f' := (158, 163, [(4, _), (3, _), (0, _), (1, _), (2, _)], [_])) rfl ?_
      exact pm_Ev.rv rfl rfl rfl
    · exact absurd h1 (by omega)
  | succ k ih =>
    intro e e0 ek
    have ge := mo_g_r ar e 0
    have g4 := mo_g_r ar e 4
    have ih1 := ih (e + 1) (by omega) (by omega)
    rw [fs_r e0] at ih1
    rcases M.th e e0 (by omega) with ⟨t1, x, x0, x1, xe⟩ | ⟨t0, t1⟩
    · have qx := q1 x x0 x1
      rw [xe] at qx
      have hx : mo_hv (mo_g ar) 2 e = mo_g ar e 13 := rfl
      rw [if_pos ⟨x0, x1⟩] at qx
      rw [hx] at qx
      rw [qx] at ih1
      refine pm_Ev.go 2 (f' := (158, 53, [(4, _), (3, _), (0, _), (1, _), (2, _)], [_, _])) rfl ?_
      refine pm_Ev.gf rfl rfl H.m199 H.o199 rfl ?_
      refine pm_Ev.jge rfl (by omega) rfl (fun h1 => ?_) (fun h1 => ?_)
      · exact absurd h1 (by omega)
      · refine pm_Ev.go 3 (f' := (158, 63, [(4, _), (3, _), (0, _), (1, _), (2, _)], [_, _, _])) rfl ?_
        refine pm_Ev.cv rfl rfl rfl rfl (by decide) (Nat.le_of_ble_eq_true rfl) (Nat.le_of_ble_eq_true rfl) H.m199 H.o199 (ev_g L xs H hl (by omega)) ?_
        refine pm_Ev.zeq rfl (by omega) rfl (fun h2 => ?_) (fun h2 => ?_)
        · exact absurd h2 (by omega)
        · refine pm_Ev.go 2 (f' := (158, 71, [(4, _), (3, _), (0, _), (1, _), (2, _)], [_, _])) rfl ?_
          refine pm_Ev.jeq rfl (by omega) rfl (fun h3 => ?_) (fun h3 => ?_)
          · refine pm_Ev.go 3 (f' := (158, 91, [(4, _), (3, _), (0, _), (1, _), (2, _)], [_, _, _])) rfl ?_
            refine pm_Ev.cv rfl rfl rfl rfl (by decide) (Nat.le_of_ble_eq_true rfl) (Nat.le_of_ble_eq_true rfl) H.m199 H.o199 (ev_g L xs H hl (by omega)) ?_
            refine pm_Ev.go 3 (f' := (158, 98, [(5, _), (4, _), (3, _), (0, _), (1, _), (2, _)], [_, _])) rfl ?_
            refine pm_Ev.zne rfl (by omega) rfl (fun h4 => ?_) (fun h4 => ?_)
            · refine pm_Ev.go 2 (f' := (158, 107, [(5, _), (4, _), (3, _), (0, _), (1, _), (2, _)], [_, _, _])) rfl ?_
              refine pm_Ev.jge rfl (by omega) rfl (fun h5 => ?_) (fun h5 => ?_)
              · exact absurd h5 (by omega)
              · refine pm_Ev.go 2 (f' := (158, 113, [(5, _), (4, _), (3, _), (0, _), (1, _), (2, _)], [_, _, _])) rfl ?_
                refine pm_Ev.bp rfl rfl ?_
                refine pm_Ev.go 1 (f' := (158, 116, [(5, _), (4, _), (3, _), (0, _), (1, _), (2, _)], [_, _, _, _, _])) rfl ?_
                refine pm_Ev.iadd rfl ?_
                refine pm_Ev.go 1 (f' := (158, 118, [(5, _), (4, _), (3, _), (0, _), (1, _), (2, _)], [_, _, _, _, _])) rfl ?_
                refine pm_Ev.isub rfl ?_
                rw [show (12 : Int) + 2 - 1 = 13 from rfl]
                refine pm_Ev.cv rfl rfl rfl rfl (by decide) (Nat.le_of_ble_eq_true rfl) (Nat.le_of_ble_eq_true rfl) H.m199 H.o199 (ev_g L xs H hl (by omega)) ?_
                refine pm_Ev.go 1 (f' := (158, 154, [(5, _), (4, _), (3, _), (0, _), (1, _), (2, _)], [_, _])) rfl ?_
                refine pm_Ev.iadd rfl ?_
                refine pm_Ev.go 1 (f' := (158, 156, [(3, _), (5, _), (4, _), (0, _), (1, _), (2, _)], [])) rfl ?_
                refine pm_Ev.inc rfl rfl (Nat.le_of_ble_eq_true rfl) ?_
                refine pm_Ev.go 1 (f' := (158, 50, [(4, _), (3, _), (5, _), (0, _), (1, _), (2, _)], [])) rfl ?_
                exact pm_Ev.weak ih1 rfl
            · exact absurd h4 (by omega)
          · exact absurd h3 (by omega)
    · rw [q0 e e0 (by omega) (by omega), Int.add_zero] at ih1
      refine pm_Ev.go 2 (f' := (158, 53, [(4, _), (3, _), (0, _), (1, _), (2, _)], [_, _])) rfl ?_
      refine pm_Ev.gf rfl rfl H.m199 H.o199 rfl ?_
      refine pm_Ev.jge rfl (by omega) rfl (fun h1 => ?_) (fun h1 => ?_)
      · exact absurd h1 (by omega)
      · refine pm_Ev.go 3 (f' := (158, 63, [(4, _), (3, _), (0, _), (1, _), (2, _)], [_, _, _])) rfl ?_
        refine pm_Ev.cv rfl rfl rfl rfl (by decide) (Nat.le_of_ble_eq_true rfl) (Nat.le_of_ble_eq_true rfl) H.m199 H.o199 (ev_g L xs H hl (by omega)) ?_
        refine pm_Ev.zeq rfl (by omega) rfl (fun h2 => ?_) (fun h2 => ?_)
        · refine pm_Ev.inc rfl rfl (Nat.le_of_ble_eq_true rfl) ?_
          refine pm_Ev.go 1 (f' := (158, 50, [(4, _), (3, _), (0, _), (1, _), (2, _)], [])) rfl ?_
          exact pm_Ev.weak ih1 rfl
        · exact absurd h2 (by omega)
theorem ev_msumL2b (H : Hp σ ad z ar lr) (hl : (ar 200).1 = 5600) {n : Int} {I D : Int → Int} (M : mo_R (mo_g ar) (z 23) n I D) {b : Int} (b0 : 0 ≤ b) (b1 : b < n) {q : Int → Int} (q1 : ∀ x, 0 ≤ x → x < n → q (I x) = if b ≤ x ∧ x < fo_end D n b then mo_hv (mo_g ar) 2 (I x) else 0) (q0 : ∀ i, 0 ≤ i → i < z 23 → mo_g ar i 0 ≠ 1 → q i = 0) : ∀ (k : Nat) (e : Int), 0 ≤ e → e + k = z 23 → pm_Ev (tq_P L xs) (158, 50, [(4, .int (zI e)), (3, .int (zI (fs q 0 e))), (0, .ref 199), (1, .int (zI (fo_id I b))), (2, .int (zI 2))], []) σ (.inl (some (.int (zI (fs q 0 (z 23))))), σ) := by
  intro k
  have hm : 0 ≤ z 23 ∧ z 23 ≤ 400 := ⟨M.m0, M.m4⟩
  induction k with
  | zero =>
    intro e e0 ek
    have ee : e = z 23 := by omega
    subst ee
    refine pm_Ev.go 2 (f' := (158, 53, [(4, _), (3, _), (0, _), (1, _), (2, _)], [_, _])) rfl ?_
    refine pm_Ev.gf rfl rfl H.m199 H.o199 rfl ?_
    refine pm_Ev.jge rfl (by omega) rfl (fun h1 => ?_) (fun h1 => ?_)
    · refine pm_Ev.go 1 (f' := (158, 163, [(4, _), (3, _), (0, _), (1, _), (2, _)], [_])) rfl ?_
      exact pm_Ev.rv rfl rfl rfl
    · exact absurd h1 (by omega)
  | succ k ih =>
    intro e e0 ek
    have ge := mo_g_r ar e 0
    have g4 := mo_g_r ar e 4
    have ih1 := ih (e + 1) (by omega) (by omega)
    rw [fs_r e0] at ih1
    rcases M.th e e0 (by omega) with ⟨t1, x, x0, x1, xe⟩ | ⟨t0, t1⟩
    · have qx := q1 x x0 x1
      rw [xe] at qx
      have ix := ev_isIn L xs H hl M b0 b1 (x := x) (by omega) (Or.inl x1)
      have idb := M.idr (x := b) (by omega) (Or.inl b1)
      rw [fo_id_at x0, xe] at ix
      have hx : mo_hv (mo_g ar) 2 e = mo_g ar e 13 := rfl
      by_cases c : b ≤ x ∧ x < fo_end D n b
      · rw [if_pos c] at ix qx
        rw [hx] at qx
        rw [qx] at ih1
        refine pm_Ev.go 2 (f' := (158, 53, [(4, _), (3, _), (0, _), (1, _), (2, _)], [_, _])) rfl ?_
        refine pm_Ev.gf rfl rfl H.m199 H.o199 rfl ?_
        refine pm_Ev.jge rfl (by omega) rfl (fun h1 => ?_) (fun h1 => ?_)
        · exact absurd h1 (by omega)
        · refine pm_Ev.go 3 (f' := (158, 63, [(4, _), (3, _), (0, _), (1, _), (2, _)], [_, _, _])) rfl ?_
          refine pm_Ev.cv rfl rfl rfl rfl (by decide) (Nat.le_of_ble_eq_true rfl) (Nat.le_of_ble_eq_true rfl) H.m199 H.o199 (ev_g L xs H hl (by omega)) ?_
          refine pm_Ev.zeq rfl (by omega) rfl (fun h2 => ?_) (fun h2 => ?_)
          · exact absurd h2 (by omega)
          · refine pm_Ev.go 2 (f' := (158, 71, [(4, _), (3, _), (0, _), (1, _), (2, _)], [_, _])) rfl ?_
            refine pm_Ev.jeq rfl (by omega) rfl (fun h3 => ?_) (fun h3 => ?_)
            · exact absurd h3 (by omega)
            · refine pm_Ev.go 3 (f' := (158, 78, [(4, _), (3, _), (0, _), (1, _), (2, _)], [_, _, _])) rfl ?_
              refine pm_Ev.cv rfl rfl rfl rfl (by decide) (Nat.le_of_ble_eq_true rfl) (Nat.le_of_ble_eq_true rfl) H.m199 H.o199 (ix) ?_
              refine pm_Ev.zne rfl (by omega) rfl (fun h4 => ?_) (fun h4 => ?_)
              · refine pm_Ev.go 3 (f' := (158, 91, [(4, _), (3, _), (0, _), (1, _), (2, _)], [_, _, _])) rfl ?_
                refine pm_Ev.cv rfl rfl rfl rfl (by decide) (Nat.le_of_ble_eq_true rfl) (Nat.le_of_ble_eq_true rfl) H.m199 H.o199 (ev_g L xs H hl (by omega)) ?_
                refine pm_Ev.go 3 (f' := (158, 98, [(5, _), (4, _), (3, _), (0, _), (1, _), (2, _)], [_, _])) rfl ?_
                refine pm_Ev.zne rfl (by omega) rfl (fun h5 => ?_) (fun h5 => ?_)
                · refine pm_Ev.go 2 (f' := (158, 107, [(5, _), (4, _), (3, _), (0, _), (1, _), (2, _)], [_, _, _])) rfl ?_
                  refine pm_Ev.jge rfl (by omega) rfl (fun h6 => ?_) (fun h6 => ?_)
                  · exact absurd h6 (by omega)
                  · refine pm_Ev.go 2 (f' := (158, 113, [(5, _), (4, _), (3, _), (0, _), (1, _), (2, _)], [_, _, _])) rfl ?_
                    refine pm_Ev.bp rfl rfl ?_
                    refine pm_Ev.go 1 (f' := (158, 116, [(5, _), (4, _), (3, _), (0, _), (1, _), (2, _)], [_, _, _, _, _])) rfl ?_
                    refine pm_Ev.iadd rfl ?_
                    refine pm_Ev.go 1 (f' := (158, 118, [(5, _), (4, _), (3, _), (0, _), (1, _), (2, _)], [_, _, _, _, _])) rfl ?_
                    refine pm_Ev.isub rfl ?_
                    rw [show (12 : Int) + 2 - 1 = 13 from rfl]
                    refine pm_Ev.cv rfl rfl rfl rfl (by decide) (Nat.le_of_ble_eq_true rfl) (Nat.le_of_ble_eq_true rfl) H.m199 H.o199 (ev_g L xs H hl (by omega)) ?_
                    refine pm_Ev.go 1 (f' := (158, 154, [(5, _), (4, _), (3, _), (0, _), (1, _), (2, _)], [_, _])) rfl ?_
                    refine pm_Ev.iadd rfl ?_
                    refine pm_Ev.go 1 (f' := (158, 156, [(3, _), (5, _), (4, _), (0, _), (1, _), (2, _)], [])) rfl ?_
                    refine pm_Ev.inc rfl rfl (Nat.le_of_ble_eq_true rfl) ?_
                    refine pm_Ev.go 1 (f' := (158, 50, [(4, _), (3, _), (5, _), (0, _), (1, _), (2, _)], [])) rfl ?_
                    exact pm_Ev.weak ih1 rfl
                · exact absurd h5 (by omega)
              · exact absurd h4 (by omega)
      · rw [if_neg c] at ix qx
        rw [qx, Int.add_zero] at ih1
        refine pm_Ev.go 2 (f' := (158, 53, [(4, _), (3, _), (0, _), (1, _), (2, _)], [_, _])) rfl ?_
        refine pm_Ev.gf rfl rfl H.m199 H.o199 rfl ?_
        refine pm_Ev.jge rfl (by omega) rfl (fun h1 => ?_) (fun h1 => ?_)
        · exact absurd h1 (by omega)
        · refine pm_Ev.go 3 (f' := (158, 63, [(4, _), (3, _), (0, _), (1, _), (2, _)], [_, _, _])) rfl ?_
          refine pm_Ev.cv rfl rfl rfl rfl (by decide) (Nat.le_of_ble_eq_true rfl) (Nat.le_of_ble_eq_true rfl) H.m199 H.o199 (ev_g L xs H hl (by omega)) ?_
          refine pm_Ev.zeq rfl (by omega) rfl (fun h2 => ?_) (fun h2 => ?_)
          · exact absurd h2 (by omega)
          · refine pm_Ev.go 2 (f' := (158, 71, [(4, _), (3, _), (0, _), (1, _), (2, _)], [_, _])) rfl ?_
            refine pm_Ev.jeq rfl (by omega) rfl (fun h3 => ?_) (fun h3 => ?_)
            · exact absurd h3 (by omega)
            · refine pm_Ev.go 3 (f' := (158, 78, [(4, _), (3, _), (0, _), (1, _), (2, _)], [_, _, _])) rfl ?_
              refine pm_Ev.cv rfl rfl rfl rfl (by decide) (Nat.le_of_ble_eq_true rfl) (Nat.le_of_ble_eq_true rfl) H.m199 H.o199 (ix) ?_
              refine pm_Ev.zne rfl (by omega) rfl (fun h4 => ?_) (fun h4 => ?_)
              · exact absurd h4 (by omega)
              · refine pm_Ev.go 1 (f' := (158, 156, [(4, _), (3, _), (0, _), (1, _), (2, _)], [])) rfl ?_
                refine pm_Ev.inc rfl rfl (Nat.le_of_ble_eq_true rfl) ?_
                refine pm_Ev.go 1 (f' := (158, 50, [(4, _), (3, _), (0, _), (1, _), (2, _)], [])) rfl ?_
                exact pm_Ev.weak ih1 rfl
    · rw [q0 e e0 (by omega) (by omega), Int.add_zero] at ih1
      refine pm_Ev.go 2 (f' := (158, 53, [(4, _), (3, _), (0, _), (1, _), (2, _)], [_, _])) rfl ?_
      refine pm_Ev.gf rfl rfl H.m199 H.o199 rfl ?_
      refine pm_Ev.jge rfl (by omega) rfl (fun h1 => ?_) (fun h1 => ?_)
      · exact absurd h1 (by omega)
      · refine pm_Ev.go 3 (f' := (158, 63, [(4, _), (3, _), (0, _), (1, _), (2, _)], [_, _, _])) rfl ?_
        refine pm_Ev.cv rfl rfl rfl rfl (by decide) (Nat.le_of_ble_eq_true rfl) (Nat.le_of_ble_eq_true rfl) H.m199 H.o199 (ev_g L xs H hl (by omega)) ?_
        refine pm_Ev.zeq rfl (by omega) rfl (fun h2 => ?_) (fun h2 => ?_)
        · refine pm_Ev.inc rfl rfl (Nat.le_of_ble_eq_true rfl) ?_
          refine pm_Ev.go 1 (f' := (158, 50, [(4, _), (3, _), (0, _), (1, _), (2, _)], [])) rfl ?_
          exact pm_Ev.weak ih1 rfl
        · exact absurd h2 (by omega)
theorem ev_msumL3r (H : Hp σ ad z ar lr) (hl : (ar 200).1 = 5600) {n : Int} {I D : Int → Int} (M : mo_R (mo_g ar) (z 23) n I D) {q : Int → Int} (q1 : ∀ x, 0 ≤ x → x < n → q (I x) = if 0 ≤ x ∧ x < n then mo_hv (mo_g ar) 3 (I x) else 0) (q0 : ∀ i, 0 ≤ i → i < z 23 → mo_g ar i 0 ≠ 1 → q i = 0) : ∀ (k : Nat) (e : Int), 0 ≤ e → e + k = z 23 → pm_Ev (tq_P L xs) (158, 50, [(4, .int (zI e)), (3, .int (zI (fs q 0 e))), (0, .ref 199), (1, .int (zI (-1))), (2, .int (zI 3))], []) σ (.inl (some (.int (zI (fs q 0 (z 23))))), σ) := by
  intro k
  have hm : 0 ≤ z 23 ∧ z 23 ≤ 400 := ⟨M.m0, M.m4⟩
  induction k with
  | zero =>
    intro e e0 ek
    have ee : e = z 23 := by omega
    subst ee
    refine pm_Ev.go 2 (f' := (158, 53, [(4, _), (3, _), (0, _), (1, _), (2, _)], [_, _])) rfl ?_
    refine pm_Ev.gf rfl rfl H.m199 H.o199 rfl ?_
    refine pm_Ev.jge rfl (by omega) rfl (fun h1 => ?_) (fun h1 => ?_)
    · refine pm_Ev.go 1 (f' := (158, 163, [(4, _), (3, _), (0, _), (1, _), (2, _)], [_])) rfl ?_
      exact pm_Ev.rv rfl rfl rfl
    · exact absurd h1 (by omega)
  | succ k ih =>
    intro e e0 ek
    have ge := mo_g_r ar e 0
    have g4 := mo_g_r ar e 4
    have ih1 := ih (e + 1) (by omega) (by omega)
    rw [fs_r e0] at ih1
    rcases M.th e e0 (by omega) with ⟨t1, x, x0, x1, xe⟩ | ⟨t0, t1⟩
    · have qx := q1 x x0 x1
      rw [xe] at qx
      have hx : mo_hv (mo_g ar) 3 e = if 2 < mo_g ar e 4 then 1 else 0 := rfl
      rw [if_pos ⟨x0, x1⟩] at qx
      by_cases d : 2 < mo_g ar e 4
      · rw [hx, if_pos d] at qx
        rw [qx] at ih1
        refine pm_Ev.go 2 (f' := (158, 53, [(4, _), (3, _), (0, _), (1, _), (2, _)], [_, _])) rfl ?_
        refine pm_Ev.gf rfl rfl H.m199 H.o199 rfl ?_
        refine pm_Ev.jge rfl (by omega) rfl (fun h1 => ?_) (fun h1 => ?_)
        · exact absurd h1 (by omega)
        · refine pm_Ev.go 3 (f' := (158, 63, [(4, _), (3, _), (0, _), (1, _), (2, _)], [_, _, _])) rfl ?_
          refine pm_Ev.cv rfl rfl rfl rfl (by decide) (Nat.le_of_ble_eq_true rfl) (Nat.le_of_ble_eq_true rfl) H.m199 H.o199 (ev_g L xs H hl (by omega)) ?_
          refine pm_Ev.zeq rfl (by omega) rfl (fun h2 => ?_) (fun h2 => ?_)
          · exact absurd h2 (by omega)
          · refine pm_Ev.go 2 (f' := (158, 71, [(4, _), (3, _), (0, _), (1, _), (2, _)], [_, _])) rfl ?_
            refine pm_Ev.jeq rfl (by omega) rfl (fun h3 => ?_) (fun h3 => ?_)
            · refine pm_Ev.go 3 (f' := (158, 91, [(4, _), (3, _), (0, _), (1, _), (2, _)], [_, _, _])) rfl ?_
              refine pm_Ev.cv rfl rfl rfl rfl (by decide) (Nat.le_of_ble_eq_true rfl) (Nat.le_of_ble_eq_true rfl) H.m199 H.o199 (ev_g L xs H hl (by omega)) ?_
              refine pm_Ev.go 3 (f' := (158, 98, [(5, _), (4, _), (3, _), (0, _), (1, _), (2, _)], [_, _])) rfl ?_
              refine pm_Ev.zne rfl (by omega) rfl (fun h4 => ?_) (fun h4 => ?_)
              · refine pm_Ev.go 2 (f' := (158, 107, [(5, _), (4, _), (3, _), (0, _), (1, _), (2, _)], [_, _, _])) rfl ?_
                refine pm_Ev.jge rfl (by omega) rfl (fun h5 => ?_) (fun h5 => ?_)
                · refine pm_Ev.go 2 (f' := (158, 127, [(5, _), (4, _), (3, _), (0, _), (1, _), (2, _)], [_, _, _])) rfl ?_
                  refine pm_Ev.jne rfl (by omega) rfl (fun h6 => ?_) (fun h6 => ?_)
                  · exact absurd h6 (by omega)
                  · refine pm_Ev.go 2 (f' := (158, 133, [(5, _), (4, _), (3, _), (0, _), (1, _), (2, _)], [_, _, _])) rfl ?_
                    refine pm_Ev.jle rfl (by omega) rfl (fun h7 => ?_) (fun h7 => ?_)
                    · exact absurd h7 (by omega)
                    · refine pm_Ev.go 2 (f' := (158, 154, [(5, _), (4, _), (3, _), (0, _), (1, _), (2, _)], [_, _])) rfl ?_
                      refine pm_Ev.iadd rfl ?_
                      refine pm_Ev.go 1 (f' := (158, 156, [(3, _), (5, _), (4, _), (0, _), (1, _), (2, _)], [])) rfl ?_
                      refine pm_Ev.inc rfl rfl (Nat.le_of_ble_eq_true rfl) ?_
                      refine pm_Ev.go 1 (f' := (158, 50, [(4, _), (3, _), (5, _), (0, _), (1, _), (2, _)], [])) rfl ?_
                      exact pm_Ev.weak ih1 rfl
                · exact absurd h5 (by omega)
              · exact absurd h4 (by omega)
            · exact absurd h3 (by omega)
      · rw [hx, if_neg d] at qx
        rw [qx] at ih1
        refine pm_Ev.go 2 (f' := (158, 53, [(4, _), (3, _), (0, _), (1, _), (2, _)], [_, _])) rfl ?_
        refine pm_Ev.gf rfl rfl H.m199 H.o199 rfl ?_
        refine pm_Ev.jge rfl (by omega) rfl (fun h1 => ?_) (fun h1 => ?_)
        · exact absurd h1 (by omega)
        · refine pm_Ev.go 3 (f' := (158, 63, [(4, _), (3, _), (0, _), (1, _), (2, _)], [_, _, _])) rfl ?_
          refine pm_Ev.cv rfl rfl rfl rfl (by decide) (Nat.le_of_ble_eq_true rfl) (Nat.le_of_ble_eq_true rfl) H.m199 H.o199 (ev_g L xs H hl (by omega)) ?_
          refine pm_Ev.zeq rfl (by omega) rfl (fun h2 => ?_) (fun h2 => ?_)
          · exact absurd h2 (by omega)
          · refine pm_Ev.go 2 (f' := (158, 71, [(4, _), (3, _), (0, _), (1, _), (2, _)], [_, _])) rfl ?_
            refine pm_Ev.jeq rfl (by omega) rfl (fun h3 => ?_) (fun h3 => ?_)
            · refine pm_Ev.go 3 (f' := (158, 91, [(4, _), (3, _), (0, _), (1, _), (2, _)], [_, _, _])) rfl ?_
              refine pm_Ev.cv rfl rfl rfl rfl (by decide) (Nat.le_of_ble_eq_true rfl) (Nat.le_of_ble_eq_true rfl) H.m199 H.o199 (ev_g L xs H hl (by omega)) ?_
              refine pm_Ev.go 3 (f' := (158, 98, [(5, _), (4, _), (3, _), (0, _), (1, _), (2, _)], [_, _])) rfl ?_
              refine pm_Ev.zne rfl (by omega) rfl (fun h4 => ?_) (fun h4 => ?_)
              · refine pm_Ev.go 2 (f' := (158, 107, [(5, _), (4, _), (3, _), (0, _), (1, _), (2, _)], [_, _, _])) rfl ?_
                refine pm_Ev.jge rfl (by omega) rfl (fun h5 => ?_) (fun h5 => ?_)
                · refine pm_Ev.go 2 (f' := (158, 127, [(5, _), (4, _), (3, _), (0, _), (1, _), (2, _)], [_, _, _])) rfl ?_
                  refine pm_Ev.jne rfl (by omega) rfl (fun h6 => ?_) (fun h6 => ?_)
                  · exact absurd h6 (by omega)
                  · refine pm_Ev.go 2 (f' := (158, 133, [(5, _), (4, _), (3, _), (0, _), (1, _), (2, _)], [_, _, _])) rfl ?_
                    refine pm_Ev.jle rfl (by omega) rfl (fun h7 => ?_) (fun h7 => ?_)
                    · refine pm_Ev.go 2 (f' := (158, 154, [(5, _), (4, _), (3, _), (0, _), (1, _), (2, _)], [_, _])) rfl ?_
                      refine pm_Ev.iadd rfl ?_
                      refine pm_Ev.go 1 (f' := (158, 156, [(3, _), (5, _), (4, _), (0, _), (1, _), (2, _)], [])) rfl ?_
                      refine pm_Ev.inc rfl rfl (Nat.le_of_ble_eq_true rfl) ?_
                      refine pm_Ev.go 1 (f' := (158, 50, [(4, _), (3, _), (5, _), (0, _), (1, _), (2, _)], [])) rfl ?_
                      exact pm_Ev.weak ih1 rfl
                    · exact absurd h7 (by omega)
                · exact absurd h5 (by omega)
              · exact absurd h4 (by omega)
            · exact absurd h3 (by omega)
    · rw [q0 e e0 (by omega) (by omega), Int.add_zero] at ih1
      refine pm_Ev.go 2 (f' := (158, 53, [(4, _), (3, _), (0, _), (1, _), (2, _)], [_, _])) rfl ?_
      refine pm_Ev.gf rfl rfl H.m199 H.o199 rfl ?_
      refine pm_Ev.jge rfl (by omega) rfl (fun h1 => ?_) (fun h1 => ?_)
      · exact absurd h1 (by omega)
      · refine pm_Ev.go 3 (f' := (158, 63, [(4, _), (3, _), (0, _), (1, _), (2, _)], [_, _, _])) rfl ?_
        refine pm_Ev.cv rfl rfl rfl rfl (by decide) (Nat.le_of_ble_eq_true rfl) (Nat.le_of_ble_eq_true rfl) H.m199 H.o199 (ev_g L xs H hl (by omega)) ?_
        refine pm_Ev.zeq rfl (by omega) rfl (fun h2 => ?_) (fun h2 => ?_)
        · refine pm_Ev.inc rfl rfl (Nat.le_of_ble_eq_true rfl) ?_
          refine pm_Ev.go 1 (f' := (158, 50, [(4, _), (3, _), (0, _), (1, _), (2, _)], [])) rfl ?_
          exact pm_Ev.weak ih1 rfl
        · exact absurd h2 (by omega)
theorem ev_msumL3b (H : Hp σ ad z ar lr) (hl : (ar 200).1 = 5600) {n : Int} {I D : Int → Int} (M : mo_R (mo_g ar) (z 23) n I D) {b : Int} (b0 : 0 ≤ b) (b1 : b < n) {q : Int → Int} (q1 : ∀ x, 0 ≤ x → x < n → q (I x) = if b ≤ x ∧ x < fo_end D n b then mo_hv (mo_g ar) 3 (I x) else 0) (q0 : ∀ i, 0 ≤ i → i < z 23 → mo_g ar i 0 ≠ 1 → q i = 0) : ∀ (k : Nat) (e : Int), 0 ≤ e → e + k = z 23 → pm_Ev (tq_P L xs) (158, 50, [(4, .int (zI e)), (3, .int (zI (fs q 0 e))), (0, .ref 199), (1, .int (zI (fo_id I b))), (2, .int (zI 3))], []) σ (.inl (some (.int (zI (fs q 0 (z 23))))), σ) := by
  intro k
  have hm : 0 ≤ z 23 ∧ z 23 ≤ 400 := ⟨M.m0, M.m4⟩
  induction k with
  | zero =>
    intro e e0 ek
    have ee : e = z 23 := by omega
    subst ee
    refine pm_Ev.go 2 (f' := (158, 53, [(4, _), (3, _), (0, _), (1, _), (2, _)], [_, _])) rfl ?_
    refine pm_Ev.gf rfl rfl H.m199 H.o199 rfl ?_
    refine pm_Ev.jge rfl (by omega) rfl (fun h1 => ?_) (fun h1 => ?_)
    · refine pm_Ev.go 1 (f' := (158, 163, [(4, _), (3, _), (0, _), (1, _), (2, _)], [_])) rfl ?_
      exact pm_Ev.rv rfl rfl rfl
    · exact absurd h1 (by omega)
  | succ k ih =>
    intro e e0 ek
    have ge := mo_g_r ar e 0
    have g4 := mo_g_r ar e 4
    have ih1 := ih (e + 1) (by omega) (by omega)
    rw [fs_r e0] at ih1
    rcases M.th e e0 (by omega) with ⟨t1, x, x0, x1, xe⟩ | ⟨t0, t1⟩
    · have qx := q1 x x0 x1
      rw [xe] at qx
      have ix := ev_isIn L xs H hl M b0 b1 (x := x) (by omega) (Or.inl x1)
      have idb := M.idr (x := b) (by omega) (Or.inl b1)
      rw [fo_id_at x0, xe] at ix
      have hx : mo_hv (mo_g ar) 3 e = if 2 < mo_g ar e 4 then 1 else 0 := rfl
      by_cases c : b ≤ x ∧ x < fo_end D n b
      · rw [if_pos c] at ix qx
        by_cases d : 2 < mo_g ar e 4
        · rw [hx, if_pos d] at qx
          rw [qx] at ih1
          refine pm_Ev.go 2 (f' := (158, 53, [(4, _), (3, _), (0, _), (1, _), (2, _)], [_, _])) rfl ?_
          refine pm_Ev.gf rfl rfl H.m199 H.o199 rfl ?_
          refine pm_Ev.jge rfl (by omega) rfl (fun h1 => ?_) (fun h1 => ?_)
          · exact absurd h1 (by omega)
          · refine pm_Ev.go 3 (f' := (158, 63, [(4, _), (3, _), (0, _), (1, _), (2, _)], [_, _, _])) rfl ?_
            refine pm_Ev.cv rfl rfl rfl rfl (by decide) (Nat.le_of_ble_eq_true rfl) (Nat.le_of_ble_eq_true rfl) H.m199 H.o199 (ev_g L xs H hl (by omega)) ?_
            refine pm_Ev.zeq rfl (by omega) rfl (fun h2 => ?_) (fun h2 => ?_)
            · exact absurd h2 (by omega)
            · refine pm_Ev.go 2 (f' := (158, 71, [(4, _), (3, _), (0, _), (1, _), (2, _)], [_, _])) rfl ?_
              refine pm_Ev.jeq rfl (by omega) rfl (fun h3 => ?_) (fun h3 => ?_)
              · exact absurd h3 (by omega)
              · refine pm_Ev.go 3 (f' := (158, 78, [(4, _), (3, _), (0, _), (1, _), (2, _)], [_, _, _])) rfl ?_
                refine pm_Ev.cv rfl rfl rfl rfl (by decide) (Nat.le_of_ble_eq_true rfl) (Nat.le_of_ble_eq_true rfl) H.m199 H.o199 (ix) ?_
                refine pm_Ev.zne rfl (by omega) rfl (fun h4 => ?_) (fun h4 => ?_)
                · refine pm_Ev.go 3 (f' := (158, 91, [(4, _), (3, _), (0, _), (1, _), (2, _)], [_, _, _])) rfl ?_
                  refine pm_Ev.cv rfl rfl rfl rfl (by decide) (Nat.le_of_ble_eq_true rfl) (Nat.le_of_ble_eq_true rfl) H.m199 H.o199 (ev_g L xs H hl (by omega)) ?_
                  refine pm_Ev.go 3 (f' := (158, 98, [(5, _), (4, _), (3, _), (0, _), (1, _), (2, _)], [_, _])) rfl ?_
                  refine pm_Ev.zne rfl (by omega) rfl (fun h5 => ?_) (fun h5 => ?_)
                  · refine pm_Ev.go 2 (f' := (158, 107, [(5, _), (4, _), (3, _), (0, _), (1, _), (2, _)], [_, _, _])) rfl ?_
                    refine pm_Ev.jge rfl (by omega) rfl (fun h6 => ?_) (fun h6 => ?_)
                    · refine pm_Ev.go 2 (f' := (158, 127, [(5, _), (4, _), (3, _), (0, _), (1, _), (2, _)], [_, _, _])) rfl ?_
                      refine pm_Ev.jne rfl (by omega) rfl (fun h7 => ?_) (fun h7 => ?_)
                      · exact absurd h7 (by omega)
                      · refine pm_Ev.go 2 (f' := (158, 133, [(5, _), (4, _), (3, _), (0, _), (1, _), (2, _)], [_, _, _])) rfl ?_
                        refine pm_Ev.jle rfl (by omega) rfl (fun h8 => ?_) (fun h8 => ?_)
                        · exact absurd h8 (by omega)
                        · refine pm_Ev.go 2 (f' := (158, 154, [(5, _), (4, _), (3, _), (0, _), (1, _), (2, _)], [_, _])) rfl ?_
                          refine pm_Ev.iadd rfl ?_
                          refine pm_Ev.go 1 (f' := (158, 156, [(3, _), (5, _), (4, _), (0, _), (1, _), (2, _)], [])) rfl ?_
                          refine pm_Ev.inc rfl rfl (Nat.le_of_ble_eq_true rfl) ?_
                          refine pm_Ev.go 1 (f' := (158, 50, [(4, _), (3, _), (5, _), (0, _), (1, _), (2, _)], [])) rfl ?_
                          exact pm_Ev.weak ih1 rfl
                    · exact absurd h6 (by omega)
                  · exact absurd h5 (by omega)
                · exact absurd h4 (by omega)
        · rw [hx, if_neg d] at qx
          rw [qx] at ih1
          refine pm_Ev.go 2 (f' := (158, 53, [(4, _), (3, _), (0, _), (1, _), (2, _)], [_, _])) rfl ?_
          refine pm_Ev.gf rfl rfl H.m199 H.o199 rfl ?_
          refine pm_Ev.jge rfl (by omega) rfl (fun h1 => ?_) (fun h1 => ?_)
          · exact absurd h1 (by omega)
          · refine pm_Ev.go 3 (f' := (158, 63, [(4, _), (3, _), (0, _), (1, _), (2, _)], [_, _, _])) rfl ?_
            refine pm_Ev.cv rfl rfl rfl rfl (by decide) (Nat.le_of_ble_eq_true rfl) (Nat.le_of_ble_eq_true rfl) H.m199 H.o199 (ev_g L xs H hl (by omega)) ?_
            refine pm_Ev.zeq rfl (by omega) rfl (fun h2 => ?_) (fun h2 => ?_)
            · exact absurd h2 (by omega)
            · refine pm_Ev.go 2 (f' := (158, 71, [(4, _), (3, _), (0, _), (1, _), (2, _)], [_, _])) rfl ?_
              refine pm_Ev.jeq rfl (by omega) rfl (fun h3 => ?_) (fun h3 => ?_)
              · exact absurd h3 (by omega)
              · refine pm_Ev.go 3 (f' := (158, 78, [(4, _), (3, _), (0, _), (1, _), (2, _)], [_, _, _])) rfl ?_
                refine pm_Ev.cv rfl rfl rfl rfl (by decide) (Nat.le_of_ble_eq_true rfl) (Nat.le_of_ble_eq_true rfl) H.m199 H.o199 (ix) ?_
                refine pm_Ev.zne rfl (by omega) rfl (fun h4 => ?_) (fun h4 => ?_)
                · refine pm_Ev.go 3 (f' := (158, 91, [(4, _), (3, _), (0, _), (1, _), (2, _)], [_, _, _])) rfl ?_
                  refine pm_Ev.cv rfl rfl rfl rfl (by decide) (Nat.le_of_ble_eq_true rfl) (Nat.le_of_ble_eq_true rfl) H.m199 H.o199 (ev_g L xs H hl (by omega)) ?_
                  refine pm_Ev.go 3 (f' := (158, 98, [(5, _), (4, _), (3, _), (0, _), (1, _), (2, _)], [_, _])) rfl ?_
                  refine pm_Ev.zne rfl (by omega) rfl (fun h5 => ?_) (fun h5 => ?_)
                  · refine pm_Ev.go 2 (f' := (158, 107, [(5, _), (4, _), (3, _), (0, _), (1, _), (2, _)], [_, _, _])) rfl ?_
                    refine pm_Ev.jge rfl (by omega) rfl (fun h6 => ?_) (fun h6 => ?_)
                    · refine pm_Ev.go 2 (f' := (158, 127, [(5, _), (4, _), (3, _), (0, _), (1, _), (2, _)], [_, _, _])) rfl ?_
                      refine pm_Ev.jne rfl (by omega) rfl (fun h7 => ?_) (fun h7 => ?_)
                      · exact absurd h7 (by omega)
                      · refine pm_Ev.go 2 (f' := (158, 133, [(5, _), (4, _), (3, _), (0, _), (1, _), (2, _)], [_, _, _])) rfl ?_
                        refine pm_Ev.jle rfl (by omega) rfl (fun h8 => ?_) (fun h8 => ?_)
                        · refine pm_Ev.go 2 (f' := (158, 154, [(5, _), (4, _), (3, _), (0, _), (1, _), (2, _)], [_, _])) rfl ?_
                          refine pm_Ev.iadd rfl ?_
                          refine pm_Ev.go 1 (f' := (158, 156, [(3, _), (5, _), (4, _), (0, _), (1, _), (2, _)], [])) rfl ?_
                          refine pm_Ev.inc rfl rfl (Nat.le_of_ble_eq_true rfl) ?_
                          refine pm_Ev.go 1 (f' := (158, 50, [(4, _), (3, _), (5, _), (0, _), (1, _), (2, _)], [])) rfl ?_
                          exact pm_Ev.weak ih1 rfl
                        · exact absurd h8 (by omega)
                    · exact absurd h6 (by omega)
                  · exact absurd h5 (by omega)
                · exact absurd h4 (by omega)
      · rw [if_neg c] at ix qx
        rw [qx, Int.add_zero] at ih1
        refine pm_Ev.go 2 (f' := (158, 53, [(4, _), (3, _), (0, _), (1, _), (2, _)], [_, _])) rfl ?_
        refine pm_Ev.gf rfl rfl H.m199 H.o199 rfl ?_
        refine pm_Ev.jge rfl (by omega) rfl (fun h1 => ?_) (fun h1 => ?_)
        · exact absurd h1 (by omega)
        · refine pm_Ev.go 3 (f' := (158, 63, [(4, _), (3, _), (0, _), (1, _), (2, _)], [_, _, _])) rfl ?_
          refine pm_Ev.cv rfl rfl rfl rfl (by decide) (Nat.le_of_ble_eq_true rfl) (Nat.le_of_ble_eq_true rfl) H.m199 H.o199 (ev_g L xs H hl (by omega)) ?_
          refine pm_Ev.zeq rfl (by omega) rfl (fun h2 => ?_) (fun h2 => ?_)
          · exact absurd h2 (by omega)
          · refine pm_Ev.go 2 (f' := (158, 71, [(4, _), (3, _), (0, _), (1, _), (2, _)], [_, _])) rfl ?_
            refine pm_Ev.jeq rfl (by omega) rfl (fun h3 => ?_) (fun h3 => ?_)
            · exact absurd h3 (by omega)
            · refine pm_Ev.go 3 (f' := (158, 78, [(4, _), (3, _), (0, _), (1, _), (2, _)], [_, _, _])) rfl ?_
              refine pm_Ev.cv rfl rfl rfl rfl (by decide) (Nat.le_of_ble_eq_true rfl) (Nat.le_of_ble_eq_true rfl) H.m199 H.o199 (ix) ?_
              refine pm_Ev.zne rfl (by omega) rfl (fun h4 => ?_) (fun h4 => ?_)
              · exact absurd h4 (by omega)
              · refine pm_Ev.go 1 (f' := (158, 156, [(4, _), (3, _), (0, _), (1, _), (2, _)], [])) rfl ?_
                refine pm_Ev.inc rfl rfl (Nat.le_of_ble_eq_true rfl) ?_
                refine pm_Ev.go 1 (f' := (158, 50, [(4, _), (3, _), (0, _), (1, _), (2, _)], [])) rfl ?_
                exact pm_Ev.weak ih1 rfl
    · rw [q0 e e0 (by omega) (by omega), Int.add_zero] at ih1
      refine pm_Ev.go 2 (f' := (158, 53, [(4, _), (3, _), (0, _), (1, _), (2, _)], [_, _])) rfl ?_
      refine pm_Ev.gf rfl rfl H.m199 H.o199 rfl ?_
      refine pm_Ev.jge rfl (by omega) rfl (fun h1 => ?_) (fun h1 => ?_)
      · exact absurd h1 (by omega)
      · refine pm_Ev.go 3 (f' := (158, 63, [(4, _), (3, _), (0, _), (1, _), (2, _)], [_, _, _])) rfl ?_
        refine pm_Ev.cv rfl rfl rfl rfl (by decide) (Nat.le_of_ble_eq_true rfl) (Nat.le_of_ble_eq_true rfl) H.m199 H.o199 (ev_g L xs H hl (by omega)) ?_
        refine pm_Ev.zeq rfl (by omega) rfl (fun h2 => ?_) (fun h2 => ?_)
        · refine pm_Ev.inc rfl rfl (Nat.le_of_ble_eq_true rfl) ?_
          refine pm_Ev.go 1 (f' := (158, 50, [(4, _), (3, _), (0, _), (1, _), (2, _)], [])) rfl ?_
          exact pm_Ev.weak ih1 rfl
        · exact absurd h2 (by omega)
theorem ev_msumL4r (H : Hp σ ad z ar lr) (hl : (ar 200).1 = 5600) {n : Int} {I D : Int → Int} (M : mo_R (mo_g ar) (z 23) n I D) {q : Int → Int} (q1 : ∀ x, 0 ≤ x → x < n → q (I x) = if 0 ≤ x ∧ x < n then mo_hv (mo_g ar) 4 (I x) else 0) (q0 : ∀ i, 0 ≤ i → i < z 23 → mo_g ar i 0 ≠ 1 → q i = 0) : ∀ (k : Nat) (e : Int), 0 ≤ e → e + k = z 23 → pm_Ev (tq_P L xs) (158, 50, [(4, .int (zI e)), (3, .int (zI (fs q 0 e))), (0, .ref 199), (1, .int (zI (-1))), (2, .int (zI 4))], []) σ (.inl (some (.int (zI (fs q 0 (z 23))))), σ) := by
  intro k
  have hm : 0 ≤ z 23 ∧ z 23 ≤ 400 := ⟨M.m0, M.m4⟩
  induction k with
  | zero =>
    intro e e0 ek
    have ee : e = z 23 := by omega
    subst ee
    refine pm_Ev.go 2 (f' := (158, 53, [(4, _), (3, _), (0, _), (1, _), (2, _)], [_, _])) rfl ?_
    refine pm_Ev.gf rfl rfl H.m199 H.o199 rfl ?_
    refine pm_Ev.jge rfl (by omega) rfl (fun h1 => ?_) (fun h1 => ?_)
    · refine pm_Ev.go 1 (f' := (158, 163, [(4, _), (3, _), (0, _), (1, _), (2, _)], [_])) rfl ?_
      exact pm_Ev.rv rfl rfl rfl
    · exact absurd h1 (by omega)
  | succ k ih =>
    intro e e0 ek
    have ge := mo_g_r ar e 0
    have g4 := mo_g_r ar e 4
    have ih1 := ih (e + 1) (by omega) (by omega)
    rw [fs_r e0] at ih1
    rcases M.th e e0 (by omega) with ⟨t1, x, x0, x1, xe⟩ | ⟨t0, t1⟩
    · have qx := q1 x x0 x1
      rw [xe] at qx
      have hx : mo_hv (mo_g ar) 4 e = if 0 < mo_g ar e 4 then 1 else 0 := rfl
      rw [if_pos ⟨x0, x1⟩] at qx
      by_cases d : 0 < mo_g ar e 4
      · rw [hx, if_pos d] at qx
        rw [qx] at ih1
        refine pm_Ev.go 2 (f' := (158, 53, [(4, _), (3, _), (0, _), (1, _), (2, _)], [_, _])) rfl ?_
        refine pm_Ev.gf rfl rfl H.m199 H.o199 rfl ?_
        refine pm_Ev.jge rfl (by omega) rfl (fun h1 => ?_) (fun h1 => ?_)
        · exact absurd h1 (by omega)
        · refine pm_Ev.go 3 (f' := (158, 63, [(4, _), (3, _), (0, _), (1, _), (2, _)], [_, _, _])) rfl ?_
          refine pm_Ev.cv rfl rfl rfl rfl (by decide) (Nat.le_of_ble_eq_true rfl) (Nat.le_of_ble_eq_true rfl) H.m199 H.o199 (ev_g L xs H hl (by omega)) ?_
          refine pm_Ev.zeq rfl (by omega) rfl (fun h2 => ?_) (fun h2 => ?_)
          · exact absurd h2 (by omega)
          · refine pm_Ev.go 2 (f' := (158, 71, [(4, _), (3, _), (0, _), (1, _), (2, _)], [_, _])) rfl ?_
            refine pm_Ev.jeq rfl (by omega) rfl (fun h3 => ?_) (fun h3 => ?_)
            · refine pm_Ev.go 3 (f' := (158, 91, [(4, _), (3, _), (0, _), (1, _), (2, _)], [_, _, _])) rfl ?_
              refine pm_Ev.cv rfl rfl rfl rfl (by decide) (Nat.le_of_ble_eq_true rfl) (Nat.le_of_ble_eq_true rfl) H.m199 H.o199 (ev_g L xs H hl (by omega)) ?_
              refine pm_Ev.go 3 (f' := (158, 98, [(5, _), (4, _), (3, _), (0, _), (1, _), (2, _)], [_, _])) rfl ?_
              refine pm_Ev.zne rfl (by omega) rfl (fun h4 => ?_) (fun h4 => ?_)
              · refine pm_Ev.go 2 (f' := (158, 107, [(5, _), (4, _), (3, _), (0, _), (1, _), (2, _)], [_, _, _])) rfl ?_
                refine pm_Ev.jge rfl (by omega) rfl (fun h5 => ?_) (fun h5 => ?_)
                · refine pm_Ev.go 2 (f' := (158, 127, [(5, _), (4, _), (3, _), (0, _), (1, _), (2, _)], [_, _, _])) rfl ?_
                  refine pm_Ev.jne rfl (by omega) rfl (fun h6 => ?_) (fun h6 => ?_)
                  · refine pm_Ev.go 1 (f' := (158, 146, [(5, _), (4, _), (3, _), (0, _), (1, _), (2, _)], [_, _])) rfl ?_
                    refine pm_Ev.zle rfl (by omega) rfl (fun h7 => ?_) (fun h7 => ?_)
                    · exact absurd h7 (by omega)
                    · refine pm_Ev.go 2 (f' := (158, 154, [(5, _), (4, _), (3, _), (0, _), (1, _), (2, _)], [_, _])) rfl ?_
                      refine pm_Ev.iadd rfl ?_
                      refine pm_Ev.go 1 (f' := (158, 156, [(3, _), (5, _), (4, _), (0, _), (1, _), (2, _)], [])) rfl ?_
                      refine pm_Ev.inc rfl rfl (Nat.le_of_ble_eq_true rfl) ?_
                      refine pm_Ev.go 1 (f' := (158, 50, [(4, _), (3, _), (5, _), (0, _), (1, _), (2, _)], [])) rfl ?_
                      exact pm_Ev.weak ih1 rfl
                  · exact absurd h6 (by omega)
                · exact absurd h5 (by omega)
              · exact absurd h4 (by omega)
            · exact absurd h3 (by omega)
      · rw [hx, if_neg d] at qx
        rw [qx] at ih1
        refine pm_Ev.go 2 (f' := (158, 53, [(4, _), (3, _), (0, _), (1, _), (2, _)], [_, _])) rfl ?_
        refine pm_Ev.gf rfl rfl H.m199 H.o199 rfl ?_
        refine pm_Ev.jge rfl (by omega) rfl (fun h1 => ?_) (fun h1 => ?_)
        · exact absurd h1 (by omega)
        · refine pm_Ev.go 3 (f' := (158, 63, [(4, _), (3, _), (0, _), (1, _), (2, _)], [_, _, _])) rfl ?_
          refine pm_Ev.cv rfl rfl rfl rfl (by decide) (Nat.le_of_ble_eq_true rfl) (Nat.le_of_ble_eq_true rfl) H.m199 H.o199 (ev_g L xs H hl (by omega)) ?_
          refine pm_Ev.zeq rfl (by omega) rfl (fun h2 => ?_) (fun h2 => ?_)
          · exact absurd h2 (by omega)
          · refine pm_Ev.go 2 (f' := (158, 71, [(4, _), (3, _), (0, _), (1, _), (2, _)], [_, _])) rfl ?_
            refine pm_Ev.jeq rfl (by omega) rfl (fun h3 => ?_) (fun h3 => ?_)
            · refine pm_Ev.go 3 (f' := (158, 91, [(4, _), (3, _), (0, _), (1, _), (2, _)], [_, _, _])) rfl ?_
              refine pm_Ev.cv rfl rfl rfl rfl (by decide) (Nat.le_of_ble_eq_true rfl) (Nat.le_of_ble_eq_true rfl) H.m199 H.o199 (ev_g L xs H hl (by omega)) ?_
              refine pm_Ev.go 3 (f' := (158, 98, [(5, _), (4, _), (3, _), (0, _), (1, _), (2, _)], [_, _])) rfl ?_
              refine pm_Ev.zne rfl (by omega) rfl (fun h4 => ?_) (fun h4 => ?_)
              · refine pm_Ev.go 2 (f' := (158, 107, [(5, _), (4, _), (3, _), (0, _), (1, _), (2, _)], [_, _, _])) rfl ?_
                refine pm_Ev.jge rfl (by omega) rfl (fun h5 => ?_) (fun h5 => ?_)
                · refine pm_Ev.go 2 (f' := (158, 127, [(5, _), (4, _), (3, _), (0, _), (1, _), (2, _)], [_, _, _])) rfl ?_
                  refine pm_Ev.jne rfl (by omega) rfl (fun h6 => ?_) (fun h6 => ?_)
                  · refine pm_Ev.go 1 (f' := (158, 146, [(5, _), (4, _), (3, _), (0, _), (1, _), (2, _)], [_, _])) rfl ?_
                    refine pm_Ev.zle rfl (by omega) rfl (fun h7 => ?_) (fun h7 => ?_)
                    · refine pm_Ev.go 1 (f' := (158, 154, [(5, _), (4, _), (3, _), (0, _), (1, _), (2, _)], [_, _])) rfl ?_
                      refine pm_Ev.iadd rfl ?_
                      refine pm_Ev.go 1 (f' := (158, 156, [(3, _), (5, _), (4, _), (0, _), (1, _), (2, _)], [])) rfl ?_
                      refine pm_Ev.inc rfl rfl (Nat.le_of_ble_eq_true rfl) ?_
                      refine pm_Ev.go 1 (f' := (158, 50, [(4, _), (3, _), (5, _), (0, _), (1, _), (2, _)], [])) rfl ?_
                      exact pm_Ev.weak ih1 rfl
                    · exact absurd h7 (by omega)
                  · exact absurd h6 (by omega)
                · exact absurd h5 (by omega)
              · exact absurd h4 (by omega)
            · exact absurd h3 (by omega)
    · rw [q0 e e0 (by omega) (by omega), Int.add_zero] at ih1
      refine pm_Ev.go 2 (f' := (158, 53, [(4, _), (3, _), (0, _), (1, _), (2, _)], [_, _])) rfl ?_
      refine pm_Ev.gf rfl rfl H.m199 H.o199 rfl ?_
      refine pm_Ev.jge rfl (by omega) rfl (fun h1 => ?_) (fun h1 => ?_)
      · exact absurd h1 (by omega)
      · refine pm_Ev.go 3 (f' := (158, 63, [(4, _), (3, _), (0, _), (1, _), (2, _)], [_, _, _])) rfl ?_
        refine pm_Ev.cv rfl rfl rfl rfl (by decide) (Nat.le_of_ble_eq_true rfl) (Nat.le_of_ble_eq_true rfl) H.m199 H.o199 (ev_g L xs H hl (by omega)) ?_
        refine pm_Ev.zeq rfl (by omega) rfl (fun h2 => ?_) (fun h2 => ?_)
        · refine pm_Ev.inc rfl rfl (Nat.le_of_ble_eq_true rfl) ?_
          refine pm_Ev.go 1 (f' := (158, 50, [(4, _), (3, _), (0, _), (1, _), (2, _)], [])) rfl ?_
          exact pm_Ev.weak ih1 rfl
        · exact absurd h2 (by omega)
theorem ev_msumL4b (H : Hp σ ad z ar lr) (hl : (ar 200).1 = 5600) {n : Int} {I D : Int → Int} (M : mo_R (mo_g ar) (z 23) n I D) {b : Int} (b0 : 0 ≤ b) (b1 : b < n) {q : Int → Int} (q1 : ∀ x, 0 ≤ x → x < n → q (I x) = if b ≤ x ∧ x < fo_end D n b then mo_hv (mo_g ar) 4 (I x) else 0) (q0 : ∀ i, 0 ≤ i → i < z 23 → mo_g ar i 0 ≠ 1 → q i = 0) : ∀ (k : Nat) (e : Int), 0 ≤ e → e + k = z 23 → pm_Ev (tq_P L xs) (158, 50, [(4, .int (zI e)), (3, .int (zI (fs q 0 e))), (0, .ref 199), (1, .int (zI (fo_id I b))), (2, .int (zI 4))], []) σ (.inl (some (.int (zI (fs q 0 (z 23))))), σ) := by
  intro k
  have hm : 0 ≤ z 23 ∧ z 23 ≤ 400 := ⟨M.m0, M.m4⟩
  induction k with
  | zero =>
    intro e e0 ek
    have ee : e = z 23 := by omega
    subst ee
    refine pm_Ev.go 2 (f' := (158, 53, [(4, _), (3, _), (0, _), (1, _), (2, _)], [_, _])) rfl ?_
    refine pm_Ev.gf rfl rfl H.m199 H.o199 rfl ?_
    refine pm_Ev.jge rfl (by omega) rfl (fun h1 => ?_) (fun h1 => ?_)
    · refine pm_Ev.go 1 (f' := (158, 163, [(4, _), (3, _), (0, _), (1, _), (2, _)], [_])) rfl ?_
      exact pm_Ev.rv rfl rfl rfl
    · exact absurd h1 (by omega)
  | succ k ih =>
    intro e e0 ek
    have ge := mo_g_r ar e 0
    have g4 := mo_g_r ar e 4
    have ih1 := ih (e + 1) (by omega) (by omega)
    rw [fs_r e0] at ih1
    rcases M.th e e0 (by omega) with ⟨t1, x, x0, x1, xe⟩ | ⟨t0, t1⟩
    · have qx := q1 x x0 x1
      rw [xe] at qx
      have ix := ev_isIn L xs H hl M b0 b1 (x := x) (by omega) (Or.inl x1)
      have idb := M.idr (x := b) (by omega) (Or.inl b1)
      rw [fo_id_at x0, xe] at ix
      have hx : mo_hv (mo_g ar) 4 e = if 0 < mo_g ar e 4 then 1 else 0 := rfl
      by_cases c : b ≤ x ∧ x < fo_end D n b
      · rw [if_pos c] at ix qx
        by_cases d : 0 < mo_g ar e 4
        · rw [hx, if_pos d] at qx
          rw [qx] at ih1
          refine pm_Ev.go 2 (f' := (158, 53, [(4, _), (3, _), (0, _), (1, _), (2, _)], [_, _])) rfl ?_
          refine pm_Ev.gf rfl rfl H.m199 H.o199 rfl ?_
          refine pm_Ev.jge rfl (by omega) rfl (fun h1 => ?_) (fun h1 => ?_)
          · exact absurd h1 (by omega)
          · refine pm_Ev.go 3 (f' := (158, 63, [(4, _), (3, _), (0, _), (1, _), (2, _)], [_, _, _])) rfl ?_
            refine pm_Ev.cv rfl rfl rfl rfl (by decide) (Nat.le_of_ble_eq_true rfl) (Nat.le_of_ble_eq_true rfl) H.m199 H.o199 (ev_g L xs H hl (by omega)) ?_
            refine pm_Ev.zeq rfl (by omega) rfl (fun h2 => ?_) (fun h2 => ?_)
            · exact absurd h2 (by omega)
            · refine pm_Ev.go 2 (f' := (158, 71, [(4, _), (3, _), (0, _), (1, _), (2, _)], [_, _])) rfl ?_
              refine pm_Ev.jeq rfl (by omega) rfl (fun h3 => ?_) (fun h3 => ?_)
              · exact absurd h3 (by omega)
              · refine pm_Ev.go 3 (f' := (158, 78, [(4, _), (3, _), (0, _), (1, _), (2, _)], [_, _, _])) rfl ?_
                refine pm_Ev.cv rfl rfl rfl rfl (by decide) (Nat.le_of_ble_eq_true rfl) (Nat.le_of_ble_eq_true rfl) H.m199 H.o199 (ix) ?_
                refine pm_Ev.zne rfl (by omega) rfl (fun h4 => ?_) (fun h4 => ?_)
                · refine pm_Ev.go 3 (f' := (158, 91, [(4, _), (3, _), (0, _), (1, _), (2, _)], [_, _, _])) rfl ?_
                  refine pm_Ev.cv rfl rfl rfl rfl (by decide) (Nat.le_of_ble_eq_true rfl) (Nat.le_of_ble_eq_true rfl) H.m199 H.o199 (ev_g L xs H hl (by omega)) ?_
                  refine pm_Ev.go 3 (f' := (158, 98, [(5, _), (4, _), (3, _), (0, _), (1, _), (2, _)], [_, _])) rfl ?_
                  refine pm_Ev.zne rfl (by omega) rfl (fun h5 => ?_) (fun h5 => ?_)
                  · refine pm_Ev.go 2 (f' := (158, 107, [(5, _), (4, _), (3, _), (0, _), (1, _), (2, _)], [_, _, _])) rfl ?_
                    refine pm_Ev.jge rfl (by omega) rfl (fun h6 => ?_) (fun h6 => ?_)
                    · refine pm_Ev.go 2 (f' := (158, 127, [(5, _), (4, _), (3, _), (0, _), (1, _), (2, _)], [_, _, _])) rfl ?_
                      refine pm_Ev.jne rfl (by omega) rfl (fun h7 => ?_) (fun h7 => ?_)
                      · refine pm_Ev.go 1 (f' := (158, 146, [(5, _), (4, _), (3, _), (0, _), (1, _), (2, _)], [_, _])) rfl ?_
                        refine pm_Ev.zle rfl (by omega) rfl (fun h8 => ?_) (fun h8 => ?_)
                        · exact absurd h8 (by omega)
                        · refine pm_Ev.go 2 (f' := (158, 154, [(5, _), (4, _), (3, _), (0, _), (1, _), (2, _)], [_, _])) rfl ?_
                          refine pm_Ev.iadd rfl ?_
                          refine pm_Ev.go 1 (f' := (158, 156, [(3, _), (5, _), (4, _), (0, _), (1, _), (2, _)], [])) rfl ?_
                          refine pm_Ev.inc rfl rfl (Nat.le_of_ble_eq_true rfl) ?_
                          refine pm_Ev.go 1 (f' := (158, 50, [(4, _), (3, _), (5, _), (0, _), (1, _), (2, _)], [])) rfl ?_
                          exact pm_Ev.weak ih1 rfl
                      · exact absurd h7 (by omega)
                    · exact absurd h6 (by omega)
                  · exact absurd h5 (by omega)
                · exact absurd h4 (by omega)
        · rw [hx, if_neg d] at qx
          rw [qx] at ih1
          refine pm_Ev.go 2 (f' := (158, 53, [(4, _), (3, _), (0, _), (1, _), (2, _)], [_, _])) rfl ?_
          refine pm_Ev.gf rfl rfl H.m199 H.o199 rfl ?_
          refine pm_Ev.jge rfl (by omega) rfl (fun h1 => ?_) (fun h1 => ?_)
          · exact absurd h1 (by omega)
          · refine pm_Ev.go 3 (f' := (158, 63, [(4, _), (3, _), (0, _), (1, _), (2, _)], [_, _, _])) rfl ?_
            refine pm_Ev.cv rfl rfl rfl rfl (by decide) (Nat.le_of_ble_eq_true rfl) (Nat.le_of_ble_eq_true rfl) H.m199 H.o199 (ev_g L xs H hl (by omega)) ?_
            refine pm_Ev.zeq rfl (by omega) rfl (fun h2 => ?_) (fun h2 => ?_)
            · exact absurd h2 (by omega)
            · refine pm_Ev.go 2 (f' := (158, 71, [(4, _), (3, _), (0, _), (1, _), (2, _)], [_, _])) rfl ?_
              refine pm_Ev.jeq rfl (by omega) rfl (fun h3 => ?_) (fun h3 => ?_)
              · exact absurd h3 (by omega)
              · refine pm_Ev.go 3 (f' := (158, 78, [(4, _), (3, _), (0, _), (1, _), (2, _)], [_, _, _])) rfl ?_
                refine pm_Ev.cv rfl rfl rfl rfl (by decide) (Nat.le_of_ble_eq_true rfl) (Nat.le_of_ble_eq_true rfl) H.m199 H.o199 (ix) ?_
                refine pm_Ev.zne rfl (by omega) rfl (fun h4 => ?_) (fun h4 => ?_)
                · refine pm_Ev.go 3 (f' := (158, 91, [(4, _), (3, _), (0, _), (1, _), (2, _)], [_, _, _])) rfl ?_
                  refine pm_Ev.cv rfl rfl rfl rfl (by decide) (Nat.le_of_ble_eq_true rfl) (Nat.le_of_ble_eq_true rfl) H.m199 H.o199 (ev_g L xs H hl (by omega)) ?_
                  refine pm_Ev.go 3 (f' := (158, 98, [(5, _), (4, _), (3, _), (0, _), (1, _), (2, _)], [_, _])) rfl ?_
                  refine pm_Ev.zne rfl (by omega) rfl (fun h5 => ?_) (fun h5 => ?_)
                  · refine pm_Ev.go 2 (f' := (158, 107, [(5, _), (4, _), (3, _), (0, _), (1, _), (2, _)], [_, _, _])) rfl ?_
                    refine pm_Ev.jge rfl (by omega) rfl (fun h6 => ?_) (fun h6 => ?_)
                    · refine pm_Ev.go 2 (f' := (158, 127, [(5, _), (4, _), (3, _), (0, _), (1, _), (2, _)], [_, _, _])) rfl ?_
                      refine pm_Ev.jne rfl (by omega) rfl (fun h7 => ?_) (fun h7 => ?_)
                      · refine pm_Ev.go 1 (f' := (158, 146, [(5, _), (4, _), (3, _), (0, _), (1, _), (2, _)], [_, _])) rfl ?_
                        refine pm_Ev.zle rfl (by omega) rfl (fun h8 => ?_) (fun h8 => ?_)
                        · refine pm_Ev.go 1 (f' := (158, 154, [(5, _), (4, _), (3, _), (0, _), (1, _), (2, _)], [_, _])) rfl ?_
                          refine pm_Ev.iadd rfl ?_
                          refine pm_Ev.go 1 (f' := (158, 156, [(3, _), (5, _), (4, _), (0, _), (1, _), (2, _)], [])) rfl ?_
                          refine pm_Ev.inc rfl rfl (Nat.le_of_ble_eq_true rfl) ?_
                          refine pm_Ev.go 1 (f' := (158, 50, [(4, _), (3, _), (5, _), (0, _), (1, _), (2, _)], [])) rfl ?_
                          exact pm_Ev.weak ih1 rfl
                        · exact absurd h8 (by omega)
                      · exact absurd h7 (by omega)
                    · exact absurd h6 (by omega)
                  · exact absurd h5 (by omega)
                · exact absurd h4 (by omega)
      · rw [if_neg c] at ix qx
        rw [qx, Int.add_zero] at ih1
        refine pm_Ev.go 2 (f' := (158, 53, [(4, _), (3, _), (0, _), (1, _), (2, _)], [_, _])) rfl ?_
        refine pm_Ev.gf rfl rfl H.m199 H.o199 rfl ?_
        refine pm_Ev.jge rfl (by omega) rfl (fun h1 => ?_) (fun h1 => ?_)
        · exact absurd h1 (by omega)
        · refine pm_Ev.go 3 (f' := (158, 63, [(4, _), (3, _), (0, _), (1, _), (2, _)], [_, _, _])) rfl ?_
          refine pm_Ev.cv rfl rfl rfl rfl (by decide) (Nat.le_of_ble_eq_true rfl) (Nat.le_of_ble_eq_true rfl) H.m199 H.o199 (ev_g L xs H hl (by omega)) ?_
          refine pm_Ev.zeq rfl (by omega) rfl (fun h2 => ?_) (fun h2 => ?_)
          · exact absurd h2 (by omega)
          · refine pm_Ev.go 2 (f' := (158, 71, [(4, _), (3, _), (0, _), (1, _), (2, _)], [_, _])) rfl ?_
            refine pm_Ev.jeq rfl (by omega) rfl (fun h3 => ?_) (fun h3 => ?_)
            · exact absurd h3 (by omega)
            · refine pm_Ev.go 3 (f' := (158, 78, [(4, _), (3, _), (0, _), (1, _), (2, _)], [_, _, _])) rfl ?_
              refine pm_Ev.cv rfl rfl rfl rfl (by decide) (Nat.le_of_ble_eq_true rfl) (Nat.le_of_ble_eq_true rfl) H.m199 H.o199 (ix) ?_
              refine pm_Ev.zne rfl (by omega) rfl (fun h4 => ?_) (fun h4 => ?_)
              · exact absurd h4 (by omega)
              · refine pm_Ev.go 1 (f' := (158, 156, [(4, _), (3, _), (0, _), (1, _), (2, _)], [])) rfl ?_
                refine pm_Ev.inc rfl rfl (Nat.le_of_ble_eq_true rfl) ?_
                refine pm_Ev.go 1 (f' := (158, 50, [(4, _), (3, _), (0, _), (1, _), (2, _)], [])) rfl ?_
                exact pm_Ev.weak ih1 rfl
    · rw [q0 e e0 (by omega) (by omega), Int.add_zero] at ih1
      refine pm_Ev.go 2 (f' := (158, 53, [(4, _), (3, _), (0, _), (1, _), (2, _)], [_, _])) rfl ?_
      refine pm_Ev.gf rfl rfl H.m199 H.o199 rfl ?_
      refine pm_Ev.jge rfl (by omega) rfl (fun h1 => ?_) (fun h1 => ?_)
      · exact absurd h1 (by omega)
      · refine pm_Ev.go 3 (f' := (158, 63, [(4, _), (3, _), (0, _), (1, _), (2, _)], [_, _, _])) rfl ?_
        refine pm_Ev.cv rfl rfl rfl rfl (by decide) (Nat.le_of_ble_eq_true rfl) (Nat.le_of_ble_eq_true rfl) H.m199 H.o199 (ev_g L xs H hl (by omega)) ?_
        refine pm_Ev.zeq rfl (by omega) rfl (fun h2 => ?_) (fun h2 => ?_)
        · refine pm_Ev.inc rfl rfl (Nat.le_of_ble_eq_true rfl) ?_
          refine pm_Ev.go 1 (f' := (158, 50, [(4, _), (3, _), (0, _), (1, _), (2, _)], [])) rfl ?_
          exact pm_Ev.weak ih1 rfl
        · exact absurd h2 (by omega)
theorem ev_msum1 (H : Hp σ ad z ar lr) (h : mo_H z ar) {n : Int} {I D : Int → Int} (M : mo_R (mo_g ar) (z 23) n I D) {p v : Int} (hp : -2147483648 ≤ p ∧ p ≤ 2147483647) (n1 : p ≠ -1) (n2 : ∀ x, 0 ≤ x → x < n → I x ≠ p) : pm_Fv (tq_P L xs) (pm_enter 158 [.ref 199, .int (zI p), .int (zI v)]) σ (fun o s => o = .inl (some (.int (zI 0))) ∧ Hp s ad (hq_u z 29 1) ar lr ∧ s.2 = σ.2) := by
  show pm_Fv (tq_P L xs) (158, 0, [(0, .ref 199), (1, .int (zI p)), (2, .int (zI v))], []) σ _
  have H0 : Hp σ ad (hq_u z 29 (z 29)) ar lr := by rw [hq_u_self]; exact H
  have hm : 0 ≤ z 23 ∧ z 23 ≤ 400 := ⟨M.m0, M.m4⟩
  refine pm_Fv.go 3 (f' := (158, 3, [(0, _), (1, _), (2, _)], [_, _, _])) rfl ?_
  refine pm_Fv.cv rfl rfl rfl rfl (by decide) (Nat.le_of_ble_eq_true rfl) (Nat.le_of_ble_eq_true rfl) H0.m199 H0.o199 (ev_noP L xs H0 h.l0 M hp n1 n2) ?_
  refine pm_Fv.zne rfl (by omega) rfl (fun h1 => ?_) (fun h1 => ?_)
  · exact absurd h1 (by omega)
  · refine pm_Fv.go 3 (f' := (158, 15, [(0, _), (1, _), (2, _)], [_, _, _])) rfl ?_
    refine pm_Fv.cvF rfl rfl rfl rfl (by decide) (Nat.le_of_ble_eq_true rfl) (Nat.le_of_ble_eq_true rfl) H0.m199 H0.o199 (ev_fo L xs H0) (fun s1 q1 => ?_)
    obtain ⟨H1, r1⟩ := q1
    refine pm_Fv.zne rfl (by omega) rfl (fun h2 => ?_) (fun h2 => ?_)
    · refine pm_Fv.go 1 (f' := (158, 44, [(0, _), (1, _), (2, _)], [_])) rfl ?_
      exact pm_Fv.rv rfl rfl ⟨rfl, H1, r1⟩
    · exact absurd h2 (by omega)
theorem ev_msum2 (H : Hp σ ad z ar lr) (h : mo_H z ar) {n : Int} {I D : Int → Int} (M : mo_R (mo_g ar) (z 23) n I D) {r : Int} (u0 : -1 ≤ r) (u1 : r < n ∨ r = -1) {v : Int} (hv : -2147483648 ≤ v ∧ v ≤ 2147483647) (c : ¬ (0 ≤ v ∧ v ≤ 4)) : pm_Fv (tq_P L xs) (pm_enter 158 [.ref 199, .int (zI (fo_id I r)), .int (zI v)]) σ (fun o s => o = .inl (some (.int (zI 0))) ∧ Hp s ad (hq_u z 29 2) ar lr ∧ s.2 = σ.2) := by
  show pm_Fv (tq_P L xs) (158, 0, [(0, .ref 199), (1, .int (zI (fo_id I r))), (2, .int (zI v))], []) σ _
  have H0 : Hp σ ad (hq_u z 29 (z 29)) ar lr := by rw [hq_u_self]; exact H
  have hm : 0 ≤ z 23 ∧ z 23 ≤ 400 := ⟨M.m0, M.m4⟩
  refine pm_Fv.go 3 (f' := (158, 3, [(0, _), (1, _), (2, _)], [_, _, _])) rfl ?_
  refine pm_Fv.cv rfl rfl rfl rfl (by decide) (Nat.le_of_ble_eq_true rfl) (Nat.le_of_ble_eq_true rfl) H0.m199 H0.o199 (ev_isP L xs H0 h.l0 M u0 u1) ?_
  refine pm_Fv.zne rfl (by omega) rfl (fun h1 => ?_) (fun h1 => ?_)
  · refine pm_Fv.go 2 (f' := (158, 15, [(0, _), (1, _), (2, _)], [_, _, _])) rfl ?_
    refine pm_Fv.cvF rfl rfl rfl rfl (by decide) (Nat.le_of_ble_eq_true rfl) (Nat.le_of_ble_eq_true rfl) H0.m199 H0.o199 (ev_fz L xs H0) (fun s1 q1 => ?_)
    obtain ⟨H1, r1⟩ := q1
    refine pm_Fv.zne rfl (by omega) rfl (fun h2 => ?_) (fun h2 => ?_)
    · exact absurd h2 (by omega)
    · refine pm_Fv.go 4 (f' := (158, 25, [(0, _), (1, _), (2, _)], [_, _, _, _])) rfl ?_
      refine pm_Fv.call rfl rfl rfl rfl rfl (ev_w0 L xs (by omega) c) ?_
      refine pm_Fv.zne rfl (by omega) rfl (fun h3 => ?_) (fun h3 => ?_)
      · exact absurd h3 (by omega)
      · refine pm_Fv.go 3 (f' := (158, 37, [(0, _), (1, _), (2, _)], [_, _, _])) rfl ?_
        refine pm_Fv.cvF rfl rfl rfl rfl (by decide) (Nat.le_of_ble_eq_true rfl) (Nat.le_of_ble_eq_true rfl) H1.m199 H1.o199 (ev_fo L xs H1) (fun s2 q2 => ?_)
        obtain ⟨H2, r2⟩ := q2
        refine pm_Fv.zeq rfl (by omega) rfl (fun h4 => ?_) (fun h4 => ?_)
        · exact absurd h4 (by omega)
        · refine pm_Fv.go 1 (f' := (158, 44, [(0, _), (1, _), (2, _)], [_])) rfl ?_
          exact pm_Fv.rv rfl rfl ⟨rfl, H2, (r2.trans r1)⟩
  · exact absurd h1 (by omega)
theorem ev_msum00r (H : Hp σ ad z ar lr) (h : mo_H z ar) {n : Int} {I D : Int → Int} (M : mo_R (mo_g ar) (z 23) n I D)  : pm_Fv (tq_P L xs) (pm_enter 158 [.ref 199, .int (zI (-1)), .int (zI 0)]) σ (fun o s => o = .inl (some (.int (zI (fs (fun p => mo_hv (mo_g ar) 0 (I p)) 0 n)))) ∧ Hp s ad (hq_u z 29 0) ar lr ∧ s.2 = σ.2) := by
  show pm_Fv (tq_P L xs) (158, 0, [(0, .ref 199), (1, .int (zI (-1))), (2, .int (zI 0))], []) σ _
  have H0 : Hp σ ad (hq_u z 29 (z 29)) ar lr := by rw [hq_u_self]; exact H
  have hm : 0 ≤ z 23 ∧ z 23 ≤ 400 := ⟨M.m0, M.m4⟩
  have n0 := M.W.2.1
  obtain ⟨q, q1, q0, qs⟩ := M.q (mo_hv (mo_g ar) 0) 0 n (by omega) n0 (by omega)
  rw [← qs]
  refine pm_Fv.go 3 (f' := (158, 3, [(0, _), (1, _), (2, _)], [_, _, _])) rfl ?_
  refine pm_Fv.cv rfl rfl rfl rfl (by decide) (Nat.le_of_ble_eq_true rfl) (Nat.le_of_ble_eq_true rfl) H0.m199 H0.o199 (ev_isP L xs H0 h.l0 M (r := -1) (by omega) (Or.inr rfl)) ?_
  refine pm_Fv.zne rfl (by omega) rfl (fun h1 => ?_) (fun h1 => ?_)
  · refine pm_Fv.go 2 (f' := (158, 15, [(0, _), (1, _), (2, _)], [_, _, _])) rfl ?_
    refine pm_Fv.cvF rfl rfl rfl rfl (by decide) (Nat.le_of_ble_eq_true rfl) (Nat.le_of_ble_eq_true rfl) H0.m199 H0.o199 (ev_fz L xs H0) (fun s1 q1 => ?_)
    obtain ⟨H1, r1⟩ := q1
    refine pm_Fv.zne rfl (by omega) rfl (fun h2 => ?_) (fun h2 => ?_)
    · exact absurd h2 (by omega)
    · refine pm_Fv.go 4 (f' := (158, 25, [(0, _), (1, _), (2, _)], [_, _, _, _])) rfl ?_
      refine pm_Fv.call rfl rfl rfl rfl rfl (ev_w1 L xs (by omega) (by omega)) ?_
      refine pm_Fv.zne rfl (by omega) rfl (fun h3 => ?_) (fun h3 => ?_)
      · refine pm_Fv.go 2 (f' := (158, 37, [(0, _), (1, _), (2, _)], [_, _, _])) rfl ?_
        refine pm_Fv.cvF rfl rfl rfl rfl (by decide) (Nat.le_of_ble_eq_true rfl) (Nat.le_of_ble_eq_true rfl) H1.m199 H1.o199 (ev_fz L xs H1) (fun s2 q2 => ?_)
        obtain ⟨H2, r2⟩ := q2
        refine pm_Fv.zeq rfl (by omega) rfl (fun h4 => ?_) (fun h4 => ?_)
        · refine pm_Fv.go 4 (f' := (158, 50, [(4, _), (3, _), (0, _), (1, _), (2, _)], [])) rfl ?_
          have y := ev_msumL0r L xs H2 h.l0 M q1 q0 (z 23).toNat 0 (by omega) (show (0 : Int) + _ = z 23 by omega)
          rw [fs_0 (Int.le_refl 0)] at y
          exact pm_Fv.of y ⟨rfl, H2, (r2.trans r1)⟩
        · exact absurd h4 (by omega)
      · exact absurd h3 (by omega)
  · exact absurd h1 (by omega)
theorem ev_msum00b (H : Hp σ ad z ar lr) (h : mo_H z ar) {n : Int} {I D : Int → Int} (M : mo_R (mo_g ar) (z 23) n I D) {b : Int} (b0 : 0 ≤ b) (b1 : b < n) : pm_Fv (tq_P L xs) (pm_enter 158 [.ref 199, .int (zI (fo_id I b)), .int (zI 0)]) σ (fun o s => o = .inl (some (.int (zI (fs (fun p => mo_hv (mo_g ar) 0 (I p)) b (fo_end D n b))))) ∧ Hp s ad (hq_u z 29 0) ar lr ∧ s.2 = σ.2) := by
  show pm_Fv (tq_P L xs) (158, 0, [(0, .ref 199), (1, .int (zI (fo_id I b))), (2, .int (zI 0))], []) σ _
  have H0 : Hp σ ad (hq_u z 29 (z 29)) ar lr := by rw [hq_u_self]; exact H
  have hm : 0 ≤ z 23 ∧ z 23 ≤ 400 := ⟨M.m0, M.m4⟩
  have B := fo_end_B (D := D) b1
  obtain ⟨q, q1, q0, qs⟩ := M.q (mo_hv (mo_g ar) 0) b (fo_end D n b) b0 (by have := B.1; omega) B.2.1
  rw [← qs]
  refine pm_Fv.go 3 (f' := (158, 3, [(0, _), (1, _), (2, _)], [_, _, _])) rfl ?_
  refine pm_Fv.cv rfl rfl rfl rfl (by decide) (Nat.le_of_ble_eq_true rfl) (Nat.le_of_ble_eq_true rfl) H0.m199 H0.o199 (ev_isP L xs H0 h.l0 M (r := b) (by omega) (Or.inl b1)) ?_
  refine pm_Fv.zne rfl (by omega) rfl (fun h1 => ?_) (fun h1 => ?_)
  · refine pm_Fv.go 2 (f' := (158, 15, [(0, _), (1, _), (2, _)], [_, _, _])) rfl ?_
    refine pm_Fv.cvF rfl rfl rfl rfl (by decide) (Nat.le_of_ble_eq_true rfl) (Nat.le_of_ble_eq_true rfl) H0.m199 H0.o199 (ev_fz L xs H0) (fun s1 q1 => ?_)
    obtain ⟨H1, r1⟩ := q1
    refine pm_Fv.zne rfl (by omega) rfl (fun h2 => ?_) (fun h2 => ?_)
    · exact absurd h2 (by omega)
    · refine pm_Fv.go 4 (f' := (158, 25, [(0, _), (1, _), (2, _)], [_, _, _, _])) rfl ?_
      refine pm_Fv.call rfl rfl rfl rfl rfl (ev_w1 L xs (by omega) (by omega)) ?_
      refine pm_Fv.zne rfl (by omega) rfl (fun h3 => ?_) (fun h3 => ?_)
      · refine pm_Fv.go 2 (f' := (158, 37, [(0, _), (1, _), (2, _)], [_, _, _])) rfl ?_
        refine pm_Fv.cvF rfl rfl rfl rfl (by decide) (Nat.le_of_ble_eq_true rfl) (Nat.le_of_ble_eq_true rfl) H1.m199 H1.o199 (ev_fz L xs H1) (fun s2 q2 => ?_)
        obtain ⟨H2, r2⟩ := q2
        refine pm_Fv.zeq rfl (by omega) rfl (fun h4 => ?_) (fun h4 => ?_)
        · refine pm_Fv.go 4 (f' := (158, 50, [(4, _), (3, _), (0, _), (1, _), (2, _)], [])) rfl ?_
          have y := ev_msumL0b L xs H2 h.l0 M b0 b1 q1 q0 (z 23).toNat 0 (by omega) (show (0 : Int) + _ = z 23 by omega)
          rw [fs_0 (Int.le_refl 0)] at y
          exact pm_Fv.of y ⟨rfl, H2, (r2.trans r1)⟩
        · exact absurd h4 (by omega)
      · exact absurd h3 (by omega)
  · exact absurd h1 (by omega)
theorem ev_msum01r (H : Hp σ ad z ar lr) (h : mo_H z ar) {n : Int} {I D : Int → Int} (M : mo_R (mo_g ar) (z 23) n I D)  : pm_Fv (tq_P L xs) (pm_enter 158 [.ref 199, .int (zI (-1)), .int (zI 1)]) σ (fun o s => o = .inl (some (.int (zI (fs (fun p => mo_hv (mo_g ar) 1 (I p)) 0 n)))) ∧ Hp s ad (hq_u z 29 0) ar lr ∧ s.2 = σ.2) := by
  show pm_Fv (tq_P L xs) (158, 0, [(0, .ref 199), (1, .int (zI (-1))), (2, .int (zI 1))], []) σ _
  have H0 : Hp σ ad (hq_u z 29 (z 29)) ar lr := by rw [hq_u_self]; exact H
  have hm : 0 ≤ z 23 ∧ z 23 ≤ 400 := ⟨M.m0, M.m4⟩
  have n0 := M.W.2.1
  obtain ⟨q, q1, q0, qs⟩ := M.q (mo_hv (mo_g ar) 1) 0 n (by omega) n0 (by omega)
  rw [← qs]
  refine pm_Fv.go 3 (f' := (158, 3, [(0, _), (1, _), (2, _)], [_, _, _])) rfl ?_
  refine pm_Fv.cv rfl rfl rfl rfl (by decide) (Nat.le_of_ble_eq_true rfl) (Nat.le_of_ble_eq_true rfl) H0.m199 H0.o199 (ev_isP L xs H0 h.l0 M (r := -1) (by omega) (Or.inr rfl)) ?_
  refine pm_Fv.zne rfl (by omega) rfl (fun h1 => ?_) (fun h1 => ?_)
  · refine pm_Fv.go 2 (f' := (158, 15, [(0, _), (1, _), (2, _)], [_, _, _])) rfl ?_
    refine pm_Fv.cvF rfl rfl rfl rfl (by decide) (Nat.le_of_ble_eq_true rfl) (Nat.le_of_ble_eq_true rfl) H0.m199 H0.o199 (ev_fz L xs H0) (fun s1 q1 => ?_)
    obtain ⟨H1, r1⟩ := q1
    refine pm_Fv.zne rfl (by omega) rfl (fun h2 => ?_) (fun h2 => ?_)
    · exact absurd h2 (by omega)
    · refine pm_Fv.go 4 (f' := (158, 25, [(0, _), (1, _), (2, _)], [_, _, _, _])) rfl ?_
      refine pm_Fv.call rfl rfl rfl rfl rfl (ev_w1 L xs (by omega) (by omega)) ?_
      refine pm_Fv.zne rfl (by omega) rfl (fun h3 => ?_) (fun h3 => ?_)
      · refine pm_Fv.go 2 (f' := (158, 37, [(0, _), (1, _), (2, _)], [_, _, _])) rfl ?_
        refine pm_Fv.cvF rfl rfl rfl rfl (by decide) (Nat.le_of_ble_eq_true rfl) (Nat.le_of_ble_eq_true rfl) H1.m199 H1.o199 (ev_fz L xs H1) (fun s2 q2 => ?_)
        obtain ⟨H2, r2⟩ := q2
        refine pm_Fv.zeq rfl (by omega) rfl (fun h4 => ?_) (fun h4 => ?_)
        · refine pm_Fv.go 4 (f' := (158, 50, [(4, _), (3, _), (0, _), (1, _), (2, _)], [])) rfl ?_
          have y := ev_msumL1r L xs H2 h.l0 M q1 q0 (z 23).toNat 0 (by omega) (show (0 : Int) + _ = z 23 by omega)
          rw [fs_0 (Int.le_refl 0)] at y
          exact pm_Fv.of y ⟨rfl, H2, (r2.trans r1)⟩
        · exact absurd h4 (by omega)
      · exact absurd h3 (by omega)
  · exact absurd h1 (by omega)
theorem ev_msum01b (H : Hp σ ad z ar lr) (h : mo_H z ar) {n : Int} {I D : Int → Int} (M : mo_R (mo_g ar) (z 23) n I D) {b : Int} (b0 : 0 ≤ b) (b1 : b < n) : pm_Fv (tq_P L xs) (pm_enter 158 [.ref 199, .int (zI (fo_id I b)), .int (zI 1)]) σ (fun o s => o = .inl (some (.int (zI (fs (fun p => mo_hv (mo_g ar) 1 (I p)) b (fo_end D n b))))) ∧ Hp s ad (hq_u z 29 0) ar lr ∧ s.2 = σ.2) := by
  show pm_Fv (tq_P L xs) (158, 0, [(0, .ref 199), (1, .int (zI (fo_id I b))), (2, .int (zI 1))], []) σ _
  have H0 : Hp σ ad (hq_u z 29 (z 29)) ar lr := by rw [hq_u_self]; exact H
  have hm : 0 ≤ z 23 ∧ z 23 ≤ 400 := ⟨M.m0, M.m4⟩
  have B := fo_end_B (D := D) b1
  obtain ⟨q, q1, q0, qs⟩ := M.q (mo_hv (mo_g ar) 1) b (fo_end D n b) b0 (by have := B.1; omega) B.2.1
  rw [← qs]
  refine pm_Fv.go 3 (f' := (158, 3, [(0, _), (1, _), (2, _)], [_, _, _])) rfl ?_
  refine pm_Fv.cv rfl rfl rfl rfl (by decide) (Nat.le_of_ble_eq_true rfl) (Nat.le_of_ble_eq_true rfl) H0.m199 H0.o199 (ev_isP L xs H0 h.l0 M (r := b) (by omega) (Or.inl b1)) ?_
  refine pm_Fv.zne rfl (by omega) rfl (fun h1 => ?_) (fun h1 => ?_)
  · refine pm_Fv.go 2 (f' := (158, 15, [(0, _), (1, _), (2, _)], [_, _, _])) rfl ?_
    refine pm_Fv.cvF rfl rfl rfl rfl (by decide) (Nat.le_of_ble_eq_true rfl) (Nat.le_of_ble_eq_true rfl) H0.m199 H0.o199 (ev_fz L xs H0) (fun s1 q1 => ?_)
    obtain ⟨H1, r1⟩ := q1
    refine pm_Fv.zne rfl (by omega) rfl (fun h2 => ?_) (fun h2 => ?_)
    · exact absurd h2 (by omega)
    · refine pm_Fv.go 4 (f' := (158, 25, [(0, _), (1, _), (2, _)], [_, _, _, _])) rfl ?_
      refine pm_Fv.call rfl rfl rfl rfl rfl (ev_w1 L xs (by omega) (by omega)) ?_
      refine pm_Fv.zne rfl (by omega) rfl (fun h3 => ?_) (fun h3 => ?_)
      · refine pm_Fv.go 2 (f' := (158, 37, [(0, _), (1, _), (2, _)], [_, _, _])) rfl ?_
        refine pm_Fv.cvF rfl rfl rfl rfl (by decide) (Nat.le_of_ble_eq_true rfl) (Nat.le_of_ble_eq_true rfl) H1.m199 H1.o199 (ev_fz L xs H1) (fun s2 q2 => ?_)
        obtain ⟨H2, r2⟩ := q2
        refine pm_Fv.zeq rfl (by omega) rfl (fun h4 => ?_) (fun h4 => ?_)
        · refine pm_Fv.go 4 (f' := (158, 50, [(4, _), (3, _), (0, _), (1, _), (2, _)], [])) rfl ?_
          have y := ev_msumL1b L xs H2 h.l0 M b0 b1 q1 q0 (z 23).toNat 0 (by omega) (show (0 : Int) + _ = z 23 by omega)
          rw [fs_0 (Int.le_refl 0)] at y
          exact pm_Fv.of y ⟨rfl, H2, (r2.trans r1)⟩
        · exact absurd h4 (by omega)
      · exact absurd h3 (by omega)
  · exact absurd h1 (by omega)
theorem ev_msum02r (H : Hp σ ad z ar lr) (h : mo_H z ar) {n : Int} {I D : Int → Int} (M : mo_R (mo_g ar) (z 23) n I D)  : pm_Fv (tq_P L xs) (pm_enter 158 [.ref 199, .int (zI (-1)), .int (zI 2)]) σ (fun o s => o = .inl (some (.int (zI (fs (fun p => mo_hv (mo_g ar) 2 (I p)) 0 n)))) ∧ Hp s ad (hq_u z 29 0) ar lr ∧ s.2 = σ.2) := by
  show pm_Fv (tq_P L xs) (158, 0, [(0, .ref 199), (1, .int (zI (-1))), (2, .int (zI 2))], []) σ _
  have H0 : Hp σ ad (hq_u z 29 (z 29)) ar lr := by rw [hq_u_self]; exact H
  have hm : 0 ≤ z 23 ∧ z 23 ≤ 400 := ⟨M.m0, M.m4⟩
  have n0 := M.W.2.1
  obtain ⟨q, q1, q0, qs⟩ := M.q (mo_hv (mo_g ar) 2) 0 n (by omega) n0 (by omega)
  rw [← qs]
  refine pm_Fv.go 3 (f' := (158, 3, [(0, _), (1, _), (2, _)], [_, _, _])) rfl ?_
  refine pm_Fv.cv rfl rfl rfl rfl (by decide) (Nat.le_of_ble_eq_true rfl) (Nat.le_of_ble_eq_true rfl) H0.m199 H0.o199 (ev_isP L xs H0 h.l0 M (r := -1) (by omega) (Or.inr rfl)) ?_
  refine pm_Fv.zne rfl (by omega) rfl (fun h1 => ?_) (fun h1 => ?_)
  · refine pm_Fv.go 2 (f' := (158, 15, [(0, _), (1, _), (2, _)], [_, _, _])) rfl ?_
    refine pm_Fv.cvF rfl rfl rfl rfl (by decide) (Nat.le_of_ble_eq_true rfl) (Nat.le_of_ble_eq_true rfl) H0.m199 H0.o199 (ev_fz L xs H0) (fun s1 q1 => ?_)
    obtain ⟨H1, r1⟩ := q1
    refine pm_Fv.zne rfl (by omega) rfl (fun h2 => ?_) (fun h2 => ?_)
    · exact absurd h2 (by omega)
    · refine pm_Fv.go 4 (f' := (158, 25, [(0, _), (1, _), (2, _)], [_, _, _, _])) rfl ?_
      refine pm_Fv.call rfl rfl rfl rfl rfl (ev_w1 L xs (by omega) (by omega)) ?_
      refine pm_Fv.zne rfl (by omega) rfl (fun h3 => ?_) (fun h3 => ?_)
      · refine pm_Fv.go 2 (f' := (158, 37, [(0, _), (1, _), (2, _)], [_, _, _])) rfl ?_
        refine pm_Fv.cvF rfl rfl rfl rfl (by decide) (Nat.le_of_ble_eq_true rfl) (Nat.le_of_ble_eq_true rfl) H1.m199 H1.o199 (ev_fz L xs H1) (fun s2 q2 => ?_)
        obtain ⟨H2, r2⟩ := q2
        refine pm_Fv.zeq rfl (by omega) rfl (fun h4 => ?_) (fun h4 => ?_)
        · refine pm_Fv.go 4 (f' := (158, 50, [(4, _), (3, _), (0, _), (1, _), (2, _)], [])) rfl ?_
          have y := ev_msumL2r L xs H2 h.l0 M q1 q0 (z 23).toNat 0 (by omega) (show (0 : Int) + _ = z 23 by omega)
          rw [fs_0 (Int.le_refl 0)] at y
          exact pm_Fv.of y ⟨rfl, H2, (r2.trans r1)⟩
        · exact absurd h4 (by omega)
      · exact absurd h3 (by omega)
  · exact absurd h1 (by omega)
theorem ev_msum02b (H : Hp σ ad z ar lr) (h : mo_H z ar) {n : Int} {I D : Int → Int} (M : mo_R (mo_g ar) (z 23) n I D) {b : Int} (b0 : 0 ≤ b) (b1 : b < n) : pm_Fv (tq_P L xs) (pm_enter 158 [.ref 199, .int (zI (fo_id I b)), .int (zI 2)]) σ (fun o s => o = .inl (some (.int (zI (fs (fun p => mo_hv (mo_g ar) 2 (I p)) b (fo_end D n b))))) ∧ Hp s ad (hq_u z 29 0) ar lr ∧ s.2 = σ.2) := by
  show pm_Fv (tq_P L xs) (158, 0, [(0, .ref 199), (1, .int (zI (fo_id I b))), (2, .int (zI 2))], []) σ _
  have H0 : Hp σ ad (hq_u z 29 (z 29)) ar lr := by rw [hq_u_self]; exact H
  have hm : 0 ≤ z 23 ∧ z 23 ≤ 400 := ⟨M.m0, M.m4⟩
  have B := fo_end_B (D := D) b1
  obtain ⟨q, q1, q0, qs⟩ := M.q (mo_hv (mo_g ar) 2) b (fo_end D n b) b0 (by have := B.1; omega) B.2.1
  rw [← qs]
  refine pm_Fv.go 3 (f' := (158, 3, [(0, _), (1, _), (2, _)], [_, _, _])) rfl ?_
  refine pm_Fv.cv rfl rfl rfl rfl (by decide) (Nat.le_of_ble_eq_true rfl) (Nat.le_of_ble_eq_true rfl) H0.m199 H0.o199 (ev_isP L xs H0 h.l0 M (r := b) (by omega) (Or.inl b1)) ?_
  refine pm_Fv.zne rfl (by omega) rfl (fun h1 => ?_) (fun h1 => ?_)
  · refine pm_Fv.go 2 (f' := (158, 15, [(0, _), (1, _), (2, _)], [_, _, _])) rfl ?_
    refine pm_Fv.cvF rfl rfl rfl rfl (by decide) (Nat.le_of_ble_eq_true rfl) (Nat.le_of_ble_eq_true rfl) H0.m199 H0.o199 (ev_fz L xs H0) (fun s1 q1 => ?_)
    obtain ⟨H1, r1⟩ := q1
    refine pm_Fv.zne rfl (by omega) rfl (fun h2 => ?_) (fun h2 => ?_)
    · exact absurd h2 (by omega)
    · refine pm_Fv.go 4 (f' := (158, 25, [(0, _), (1, _), (2, _)], [_, _, _, _])) rfl ?_
      refine pm_Fv.call rfl rfl rfl rfl rfl (ev_w1 L xs (by omega) (by omega)) ?_
      refine pm_Fv.zne rfl (by omega) rfl (fun h3 => ?_) (fun h3 => ?_)
      · refine pm_Fv.go 2 (f' := (158, 37, [(0, _), (1, _), (2, _)], [_, _, _])) rfl ?_
        refine pm_Fv.cvF rfl rfl rfl rfl (by decide) (Nat.le_of_ble_eq_true rfl) (Nat.le_of_ble_eq_true rfl) H1.m199 H1.o199 (ev_fz L xs H1) (fun s2 q2 => ?_)
        obtain ⟨H2, r2⟩ := q2
        refine pm_Fv.zeq rfl (by omega) rfl (fun h4 => ?_) (fun h4 => ?_)
        · refine pm_Fv.go 4 (f' := (158, 50, [(4, _), (3, _), (0, _), (1, _), (2, _)], [])) rfl ?_
          have y := ev_msumL2b L xs H2 h.l0 M b0 b1 q1 q0 (z 23).toNat 0 (by omega) (show (0 : Int) + _ = z 23 by omega)
          rw [fs_0 (Int.le_refl 0)] at y
          exact pm_Fv.of y ⟨rfl, H2, (r2.trans r1)⟩
        · exact absurd h4 (by omega)
      · exact absurd h3 (by omega)
  · exact absurd h1 (by omega)
theorem ev_msum03r (H : Hp σ ad z ar lr) (h : mo_H z ar) {n : Int} {I D : Int → Int} (M : mo_R (mo_g ar) (z 23) n I D)  : pm_Fv (tq_P L xs) (pm_enter 158 [.ref 199, .int (zI (-1)), .int (zI 3)]) σ (fun o s => o = .inl (some (.int (zI (fs (fun p => mo_hv (mo_g ar) 3 (I p)) 0 n)))) ∧ Hp s ad (hq_u z 29 0) ar lr ∧ s.2 = σ.2) := by
  show pm_Fv (tq_P L xs) (158, 0, [(0, .ref 199), (1, .int (zI (-1))), (2, .int (zI 3))], []) σ _
  have H0 : Hp σ ad (hq_u z 29 (z 29)) ar lr := by rw [hq_u_self]; exact H
  have hm : 0 ≤ z 23 ∧ z 23 ≤ 400 := ⟨M.m0, M.m4⟩
  have n0 := M.W.2.1
  obtain ⟨q, q1, q0, qs⟩ := M.q (mo_hv (mo_g ar) 3) 0 n (by omega) n0 (by omega)
  rw [← qs]
  refine pm_Fv.go 3 (f' := (158, 3, [(0, _), (1, _), (2, _)], [_, _, _])) rfl ?_
  refine pm_Fv.cv rfl rfl rfl rfl (by decide) (Nat.le_of_ble_eq_true rfl) (Nat.le_of_ble_eq_true rfl) H0.m199 H0.o199 (ev_isP L xs H0 h.l0 M (r := -1) (by omega) (Or.inr rfl)) ?_
  refine pm_Fv.zne rfl (by omega) rfl (fun h1 => ?_) (fun h1 => ?_)
  · refine pm_Fv.go 2 (f' := (158, 15, [(0, _), (1, _), (2, _)], [_, _, _])) rfl ?_
    refine pm_Fv.cvF rfl rfl rfl rfl (by decide) (Nat.le_of_ble_eq_true rfl) (Nat.le_of_ble_eq_true rfl) H0.m199 H0.o199 (ev_fz L xs H0) (fun s1 q1 => ?_)
    obtain ⟨H1, r1⟩ := q1
    refine pm_Fv.zne rfl (by omega) rfl (fun h2 => ?_) (fun h2 => ?_)
    · exact absurd h2 (by omega)
    · refine pm_Fv.go 4 (f' := (158, 25, [(0, _), (1, _), (2, _)], [_, _, _, _])) rfl ?_
      refine pm_Fv.call rfl rfl rfl rfl rfl (ev_w1 L xs (by omega) (by omega)) ?_
      refine pm_Fv.zne rfl (by omega) rfl (fun h3 => ?_) (fun h3 => ?_)
      · refine pm_Fv.go 2 (f' := (158, 37, [(0, _), (1, _), (2, _)], [_, _, _])) rfl ?_
        refine pm_Fv.cvF rfl rfl rfl rfl (by decide) (Nat.le_of_ble_eq_true rfl) (Nat.le_of_ble_eq_true rfl) H1.m199 H1.o199 (ev_fz L xs H1) (fun s2 q2 => ?_)
        obtain ⟨H2, r2⟩ := q2
        refine pm_Fv.zeq rfl (by omega) rfl (fun h4 => ?_) (fun h4 => ?_)
        · refine pm_Fv.go 4 (f' := (158, 50, [(4, _), (3, _), (0, _), (1, _), (2, _)], [])) rfl ?_
          have y := ev_msumL3r L xs H2 h.l0 M q1 q0 (z 23).toNat 0 (by omega) (show (0 : Int) + _ = z 23 by omega)
          rw [fs_0 (Int.le_refl 0)] at y
          exact pm_Fv.of y ⟨rfl, H2, (r2.trans r1)⟩
        · exact absurd h4 (by omega)
      · exact absurd h3 (by omega)
  · exact absurd h1 (by omega)
theorem ev_msum03b (H : Hp σ ad z ar lr) (h : mo_H z ar) {n : Int} {I D : Int → Int} (M : mo_R (mo_g ar) (z 23) n I D) {b : Int} (b0 : 0 ≤ b) (b1 : b < n) : pm_Fv (tq_P L xs) (pm_enter 158 [.ref 199, .int (zI (fo_id I b)), .int (zI 3)]) σ (fun o s => o = .inl (some (.int (zI (fs (fun p => mo_hv (mo_g ar) 3 (I p)) b (fo_end D n b))))) ∧ Hp s ad (hq_u z 29 0) ar lr ∧ s.2 = σ.2) := by
  show pm_Fv (tq_P L xs) (158, 0, [(0, .ref 199), (1, .int (zI (fo_id I b))), (2, .int (zI 3))], []) σ _
  have H0 : Hp σ ad (hq_u z 29 (z 29)) ar lr := by rw [hq_u_self]; exact H
  have hm : 0 ≤ z 23 ∧ z 23 ≤ 400 := ⟨M.m0, M.m4⟩
  have B := fo_end_B (D := D) b1
  obtain ⟨q, q1, q0, qs⟩ := M.q (mo_hv (mo_g ar) 3) b (fo_end D n b) b0 (by have := B.1; omega) B.2.1
  rw [← qs]
  refine pm_Fv.go 3 (f' := (158, 3, [(0, _), (1, _), (2, _)], [_, _, _])) rfl ?_
  refine pm_Fv.cv rfl rfl rfl rfl (by decide) (Nat.le_of_ble_eq_true rfl) (Nat.le_of_ble_eq_true rfl) H0.m199 H0.o199 (ev_isP L xs H0 h.l0 M (r := b) (by omega) (Or.inl b1)) ?_
  refine pm_Fv.zne rfl (by omega) rfl (fun h1 => ?_) (fun h1 => ?_)
  · refine pm_Fv.go 2 (f' := (158, 15, [(0, _), (1, _), (2, _)], [_, _, _])) rfl ?_
    refine pm_Fv.cvF rfl rfl rfl rfl (by decide) (Nat.le_of_ble_eq_true rfl) (Nat.le_of_ble_eq_true rfl) H0.m199 H0.o199 (ev_fz L xs H0) (fun s1 q1 => ?_)
    obtain ⟨H1, r1⟩ := q1
    refine pm_Fv.zne rfl (by omega) rfl (fun h2 => ?_) (fun h2 => ?_)
    · exact absurd h2 (by omega)
    · refine pm_Fv.go 4 (f' := (158, 25, [(0, _), (1, _), (2, _)], [_, _, _, _])) rfl ?_
      refine pm_Fv.call rfl rfl rfl rfl rfl (ev_w1 L xs (by omega) (by omega)) ?_
      refine pm_Fv.zne rfl (by omega) rfl (fun h3 => ?_) (fun h3 => ?_)
      · refine pm_Fv.go 2 (f' := (158, 37, [(0, _), (1, _), (2, _)], [_, _, _])) rfl ?_
        refine pm_Fv.cvF rfl rfl rfl rfl (by decide) (Nat.le_of_ble_eq_true rfl) (Nat.le_of_ble_eq_true rfl) H1.m199 H1.o199 (ev_fz L xs H1) (fun s2 q2 => ?_)
        obtain ⟨H2, r2⟩ := q2
        refine pm_Fv.zeq rfl (by omega) rfl (fun h4 => ?_) (fun h4 => ?_)
        · refine pm_Fv.go 4 (f' := (158, 50, [(4, _), (3, _), (0, _), (1, _), (2, _)], [])) rfl ?_
          have y := ev_msumL3b L xs H2 h.l0 M b0 b1 q1 q0 (z 23).toNat 0 (by omega) (show (0 : Int) + _ = z 23 by omega)
          rw [fs_0 (Int.le_refl 0)] at y
          exact pm_Fv.of y ⟨rfl, H2, (r2.trans r1)⟩
        · exact absurd h4 (by omega)
      · exact absurd h3 (by omega)
  · exact absurd h1 (by omega)
theorem ev_msum04r (H : Hp σ ad z ar lr) (h : mo_H z ar) {n : Int} {I D : Int → Int} (M : mo_R (mo_g ar) (z 23) n I D)  : pm_Fv (tq_P L xs) (pm_enter 158 [.ref 199, .int (zI (-1)), .int (zI 4)]) σ (fun o s => o = .inl (some (.int (zI (fs (fun p => mo_hv (mo_g ar) 4 (I p)) 0 n)))) ∧ Hp s ad (hq_u z 29 0) ar lr ∧ s.2 = σ.2) := by
  show pm_Fv (tq_P L xs) (158, 0, [(0, .ref 199), (1, .int (zI (-1))), (2, .int (zI 4))], []) σ _
  have H0 : Hp σ ad (hq_u z 29 (z 29)) ar lr := by rw [hq_u_self]; exact H
  have hm : 0 ≤ z 23 ∧ z 23 ≤ 400 := ⟨M.m0, M.m4⟩
  have n0 := M.W.2.1
  obtain ⟨q, q1, q0, qs⟩ := M.q (mo_hv (mo_g ar) 4) 0 n (by omega) n0 (by omega)
  rw [← qs]
  refine pm_Fv.go 3 (f' := (158, 3, [(0, _), (1, _), (2, _)], [_, _, _])) rfl ?_
  refine pm_Fv.cv rfl rfl rfl rfl (by decide) (Nat.le_of_ble_eq_true rfl) (Nat.le_of_ble_eq_true rfl) H0.m199 H0.o199 (ev_isP L xs H0 h.l0 M (r := -1) (by omega) (Or.inr rfl)) ?_
  refine pm_Fv.zne rfl (by omega) rfl (fun h1 => ?_) (fun h1 => ?_)
  · refine pm_Fv.go 2 (f' := (158, 15, [(0, _), (1, _), (2, _)], [_, _, _])) rfl ?_
    refine pm_Fv.cvF rfl rfl rfl rfl (by decide) (Nat.le_of_ble_eq_true rfl) (Nat.le_of_ble_eq_true rfl) H0.m199 H0.o199 (ev_fz L xs H0) (fun s1 q1 => ?_)
    obtain ⟨H1, r1⟩ := q1
    refine pm_Fv.zne rfl (by omega) rfl (fun h2 => ?_) (fun h2 => ?_)
    · exact absurd h2 (by omega)
    · refine pm_Fv.go 4 (f' := (158, 25, [(0, _), (1, _), (2, _)], [_, _, _, _])) rfl ?_
      refine pm_Fv.call rfl rfl rfl rfl rfl (ev_w1 L xs (by omega) (by omega)) ?_
      refine pm_Fv.zne rfl (by omega) rfl (fun h3 => ?_) (fun h3 => ?_)
      · refine pm_Fv.go 2 (f' := (158, 37, [(0, _), (1, _), (2, _)], [_, _, _])) rfl ?_
        refine pm_Fv.cvF rfl rfl rfl rfl (by decide) (Nat.le_of_ble_eq_true rfl) (Nat.le_of_ble_eq_true rfl) H1.m199 H1.o199 (ev_fz L xs H1) (fun s2 q2 => ?_)
        obtain ⟨H2, r2⟩ := q2
        refine pm_Fv.zeq rfl (by omega) rfl (fun h4 => ?_) (fun h4 => ?_)
        · refine pm_Fv.go 4 (f' := (158, 50, [(4, _), (3, _), (0, _), (1, _), (2, _)], [])) rfl ?_
          have y := ev_msumL4r L xs H2 h.l0 M q1 q0 (z 23).toNat 0 (by omega) (show (0 : Int) + _ = z 23 by omega)
          rw [fs_0 (Int.le_refl 0)] at y
          exact pm_Fv.of y ⟨rfl, H2, (r2.trans r1)⟩
        · exact absurd h4 (by omega)
      · exact absurd h3 (by omega)
  · exact absurd h1 (by omega)
theorem ev_msum04b (H : Hp σ ad z ar lr) (h : mo_H z ar) {n : Int} {I D : Int → Int} (M : mo_R (mo_g ar) (z 23) n I D) {b : Int} (b0 : 0 ≤ b) (b1 : b < n) : pm_Fv (tq_P L xs) (pm_enter 158 [.ref 199, .int (zI (fo_id I b)), .int (zI 4)]) σ (fun o s => o = .inl (some (.int (zI (fs (fun p => mo_hv (mo_g ar) 4 (I p)) b (fo_end D n b))))) ∧ Hp s ad (hq_u z 29 0) ar lr ∧ s.2 = σ.2) := by
  show pm_Fv (tq_P L xs) (158, 0, [(0, .ref 199), (1, .int (zI (fo_id I b))), (2, .int (zI 4))], []) σ _
  have H0 : Hp σ ad (hq_u z 29 (z 29)) ar lr := by rw [hq_u_self]; exact H
  have hm : 0 ≤ z 23 ∧ z 23 ≤ 400 := ⟨M.m0, M.m4⟩
  have B := fo_end_B (D := D) b1
  obtain ⟨q, q1, q0, qs⟩ := M.q (mo_hv (mo_g ar) 4) b (fo_end D n b) b0 (by have := B.1; omega) B.2.1
  rw [← qs]
  refine pm_Fv.go 3 (f' := (158, 3, [(0, _), (1, _), (2, _)], [_, _, _])) rfl ?_
  refine pm_Fv.cv rfl rfl rfl rfl (by decide) (Nat.le_of_ble_eq_true rfl) (Nat.le_of_ble_eq_true rfl) H0.m199 H0.o199 (ev_isP L xs H0 h.l0 M (r := b) (by omega) (Or.inl b1)) ?_
  refine pm_Fv.zne rfl (by omega) rfl (fun h1 => ?_) (fun h1 => ?_)
  · refine pm_Fv.go 2 (f' := (158, 15, [(0, _), (1, _), (2, _)], [_, _, _])) rfl ?_
    refine pm_Fv.cvF rfl rfl rfl rfl (by decide) (Nat.le_of_ble_eq_true rfl) (Nat.le_of_ble_eq_true rfl) H0.m199 H0.o199 (ev_fz L xs H0) (fun s1 q1 => ?_)
    obtain ⟨H1, r1⟩ := q1
    refine pm_Fv.zne rfl (by omega) rfl (fun h2 => ?_) (fun h2 => ?_)
    · exact absurd h2 (by omega)
    · refine pm_Fv.go 4 (f' := (158, 25, [(0, _), (1, _), (2, _)], [_, _, _, _])) rfl ?_
      refine pm_Fv.call rfl rfl rfl rfl rfl (ev_w1 L xs (by omega) (by omega)) ?_
      refine pm_Fv.zne rfl (by omega) rfl (fun h3 => ?_) (fun h3 => ?_)
      · refine pm_Fv.go 2 (f' := (158, 37, [(0, _), (1, _), (2, _)], [_, _, _])) rfl ?_
        refine pm_Fv.cvF rfl rfl rfl rfl (by decide) (Nat.le_of_ble_eq_true rfl) (Nat.le_of_ble_eq_true rfl) H1.m199 H1.o199 (ev_fz L xs H1) (fun s2 q2 => ?_)
        obtain ⟨H2, r2⟩ := q2
        refine pm_Fv.zeq rfl (by omega) rfl (fun h4 => ?_) (fun h4 => ?_)
        · refine pm_Fv.go 4 (f' := (158, 50, [(4, _), (3, _), (0, _), (1, _), (2, _)], [])) rfl ?_
          have y := ev_msumL4b L xs H2 h.l0 M b0 b1 q1 q0 (z 23).toNat 0 (by omega) (show (0 : Int) + _ = z 23 by omega)
          rw [fs_0 (Int.le_refl 0)] at y
          exact pm_Fv.of y ⟨rfl, H2, (r2.trans r1)⟩
        · exact absurd h4 (by omega)
      · exact absurd h3 (by omega)
  · exact absurd h1 (by omega)
theorem ev_mabout1 (H : Hp σ ad z ar lr) (h : mo_H z ar) {v : Int} (hv : -2147483648 ≤ v ∧ v ≤ 2147483647) (c : ¬ (0 ≤ v ∧ v ≤ 3)) : pm_Fv (tq_P L xs) (pm_enter 160 [.ref 199, .int (zI v)]) σ (fun o s => o = .inl (some (.int (zI 0))) ∧ Hp s ad (hq_u z 29 1) ar lr ∧ s.2 = σ.2) := by
  show pm_Fv (tq_P L xs) (160, 0, [(0, .ref 199), (1, .int (zI v))], []) σ _
  have H0 : Hp σ ad (hq_u z 29 (z 29)) ar lr := by rw [hq_u_self]; exact H
  refine pm_Fv.go 4 (f' := (160, 4, [(0, _), (1, _)], [_, _, _, _])) rfl ?_
  refine pm_Fv.call rfl rfl rfl rfl rfl (ev_w0 L xs (by omega) c) ?_
  refine pm_Fv.zne rfl (by omega) rfl (fun h1 => ?_) (fun h1 => ?_)
  · exact absurd h1 (by omega)
  · refine pm_Fv.go 3 (f' := (160, 16, [(0, _), (1, _)], [_, _, _])) rfl ?_
    refine pm_Fv.cvF rfl rfl rfl rfl (by decide) (Nat.le_of_ble_eq_true rfl) (Nat.le_of_ble_eq_true rfl) H0.m199 H0.o199 (ev_fo L xs H0) (fun s1 q1 => ?_)
    obtain ⟨H1, r1⟩ := q1
    refine pm_Fv.zeq rfl (by omega) rfl (fun h2 => ?_) (fun h2 => ?_)
    · exact absurd h2 (by omega)
    · refine pm_Fv.go 1 (f' := (160, 23, [(0, _), (1, _)], [_])) rfl ?_
      exact pm_Fv.rv rfl rfl ⟨rfl, H1, r1⟩
theorem ev_mabout00 (H : Hp σ ad z ar lr) (h : mo_H z ar) {n : Int} {I D : Int → Int} (M : mo_R (mo_g ar) (z 23) n I D)  : pm_Fv (tq_P L xs) (pm_enter 160 [.ref 199, .int (zI 0)]) σ (fun o s => o = .inl (some (.int (zI (fs (fun p => mo_hv (mo_g ar) 0 (I p)) 0 n)))) ∧ Hp s ad (hq_u z 29 0) ar lr ∧ s.2 = σ.2) := by
  show pm_Fv (tq_P L xs) (160, 0, [(0, .ref 199), (1, .int (zI 0))], []) σ _
  have H0 : Hp σ ad (hq_u z 29 (z 29)) ar lr := by rw [hq_u_self]; exact H
  have hm : 0 ≤ z 23 ∧ z 23 ≤ 400 := ⟨M.m0, M.m4⟩
  refine pm_Fv.go 4 (f' := (160, 4, [(0, _), (1, _)], [_, _, _, _])) rfl ?_
  refine pm_Fv.call rfl rfl rfl rfl rfl (ev_w1 L xs (by omega) (by omega)) ?_
  refine pm_Fv.zne rfl (by omega) rfl (fun h1 => ?_) (fun h1 => ?_)
  · refine pm_Fv.go 2 (f' := (160, 16, [(0, _), (1, _)], [_, _, _])) rfl ?_
    refine pm_Fv.cvF rfl rfl rfl rfl (by decide) (Nat.le_of_ble_eq_true rfl) (Nat.le_of_ble_eq_true rfl) H0.m199 H0.o199 (ev_fz L xs H0) (fun s1 q1 => ?_)
    obtain ⟨H1, r1⟩ := q1
    refine pm_Fv.zeq rfl (by omega) rfl (fun h2 => ?_) (fun h2 => ?_)
    · refine pm_Fv.go 1 (f' := (160, 25, [(0, _), (1, _)], [_])) rfl ?_
      refine pm_Fv.zne rfl (by omega) rfl (fun h3 => ?_) (fun h3 => ?_)
      · exact absurd h3 (by omega)
      · refine pm_Fv.go 3 (f' := (160, 31, [(0, _), (1, _)], [_, _, _])) rfl ?_
        refine pm_Fv.cvF rfl rfl rfl rfl (by decide) (Nat.le_of_ble_eq_true rfl) (Nat.le_of_ble_eq_true rfl) H1.m199 H1.o199 ((by have y := ev_msum00r L xs H1 (z := hq_u z 29 0) h M; rw [hq_u_u] at y; exact y)) (fun s2 q2 => ?_)
        obtain ⟨H2, r2⟩ := q2
        refine pm_Fv.go 1 (f' := (160, 65, [(0, _), (1, _)], [_])) rfl ?_
        exact pm_Fv.rv rfl rfl ⟨rfl, H2, (r2.trans r1)⟩
    · exact absurd h2 (by omega)
  · exact absurd h1 (by omega)
theorem ev_mabout01 (H : Hp σ ad z ar lr) (h : mo_H z ar)  : pm_Fv (tq_P L xs) (pm_enter 160 [.ref 199, .int (zI 1)]) σ (fun o s => o = .inl (some (.int (zI (z 23)))) ∧ Hp s ad (hq_u z 29 0) ar lr ∧ s.2 = σ.2) := by
  show pm_Fv (tq_P L xs) (160, 0, [(0, .ref 199), (1, .int (zI 1))], []) σ _
  have H0 : Hp σ ad (hq_u z 29 (z 29)) ar lr := by rw [hq_u_self]; exact H
  refine pm_Fv.go 4 (f' := (160, 4, [(0, _), (1, _)], [_, _, _, _])) rfl ?_
  refine pm_Fv.call rfl rfl rfl rfl rfl (ev_w1 L xs (by omega) (by omega)) ?_
  refine pm_Fv.zne rfl (by omega) rfl (fun h1 => ?_) (fun h1 => ?_)
  · refine pm_Fv.go 2 (f' := (160, 16, [(0, _), (1, _)], [_, _, _])) rfl ?_
    refine pm_Fv.cvF rfl rfl rfl rfl (by decide) (Nat.le_of_ble_eq_true rfl) (Nat.le_of_ble_eq_true rfl) H0.m199 H0.o199 (ev_fz L xs H0) (fun s1 q1 => ?_)
    obtain ⟨H1, r1⟩ := q1
    refine pm_Fv.zeq rfl (by omega) rfl (fun h2 => ?_) (fun h2 => ?_)
    · refine pm_Fv.go 1 (f' := (160, 25, [(0, _), (1, _)], [_])) rfl ?_
      refine pm_Fv.zne rfl (by omega) rfl (fun h3 => ?_) (fun h3 => ?_)
      · refine pm_Fv.go 2 (f' := (160, 39, [(0, _), (1, _)], [_, _])) rfl ?_
        refine pm_Fv.jne rfl (by omega) rfl (fun h4 => ?_) (fun h4 => ?_)
        · exact absurd h4 (by omega)
        · refine pm_Fv.go 1 (f' := (160, 43, [(0, _), (1, _)], [_])) rfl ?_
          refine pm_Fv.gf rfl rfl H1.m199 H1.o199 rfl ?_
          refine pm_Fv.go 1 (f' := (160, 65, [(0, _), (1, _)], [_])) rfl ?_
          exact pm_Fv.rv rfl rfl ⟨rfl, H1, r1⟩
      · exact absurd h3 (by omega)
    · exact absurd h2 (by omega)
  · exact absurd h1 (by omega)
theorem ev_mabout02 (H : Hp σ ad z ar lr) (h : mo_H z ar)  : pm_Fv (tq_P L xs) (pm_enter 160 [.ref 199, .int (zI 2)]) σ (fun o s => o = .inl (some (.int (zI (z 28)))) ∧ Hp s ad (hq_u z 29 0) ar lr ∧ s.2 = σ.2) := by
  show pm_Fv (tq_P L xs) (160, 0, [(0, .ref 199), (1, .int (zI 2))], []) σ _
  have H0 : Hp σ ad (hq_u z 29 (z 29)) ar lr := by rw [hq_u_self]; exact H
  refine pm_Fv.go 4 (f' := (160, 4, [(0, _), (1, _)], [_, _, _, _])) rfl ?_
  refine pm_Fv.call rfl rfl rfl rfl rfl (ev_w1 L xs (by omega) (by omega)) ?_
  refine pm_Fv.zne rfl (by omega) rfl (fun h1 => ?_) (fun h1 => ?_)
  · refine pm_Fv.go 2 (f' := (160, 16, [(0, _), (1, _)], [_, _, _])) rfl ?_
    refine pm_Fv.cvF rfl rfl rfl rfl (by decide) (Nat.le_of_ble_eq_true rfl) (Nat.le_of_ble_eq_true rfl) H0.m199 H0.o199 (ev_fz L xs H0) (fun s1 q1 => ?_)
    obtain ⟨H1, r1⟩ := q1
    refine pm_Fv.zeq rfl (by omega) rfl (fun h2 => ?_) (fun h2 => ?_)
    · refine pm_Fv.go 1 (f' := (160, 25, [(0, _), (1, _)], [_])) rfl ?_
      refine pm_Fv.zne rfl (by omega) rfl (fun h3 => ?_) (fun h3 => ?_)
      · refine pm_Fv.go 2 (f' := (160, 39, [(0, _), (1, _)], [_, _])) rfl ?_
        refine pm_Fv.jne rfl (by omega) rfl (fun h4 => ?_) (fun h4 => ?_)
        · refine pm_Fv.go 2 (f' := (160, 51, [(0, _), (1, _)], [_, _])) rfl ?_
          refine pm_Fv.jne rfl (by omega) rfl (fun h5 => ?_) (fun h5 => ?_)
          · exact absurd h5 (by omega)
          · refine pm_Fv.go 1 (f' := (160, 55, [(0, _), (1, _)], [_])) rfl ?_
            refine pm_Fv.gf rfl rfl H1.m199 H1.o199 rfl ?_
            refine pm_Fv.go 1 (f' := (160, 65, [(0, _), (1, _)], [_])) rfl ?_
            exact pm_Fv.rv rfl rfl ⟨rfl, H1, r1⟩
        · exact absurd h4 (by omega)
      · exact absurd h3 (by omega)
    · exact absurd h2 (by omega)
  · exact absurd h1 (by omega)
theorem ev_mabout03 (H : Hp σ ad z ar lr) (h : mo_H z ar)  : pm_Fv (tq_P L xs) (pm_enter 160 [.ref 199, .int (zI 3)]) σ (fun o s => o = .inl (some (.int (zI (z 26)))) ∧ Hp s ad (hq_u z 29 0) ar lr ∧ s.2 = σ.2) := by
  show pm_Fv (tq_P L xs) (160, 0, [(0, .ref 199), (1, .int (zI 3))], []) σ _
  have H0 : Hp σ ad (hq_u z 29 (z 29)) ar lr := by rw [hq_u_self]; exact H
  refine pm_Fv.go 4 (f' := (160, 4, [(0, _), (1, _)], [_, _, _, _])) rfl ?_
  refine pm_Fv.call rfl rfl rfl rfl rfl (ev_w1 L xs (by omega) (by omega)) ?_
  refine pm_Fv.zne rfl (by omega) rfl (fun h1 => ?_) (fun h1 => ?_)
  · refine pm_Fv.go 2 (f' := (160, 16, [(0, _), (1, _)], [_, _, _])) rfl ?_
    refine pm_Fv.cvF rfl rfl rfl rfl (by decide) (Nat.le_of_ble_eq_true rfl) (Nat.le_of_ble_eq_true rfl) H0.m199 H0.o199 (ev_fz L xs H0) (fun s1 q1 => ?_)
    obtain ⟨H1, r1⟩ := q1
    refine pm_Fv.zeq rfl (by omega) rfl (fun h2 => ?_) (fun h2 => ?_)
    · refine pm_Fv.go 1 (f' := (160, 25, [(0, _), (1, _)], [_])) rfl ?_
      refine pm_Fv.zne rfl (by omega) rfl (fun h3 => ?_) (fun h3 => ?_)
      · refine pm_Fv.go 2 (f' := (160, 39, [(0, _), (1, _)], [_, _])) rfl ?_
        refine pm_Fv.jne rfl (by omega) rfl (fun h4 => ?_) (fun h4 => ?_)
        · refine pm_Fv.go 2 (f' := (160, 51, [(0, _), (1, _)], [_, _])) rfl ?_
          refine pm_Fv.jne rfl (by omega) rfl (fun h5 => ?_) (fun h5 => ?_)
          · refine pm_Fv.go 1 (f' := (160, 62, [(0, _), (1, _)], [_])) rfl ?_
            refine pm_Fv.gf rfl rfl H1.m199 H1.o199 rfl ?_
            exact pm_Fv.rv rfl rfl ⟨rfl, H1, r1⟩
          · exact absurd h5 (by omega)
        · exact absurd h4 (by omega)
      · exact absurd h3 (by omega)
    · exact absurd h2 (by omega)
  · exact absurd h1 (by omega)
theorem ev_mtold1 (H : Hp σ ad z ar lr) (h : mo_H z ar) {n : Int} {I D : Int → Int} (M : mo_R (mo_g ar) (z 23) n I D) {p v : Int} (hp : -2147483648 ≤ p ∧ p ≤ 2147483647) (n2 : ∀ x, 0 ≤ x → x < n → I x ≠ p) : pm_Fv (tq_P L xs) (pm_enter 159 [.ref 199, .int (zI p), .int (zI v)]) σ (fun o s => o = .inl (some (.int (zI 0))) ∧ Hp s ad (hq_u z 29 1) ar lr ∧ s.2 = σ.2) := by
  show pm_Fv (tq_P L xs) (159, 0, [(0, .ref 199), (1, .int (zI p)), (2, .int (zI v))], []) σ _
  have H0 : Hp σ ad (hq_u z 29 (z 29)) ar lr := by rw [hq_u_self]; exact H
  have hm : 0 ≤ z 23 ∧ z 23 ≤ 400 := ⟨M.m0, M.m4⟩
  refine pm_Fv.go 3 (f' := (159, 3, [(0, _), (1, _), (2, _)], [_, _, _])) rfl ?_
  refine pm_Fv.cv rfl rfl rfl rfl (by decide) (Nat.le_of_ble_eq_true rfl) (Nat.le_of_ble_eq_true rfl) H0.m199 H0.o199 (ev_noT L xs H0 h.l0 M hp n2) ?_
  refine pm_Fv.zne rfl (by omega) rfl (fun h1 => ?_) (fun h1 => ?_)
  · exact absurd h1 (by omega)
  · refine pm_Fv.go 3 (f' := (159, 15, [(0, _), (1, _), (2, _)], [_, _, _])) rfl ?_
    refine pm_Fv.cvF rfl rfl rfl rfl (by decide) (Nat.le_of_ble_eq_true rfl) (Nat.le_of_ble_eq_true rfl) H0.m199 H0.o199 (ev_fo L xs H0) (fun s1 q1 => ?_)
    obtain ⟨H1, r1⟩ := q1
    refine pm_Fv.zne rfl (by omega) rfl (fun h2 => ?_) (fun h2 => ?_)
    · refine pm_Fv.go 1 (f' := (159, 45, [(0, _), (1, _), (2, _)], [_])) rfl ?_
      exact pm_Fv.rv rfl rfl ⟨rfl, H1, r1⟩
    · exact absurd h2 (by omega)
theorem ev_mtold2 (H : Hp σ ad z ar lr) (h : mo_H z ar) {n : Int} {I D : Int → Int} (M : mo_R (mo_g ar) (z 23) n I D) {b : Int} (b0 : 0 ≤ b) (b1 : b < n) {v : Int} (hv : -2147483648 ≤ v ∧ v ≤ 2147483647) (c : ¬ (0 ≤ v ∧ v ≤ 15)) : pm_Fv (tq_P L xs) (pm_enter 159 [.ref 199, .int (zI (I b)), .int (zI v)]) σ (fun o s => o = .inl (some (.int (zI 0))) ∧ Hp s ad (hq_u z 29 2) ar lr ∧ s.2 = σ.2) := by
  show pm_Fv (tq_P L xs) (159, 0, [(0, .ref 199), (1, .int (zI (I b))), (2, .int (zI v))], []) σ _
  have H0 : Hp σ ad (hq_u z 29 (z 29)) ar lr := by rw [hq_u_self]; exact H
  have hm : 0 ≤ z 23 ∧ z 23 ≤ 400 := ⟨M.m0, M.m4⟩
  have i0 := M.J.1 b b0 b1
  have i1 := M.lt b b0 b1
  refine pm_Fv.go 3 (f' := (159, 3, [(0, _), (1, _), (2, _)], [_, _, _])) rfl ?_
  refine pm_Fv.cv rfl rfl rfl rfl (by decide) (Nat.le_of_ble_eq_true rfl) (Nat.le_of_ble_eq_true rfl) H0.m199 H0.o199 (ev_isT L xs H0 h.l0 M b0 b1) ?_
  refine pm_Fv.zne rfl (by omega) rfl (fun h1 => ?_) (fun h1 => ?_)
  · refine pm_Fv.go 2 (f' := (159, 15, [(0, _), (1, _), (2, _)], [_, _, _])) rfl ?_
    refine pm_Fv.cvF rfl rfl rfl rfl (by decide) (Nat.le_of_ble_eq_true rfl) (Nat.le_of_ble_eq_true rfl) H0.m199 H0.o199 (ev_fz L xs H0) (fun s1 q1 => ?_)
    obtain ⟨H1, r1⟩ := q1
    refine pm_Fv.zne rfl (by omega) rfl (fun h2 => ?_) (fun h2 => ?_)
    · exact absurd h2 (by omega)
    · refine pm_Fv.go 3 (f' := (159, 24, [(0, _), (1, _), (2, _)], [_, _, _])) rfl ?_
      refine pm_Fv.bp rfl rfl ?_
      refine pm_Fv.call rfl rfl rfl rfl rfl (ev_w0 L xs (by omega) c) ?_
      refine pm_Fv.zne rfl (by omega) rfl (fun h3 => ?_) (fun h3 => ?_)
      · exact absurd h3 (by omega)
      · refine pm_Fv.go 3 (f' := (159, 38, [(0, _), (1, _), (2, _)], [_, _, _])) rfl ?_
        refine pm_Fv.cvF rfl rfl rfl rfl (by decide) (Nat.le_of_ble_eq_true rfl) (Nat.le_of_ble_eq_true rfl) H1.m199 H1.o199 (ev_fo L xs H1) (fun s2 q2 => ?_)
        obtain ⟨H2, r2⟩ := q2
        refine pm_Fv.zeq rfl (by omega) rfl (fun h4 => ?_) (fun h4 => ?_)
        · exact absurd h4 (by omega)
        · refine pm_Fv.go 1 (f' := (159, 45, [(0, _), (1, _), (2, _)], [_])) rfl ?_
          exact pm_Fv.rv rfl rfl ⟨rfl, H2, (r2.trans r1)⟩
  · exact absurd h1 (by omega)
theorem ev_mtold0_0 (H : Hp σ ad z ar lr) (h : mo_H z ar) {n : Int} {I D : Int → Int} (M : mo_R (mo_g ar) (z 23) n I D) {b : Int} (b0 : 0 ≤ b) (b1 : b < n) : pm_Fv (tq_P L xs) (pm_enter 159 [.ref 199, .int (zI (I b)), .int (zI 0)]) σ (fun o s => o = .inl (some (.int (zI (fo_id I (fo_par D b))))) ∧ Hp s ad (hq_u z 29 0) ar lr ∧ s.2 = σ.2) := by
  show pm_Fv (tq_P L xs) (159, 0, [(0, .ref 199), (1, .int (zI (I b))), (2, .int (zI 0))], []) σ _
  have H0 : Hp σ ad (hq_u z 29 (z 29)) ar lr := by rw [hq_u_self]; exact H
  have hm : 0 ≤ z 23 ∧ z 23 ≤ 400 := ⟨M.m0, M.m4⟩
  have i0 := M.J.1 b b0 b1
  have i1 := M.lt b b0 b1
  refine pm_Fv.go 3 (f' := (159, 3, [(0, _), (1, _), (2, _)], [_, _, _])) rfl ?_
  refine pm_Fv.cv rfl rfl rfl rfl (by decide) (Nat.le_of_ble_eq_true rfl) (Nat.le_of_ble_eq_true rfl) H0.m199 H0.o199 (ev_isT L xs H0 h.l0 M b0 b1) ?_
  refine pm_Fv.zne rfl (by omega) rfl (fun h1 => ?_) (fun h1 => ?_)
  · refine pm_Fv.go 2 (f' := (159, 15, [(0, _), (1, _), (2, _)], [_, _, _])) rfl ?_
    refine pm_Fv.cvF rfl rfl rfl rfl (by decide) (Nat.le_of_ble_eq_true rfl) (Nat.le_of_ble_eq_true rfl) H0.m199 H0.o199 (ev_fz L xs H0) (fun s1 q1 => ?_)
    obtain ⟨H1, r1⟩ := q1
    refine pm_Fv.zne rfl (by omega) rfl (fun h2 => ?_) (fun h2 => ?_)
    · exact absurd h2 (by omega)
    · refine pm_Fv.go 3 (f' := (159, 24, [(0, _), (1, _), (2, _)], [_, _, _])) rfl ?_
      refine pm_Fv.bp rfl rfl ?_
      refine pm_Fv.call rfl rfl rfl rfl rfl (ev_w1 L xs (by omega) (by omega)) ?_
      refine pm_Fv.zne rfl (by omega) rfl (fun h3 => ?_) (fun h3 => ?_)
      · refine pm_Fv.go 2 (f' := (159, 38, [(0, _), (1, _), (2, _)], [_, _, _])) rfl ?_
        refine pm_Fv.cvF rfl rfl rfl rfl (by decide) (Nat.le_of_ble_eq_true rfl) (Nat.le_of_ble_eq_true rfl) H1.m199 H1.o199 (ev_fz L xs H1) (fun s2 q2 => ?_)
        obtain ⟨H2, r2⟩ := q2
        refine pm_Fv.zeq rfl (by omega) rfl (fun h4 => ?_) (fun h4 => ?_)
        · refine pm_Fv.go 5 (f' := (159, 127, [(0, _), (1, _), (2, _)], [_, _, _])) rfl ?_
          refine pm_Fv.cv rfl rfl rfl rfl (by decide) (Nat.le_of_ble_eq_true rfl) (Nat.le_of_ble_eq_true rfl) H2.m199 H2.o199 (ev_g L xs H2 h.l0 (by omega)) ?_
          rw [(M.R b b0 b1).1]
          exact pm_Fv.rv rfl rfl ⟨rfl, H2, (r2.trans r1)⟩
        · exact absurd h4 (by omega)
      · exact absurd h3 (by omega)
  · exact absurd h1 (by omega)
theorem ev_mtold0_1 (H : Hp σ ad z ar lr) (h : mo_H z ar) {n : Int} {I D : Int → Int} (M : mo_R (mo_g ar) (z 23) n I D) {b : Int} (b0 : 0 ≤ b) (b1 : b < n) : pm_Fv (tq_P L xs) (pm_enter 159 [.ref 199, .int (zI (I b)), .int (zI 1)]) σ (fun o s => o = .inl (some (.int (zI (fo_pl D b)))) ∧ Hp s ad (hq_u z 29 0) ar lr ∧ s.2 = σ.2) := by
  show pm_Fv (tq_P L xs) (159, 0, [(0, .ref 199), (1, .int (zI (I b))), (2, .int (zI 1))], []) σ _
  have H0 : Hp σ ad (hq_u z 29 (z 29)) ar lr := by rw [hq_u_self]; exact H
  have hm : 0 ≤ z 23 ∧ z 23 ≤ 400 := ⟨M.m0, M.m4⟩
  have i0 := M.J.1 b b0 b1
  have i1 := M.lt b b0 b1
  refine pm_Fv.go 3 (f' := (159, 3, [(0, _), (1, _), (2, _)], [_, _, _])) rfl ?_
  refine pm_Fv.cv rfl rfl rfl rfl (by decide) (Nat.le_of_ble_eq_true rfl) (Nat.le_of_ble_eq_true rfl) H0.m199 H0.o199 (ev_isT L xs H0 h.l0 M b0 b1) ?_
  refine pm_Fv.zne rfl (by omega) rfl (fun h1 => ?_) (fun h1 => ?_)
  · refine pm_Fv.go 2 (f' := (159, 15, [(0, _), (1, _), (2, _)], [_, _, _])) rfl ?_
    refine pm_Fv.cvF rfl rfl rfl rfl (by decide) (Nat.le_of_ble_eq_true rfl) (Nat.le_of_ble_eq_true rfl) H0.m199 H0.o199 (ev_fz L xs H0) (fun s1 q1 => ?_)
    obtain ⟨H1, r1⟩ := q1
    refine pm_Fv.zne rfl (by omega) rfl (fun h2 => ?_) (fun h2 => ?_)
    · exact absurd h2 (by omega)
    · refine pm_Fv.go 3 (f' := (159, 24, [(0, _), (1, _), (2, _)], [_, _, _])) rfl ?_
      refine pm_Fv.bp rfl rfl ?_
      refine pm_Fv.call rfl rfl rfl rfl rfl (ev_w1 L xs (by omega) (by omega)) ?_
      refine pm_Fv.zne rfl (by omega) rfl (fun h3 => ?_) (fun h3 => ?_)
      · refine pm_Fv.go 2 (f' := (159, 38, [(0, _), (1, _), (2, _)], [_, _, _])) rfl ?_
        refine pm_Fv.cvF rfl rfl rfl rfl (by decide) (Nat.le_of_ble_eq_true rfl) (Nat.le_of_ble_eq_true rfl) H1.m199 H1.o199 (ev_fz L xs H1) (fun s2 q2 => ?_)
        obtain ⟨H2, r2⟩ := q2
        refine pm_Fv.zeq rfl (by omega) rfl (fun h4 => ?_) (fun h4 => ?_)
        · refine pm_Fv.go 5 (f' := (159, 134, [(0, _), (1, _), (2, _)], [_, _, _])) rfl ?_
          refine pm_Fv.cv rfl rfl rfl rfl (by decide) (Nat.le_of_ble_eq_true rfl) (Nat.le_of_ble_eq_true rfl) H2.m199 H2.o199 (ev_g L xs H2 h.l0 (by omega)) ?_
          rw [(M.R b b0 b1).2]
          exact pm_Fv.rv rfl rfl ⟨rfl, H2, (r2.trans r1)⟩
        · exact absurd h4 (by omega)
      · exact absurd h3 (by omega)
  · exact absurd h1 (by omega)
theorem ev_mtold0_2 (H : Hp σ ad z ar lr) (h : mo_H z ar) {n : Int} {I D : Int → Int} (M : mo_R (mo_g ar) (z 23) n I D) {b : Int} (b0 : 0 ≤ b) (b1 : b < n) : pm_Fv (tq_P L xs) (pm_enter 159 [.ref 199, .int (zI (I b)), .int (zI 2)]) σ (fun o s => o = .inl (some (.int (zI (D b)))) ∧ Hp s ad (hq_u z 29 0) ar lr ∧ s.2 = σ.2) := by
  show pm_Fv (tq_P L xs) (159, 0, [(0, .ref 199), (1, .int (zI (I b))), (2, .int (zI 2))], []) σ _
  have H0 : Hp σ ad (hq_u z 29 (z 29)) ar lr := by rw [hq_u_self]; exact H
  have hm : 0 ≤ z 23 ∧ z 23 ≤ 400 := ⟨M.m0, M.m4⟩
  have i0 := M.J.1 b b0 b1
  have i1 := M.lt b b0 b1
  refine pm_Fv.go 3 (f' := (159, 3, [(0, _), (1, _), (2, _)], [_, _, _])) rfl ?_
  refine pm_Fv.cv rfl rfl rfl rfl (by decide) (Nat.le_of_ble_eq_true rfl) (Nat.le_of_ble_eq_true rfl) H0.m199 H0.o199 (ev_isT L xs H0 h.l0 M b0 b1) ?_
  refine pm_Fv.zne rfl (by omega) rfl (fun h1 => ?_) (fun h1 => ?_)
  · refine pm_Fv.go 2 (f' := (159, 15, [(0, _), (1, _), (2, _)], [_, _, _])) rfl ?_
    refine pm_Fv.cvF rfl rfl rfl rfl (by decide) (Nat.le_of_ble_eq_true rfl) (Nat.le_of_ble_eq_true rfl) H0.m199 H0.o199 (ev_fz L xs H0) (fun s1 q1 => ?_)
    obtain ⟨H1, r1⟩ := q1
    refine pm_Fv.zne rfl (by omega) rfl (fun h2 => ?_) (fun h2 => ?_)
    · exact absurd h2 (by omega)
    · refine pm_Fv.go 3 (f' := (159, 24, [(0, _), (1, _), (2, _)], [_, _, _])) rfl ?_
      refine pm_Fv.bp rfl rfl ?_
      refine pm_Fv.call rfl rfl rfl rfl rfl (ev_w1 L xs (by omega) (by omega)) ?_
      refine pm_Fv.zne rfl (by omega) rfl (fun h3 => ?_) (fun h3 => ?_)
      · refine pm_Fv.go 2 (f' := (159, 38, [(0, _), (1, _), (2, _)], [_, _, _])) rfl ?_
        refine pm_Fv.cvF rfl rfl rfl rfl (by decide) (Nat.le_of_ble_eq_true rfl) (Nat.le_of_ble_eq_true rfl) H1.m199 H1.o199 (ev_fz L xs H1) (fun s2 q2 => ?_)
        obtain ⟨H2, r2⟩ := q2
        refine pm_Fv.zeq rfl (by omega) rfl (fun h4 => ?_) (fun h4 => ?_)
        · refine pm_Fv.go 4 (f' := (159, 140, [(0, _), (1, _), (2, _)], [_, _])) rfl ?_
          refine pm_Fv.cv rfl rfl rfl rfl (by decide) (Nat.le_of_ble_eq_true rfl) (Nat.le_of_ble_eq_true rfl) H2.m199 H2.o199 ((by have q := ev_depth L xs H2 h.l0 M (x := b) (by omega) (Or.inl b1); rw [fo_id_at b0] at q; exact q)) ?_
          exact pm_Fv.rv rfl rfl ⟨rfl, H2, (r2.trans r1)⟩
        · exact absurd h4 (by omega)
      · exact absurd h3 (by omega)
  · exact absurd h1 (by omega)
theorem ev_mtold0_3 (H : Hp σ ad z ar lr) (h : mo_H z ar) {n : Int} {I D : Int → Int} (M : mo_R (mo_g ar) (z 23) n I D) {b : Int} (b0 : 0 ≤ b) (b1 : b < n) : pm_Fv (tq_P L xs) (pm_enter 159 [.ref 199, .int (zI (I b)), .int (zI 3)]) σ (fun o s => o = .inl (some (.int (zI (mo_g ar (I b) 3)))) ∧ Hp s ad (hq_u z 29 0) ar lr ∧ s.2 = σ.2) := by
  show pm_Fv (tq_P L xs) (159, 0, [(0, .ref 199), (1, .int (zI (I b))), (2, .int (zI 3))], []) σ _
  have H0 : Hp σ ad (hq_u z 29 (z 29)) ar lr := by rw [hq_u_self]; exact H
  have hm : 0 ≤ z 23 ∧ z 23 ≤ 400 := ⟨M.m0, M.m4⟩
  have i0 := M.J.1 b b0 b1
  have i1 := M.lt b b0 b1
  refine pm_Fv.go 3 (f' := (159, 3, [(0, _), (1, _), (2, _)], [_, _, _])) rfl ?_
  refine pm_Fv.cv rfl rfl rfl rfl (by decide) (Nat.le_of_ble_eq_true rfl) (Nat.le_of_ble_eq_true rfl) H0.m199 H0.o199 (ev_isT L xs H0 h.l0 M b0 b1) ?_
  refine pm_Fv.zne rfl (by omega) rfl (fun h1 => ?_) (fun h1 => ?_)
  · refine pm_Fv.go 2 (f' := (159, 15, [(0, _), (1, _), (2, _)], [_, _, _])) rfl ?_
    refine pm_Fv.cvF rfl rfl rfl rfl (by decide) (Nat.le_of_ble_eq_true rfl) (Nat.le_of_ble_eq_true rfl) H0.m199 H0.o199 (ev_fz L xs H0) (fun s1 q1 => ?_)
    obtain ⟨H1, r1⟩ := q1
    refine pm_Fv.zne rfl (by omega) rfl (fun h2 => ?_) (fun h2 => ?_)
    · exact absurd h2 (by omega)
    · refine pm_Fv.go 3 (f' := (159, 24, [(0, _), (1, _), (2, _)], [_, _, _])) rfl ?_
      refine pm_Fv.bp rfl rfl ?_
      refine pm_Fv.call rfl rfl rfl rfl rfl (ev_w1 L xs (by omega) (by omega)) ?_
      refine pm_Fv.zne rfl (by omega) rfl (fun h3 => ?_) (fun h3 => ?_)
      · refine pm_Fv.go 2 (f' := (159, 38, [(0, _), (1, _), (2, _)], [_, _, _])) rfl ?_
        refine pm_Fv.cvF rfl rfl rfl rfl (by decide) (Nat.le_of_ble_eq_true rfl) (Nat.le_of_ble_eq_true rfl) H1.m199 H1.o199 (ev_fz L xs H1) (fun s2 q2 => ?_)
        obtain ⟨H2, r2⟩ := q2
        refine pm_Fv.zeq rfl (by omega) rfl (fun h4 => ?_) (fun h4 => ?_)
        · refine pm_Fv.go 5 (f' := (159, 206, [(0, _), (1, _), (2, _)], [_, _, _])) rfl ?_
          refine pm_Fv.cv rfl rfl rfl rfl (by decide) (Nat.le_of_ble_eq_true rfl) (Nat.le_of_ble_eq_true rfl) H2.m199 H2.o199 (ev_g L xs H2 h.l0 (by omega)) ?_
          exact pm_Fv.rv rfl rfl ⟨rfl, H2, (r2.trans r1)⟩
        · exact absurd h4 (by omega)
      · exact absurd h3 (by omega)
  · exact absurd h1 (by omega)
theorem ev_mtold0_4 (H : Hp σ ad z ar lr) (h : mo_H z ar) {n : Int} {I D : Int → Int} (M : mo_R (mo_g ar) (z 23) n I D) {b : Int} (b0 : 0 ≤ b) (b1 : b < n) : pm_Fv (tq_P L xs) (pm_enter 159 [.ref 199, .int (zI (I b)), .int (zI 4)]) σ (fun o s => o = .inl (some (.int (zI (mo_g ar (I b) 4)))) ∧ Hp s ad (hq_u z 29 0) ar lr ∧ s.2 = σ.2) := by
  show pm_Fv (tq_P L xs) (159, 0, [(0, .ref 199), (1, .int (zI (I b))), (2, .int (zI 4))], []) σ _
  have H0 : Hp σ ad (hq_u z 29 (z 29)) ar lr := by rw [hq_u_self]; exact H
  have hm : 0 ≤ z 23 ∧ z 23 ≤ 400 := ⟨M.m0, M.m4⟩
  have i0 := M.J.1 b b0 b1
  have i1 := M.lt b b0 b1
  refine pm_Fv.go 3 (f' := (159, 3, [(0, _), (1, _), (2, _)], [_, _, _])) rfl ?_
  refine pm_Fv.cv rfl rfl rfl rfl (by decide) (Nat.le_of_ble_eq_true rfl) (Nat.le_of_ble_eq_true rfl) H0.m199 H0.o199 (ev_isT L xs H0 h.l0 M b0 b1) ?_
  refine pm_Fv.zne rfl (by omega) rfl (fun h1 => ?_) (fun h1 => ?_)
  · refine pm_Fv.go 2 (f' := (159, 15, [(0, _), (1, _), (2, _)], [_, _, _])) rfl ?_
    refine pm_Fv.cvF rfl rfl rfl rfl (by decide) (Nat.le_of_ble_eq_true rfl) (Nat.le_of_ble_eq_true rfl) H0.m199 H0.o199 (ev_fz L xs H0) (fun s1 q1 => ?_)
    obtain ⟨H1, r1⟩ := q1
    refine pm_Fv.zne rfl (by omega) rfl (fun h2 => ?_) (fun h2 => ?_)
    · exact absurd h2 (by omega)
    · refine pm_Fv.go 3 (f' := (159, 24, [(0, _), (1, _), (2, _)], [_, _, _])) rfl ?_
      refine pm_Fv.bp rfl rfl ?_
      refine pm_Fv.call rfl rfl rfl rfl rfl (ev_w1 L xs (by omega) (by omega)) ?_
      refine pm_Fv.zne rfl (by omega) rfl (fun h3 => ?_) (fun h3 => ?_)
      · refine pm_Fv.go 2 (f' := (159, 38, [(0, _), (1, _), (2, _)], [_, _, _])) rfl ?_
        refine pm_Fv.cvF rfl rfl rfl rfl (by decide) (Nat.le_of_ble_eq_true rfl) (Nat.le_of_ble_eq_true rfl) H1.m199 H1.o199 (ev_fz L xs H1) (fun s2 q2 => ?_)
        obtain ⟨H2, r2⟩ := q2
        refine pm_Fv.zeq rfl (by omega) rfl (fun h4 => ?_) (fun h4 => ?_)
        · refine pm_Fv.go 5 (f' := (159, 206, [(0, _), (1, _), (2, _)], [_, _, _])) rfl ?_
          refine pm_Fv.cv rfl rfl rfl rfl (by decide) (Nat.le_of_ble_eq_true rfl) (Nat.le_of_ble_eq_true rfl) H2.m199 H2.o199 (ev_g L xs H2 h.l0 (by omega)) ?_
          exact pm_Fv.rv rfl rfl ⟨rfl, H2, (r2.trans r1)⟩
        · exact absurd h4 (by omega)
      · exact absurd h3 (by omega)
  · exact absurd h1 (by omega)
theorem ev_mtold0_5 (H : Hp σ ad z ar lr) (h : mo_H z ar) {n : Int} {I D : Int → Int} (M : mo_R (mo_g ar) (z 23) n I D) {b : Int} (b0 : 0 ≤ b) (b1 : b < n) : pm_Fv (tq_P L xs) (pm_enter 159 [.ref 199, .int (zI (I b)), .int (zI 5)]) σ (fun o s => o = .inl (some (.int (zI (mo_g ar (I b) 5)))) ∧ Hp s ad (hq_u z 29 0) ar lr ∧ s.2 = σ.2) := by
  show pm_Fv (tq_P L xs) (159, 0, [(0, .ref 199), (1, .int (zI (I b))), (2, .int (zI 5))], []) σ _
  have H0 : Hp σ ad (hq_u z 29 (z 29)) ar lr := by rw [hq_u_self]; exact H
  have hm : 0 ≤ z 23 ∧ z 23 ≤ 400 := ⟨M.m0, M.m4⟩
  have i0 := M.J.1 b b0 b1
  have i1 := M.lt b b0 b1
  refine pm_Fv.go 3 (f' := (159, 3, [(0, _), (1, _), (2, _)], [_, _, _])) rfl ?_
  refine pm_Fv.cv rfl rfl rfl rfl (by decide) (Nat.le_of_ble_eq_true rfl) (Nat.le_of_ble_eq_true rfl) H0.m199 H0.o199 (ev_isT L xs H0 h.l0 M b0 b1) ?_
  refine pm_Fv.zne rfl (by omega) rfl (fun h1 => ?_) (fun h1 => ?_)
  · refine pm_Fv.go 2 (f' := (159, 15, [(0, _), (1, _), (2, _)], [_, _, _])) rfl ?_
    refine pm_Fv.cvF rfl rfl rfl rfl (by decide) (Nat.le_of_ble_eq_true rfl) (Nat.le_of_ble_eq_true rfl) H0.m199 H0.o199 (ev_fz L xs H0) (fun s1 q1 => ?_)
    obtain ⟨H1, r1⟩ := q1
    refine pm_Fv.zne rfl (by omega) rfl (fun h2 => ?_) (fun h2 => ?_)
    · exact absurd h2 (by omega)
    · refine pm_Fv.go 3 (f' := (159, 24, [(0, _), (1, _), (2, _)], [_, _, _])) rfl ?_
      refine pm_Fv.bp rfl rfl ?_
      refine pm_Fv.call rfl rfl rfl rfl rfl (ev_w1 L xs (by omega) (by omega)) ?_
      refine pm_Fv.zne rfl (by omega) rfl (fun h3 => ?_) (fun h3 => ?_)
      · refine pm_Fv.go 2 (f' := (159, 38, [(0, _), (1, _), (2, _)], [_, _, _])) rfl ?_
        refine pm_Fv.cvF rfl rfl rfl rfl (by decide) (Nat.le_of_ble_eq_true rfl) (Nat.le_of_ble_eq_true rfl) H1.m199 H1.o199 (ev_fz L xs H1) (fun s2 q2 => ?_)
        obtain ⟨H2, r2⟩ := q2
        refine pm_Fv.zeq rfl (by omega) rfl (fun h4 => ?_) (fun h4 => ?_)
        · refine pm_Fv.go 5 (f' := (159, 206, [(0, _), (1, _), (2, _)], [_, _, _])) rfl ?_
          refine pm_Fv.cv rfl rfl rfl rfl (by decide) (Nat.le_of_ble_eq_true rfl) (Nat.le_of_ble_eq_true rfl) H2.m199 H2.o199 (ev_g L xs H2 h.l0 (by omega)) ?_
          exact pm_Fv.rv rfl rfl ⟨rfl, H2, (r2.trans r1)⟩
        · exact absurd h4 (by omega)
      · exact absurd h3 (by omega)
  · exact absurd h1 (by omega)
theorem ev_mtold0_6 (H : Hp σ ad z ar lr) (h : mo_H z ar) {n : Int} {I D : Int → Int} (M : mo_R (mo_g ar) (z 23) n I D) {b : Int} (b0 : 0 ≤ b) (b1 : b < n) : pm_Fv (tq_P L xs) (pm_enter 159 [.ref 199, .int (zI (I b)), .int (zI 6)]) σ (fun o s => o = .inl (some (.int (zI (mo_g ar (I b) 6)))) ∧ Hp s ad (hq_u z 29 0) ar lr ∧ s.2 = σ.2) := by
  show pm_Fv (tq_P L xs) (159, 0, [(0, .ref 199), (1, .int (zI (I b))), (2, .int (zI 6))], []) σ _
  have H0 : Hp σ ad (hq_u z 29 (z 29)) ar lr := by rw [hq_u_self]; exact H
  have hm : 0 ≤ z 23 ∧ z 23 ≤ 400 := ⟨M.m0, M.m4⟩
  have i0 := M.J.1 b b0 b1
  have i1 := M.lt b b0 b1
  refine pm_Fv.go 3 (f' := (159, 3, [(0, _), (1, _), (2, _)], [_, _, _])) rfl ?_
  refine pm_Fv.cv rfl rfl rfl rfl (by decide) (Nat.le_of_ble_eq_true rfl) (Nat.le_of_ble_eq_true rfl) H0.m199 H0.o199 (ev_isT L xs H0 h.l0 M b0 b1) ?_
  refine pm_Fv.zne rfl (by omega) rfl (fun h1 => ?_) (fun h1 => ?_)
  · refine pm_Fv.go 2 (f' := (159, 15, [(0, _), (1, _), (2, _)], [_, _, _])) rfl ?_
    refine pm_Fv.cvF rfl rfl rfl rfl (by decide) (Nat.le_of_ble_eq_true rfl) (Nat.le_of_ble_eq_true rfl) H0.m199 H0.o199 (ev_fz L xs H0) (fun s1 q1 => ?_)
    obtain ⟨H1, r1⟩ := q1
    refine pm_Fv.zne rfl (by omega) rfl (fun h2 => ?_) (fun h2 => ?_)
    · exact absurd h2 (by omega)
    · refine pm_Fv.go 3 (f' := (159, 24, [(0, _), (1, _), (2, _)], [_, _, _])) rfl ?_
      refine pm_Fv.bp rfl rfl ?_
      refine pm_Fv.call rfl rfl rfl rfl rfl (ev_w1 L xs (by omega) (by omega)) ?_
      refine pm_Fv.zne rfl (by omega) rfl (fun h3 => ?_) (fun h3 => ?_)
      · refine pm_Fv.go 2 (f' := (159, 38, [(0, _), (1, _), (2, _)], [_, _, _])) rfl ?_
        refine pm_Fv.cvF rfl rfl rfl rfl (by decide) (Nat.le_of_ble_eq_true rfl) (Nat.le_of_ble_eq_true rfl) H1.m199 H1.o199 (ev_fz L xs H1) (fun s2 q2 => ?_)
        obtain ⟨H2, r2⟩ := q2
        refine pm_Fv.zeq rfl (by omega) rfl (fun h4 => ?_) (fun h4 => ?_)
        · refine pm_Fv.go 5 (f' := (159, 206, [(0, _), (1, _), (2, _)], [_, _, _])) rfl ?_
          refine pm_Fv.cv rfl rfl rfl rfl (by decide) (Nat.le_of_ble_eq_true rfl) (Nat.le_of_ble_eq_true rfl) H2.m199 H2.o199 (ev_g L xs H2 h.l0 (by omega)) ?_
          exact pm_Fv.rv rfl rfl ⟨rfl, H2, (r2.trans r1)⟩
        · exact absurd h4 (by omega)
      · exact absurd h3 (by omega)
  · exact absurd h1 (by omega)
theorem ev_mtold0_7 (H : Hp σ ad z ar lr) (h : mo_H z ar) {n : Int} {I D : Int → Int} (M : mo_R (mo_g ar) (z 23) n I D) {b : Int} (b0 : 0 ≤ b) (b1 : b < n) : pm_Fv (tq_P L xs) (pm_enter 159 [.ref 199, .int (zI (I b)), .int (zI 7)]) σ (fun o s => o = .inl (some (.int (zI (fo_tgs (fun p => mo_g ar (I p) 6) D b)))) ∧ Hp s ad (hq_u z 29 0) ar lr ∧ s.2 = σ.2) := by
  show pm_Fv (tq_P L xs) (159, 0, [(0, .ref 199), (1, .int (zI (I b))), (2, .int (zI 7))], []) σ _
  have H0 : Hp σ ad (hq_u z 29 (z 29)) ar lr := by rw [hq_u_self]; exact H
  have hm : 0 ≤ z 23 ∧ z 23 ≤ 400 := ⟨M.m0, M.m4⟩
  have i0 := M.J.1 b b0 b1
  have i1 := M.lt b b0 b1
  refine pm_Fv.go 3 (f' := (159, 3, [(0, _), (1, _), (2, _)], [_, _, _])) rfl ?_
  refine pm_Fv.cv rfl rfl rfl rfl (by decide) (Nat.le_of_ble_eq_true rfl) (Nat.le_of_ble_eq_true rfl) H0.m199 H0.o199 (ev_isT L xs H0 h.l0 M b0 b1) ?_
  refine pm_Fv.zne rfl (by omega) rfl (fun h1 => ?_) (fun h1 => ?_)
  · refine pm_Fv.go 2 (f' := (159, 15, [(0, _), (1, _), (2, _)], [_, _, _])) rfl ?_
    refine pm_Fv.cvF rfl rfl rfl rfl (by decide) (Nat.le_of_ble_eq_true rfl) (Nat.le_of_ble_eq_true rfl) H0.m199 H0.o199 (ev_fz L xs H0) (fun s1 q1 => ?_)
    obtain ⟨H1, r1⟩ := q1
    refine pm_Fv.zne rfl (by omega) rfl (fun h2 => ?_) (fun h2 => ?_)
    · exact absurd h2 (by omega)
    · refine pm_Fv.go 3 (f' := (159, 24, [(0, _), (1, _), (2, _)], [_, _, _])) rfl ?_
      refine pm_Fv.bp rfl rfl ?_
      refine pm_Fv.call rfl rfl rfl rfl rfl (ev_w1 L xs (by omega) (by omega)) ?_
      refine pm_Fv.zne rfl (by omega) rfl (fun h3 => ?_) (fun h3 => ?_)
      · refine pm_Fv.go 2 (f' := (159, 38, [(0, _), (1, _), (2, _)], [_, _, _])) rfl ?_
        refine pm_Fv.cvF rfl rfl rfl rfl (by decide) (Nat.le_of_ble_eq_true rfl) (Nat.le_of_ble_eq_true rfl) H1.m199 H1.o199 (ev_fz L xs H1) (fun s2 q2 => ?_)
        obtain ⟨H2, r2⟩ := q2
        refine pm_Fv.zeq rfl (by omega) rfl (fun h4 => ?_) (fun h4 => ?_)
        · refine pm_Fv.go 4 (f' := (159, 146, [(0, _), (1, _), (2, _)], [_, _])) rfl ?_
          refine pm_Fv.cv rfl rfl rfl rfl (by decide) (Nat.le_of_ble_eq_true rfl) (Nat.le_of_ble_eq_true rfl) H2.m199 H2.o199 ((by have q := ev_allTags L xs H2 h.l0 M (x := b) (by omega) (Or.inl b1); rw [fo_id_at b0] at q; exact q)) ?_
          exact pm_Fv.rv rfl rfl ⟨rfl, H2, (r2.trans r1)⟩
        · exact absurd h4 (by omega)
      · exact absurd h3 (by omega)
  · exact absurd h1 (by omega)
theorem ev_mtold0_8 (H : Hp σ ad z ar lr) (h : mo_H z ar) {n : Int} {I D : Int → Int} (M : mo_R (mo_g ar) (z 23) n I D) {b : Int} (b0 : 0 ≤ b) (b1 : b < n) : pm_Fv (tq_P L xs) (pm_enter 159 [.ref 199, .int (zI (I b)), .int (zI 8)]) σ (fun o s => o = .inl (some (.int (zI (fo_cc D n b)))) ∧ Hp s ad (hq_u z 29 0) ar lr ∧ s.2 = σ.2) := by
  show pm_Fv (tq_P L xs) (159, 0, [(0, .ref 199), (1, .int (zI (I b))), (2, .int (zI 8))], []) σ _
  have H0 : Hp σ ad (hq_u z 29 (z 29)) ar lr := by rw [hq_u_self]; exact H
  have hm : 0 ≤ z 23 ∧ z 23 ≤ 400 := ⟨M.m0, M.m4⟩
  have i0 := M.J.1 b b0 b1
  have i1 := M.lt b b0 b1
  refine pm_Fv.go 3 (f' := (159, 3, [(0, _), (1, _), (2, _)], [_, _, _])) rfl ?_
  refine pm_Fv.cv rfl rfl rfl rfl (by decide) (Nat.le_of_ble_eq_true rfl) (Nat.le_of_ble_eq_true rfl) H0.m199 H0.o199 (ev_isT L xs H0 h.l0 M b0 b1) ?_
  refine pm_Fv.zne rfl (by omega) rfl (fun h1 => ?_) (fun h1 => ?_)
  · refine pm_Fv.go 2 (f' := (159, 15, [(0, _), (1, _), (2, _)], [_, _, _])) rfl ?_
    refine pm_Fv.cvF rfl rfl rfl rfl (by decide) (Nat.le_of_ble_eq_true rfl) (Nat.le_of_ble_eq_true rfl) H0.m199 H0.o199 (ev_fz L xs H0) (fun s1 q1 => ?_)
    obtain ⟨H1, r1⟩ := q1
    refine pm_Fv.zne rfl (by omega) rfl (fun h2 => ?_) (fun h2 => ?_)
    · exact absurd h2 (by omega)
    · refine pm_Fv.go 3 (f' := (159, 24, [(0, _), (1, _), (2, _)], [_, _, _])) rfl ?_
      refine pm_Fv.bp rfl rfl ?_
      refine pm_Fv.call rfl rfl rfl rfl rfl (ev_w1 L xs (by omega) (by omega)) ?_
      refine pm_Fv.zne rfl (by omega) rfl (fun h3 => ?_) (fun h3 => ?_)
      · refine pm_Fv.go 2 (f' := (159, 38, [(0, _), (1, _), (2, _)], [_, _, _])) rfl ?_
        refine pm_Fv.cvF rfl rfl rfl rfl (by decide) (Nat.le_of_ble_eq_true rfl) (Nat.le_of_ble_eq_true rfl) H1.m199 H1.o199 (ev_fz L xs H1) (fun s2 q2 => ?_)
        obtain ⟨H2, r2⟩ := q2
        refine pm_Fv.zeq rfl (by omega) rfl (fun h4 => ?_) (fun h4 => ?_)
        · refine pm_Fv.go 4 (f' := (159, 152, [(0, _), (1, _), (2, _)], [_, _])) rfl ?_
          refine pm_Fv.cv rfl rfl rfl rfl (by decide) (Nat.le_of_ble_eq_true rfl) (Nat.le_of_ble_eq_true rfl) H2.m199 H2.o199 ((by have q := ev_kids L xs H2 h.l0 M (r := b) (by omega) (Or.inl b1); rw [fo_id_at b0] at q; exact q)) ?_
          exact pm_Fv.rv rfl rfl ⟨rfl, H2, (r2.trans r1)⟩
        · exact absurd h4 (by omega)
      · exact absurd h3 (by omega)
  · exact absurd h1 (by omega)
theorem ev_mtold0_9 (H : Hp σ ad z ar lr) (h : mo_H z ar) {n : Int} {I D : Int → Int} (M : mo_R (mo_g ar) (z 23) n I D) {b : Int} (b0 : 0 ≤ b) (b1 : b < n) : pm_Fv (tq_P L xs) (pm_enter 159 [.ref 199, .int (zI (I b)), .int (zI 9)]) σ (fun o s => o = .inl (some (.int (zI (mo_g ar (I b) 7)))) ∧ Hp s ad (hq_u z 29 0) ar lr ∧ s.2 = σ.2) := by
  show pm_Fv (tq_P L xs) (159, 0, [(0, .ref 199), (1, .int (zI (I b))), (2, .int (zI 9))], []) σ _
  have H0 : Hp σ ad (hq_u z 29 (z 29)) ar lr := by rw [hq_u_self]; exact H
  have hm : 0 ≤ z 23 ∧ z 23 ≤ 400 := ⟨M.m0, M.m4⟩
  have i0 := M.J.1 b b0 b1
  have i1 := M.lt b b0 b1
  refine pm_Fv.go 3 (f' := (159, 3, [(0, _), (1, _), (2, _)], [_, _, _])) rfl ?_
  refine pm_Fv.cv rfl rfl rfl rfl (by decide) (Nat.le_of_ble_eq_true rfl) (Nat.le_of_ble_eq_true rfl) H0.m199 H0.o199 (ev_isT L xs H0 h.l0 M b0 b1) ?_
  refine pm_Fv.zne rfl (by omega) rfl (fun h1 => ?_) (fun h1 => ?_)
  · refine pm_Fv.go 2 (f' := (159, 15, [(0, _), (1, _), (2, _)], [_, _, _])) rfl ?_
    refine pm_Fv.cvF rfl rfl rfl rfl (by decide) (Nat.le_of_ble_eq_true rfl) (Nat.le_of_ble_eq_true rfl) H0.m199 H0.o199 (ev_fz L xs H0) (fun s1 q1 => ?_)
    obtain ⟨H1, r1⟩ := q1
    refine pm_Fv.zne rfl (by omega) rfl (fun h2 => ?_) (fun h2 => ?_)
    · exact absurd h2 (by omega)
    · refine pm_Fv.go 3 (f' := (159, 24, [(0, _), (1, _), (2, _)], [_, _, _])) rfl ?_
      refine pm_Fv.bp rfl rfl ?_
      refine pm_Fv.call rfl rfl rfl rfl rfl (ev_w1 L xs (by omega) (by omega)) ?_
      refine pm_Fv.zne rfl (by omega) rfl (fun h3 => ?_) (fun h3 => ?_)
      · refine pm_Fv.go 2 (f' := (159, 38, [(0, _), (1, _), (2, _)], [_, _, _])) rfl ?_
        refine pm_Fv.cvF rfl rfl rfl rfl (by decide) (Nat.le_of_ble_eq_true rfl) (Nat.le_of_ble_eq_true rfl) H1.m199 H1.o199 (ev_fz L xs H1) (fun s2 q2 => ?_)
        obtain ⟨H2, r2⟩ := q2
        refine pm_Fv.zeq rfl (by omega) rfl (fun h4 => ?_) (fun h4 => ?_)
        · refine pm_Fv.go 4 (f' := (159, 158, [(0, _), (1, _), (2, _)], [_, _])) rfl ?_
          refine pm_Fv.bp rfl rfl ?_
          refine pm_Fv.cv rfl rfl rfl rfl (by decide) (Nat.le_of_ble_eq_true rfl) (Nat.le_of_ble_eq_true rfl) H2.m199 H2.o199 (ev_g L xs H2 h.l0 (by omega)) ?_
          exact pm_Fv.rv rfl rfl ⟨rfl, H2, (r2.trans r1)⟩
        · exact absurd h4 (by omega)
      · exact absurd h3 (by omega)
  · exact absurd h1 (by omega)
theorem ev_mtold0_10 (H : Hp σ ad z ar lr) (h : mo_H z ar) {n : Int} {I D : Int → Int} (M : mo_R (mo_g ar) (z 23) n I D) {b : Int} (b0 : 0 ≤ b) (b1 : b < n) : pm_Fv (tq_P L xs) (pm_enter 159 [.ref 199, .int (zI (I b)), .int (zI 10)]) σ (fun o s => o = .inl (some (.int (zI (mo_g ar (I b) 8)))) ∧ Hp s ad (hq_u z 29 0) ar lr ∧ s.2 = σ.2) := by
  show pm_Fv (tq_P L xs) (159, 0, [(0, .ref 199), (1, .int (zI (I b))), (2, .int (zI 10))], []) σ _
  have H0 : Hp σ ad (hq_u z 29 (z 29)) ar lr := by rw [hq_u_self]; exact H
  have hm : 0 ≤ z 23 ∧ z 23 ≤ 400 := ⟨M.m0, M.m4⟩
  have i0 := M.J.1 b b0 b1
  have i1 := M.lt b b0 b1
  refine pm_Fv.go 3 (f' := (159, 3, [(0, _), (1, _), (2, _)], [_, _, _])) rfl ?_
  refine pm_Fv.cv rfl rfl rfl rfl (by decide) (Nat.le_of_ble_eq_true rfl) (Nat.le_of_ble_eq_true rfl) H0.m199 H0.o199 (ev_isT L xs H0 h.l0 M b0 b1) ?_
  refine pm_Fv.zne rfl (by omega) rfl (fun h1 => ?_) (fun h1 => ?_)
  · refine pm_Fv.go 2 (f' := (159, 15, [(0, _), (1, _), (2, _)], [_, _, _])) rfl ?_
    refine pm_Fv.cvF rfl rfl rfl rfl (by decide) (Nat.le_of_ble_eq_true rfl) (Nat.le_of_ble_eq_true rfl) H0.m199 H0.o199 (ev_fz L xs H0) (fun s1 q1 => ?_)
    obtain ⟨H1, r1⟩ := q1
    refine pm_Fv.zne rfl (by omega) rfl (fun h2 => ?_) (fun h2 => ?_)
    · exact absurd h2 (by omega)
    · refine pm_Fv.go 3 (f' := (159, 24, [(0, _), (1, _), (2, _)], [_, _, _])) rfl ?_
      refine pm_Fv.bp rfl rfl ?_
      refine pm_Fv.call rfl rfl rfl rfl rfl (ev_w1 L xs (by omega) (by omega)) ?_
      refine pm_Fv.zne rfl (by omega) rfl (fun h3 => ?_) (fun h3 => ?_)
      · refine pm_Fv.go 2 (f' := (159, 38, [(0, _), (1, _), (2, _)], [_, _, _])) rfl ?_
        refine pm_Fv.cvF rfl rfl rfl rfl (by decide) (Nat.le_of_ble_eq_true rfl) (Nat.le_of_ble_eq_true rfl) H1.m199 H1.o199 (ev_fz L xs H1) (fun s2 q2 => ?_)
        obtain ⟨H2, r2⟩ := q2
        refine pm_Fv.zeq rfl (by omega) rfl (fun h4 => ?_) (fun h4 => ?_)
        · refine pm_Fv.go 4 (f' := (159, 166, [(0, _), (1, _), (2, _)], [_, _])) rfl ?_
          refine pm_Fv.bp rfl rfl ?_
          refine pm_Fv.go 1 (f' := (159, 169, [(0, _), (1, _), (2, _)], [_, _, _, _])) rfl ?_
          refine pm_Fv.iadd rfl ?_
          refine pm_Fv.bp rfl rfl ?_
          refine pm_Fv.isub rfl ?_
          rw [show (8 : Int) + 10 - 10 = 8 from rfl]
          refine pm_Fv.cv rfl rfl rfl rfl (by decide) (Nat.le_of_ble_eq_true rfl) (Nat.le_of_ble_eq_true rfl) H2.m199 H2.o199 (ev_g L xs H2 h.l0 (by omega)) ?_
          exact pm_Fv.rv rfl rfl ⟨rfl, H2, (r2.trans r1)⟩
        · exact absurd h4 (by omega)
      · exact absurd h3 (by omega)
  · exact absurd h1 (by omega)
theorem ev_mtold0_11 (H : Hp σ ad z ar lr) (h : mo_H z ar) {n : Int} {I D : Int → Int} (M : mo_R (mo_g ar) (z 23) n I D) {b : Int} (b0 : 0 ≤ b) (b1 : b < n) : pm_Fv (tq_P L xs) (pm_enter 159 [.ref 199, .int (zI (I b)), .int (zI 11)]) σ (fun o s => o = .inl (some (.int (zI (mo_g ar (I b) 9)))) ∧ Hp s ad (hq_u z 29 0) ar lr ∧ s.2 = σ.2) := by
  show pm_Fv (tq_P L xs) (159, 0, [(0, .ref 199), (1, .int (zI (I b))), (2, .int (zI 11))], []) σ _
  have H0 : Hp σ ad (hq_u z 29 (z 29)) ar lr := by rw [hq_u_self]; exact H
  have hm : 0 ≤ z 23 ∧ z 23 ≤ 400 := ⟨M.m0, M.m4⟩
  have i0 := M.J.1 b b0 b1
  have i1 := M.lt b b0 b1
  refine pm_Fv.go 3 (f' := (159, 3, [(0, _), (1, _), (2, _)], [_, _, _])) rfl ?_
  refine pm_Fv.cv rfl rfl rfl rfl (by decide) (Nat.le_of_ble_eq_true rfl) (Nat.le_of_ble_eq_true rfl) H0.m199 H0.o199 (ev_isT L xs H0 h.l0 M b0 b1) ?_
  refine pm_Fv.zne rfl (by omega) rfl (fun h1 => ?_) (fun h1 => ?_)
  · refine pm_Fv.go 2 (f' := (159, 15, [(0, _), (1, _), (2, _)], [_, _, _])) rfl ?_
    refine pm_Fv.cvF rfl rfl rfl rfl (by decide) (Nat.le_of_ble_eq_true rfl) (Nat.le_of_ble_eq_true rfl) H0.m199 H0.o199 (ev_fz L xs H0) (fun s1 q1 => ?_)
    obtain ⟨H1, r1⟩ := q1
    refine pm_Fv.zne rfl (by omega) rfl (fun h2 => ?_) (fun h2 => ?_)
    · exact absurd h2 (by omega)
    · refine pm_Fv.go 3 (f' := (159, 24, [(0, _), (1, _), (2, _)], [_, _, _])) rfl ?_
      refine pm_Fv.bp rfl rfl ?_
      refine pm_Fv.call rfl rfl rfl rfl rfl (ev_w1 L xs (by omega) (by omega)) ?_
      refine pm_Fv.zne rfl (by omega) rfl (fun h3 => ?_) (fun h3 => ?_)
      · refine pm_Fv.go 2 (f' := (159, 38, [(0, _), (1, _), (2, _)], [_, _, _])) rfl ?_
        refine pm_Fv.cvF rfl rfl rfl rfl (by decide) (Nat.le_of_ble_eq_true rfl) (Nat.le_of_ble_eq_true rfl) H1.m199 H1.o199 (ev_fz L xs H1) (fun s2 q2 => ?_)
        obtain ⟨H2, r2⟩ := q2
        refine pm_Fv.zeq rfl (by omega) rfl (fun h4 => ?_) (fun h4 => ?_)
        · refine pm_Fv.go 4 (f' := (159, 166, [(0, _), (1, _), (2, _)], [_, _])) rfl ?_
          refine pm_Fv.bp rfl rfl ?_
          refine pm_Fv.go 1 (f' := (159, 169, [(0, _), (1, _), (2, _)], [_, _, _, _])) rfl ?_
          refine pm_Fv.iadd rfl ?_
          refine pm_Fv.bp rfl rfl ?_
          refine pm_Fv.isub rfl ?_
          rw [show (8 : Int) + 11 - 10 = 9 from rfl]
          refine pm_Fv.cv rfl rfl rfl rfl (by decide) (Nat.le_of_ble_eq_true rfl) (Nat.le_of_ble_eq_true rfl) H2.m199 H2.o199 (ev_g L xs H2 h.l0 (by omega)) ?_
          exact pm_Fv.rv rfl rfl ⟨rfl, H2, (r2.trans r1)⟩
        · exact absurd h4 (by omega)
      · exact absurd h3 (by omega)
  · exact absurd h1 (by omega)
theorem ev_mtold0_12 (H : Hp σ ad z ar lr) (h : mo_H z ar) {n : Int} {I D : Int → Int} (M : mo_R (mo_g ar) (z 23) n I D) {b : Int} (b0 : 0 ≤ b) (b1 : b < n) : pm_Fv (tq_P L xs) (pm_enter 159 [.ref 199, .int (zI (I b)), .int (zI 12)]) σ (fun o s => o = .inl (some (.int (zI (mo_g ar (I b) 12)))) ∧ Hp s ad (hq_u z 29 0) ar lr ∧ s.2 = σ.2) := by
  show pm_Fv (tq_P L xs) (159, 0, [(0, .ref 199), (1, .int (zI (I b))), (2, .int (zI 12))], []) σ _
  have H0 : Hp σ ad (hq_u z 29 (z 29)) ar lr := by rw [hq_u_self]; exact H
  have hm : 0 ≤ z 23 ∧ z 23 ≤ 400 := ⟨M.m0, M.m4⟩
  have i0 := M.J.1 b b0 b1
  have i1 := M.lt b b0 b1
  refine pm_Fv.go 3 (f' := (159, 3, [(0, _), (1, _), (2, _)], [_, _, _])) rfl ?_
  refine pm_Fv.cv rfl rfl rfl rfl (by decide) (Nat.le_of_ble_eq_true rfl) (Nat.le_of_ble_eq_true rfl) H0.m199 H0.o199 (ev_isT L xs H0 h.l0 M b0 b1) ?_
  refine pm_Fv.zne rfl (by omega) rfl (fun h1 => ?_) (fun h1 => ?_)
  · refine pm_Fv.go 2 (f' := (159, 15, [(0, _), (1, _), (2, _)], [_, _, _])) rfl ?_
    refine pm_Fv.cvF rfl rfl rfl rfl (by decide) (Nat.le_of_ble_eq_true rfl) (Nat.le_of_ble_eq_true rfl) H0.m199 H0.o199 (ev_fz L xs H0) (fun s1 q1 => ?_)
    obtain ⟨H1, r1⟩ := q1
    refine pm_Fv.zne rfl (by omega) rfl (fun h2 => ?_) (fun h2 => ?_)
    · exact absurd h2 (by omega)
    · refine pm_Fv.go 3 (f' := (159, 24, [(0, _), (1, _), (2, _)], [_, _, _])) rfl ?_
      refine pm_Fv.bp rfl rfl ?_
      refine pm_Fv.call rfl rfl rfl rfl rfl (ev_w1 L xs (by omega) (by omega)) ?_
      refine pm_Fv.zne rfl (by omega) rfl (fun h3 => ?_) (fun h3 => ?_)
      · refine pm_Fv.go 2 (f' := (159, 38, [(0, _), (1, _), (2, _)], [_, _, _])) rfl ?_
        refine pm_Fv.cvF rfl rfl rfl rfl (by decide) (Nat.le_of_ble_eq_true rfl) (Nat.le_of_ble_eq_true rfl) H1.m199 H1.o199 (ev_fz L xs H1) (fun s2 q2 => ?_)
        obtain ⟨H2, r2⟩ := q2
        refine pm_Fv.zeq rfl (by omega) rfl (fun h4 => ?_) (fun h4 => ?_)
        · refine pm_Fv.go 4 (f' := (159, 179, [(0, _), (1, _), (2, _)], [_, _])) rfl ?_
          refine pm_Fv.bp rfl rfl ?_
          refine pm_Fv.go 1 (f' := (159, 182, [(0, _), (1, _), (2, _)], [_, _, _, _])) rfl ?_
          refine pm_Fv.iadd rfl ?_
          refine pm_Fv.bp rfl rfl ?_
          refine pm_Fv.isub rfl ?_
          rw [show (12 : Int) + 12 - 12 = 12 from rfl]
          refine pm_Fv.cv rfl rfl rfl rfl (by decide) (Nat.le_of_ble_eq_true rfl) (Nat.le_of_ble_eq_true rfl) H2.m199 H2.o199 (ev_g L xs H2 h.l0 (by omega)) ?_
          exact pm_Fv.rv rfl rfl ⟨rfl, H2, (r2.trans r1)⟩
        · exact absurd h4 (by omega)
      · exact absurd h3 (by omega)
  · exact absurd h1 (by omega)
theorem ev_mtold0_13 (H : Hp σ ad z ar lr) (h : mo_H z ar) {n : Int} {I D : Int → Int} (M : mo_R (mo_g ar) (z 23) n I D) {b : Int} (b0 : 0 ≤ b) (b1 : b < n) : pm_Fv (tq_P L xs) (pm_enter 159 [.ref 199, .int (zI (I b)), .int (zI 13)]) σ (fun o s => o = .inl (some (.int (zI (mo_g ar (I b) 13)))) ∧ Hp s ad (hq_u z 29 0) ar lr ∧ s.2 = σ.2) := by
  show pm_Fv (tq_P L xs) (159, 0, [(0, .ref 199), (1, .int (zI (I b))), (2, .int (zI 13))], []) σ _
  have H0 : Hp σ ad (hq_u z 29 (z 29)) ar lr := by rw [hq_u_self]; exact H
  have hm : 0 ≤ z 23 ∧ z 23 ≤ 400 := ⟨M.m0, M.m4⟩
  have i0 := M.J.1 b b0 b1
  have i1 := M.lt b b0 b1
  refine pm_Fv.go 3 (f' := (159, 3, [(0, _), (1, _), (2, _)], [_, _, _])) rfl ?_
  refine pm_Fv.cv rfl rfl rfl rfl (by decide) (Nat.le_of_ble_eq_true rfl) (Nat.le_of_ble_eq_true rfl) H0.m199 H0.o199 (ev_isT L xs H0 h.l0 M b0 b1) ?_
  refine pm_Fv.zne rfl (by omega) rfl (fun h1 => ?_) (fun h1 => ?_)
  · refine pm_Fv.go 2 (f' := (159, 15, [(0, _), (1, _), (2, _)], [_, _, _])) rfl ?_
    refine pm_Fv.cvF rfl rfl rfl rfl (by decide) (Nat.le_of_ble_eq_true rfl) (Nat.le_of_ble_eq_true rfl) H0.m199 H0.o199 (ev_fz L xs H0) (fun s1 q1 => ?_)
    obtain ⟨H1, r1⟩ := q1
    refine pm_Fv.zne rfl (by omega) rfl (fun h2 => ?_) (fun h2 => ?_)
    · exact absurd h2 (by omega)
    · refine pm_Fv.go 3 (f' := (159, 24, [(0, _), (1, _), (2, _)], [_, _, _])) rfl ?_
      refine pm_Fv.bp rfl rfl ?_
      refine pm_Fv.call rfl rfl rfl rfl rfl (ev_w1 L xs (by omega) (by omega)) ?_
      refine pm_Fv.zne rfl (by omega) rfl (fun h3 => ?_) (fun h3 => ?_)
      · refine pm_Fv.go 2 (f' := (159, 38, [(0, _), (1, _), (2, _)], [_, _, _])) rfl ?_
        refine pm_Fv.cvF rfl rfl rfl rfl (by decide) (Nat.le_of_ble_eq_true rfl) (Nat.le_of_ble_eq_true rfl) H1.m199 H1.o199 (ev_fz L xs H1) (fun s2 q2 => ?_)
        obtain ⟨H2, r2⟩ := q2
        refine pm_Fv.zeq rfl (by omega) rfl (fun h4 => ?_) (fun h4 => ?_)
        · refine pm_Fv.go 4 (f' := (159, 179, [(0, _), (1, _), (2, _)], [_, _])) rfl ?_
          refine pm_Fv.bp rfl rfl ?_
          refine pm_Fv.go 1 (f' := (159, 182, [(0, _), (1, _), (2, _)], [_, _, _, _])) rfl ?_
          refine pm_Fv.iadd rfl ?_
          refine pm_Fv.bp rfl rfl ?_
          refine pm_Fv.isub rfl ?_
          rw [show (12 : Int) + 13 - 12 = 13 from rfl]
          refine pm_Fv.cv rfl rfl rfl rfl (by decide) (Nat.le_of_ble_eq_true rfl) (Nat.le_of_ble_eq_true rfl) H2.m199 H2.o199 (ev_g L xs H2 h.l0 (by omega)) ?_
          exact pm_Fv.rv rfl rfl ⟨rfl, H2, (r2.trans r1)⟩
        · exact absurd h4 (by omega)
      · exact absurd h3 (by omega)
  · exact absurd h1 (by omega)
theorem ev_mtold0_14 (H : Hp σ ad z ar lr) (h : mo_H z ar) {n : Int} {I D : Int → Int} (M : mo_R (mo_g ar) (z 23) n I D) {b : Int} (b0 : 0 ≤ b) (b1 : b < n) : pm_Fv (tq_P L xs) (pm_enter 159 [.ref 199, .int (zI (I b)), .int (zI 14)]) σ (fun o s => o = .inl (some (.int (zI (mo_g ar (I b) 10)))) ∧ Hp s ad (hq_u z 29 0) ar lr ∧ s.2 = σ.2) := by
  show pm_Fv (tq_P L xs) (159, 0, [(0, .ref 199), (1, .int (zI (I b))), (2, .int (zI 14))], []) σ _
  have H0 : Hp σ ad (hq_u z 29 (z 29)) ar lr := by rw [hq_u_self]; exact H
  have hm : 0 ≤ z 23 ∧ z 23 ≤ 400 := ⟨M.m0, M.m4⟩
  have i0 := M.J.1 b b0 b1
  have i1 := M.lt b b0 b1
  refine pm_Fv.go 3 (f' := (159, 3, [(0, _), (1, _), (2, _)], [_, _, _])) rfl ?_
  refine pm_Fv.cv rfl rfl rfl rfl (by decide) (Nat.le_of_ble_eq_true rfl) (Nat.le_of_ble_eq_true rfl) H0.m199 H0.o199 (ev_isT L xs H0 h.l0 M b0 b1) ?_
  refine pm_Fv.zne rfl (by omega) rfl (fun h1 => ?_) (fun h1 => ?_)
  · refine pm_Fv.go 2 (f' := (159, 15, [(0, _), (1, _), (2, _)], [_, _, _])) rfl ?_
    refine pm_Fv.cvF rfl rfl rfl rfl (by decide) (Nat.le_of_ble_eq_true rfl) (Nat.le_of_ble_eq_true rfl) H0.m199 H0.o199 (ev_fz L xs H0) (fun s1 q1 => ?_)
    obtain ⟨H1, r1⟩ := q1
    refine pm_Fv.zne rfl (by omega) rfl (fun h2 => ?_) (fun h2 => ?_)
    · exact absurd h2 (by omega)
    · refine pm_Fv.go 3 (f' := (159, 24, [(0, _), (1, _), (2, _)], [_, _, _])) rfl ?_
      refine pm_Fv.bp rfl rfl ?_
      refine pm_Fv.call rfl rfl rfl rfl rfl (ev_w1 L xs (by omega) (by omega)) ?_
      refine pm_Fv.zne rfl (by omega) rfl (fun h3 => ?_) (fun h3 => ?_)
      · refine pm_Fv.go 2 (f' := (159, 38, [(0, _), (1, _), (2, _)], [_, _, _])) rfl ?_
        refine pm_Fv.cvF rfl rfl rfl rfl (by decide) (Nat.le_of_ble_eq_true rfl) (Nat.le_of_ble_eq_true rfl) H1.m199 H1.o199 (ev_fz L xs H1) (fun s2 q2 => ?_)
        obtain ⟨H2, r2⟩ := q2
        refine pm_Fv.zeq rfl (by omega) rfl (fun h4 => ?_) (fun h4 => ?_)
        · refine pm_Fv.go 4 (f' := (159, 192, [(0, _), (1, _), (2, _)], [_, _])) rfl ?_
          refine pm_Fv.bp rfl rfl ?_
          refine pm_Fv.go 1 (f' := (159, 195, [(0, _), (1, _), (2, _)], [_, _, _, _])) rfl ?_
          refine pm_Fv.iadd rfl ?_
          refine pm_Fv.bp rfl rfl ?_
          refine pm_Fv.isub rfl ?_
          rw [show (10 : Int) + 14 - 14 = 10 from rfl]
          refine pm_Fv.cv rfl rfl rfl rfl (by decide) (Nat.le_of_ble_eq_true rfl) (Nat.le_of_ble_eq_true rfl) H2.m199 H2.o199 (ev_g L xs H2 h.l0 (by omega)) ?_
          exact pm_Fv.rv rfl rfl ⟨rfl, H2, (r2.trans r1)⟩
        · exact absurd h4 (by omega)
      · exact absurd h3 (by omega)
  · exact absurd h1 (by omega)
theorem ev_mtold0_15 (H : Hp σ ad z ar lr) (h : mo_H z ar) {n : Int} {I D : Int → Int} (M : mo_R (mo_g ar) (z 23) n I D) {b : Int} (b0 : 0 ≤ b) (b1 : b < n) : pm_Fv (tq_P L xs) (pm_enter 159 [.ref 199, .int (zI (I b)), .int (zI 15)]) σ (fun o s => o = .inl (some (.int (zI (mo_g ar (I b) 11)))) ∧ Hp s ad (hq_u z 29 0) ar lr ∧ s.2 = σ.2) := by
  show pm_Fv (tq_P L xs) (159, 0, [(0, .ref 199), (1, .int (zI (I b))), (2, .int (zI 15))], []) σ _
  have H0 : Hp σ ad (hq_u z 29 (z 29)) ar lr := by rw [hq_u_self]; exact H
  have hm : 0 ≤ z 23 ∧ z 23 ≤ 400 := ⟨M.m0, M.m4⟩
  have i0 := M.J.1 b b0 b1
  have i1 := M.lt b b0 b1
  refine pm_Fv.go 3 (f' := (159, 3, [(0, _), (1, _), (2, _)], [_, _, _])) rfl ?_
  refine pm_Fv.cv rfl rfl rfl rfl (by decide) (Nat.le_of_ble_eq_true rfl) (Nat.le_of_ble_eq_true rfl) H0.m199 H0.o199 (ev_isT L xs H0 h.l0 M b0 b1) ?_
  refine pm_Fv.zne rfl (by omega) rfl (fun h1 => ?_) (fun h1 => ?_)
  · refine pm_Fv.go 2 (f' := (159, 15, [(0, _), (1, _), (2, _)], [_, _, _])) rfl ?_
    refine pm_Fv.cvF rfl rfl rfl rfl (by decide) (Nat.le_of_ble_eq_true rfl) (Nat.le_of_ble_eq_true rfl) H0.m199 H0.o199 (ev_fz L xs H0) (fun s1 q1 => ?_)
    obtain ⟨H1, r1⟩ := q1
    refine pm_Fv.zne rfl (by omega) rfl (fun h2 => ?_) (fun h2 => ?_)
    · exact absurd h2 (by omega)
    · refine pm_Fv.go 3 (f' := (159, 24, [(0, _), (1, _), (2, _)], [_, _, _])) rfl ?_
      refine pm_Fv.bp rfl rfl ?_
      refine pm_Fv.call rfl rfl rfl rfl rfl (ev_w1 L xs (by omega) (by omega)) ?_
      refine pm_Fv.zne rfl (by omega) rfl (fun h3 => ?_) (fun h3 => ?_)
      · refine pm_Fv.go 2 (f' := (159, 38, [(0, _), (1, _), (2, _)], [_, _, _])) rfl ?_
        refine pm_Fv.cvF rfl rfl rfl rfl (by decide) (Nat.le_of_ble_eq_true rfl) (Nat.le_of_ble_eq_true rfl) H1.m199 H1.o199 (ev_fz L xs H1) (fun s2 q2 => ?_)
        obtain ⟨H2, r2⟩ := q2
        refine pm_Fv.zeq rfl (by omega) rfl (fun h4 => ?_) (fun h4 => ?_)
        · refine pm_Fv.go 4 (f' := (159, 192, [(0, _), (1, _), (2, _)], [_, _])) rfl ?_
          refine pm_Fv.bp rfl rfl ?_
          refine pm_Fv.go 1 (f' := (159, 195, [(0, _), (1, _), (2, _)], [_, _, _, _])) rfl ?_
          refine pm_Fv.iadd rfl ?_
          refine pm_Fv.bp rfl rfl ?_
          refine pm_Fv.isub rfl ?_
          rw [show (10 : Int) + 15 - 14 = 11 from rfl]
          refine pm_Fv.cv rfl rfl rfl rfl (by decide) (Nat.le_of_ble_eq_true rfl) (Nat.le_of_ble_eq_true rfl) H2.m199 H2.o199 (ev_g L xs H2 h.l0 (by omega)) ?_
          exact pm_Fv.rv rfl rfl ⟨rfl, H2, (r2.trans r1)⟩
        · exact absurd h4 (by omega)
      · exact absurd h3 (by omega)
  · exact absurd h1 (by omega)
theorem ev_mlineL {n : Int} {I : Int → Int} (H : Hp σ ad (hq_u z 27 n) (mo_or ar I n) lr) (h : mo_H z ar) {D : Int → Int} (M : mo_R (mo_g ar) (z 23) n I D) {i : Int} (hi : -2147483648 ≤ i ∧ i ≤ 2147483647) : ∀ (j : Nat) (k c : Int), 0 ≤ k → k + j = n → 0 ≤ c → c ≤ k → pm_Ev (tq_P L xs) (156, 13, [(3, .int (zI k)), (2, .int (zI c)), (0, .ref 199), (1, .int (zI i))], []) σ (.inl (some (.int (zI (fo_ln (fo_sns (fun p => mo_g ar (I p) 7) D) I i j k c)))), σ) := by
  intro j
  have nm := M.nm
  have m4 := M.m4
  induction j with
  | zero =>
    intro k c k0 kj c0 c1
    have e : k = n := by omega
    rw [fo_ln]
    refine pm_Ev.go 2 (f' := (156, 15, [(3, _), (2, _), (0, _), (1, _)], [_, _])) rfl ?_
    refine pm_Ev.gf rfl rfl H.m199 H.o199 rfl ?_
    rw [hq_u_at]
    refine pm_Ev.jge rfl (by omega) rfl (fun h1 => ?_) (fun h1 => ?_)
    · refine pm_Ev.go 1 (f' := (156, 59, [(3, _), (2, _), (0, _), (1, _)], [_])) rfl ?_
      exact pm_Ev.rv rfl rfl rfl
    · exact absurd h1 (by omega)
  | succ j ih =>
    intro k c k0 kj c0 c1
    have i0 := M.J.1 k k0 (by omega)
    have i1 := M.lt k k0 (by omega)
    have og := mo_or_g ar I (x := k) (k := n) k0 (by omega) (by omega)
    have y := ev_isSeen L xs H (show (ar 200).1 = 5600 from h.l0) M (x := k) k0 (by omega)
    have y2 : pm_Ev (tq_P L xs) (pm_enter 155 [.ref 199, .int (zI (I k))]) σ (.inl (some (.int (zI (fo_sns (fun p => mo_g ar (I p) 7) D k)))), σ) := y
    have s01 : fo_sns (fun p => mo_g ar (I p) 7) D k = 0 ∨ fo_sns (fun p => mo_g ar (I p) 7) D k = 1 := fo_sn_01 _ _ _ _
    rw [fo_ln]
    by_cases s1 : fo_sns (fun p => mo_g ar (I p) 7) D k = 1
    · rw [s1] at y2
      rw [if_pos s1]
      by_cases d : c = i
      · rw [if_pos d]
        refine pm_Ev.go 2 (f' := (156, 15, [(3, _), (2, _), (0, _), (1, _)], [_, _])) rfl ?_
        refine pm_Ev.gf rfl rfl H.m199 H.o199 rfl ?_
        rw [hq_u_at]
        refine pm_Ev.jge rfl (by omega) rfl (fun h1 => ?_) (fun h1 => ?_)
        · exact absurd h1 (by omega)
        · refine pm_Ev.go 2 (f' := (156, 23, [(3, _), (2, _), (0, _), (1, _)], [_, _])) rfl ?_
          refine pm_Ev.gf rfl rfl H.m199 H.o199 rfl ?_
          refine pm_Ev.go 1 (f' := (156, 27, [(3, _), (2, _), (0, _), (1, _)], [_, _, _])) rfl ?_
          refine pm_Ev.fia H rfl (by decide) rfl rfl (by show 0 ≤ k ∧ k < (ar 203).1 ∧ (ar 203).1 ≤ 2147483647; rw [h.l3]; omega) ?_
          rw [og]
          refine pm_Ev.cv rfl rfl rfl rfl (by decide) (Nat.le_of_ble_eq_true rfl) (Nat.le_of_ble_eq_true rfl) H.m199 H.o199 (y2) ?_
          refine pm_Ev.zne rfl (by omega) rfl (fun h2 => ?_) (fun h2 => ?_)
          · refine pm_Ev.go 2 (f' := (156, 39, [(3, _), (2, _), (0, _), (1, _)], [_, _])) rfl ?_
            refine pm_Ev.jne rfl (by omega) rfl (fun h3 => ?_) (fun h3 => ?_)
            · exact absurd h3 (by omega)
            · refine pm_Ev.go 1 (f' := (156, 43, [(3, _), (2, _), (0, _), (1, _)], [_])) rfl ?_
              refine pm_Ev.gf rfl rfl H.m199 H.o199 rfl ?_
              refine pm_Ev.go 1 (f' := (156, 47, [(3, _), (2, _), (0, _), (1, _)], [_, _])) rfl ?_
              refine pm_Ev.fia H rfl (by decide) rfl rfl (by show 0 ≤ k ∧ k < (ar 203).1 ∧ (ar 203).1 ≤ 2147483647; rw [h.l3]; omega) ?_
              rw [og]
              exact pm_Ev.rv rfl rfl rfl
          · exact absurd h2 (by omega)
      · rw [if_neg d]
        refine pm_Ev.go 2 (f' := (156, 15, [(3, _), (2, _), (0, _), (1, _)], [_, _])) rfl ?_
        refine pm_Ev.gf rfl rfl H.m199 H.o199 rfl ?_
        rw [hq_u_at]
        refine pm_Ev.jge rfl (by omega) rfl (fun h1 => ?_) (fun h1 => ?_)
        · exact absurd h1 (by omega)
        · refine pm_Ev.go 2 (f' := (156, 23, [(3, _), (2, _), (0, _), (1, _)], [_, _])) rfl ?_
          refine pm_Ev.gf rfl rfl H.m199 H.o199 rfl ?_
          refine pm_Ev.go 1 (f' := (156, 27, [(3, _), (2, _), (0, _), (1, _)], [_, _, _])) rfl ?_
          refine pm_Ev.fia H rfl (by decide) rfl rfl (by show 0 ≤ k ∧ k < (ar 203).1 ∧ (ar 203).1 ≤ 2147483647; rw [h.l3]; omega) ?_
          rw [og]
          refine pm_Ev.cv rfl rfl rfl rfl (by decide) (Nat.le_of_ble_eq_true rfl) (Nat.le_of_ble_eq_true rfl) H.m199 H.o199 (y2) ?_
          refine pm_Ev.zne rfl (by omega) rfl (fun h2 => ?_) (fun h2 => ?_)
          · refine pm_Ev.go 2 (f' := (156, 39, [(3, _), (2, _), (0, _), (1, _)], [_, _])) rfl ?_
            refine pm_Ev.jne rfl (by omega) rfl (fun h3 => ?_) (fun h3 => ?_)
            · refine pm_Ev.inc rfl rfl (Nat.le_of_ble_eq_true rfl) ?_
              refine pm_Ev.inc rfl rfl (Nat.le_of_ble_eq_true rfl) ?_
              refine pm_Ev.go 1 (f' := (156, 13, [(3, _), (2, _), (0, _), (1, _)], [])) rfl ?_
              exact pm_Ev.weak (ih (k + 1) (c + 1) (by omega) (by omega) (by omega) (by omega)) rfl
            · exact absurd h3 (by omega)
          · exact absurd h2 (by omega)
    · have s0 : fo_sns (fun p => mo_g ar (I p) 7) D k = 0 := s01.elim id (fun q => absurd q s1)
      rw [s0] at y2
      rw [if_neg s1]
      refine pm_Ev.go 2 (f' := (156, 15, [(3, _), (2, _), (0, _), (1, _)], [_, _])) rfl ?_
      refine pm_Ev.gf rfl rfl H.m199 H.o199 rfl ?_
      rw [hq_u_at]
      refine pm_Ev.jge rfl (by omega) rfl (fun h1 => ?_) (fun h1 => ?_)
      · exact absurd h1 (by omega)
      · refine pm_Ev.go 2 (f' := (156, 23, [(3, _), (2, _), (0, _), (1, _)], [_, _])) rfl ?_
        refine pm_Ev.gf rfl rfl H.m199 H.o199 rfl ?_
        refine pm_Ev.go 1 (f' := (156, 27, [(3, _), (2, _), (0, _), (1, _)], [_, _, _])) rfl ?_
        refine pm_Ev.fia H rfl (by decide) rfl rfl (by show 0 ≤ k ∧ k < (ar 203).1 ∧ (ar 203).1 ≤ 2147483647; rw [h.l3]; omega) ?_
        rw [og]
        refine pm_Ev.cv rfl rfl rfl rfl (by decide) (Nat.le_of_ble_eq_true rfl) (Nat.le_of_ble_eq_true rfl) H.m199 H.o199 (y2) ?_
        refine pm_Ev.zne rfl (by omega) rfl (fun h2 => ?_) (fun h2 => ?_)
        · exact absurd h2 (by omega)
        · refine pm_Ev.go 1 (f' := (156, 52, [(3, _), (2, _), (0, _), (1, _)], [])) rfl ?_
          refine pm_Ev.inc rfl rfl (Nat.le_of_ble_eq_true rfl) ?_
          refine pm_Ev.go 1 (f' := (156, 13, [(3, _), (2, _), (0, _), (1, _)], [])) rfl ?_
          exact pm_Ev.weak (ih (k + 1) c (by omega) (by omega) (by omega) (by omega)) rfl
theorem ev_mline (H : Hp σ ad z ar lr) (h : mo_H z ar) {n : Int} {I D : Int → Int} (M : mo_R (mo_g ar) (z 23) n I D) {i : Int} (hi : -2147483648 ≤ i ∧ i ≤ 2147483647) : pm_Fv (tq_P L xs) (pm_enter 156 [.ref 199, .int (zI i)]) σ (fun o s => o = .inl (some (.int (zI (fo_ln (fo_sns (fun p => mo_g ar (I p) 7) D) I i n.toNat 0 0)))) ∧ Hp s ad (hq_u (hq_u z 29 0) 27 n) (mo_or ar I n) lr ∧ s.2 = σ.2) := by
  have n0 := M.W.2.1
  show pm_Fv (tq_P L xs) (156, 0, [(0, .ref 199), (1, .int (zI i))], []) σ _
  refine pm_Fv.go 2 (f' := (156, 2, [(0, _), (1, _)], [_, _])) rfl ?_
  refine pm_Fv.pz H 29 rfl rfl rfl (by decide) rfl rfl (Nat.le_of_ble_eq_true rfl) rfl (by decide) rfl (fun s1 H1 r1 => ?_)
  refine pm_Fv.go 1 (f' := (156, 6, [(0, _), (1, _)], [_])) rfl ?_
  refine pm_Fv.cvF rfl rfl rfl rfl (by decide) (Nat.le_of_ble_eq_true rfl) (Nat.le_of_ble_eq_true rfl) H1.m199 H1.o199 (ev_arrange L xs H1 h.l0 M h.l3) (fun s2 q2 => ?_)
  obtain ⟨H2, r2⟩ := q2
  refine pm_Fv.go 4 (f' := (156, 13, [(3, _), (2, _), (0, _), (1, _)], [])) rfl ?_
  exact pm_Fv.of (ev_mlineL L xs H2 (z := hq_u z 29 0) h M hi n.toNat 0 0 (by omega) (by omega) (by omega) (by omega)) ⟨rfl, H2, (r2.trans r1)⟩
end MS
