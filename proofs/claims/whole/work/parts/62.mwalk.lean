/-! the reference: up the parents -/
theorem mo_R.idr {g : Int → Int → Int} {m n : Int} {I D : Int → Int} (M : mo_R g m n I D) {x : Int} (x0 : -1 ≤ x) (x1 : x < n ∨ x = -1) : -1 ≤ fo_id I x ∧ fo_id I x < 400 ∧ (fo_id I x = -1 ↔ x = -1) := by
  have m4 := M.m4
  unfold fo_id
  by_cases c : x = -1
  · rw [if_pos c]
    omega
  · rw [if_neg c]
    have a := M.J.1 x (by omega) (by omega)
    have b := M.lt x (by omega) (by omega)
    omega
theorem fo_id_at {I : Int → Int} {x : Int} (h : 0 ≤ x) : fo_id I x = I x := if_neg (by omega)
theorem mo_cn_fs (ar : Nat → Nat × (Nat → Int32)) (p : Int) : ∀ n : Nat, mo_cn ar p n = fs (fun e => if mo_g ar e 0 = 1 ∧ mo_g ar e 1 = p then 1 else 0) 0 n
  | 0 => by
    rw [mo_cn, fs_0 (by omega)]
  | n + 1 => by
    rw [mo_cn, mo_cn_fs ar p n, show ((n + 1 : Nat) : Int) = (n : Int) + 1 by omega, fs_r (by omega)]
section MS
variable (L : Nat) (xs : Nat → Int32)
variable {σ : pm_S} {ad : Nat → Nat} {z : Nat → Int} {ar : Nat → Nat × (Nat → Int32)} {lr : Nat → Nat × (Nat → Int64)}
theorem mo_R.gp {n : Int} {I D : Int → Int} (M : mo_R (mo_g ar) (z 23) n I D) {x : Int} (x0 : 0 ≤ x) (x1 : x < n) : mo_g ar (fo_id I x) 1 = fo_id I (fo_par D x) := by
  rw [fo_id_at x0]
  exact (M.R x x0 x1).1
theorem ev_depthL (H : Hp σ ad z ar lr) (hl : (ar 200).1 = 5600) {n : Int} {I D : Int → Int} (M : mo_R (mo_g ar) (z 23) n I D) {v : Int} : ∀ (k : Nat) (x c : Int), -1 ≤ x → x < k → (x < n ∨ x = -1) → pm_Ev (tq_P L xs) (114, 4, [(3, .int (zI (fo_id I x))), (2, .int (zI c)), (0, .ref 199), (1, .int (zI v))], []) σ (.inl (some (.int (zI (c + D x)))), σ) := by
  intro k
  induction k with
  | zero =>
    intro x c x0 xk x1
    have xe : x = -1 := by omega
    subst xe
    have id := M.idr x0 x1
    have d0 := M.W.1
    refine pm_Ev.go 2 (f' := (114, 6, [(3, _), (2, _), (0, _), (1, _)], [_, _])) rfl ?_
    refine pm_Ev.jeq rfl (by omega) rfl (fun h1 => ?_) (fun h1 => ?_)
    · refine pm_Ev.go 1 (f' := (114, 23, [(3, _), (2, _), (0, _), (1, _)], [_])) rfl ?_
      exact pm_Ev.rv rfl rfl (by omega)
    · exact absurd h1 (by omega)
  | succ k ih =>
    intro x c x0 xk x1
    have id := M.idr x0 x1
    have d0 := M.W.1
    refine pm_Ev.go 2 (f' := (114, 6, [(3, _), (2, _), (0, _), (1, _)], [_, _])) rfl ?_
    refine pm_Ev.jeq rfl (by omega) rfl (fun h1 => ?_) (fun h1 => ?_)
    · have xe : x = -1 := by omega
      subst xe
      refine pm_Ev.go 1 (f' := (114, 23, [(3, _), (2, _), (0, _), (1, _)], [_])) rfl ?_
      exact pm_Ev.rv rfl rfl (by omega)
    · have gp := M.gp (ar := ar) (z := z) (x := x) (by omega) (by omega)
      have P := fo_par_P M.W (p := x) (by omega) (by omega)
      have pd := fo_P_d M.W (by omega) (by omega) P
      have p1 := P.2.1
      have p2 := P.1
      refine pm_Ev.inc rfl rfl (Nat.le_of_ble_eq_true rfl) ?_
      refine pm_Ev.go 3 (f' := (114, 15, [(2, _), (3, _), (0, _), (1, _)], [_, _, _])) rfl ?_
      refine pm_Ev.cv rfl rfl rfl rfl (by decide) (Nat.le_of_ble_eq_true rfl) (Nat.le_of_ble_eq_true rfl) H.m199 H.o199 (ev_g L xs H hl (by omega)) ?_
      rw [gp]
      refine pm_Ev.go 2 (f' := (114, 4, [(3, _), (2, _), (0, _), (1, _)], [])) rfl ?_
      have q := ih (fo_par D x) (c + 1) p2 (by omega) (by omega)
      rw [show c + 1 + D (fo_par D x) = c + D x by omega] at q
      exact pm_Ev.weak q rfl
theorem ev_depth (H : Hp σ ad z ar lr) (hl : (ar 200).1 = 5600) {n : Int} {I D : Int → Int} (M : mo_R (mo_g ar) (z 23) n I D) {x : Int} (x0 : -1 ≤ x) (x1 : x < n ∨ x = -1) : pm_Ev (tq_P L xs) (pm_enter 114 [.ref 199, .int (zI (fo_id I x))]) σ (.inl (some (.int (zI (D x)))), σ) := by
  show pm_Ev (tq_P L xs) (114, 0, [(0, .ref 199), (1, .int (zI (fo_id I x)))], []) σ _
  refine pm_Ev.go 4 (f' := (114, 4, [(3, _), (2, _), (0, _), (1, _)], [])) rfl ?_
  have q := ev_depthL L xs H hl M (v := fo_id I x) (x + 1).toNat x 0 x0 (by omega) x1
  rw [Int.zero_add] at q
  exact q
theorem ev_isInL (H : Hp σ ad z ar lr) (hl : (ar 200).1 = 5600) {n : Int} {I D : Int → Int} (M : mo_R (mo_g ar) (z 23) n I D) {b v : Int} (b0 : 0 ≤ b) (b1 : b < n) : ∀ (k : Nat) (x : Int), -1 ≤ x → x < k → (x < n ∨ x = -1) → pm_Ev (tq_P L xs) (115, 2, [(3, .int (zI (fo_id I x))), (0, .ref 199), (1, .int (zI v)), (2, .int (zI (fo_id I b)))], []) σ (.inl (some (.int (zI (if b ≤ x ∧ x < fo_end D n b then 1 else 0)))), σ) := by
  intro k
  have ib := M.idr (x := b) (by omega) (by omega)
  induction k with
  | zero =>
    intro x x0 xk x1
    have xe : x = -1 := by omega
    have id := M.idr x0 x1
    rw [if_neg (by omega)]
    refine pm_Ev.go 2 (f' := (115, 4, [(3, _), (0, _), (1, _), (2, _)], [_, _])) rfl ?_
    refine pm_Ev.jeq rfl (by omega) rfl (fun h1 => ?_) (fun h1 => ?_)
    · refine pm_Ev.go 2 (f' := (115, 24, [(3, _), (0, _), (1, _), (2, _)], [_, _])) rfl ?_
      refine pm_Ev.jne rfl (by omega) rfl (fun h2 => ?_) (fun h2 => ?_)
      · refine pm_Ev.go 1 (f' := (115, 32, [(3, _), (0, _), (1, _), (2, _)], [_])) rfl ?_
        exact pm_Ev.rb rfl rfl rfl (by decide)
      · exact absurd h2 (by omega)
    · exact absurd h1 (by omega)
  | succ k ih =>
    intro x x0 xk x1
    have id := M.idr x0 x1
    have B := fo_end_B (D := D) b1
    have bb := B.1
    by_cases xe : x = -1
    · rw [if_neg (by omega)]
      refine pm_Ev.go 2 (f' := (115, 4, [(3, _), (0, _), (1, _), (2, _)], [_, _])) rfl ?_
      refine pm_Ev.jeq rfl (by omega) rfl (fun h1 => ?_) (fun h1 => ?_)
      · refine pm_Ev.go 2 (f' := (115, 24, [(3, _), (0, _), (1, _), (2, _)], [_, _])) rfl ?_
        refine pm_Ev.jne rfl (by omega) rfl (fun h2 => ?_) (fun h2 => ?_)
        · refine pm_Ev.go 1 (f' := (115, 32, [(3, _), (0, _), (1, _), (2, _)], [_])) rfl ?_
          exact pm_Ev.rb rfl rfl rfl (by decide)
        · exact absurd h2 (by omega)
      · exact absurd h1 (by omega)
    · by_cases xb : x = b
      · subst xb
        rw [if_pos (by omega)]
        refine pm_Ev.go 2 (f' := (115, 4, [(3, _), (0, _), (1, _), (2, _)], [_, _])) rfl ?_
        refine pm_Ev.jeq rfl (by omega) rfl (fun h1 => ?_) (fun h1 => ?_)
        · exact absurd h1 (by omega)
        · refine pm_Ev.go 2 (f' := (115, 9, [(3, _), (0, _), (1, _), (2, _)], [_, _])) rfl ?_
          refine pm_Ev.jeq rfl (by omega) rfl (fun h2 => ?_) (fun h2 => ?_)
          · refine pm_Ev.go 2 (f' := (115, 24, [(3, _), (0, _), (1, _), (2, _)], [_, _])) rfl ?_
            refine pm_Ev.jne rfl (by omega) rfl (fun h3 => ?_) (fun h3 => ?_)
            · exact absurd rfl h3
            · refine pm_Ev.go 2 (f' := (115, 32, [(3, _), (0, _), (1, _), (2, _)], [_])) rfl ?_
              exact pm_Ev.rb rfl rfl rfl (by decide)
          · exact absurd rfl h2
      · have gp := M.gp (ar := ar) (z := z) (x := x) (by omega) (by omega)
        have P := fo_par_P M.W (p := x) (by omega) (by omega)
        have p1 := P.2.1
        have p2 := P.1
        have up := M.up b0 b1 (x := x) (by omega) (by omega) xb
        have q := ih (fo_par D x) p2 (by omega) (by omega)
        have e : (if b ≤ fo_par D x ∧ fo_par D x < fo_end D n b then (1 : Int) else 0) = if b ≤ x ∧ x < fo_end D n b then 1 else 0 := by
          by_cases t : b ≤ x ∧ x < fo_end D n b
          · rw [if_pos t, if_pos (up.mp t)]
          · rw [if_neg t, if_neg (fun s => t (up.mpr s))]
        rw [e] at q
        have nb : fo_id I x ≠ fo_id I b := fun t => xb (fo_id_inj M.J x0 x1 (by omega) (by omega) t)
        refine pm_Ev.go 2 (f' := (115, 4, [(3, _), (0, _), (1, _), (2, _)], [_, _])) rfl ?_
        refine pm_Ev.jeq rfl (by omega) rfl (fun h1 => ?_) (fun h1 => ?_)
        · exact absurd h1 (by omega)
        · refine pm_Ev.go 2 (f' := (115, 9, [(3, _), (0, _), (1, _), (2, _)], [_, _])) rfl ?_
          refine pm_Ev.jeq rfl (by omega) rfl (fun h2 => ?_) (fun h2 => ?_)
          · exact absurd h2 nb
          · refine pm_Ev.go 3 (f' := (115, 15, [(3, _), (0, _), (1, _), (2, _)], [_, _, _])) rfl ?_
            refine pm_Ev.cv rfl rfl rfl rfl (by decide) (Nat.le_of_ble_eq_true rfl) (Nat.le_of_ble_eq_true rfl) H.m199 H.o199 (ev_g L xs H hl (by omega)) ?_
            rw [gp]
            refine pm_Ev.go 2 (f' := (115, 2, [(3, _), (0, _), (1, _), (2, _)], [])) rfl ?_
            exact pm_Ev.weak q rfl
theorem ev_isIn (H : Hp σ ad z ar lr) (hl : (ar 200).1 = 5600) {n : Int} {I D : Int → Int} (M : mo_R (mo_g ar) (z 23) n I D) {x b : Int} (b0 : 0 ≤ b) (b1 : b < n) (x0 : -1 ≤ x) (x1 : x < n ∨ x = -1) : pm_Ev (tq_P L xs) (pm_enter 115 [.ref 199, .int (zI (fo_id I x)), .int (zI (fo_id I b))]) σ (.inl (some (.int (zI (if b ≤ x ∧ x < fo_end D n b then 1 else 0)))), σ) := by
  show pm_Ev (tq_P L xs) (115, 0, [(0, .ref 199), (1, .int (zI (fo_id I x))), (2, .int (zI (fo_id I b)))], []) σ _
  refine pm_Ev.go 2 (f' := (115, 2, [(3, _), (0, _), (1, _), (2, _)], [])) rfl ?_
  exact ev_isInL L xs H hl M b0 b1 (x + 1).toNat x x0 (by omega) x1
theorem ev_behindL (H : Hp σ ad z ar lr) (hl : (ar 200).1 = 5600) {n : Int} {I D : Int → Int} (M : mo_R (mo_g ar) (z 23) n I D) {v u : Int} : ∀ (k : Nat) (x : Int), -1 ≤ x → x < k → (x < n ∨ x = -1) → pm_Ev (tq_P L xs) (118, 2, [(2, .int (zI (fo_id I x))), (0, .ref 199), (1, .int (zI v))], []) σ (.inl (some (.int (zI (if fo_end D n x < n then I (fo_end D n x) else -1)))), σ) := by
  intro k
  have hm : 0 ≤ z 23 ∧ z 23 ≤ 400 := ⟨M.m0, M.m4⟩
  induction k with
  | zero =>
    intro x x0 xk x1
    have xe : x = -1 := by omega
    subst xe
    have id := M.idr x0 x1
    have er := fo_end_root M.W
    rw [if_neg (by omega)]
    refine pm_Ev.go 2 (f' := (118, 4, [(2, _), (0, _), (1, _)], [_, _])) rfl ?_
    refine pm_Ev.jeq rfl (by omega) rfl (fun h1 => ?_) (fun h1 => ?_)
    · refine pm_Ev.go 1 (f' := (118, 44, [(2, _), (0, _), (1, _)], [_])) rfl ?_
      exact pm_Ev.rv rfl rfl rfl
    · exact absurd h1 (by omega)
  | succ k ih =>
    intro x x0 xk x1
    have id := M.idr x0 x1
    by_cases xe : x = -1
    · subst xe
      have er := fo_end_root M.W
      rw [if_neg (by omega)]
      refine pm_Ev.go 2 (f' := (118, 4, [(2, _), (0, _), (1, _)], [_, _])) rfl ?_
      refine pm_Ev.jeq rfl (by omega) rfl (fun h1 => ?_) (fun h1 => ?_)
      · refine pm_Ev.go 1 (f' := (118, 44, [(2, _), (0, _), (1, _)], [_])) rfl ?_
        exact pm_Ev.rv rfl rfl rfl
      · exact absurd h1 (by omega)
    · have gp := M.gp (ar := ar) (z := z) (x := x) (by omega) (by omega)
      have P := fo_par_P M.W (p := x) (by omega) (by omega)
      have p1 := P.2.1
      have p2 := P.1
      have g1 := mo_g_r ar (fo_id I x) 1
      have g2 := (M.R x (by omega) (by omega)).2
      rw [← fo_id_at (I := I) (show 0 ≤ x by omega)] at g2
      have c0 := fo_c_nn D (D x) (fo_par D x + 1) x
      have c1 := fo_c_le (D := D) (v := D x) (a := fo_par D x + 1) (b := x) (by omega)
      have nm := M.nm
      unfold fo_pl at g2
      by_cases nx : fo_end D n x < n ∧ D (fo_end D n x) = D x
      · have ca := M.next (by omega) (by omega) nx
        rw [← fo_id_at (I := I) (show 0 ≤ x by omega)] at ca
        rw [if_pos nx.1]
        have ix := M.J.1 (fo_end D n x) (by have := (fo_end_B (D := D) (n := n) (p := x) (by omega)).1; omega) nx.1
        have iy := M.lt (fo_end D n x) (by have := (fo_end_B (D := D) (n := n) (p := x) (by omega)).1; omega) nx.1
        refine pm_Ev.go 2 (f' := (118, 4, [(2, _), (0, _), (1, _)], [_, _])) rfl ?_
        refine pm_Ev.jeq rfl (by omega) rfl (fun h1 => ?_) (fun h1 => ?_)
        · exact absurd h1 (by omega)
        · refine pm_Ev.go 4 (f' := (118, 11, [(2, _), (0, _), (1, _)], [_, _, _, _])) rfl ?_
          refine pm_Ev.cv rfl rfl rfl rfl (by decide) (Nat.le_of_ble_eq_true rfl) (Nat.le_of_ble_eq_true rfl) H.m199 H.o199 (ev_g L xs H hl (by omega)) ?_
          refine pm_Ev.go 3 (f' := (118, 17, [(2, _), (0, _), (1, _)], [_, _, _, _, _])) rfl ?_
          refine pm_Ev.cv rfl rfl rfl rfl (by decide) (Nat.le_of_ble_eq_true rfl) (Nat.le_of_ble_eq_true rfl) H.m199 H.o199 (ev_g L xs H hl (by omega)) ?_
          refine pm_Ev.go 1 (f' := (118, 21, [(2, _), (0, _), (1, _)], [_, _, _, _])) rfl ?_
          refine pm_Ev.iadd rfl ?_
          refine pm_Ev.cv rfl rfl rfl rfl (by decide) (Nat.le_of_ble_eq_true rfl) (Nat.le_of_ble_eq_true rfl) H.m199 H.o199 (ev_childAt L xs H hl hm g1 (by omega) ca) ?_
          refine pm_Ev.go 3 (f' := (118, 28, [(3, _), (2, _), (0, _), (1, _)], [_, _])) rfl ?_
          refine pm_Ev.jeq rfl (by omega) rfl (fun h2 => ?_) (fun h2 => ?_)
          · exact absurd h2 (by omega)
          · refine pm_Ev.go 1 (f' := (118, 32, [(3, _), (2, _), (0, _), (1, _)], [_])) rfl ?_
            exact pm_Ev.rv rfl rfl rfl
      · obtain ⟨ca, en⟩ := M.nonext (by omega) (by omega) nx
        rw [← fo_id_at (I := I) (show 0 ≤ x by omega)] at ca
        have q := ih (fo_par D x) p2 (by omega) (by omega)
        rw [en] at q
        refine pm_Ev.go 2 (f' := (118, 4, [(2, _), (0, _), (1, _)], [_, _])) rfl ?_
        refine pm_Ev.jeq rfl (by omega) rfl (fun h1 => ?_) (fun h1 => ?_)
        · exact absurd h1 (by omega)
        · refine pm_Ev.go 4 (f' := (118, 11, [(2, _), (0, _), (1, _)], [_, _, _, _])) rfl ?_
          refine pm_Ev.cv rfl rfl rfl rfl (by decide) (Nat.le_of_ble_eq_true rfl) (Nat.le_of_ble_eq_true rfl) H.m199 H.o199 (ev_g L xs H hl (by omega)) ?_
          refine pm_Ev.go 3 (f' := (118, 17, [(2, _), (0, _), (1, _)], [_, _, _, _, _])) rfl ?_
          refine pm_Ev.cv rfl rfl rfl rfl (by decide) (Nat.le_of_ble_eq_true rfl) (Nat.le_of_ble_eq_true rfl) H.m199 H.o199 (ev_g L xs H hl (by omega)) ?_
          refine pm_Ev.go 1 (f' := (118, 21, [(2, _), (0, _), (1, _)], [_, _, _, _])) rfl ?_
          refine pm_Ev.iadd rfl ?_
          refine pm_Ev.cv rfl rfl rfl rfl (by decide) (Nat.le_of_ble_eq_true rfl) (Nat.le_of_ble_eq_true rfl) H.m199 H.o199 (ev_childAt L xs H hl hm g1 (by omega) ca) ?_
          refine pm_Ev.go 3 (f' := (118, 28, [(3, _), (2, _), (0, _), (1, _)], [_, _])) rfl ?_
          refine pm_Ev.jeq rfl (by omega) rfl (fun h2 => ?_) (fun h2 => ?_)
          · refine pm_Ev.go 3 (f' := (118, 36, [(3, _), (2, _), (0, _), (1, _)], [_, _, _])) rfl ?_
            refine pm_Ev.cv rfl rfl rfl rfl (by decide) (Nat.le_of_ble_eq_true rfl) (Nat.le_of_ble_eq_true rfl) H.m199 H.o199 (ev_g L xs H hl (by omega)) ?_
            rw [gp]
            refine pm_Ev.go 2 (f' := (118, 2, [(2, _), (3, _), (0, _), (1, _)], [])) rfl ?_
            exact pm_Ev.weak q rfl
          · exact absurd rfl h2
theorem ev_behind (H : Hp σ ad z ar lr) (hl : (ar 200).1 = 5600) {n : Int} {I D : Int → Int} (M : mo_R (mo_g ar) (z 23) n I D) {x : Int} (x0 : -1 ≤ x) (x1 : x < n ∨ x = -1) : pm_Ev (tq_P L xs) (pm_enter 118 [.ref 199, .int (zI (fo_id I x))]) σ (.inl (some (.int (zI (if fo_end D n x < n then I (fo_end D n x) else -1)))), σ) := by
  show pm_Ev (tq_P L xs) (118, 0, [(0, .ref 199), (1, .int (zI (fo_id I x)))], []) σ _
  refine pm_Ev.go 2 (f' := (118, 2, [(2, _), (0, _), (1, _)], [])) rfl ?_
  exact ev_behindL L xs H hl M (u := 0) (x + 1).toNat x x0 (by omega) x1
end MS
