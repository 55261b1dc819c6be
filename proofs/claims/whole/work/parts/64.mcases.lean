/-! the reference: what is asked first, and how high a branch is -/
theorem hq_u_self {α : Type} (f : Nat → α) (k : Nat) : hq_u f k (f k) = f := by
  funext j
  unfold hq_u
  by_cases c : j = k
  · rw [if_pos c, c]
  · rw [if_neg c]
section MS
variable (L : Nat) (xs : Nat → Int32)
variable {σ : pm_S} {ad : Nat → Nat} {z : Nat → Int} {ar : Nat → Nat × (Nat → Int32)} {lr : Nat → Nat × (Nat → Int64)}
theorem ev_fz {c k : Int} (H : Hp σ ad (hq_u z 29 c) ar lr) : pm_Fv (tq_P L xs) (pm_enter 97 [.ref 199, .int (zI 0), .int (zI k)]) σ (fun o s => o = .inl (some (.int (zI 0))) ∧ Hp s ad (hq_u z 29 0) ar lr ∧ s.2 = σ.2) := by
  have := ev_m_fails L xs H (t := 0) (k := k) (by decide)
  rw [if_pos rfl, hq_u_u] at this
  exact this
theorem ev_fo {c k : Int} (H : Hp σ ad (hq_u z 29 c) ar lr) : pm_Fv (tq_P L xs) (pm_enter 97 [.ref 199, .int (zI 1), .int (zI k)]) σ (fun o s => o = .inl (some (.int (zI 1))) ∧ Hp s ad (hq_u z 29 k) ar lr ∧ s.2 = σ.2) := by
  have := ev_m_fails L xs H (t := 1) (k := k) (by decide)
  rw [if_neg (by decide), hq_u_u] at this
  exact this
theorem mo_R.thI {n : Int} {I D : Int → Int} (M : mo_R (mo_g ar) (z 23) n I D) {e : Int} : mo_th z ar e ↔ ∃ x, 0 ≤ x ∧ x < n ∧ I x = e := by
  unfold mo_th
  constructor
  · intro h
    refine M.at h.1 h.2.1 ?_
    show hq_g ar 200 (14 * e + 0) = 1
    rw [Int.add_zero]
    exact h.2.2
  · intro ⟨x, x0, x1, xe⟩
    rw [← xe]
    have t := M.t1 x0 x1
    refine ⟨M.J.1 x x0 x1, M.lt x x0 x1, ?_⟩
    have t2 : hq_g ar 200 (14 * I x + 0) = 1 := t
    rw [Int.add_zero] at t2
    exact t2
theorem mo_R.place {n : Int} {I D : Int → Int} (M : mo_R (mo_g ar) (z 23) n I D) {r : Int} (r0 : -1 ≤ r) (r1 : r < n ∨ r = -1) : fo_id I r = -1 ∨ mo_th z ar (fo_id I r) := by
  by_cases c : r = -1
  · exact Or.inl (if_pos c)
  · refine Or.inr (M.thI.mpr ⟨r, by omega, by omega, ?_⟩)
    rw [fo_id_at (by omega)]
theorem ev_isP (H : Hp σ ad z ar lr) (hl : (ar 200).1 = 5600) {n : Int} {I D : Int → Int} (M : mo_R (mo_g ar) (z 23) n I D) {r : Int} (r0 : -1 ≤ r) (r1 : r < n ∨ r = -1) : pm_Ev (tq_P L xs) (pm_enter 101 [.ref 199, .int (zI (fo_id I r))]) σ (.inl (some (.int (zI 1))), σ) :=
  ev_m_isPlace L xs H hl ⟨M.m0, M.m4⟩ (by have := M.idr r0 r1; omega) (Or.inl ⟨M.place r0 r1, rfl⟩)
theorem ev_noP (H : Hp σ ad z ar lr) (hl : (ar 200).1 = 5600) {n : Int} {I D : Int → Int} (M : mo_R (mo_g ar) (z 23) n I D) {p : Int} (hp : -2147483648 ≤ p ∧ p ≤ 2147483647) (h1 : p ≠ -1) (h2 : ∀ x, 0 ≤ x → x < n → I x ≠ p) : pm_Ev (tq_P L xs) (pm_enter 101 [.ref 199, .int (zI p)]) σ (.inl (some (.int (zI 0))), σ) :=
  ev_m_isPlace L xs H hl ⟨M.m0, M.m4⟩ hp (Or.inr ⟨fun q => q.elim h1 (fun t => (M.thI.mp t).elim (fun x h => h2 x h.1 h.2.1 h.2.2)), rfl⟩)
theorem ev_isT (H : Hp σ ad z ar lr) (hl : (ar 200).1 = 5600) {n : Int} {I D : Int → Int} (M : mo_R (mo_g ar) (z 23) n I D) {r : Int} (r0 : 0 ≤ r) (r1 : r < n) : pm_Ev (tq_P L xs) (pm_enter 100 [.ref 199, .int (zI (I r))]) σ (.inl (some (.int (zI 1))), σ) :=
  ev_m_isThere L xs H hl ⟨M.m0, M.m4⟩ (by have := M.J.1 r r0 r1; have := M.lt r r0 r1; have := M.m4; omega) (Or.inl ⟨M.thI.mpr ⟨r, r0, r1, rfl⟩, rfl⟩)
theorem ev_noT (H : Hp σ ad z ar lr) (hl : (ar 200).1 = 5600) {n : Int} {I D : Int → Int} (M : mo_R (mo_g ar) (z 23) n I D) {p : Int} (hp : -2147483648 ≤ p ∧ p ≤ 2147483647) (h2 : ∀ x, 0 ≤ x → x < n → I x ≠ p) : pm_Ev (tq_P L xs) (pm_enter 100 [.ref 199, .int (zI p)]) σ (.inl (some (.int (zI 0))), σ) :=
  ev_m_isThere L xs H hl ⟨M.m0, M.m4⟩ hp (Or.inr ⟨fun t => (M.thI.mp t).elim (fun x h => h2 x h.1 h.2.1 h.2.2), rfl⟩)
theorem ev_kids (H : Hp σ ad z ar lr) (hl : (ar 200).1 = 5600) {n : Int} {I D : Int → Int} (M : mo_R (mo_g ar) (z 23) n I D) {r : Int} (r0 : -1 ≤ r) (r1 : r < n ∨ r = -1) : pm_Ev (tq_P L xs) (pm_enter 113 [.ref 199, .int (zI (fo_id I r))]) σ (.inl (some (.int (zI (fo_cc D n r)))), σ) := by
  have m0 := M.m0
  have q := ev_children L xs H hl ⟨M.m0, M.m4⟩ (p := fo_id I r) (by have := M.idr r0 r1; omega)
  rw [mo_cn_fs, show (((z 23).toNat : Nat) : Int) = z 23 by omega, M.cn r0 r1] at q
  exact q
theorem fo_cc_r {D : Int → Int} {n r : Int} (W : fo_W D n) (r0 : -1 ≤ r) (r1 : r < n ∨ r = -1) : 0 ≤ fo_cc D n r ∧ fo_cc D n r ≤ n := by
  have B := fo_end_B' W r0 r1
  unfold fo_cc
  have a := fo_c_nn D (D r + 1) (r + 1) (fo_end D n r)
  have b := fo_c_le (D := D) (v := D r + 1) (a := r + 1) (b := fo_end D n r) (by omega)
  omega
/-- the greatest depth of a branch -/
def fo_hi (D : Int → Int) (b e v : Int) : Prop := (∀ x, b ≤ x → x < e → D x ≤ v) ∧ ∃ x, b ≤ x ∧ x < e ∧ D x = v
theorem fo_hi_u {D : Int → Int} {b e v u : Int} (h : fo_hi D b e v) (k : fo_hi D b e u) : v = u := by
  obtain ⟨h1, x, x0, x1, x2⟩ := h
  obtain ⟨k1, y, y0, y1, y2⟩ := k
  have := h1 y y0 y1
  have := k1 x x0 x1
  omega
theorem ev_heightL (H : Hp σ ad z ar lr) (hl : (ar 200).1 = 5600) {n : Int} {I D : Int → Int} (M : mo_R (mo_g ar) (z 23) n I D) {b v : Int} (b0 : 0 ≤ b) (b1 : b < n) (hv : fo_hi D b (fo_end D n b) v) (hv2 : v ≤ 1000) : ∀ (k : Nat) (e c : Int), 0 ≤ e → e + k = z 23 → 0 ≤ c → c ≤ v - D b + 1 → (∀ x, b ≤ x → x < fo_end D n b → I x < e → D x - D b + 1 ≤ c) → pm_Ev (tq_P L xs) (116, 11, [(4, .int (zI e)), (3, .int (zI (D b))), (2, .int (zI c)), (0, .ref 199), (1, .int (zI (fo_id I b)))], []) σ (.inl (some (.int (zI (v - D b + 1)))), σ) := by
  intro k
  have hm : 0 ≤ z 23 ∧ z 23 ≤ 400 := ⟨M.m0, M.m4⟩
  have B := fo_end_B (D := D) b1
  have w0 := M.W.2.2 b b0 b1
  induction k with
  | zero =>
    intro e c e0 ek c0 c1 hc
    obtain ⟨x, x0, x1, x2⟩ := hv.2
    have := hc x x0 x1 (by have := M.lt x (by omega) (by have := B.2.1; omega); omega)
    refine pm_Ev.go 2 (f' := (116, 14, [(4, _), (3, _), (2, _), (0, _), (1, _)], [_, _])) rfl ?_
    refine pm_Ev.gf rfl rfl H.m199 H.o199 rfl ?_
    refine pm_Ev.jge rfl (by omega) rfl (fun h1 => ?_) (fun h1 => ?_)
    · refine pm_Ev.go 1 (f' := (116, 75, [(4, _), (3, _), (2, _), (0, _), (1, _)], [_])) rfl ?_
      exact pm_Ev.rv rfl rfl (by omega)
    · exact absurd h1 (by omega)
  | succ k ih =>
    intro e c e0 ek c0 c1 hc
    have ge := mo_g_r ar e 0
    rcases M.th e e0 (by omega) with ⟨t1, x, x0, x1, xe⟩ | ⟨t0, t1⟩
    · have ix := ev_isIn L xs H hl M b0 b1 (x := x) (by omega) (Or.inl x1)
      have dx := ev_depth L xs H hl M (x := x) (by omega) (Or.inl x1)
      have dl := M.dp x x0 x1
      have dn := (M.W.2.2 x x0 x1).1
      rw [fo_id_at x0, xe] at ix dx
      by_cases q : b ≤ x ∧ x < fo_end D n b
      · rw [if_pos q] at ix
        have vx := hv.1 x q.1 q.2
        by_cases y : D x - D b + 1 ≤ c
        · refine pm_Ev.go 2 (f' := (116, 14, [(4, _), (3, _), (2, _), (0, _), (1, _)], [_, _])) rfl ?_
          refine pm_Ev.gf rfl rfl H.m199 H.o199 rfl ?_
          refine pm_Ev.jge rfl (by omega) rfl (fun h1 => ?_) (fun h1 => ?_)
          · exact absurd h1 (by omega)
          · refine pm_Ev.go 3 (f' := (116, 24, [(4, _), (3, _), (2, _), (0, _), (1, _)], [_, _, _])) rfl ?_
            refine pm_Ev.cv rfl rfl rfl rfl (by decide) (Nat.le_of_ble_eq_true rfl) (Nat.le_of_ble_eq_true rfl) H.m199 H.o199 (ev_g L xs H hl (by omega)) ?_
            refine pm_Ev.zeq rfl (by omega) rfl (fun h2 => ?_) (fun h2 => ?_)
            · exact absurd h2 (by omega)
            · refine pm_Ev.go 3 (f' := (116, 34, [(4, _), (3, _), (2, _), (0, _), (1, _)], [_, _, _])) rfl ?_
              refine pm_Ev.cv rfl rfl rfl rfl (by decide) (Nat.le_of_ble_eq_true rfl) (Nat.le_of_ble_eq_true rfl) H.m199 H.o199 (ix) ?_
              refine pm_Ev.zne rfl (by omega) rfl (fun h3 => ?_) (fun h3 => ?_)
              · refine pm_Ev.go 2 (f' := (116, 46, [(4, _), (3, _), (2, _), (0, _), (1, _)], [_, _])) rfl ?_
                refine pm_Ev.cv rfl rfl rfl rfl (by decide) (Nat.le_of_ble_eq_true rfl) (Nat.le_of_ble_eq_true rfl) H.m199 H.o199 (dx) ?_
                refine pm_Ev.go 1 (f' := (116, 50, [(4, _), (3, _), (2, _), (0, _), (1, _)], [_, _])) rfl ?_
                refine pm_Ev.isub rfl ?_
                refine pm_Ev.go 1 (f' := (116, 52, [(4, _), (3, _), (2, _), (0, _), (1, _)], [_, _])) rfl ?_
                refine pm_Ev.iadd rfl ?_
                refine pm_Ev.go 3 (f' := (116, 58, [(5, _), (4, _), (3, _), (2, _), (0, _), (1, _)], [_, _])) rfl ?_
                refine pm_Ev.jle rfl (by omega) rfl (fun h4 => ?_) (fun h4 => ?_)
                · refine pm_Ev.go 2 (f' := (116, 68, [(2, _), (5, _), (4, _), (3, _), (0, _), (1, _)], [])) rfl ?_
                  refine pm_Ev.inc rfl rfl (Nat.le_of_ble_eq_true rfl) ?_
                  refine pm_Ev.go 1 (f' := (116, 11, [(4, _), (2, _), (5, _), (3, _), (0, _), (1, _)], [])) rfl ?_
                  refine pm_Ev.weak (ih (e + 1) c (by omega) (by omega) (by omega) (by omega) (fun y y0 y1 y2 => ?_)) rfl
                  by_cases ye : I y = e
                  · have : y = x := M.J.2 y x (by omega) (by have := B.2.1; omega) x0 x1 (by omega)
                    rw [this]
                    omega
                  · have := hc y y0 y1 (by omega)
                    omega
                · exact absurd h4 (by omega)
              · exact absurd h3 (by omega)
        · refine pm_Ev.go 2 (f' := (116, 14, [(4, _), (3, _), (2, _), (0, _), (1, _)], [_, _])) rfl ?_
          refine pm_Ev.gf rfl rfl H.m199 H.o199 rfl ?_
          refine pm_Ev.jge rfl (by omega) rfl (fun h1 => ?_) (fun h1 => ?_)
          · exact absurd h1 (by omega)
          · refine pm_Ev.go 3 (f' := (116, 24, [(4, _), (3, _), (2, _), (0, _), (1, _)], [_, _, _])) rfl ?_
            refine pm_Ev.cv rfl rfl rfl rfl (by decide) (Nat.le_of_ble_eq_true rfl) (Nat.le_of_ble_eq_true rfl) H.m199 H.o199 (ev_g L xs H hl (by omega)) ?_
            refine pm_Ev.zeq rfl (by omega) rfl (fun h2 => ?_) (fun h2 => ?_)
            · exact absurd h2 (by omega)
            · refine pm_Ev.go 3 (f' := (116, 34, [(4, _), (3, _), (2, _), (0, _), (1, _)], [_, _, _])) rfl ?_
              refine pm_Ev.cv rfl rfl rfl rfl (by decide) (Nat.le_of_ble_eq_true rfl) (Nat.le_of_ble_eq_true rfl) H.m199 H.o199 (ix) ?_
              refine pm_Ev.zne rfl (by omega) rfl (fun h3 => ?_) (fun h3 => ?_)
              · refine pm_Ev.go 2 (f' := (116, 46, [(4, _), (3, _), (2, _), (0, _), (1, _)], [_, _])) rfl ?_
                refine pm_Ev.cv rfl rfl rfl rfl (by decide) (Nat.le_of_ble_eq_true rfl) (Nat.le_of_ble_eq_true rfl) H.m199 H.o199 (dx) ?_
                refine pm_Ev.go 1 (f' := (116, 50, [(4, _), (3, _), (2, _), (0, _), (1, _)], [_, _])) rfl ?_
                refine pm_Ev.isub rfl ?_
                refine pm_Ev.go 1 (f' := (116, 52, [(4, _), (3, _), (2, _), (0, _), (1, _)], [_, _])) rfl ?_
                refine pm_Ev.iadd rfl ?_
                refine pm_Ev.go 3 (f' := (116, 58, [(5, _), (4, _), (3, _), (2, _), (0, _), (1, _)], [_, _])) rfl ?_
                refine pm_Ev.jle rfl (by omega) rfl (fun h4 => ?_) (fun h4 => ?_)
                · exact absurd h4 (by omega)
                · refine pm_Ev.go 3 (f' := (116, 68, [(2, _), (5, _), (4, _), (3, _), (0, _), (1, _)], [])) rfl ?_
                  refine pm_Ev.inc rfl rfl (Nat.le_of_ble_eq_true rfl) ?_
                  refine pm_Ev.go 1 (f' := (116, 11, [(4, _), (2, _), (5, _), (3, _), (0, _), (1, _)], [])) rfl ?_
                  refine pm_Ev.weak (ih (e + 1) (D x - D b + 1) (by omega) (by omega) (by omega) (by omega) (fun y y0 y1 y2 => ?_)) rfl
                  by_cases ye : I y = e
                  · have : y = x := M.J.2 y x (by omega) (by have := B.2.1; omega) x0 x1 (by omega)
                    rw [this]
                    omega
                  · have := hc y y0 y1 (by omega)
                    omega
              · exact absurd h3 (by omega)
      · rw [if_neg q] at ix
        refine pm_Ev.go 2 (f' := (116, 14, [(4, _), (3, _), (2, _), (0, _), (1, _)], [_, _])) rfl ?_
        refine pm_Ev.gf rfl rfl H.m199 H.o199 rfl ?_
        refine pm_Ev.jge rfl (by omega) rfl (fun h1 => ?_) (fun h1 => ?_)
        · exact absurd h1 (by omega)
        · refine pm_Ev.go 3 (f' := (116, 24, [(4, _), (3, _), (2, _), (0, _), (1, _)], [_, _, _])) rfl ?_
          refine pm_Ev.cv rfl rfl rfl rfl (by decide) (Nat.le_of_ble_eq_true rfl) (Nat.le_of_ble_eq_true rfl) H.m199 H.o199 (ev_g L xs H hl (by omega)) ?_
          refine pm_Ev.zeq rfl (by omega) rfl (fun h2 => ?_) (fun h2 => ?_)
          · exact absurd h2 (by omega)
          · refine pm_Ev.go 3 (f' := (116, 34, [(4, _), (3, _), (2, _), (0, _), (1, _)], [_, _, _])) rfl ?_
            refine pm_Ev.cv rfl rfl rfl rfl (by decide) (Nat.le_of_ble_eq_true rfl) (Nat.le_of_ble_eq_true rfl) H.m199 H.o199 (ix) ?_
            refine pm_Ev.zne rfl (by omega) rfl (fun h3 => ?_) (fun h3 => ?_)
            · exact absurd h3 (by omega)
            · refine pm_Ev.go 1 (f' := (116, 68, [(4, _), (3, _), (2, _), (0, _), (1, _)], [])) rfl ?_
              refine pm_Ev.inc rfl rfl (Nat.le_of_ble_eq_true rfl) ?_
              refine pm_Ev.go 1 (f' := (116, 11, [(4, _), (3, _), (2, _), (0, _), (1, _)], [])) rfl ?_
              refine pm_Ev.weak (ih (e + 1) c (by omega) (by omega) (by omega) (by omega) (fun y y0 y1 y2 => ?_)) rfl
              by_cases ye : I y = e
              · have : y = x := M.J.2 y x (by omega) (by have := B.2.1; omega) x0 x1 (by omega)
                exact absurd ⟨by omega, by omega⟩ q
              · exact hc y y0 y1 (by omega)
    · skip
      refine pm_Ev.go 2 (f' := (116, 14, [(4, _), (3, _), (2, _), (0, _), (1, _)], [_, _])) rfl ?_
      refine pm_Ev.gf rfl rfl H.m199 H.o199 rfl ?_
      refine pm_Ev.jge rfl (by omega) rfl (fun h1 => ?_) (fun h1 => ?_)
      · exact absurd h1 (by omega)
      · refine pm_Ev.go 3 (f' := (116, 24, [(4, _), (3, _), (2, _), (0, _), (1, _)], [_, _, _])) rfl ?_
        refine pm_Ev.cv rfl rfl rfl rfl (by decide) (Nat.le_of_ble_eq_true rfl) (Nat.le_of_ble_eq_true rfl) H.m199 H.o199 (ev_g L xs H hl (by omega)) ?_
        refine pm_Ev.zeq rfl (by omega) rfl (fun h2 => ?_) (fun h2 => ?_)
        · refine pm_Ev.inc rfl rfl (Nat.le_of_ble_eq_true rfl) ?_
          refine pm_Ev.go 1 (f' := (116, 11, [(4, _), (3, _), (2, _), (0, _), (1, _)], [])) rfl ?_
          refine pm_Ev.weak (ih (e + 1) c (by omega) (by omega) (by omega) (by omega) (fun y y0 y1 y2 => ?_)) rfl
          by_cases ye : I y = e
          · exact absurd ye (t1 y (by omega) (by have := B.2.1; omega))
          · exact hc y y0 y1 (by omega)
        · exact absurd h2 (by omega)
theorem ev_height (H : Hp σ ad z ar lr) (hl : (ar 200).1 = 5600) {n : Int} {I D : Int → Int} (M : mo_R (mo_g ar) (z 23) n I D) {b v : Int} (b0 : 0 ≤ b) (b1 : b < n) (hv : fo_hi D b (fo_end D n b) v) : pm_Ev (tq_P L xs) (pm_enter 116 [.ref 199, .int (zI (fo_id I b))]) σ (.inl (some (.int (zI (v - D b + 1)))), σ) := by
  have m0 := M.m0
  have B := fo_end_B (D := D) b1
  have hv2 : v ≤ 1000 := by
    obtain ⟨x, x0, x1, x2⟩ := hv.2
    have := M.dp x (by omega) (by have := B.2.1; omega)
    omega
  have hv3 := hv.1 b (by omega) B.1
  show pm_Ev (tq_P L xs) (116, 0, [(0, .ref 199), (1, .int (zI (fo_id I b)))], []) σ _
  refine pm_Ev.go 4 (f' := (116, 4, [(2, _), (0, _), (1, _)], [_, _])) rfl ?_
  refine pm_Ev.cv rfl rfl rfl rfl (by decide) (Nat.le_of_ble_eq_true rfl) (Nat.le_of_ble_eq_true rfl) H.m199 H.o199 (ev_depth L xs H hl M (by omega) (Or.inl b1)) ?_
  refine pm_Ev.go 3 (f' := (116, 11, [(4, _), (3, _), (2, _), (0, _), (1, _)], [])) rfl ?_
  exact ev_heightL L xs H hl M b0 b1 hv hv2 (z 23).toNat 0 0 (by omega) (by omega) (by omega) (by omega) (fun x x0 x1 x2 => absurd x2 (by have := M.J.1 x (by omega) (by have := B.2.1; omega); omega))
end MS
