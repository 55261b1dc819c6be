/-! the desk: positions of children, tags, sums -/
def od_cw (D : Int → Int) (r w a b : Int) : Int := fs (fun q => if D q = D r + 1 ∧ q ≠ w then 1 else 0) a b
def od_hv (C : Int → Int) (v e : Int) : Int := if v = 0 then 1 else if v = 1 then oV C e 12 else if v = 2 then oV C e 13 else if v = 3 then (if 3 ≤ oV C e 4 then 1 else 0) else (if oV C e 4 = 0 then 0 else 1)
theorem od_cw_nn (D : Int → Int) (r w a b : Int) : 0 ≤ od_cw D r w a b := fs_nn (fun q _ _ => by show (0 : Int) ≤ ite _ _ _; split <;> omega)
section MS
variable (L : Nat) (xs : Nat → Int32)
variable {σ : pm_S} {ad : Nat → Nat} {z : Nat → Int} {ar : Nat → Nat × (Nat → Int32)} {lr : Nat → Nat × (Nat → Int64)}
theorem ev_cpwL (H : Hp σ ad z ar lr) (hl : od_L z ar) (N : od_N (hq_g ar 190) (z 8)) {r k x c : Int} (u0 : -1 ≤ r) (u1 : r < (hq_g ar 190 0) ∨ r = -1) (hk : -2147483648 ≤ k ∧ k ≤ 2147483647) (hx : -2147483648 ≤ x ∧ x ≤ 2147483647) (c0 : r < c) (c1 : c ≤ fo_end (oD (hq_g ar 190)) (hq_g ar 190 0) r) (c2 : c < fo_end (oD (hq_g ar 190)) (hq_g ar 190 0) r → (oD (hq_g ar 190)) c = (oD (hq_g ar 190)) r + 1 ∧ c ≠ x ∧ od_cw (oD (hq_g ar 190)) r x (r + 1) c = k) (c3 : od_cw (oD (hq_g ar 190)) r x (r + 1) c ≤ k) : ∀ (j : Nat) (p : Int), r < p → p + j = c → pm_Ev (tq_P L xs) (69, 15, [(6, .int (zI p)), (5, .int (zI (fo_end (oD (hq_g ar 190)) (hq_g ar 190 0) r))), (4, .int (zI (od_cw (oD (hq_g ar 190)) r x (r + 1) p))), (0, .ref 188), (1, .int (zI r)), (2, .int (zI k)), (3, .int (zI x))], []) σ (.inl (some (.int (zI c))), σ) := by
  intro j
  have nm := N.nm
  have m4 := N.m4
  have B := fo_end_B' N.W u0 u1
  have dr := N.dr u0 u1
  induction j with
  | zero =>
    intro p rp pj
    have e : p = c := by omega
    subst e
    have cn := od_cw_nn (oD (hq_g ar 190)) r x (r + 1) p
    by_cases ce : p = fo_end (oD (hq_g ar 190)) (hq_g ar 190 0) r
    · skip
      refine pm_Ev.go 2 (f' := (69, 19, [(6, _), (5, _), (4, _), (0, _), (1, _), (2, _), (3, _)], [_, _])) rfl ?_
      refine pm_Ev.jge rfl (by omega) rfl (fun h1 => ?_) (fun h1 => ?_)
      · refine pm_Ev.go 1 (f' := (69, 64, [(6, _), (5, _), (4, _), (0, _), (1, _), (2, _), (3, _)], [_])) rfl ?_
        exact pm_Ev.rv rfl rfl ce.symm
      · exact absurd h1 (by omega)
    · have d0 := N.dr (p := p) (by omega) (by omega)
      have q := c2 (by omega)
      refine pm_Ev.go 2 (f' := (69, 19, [(6, _), (5, _), (4, _), (0, _), (1, _), (2, _), (3, _)], [_, _])) rfl ?_
      refine pm_Ev.jge rfl (by omega) rfl (fun h1 => ?_) (fun h1 => ?_)
      · exact absurd h1 (by omega)
      · refine pm_Ev.go 2 (f' := (69, 25, [(6, _), (5, _), (4, _), (0, _), (1, _), (2, _), (3, _)], [_, _])) rfl ?_
        refine pm_Ev.cv rfl rfl rfl rfl (by decide) (Nat.le_of_ble_eq_true rfl) (Nat.le_of_ble_eq_true rfl) H.m188 H.o188 (ev_depthAt L xs H hl N (by omega) (by omega)) ?_
        refine pm_Ev.go 2 (f' := (69, 30, [(6, _), (5, _), (4, _), (0, _), (1, _), (2, _), (3, _)], [_, _, _])) rfl ?_
        refine pm_Ev.cv rfl rfl rfl rfl (by decide) (Nat.le_of_ble_eq_true rfl) (Nat.le_of_ble_eq_true rfl) H.m188 H.o188 (ev_depthAt L xs H hl N u0 u1) ?_
        refine pm_Ev.go 1 (f' := (69, 34, [(6, _), (5, _), (4, _), (0, _), (1, _), (2, _), (3, _)], [_, _, _])) rfl ?_
        refine pm_Ev.iadd rfl ?_
        refine pm_Ev.jne rfl (by omega) rfl (fun h2 => ?_) (fun h2 => ?_)
        · exact absurd h2 (by omega)
        · refine pm_Ev.go 2 (f' := (69, 41, [(6, _), (5, _), (4, _), (0, _), (1, _), (2, _), (3, _)], [_, _])) rfl ?_
          refine pm_Ev.jeq rfl (by omega) rfl (fun h3 => ?_) (fun h3 => ?_)
          · exact absurd h3 (by omega)
          · refine pm_Ev.go 2 (f' := (69, 47, [(6, _), (5, _), (4, _), (0, _), (1, _), (2, _), (3, _)], [_, _])) rfl ?_
            refine pm_Ev.jne rfl (by omega) rfl (fun h4 => ?_) (fun h4 => ?_)
            · exact absurd h4 (by omega)
            · refine pm_Ev.go 1 (f' := (69, 52, [(6, _), (5, _), (4, _), (0, _), (1, _), (2, _), (3, _)], [_])) rfl ?_
              exact pm_Ev.rv rfl rfl rfl
  | succ j ih =>
    intro p rp pj
    have d0 := N.dr (p := p) (by omega) (by omega)
    have ih1 := ih (p + 1) (by omega) (by omega)
    have st : od_cw (oD (hq_g ar 190)) r x (r + 1) (p + 1) = od_cw (oD (hq_g ar 190)) r x (r + 1) p + (if (oD (hq_g ar 190)) p = (oD (hq_g ar 190)) r + 1 ∧ p ≠ x then 1 else 0) := fs_r (by omega)
    have sp : od_cw (oD (hq_g ar 190)) r x (r + 1) c = od_cw (oD (hq_g ar 190)) r x (r + 1) (p + 1) + od_cw (oD (hq_g ar 190)) r x (p + 1) c := fs_sp (by omega) (by omega)
    have s0 := od_cw_nn (oD (hq_g ar 190)) r x (p + 1) c
    have s1 := od_cw_nn (oD (hq_g ar 190)) r x (r + 1) p
    rw [st] at ih1
    by_cases e1 : (oD (hq_g ar 190)) p = (oD (hq_g ar 190)) r + 1
    · by_cases e2 : p = x
      · rw [if_neg (fun q => q.2 e2), Int.add_zero] at ih1
        refine pm_Ev.go 2 (f' := (69, 19, [(6, _), (5, _), (4, _), (0, _), (1, _), (2, _), (3, _)], [_, _])) rfl ?_
        refine pm_Ev.jge rfl (by omega) rfl (fun h1 => ?_) (fun h1 => ?_)
        · exact absurd h1 (by omega)
        · refine pm_Ev.go 2 (f' := (69, 25, [(6, _), (5, _), (4, _), (0, _), (1, _), (2, _), (3, _)], [_, _])) rfl ?_
          refine pm_Ev.cv rfl rfl rfl rfl (by decide) (Nat.le_of_ble_eq_true rfl) (Nat.le_of_ble_eq_true rfl) H.m188 H.o188 (ev_depthAt L xs H hl N (by omega) (by omega)) ?_
          refine pm_Ev.go 2 (f' := (69, 30, [(6, _), (5, _), (4, _), (0, _), (1, _), (2, _), (3, _)], [_, _, _])) rfl ?_
          refine pm_Ev.cv rfl rfl rfl rfl (by decide) (Nat.le_of_ble_eq_true rfl) (Nat.le_of_ble_eq_true rfl) H.m188 H.o188 (ev_depthAt L xs H hl N u0 u1) ?_
          refine pm_Ev.go 1 (f' := (69, 34, [(6, _), (5, _), (4, _), (0, _), (1, _), (2, _), (3, _)], [_, _, _])) rfl ?_
          refine pm_Ev.iadd rfl ?_
          refine pm_Ev.jne rfl (by omega) rfl (fun h2 => ?_) (fun h2 => ?_)
          · exact absurd h2 (by omega)
          · refine pm_Ev.go 2 (f' := (69, 41, [(6, _), (5, _), (4, _), (0, _), (1, _), (2, _), (3, _)], [_, _])) rfl ?_
            refine pm_Ev.jeq rfl (by omega) rfl (fun h3 => ?_) (fun h3 => ?_)
            · refine pm_Ev.inc rfl rfl (Nat.le_of_ble_eq_true rfl) ?_
              refine pm_Ev.go 1 (f' := (69, 15, [(6, _), (5, _), (4, _), (0, _), (1, _), (2, _), (3, _)], [])) rfl ?_
              exact pm_Ev.weak ih1 rfl
            · exact absurd h3 (by omega)
      · rw [if_pos ⟨e1, e2⟩] at ih1 st
        refine pm_Ev.go 2 (f' := (69, 19, [(6, _), (5, _), (4, _), (0, _), (1, _), (2, _), (3, _)], [_, _])) rfl ?_
        refine pm_Ev.jge rfl (by omega) rfl (fun h1 => ?_) (fun h1 => ?_)
        · exact absurd h1 (by omega)
        · refine pm_Ev.go 2 (f' := (69, 25, [(6, _), (5, _), (4, _), (0, _), (1, _), (2, _), (3, _)], [_, _])) rfl ?_
          refine pm_Ev.cv rfl rfl rfl rfl (by decide) (Nat.le_of_ble_eq_true rfl) (Nat.le_of_ble_eq_true rfl) H.m188 H.o188 (ev_depthAt L xs H hl N (by omega) (by omega)) ?_
          refine pm_Ev.go 2 (f' := (69, 30, [(6, _), (5, _), (4, _), (0, _), (1, _), (2, _), (3, _)], [_, _, _])) rfl ?_
          refine pm_Ev.cv rfl rfl rfl rfl (by decide) (Nat.le_of_ble_eq_true rfl) (Nat.le_of_ble_eq_true rfl) H.m188 H.o188 (ev_depthAt L xs H hl N u0 u1) ?_
          refine pm_Ev.go 1 (f' := (69, 34, [(6, _), (5, _), (4, _), (0, _), (1, _), (2, _), (3, _)], [_, _, _])) rfl ?_
          refine pm_Ev.iadd rfl ?_
          refine pm_Ev.jne rfl (by omega) rfl (fun h2 => ?_) (fun h2 => ?_)
          · exact absurd h2 (by omega)
          · refine pm_Ev.go 2 (f' := (69, 41, [(6, _), (5, _), (4, _), (0, _), (1, _), (2, _), (3, _)], [_, _])) rfl ?_
            refine pm_Ev.jeq rfl (by omega) rfl (fun h3 => ?_) (fun h3 => ?_)
            · exact absurd h3 (by omega)
            · refine pm_Ev.go 2 (f' := (69, 47, [(6, _), (5, _), (4, _), (0, _), (1, _), (2, _), (3, _)], [_, _])) rfl ?_
              refine pm_Ev.jne rfl (by omega) rfl (fun h4 => ?_) (fun h4 => ?_)
              · refine pm_Ev.inc rfl rfl (Nat.le_of_ble_eq_true rfl) ?_
                refine pm_Ev.inc rfl rfl (Nat.le_of_ble_eq_true rfl) ?_
                refine pm_Ev.go 1 (f' := (69, 15, [(6, _), (4, _), (5, _), (0, _), (1, _), (2, _), (3, _)], [])) rfl ?_
                exact pm_Ev.weak ih1 rfl
              · exact absurd h4 (by omega)
    · rw [if_neg (fun q => e1 q.1), Int.add_zero] at ih1
      refine pm_Ev.go 2 (f' := (69, 19, [(6, _), (5, _), (4, _), (0, _), (1, _), (2, _), (3, _)], [_, _])) rfl ?_
      refine pm_Ev.jge rfl (by omega) rfl (fun h1 => ?_) (fun h1 => ?_)
      · exact absurd h1 (by omega)
      · refine pm_Ev.go 2 (f' := (69, 25, [(6, _), (5, _), (4, _), (0, _), (1, _), (2, _), (3, _)], [_, _])) rfl ?_
        refine pm_Ev.cv rfl rfl rfl rfl (by decide) (Nat.le_of_ble_eq_true rfl) (Nat.le_of_ble_eq_true rfl) H.m188 H.o188 (ev_depthAt L xs H hl N (by omega) (by omega)) ?_
        refine pm_Ev.go 2 (f' := (69, 30, [(6, _), (5, _), (4, _), (0, _), (1, _), (2, _), (3, _)], [_, _, _])) rfl ?_
        refine pm_Ev.cv rfl rfl rfl rfl (by decide) (Nat.le_of_ble_eq_true rfl) (Nat.le_of_ble_eq_true rfl) H.m188 H.o188 (ev_depthAt L xs H hl N u0 u1) ?_
        refine pm_Ev.go 1 (f' := (69, 34, [(6, _), (5, _), (4, _), (0, _), (1, _), (2, _), (3, _)], [_, _, _])) rfl ?_
        refine pm_Ev.iadd rfl ?_
        refine pm_Ev.jne rfl (by omega) rfl (fun h2 => ?_) (fun h2 => ?_)
        · refine pm_Ev.inc rfl rfl (Nat.le_of_ble_eq_true rfl) ?_
          refine pm_Ev.go 1 (f' := (69, 15, [(6, _), (5, _), (4, _), (0, _), (1, _), (2, _), (3, _)], [])) rfl ?_
          exact pm_Ev.weak ih1 rfl
        · exact absurd h2 (by omega)
theorem ev_cpw (H : Hp σ ad z ar lr) (hl : od_L z ar) (N : od_N (hq_g ar 190) (z 8)) {r k x c : Int} (u0 : -1 ≤ r) (u1 : r < (hq_g ar 190 0) ∨ r = -1) (hk : -2147483648 ≤ k ∧ k ≤ 2147483647) (hx : -2147483648 ≤ x ∧ x ≤ 2147483647) (c0 : r < c) (c1 : c ≤ fo_end (oD (hq_g ar 190)) (hq_g ar 190 0) r) (c2 : c < fo_end (oD (hq_g ar 190)) (hq_g ar 190 0) r → (oD (hq_g ar 190)) c = (oD (hq_g ar 190)) r + 1 ∧ c ≠ x ∧ od_cw (oD (hq_g ar 190)) r x (r + 1) c = k) (c3 : od_cw (oD (hq_g ar 190)) r x (r + 1) c ≤ k) : pm_Ev (tq_P L xs) (pm_enter 69 [.ref 188, .int (zI r), .int (zI k), .int (zI x)]) σ (.inl (some (.int (zI (c)))), σ) := by
  show pm_Ev (tq_P L xs) (69, 0, [(0, .ref 188), (1, .int (zI r)), (2, .int (zI k)), (3, .int (zI x))], []) σ _
  have B := fo_end_B' N.W u0 u1
  refine pm_Ev.go 4 (f' := (69, 5, [(4, _), (0, _), (1, _), (2, _), (3, _)], [_, _])) rfl ?_
  refine pm_Ev.cv rfl rfl rfl rfl (by decide) (Nat.le_of_ble_eq_true rfl) (Nat.le_of_ble_eq_true rfl) H.m188 H.o188 (ev_branchEnd L xs H hl N u0 u1) ?_
  refine pm_Ev.go 3 (f' := (69, 12, [(5, _), (4, _), (0, _), (1, _), (2, _), (3, _)], [_, _])) rfl ?_
  refine pm_Ev.iadd rfl ?_
  refine pm_Ev.go 1 (f' := (69, 15, [(6, _), (5, _), (4, _), (0, _), (1, _), (2, _), (3, _)], [])) rfl ?_
  have q := ev_cpwL L xs H hl N u0 u1 hk hx c0 c1 c2 c3 (c - (r + 1)).toNat (r + 1) (by omega) (by omega)
  rw [show od_cw (oD (hq_g ar 190)) r x (r + 1) (r + 1) = 0 from fs_0 (Int.le_refl _)] at q
  exact pm_Ev.weak q rfl
theorem ev_childPosition (H : Hp σ ad z ar lr) (hl : od_L z ar) (N : od_N (hq_g ar 190) (z 8)) {r k c : Int} (u0 : -1 ≤ r) (u1 : r < (hq_g ar 190 0) ∨ r = -1) (hk : -2147483648 ≤ k ∧ k ≤ 2147483647) (c0 : r < c) (c1 : c ≤ fo_end (oD (hq_g ar 190)) (hq_g ar 190 0) r) (c2 : c < fo_end (oD (hq_g ar 190)) (hq_g ar 190 0) r → (oD (hq_g ar 190)) c = (oD (hq_g ar 190)) r + 1 ∧ od_cw (oD (hq_g ar 190)) r (-2) (r + 1) c = k) (c3 : od_cw (oD (hq_g ar 190)) r (-2) (r + 1) c ≤ k) : pm_Ev (tq_P L xs) (pm_enter 68 [.ref 188, .int (zI r), .int (zI k)]) σ (.inl (some (.int (zI (c)))), σ) := by
  show pm_Ev (tq_P L xs) (68, 0, [(0, .ref 188), (1, .int (zI r)), (2, .int (zI k))], []) σ _
  refine pm_Ev.go 3 (f' := (68, 3, [(0, _), (1, _), (2, _)], [_, _, _])) rfl ?_
  refine pm_Ev.bp rfl rfl ?_
  refine pm_Ev.cv rfl rfl rfl rfl (by decide) (Nat.le_of_ble_eq_true rfl) (Nat.le_of_ble_eq_true rfl) H.m188 H.o188 (ev_cpw L xs H hl N u0 u1 hk (by omega) c0 c1 (fun q => ⟨(c2 q).1, by omega, (c2 q).2⟩) c3) ?_
  exact pm_Ev.rv rfl rfl rfl
theorem zor_0r {a : Int} (h : -2147483648 ≤ a ∧ a ≤ 2147483647) : zor a 0 = a := by
  rw [zor_comm]
  exact zor_0 h
theorem ev_ctagsL (H : Hp σ ad z ar lr) (hl : od_L z ar) (N : od_N (hq_g ar 190) (z 8)) {b : Int} : ∀ (k : Nat) (c a : Int), (k : Int) ≤ a → a < (hq_g ar 190 0) → 0 ≤ a → (-2147483648 ≤ c ∧ c ≤ 2147483647) → (∀ q, (k : Int) ≤ q → q < a → (oD (hq_g ar 190)) a ≤ (oD (hq_g ar 190)) q) → pm_Ev (tq_P L xs) (73, 23, [(4, .int (zI ((k : Int) - 1))), (3, .int (zI ((oD (hq_g ar 190)) a))), (2, .int (zI c)), (0, .ref 188), (1, .int (zI b))], []) σ (.inl (some (.int (zI (zor c (fo_tgs (fun p => oV (hq_g ar 190) (oI (hq_g ar 190) p) 6) (oD (hq_g ar 190)) (fo_par (oD (hq_g ar 190)) a)))))), σ) := by
  intro k
  have nm := N.nm
  have m4 := N.m4
  induction k with
  | zero =>
    intro c a ka an a0 hc hq
    have da := N.W.2.2 a a0 an
    have pe : fo_par (oD (hq_g ar 190)) a = -1 := fo_par_eq N.W a0 an ⟨by omega, by omega, by rw [N.W.1]; omega, fun q q1 q2 => hq q (by omega) q2⟩
    rw [pe, fo_tgs_neg (by decide), zor_0r hc]
    refine pm_Ev.go 1 (f' := (73, 25, [(4, _), (3, _), (2, _), (0, _), (1, _)], [_])) rfl ?_
    refine pm_Ev.zlt rfl (by omega) rfl (fun h1 => ?_) (fun h1 => ?_)
    · refine pm_Ev.go 1 (f' := (73, 67, [(4, _), (3, _), (2, _), (0, _), (1, _)], [_])) rfl ?_
      exact pm_Ev.rv rfl rfl rfl
    · exact absurd h1 (by omega)
  | succ k ih =>
    intro c a ka an a0 hc hq
    have d0 := N.dr (p := (k : Int)) (by omega) (by omega)
    have d1 := N.dr (p := a) (by omega) (by omega)
    have i0 := N.J.1 k (by omega) (by omega)
    have i1 := N.lt k (by omega) (by omega)
    rw [show ((k + 1 : Nat) : Int) - 1 = (k : Int) by omega]
    by_cases e : (oD (hq_g ar 190)) k < (oD (hq_g ar 190)) a
    · have pe : fo_par (oD (hq_g ar 190)) a = k := fo_par_eq N.W a0 an ⟨by omega, by omega, e, fun q q1 q2 => hq q (by omega) q2⟩
      have q := ih (zor c (oV (hq_g ar 190) (oI (hq_g ar 190) k) 6)) k (by omega) (by omega) (by omega) (zor_r _ _) (fun q q1 q2 => absurd q1 (by omega))
      rw [zor_assoc, zor_comm (oV (hq_g ar 190) (oI (hq_g ar 190) k) 6), ← fo_tgs_s (T := (fun p => oV (hq_g ar 190) (oI (hq_g ar 190) p) 6)) N.W (by omega) (by omega : (k : Int) < (hq_g ar 190 0)), ← pe] at q
      rw [pe] at q
      rw [pe]
      refine pm_Ev.go 1 (f' := (73, 25, [(4, _), (3, _), (2, _), (0, _), (1, _)], [_])) rfl ?_
      refine pm_Ev.zlt rfl (by omega) rfl (fun h1 => ?_) (fun h1 => ?_)
      · exact absurd h1 (by omega)
      · refine pm_Ev.go 2 (f' := (73, 31, [(4, _), (3, _), (2, _), (0, _), (1, _)], [_, _])) rfl ?_
        refine pm_Ev.cv rfl rfl rfl rfl (by decide) (Nat.le_of_ble_eq_true rfl) (Nat.le_of_ble_eq_true rfl) H.m188 H.o188 (ev_depthAt L xs H hl N (by omega) (by omega)) ?_
        refine pm_Ev.go 1 (f' := (73, 35, [(4, _), (3, _), (2, _), (0, _), (1, _)], [_, _])) rfl ?_
        refine pm_Ev.jge rfl (by omega) rfl (fun h2 => ?_) (fun h2 => ?_)
        · exact absurd h2 (by omega)
        · refine pm_Ev.go 2 (f' := (73, 41, [(4, _), (3, _), (2, _), (0, _), (1, _)], [_, _])) rfl ?_
          refine pm_Ev.cv rfl rfl rfl rfl (by decide) (Nat.le_of_ble_eq_true rfl) (Nat.le_of_ble_eq_true rfl) H.m188 H.o188 (ev_depthAt L xs H hl N (by omega) (by omega)) ?_
          refine pm_Ev.go 5 (f' := (73, 50, [(3, _), (4, _), (2, _), (0, _), (1, _)], [_, _, _, _])) rfl ?_
          refine pm_Ev.cv rfl rfl rfl rfl (by decide) (Nat.le_of_ble_eq_true rfl) (Nat.le_of_ble_eq_true rfl) H.m188 H.o188 (ev_entryAt L xs H hl N.m0 (by omega)) ?_
          refine pm_Ev.bp rfl rfl ?_
          refine pm_Ev.cv rfl rfl rfl rfl (by decide) (Nat.le_of_ble_eq_true rfl) (Nat.le_of_ble_eq_true rfl) H.m188 H.o188 (ev_value L xs H hl N.m0 (by omega)) ?_
          refine pm_Ev.ior rfl ?_
          refine pm_Ev.go 1 (f' := (73, 60, [(2, _), (3, _), (4, _), (0, _), (1, _)], [])) rfl ?_
          refine pm_Ev.inc rfl rfl (Nat.le_of_ble_eq_true rfl) ?_
          refine pm_Ev.go 1 (f' := (73, 23, [(4, _), (2, _), (3, _), (0, _), (1, _)], [])) rfl ?_
          exact pm_Ev.weak q rfl
    · have q := ih c a (by omega) an a0 hc (fun q q1 q2 => by
        by_cases z : q = k
        · rw [z]
          omega
        · exact hq q (by omega) q2)
      refine pm_Ev.go 1 (f' := (73, 25, [(4, _), (3, _), (2, _), (0, _), (1, _)], [_])) rfl ?_
      refine pm_Ev.zlt rfl (by omega) rfl (fun h1 => ?_) (fun h1 => ?_)
      · exact absurd h1 (by omega)
      · refine pm_Ev.go 2 (f' := (73, 31, [(4, _), (3, _), (2, _), (0, _), (1, _)], [_, _])) rfl ?_
        refine pm_Ev.cv rfl rfl rfl rfl (by decide) (Nat.le_of_ble_eq_true rfl) (Nat.le_of_ble_eq_true rfl) H.m188 H.o188 (ev_depthAt L xs H hl N (by omega) (by omega)) ?_
        refine pm_Ev.go 1 (f' := (73, 35, [(4, _), (3, _), (2, _), (0, _), (1, _)], [_, _])) rfl ?_
        refine pm_Ev.jge rfl (by omega) rfl (fun h2 => ?_) (fun h2 => ?_)
        · refine pm_Ev.inc rfl rfl (Nat.le_of_ble_eq_true rfl) ?_
          refine pm_Ev.go 1 (f' := (73, 23, [(4, _), (3, _), (2, _), (0, _), (1, _)], [])) rfl ?_
          exact pm_Ev.weak q rfl
        · exact absurd h2 (by omega)
theorem ev_allTagsAt (H : Hp σ ad z ar lr) (hl : od_L z ar) (N : od_N (hq_g ar 190) (z 8)) {b : Int} (b0 : 0 ≤ b) (b1 : b < (hq_g ar 190 0)) : pm_Ev (tq_P L xs) (pm_enter 73 [.ref 188, .int (zI b)]) σ (.inl (some (.int (zI (fo_tgs (fun p => oV (hq_g ar 190) (oI (hq_g ar 190) p) 6) (oD (hq_g ar 190)) b)))), σ) := by
  show pm_Ev (tq_P L xs) (73, 0, [(0, .ref 188), (1, .int (zI b))], []) σ _
  have nm := N.nm
  have m4 := N.m4
  have i0 := N.J.1 b b0 b1
  have i1 := N.lt b b0 b1
  refine pm_Ev.go 3 (f' := (73, 3, [(0, _), (1, _)], [_, _, _])) rfl ?_
  refine pm_Ev.cv rfl rfl rfl rfl (by decide) (Nat.le_of_ble_eq_true rfl) (Nat.le_of_ble_eq_true rfl) H.m188 H.o188 (ev_entryAt L xs H hl N.m0 (by omega)) ?_
  refine pm_Ev.bp rfl rfl ?_
  refine pm_Ev.cv rfl rfl rfl rfl (by decide) (Nat.le_of_ble_eq_true rfl) (Nat.le_of_ble_eq_true rfl) H.m188 H.o188 (ev_value L xs H hl N.m0 (by omega)) ?_
  refine pm_Ev.go 3 (f' := (73, 14, [(2, _), (0, _), (1, _)], [_, _])) rfl ?_
  refine pm_Ev.cv rfl rfl rfl rfl (by decide) (Nat.le_of_ble_eq_true rfl) (Nat.le_of_ble_eq_true rfl) H.m188 H.o188 (ev_depthAt L xs H hl N (by omega) (by omega)) ?_
  refine pm_Ev.go 3 (f' := (73, 20, [(3, _), (2, _), (0, _), (1, _)], [_, _])) rfl ?_
  refine pm_Ev.isub rfl ?_
  refine pm_Ev.go 1 (f' := (73, 23, [(4, _), (3, _), (2, _), (0, _), (1, _)], [])) rfl ?_
  have q := ev_ctagsL L xs H hl N (b := b) b.toNat (oV (hq_g ar 190) (oI (hq_g ar 190) b) 6) b (by omega) b1 b0 (hq_g_r _ _ _) (fun q q1 q2 => absurd q1 (by omega))
  rw [zor_comm, ← fo_tgs_s (T := (fun p => oV (hq_g ar 190) (oI (hq_g ar 190) p) 6)) N.W b0 b1, show ((b.toNat : Nat) : Int) = b by omega] at q
  exact pm_Ev.weak q rfl
theorem ev_share (H : Hp σ ad z ar lr) (hl : od_L z ar) (m0 : 0 ≤ z 8) {e v : Int} (h : 0 ≤ e ∧ e < z 8) (hv : 0 ≤ v ∧ v ≤ 4) : pm_Ev (tq_P L xs) (pm_enter 75 [.ref 188, .int (zI e), .int (zI v)]) σ (.inl (some (.int (zI (od_hv (hq_g ar 190) v e)))), σ) := by
  have g : -2147483648 ≤ oV (hq_g ar 190) e 4 ∧ oV (hq_g ar 190) e 4 ≤ 2147483647 := hq_g_r ar 190 (401 + e * 16 + 4)
  by_cases v0 : v = 0
  · subst v0
    rw [show od_hv (hq_g ar 190) 0 e = 1 from rfl]
    show pm_Ev (tq_P L xs) (75, 0, [(0, .ref 188), (1, .int (zI e)), (2, .int (zI 0))], []) σ _
    refine pm_Ev.go 3 (f' := (75, 33, [(0, _), (1, _), (2, _)], [_])) rfl ?_
    exact pm_Ev.rv rfl rfl rfl
  · by_cases v1 : v = 1
    · subst v1
      rw [show od_hv (hq_g ar 190) 1 e = oV (hq_g ar 190) e 12 from rfl]
      show pm_Ev (tq_P L xs) (75, 0, [(0, .ref 188), (1, .int (zI e)), (2, .int (zI 1))], []) σ _
      refine pm_Ev.go 4 (f' := (75, 36, [(0, _), (1, _), (2, _)], [_, _])) rfl ?_
      refine pm_Ev.bp rfl rfl ?_
      refine pm_Ev.cv rfl rfl rfl rfl (by decide) (Nat.le_of_ble_eq_true rfl) (Nat.le_of_ble_eq_true rfl) H.m188 H.o188 (ev_value L xs H hl m0 (by omega)) ?_
      exact pm_Ev.rv rfl rfl rfl
    · by_cases v2 : v = 2
      · subst v2
        rw [show od_hv (hq_g ar 190) 2 e = oV (hq_g ar 190) e 13 from rfl]
        show pm_Ev (tq_P L xs) (75, 0, [(0, .ref 188), (1, .int (zI e)), (2, .int (zI 2))], []) σ _
        refine pm_Ev.go 4 (f' := (75, 44, [(0, _), (1, _), (2, _)], [_, _])) rfl ?_
        refine pm_Ev.bp rfl rfl ?_
        refine pm_Ev.cv rfl rfl rfl rfl (by decide) (Nat.le_of_ble_eq_true rfl) (Nat.le_of_ble_eq_true rfl) H.m188 H.o188 (ev_value L xs H hl m0 (by omega)) ?_
        exact pm_Ev.rv rfl rfl rfl
      · by_cases v3 : v = 3
        · subst v3
          rw [show od_hv (hq_g ar 190) 3 e = (if 3 ≤ oV (hq_g ar 190) e 4 then 1 else 0) from rfl]
          have cl := ev_isClosed L xs H hl m0 h
          by_cases c : 3 ≤ oV (hq_g ar 190) e 4
          · rw [if_pos c] at cl ⊢
            show pm_Ev (tq_P L xs) (75, 0, [(0, .ref 188), (1, .int (zI e)), (2, .int (zI 3))], []) σ _
            refine pm_Ev.go 4 (f' := (75, 52, [(0, _), (1, _), (2, _)], [_, _])) rfl ?_
            refine pm_Ev.cv rfl rfl rfl rfl (by decide) (Nat.le_of_ble_eq_true rfl) (Nat.le_of_ble_eq_true rfl) H.m188 H.o188 (cl) ?_
            refine pm_Ev.zeq rfl (by omega) rfl (fun h1 => ?_) (fun h1 => ?_)
            · exact absurd h1 (by omega)
            · refine pm_Ev.go 2 (f' := (75, 63, [(0, _), (1, _), (2, _)], [_])) rfl ?_
              exact pm_Ev.rv rfl rfl rfl
          · rw [if_neg c] at cl ⊢
            show pm_Ev (tq_P L xs) (75, 0, [(0, .ref 188), (1, .int (zI e)), (2, .int (zI 3))], []) σ _
            refine pm_Ev.go 4 (f' := (75, 52, [(0, _), (1, _), (2, _)], [_, _])) rfl ?_
            refine pm_Ev.cv rfl rfl rfl rfl (by decide) (Nat.le_of_ble_eq_true rfl) (Nat.le_of_ble_eq_true rfl) H.m188 H.o188 (cl) ?_
            refine pm_Ev.zeq rfl (by omega) rfl (fun h1 => ?_) (fun h1 => ?_)
            · refine pm_Ev.go 1 (f' := (75, 63, [(0, _), (1, _), (2, _)], [_])) rfl ?_
              exact pm_Ev.rv rfl rfl rfl
            · exact absurd h1 (by omega)
        · have v4 : v = 4 := by omega
          subst v4
          rw [show od_hv (hq_g ar 190) 4 e = (if oV (hq_g ar 190) e 4 = 0 then 0 else 1) from rfl]
          by_cases c : oV (hq_g ar 190) e 4 = 0
          · rw [if_pos c]
            show pm_Ev (tq_P L xs) (75, 0, [(0, .ref 188), (1, .int (zI e)), (2, .int (zI 4))], []) σ _
            refine pm_Ev.go 5 (f' := (75, 67, [(0, _), (1, _), (2, _)], [_, _, _])) rfl ?_
            refine pm_Ev.cv rfl rfl rfl rfl (by decide) (Nat.le_of_ble_eq_true rfl) (Nat.le_of_ble_eq_true rfl) H.m188 H.o188 (ev_value L xs H hl m0 (by omega)) ?_
            refine pm_Ev.zne rfl (by omega) rfl (fun h1 => ?_) (fun h1 => ?_)
            · exact absurd h1 (by omega)
            · refine pm_Ev.go 2 (f' := (75, 78, [(0, _), (1, _), (2, _)], [_])) rfl ?_
              exact pm_Ev.rv rfl rfl rfl
          · rw [if_neg c]
            show pm_Ev (tq_P L xs) (75, 0, [(0, .ref 188), (1, .int (zI e)), (2, .int (zI 4))], []) σ _
            refine pm_Ev.go 5 (f' := (75, 67, [(0, _), (1, _), (2, _)], [_, _, _])) rfl ?_
            refine pm_Ev.cv rfl rfl rfl rfl (by decide) (Nat.le_of_ble_eq_true rfl) (Nat.le_of_ble_eq_true rfl) H.m188 H.o188 (ev_value L xs H hl m0 (by omega)) ?_
            refine pm_Ev.zne rfl (by omega) rfl (fun h1 => ?_) (fun h1 => ?_)
            · refine pm_Ev.go 1 (f' := (75, 78, [(0, _), (1, _), (2, _)], [_])) rfl ?_
              exact pm_Ev.rv rfl rfl rfl
            · exact absurd h1 (by omega)
theorem ev_totalL (H : Hp σ ad z ar lr) (hl : od_L z ar) (N : od_N (hq_g ar 190) (z 8)) {b v a e : Int} (hv : 0 ≤ v ∧ v ≤ 4) (a0 : 0 ≤ a) (en : e ≤ (hq_g ar 190 0)) : ∀ (k : Nat) (p : Int), a ≤ p → p + k = e → pm_Ev (tq_P L xs) (74, 16, [(5, .int (zI p)), (4, .int (zI e)), (3, .int (zI (fs (fun p => od_hv (hq_g ar 190) v (oI (hq_g ar 190) p)) a p))), (0, .ref 188), (1, .int (zI b)), (2, .int (zI v))], []) σ (.inl (some (.int (zI (fs (fun p => od_hv (hq_g ar 190) v (oI (hq_g ar 190) p)) a e)))), σ) := by
  intro k
  have nm := N.nm
  have m4 := N.m4
  induction k with
  | zero =>
    intro p ap pk
    have e1 : p = e := by omega
    subst e1
    refine pm_Ev.go 2 (f' := (74, 20, [(5, _), (4, _), (3, _), (0, _), (1, _), (2, _)], [_, _])) rfl ?_
    refine pm_Ev.jge rfl (by omega) rfl (fun h1 => ?_) (fun h1 => ?_)
    · refine pm_Ev.go 1 (f' := (74, 44, [(5, _), (4, _), (3, _), (0, _), (1, _), (2, _)], [_])) rfl ?_
      exact pm_Ev.rv rfl rfl rfl
    · exact absurd h1 (by omega)
  | succ k ih =>
    intro p ap pk
    have i0 := N.J.1 p (by omega) (by omega)
    have i1 := N.lt p (by omega) (by omega)
    have ih1 := ih (p + 1) (by omega) (by omega)
    rw [fs_r ap] at ih1
    refine pm_Ev.go 2 (f' := (74, 20, [(5, _), (4, _), (3, _), (0, _), (1, _), (2, _)], [_, _])) rfl ?_
    refine pm_Ev.jge rfl (by omega) rfl (fun h1 => ?_) (fun h1 => ?_)
    · exact absurd h1 (by omega)
    · refine pm_Ev.go 4 (f' := (74, 28, [(5, _), (4, _), (3, _), (0, _), (1, _), (2, _)], [_, _, _, _])) rfl ?_
      refine pm_Ev.cv rfl rfl rfl rfl (by decide) (Nat.le_of_ble_eq_true rfl) (Nat.le_of_ble_eq_true rfl) H.m188 H.o188 (ev_entryAt L xs H hl N.m0 (by omega)) ?_
      refine pm_Ev.go 1 (f' := (74, 32, [(5, _), (4, _), (3, _), (0, _), (1, _), (2, _)], [_, _, _, _])) rfl ?_
      refine pm_Ev.cv rfl rfl rfl rfl (by decide) (Nat.le_of_ble_eq_true rfl) (Nat.le_of_ble_eq_true rfl) H.m188 H.o188 (ev_share L xs H hl N.m0 (by omega) hv) ?_
      refine pm_Ev.iadd rfl ?_
      refine pm_Ev.go 1 (f' := (74, 37, [(3, _), (5, _), (4, _), (0, _), (1, _), (2, _)], [])) rfl ?_
      refine pm_Ev.inc rfl rfl (Nat.le_of_ble_eq_true rfl) ?_
      refine pm_Ev.go 1 (f' := (74, 16, [(5, _), (3, _), (4, _), (0, _), (1, _), (2, _)], [])) rfl ?_
      exact pm_Ev.weak ih1 rfl
theorem ev_total (H : Hp σ ad z ar lr) (hl : od_L z ar) (N : od_N (hq_g ar 190) (z 8)) {b v : Int} (b0 : -1 ≤ b) (b1 : b < (hq_g ar 190 0) ∨ b = -1) (hv : 0 ≤ v ∧ v ≤ 4) : pm_Ev (tq_P L xs) (pm_enter 74 [.ref 188, .int (zI b), .int (zI v)]) σ (.inl (some (.int (zI (fs (fun p => od_hv (hq_g ar 190) v (oI (hq_g ar 190) p)) (if b < 0 then 0 else b) (fo_end (oD (hq_g ar 190)) (hq_g ar 190 0) b))))), σ) := by
  show pm_Ev (tq_P L xs) (74, 0, [(0, .ref 188), (1, .int (zI b)), (2, .int (zI v))], []) σ _
  have nm := N.nm
  have m4 := N.m4
  have n0 := N.W.2.1
  have B := fo_end_B' N.W b0 b1
  have er := fo_end_root N.W
  refine pm_Ev.go 4 (f' := (74, 4, [(3, _), (0, _), (1, _), (2, _)], [_, _])) rfl ?_
  refine pm_Ev.cv rfl rfl rfl rfl (by decide) (Nat.le_of_ble_eq_true rfl) (Nat.le_of_ble_eq_true rfl) H.m188 H.o188 (ev_branchEnd L xs H hl N b0 b1) ?_
  refine pm_Ev.go 3 (f' := (74, 11, [(4, _), (3, _), (0, _), (1, _), (2, _)], [_, _])) rfl ?_
  refine pm_Ev.call rfl rfl rfl rfl rfl (ev_max L xs (by omega)) ?_
  refine pm_Ev.go 1 (f' := (74, 16, [(5, _), (4, _), (3, _), (0, _), (1, _), (2, _)], [])) rfl ?_
  have en : (if b < 0 then 0 else b) ≤ fo_end (oD (hq_g ar 190)) (hq_g ar 190 0) b := by
    by_cases c : b < 0
    · rw [if_pos c, show b = -1 by omega, er]
      exact n0
    · rw [if_neg c]
      omega
  have a0 : 0 ≤ (if b < 0 then 0 else b) := by split <;> omega
  have q := ev_totalL L xs H hl N (b := b) (v := v) (a := if b < 0 then 0 else b) (e := fo_end (oD (hq_g ar 190)) (hq_g ar 190 0) b) hv a0 B.2.1 (fo_end (oD (hq_g ar 190)) (hq_g ar 190 0) b - (if b < 0 then 0 else b)).toNat (if b < 0 then 0 else b) (Int.le_refl _) (by omega)
  rw [fs_0 (Int.le_refl _)] at q
  exact pm_Ev.weak q rfl
end MS
