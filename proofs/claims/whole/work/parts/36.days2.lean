/-! the calendar of the desk: numbers, years, months -/
theorem cd_ln_r (m : Int) : 28 ≤ cd_ln m ∧ cd_ln m ≤ 31 := by
  unfold cd_ln
  split
  · omega
  · split <;> omega
theorem cd_len_r (m : Int) : 28 ≤ cd_len m ∧ cd_len m ≤ 31 := by
  unfold cd_len
  have := cd_leap_r (m / 12 + 1)
  by_cases h : m % 12 = 1
  · rw [if_pos h, h]
    have : cd_ln 1 = 28 := rfl
    omega
  · rw [if_neg h]
    have := cd_ln_r (m % 12)
    omega
theorem cd_db_r (m : Int) : 0 ≤ cd_db m ∧ cd_db m ≤ 334 := by
  unfold cd_db
  repeat' split
  all_goals omega
theorem cd_fd_r {y : Int} (h1 : 1 ≤ y) (h2 : y ≤ 1000000) : 0 ≤ cd_fd y ∧ cd_fd y ≤ 366000000 := by
  unfold cd_fd
  omega
theorem cd_fd_s (y : Int) : cd_fd (y + 1) = cd_fd y + 365 + cd_leap y := by
  by_cases h : y % 4 = 0 ∧ (y % 100 ≠ 0 ∨ y % 400 = 0)
  · rw [cd_leap_1 h]
    unfold cd_fd
    omega
  · rw [cd_leap_0 h]
    unfold cd_fd
    omega
theorem cd_num_r {mo d : Int} (h1 : 0 ≤ mo) (h2 : mo ≤ 10000000) (h3 : -1000 ≤ d) (h4 : d ≤ 1000) : -1001 ≤ cd_num mo d ∧ cd_num mo d ≤ 400000000 := by
  unfold cd_num
  have q1 := cd_fd_r (y := mo / 12 + 1) (by omega) (by omega)
  have q2 := cd_db_r (mo % 12)
  have q3 := cd_leap_r (mo / 12 + 1)
  split <;> omega
def cd_yr (d : Int) : Int := if cd_fd (d * 400 / 146097 + 2) > d then d * 400 / 146097 + 1 else d * 400 / 146097 + 2
theorem cd_yr_ok {d : Int} (h : 0 ≤ d) : 1 ≤ cd_yr d ∧ cd_fd (cd_yr d) ≤ d ∧ d < cd_fd (cd_yr d + 1) := by
  unfold cd_yr
  generalize hq : d * 400 / 146097 = q
  split
  · rw [show q + 1 + 1 = q + 2 by omega]
    unfold cd_fd at *
    omega
  · rw [show q + 2 + 1 = q + 3 by omega]
    unfold cd_fd at *
    rw [show q + 2 - 1 = q + 1 by omega] at *
    rw [show q + 3 - 1 = q + 2 by omega] at *
    omega
def cd_mbl (jan day : Int) : Nat → Int
  | 0 => jan
  | m + 1 => if cd_num (jan + (m + 1 : Nat)) 1 ≤ day then jan + (m + 1 : Nat) else cd_mbl jan day m
def cd_mb (day : Int) : Int := cd_mbl ((cd_yr day - 1) * 12) day 11
section CD
variable (L : Nat) (xs : Nat → Int32) (σ : pm_S)
theorem ev_number {mo d : Int} (h : 0 ≤ mo ∧ mo ≤ 10000000 ∧ -1000 ≤ d ∧ d ≤ 1000) : pm_Ev (tq_P L xs) (pm_enter 166 [.int (zI mo), .int (zI d)]) σ (.inl (some (.int (zI (cd_num mo d)))), σ) := by
  show pm_Ev (tq_P L xs) (166, 0, [(0, .int (zI mo)), (1, .int (zI d))], []) σ _
  refine pm_Ev.go 1 (f' := (166, 1, [(0, _), (1, _)], [_])) rfl ?_
  refine pm_Ev.bp rfl rfl ?_
  refine pm_Ev.idiv rfl (by omega) ?_
  refine pm_Ev.go 1 (f' := (166, 5, [(0, _), (1, _)], [_, _])) rfl ?_
  refine pm_Ev.iadd rfl ?_
  refine pm_Ev.go 2 (f' := (166, 8, [(2, _), (0, _), (1, _)], [_])) rfl ?_
  refine pm_Ev.bp rfl rfl ?_
  refine pm_Ev.irem rfl (by omega) ?_
  refine pm_Ev.go 3 (f' := (166, 14, [(3, _), (2, _), (0, _), (1, _)], [_, _])) rfl ?_
  refine pm_Ev.jle rfl (by omega) rfl (fun h1 => ?_) (fun h1 => ?_)
  · refine pm_Ev.go 3 (f' := (166, 32, [(4, _), (3, _), (2, _), (0, _), (1, _)], [_])) rfl ?_
    refine pm_Ev.call rfl rfl rfl rfl rfl (ev_firstDayOf L xs σ (by omega)) ?_
    refine pm_Ev.go 2 (f' := (166, 39, [(4, _), (3, _), (2, _), (0, _), (1, _)], [_, _, _])) rfl ?_
    refine pm_Ev.io rfl (by have := zI_ix (z := mo % 12) (n := 12) (by omega) (by omega) (by omega); exact fun q => q.elim (fun q => absurd q (by decide)) this) ?_
    rw [show ((pm_old (tq_P L xs) 2).2 (zI (mo % 12)).toNatClampNeg) = zI (cd_db (mo % 12)) from cd_t2 _ (by omega) (by omega)]
    refine pm_Ev.iadd rfl ?_
    refine pm_Ev.go 1 (f' := (166, 43, [(4, _), (3, _), (2, _), (0, _), (1, _)], [_, _])) rfl ?_
    refine pm_Ev.iadd rfl ?_
    refine pm_Ev.go 1 (f' := (166, 45, [(4, _), (3, _), (2, _), (0, _), (1, _)], [_, _])) rfl ?_
    refine pm_Ev.iadd rfl ?_
    refine pm_Ev.go 1 (f' := (166, 47, [(4, _), (3, _), (2, _), (0, _), (1, _)], [_, _])) rfl ?_
    refine pm_Ev.isub rfl ?_
    exact pm_Ev.rv rfl rfl (by unfold cd_num; first | (rw [if_neg (by omega)] <;> omega) | (rw [if_pos (by omega)] <;> omega))
  · refine pm_Ev.go 1 (f' := (166, 18, [(3, _), (2, _), (0, _), (1, _)], [_])) rfl ?_
    refine pm_Ev.call rfl rfl rfl rfl rfl (ev_isLeap L xs σ (by omega)) ?_
    have hl := cd_leap_r (mo / 12 + 1)
    refine pm_Ev.zeq rfl (by omega) rfl (fun h2 => ?_) (fun h2 => ?_)
    · refine pm_Ev.go 3 (f' := (166, 32, [(4, _), (3, _), (2, _), (0, _), (1, _)], [_])) rfl ?_
      refine pm_Ev.call rfl rfl rfl rfl rfl (ev_firstDayOf L xs σ (by omega)) ?_
      refine pm_Ev.go 2 (f' := (166, 39, [(4, _), (3, _), (2, _), (0, _), (1, _)], [_, _, _])) rfl ?_
      refine pm_Ev.io rfl (by have := zI_ix (z := mo % 12) (n := 12) (by omega) (by omega) (by omega); exact fun q => q.elim (fun q => absurd q (by decide)) this) ?_
      rw [show ((pm_old (tq_P L xs) 2).2 (zI (mo % 12)).toNatClampNeg) = zI (cd_db (mo % 12)) from cd_t2 _ (by omega) (by omega)]
      refine pm_Ev.iadd rfl ?_
      refine pm_Ev.go 1 (f' := (166, 43, [(4, _), (3, _), (2, _), (0, _), (1, _)], [_, _])) rfl ?_
      refine pm_Ev.iadd rfl ?_
      refine pm_Ev.go 1 (f' := (166, 45, [(4, _), (3, _), (2, _), (0, _), (1, _)], [_, _])) rfl ?_
      refine pm_Ev.iadd rfl ?_
      refine pm_Ev.go 1 (f' := (166, 47, [(4, _), (3, _), (2, _), (0, _), (1, _)], [_, _])) rfl ?_
      refine pm_Ev.isub rfl ?_
      exact pm_Ev.rv rfl rfl (by unfold cd_num; first | (rw [if_neg (by omega)] <;> omega) | (rw [if_pos (by omega)] <;> omega))
    · refine pm_Ev.go 4 (f' := (166, 32, [(4, _), (3, _), (2, _), (0, _), (1, _)], [_])) rfl ?_
      refine pm_Ev.call rfl rfl rfl rfl rfl (ev_firstDayOf L xs σ (by omega)) ?_
      refine pm_Ev.go 2 (f' := (166, 39, [(4, _), (3, _), (2, _), (0, _), (1, _)], [_, _, _])) rfl ?_
      refine pm_Ev.io rfl (by have := zI_ix (z := mo % 12) (n := 12) (by omega) (by omega) (by omega); exact fun q => q.elim (fun q => absurd q (by decide)) this) ?_
      rw [show ((pm_old (tq_P L xs) 2).2 (zI (mo % 12)).toNatClampNeg) = zI (cd_db (mo % 12)) from cd_t2 _ (by omega) (by omega)]
      refine pm_Ev.iadd rfl ?_
      refine pm_Ev.go 1 (f' := (166, 43, [(4, _), (3, _), (2, _), (0, _), (1, _)], [_, _])) rfl ?_
      refine pm_Ev.iadd rfl ?_
      refine pm_Ev.go 1 (f' := (166, 45, [(4, _), (3, _), (2, _), (0, _), (1, _)], [_, _])) rfl ?_
      refine pm_Ev.iadd rfl ?_
      refine pm_Ev.go 1 (f' := (166, 47, [(4, _), (3, _), (2, _), (0, _), (1, _)], [_, _])) rfl ?_
      refine pm_Ev.isub rfl ?_
      exact pm_Ev.rv rfl rfl (by unfold cd_num; first | (rw [if_neg (by omega)] <;> omega) | (rw [if_pos (by omega)] <;> omega))
theorem ev_yearOf {day : Int} (h : 0 ≤ day ∧ day ≤ 10000000) : pm_Ev (tq_P L xs) (pm_enter 168 [.int (zI day)]) σ (.inl (some (.int (zI (cd_yr day)))), σ) := by
  show pm_Ev (tq_P L xs) (168, 0, [(0, .int (zI day))], []) σ _
  refine pm_Ev.go 1 (f' := (168, 1, [(0, _)], [_])) rfl ?_
  refine pm_Ev.i2l rfl (by omega) ?_
  refine pm_Ev.cc2 (400) rfl rfl rfl ?_
  refine pm_Ev.lmul rfl ?_
  refine pm_Ev.cc2 (146097) rfl rfl rfl ?_
  refine pm_Ev.ldiv rfl (by omega) ?_
  refine pm_Ev.l2i rfl ?_
  refine pm_Ev.go 1 (f' := (168, 12, [(0, _)], [_, _])) rfl ?_
  refine pm_Ev.iadd rfl ?_
  refine pm_Ev.go 3 (f' := (168, 16, [(1, _), (0, _)], [_, _])) rfl ?_
  refine pm_Ev.iadd rfl ?_
  refine pm_Ev.call rfl rfl rfl rfl rfl (ev_firstDayOf L xs σ (by omega)) ?_
  rw [show day * 400 / 146097 + 1 + 1 = day * 400 / 146097 + 2 by omega]
  have hf := cd_fd_r (y := day * 400 / 146097 + 2) (by omega) (by omega)
  refine pm_Ev.go 1 (f' := (168, 21, [(1, _), (0, _)], [_, _])) rfl ?_
  refine pm_Ev.jle rfl (by omega) rfl (fun h1 => ?_) (fun h1 => ?_)
  · refine pm_Ev.go 2 (f' := (168, 30, [(1, _), (0, _)], [_, _])) rfl ?_
    refine pm_Ev.iadd rfl ?_
    exact pm_Ev.rv rfl rfl (by unfold cd_yr; first | (rw [if_pos (by omega)]; done) | (rw [if_neg (by omega)]; omega))
  · refine pm_Ev.go 2 (f' := (168, 31, [(1, _), (0, _)], [_])) rfl ?_
    exact pm_Ev.rv rfl rfl (by unfold cd_yr; first | (rw [if_pos (by omega)]; done) | (rw [if_neg (by omega)]; omega))
theorem ev_mbl {jan day : Int} (h : 0 ≤ jan ∧ jan ≤ 1000000 ∧ 0 ≤ day ∧ day ≤ 10000000) : ∀ m : Nat, m ≤ 11 → pm_Ev (tq_P L xs) (169, 13, [(2, .int (zI m)), (1, .int (zI jan)), (0, .int (zI day))], []) σ (.inl (some (.int (zI (cd_mbl jan day m)))), σ)
  | 0, _ => by
    refine pm_Ev.go 1 rfl ?_
    refine pm_Ev.zle rfl (by decide) rfl (fun h1 => ?_) (fun h1 => absurd h1 (by decide))
    refine pm_Ev.go 1 rfl ?_
    exact pm_Ev.rv rfl rfl rfl
  | m + 1, hm => by
    refine pm_Ev.go 1 (f' := (169, 14, [(2, _), (1, _), (0, _)], [_])) rfl ?_
    refine pm_Ev.zle rfl (by omega) rfl (fun h1 => ?_) (fun h1 => ?_)
    · exact absurd h1 (by omega)
    · refine pm_Ev.go 2 (f' := (169, 19, [(2, _), (1, _), (0, _)], [_, _])) rfl ?_
      refine pm_Ev.iadd rfl ?_
      refine pm_Ev.go 1 (f' := (169, 21, [(2, _), (1, _), (0, _)], [_, _])) rfl ?_
      refine pm_Ev.call rfl rfl rfl rfl rfl (ev_number L xs σ (mo := jan + (m + 1 : Nat)) (d := 1) (by omega)) ?_
      have hn := cd_num_r (mo := jan + (m + 1 : Nat)) (d := 1) (by omega) (by omega) (by omega) (by omega)
      refine pm_Ev.go 1 (f' := (169, 25, [(2, _), (1, _), (0, _)], [_, _])) rfl ?_
      refine pm_Ev.jgt rfl (by omega) rfl (fun h2 => ?_) (fun h2 => ?_)
      · refine pm_Ev.inc rfl rfl (Nat.le_of_ble_eq_true rfl) ?_
        rw [show ((m + 1 : Nat) : Int) + -1 = (m : Int) by omega, cd_mbl, if_neg (by omega)]
        refine pm_Ev.go 1 (f' := (169, 13, [(2, _), (1, _), (0, _)], [])) rfl ?_
        exact pm_Ev.weak (ev_mbl h m (by omega)) rfl
      · refine pm_Ev.go 2 (f' := (169, 30, [(2, _), (1, _), (0, _)], [_, _])) rfl ?_
        refine pm_Ev.iadd rfl ?_
        exact pm_Ev.rv rfl rfl (by rw [cd_mbl, if_pos (by omega)])
theorem cd_yr_r {d : Int} (h1 : 0 ≤ d) (h2 : d ≤ 10000000) : 1 ≤ cd_yr d ∧ cd_yr d ≤ 30000 := by
  unfold cd_yr
  split <;> omega
theorem ev_monthsBefore {day : Int} (h : 0 ≤ day ∧ day ≤ 10000000) : pm_Ev (tq_P L xs) (pm_enter 169 [.int (zI day)]) σ (.inl (some (.int (zI (cd_mb day)))), σ) := by
  show pm_Ev (tq_P L xs) (169, 0, [(0, .int (zI day))], []) σ _
  refine pm_Ev.go 1 (f' := (169, 1, [(0, _)], [_])) rfl ?_
  refine pm_Ev.call rfl rfl rfl rfl rfl (ev_yearOf L xs σ h) ?_
  have hy := cd_yr_r h.1 h.2
  refine pm_Ev.go 1 (f' := (169, 5, [(0, _)], [_, _])) rfl ?_
  refine pm_Ev.isub rfl ?_
  refine pm_Ev.bp rfl rfl ?_
  refine pm_Ev.imul rfl ?_
  refine pm_Ev.go 1 (f' := (169, 10, [(1, _), (0, _)], [])) rfl ?_
  refine pm_Ev.bp rfl rfl ?_
  refine pm_Ev.go 1 (f' := (169, 13, [(2, _), (1, _), (0, _)], [])) rfl ?_
  exact pm_Ev.weak (ev_mbl L xs σ (by omega) 11 (by omega)) rfl
theorem ev_dayInMonth {day mo : Int} (h : 0 ≤ mo ∧ mo ≤ 10000000) : pm_Ev (tq_P L xs) (pm_enter 170 [.int (zI day), .int (zI mo)]) σ (.inl (some (.int (zI (day - cd_num mo 1 + 1)))), σ) := by
  show pm_Ev (tq_P L xs) (170, 0, [(0, .int (zI day)), (1, .int (zI mo))], []) σ _
  refine pm_Ev.go 3 (f' := (170, 3, [(0, _), (1, _)], [_, _, _])) rfl ?_
  refine pm_Ev.call rfl rfl rfl rfl rfl (ev_number L xs σ (by omega)) ?_
  refine pm_Ev.isub rfl ?_
  refine pm_Ev.go 1 (f' := (170, 8, [(0, _), (1, _)], [_, _])) rfl ?_
  refine pm_Ev.iadd rfl ?_
  exact pm_Ev.rv rfl rfl rfl
end CD
