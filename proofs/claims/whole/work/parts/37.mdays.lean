/-! the calendar of the reference -/
theorem cd_num_s {mo : Int} (d : Int) (h : 0 ≤ mo) : cd_num (mo + 1) d = cd_num mo d + cd_len mo := by
  unfold cd_num cd_len
  by_cases h11 : mo % 12 = 11
  · rw [show (mo + 1) / 12 = mo / 12 + 1 by omega, show (mo + 1) % 12 = 0 by omega, h11, cd_fd_s]
    simp only [show cd_db 0 = 0 from rfl, show cd_db 11 = 334 from rfl, show cd_ln 11 = 31 from rfl, if_pos (show (1 : Int) < 11 by decide), if_neg (show ¬ (1 : Int) < 0 by decide), if_neg (show ¬ (11 : Int) = 1 by decide)]
    omega
  · rw [show (mo + 1) / 12 = mo / 12 by omega, show (mo + 1) % 12 = mo % 12 + 1 by omega]
    have e : mo % 12 = 0 ∨ mo % 12 = 1 ∨ mo % 12 = 2 ∨ mo % 12 = 3 ∨ mo % 12 = 4 ∨ mo % 12 = 5 ∨ mo % 12 = 6 ∨ mo % 12 = 7 ∨ mo % 12 = 8 ∨ mo % 12 = 9 ∨ mo % 12 = 10 := by omega
    generalize cd_fd (mo / 12 + 1) = f
    generalize cd_leap (mo / 12 + 1) = l
    rcases e with e | e | e | e | e | e | e | e | e | e | e <;> rw [e] <;> simp only [cd_db, cd_ln] <;> simp <;> omega
theorem cd_num_lt {a b : Int} (ha : 0 ≤ a) : ∀ n : Nat, b = a + n → cd_num a 1 + 28 * n ≤ cd_num b 1
  | 0, h => by
    have e : b = a := by omega
    rw [e]
    omega
  | n + 1, h => by
    have q := cd_num_lt ha n (b := a + n) rfl
    have e : b = (a + n) + 1 := by omega
    rw [e, cd_num_s 1 (by omega)]
    have := cd_len_r (a + n)
    omega
theorem cd_num_mono {a b : Int} (ha : 0 ≤ a) (h : a ≤ b) : cd_num a 1 + 28 * (b - a) ≤ cd_num b 1 := by
  have q := cd_num_lt (b := b) ha (b - a).toNat (by omega)
  omega
theorem cd_num_uniq {a b d : Int} (ha : 0 ≤ a) (hb : 0 ≤ b) (h1 : cd_num a 1 ≤ d) (h2 : d < cd_num (a + 1) 1) (h3 : cd_num b 1 ≤ d) (h4 : d < cd_num (b + 1) 1) : a = b := by
  by_cases q : a < b
  · have := cd_num_mono (a := a + 1) (b := b) (by omega) (by omega)
    omega
  · by_cases q2 : b < a
    · have := cd_num_mono (a := b + 1) (b := a) (by omega) (by omega)
      omega
    · omega
theorem cd_num_jan (y : Int) : cd_num ((y - 1) * 12) 1 = cd_fd y := by
  unfold cd_num
  rw [show (y - 1) * 12 / 12 + 1 = y by omega, show (y - 1) * 12 % 12 = 0 by omega, if_neg (by omega)]
  simp only [show cd_db 0 = 0 from rfl]
  omega
theorem cd_num_d (mo d : Int) : cd_num mo d = cd_num mo 1 + d - 1 := by
  unfold cd_num
  omega
theorem cd_mbl_ok {jan day : Int} (hj : cd_num jan 1 ≤ day) : ∀ m : Nat, jan ≤ cd_mbl jan day m ∧ cd_mbl jan day m ≤ jan + m ∧ cd_num (cd_mbl jan day m) 1 ≤ day ∧ (cd_mbl jan day m < jan + m → day < cd_num (cd_mbl jan day m + 1) 1)
  | 0 => by
    rw [cd_mbl]
    refine ⟨by omega, by omega, hj, fun h => ?_⟩
    omega
  | m + 1 => by
    rw [cd_mbl]
    split
    · next h =>
      refine ⟨by omega, by omega, h, fun h => ?_⟩
      omega
    · next h =>
      obtain ⟨a, b, c, d⟩ := cd_mbl_ok hj m
      refine ⟨a, by omega, c, fun _ => ?_⟩
      by_cases e : cd_mbl jan day m < jan + m
      · exact d e
      · rw [show cd_mbl jan day m + 1 = jan + (m + 1 : Nat) by omega]
        omega
theorem cd_mb_ok {d : Int} (h : 0 ≤ d) : (cd_yr d - 1) * 12 ≤ cd_mb d ∧ cd_mb d ≤ (cd_yr d - 1) * 12 + 11 ∧ cd_num (cd_mb d) 1 ≤ d ∧ d < cd_num (cd_mb d + 1) 1 := by
  obtain ⟨y1, y2, y3⟩ := cd_yr_ok h
  obtain ⟨a, b, c, e⟩ := cd_mbl_ok (jan := (cd_yr d - 1) * 12) (day := d) (by rw [cd_num_jan]; exact y2) 11
  refine ⟨a, b, c, ?_⟩
  unfold cd_mb
  by_cases q : cd_mbl ((cd_yr d - 1) * 12) d 11 < (cd_yr d - 1) * 12 + (11 : Nat)
  · exact e q
  · rw [show cd_mbl ((cd_yr d - 1) * 12) d 11 + 1 = (cd_yr d + 1 - 1) * 12 by omega, cd_num_jan]
    exact y3
theorem cd_fd_mono {a : Int} : ∀ n : Nat, cd_fd a + 365 * n ≤ cd_fd (a + n)
  | 0 => by
    rw [show a + ((0 : Nat) : Int) = a by omega]
    omega
  | n + 1 => by
    have q := cd_fd_mono (a := a) n
    rw [show a + ((n + 1 : Nat) : Int) = (a + n) + 1 by omega, cd_fd_s]
    have := cd_leap_r (a + n)
    omega
theorem cd_yr_uniq {d y : Int} (h : 0 ≤ d) (h1 : cd_fd y ≤ d) (h2 : d < cd_fd (y + 1)) : cd_yr d = y := by
  obtain ⟨a, b, c⟩ := cd_yr_ok h
  by_cases q : cd_yr d < y
  · have := cd_fd_mono (a := cd_yr d + 1) (y - (cd_yr d + 1)).toNat
    rw [show cd_yr d + 1 + ((y - (cd_yr d + 1)).toNat : Int) = y by omega] at this
    omega
  · by_cases q2 : y < cd_yr d
    · have := cd_fd_mono (a := y + 1) (cd_yr d - (y + 1)).toNat
      rw [show y + 1 + ((cd_yr d - (y + 1)).toNat : Int) = cd_yr d by omega] at this
      omega
    · omega
theorem cd_len_ym {y m : Int} (h : 1 ≤ m ∧ m ≤ 12) : cd_len ((y - 1) * 12 + m - 1) = if m = 2 then 28 + cd_leap y else if m = 4 ∨ m = 6 ∨ m = 9 ∨ m = 11 then 30 else 31 := by
  unfold cd_len
  rw [show ((y - 1) * 12 + m - 1) / 12 + 1 = y by omega, show ((y - 1) * 12 + m - 1) % 12 = m - 1 by omega]
  unfold cd_ln
  by_cases h2 : m = 2
  · rw [if_pos h2, if_pos (by omega), if_pos (by omega)]
  · simp only [if_neg h2, if_neg (show ¬ m - 1 = 1 by omega)]
    by_cases h3 : m = 4 ∨ m = 6 ∨ m = 9 ∨ m = 11
    · rw [if_pos h3, if_pos (show m - 1 = 3 ∨ m - 1 = 5 ∨ m - 1 = 8 ∨ m - 1 = 10 by omega)]
      omega
    · rw [if_neg h3, if_neg (show ¬ (m - 1 = 3 ∨ m - 1 = 5 ∨ m - 1 = 8 ∨ m - 1 = 10) by omega)]
      omega
section CM
variable (L : Nat) (xs : Nat → Int32) (σ : pm_S)
theorem ev_isLong {y : Int} (h : 0 ≤ y ∧ y ≤ 2147483647) : pm_Ev (tq_P L xs) (pm_enter 138 [.int (zI y)]) σ (.inl (some (.int (zI (cd_leap y)))), σ) := by
  show pm_Ev (tq_P L xs) (138, 0, [(0, .int (zI y))], []) σ _
  refine pm_Ev.go 2 (f' := (138, 2, [(0, _)], [_, _])) rfl ?_
  refine pm_Ev.irem rfl (by omega) ?_
  refine pm_Ev.zne rfl (by omega) rfl (fun h1 => ?_) (fun h1 => ?_)
  · refine pm_Ev.go 1 (f' := (138, 26, [(0, _)], [_])) rfl ?_
    exact pm_Ev.rb rfl rfl (by first | exact (cd_leap_1 (by omega)).symm | exact (cd_leap_0 (by omega)).symm) (by decide)
  · refine pm_Ev.go 1 (f' := (138, 7, [(0, _)], [_])) rfl ?_
    refine pm_Ev.bp rfl rfl ?_
    refine pm_Ev.irem rfl (by omega) ?_
    refine pm_Ev.zne rfl (by omega) rfl (fun h2 => ?_) (fun h2 => ?_)
    · refine pm_Ev.go 2 (f' := (138, 26, [(0, _)], [_])) rfl ?_
      exact pm_Ev.rb rfl rfl (by first | exact (cd_leap_1 (by omega)).symm | exact (cd_leap_0 (by omega)).symm) (by decide)
    · refine pm_Ev.go 1 (f' := (138, 14, [(0, _)], [_])) rfl ?_
      refine pm_Ev.sp rfl rfl ?_
      refine pm_Ev.irem rfl (by omega) ?_
      refine pm_Ev.zne rfl (by omega) rfl (fun h3 => ?_) (fun h3 => ?_)
      · refine pm_Ev.go 1 (f' := (138, 26, [(0, _)], [_])) rfl ?_
        exact pm_Ev.rb rfl rfl (by first | exact (cd_leap_1 (by omega)).symm | exact (cd_leap_0 (by omega)).symm) (by decide)
      · refine pm_Ev.go 2 (f' := (138, 26, [(0, _)], [_])) rfl ?_
        exact pm_Ev.rb rfl rfl (by first | exact (cd_leap_1 (by omega)).symm | exact (cd_leap_0 (by omega)).symm) (by decide)
theorem ev_firstOf {y : Int} (h : 1 ≤ y ∧ y ≤ 2147483647) : pm_Ev (tq_P L xs) (pm_enter 140 [.int (zI y)]) σ (.inl (some (.int (zI (cd_fd y)))), σ) := by
  show pm_Ev (tq_P L xs) (140, 0, [(0, .int (zI y))], []) σ _
  refine pm_Ev.go 2 (f' := (140, 2, [(0, _)], [_, _])) rfl ?_
  refine pm_Ev.isub rfl ?_
  refine pm_Ev.go 1 (f' := (140, 4, [(1, _), (0, _)], [])) rfl ?_
  refine pm_Ev.sp rfl rfl ?_
  refine pm_Ev.go 1 (f' := (140, 8, [(1, _), (0, _)], [_, _])) rfl ?_
  refine pm_Ev.imul rfl ?_
  refine pm_Ev.go 2 (f' := (140, 11, [(1, _), (0, _)], [_, _, _])) rfl ?_
  refine pm_Ev.idiv rfl (by omega) ?_
  refine pm_Ev.iadd rfl ?_
  refine pm_Ev.go 1 (f' := (140, 14, [(1, _), (0, _)], [_, _])) rfl ?_
  refine pm_Ev.bp rfl rfl ?_
  refine pm_Ev.idiv rfl (by omega) ?_
  refine pm_Ev.isub rfl ?_
  refine pm_Ev.go 1 (f' := (140, 19, [(1, _), (0, _)], [_, _])) rfl ?_
  refine pm_Ev.sp rfl rfl ?_
  refine pm_Ev.idiv rfl (by omega) ?_
  refine pm_Ev.iadd rfl ?_
  exact pm_Ev.rv rfl rfl (by unfold cd_fd; omega)
theorem ev_inMonth {y m : Int} (h : 0 ≤ y ∧ y ≤ 2147483647) (hm : 1 ≤ m ∧ m ≤ 12) : pm_Ev (tq_P L xs) (pm_enter 139 [.int (zI y), .int (zI m)]) σ (.inl (some (.int (zI (cd_len ((y - 1) * 12 + m - 1))))), σ) := by
  show pm_Ev (tq_P L xs) (139, 0, [(0, .int (zI y)), (1, .int (zI m))], []) σ _
  refine pm_Ev.go 2 (f' := (139, 2, [(0, _), (1, _)], [_, _])) rfl ?_
  refine pm_Ev.jne rfl (by omega) rfl (fun h1 => ?_) (fun h1 => ?_)
  · refine pm_Ev.go 2 (f' := (139, 24, [(0, _), (1, _)], [_, _])) rfl ?_
    refine pm_Ev.jeq rfl (by omega) rfl (fun h2 => ?_) (fun h2 => ?_)
    · refine pm_Ev.bp rfl rfl ?_
      refine pm_Ev.go 1 (f' := (139, 52, [(0, _), (1, _)], [_])) rfl ?_
      exact pm_Ev.rv rfl rfl (by rw [cd_len_ym hm]; first | (rw [if_pos (by omega)] <;> omega) | (rw [if_neg (by omega), if_pos (by omega)]; done) | (rw [if_neg (by omega), if_neg (by omega)]; done))
    · refine pm_Ev.go 1 (f' := (139, 28, [(0, _), (1, _)], [_])) rfl ?_
      refine pm_Ev.bp rfl rfl ?_
      refine pm_Ev.jeq rfl (by omega) rfl (fun h3 => ?_) (fun h3 => ?_)
      · refine pm_Ev.bp rfl rfl ?_
        refine pm_Ev.go 1 (f' := (139, 52, [(0, _), (1, _)], [_])) rfl ?_
        exact pm_Ev.rv rfl rfl (by rw [cd_len_ym hm]; first | (rw [if_pos (by omega)] <;> omega) | (rw [if_neg (by omega), if_pos (by omega)]; done) | (rw [if_neg (by omega), if_neg (by omega)]; done))
      · refine pm_Ev.go 1 (f' := (139, 34, [(0, _), (1, _)], [_])) rfl ?_
        refine pm_Ev.bp rfl rfl ?_
        refine pm_Ev.jeq rfl (by omega) rfl (fun h4 => ?_) (fun h4 => ?_)
        · refine pm_Ev.bp rfl rfl ?_
          refine pm_Ev.go 1 (f' := (139, 52, [(0, _), (1, _)], [_])) rfl ?_
          exact pm_Ev.rv rfl rfl (by rw [cd_len_ym hm]; first | (rw [if_pos (by omega)] <;> omega) | (rw [if_neg (by omega), if_pos (by omega)]; done) | (rw [if_neg (by omega), if_neg (by omega)]; done))
        · refine pm_Ev.go 1 (f' := (139, 40, [(0, _), (1, _)], [_])) rfl ?_
          refine pm_Ev.bp rfl rfl ?_
          refine pm_Ev.jne rfl (by omega) rfl (fun h5 => ?_) (fun h5 => ?_)
          · refine pm_Ev.bp rfl rfl ?_
            exact pm_Ev.rv rfl rfl (by rw [cd_len_ym hm]; first | (rw [if_pos (by omega)] <;> omega) | (rw [if_neg (by omega), if_pos (by omega)]; done) | (rw [if_neg (by omega), if_neg (by omega)]; done))
          · refine pm_Ev.bp rfl rfl ?_
            refine pm_Ev.go 1 (f' := (139, 52, [(0, _), (1, _)], [_])) rfl ?_
            exact pm_Ev.rv rfl rfl (by rw [cd_len_ym hm]; first | (rw [if_pos (by omega)] <;> omega) | (rw [if_neg (by omega), if_pos (by omega)]; done) | (rw [if_neg (by omega), if_neg (by omega)]; done))
  · refine pm_Ev.go 1 (f' := (139, 6, [(0, _), (1, _)], [_])) rfl ?_
    refine pm_Ev.call rfl rfl rfl rfl rfl (ev_isLong L xs σ (by omega)) ?_
    have hl := cd_leap_r y
    refine pm_Ev.zeq rfl (by omega) rfl (fun h6 => ?_) (fun h6 => ?_)
    · refine pm_Ev.bp rfl rfl ?_
      refine pm_Ev.go 1 (f' := (139, 52, [(0, _), (1, _)], [_])) rfl ?_
      exact pm_Ev.rv rfl rfl (by rw [cd_len_ym hm]; first | (rw [if_pos (by omega)] <;> omega) | (rw [if_neg (by omega), if_pos (by omega)]; done) | (rw [if_neg (by omega), if_neg (by omega)]; done))
    · refine pm_Ev.bp rfl rfl ?_
      refine pm_Ev.go 1 (f' := (139, 52, [(0, _), (1, _)], [_])) rfl ?_
      exact pm_Ev.rv rfl rfl (by rw [cd_len_ym hm]; first | (rw [if_pos (by omega)] <;> omega) | (rw [if_neg (by omega), if_pos (by omega)]; done) | (rw [if_neg (by omega), if_neg (by omega)]; done))
theorem ev_mnl {y d : Int} (h : 1 ≤ y ∧ y ≤ 100000 ∧ -1000 ≤ d ∧ d ≤ 1000) {m : Int} (hm : 1 ≤ m ∧ m ≤ 12) : ∀ (n : Nat) (k : Int), k + n = m → 1 ≤ k → pm_Ev (tq_P L xs) (141, 12, [(4, .int (zI k)), (3, .int (zI (cd_num ((y - 1) * 12 + k - 1) d))), (0, .int (zI y)), (1, .int (zI m)), (2, .int (zI d))], []) σ (.inl (some (.int (zI (cd_num ((y - 1) * 12 + m - 1) d)))), σ) := by
  intro n
  induction n with
  | zero =>
    intro k hk h0
    refine pm_Ev.go 2 (f' := (141, 15, [(4, _), (3, _), (0, _), (1, _), (2, _)], [_, _])) rfl ?_
    refine pm_Ev.jge rfl (by omega) rfl (fun h1 => ?_) (fun h1 => absurd h1 (by omega))
    refine pm_Ev.go 1 (f' := (141, 34, [(4, _), (3, _), (0, _), (1, _), (2, _)], [_])) rfl ?_
    exact pm_Ev.rv rfl rfl (by rw [show k = m by omega])
  | succ n ih =>
    intro k hk h0
    refine pm_Ev.go 2 (f' := (141, 15, [(4, _), (3, _), (0, _), (1, _), (2, _)], [_, _])) rfl ?_
    refine pm_Ev.jge rfl (by omega) rfl (fun h1 => absurd h1 (by omega)) (fun h1 => ?_)
    refine pm_Ev.go 3 (f' := (141, 22, [(4, _), (3, _), (0, _), (1, _), (2, _)], [_, _, _])) rfl ?_
    refine pm_Ev.call rfl rfl rfl rfl rfl (ev_inMonth L xs σ (by omega) (by omega)) ?_
    refine pm_Ev.iadd rfl ?_
    refine pm_Ev.go 1 (f' := (141, 27, [(3, _), (4, _), (0, _), (1, _), (2, _)], [])) rfl ?_
    refine pm_Ev.inc rfl rfl (Nat.le_of_ble_eq_true rfl) ?_
    refine pm_Ev.go 1 (f' := (141, 12, [(4, _), (3, _), (0, _), (1, _), (2, _)], [])) rfl ?_
    rw [← cd_num_s d (by omega), show (y - 1) * 12 + k - 1 + 1 = (y - 1) * 12 + (k + 1) - 1 by omega]
    exact ih (k + 1) (by omega) (by omega)
theorem ev_mnumber {y m d : Int} (h : 1 ≤ y ∧ y ≤ 100000 ∧ -1000 ≤ d ∧ d ≤ 1000) (hm : 1 ≤ m ∧ m ≤ 12) : pm_Ev (tq_P L xs) (pm_enter 141 [.int (zI y), .int (zI m), .int (zI d)]) σ (.inl (some (.int (zI (cd_num ((y - 1) * 12 + m - 1) d)))), σ) := by
  show pm_Ev (tq_P L xs) (141, 0, [(0, .int (zI y)), (1, .int (zI m)), (2, .int (zI d))], []) σ _
  refine pm_Ev.go 1 (f' := (141, 1, [(0, _), (1, _), (2, _)], [_])) rfl ?_
  refine pm_Ev.call rfl rfl rfl rfl rfl (ev_firstOf L xs σ (by omega)) ?_
  refine pm_Ev.go 1 (f' := (141, 5, [(0, _), (1, _), (2, _)], [_, _])) rfl ?_
  refine pm_Ev.iadd rfl ?_
  refine pm_Ev.go 1 (f' := (141, 7, [(0, _), (1, _), (2, _)], [_, _])) rfl ?_
  refine pm_Ev.isub rfl ?_
  refine pm_Ev.go 3 (f' := (141, 12, [(4, _), (3, _), (0, _), (1, _), (2, _)], [])) rfl ?_
  rw [show cd_fd y + d - 1 = cd_num ((y - 1) * 12 + 1 - 1) d by rw [cd_num_d, show (y - 1) * 12 + 1 - 1 = (y - 1) * 12 by omega, cd_num_jan]]
  exact pm_Ev.weak (ev_mnl L xs σ h hm (m - 1).toNat 1 (by omega) (by omega)) rfl
theorem ev_myl {d : Int} (h : 0 ≤ d ∧ d ≤ 10000000) : ∀ (n : Nat) (y : Int), y + n = cd_yr d → 1 ≤ y → pm_Ev (tq_P L xs) (142, 8, [(1, .int (zI y)), (0, .int (zI d))], []) σ (.inl (some (.int (zI (cd_yr d)))), σ) := by
  intro n
  obtain ⟨q1, q2, q3⟩ := cd_yr_ok h.1
  have q4 := cd_yr_r h.1 h.2
  induction n with
  | zero =>
    intro y hy h0
    have e : y = cd_yr d := by omega
    subst e
    have hf := cd_fd_r (y := cd_yr d + 1) (by omega) (by omega)
    refine pm_Ev.go 2 (f' := (142, 10, [(1, _), (0, _)], [_, _])) rfl ?_
    refine pm_Ev.iadd rfl ?_
    refine pm_Ev.call rfl rfl rfl rfl rfl (ev_firstOf L xs σ (by omega)) ?_
    refine pm_Ev.go 1 (f' := (142, 15, [(1, _), (0, _)], [_, _])) rfl ?_
    refine pm_Ev.jgt rfl (by omega) rfl (fun h1 => ?_) (fun h1 => absurd h1 (by omega))
    refine pm_Ev.go 1 (f' := (142, 25, [(1, _), (0, _)], [_])) rfl ?_
    exact pm_Ev.rv rfl rfl rfl
  | succ n ih =>
    intro y hy h0
    have hf := cd_fd_r (y := y + 1) (by omega) (by omega)
    have hm := cd_fd_mono (a := y + 1) n
    rw [show y + 1 + (n : Int) = cd_yr d by omega] at hm
    refine pm_Ev.go 2 (f' := (142, 10, [(1, _), (0, _)], [_, _])) rfl ?_
    refine pm_Ev.iadd rfl ?_
    refine pm_Ev.call rfl rfl rfl rfl rfl (ev_firstOf L xs σ (by omega)) ?_
    refine pm_Ev.go 1 (f' := (142, 15, [(1, _), (0, _)], [_, _])) rfl ?_
    refine pm_Ev.jgt rfl (by omega) rfl (fun h1 => absurd h1 (by omega)) (fun h1 => ?_)
    refine pm_Ev.inc rfl rfl (Nat.le_of_ble_eq_true rfl) ?_
    refine pm_Ev.go 1 (f' := (142, 8, [(1, _), (0, _)], [])) rfl ?_
    exact ih (y + 1) (by omega) (by omega)
theorem cd_yr_lo {d : Int} (h : 0 ≤ d) : d / 366 + 1 ≤ cd_yr d := by
  obtain ⟨q1, q2, q3⟩ := cd_yr_ok h
  unfold cd_fd at q3
  omega
theorem ev_myearOf {d : Int} (h : 0 ≤ d ∧ d ≤ 10000000) : pm_Ev (tq_P L xs) (pm_enter 142 [.int (zI d)]) σ (.inl (some (.int (zI (cd_yr d)))), σ) := by
  show pm_Ev (tq_P L xs) (142, 0, [(0, .int (zI d))], []) σ _
  refine pm_Ev.go 1 (f' := (142, 1, [(0, _)], [_])) rfl ?_
  refine pm_Ev.sp rfl rfl ?_
  refine pm_Ev.idiv rfl (by omega) ?_
  refine pm_Ev.go 1 (f' := (142, 6, [(0, _)], [_, _])) rfl ?_
  refine pm_Ev.iadd rfl ?_
  refine pm_Ev.go 1 (f' := (142, 8, [(1, _), (0, _)], [])) rfl ?_
  exact pm_Ev.weak (ev_myl L xs σ h (cd_yr d - (d / 366 + 1)).toNat (d / 366 + 1) (by have := cd_yr_lo h.1; omega) (by omega)) rfl
theorem ev_mml {d : Int} (h : 0 ≤ d ∧ d ≤ 10000000) : ∀ (n : Nat) (m : Int), (cd_yr d - 1) * 12 + m - 1 + n = cd_mb d → 1 ≤ m → pm_Ev (tq_P L xs) (143, 7, [(2, .int (zI m)), (1, .int (zI (cd_yr d))), (0, .int (zI d))], []) σ (.inl (some (.int (zI (cd_mb d - (cd_yr d - 1) * 12 + 1)))), σ) := by
  intro n
  obtain ⟨q1, q2, q3⟩ := cd_yr_ok h.1
  have q4 := cd_yr_r h.1 h.2
  obtain ⟨a1, a2, a3, a4⟩ := cd_mb_ok h.1
  induction n with
  | zero =>
    intro m hy h0
    refine pm_Ev.go 1 (f' := (143, 8, [(2, _), (1, _), (0, _)], [_])) rfl ?_
    refine pm_Ev.bp rfl rfl ?_
    refine pm_Ev.jge rfl (by omega) rfl (fun h1 => ?_) (fun h1 => ?_)
    · refine pm_Ev.go 1 (f' := (143, 32, [(2, _), (1, _), (0, _)], [_])) rfl ?_
      exact pm_Ev.rv rfl rfl (by omega)
    · refine pm_Ev.go 3 (f' := (143, 16, [(2, _), (1, _), (0, _)], [_, _, _])) rfl ?_
      refine pm_Ev.iadd rfl ?_
      refine pm_Ev.go 1 (f' := (143, 18, [(2, _), (1, _), (0, _)], [_, _, _])) rfl ?_
      refine pm_Ev.call rfl rfl rfl rfl rfl (ev_mnumber L xs σ (by omega) (by omega)) ?_
      rw [show (cd_yr d - 1) * 12 + (m + 1) - 1 = cd_mb d + 1 by omega]
      have hr := cd_num_r (mo := cd_mb d + 1) (d := 1) (by omega) (by omega) (by omega) (by omega)
      refine pm_Ev.go 1 (f' := (143, 22, [(2, _), (1, _), (0, _)], [_, _])) rfl ?_
      refine pm_Ev.jgt rfl (by omega) rfl (fun h2 => ?_) (fun h2 => absurd h2 (by omega))
      refine pm_Ev.go 1 (f' := (143, 32, [(2, _), (1, _), (0, _)], [_])) rfl ?_
      exact pm_Ev.rv rfl rfl (by omega)
  | succ n ih =>
    intro m hy h0
    refine pm_Ev.go 1 (f' := (143, 8, [(2, _), (1, _), (0, _)], [_])) rfl ?_
    refine pm_Ev.bp rfl rfl ?_
    refine pm_Ev.jge rfl (by omega) rfl (fun h1 => absurd h1 (by omega)) (fun h1 => ?_)
    refine pm_Ev.go 3 (f' := (143, 16, [(2, _), (1, _), (0, _)], [_, _, _])) rfl ?_
    refine pm_Ev.iadd rfl ?_
    refine pm_Ev.go 1 (f' := (143, 18, [(2, _), (1, _), (0, _)], [_, _, _])) rfl ?_
    refine pm_Ev.call rfl rfl rfl rfl rfl (ev_mnumber L xs σ (by omega) (by omega)) ?_
    have hr := cd_num_r (mo := (cd_yr d - 1) * 12 + (m + 1) - 1) (d := 1) (by omega) (by omega) (by omega) (by omega)
    have hm := cd_num_mono (a := (cd_yr d - 1) * 12 + (m + 1) - 1) (b := cd_mb d) (by omega) (by omega)
    refine pm_Ev.go 1 (f' := (143, 22, [(2, _), (1, _), (0, _)], [_, _])) rfl ?_
    refine pm_Ev.jgt rfl (by omega) rfl (fun h2 => absurd h2 (by omega)) (fun h2 => ?_)
    refine pm_Ev.inc rfl rfl (Nat.le_of_ble_eq_true rfl) ?_
    refine pm_Ev.go 1 (f' := (143, 7, [(2, _), (1, _), (0, _)], [])) rfl ?_
    exact ih (m + 1) (by omega) (by omega)
theorem ev_monthOf {d : Int} (h : 0 ≤ d ∧ d ≤ 10000000) : pm_Ev (tq_P L xs) (pm_enter 143 [.int (zI d)]) σ (.inl (some (.int (zI (cd_mb d - (cd_yr d - 1) * 12 + 1)))), σ) := by
  show pm_Ev (tq_P L xs) (143, 0, [(0, .int (zI d))], []) σ _
  refine pm_Ev.go 1 (f' := (143, 1, [(0, _)], [_])) rfl ?_
  refine pm_Ev.call rfl rfl rfl rfl rfl (ev_myearOf L xs σ h) ?_
  refine pm_Ev.go 3 (f' := (143, 7, [(2, _), (1, _), (0, _)], [])) rfl ?_
  exact pm_Ev.weak (ev_mml L xs σ h (cd_mb d - (cd_yr d - 1) * 12).toNat 1 (by have := cd_mb_ok h.1; omega) (by omega)) rfl
end CM
