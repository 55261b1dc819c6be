/-! the calendar of the desk -/
theorem pm_Ev.rv {P : pm_P} {mi pc : Nat} {lv : pm_L} {σ : pm_S} {a b : Int} (hc : pm_cod P mi pc = some (.ireturn, 1)) (hr : pm_ret P mi = some .int) (e : a = b) : pm_Ev P (mi, pc, lv, [.int (zI a)]) σ (.inl (some (.int (zI b))), σ) := e ▸ pm_Ev.ri hc hr
theorem pm_Ev.rb {P : pm_P} {mi pc : Nat} {lv : pm_L} {σ : pm_S} {a b : Int} (hc : pm_cod P mi pc = some (.ireturn, 1)) (hr : pm_ret P mi = some .boolean) (e : a = b) (h : a = 0 ∨ a = 1) : pm_Ev P (mi, pc, lv, [.int (zI a)]) σ (.inl (some (.int (zI b))), σ) := by
  subst e
  refine pm_Ev.ret hc rfl rfl ?_
  unfold pm_dn
  cases h with
  | inl h => subst h; simp only [hr]; rfl
  | inr h => subst h; simp only [hr]; rfl
def cd_leap (y : Int) : Int := if y % 4 = 0 ∧ (y % 100 ≠ 0 ∨ y % 400 = 0) then 1 else 0
theorem cd_leap_1 {y : Int} (h : y % 4 = 0 ∧ (y % 100 ≠ 0 ∨ y % 400 = 0)) : cd_leap y = 1 := if_pos h
theorem cd_leap_0 {y : Int} (h : ¬ (y % 4 = 0 ∧ (y % 100 ≠ 0 ∨ y % 400 = 0))) : cd_leap y = 0 := if_neg h
theorem cd_leap_r (y : Int) : cd_leap y = 0 ∨ cd_leap y = 1 := by
  unfold cd_leap
  split
  · exact Or.inr rfl
  · exact Or.inl rfl
def cd_fd (y : Int) : Int := (y - 1) * 365 + (y - 1) / 4 - (y - 1) / 100 + (y - 1) / 400
def cd_ln (m : Int) : Int := if m = 1 then 28 else if m = 3 ∨ m = 5 ∨ m = 8 ∨ m = 10 then 30 else 31
def cd_db (m : Int) : Int := if m = 0 then 0 else if m = 1 then 31 else if m = 2 then 59 else if m = 3 then 90 else if m = 4 then 120 else if m = 5 then 151 else if m = 6 then 181 else if m = 7 then 212 else if m = 8 then 243 else if m = 9 then 273 else if m = 10 then 304 else 334
def cd_len (mo : Int) : Int := cd_ln (mo % 12) + (if mo % 12 = 1 then cd_leap (mo / 12 + 1) else 0)
def cd_num (mo d : Int) : Int := cd_fd (mo / 12 + 1) + cd_db (mo % 12) + (if 1 < mo % 12 then cd_leap (mo / 12 + 1) else 0) + d - 1
theorem cd_t1 (m : Int) (h1 : 0 ≤ m) (h2 : m < 12) : tq_t1 (zI m).toNatClampNeg = zI (cd_ln m) := by
  have e : m = 0 ∨ m = 1 ∨ m = 2 ∨ m = 3 ∨ m = 4 ∨ m = 5 ∨ m = 6 ∨ m = 7 ∨ m = 8 ∨ m = 9 ∨ m = 10 ∨ m = 11 := by omega
  rcases e with e | e | e | e | e | e | e | e | e | e | e | e <;> subst e <;> decide
theorem cd_t2 (m : Int) (h1 : 0 ≤ m) (h2 : m < 12) : tq_t2 (zI m).toNatClampNeg = zI (cd_db m) := by
  have e : m = 0 ∨ m = 1 ∨ m = 2 ∨ m = 3 ∨ m = 4 ∨ m = 5 ∨ m = 6 ∨ m = 7 ∨ m = 8 ∨ m = 9 ∨ m = 10 ∨ m = 11 := by omega
  rcases e with e | e | e | e | e | e | e | e | e | e | e | e <;> subst e <;> decide
section CD
variable (L : Nat) (xs : Nat → Int32) (σ : pm_S)
theorem ev_isLeap {y : Int} (h : 0 ≤ y ∧ y ≤ 2147483647) : pm_Ev (tq_P L xs) (pm_enter 172 [.int (zI y)]) σ (.inl (some (.int (zI (cd_leap y)))), σ) := by
  show pm_Ev (tq_P L xs) (172, 0, [(0, .int (zI y))], []) σ _
  refine pm_Ev.go 2 rfl ?_
  refine pm_Ev.irem rfl (by omega) ?_
  refine pm_Ev.zne rfl (by omega) rfl (fun h1 => ?_) (fun h1 => ?_)
  · refine pm_Ev.go 1 rfl ?_
    exact pm_Ev.rb rfl rfl (by first | exact (cd_leap_1 (by omega)).symm | exact (cd_leap_0 (by omega)).symm) (by decide)
  · refine pm_Ev.go 1 rfl ?_
    refine pm_Ev.bp rfl rfl ?_
    refine pm_Ev.irem rfl (by omega) ?_
    refine pm_Ev.zne rfl (by omega) rfl (fun h2 => ?_) (fun h2 => ?_)
    · refine pm_Ev.go 2 rfl ?_
      exact pm_Ev.rb rfl rfl (by first | exact (cd_leap_1 (by omega)).symm | exact (cd_leap_0 (by omega)).symm) (by decide)
    · refine pm_Ev.go 1 rfl ?_
      refine pm_Ev.sp rfl rfl ?_
      refine pm_Ev.irem rfl (by omega) ?_
      refine pm_Ev.zne rfl (by omega) rfl (fun h3 => ?_) (fun h3 => ?_)
      · refine pm_Ev.go 1 rfl ?_
        exact pm_Ev.rb rfl rfl (by first | exact (cd_leap_1 (by omega)).symm | exact (cd_leap_0 (by omega)).symm) (by decide)
      · refine pm_Ev.go 2 rfl ?_
        exact pm_Ev.rb rfl rfl (by first | exact (cd_leap_1 (by omega)).symm | exact (cd_leap_0 (by omega)).symm) (by decide)
theorem ev_firstDayOf {y : Int} (h : 1 ≤ y ∧ y ≤ 2147483647) : pm_Ev (tq_P L xs) (pm_enter 171 [.int (zI y)]) σ (.inl (some (.int (zI (cd_fd y)))), σ) := by
  show pm_Ev (tq_P L xs) (171, 0, [(0, .int (zI y))], []) σ _
  refine pm_Ev.go 2 rfl ?_
  refine pm_Ev.isub rfl ?_
  refine pm_Ev.go 2 rfl ?_
  refine pm_Ev.sp rfl rfl ?_
  refine pm_Ev.imul rfl ?_
  refine pm_Ev.go 2 rfl ?_
  refine pm_Ev.idiv rfl (by omega) ?_
  refine pm_Ev.iadd rfl ?_
  refine pm_Ev.go 1 rfl ?_
  refine pm_Ev.bp rfl rfl ?_
  refine pm_Ev.idiv rfl (by omega) ?_
  refine pm_Ev.isub rfl ?_
  refine pm_Ev.go 1 rfl ?_
  refine pm_Ev.sp rfl rfl ?_
  refine pm_Ev.idiv rfl (by omega) ?_
  refine pm_Ev.iadd rfl ?_
  exact pm_Ev.rv rfl rfl rfl
theorem ev_lengthOf {mo : Int} (h : 0 ≤ mo ∧ mo ≤ 2147480000) : pm_Ev (tq_P L xs) (pm_enter 167 [.int (zI mo)]) σ (.inl (some (.int (zI (cd_len mo)))), σ) := by
  show pm_Ev (tq_P L xs) (167, 0, [(0, .int (zI mo))], []) σ _
  refine pm_Ev.go 1 rfl ?_
  refine pm_Ev.bp rfl rfl ?_
  refine pm_Ev.irem rfl (by omega) ?_
  refine pm_Ev.go 3 rfl ?_
  refine pm_Ev.io rfl (by have := zI_ix (z := mo % 12) (n := 12) (by omega) (by omega) (by omega); exact fun q => q.elim (fun q => absurd q (by decide)) this) ?_
  rw [show ((pm_old (tq_P L xs) 1).2 (zI (mo % 12)).toNatClampNeg) = zI (cd_ln (mo % 12)) from cd_t1 _ (by omega) (by omega)]
  refine pm_Ev.go 2 rfl ?_
  refine pm_Ev.jne rfl (by omega) rfl (fun h1 => ?_) (fun h1 => ?_)
  · refine pm_Ev.go 1 rfl ?_
    refine pm_Ev.iadd rfl ?_
    exact pm_Ev.rv rfl rfl (by unfold cd_len; first | (rw [if_neg (by omega)]; done) | (rw [if_pos (by omega)]; omega))
  · refine pm_Ev.go 1 rfl ?_
    refine pm_Ev.bp rfl rfl ?_
    refine pm_Ev.idiv rfl (by omega) ?_
    refine pm_Ev.go 1 rfl ?_
    refine pm_Ev.iadd rfl ?_
    refine pm_Ev.call rfl rfl rfl rfl rfl (ev_isLeap L xs σ (by omega)) ?_
    have hl := cd_leap_r (mo / 12 + 1)
    refine pm_Ev.zeq rfl (by omega) rfl (fun h2 => ?_) (fun h2 => ?_)
    · refine pm_Ev.go 1 rfl ?_
      refine pm_Ev.iadd rfl ?_
      exact pm_Ev.rv rfl rfl (by unfold cd_len; first | (rw [if_neg (by omega)]; done) | (rw [if_pos (by omega)]; omega))
    · refine pm_Ev.go 2 rfl ?_
      refine pm_Ev.iadd rfl ?_
      exact pm_Ev.rv rfl rfl (by unfold cd_len; first | (rw [if_neg (by omega)]; done) | (rw [if_pos (by omega)]; omega))
end CD
