/-! months later -/
def sq_m (mo c : Int) : Nat → Int
  | 0 => mo
  | n + 1 => sq_m mo c n + c
def sq_x (mo x c : Int) : Nat → Int
  | 0 => x
  | n + 1 => if sq_x mo x c n ≤ cd_len (sq_m mo c (n + 1)) then sq_x mo x c n else cd_len (sq_m mo c (n + 1))
def sq_t (mo x c : Int) (n : Nat) : Int := cd_num (sq_m mo c n) (sq_x mo x c n)
theorem sq_x_r {mo x c : Int} (h : 1 ≤ x ∧ x ≤ cd_len mo) : ∀ n : Nat, 1 ≤ sq_x mo x c n ∧ sq_x mo x c n ≤ cd_len (sq_m mo c n)
  | 0 => h
  | n + 1 => by
    have q := sq_x_r h n (c := c)
    have := cd_len_r (sq_m mo c (n + 1))
    rw [sq_x]
    split <;> omega
theorem sq_x_s (mo x c : Int) (n : Nat) : sq_x mo x c (n + 1) ≤ sq_x mo x c n ∧ sq_x mo x c (n + 1) ≤ cd_len (sq_m mo c (n + 1)) := by
  rw [sq_x]
  split <;> omega
theorem sq_x_anti (mo x c : Int) (i : Nat) : ∀ j : Nat, sq_x mo x c (i + j) ≤ sq_x mo x c i
  | 0 => Int.le_refl _
  | j + 1 => Int.le_trans (sq_x_s mo x c (i + j)).1 (sq_x_anti mo x c i j)
theorem sq_m_add (mo c : Int) (i : Nat) : ∀ j : Nat, sq_m mo c (i + j) = sq_m mo c i + j * c
  | 0 => by simp
  | j + 1 => by
    show sq_m mo c (i + j) + c = _
    rw [sq_m_add mo c i j, show ((j + 1 : Nat) : Int) = (j : Int) + 1 by omega, Int.add_mul]
    omega
theorem sq_m_r {mo c : Int} (hm : 0 ≤ mo) (hc : 1 ≤ c) : ∀ n : Nat, mo + n ≤ sq_m mo c n
  | 0 => by
    show mo + 0 ≤ mo
    omega
  | n + 1 => by
    have := sq_m_r hm hc n
    show _ ≤ sq_m mo c n + c
    omega
theorem cd_len_per (m c : Int) : cd_len (m + 4800 * c) = cd_len m := by
  unfold cd_len cd_leap
  rw [show (m + 4800 * c) % 12 = m % 12 by omega]
  congr 1
  have e : ((m + 4800 * c) / 12 + 1) % 4 = (m / 12 + 1) % 4 ∧ ((m + 4800 * c) / 12 + 1) % 100 = (m / 12 + 1) % 100 ∧ ((m + 4800 * c) / 12 + 1) % 400 = (m / 12 + 1) % 400 := by omega
  rw [e.1, e.2.1, e.2.2]
theorem sq_stab {mo x c : Int} (h : 1 ≤ x ∧ x ≤ cd_len mo) : ∀ j : Nat, sq_x mo x c 4800 ≤ cd_len (sq_m mo c j) := by
  intro j
  induction j using Nat.strongRecOn with
  | _ j ih =>
    by_cases q : j ≤ 4800
    · have a := sq_x_anti mo x c j (4800 - j)
      rw [show j + (4800 - j) = 4800 by omega] at a
      exact Int.le_trans a (sq_x_r h j).2
    · have a := ih (j - 4800) (by omega)
      have b := sq_m_add mo c (j - 4800) 4800
      rw [show j - 4800 + 4800 = j by omega] at b
      rw [b, show ((4800 : Nat) : Int) = 4800 from rfl, cd_len_per]
      exact a
theorem sq_const {mo x c : Int} {i : Nat} (h : ∀ j : Nat, sq_x mo x c i ≤ cd_len (sq_m mo c (i + j))) : ∀ j : Nat, sq_x mo x c (i + j) = sq_x mo x c i
  | 0 => rfl
  | j + 1 => by
    show sq_x mo x c (i + j + 1) = _
    rw [sq_x, sq_const h j]
    exact if_pos (h (j + 1))
theorem cd_num_28 {m : Int} (h : 0 ≤ m) : 28 * m ≤ cd_num m 1 := by
  have := cd_num_mono (a := 0) (b := m) (by omega) h
  rw [show cd_num 0 1 = 0 from rfl] at this
  omega
theorem sq_t_s {mo x c : Int} (hm : 0 ≤ mo) (hc : 1 ≤ c) (h : 1 ≤ x ∧ x ≤ cd_len mo) (n : Nat) : sq_t mo x c n < sq_t mo x c (n + 1) := by
  unfold sq_t
  have a := sq_x_r h n (c := c)
  have b := sq_x_r h (n + 1) (c := c)
  have m1 := sq_m_r hm hc n
  have q := cd_num_mono (a := sq_m mo c n + 1) (b := sq_m mo c (n + 1)) (by omega) (by show _ ≤ sq_m mo c n + c; omega)
  rw [cd_num_s 1 (by omega)] at q
  rw [cd_num_d (sq_m mo c n) (sq_x mo x c n), cd_num_d (sq_m mo c (n + 1)) (sq_x mo x c (n + 1))]
  have : sq_m mo c (n + 1) = sq_m mo c n + c := rfl
  omega
theorem sq_t_mono {mo x c : Int} (hm : 0 ≤ mo) (hc : 1 ≤ c) (h : 1 ≤ x ∧ x ≤ cd_len mo) (n : Nat) : ∀ j : Nat, sq_t mo x c n + j ≤ sq_t mo x c (n + j)
  | 0 => by
    show _ + 0 ≤ sq_t mo x c n
    omega
  | j + 1 => by
    have a := sq_t_mono hm hc h n j
    have b := sq_t_s hm hc h (n + j)
    show _ ≤ sq_t mo x c (n + j + 1)
    omega
/-- the first that is above b -/
theorem sq_first {mo x c : Int} (hm : 0 ≤ mo) (hc : 1 ≤ c) (h : 1 ≤ x ∧ x ≤ cd_len mo) (b : Int) : ∃ n : Nat, b < sq_t mo x c n ∧ ∀ i : Nat, i < n → sq_t mo x c i ≤ b := by
  have big : b < sq_t mo x c (b - sq_t mo x c 0 + 1).toNat := by
    have := sq_t_mono hm hc h 0 (b - sq_t mo x c 0 + 1).toNat
    rw [Nat.zero_add] at this
    omega
  generalize (b - sq_t mo x c 0 + 1).toNat = N at big
  induction N using Nat.strongRecOn with
  | _ N ih =>
    by_cases q : ∀ i : Nat, i < N → sq_t mo x c i ≤ b
    · exact ⟨N, big, q⟩
    · have q2 : ∃ i : Nat, i < N ∧ b < sq_t mo x c i := by
        refine Classical.byContradiction fun nq => q fun i hi => ?_
        refine Classical.byContradiction fun nq2 => nq ⟨i, hi, by omega⟩
      obtain ⟨i, hi, hb⟩ := q2
      exact ih i hi hb
section CD
variable (L : Nat) (xs : Nat → Int32) (σ : pm_S)
theorem ev_min {a b : Int} (h : -2147483648 ≤ a ∧ a ≤ 2147483647 ∧ -2147483648 ≤ b ∧ b ≤ 2147483647) : pm_Ev (tq_P L xs) (pm_enter 200 [.int (zI a), .int (zI b)]) σ (.inl (some (.int (zI (if a ≤ b then a else b)))), σ) := by
  show pm_Ev (tq_P L xs) (200, 0, [(0, .int (zI a)), (1, .int (zI b))], []) σ _
  refine pm_Ev.go 2 (f' := (200, 2, [(0, _), (1, _)], [_, _])) rfl ?_
  refine pm_Ev.jgt rfl (by omega) rfl (fun h1 => ?_) (fun h1 => ?_)
  · refine pm_Ev.go 1 (f' := (200, 10, [(0, _), (1, _)], [_])) rfl ?_
    exact pm_Ev.rv rfl rfl (by first | (rw [if_pos (by omega)]; done) | (rw [if_neg (by omega)]; done))
  · refine pm_Ev.go 2 (f' := (200, 10, [(0, _), (1, _)], [_])) rfl ?_
    exact pm_Ev.rv rfl rfl (by first | (rw [if_pos (by omega)]; done) | (rw [if_neg (by omega)]; done))
theorem ev_daysLater {d c b : Int} (h : 0 ≤ d ∧ d ≤ 3652058 ∧ 1 ≤ c ∧ c ≤ 700 ∧ -1 ≤ b ∧ b ≤ 3652058) : pm_Ev (tq_P L xs) (pm_enter 164 [.int (zI d), .int (zI c), .int (zI b)]) σ (.inl (some (.int (zI (if b < d + c then d + c else d + c + ((b - (d + c)) / c + 1) * c)))), σ) := by
  show pm_Ev (tq_P L xs) (164, 0, [(0, .int (zI d)), (1, .int (zI c)), (2, .int (zI b))], []) σ _
  refine pm_Ev.go 2 (f' := (164, 2, [(0, _), (1, _), (2, _)], [_, _])) rfl ?_
  refine pm_Ev.iadd rfl ?_
  refine pm_Ev.go 3 (f' := (164, 6, [(3, _), (0, _), (1, _), (2, _)], [_, _])) rfl ?_
  refine pm_Ev.jle rfl (by omega) rfl (fun h1 => ?_) (fun h1 => ?_)
  · refine pm_Ev.go 3 (f' := (164, 16, [(3, _), (0, _), (1, _), (2, _)], [_, _, _])) rfl ?_
    refine pm_Ev.isub rfl ?_
    refine pm_Ev.go 1 (f' := (164, 18, [(3, _), (0, _), (1, _), (2, _)], [_, _, _])) rfl ?_
    refine pm_Ev.idiv rfl (by omega) ?_
    refine pm_Ev.go 1 (f' := (164, 20, [(3, _), (0, _), (1, _), (2, _)], [_, _, _])) rfl ?_
    refine pm_Ev.iadd rfl ?_
    refine pm_Ev.go 1 (f' := (164, 22, [(3, _), (0, _), (1, _), (2, _)], [_, _, _])) rfl ?_
    refine pm_Ev.imul rfl ?_
    refine pm_Ev.iadd rfl ?_
    exact pm_Ev.rv rfl rfl (by first | (rw [if_pos (by omega)]; done) | (rw [if_neg (by omega)]; done))
  · refine pm_Ev.go 2 (f' := (164, 24, [(3, _), (0, _), (1, _), (2, _)], [_])) rfl ?_
    exact pm_Ev.rv rfl rfl (by first | (rw [if_pos (by omega)]; done) | (rw [if_neg (by omega)]; done))
theorem cd_num_le {a b x : Int} (ha : 0 ≤ a) (h : a ≤ b) : cd_num a x ≤ cd_num b x := by
  have := cd_num_mono ha h
  rw [cd_num_d a x, cd_num_d b x]
  omega
theorem ev_mlA {m x c b : Int} {v6 v3 v0 : Int32} (h : 0 ≤ m ∧ m ≤ 200000) (hx : 1 ≤ x ∧ x ≤ 31) (hb : -1 ≤ b ∧ b ≤ 3652058) (h1 : b < cd_num m x) : pm_Ev (tq_P L xs) (165, 78, [(6, .int v6), (5, .int (zI x)), (4, .int (zI m)), (3, .int v3), (0, .int v0), (1, .int (zI c)), (2, .int (zI b))], []) σ (.inl (some (.int (zI (cd_num m x)))), σ) := by
  have hr := cd_num_r (mo := m) (d := x) (by omega) (by omega) (by omega) (by omega)
  refine pm_Ev.go 2 (f' := (165, 82, [(6, _), (5, _), (4, _), (3, _), (0, _), (1, _), (2, _)], [_, _])) rfl ?_
  refine pm_Ev.call rfl rfl rfl rfl rfl (ev_number L xs σ (by omega)) ?_
  refine pm_Ev.go 1 (f' := (165, 86, [(6, _), (5, _), (4, _), (3, _), (0, _), (1, _), (2, _)], [_, _])) rfl ?_
  refine pm_Ev.jgt rfl (by omega) rfl (fun _ => ?_) (fun hz => ?_)
  · refine pm_Ev.go 2 (f' := (165, 109, [(6, _), (5, _), (4, _), (3, _), (0, _), (1, _), (2, _)], [_, _])) rfl ?_
    refine pm_Ev.call rfl rfl rfl rfl rfl (ev_number L xs σ (by omega)) ?_
    refine pm_Ev.go 1 (f' := (165, 113, [(6, _), (5, _), (4, _), (3, _), (0, _), (1, _), (2, _)], [_, _])) rfl ?_
    refine pm_Ev.jgt rfl (by omega) rfl (fun _ => ?_) (fun hz => ?_)
    · refine pm_Ev.go 2 (f' := (165, 126, [(6, _), (5, _), (4, _), (3, _), (0, _), (1, _), (2, _)], [_, _])) rfl ?_
      refine pm_Ev.call rfl rfl rfl rfl rfl (ev_number L xs σ (by omega)) ?_
      exact pm_Ev.rv rfl rfl rfl
    · exact absurd hz (by omega)
  · exact absurd hz (by omega)
theorem ev_mlB {m x c b n : Int} {v6 v3 v0 : Int32} (h : 0 ≤ m ∧ m ≤ 200000) (hx : 1 ≤ x ∧ x ≤ 31) (hc : 1 ≤ c ∧ c ≤ 1200) (hb : -1 ≤ b ∧ b ≤ 3652058) (h1 : cd_num m x ≤ b) (hn : 1 ≤ n) (n1 : b < cd_num (m + n * c) x) (n2 : cd_num (m + (n - 1) * c) x ≤ b) (n3 : x ≤ cd_len (m + n * c)) : pm_Ev (tq_P L xs) (165, 78, [(6, .int v6), (5, .int (zI x)), (4, .int (zI m)), (3, .int v3), (0, .int v0), (1, .int (zI c)), (2, .int (zI b))], []) σ (.inl (some (.int (zI (cd_num (m + n * c) x)))), σ) := by
  have hr := cd_num_r (mo := m) (d := x) (by omega) (by omega) (by omega) (by omega)
  have hb0 : 0 ≤ b := by
    have := cd_num_28 h.1
    rw [cd_num_d] at h1
    omega
  obtain ⟨a1, a2, a3, a4⟩ := cd_mb_ok hb0
  have yr := cd_yr_r hb0 (by omega)
  have hmb : m ≤ cd_mb b := by
    refine Int.not_lt.mp fun q => ?_
    have := cd_num_mono (a := cd_mb b + 1) (b := m) (by omega) (by omega)
    rw [cd_num_d] at h1
    omega
  have e1 := Int.mul_ediv_add_emod (cd_mb b - m) c
  have e2 := Int.emod_nonneg (cd_mb b - m) (b := c) (by omega)
  have e3 := Int.emod_lt_of_pos (cd_mb b - m) (b := c) (by omega)
  have e4 : 0 ≤ (cd_mb b - m) / c := Int.ediv_nonneg (by omega) (by omega)
  rw [Int.mul_comm] at e1
  have e5 : 0 ≤ (cd_mb b - m) / c * c := Int.mul_nonneg e4 (by omega)
  have d1 : cd_num (m + (cd_mb b - m) / c * c) x ≤ b → n = (cd_mb b - m) / c + 1 := by
    intro q
    generalize (cd_mb b - m) / c = J at *
    have u1 : ¬ n ≤ J := fun r => by
      have := Int.mul_le_mul_of_nonneg_right r (show 0 ≤ c by omega)
      have t0 : 0 ≤ n * c := Int.mul_nonneg (by omega) (by omega)
      have := cd_num_le (x := x) (a := m + n * c) (b := m + J * c) (by omega) (by omega)
      omega
    have u2 : ¬ J + 1 ≤ n - 1 := fun r => by
      have t := Int.mul_le_mul_of_nonneg_right r (show 0 ≤ c by omega)
      rw [Int.add_mul] at t
      have := cd_num_le (x := x) (a := cd_mb b + 1) (b := m + (n - 1) * c) (by omega) (by omega)
      rw [cd_num_d (cd_mb b + 1)] at this
      omega
    omega
  have d2 : ¬ cd_num (m + (cd_mb b - m) / c * c) x ≤ b → n = (cd_mb b - m) / c := by
    intro q
    generalize (cd_mb b - m) / c = J at *
    have u1 : ¬ J ≤ n - 1 := fun r => by
      have := Int.mul_le_mul_of_nonneg_right r (show 0 ≤ c by omega)
      have t0 : 0 ≤ J * c := Int.mul_nonneg (by omega) (by omega)
      have := cd_num_le (x := x) (a := m + J * c) (b := m + (n - 1) * c) (by omega) (by omega)
      omega
    have u2 : ¬ n + 1 ≤ J := fun r => by
      have t := Int.mul_le_mul_of_nonneg_right r (show 0 ≤ c by omega)
      rw [Int.add_mul] at t
      have t0 : 0 ≤ n * c := Int.mul_nonneg (by omega) (by omega)
      have := cd_num_mono (a := m + n * c + 1) (b := cd_mb b) (by omega) (by omega)
      rw [cd_num_s 1 (by omega)] at this
      rw [cd_num_d (m + n * c)] at n1
      omega
    omega
  have hr2 := cd_num_r (mo := m + (cd_mb b - m) / c * c) (d := x) (by omega) (by omega) (by omega) (by omega)
  refine pm_Ev.go 2 (f' := (165, 82, [(6, _), (5, _), (4, _), (3, _), (0, _), (1, _), (2, _)], [_, _])) rfl ?_
  refine pm_Ev.call rfl rfl rfl rfl rfl (ev_number L xs σ (by omega)) ?_
  refine pm_Ev.go 1 (f' := (165, 86, [(6, _), (5, _), (4, _), (3, _), (0, _), (1, _), (2, _)], [_, _])) rfl ?_
  refine pm_Ev.jgt rfl (by omega) rfl (fun hz => absurd hz (by omega)) (fun _ => ?_)
  refine pm_Ev.go 2 (f' := (165, 92, [(6, _), (5, _), (4, _), (3, _), (0, _), (1, _), (2, _)], [_, _])) rfl ?_
  refine pm_Ev.call rfl rfl rfl rfl rfl (ev_monthsBefore L xs σ (by omega)) ?_
  refine pm_Ev.go 1 (f' := (165, 97, [(6, _), (5, _), (4, _), (3, _), (0, _), (1, _), (2, _)], [_, _, _])) rfl ?_
  refine pm_Ev.isub rfl ?_
  refine pm_Ev.go 1 (f' := (165, 99, [(6, _), (5, _), (4, _), (3, _), (0, _), (1, _), (2, _)], [_, _, _])) rfl ?_
  refine pm_Ev.idiv rfl (by omega) ?_
  refine pm_Ev.go 1 (f' := (165, 101, [(6, _), (5, _), (4, _), (3, _), (0, _), (1, _), (2, _)], [_, _, _])) rfl ?_
  refine pm_Ev.imul rfl ?_
  refine pm_Ev.iadd rfl ?_
  refine pm_Ev.go 1 (f' := (165, 105, [(4, _), (6, _), (5, _), (3, _), (0, _), (1, _), (2, _)], [])) rfl ?_
  refine pm_Ev.go 2 (f' := (165, 109, [(4, _), (6, _), (5, _), (3, _), (0, _), (1, _), (2, _)], [_, _])) rfl ?_
  refine pm_Ev.call rfl rfl rfl rfl rfl (ev_number L xs σ (by omega)) ?_
  refine pm_Ev.go 1 (f' := (165, 113, [(4, _), (6, _), (5, _), (3, _), (0, _), (1, _), (2, _)], [_, _])) rfl ?_
  refine pm_Ev.jgt rfl (by omega) rfl (fun h1 => ?_) (fun h1 => ?_)
  · refine pm_Ev.go 2 (f' := (165, 126, [(4, _), (6, _), (5, _), (3, _), (0, _), (1, _), (2, _)], [_, _])) rfl ?_
    refine pm_Ev.call rfl rfl rfl rfl rfl (ev_number L xs σ (by omega)) ?_
    rw [d2 (by omega)]
    exact pm_Ev.rv rfl rfl rfl
  · refine pm_Ev.go 2 (f' := (165, 119, [(4, _), (6, _), (5, _), (3, _), (0, _), (1, _), (2, _)], [_, _])) rfl ?_
    refine pm_Ev.iadd rfl ?_
    refine pm_Ev.go 3 (f' := (165, 126, [(4, _), (6, _), (5, _), (3, _), (0, _), (1, _), (2, _)], [_, _])) rfl ?_
    refine pm_Ev.call rfl rfl rfl rfl rfl (ev_number L xs σ (by omega)) ?_
    rw [d1 (by omega), Int.add_mul, Int.one_mul, ← Int.add_assoc]
    exact pm_Ev.rv rfl rfl rfl
end CD
