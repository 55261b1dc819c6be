/-! months later: the loop -/
theorem sq_m_b {mo x c b : Int} {n : Nat} (hm : 0 ≤ mo ∧ mo ≤ 140000) (hx : 1 ≤ x ∧ x ≤ cd_len mo) (hc : 1 ≤ c ∧ c ≤ 1200) (hb : -1 ≤ b ∧ b ≤ 3652058) (n2 : ∀ i : Nat, i < n → sq_t mo x c i ≤ b) : ∀ i : Nat, i ≤ n → 0 ≤ sq_m mo c i ∧ sq_m mo c i ≤ 140000
  | 0, _ => hm
  | i + 1, hi => by
    have q := n2 i (by omega)
    have m1 := sq_m_r hm.1 hc.1 i
    have x1 := sq_x_r hx i (c := c)
    unfold sq_t at q
    rw [cd_num_d] at q
    have := cd_num_28 (m := sq_m mo c i) (by omega)
    show 0 ≤ sq_m mo c i + c ∧ sq_m mo c i + c ≤ 140000
    omega
section CD
variable (L : Nat) (xs : Nat → Int32) (σ : pm_S)
theorem ev_mlF {mo x c b : Int} {n i : Nat} {v6 v3 v0 : Int32} (hm : 0 ≤ mo ∧ mo ≤ 140000) (hx : 1 ≤ x ∧ x ≤ cd_len mo) (hc : 1 ≤ c ∧ c ≤ 1200) (hb : -1 ≤ b ∧ b ≤ 3652058) (n1 : b < sq_t mo x c n) (n2 : ∀ i : Nat, i < n → sq_t mo x c i ≤ b) (hi : i ≤ n) (hs : i = n ∨ ∀ j : Nat, sq_x mo x c i ≤ cd_len (sq_m mo c (i + j))) :
    pm_Ev (tq_P L xs) (165, 78, [(6, .int v6), (5, .int (zI (sq_x mo x c i))), (4, .int (zI (sq_m mo c i))), (3, .int v3), (0, .int v0), (1, .int (zI c)), (2, .int (zI b))], []) σ (.inl (some (.int (zI (sq_t mo x c n)))), σ) := by
  have mb := sq_m_b hm hx hc hb n2 i hi
  have x1 := sq_x_r hx i (c := c)
  have l1 := cd_len_r (sq_m mo c i)
  by_cases e : i = n
  · subst e
    exact ev_mlA L xs σ (by omega) (by omega) hb n1
  · have st : ∀ j : Nat, sq_x mo x c i ≤ cd_len (sq_m mo c (i + j)) := hs.resolve_left e
    have k1 : n = i + (n - i) := by omega
    have c1 := sq_const st (n - i)
    have c2 := sq_const st (n - i - 1)
    have a1 := sq_m_add mo c i (n - i)
    have a2 := sq_m_add mo c i (n - i - 1)
    have s1 := st (n - i)
    have t1 := n2 (i + (n - i - 1)) (by omega)
    have t0 := n2 i (by omega)
    rw [k1] at n1 ⊢
    unfold sq_t at n1 t1 t0 ⊢
    rw [c1, a1] at n1 ⊢
    rw [c2, a2, show ((n - i - 1 : Nat) : Int) = ((n - i : Nat) : Int) - 1 by omega] at t1
    rw [a1] at s1
    exact ev_mlB L xs σ (by omega) (by omega) hc hb t0 (by omega) n1 t1 s1
theorem ev_mlL {mo x c b : Int} {n : Nat} {v3 v0 : Int32} (hm : 0 ≤ mo ∧ mo ≤ 140000) (hx : 1 ≤ x ∧ x ≤ cd_len mo) (hc : 1 ≤ c ∧ c ≤ 1200) (hb : -1 ≤ b ∧ b ≤ 3652058) (n1 : b < sq_t mo x c n) (n2 : ∀ i : Nat, i < n → sq_t mo x c i ≤ b) : ∀ (r i : Nat), i + r = 4800 → i ≤ n →
    pm_Ev (tq_P L xs) (165, 28, [(6, .int (zI i)), (5, .int (zI (sq_x mo x c i))), (4, .int (zI (sq_m mo c i))), (3, .int v3), (0, .int v0), (1, .int (zI c)), (2, .int (zI b))], []) σ (.inl (some (.int (zI (sq_t mo x c n)))), σ) := by
  intro r
  induction r with
  | zero =>
    intro i hr hi
    have e : i = 4800 := by omega
    subst e
    refine pm_Ev.go 1 (f' := (165, 30, [(6, _), (5, _), (4, _), (3, _), (0, _), (1, _), (2, _)], [_])) rfl ?_
    refine pm_Ev.sp rfl rfl ?_
    refine pm_Ev.jge rfl (by omega) rfl (fun h1 => ?_) (fun h1 => absurd h1 (by omega))
    exact ev_mlF L xs σ hm hx hc hb n1 n2 hi (Or.inr fun j => sq_stab hx (4800 + j))
  | succ r ih =>
    intro i hr hi
    have mb := sq_m_b hm hx hc hb n2 i hi
    have x1 := sq_x_r hx i (c := c)
    have l1 := cd_len_r (sq_m mo c i)
    have hr2 := cd_num_r (mo := sq_m mo c i) (d := sq_x mo x c i) (by omega) (by omega) (by omega) (by omega)
    refine pm_Ev.go 1 (f' := (165, 30, [(6, _), (5, _), (4, _), (3, _), (0, _), (1, _), (2, _)], [_])) rfl ?_
    refine pm_Ev.sp rfl rfl ?_
    refine pm_Ev.jge rfl (by omega) rfl (fun h1 => ?_) (fun h1 => ?_)
    · exact absurd h1 (by omega)
    · refine pm_Ev.go 1 (f' := (165, 38, [(6, _), (5, _), (4, _), (3, _), (0, _), (1, _), (2, _)], [_])) rfl ?_
      refine pm_Ev.bp rfl rfl ?_
      refine pm_Ev.jle rfl (by omega) rfl (fun h2 => ?_) (fun h2 => ?_)
      · exact ev_mlF L xs σ hm hx hc hb n1 n2 hi (Or.inr fun j => Int.le_trans (by omega) (cd_len_r _).1)
      · refine pm_Ev.go 2 (f' := (165, 47, [(6, _), (5, _), (4, _), (3, _), (0, _), (1, _), (2, _)], [_, _])) rfl ?_
        refine pm_Ev.call rfl rfl rfl rfl rfl (ev_number L xs σ (by omega)) ?_
        refine pm_Ev.go 1 (f' := (165, 51, [(6, _), (5, _), (4, _), (3, _), (0, _), (1, _), (2, _)], [_, _])) rfl ?_
        refine pm_Ev.jgt rfl (by omega) rfl (fun h3 => ?_) (fun h3 => ?_)
        · exact ev_mlF L xs σ hm hx hc hb n1 n2 hi (Or.inl (by
            refine Classical.byContradiction fun e => ?_
            have := n2 i (by omega)
            unfold sq_t at this
            omega))
        · refine pm_Ev.go 2 (f' := (165, 57, [(6, _), (5, _), (4, _), (3, _), (0, _), (1, _), (2, _)], [_, _])) rfl ?_
          refine pm_Ev.iadd rfl ?_
          refine pm_Ev.go 3 (f' := (165, 64, [(4, _), (6, _), (5, _), (3, _), (0, _), (1, _), (2, _)], [_, _])) rfl ?_
          refine pm_Ev.call rfl rfl rfl rfl rfl (ev_lengthOf L xs σ (by omega)) ?_
          have l2 := cd_len_r (sq_m mo c i + c)
          refine pm_Ev.call rfl rfl rfl rfl rfl (ev_min L xs σ (by omega)) ?_
          refine pm_Ev.go 1 (f' := (165, 72, [(5, _), (4, _), (6, _), (3, _), (0, _), (1, _), (2, _)], [])) rfl ?_
          refine pm_Ev.inc rfl rfl (Nat.le_of_ble_eq_true rfl) ?_
          refine pm_Ev.go 1 (f' := (165, 28, [(6, _), (5, _), (4, _), (3, _), (0, _), (1, _), (2, _)], [])) rfl ?_
          refine pm_Ev.weak (ih (i + 1) (by omega) (by
            refine Nat.lt_of_le_of_ne hi fun e => ?_
            subst e
            unfold sq_t at n1
            omega)) ?_
          rw [show ((i + 1 : Nat) : Int) = (i : Int) + 1 by omega]
          rfl
theorem ev_monthsLater {d c b : Int} {n : Nat} (h : 0 ≤ d ∧ d ≤ 3652058) (hc : 1 ≤ c ∧ c ≤ 1200) (hb : -1 ≤ b ∧ b ≤ 3652058) (n1 : b < sq_t (cd_mb d + c) (if cd_dim d ≤ cd_len (cd_mb d + c) then cd_dim d else cd_len (cd_mb d + c)) c n) (n2 : ∀ i : Nat, i < n → sq_t (cd_mb d + c) (if cd_dim d ≤ cd_len (cd_mb d + c) then cd_dim d else cd_len (cd_mb d + c)) c i ≤ b) : pm_Ev (tq_P L xs) (pm_enter 165 [.int (zI d), .int (zI c), .int (zI b)]) σ (.inl (some (.int (zI (sq_t (cd_mb d + c) (if cd_dim d ≤ cd_len (cd_mb d + c) then cd_dim d else cd_len (cd_mb d + c)) c n)))), σ) := by
  show pm_Ev (tq_P L xs) (165, 0, [(0, .int (zI d)), (1, .int (zI c)), (2, .int (zI b))], []) σ _
  have q1 := cd_mb_ok h.1
  have q2 := (cd_yr_ok h.1).1
  have q3 := cd_num_28 (m := cd_mb d) (by omega)
  have q4 := cd_dim_r h.1
  have q5 := cd_len_r (cd_mb d + c)
  have hx : 1 ≤ (if cd_dim d ≤ cd_len (cd_mb d + c) then cd_dim d else cd_len (cd_mb d + c)) ∧ (if cd_dim d ≤ cd_len (cd_mb d + c) then cd_dim d else cd_len (cd_mb d + c)) ≤ cd_len (cd_mb d + c) := by
    split <;> omega
  refine pm_Ev.go 1 (f' := (165, 1, [(0, _), (1, _), (2, _)], [_])) rfl ?_
  refine pm_Ev.call rfl rfl rfl rfl rfl (ev_monthsBefore L xs σ (by omega)) ?_
  refine pm_Ev.go 3 (f' := (165, 7, [(3, _), (0, _), (1, _), (2, _)], [_, _])) rfl ?_
  refine pm_Ev.iadd rfl ?_
  refine pm_Ev.go 3 (f' := (165, 12, [(4, _), (3, _), (0, _), (1, _), (2, _)], [_, _])) rfl ?_
  refine pm_Ev.call rfl rfl rfl rfl rfl (ev_dayInMonth L xs σ (by omega)) ?_
  refine pm_Ev.go 1 (f' := (165, 17, [(4, _), (3, _), (0, _), (1, _), (2, _)], [_, _])) rfl ?_
  refine pm_Ev.call rfl rfl rfl rfl rfl (ev_lengthOf L xs σ (by omega)) ?_
  rw [show d - cd_num (cd_mb d) 1 + 1 = cd_dim d from rfl]
  refine pm_Ev.call rfl rfl rfl rfl rfl (ev_min L xs σ (by omega)) ?_
  refine pm_Ev.go 3 (f' := (165, 28, [(6, _), (5, _), (4, _), (3, _), (0, _), (1, _), (2, _)], [])) rfl ?_
  exact pm_Ev.weak (ev_mlL L xs σ (by omega) hx hc hb n1 n2 4800 0 rfl (Nat.zero_le _)) rfl
end CD
