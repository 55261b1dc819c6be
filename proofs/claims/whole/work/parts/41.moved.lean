/-! repeats: the days to which a date moves, one after the other -/
def rp_c (u c : Int) : Int := if u = 1 then c * 7 else if u = 3 then c * 12 else c
def rp_t (f u c : Int) (i : Nat) : Int := if u < 2 then f + rp_c u c + i * rp_c u c else sq_t (cd_mb f + rp_c u c) (if cd_dim f ≤ cd_len (cd_mb f + rp_c u c) then cd_dim f else cd_len (cd_mb f + rp_c u c)) (rp_c u c) i
def rp_n (f u c b : Int) (n : Nat) : Prop := b < rp_t f u c n ∧ ∀ i : Nat, i < n → rp_t f u c i ≤ b
theorem rp_c_r {u c : Int} (hc : 1 ≤ c ∧ c ≤ 99) : 1 ≤ rp_c u c ∧ rp_c u c ≤ 1188 ∧ (u < 2 → rp_c u c ≤ 693) := by
  unfold rp_c
  split
  · omega
  · split <;> omega
theorem rp_x {f c : Int} (h : 0 ≤ f) : 1 ≤ (if cd_dim f ≤ cd_len (cd_mb f + c) then cd_dim f else cd_len (cd_mb f + c)) ∧ (if cd_dim f ≤ cd_len (cd_mb f + c) then cd_dim f else cd_len (cd_mb f + c)) ≤ cd_len (cd_mb f + c) := by
  have q4 := cd_dim_r h
  have q5 := cd_len_r (cd_mb f + c)
  split <;> omega
theorem rp_first {f u c : Int} (h : 0 ≤ f) (hc : 1 ≤ c ∧ c ≤ 99) (b : Int) : ∃ n : Nat, rp_n f u c b n := by
  have hr := rp_c_r (u := u) hc
  unfold rp_n rp_t
  by_cases hu : u < 2
  · simp only [if_pos hu]
    generalize rp_c u c = k at *
    have big : b < f + k + ((b - f).toNat : Int) * k := by
      have : ((b - f).toNat : Int) * 1 ≤ ((b - f).toNat : Int) * k := Int.mul_le_mul_of_nonneg_left hr.1 (by omega)
      omega
    generalize (b - f).toNat = N at big
    induction N using Nat.strongRecOn with
    | _ N ih =>
      by_cases q : ∀ i : Nat, i < N → f + k + i * k ≤ b
      · exact ⟨N, big, q⟩
      · have q2 : ∃ i : Nat, i < N ∧ b < f + k + i * k := by
          refine Classical.byContradiction fun nq => q fun i hi => ?_
          refine Classical.byContradiction fun nq2 => nq ⟨i, hi, by omega⟩
        obtain ⟨i, hi, hb⟩ := q2
        exact ih i hi hb
  · simp only [if_neg hu]
    have q1 := cd_mb_ok h
    have q2 := (cd_yr_ok h).1
    exact sq_first (by omega) hr.1 (rp_x h) b
theorem rp_days {f k b : Int} {n : Nat} (hk : 1 ≤ k) (h1 : b < f + k + n * k) (h2 : ∀ i : Nat, i < n → f + k + i * k ≤ b) : (if b < f + k then f + k else f + k + ((b - (f + k)) / k + 1) * k) = f + k + n * k := by
  cases n with
  | zero =>
    rw [if_pos (by simpa using h1)]
    simp
  | succ m =>
    have q0 := h2 0 (by omega)
    have q1 := h2 m (by omega)
    rw [if_neg (by simp at q0; omega)]
    have e1 := Int.mul_ediv_add_emod (b - (f + k)) k
    have e2 := Int.emod_nonneg (b - (f + k)) (b := k) (by omega)
    have e3 := Int.emod_lt_of_pos (b - (f + k)) (b := k) (by omega)
    rw [Int.mul_comm] at e1
    generalize (b - (f + k)) / k = J at *
    rw [show ((m + 1 : Nat) : Int) = (m : Int) + 1 by omega] at *
    have u1 : ¬ J + 1 ≤ m := fun r => by
      have t := Int.mul_le_mul_of_nonneg_right r (show 0 ≤ k by omega)
      rw [Int.add_mul] at t
      omega
    have u2 : ¬ (m : Int) + 1 ≤ J := fun r => by
      have t := Int.mul_le_mul_of_nonneg_right r (show 0 ≤ k by omega)
      omega
    rw [show J = m by omega]
def rp_f (d r b : Int) : Int := if r % 10 = 3 then b else d
def rp_b (r b : Int) : Int := if r % 10 = 2 then b else -1
theorem rp_f_r {d r b : Int} (hd : 0 ≤ d ∧ d ≤ 3652058) (hb : 0 ≤ b ∧ b ≤ 3652058) : 0 ≤ rp_f d r b ∧ rp_f d r b ≤ 3652058 := by
  unfold rp_f
  split <;> omega
theorem rp_b_r {r b : Int} (hb : 0 ≤ b ∧ b ≤ 3652058) : -1 ≤ rp_b r b ∧ rp_b r b ≤ 3652058 := by
  unfold rp_b
  split <;> omega
section CD
variable (L : Nat) (xs : Nat → Int32) (σ : pm_S)
theorem ev_mvT {f u c b : Int} {n : Nat} {v3 v0 v1 v2 : Int32} (hf : 0 ≤ f ∧ f ≤ 3652058) (hu : 0 ≤ u ∧ u ≤ 3) (hc : 1 ≤ c ∧ c ≤ 99) (hb : -1 ≤ b ∧ b ≤ 3652058) (hn : rp_n f u c b n) : pm_Ev (tq_P L xs) (163, 50, [(7, .int (zI b)), (6, .int (zI f)), (5, .int (zI c)), (4, .int (zI u)), (3, .int v3), (0, .int v0), (1, .int v1), (2, .int v2)], []) σ (.inl (some (.int (zI (rp_t f u c n)))), σ) := by
  refine pm_Ev.go 2 (f' := (163, 53, [(7, _), (6, _), (5, _), (4, _), (3, _), (0, _), (1, _), (2, _)], [_, _])) rfl ?_
  refine pm_Ev.jge rfl (by omega) rfl (fun h1 => ?_) (fun h1 => ?_)
  · refine pm_Ev.go 3 (f' := (163, 85, [(7, _), (6, _), (5, _), (4, _), (3, _), (0, _), (1, _), (2, _)], [_, _, _])) rfl ?_
    refine pm_Ev.jne rfl (by omega) rfl (fun h2 => ?_) (fun h2 => ?_)
    · have ec : rp_c u c = c := by unfold rp_c; rw [if_neg (by omega), if_neg (by omega)]
      simp only [rp_n, rp_t, ec, if_neg (show ¬ u < 2 by omega)] at hn ⊢
      refine pm_Ev.go 2 (f' := (163, 100, [(7, _), (6, _), (5, _), (4, _), (3, _), (0, _), (1, _), (2, _)], [_, _, _])) rfl ?_
      refine pm_Ev.call rfl rfl rfl rfl rfl (ev_monthsLater L xs σ (n := n) (by omega) (by omega) (by omega) hn.1 hn.2) ?_
      exact pm_Ev.rv rfl rfl rfl
    · have ec : rp_c u c = c * 12 := by unfold rp_c; rw [if_neg (by omega), if_pos (by omega)]
      simp only [rp_n, rp_t, ec, if_neg (show ¬ u < 2 by omega)] at hn ⊢
      refine pm_Ev.go 1 (f' := (163, 90, [(7, _), (6, _), (5, _), (4, _), (3, _), (0, _), (1, _), (2, _)], [_, _])) rfl ?_
      refine pm_Ev.bp rfl rfl ?_
      refine pm_Ev.imul rfl ?_
      refine pm_Ev.go 2 (f' := (163, 100, [(7, _), (6, _), (5, _), (4, _), (3, _), (0, _), (1, _), (2, _)], [_, _, _])) rfl ?_
      refine pm_Ev.call rfl rfl rfl rfl rfl (ev_monthsLater L xs σ (n := n) (by omega) (by omega) (by omega) hn.1 hn.2) ?_
      exact pm_Ev.rv rfl rfl rfl
  · refine pm_Ev.go 3 (f' := (163, 61, [(7, _), (6, _), (5, _), (4, _), (3, _), (0, _), (1, _), (2, _)], [_, _, _])) rfl ?_
    refine pm_Ev.jne rfl (by omega) rfl (fun h3 => ?_) (fun h3 => ?_)
    · have ec : rp_c u c = c := by unfold rp_c; rw [if_neg (by omega), if_neg (by omega)]
      simp only [rp_n, rp_t, ec, if_pos (show u < 2 by omega)] at hn ⊢
      refine pm_Ev.go 2 (f' := (163, 76, [(7, _), (6, _), (5, _), (4, _), (3, _), (0, _), (1, _), (2, _)], [_, _, _])) rfl ?_
      refine pm_Ev.call rfl rfl rfl rfl rfl (ev_daysLater L xs σ (by omega)) ?_
      exact pm_Ev.rv rfl rfl (rp_days (by omega) hn.1 hn.2)
    · have ec : rp_c u c = c * 7 := by unfold rp_c; rw [if_pos (by omega)]
      simp only [rp_n, rp_t, ec, if_pos (show u < 2 by omega)] at hn ⊢
      refine pm_Ev.go 1 (f' := (163, 66, [(7, _), (6, _), (5, _), (4, _), (3, _), (0, _), (1, _), (2, _)], [_, _])) rfl ?_
      refine pm_Ev.bp rfl rfl ?_
      refine pm_Ev.imul rfl ?_
      refine pm_Ev.go 2 (f' := (163, 76, [(7, _), (6, _), (5, _), (4, _), (3, _), (0, _), (1, _), (2, _)], [_, _, _])) rfl ?_
      refine pm_Ev.call rfl rfl rfl rfl rfl (ev_daysLater L xs σ (by omega)) ?_
      exact pm_Ev.rv rfl rfl (rp_days (by omega) hn.1 hn.2)
theorem ev_moved {d r b : Int} {n : Nat} (hd : 0 ≤ d ∧ d ≤ 3652058) (hb : 0 ≤ b ∧ b ≤ 3652058) (hr : 1 ≤ r ∧ r ≤ 100000) (hu : 0 ≤ r / 10 % 10 ∧ r / 10 % 10 ≤ 3) (hc : 1 ≤ r / 100 ∧ r / 100 ≤ 99) (hn : rp_n (rp_f d r b) (r / 10 % 10) (r / 100) (rp_b r b) n) : pm_Ev (tq_P L xs) (pm_enter 163 [.int (zI d), .int (zI r), .int (zI b)]) σ (.inl (some (.int (zI (rp_t (rp_f d r b) (r / 10 % 10) (r / 100) n)))), σ) := by
  show pm_Ev (tq_P L xs) (163, 0, [(0, .int (zI d)), (1, .int (zI r)), (2, .int (zI b))], []) σ _
  refine pm_Ev.go 1 (f' := (163, 1, [(0, _), (1, _), (2, _)], [_])) rfl ?_
  refine pm_Ev.zne rfl (by omega) rfl (fun h1 => ?_) (fun h1 => ?_)
  · refine pm_Ev.go 1 (f' := (163, 7, [(0, _), (1, _), (2, _)], [_])) rfl ?_
    refine pm_Ev.bp rfl rfl ?_
    refine pm_Ev.irem rfl (by omega) ?_
    refine pm_Ev.go 2 (f' := (163, 12, [(3, _), (0, _), (1, _), (2, _)], [_])) rfl ?_
    refine pm_Ev.bp rfl rfl ?_
    refine pm_Ev.idiv rfl (by omega) ?_
    refine pm_Ev.bp rfl rfl ?_
    refine pm_Ev.irem rfl (by omega) ?_
    refine pm_Ev.go 2 (f' := (163, 21, [(4, _), (3, _), (0, _), (1, _), (2, _)], [_])) rfl ?_
    refine pm_Ev.bp rfl rfl ?_
    refine pm_Ev.idiv rfl (by omega) ?_
    refine pm_Ev.go 3 (f' := (163, 28, [(5, _), (4, _), (3, _), (0, _), (1, _), (2, _)], [_, _])) rfl ?_
    refine pm_Ev.jne rfl (by omega) rfl (fun h2 => ?_) (fun h2 => ?_)
    · refine pm_Ev.go 4 (f' := (163, 40, [(6, _), (5, _), (4, _), (3, _), (0, _), (1, _), (2, _)], [_, _])) rfl ?_
      refine pm_Ev.jne rfl (by omega) rfl (fun h3 => ?_) (fun h3 => ?_)
      · refine pm_Ev.go 2 (f' := (163, 50, [(7, _), (6, _), (5, _), (4, _), (3, _), (0, _), (1, _), (2, _)], [])) rfl ?_
        refine pm_Ev.weak (ev_mvT L xs σ (f := rp_f d r b) (u := r / 10 % 10) (c := r / 100) (b := rp_b r b) (v3 := zI (r % 10)) (v0 := zI d) (v1 := zI r) (v2 := zI b) (rp_f_r hd hb) hu hc (rp_b_r hb) hn) ?_
        first | (rw [show rp_f d r b = b from if_pos (by omega), show rp_b r b = b from if_pos (by omega)]; rfl) | (rw [show rp_f d r b = b from if_pos (by omega), show rp_b r b = -1 from if_neg (by omega)]; rfl) | (rw [show rp_f d r b = d from if_neg (by omega), show rp_b r b = b from if_pos (by omega)]; rfl) | (rw [show rp_f d r b = d from if_neg (by omega), show rp_b r b = -1 from if_neg (by omega)]; rfl)
      · refine pm_Ev.go 3 (f' := (163, 50, [(7, _), (6, _), (5, _), (4, _), (3, _), (0, _), (1, _), (2, _)], [])) rfl ?_
        refine pm_Ev.weak (ev_mvT L xs σ (f := rp_f d r b) (u := r / 10 % 10) (c := r / 100) (b := rp_b r b) (v3 := zI (r % 10)) (v0 := zI d) (v1 := zI r) (v2 := zI b) (rp_f_r hd hb) hu hc (rp_b_r hb) hn) ?_
        first | (rw [show rp_f d r b = b from if_pos (by omega), show rp_b r b = b from if_pos (by omega)]; rfl) | (rw [show rp_f d r b = b from if_pos (by omega), show rp_b r b = -1 from if_neg (by omega)]; rfl) | (rw [show rp_f d r b = d from if_neg (by omega), show rp_b r b = b from if_pos (by omega)]; rfl) | (rw [show rp_f d r b = d from if_neg (by omega), show rp_b r b = -1 from if_neg (by omega)]; rfl)
    · refine pm_Ev.go 5 (f' := (163, 40, [(6, _), (5, _), (4, _), (3, _), (0, _), (1, _), (2, _)], [_, _])) rfl ?_
      refine pm_Ev.jne rfl (by omega) rfl (fun h4 => ?_) (fun h4 => ?_)
      · refine pm_Ev.go 2 (f' := (163, 50, [(7, _), (6, _), (5, _), (4, _), (3, _), (0, _), (1, _), (2, _)], [])) rfl ?_
        refine pm_Ev.weak (ev_mvT L xs σ (f := rp_f d r b) (u := r / 10 % 10) (c := r / 100) (b := rp_b r b) (v3 := zI (r % 10)) (v0 := zI d) (v1 := zI r) (v2 := zI b) (rp_f_r hd hb) hu hc (rp_b_r hb) hn) ?_
        first | (rw [show rp_f d r b = b from if_pos (by omega), show rp_b r b = b from if_pos (by omega)]; rfl) | (rw [show rp_f d r b = b from if_pos (by omega), show rp_b r b = -1 from if_neg (by omega)]; rfl) | (rw [show rp_f d r b = d from if_neg (by omega), show rp_b r b = b from if_pos (by omega)]; rfl) | (rw [show rp_f d r b = d from if_neg (by omega), show rp_b r b = -1 from if_neg (by omega)]; rfl)
      · refine pm_Ev.go 3 (f' := (163, 50, [(7, _), (6, _), (5, _), (4, _), (3, _), (0, _), (1, _), (2, _)], [])) rfl ?_
        refine pm_Ev.weak (ev_mvT L xs σ (f := rp_f d r b) (u := r / 10 % 10) (c := r / 100) (b := rp_b r b) (v3 := zI (r % 10)) (v0 := zI d) (v1 := zI r) (v2 := zI b) (rp_f_r hd hb) hu hc (rp_b_r hb) hn) ?_
        first | (rw [show rp_f d r b = b from if_pos (by omega), show rp_b r b = b from if_pos (by omega)]; rfl) | (rw [show rp_f d r b = b from if_pos (by omega), show rp_b r b = -1 from if_neg (by omega)]; rfl) | (rw [show rp_f d r b = d from if_neg (by omega), show rp_b r b = b from if_pos (by omega)]; rfl) | (rw [show rp_f d r b = d from if_neg (by omega), show rp_b r b = -1 from if_neg (by omega)]; rfl)
  · exact absurd h1 (by omega)
theorem ev_moved0 {d b : Int} : pm_Ev (tq_P L xs) (pm_enter 163 [.int (zI d), .int (zI 0), .int (zI b)]) σ (.inl (some (.int (zI d))), σ) := by
  show pm_Ev (tq_P L xs) (163, 0, [(0, .int (zI d)), (1, .int (zI 0)), (2, .int (zI b))], []) σ _
  refine pm_Ev.go 1 (f' := (163, 1, [(0, _), (1, _), (2, _)], [_])) rfl ?_
  refine pm_Ev.zne rfl (by omega) rfl (fun h => absurd rfl h) (fun _ => ?_)
  refine pm_Ev.go 1 (f' := (163, 5, [(0, _), (1, _), (2, _)], [_])) rfl ?_
  exact pm_Ev.rv rfl rfl rfl
end CD
