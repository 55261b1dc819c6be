/-! moved dates of the reference -/
def rp_cap (u t : Int) : Int := if u < 2 then t else if t ≤ 3652058 then t else 3652059
theorem cd_mb_num {m x : Int} (hm : 0 ≤ m) (hx : 1 ≤ x ∧ x ≤ cd_len m) : 0 ≤ cd_num m x ∧ cd_mb (cd_num m x) = m ∧ cd_dim (cd_num m x) = x := by
  have q := cd_num_28 hm
  have e := cd_num_d m x
  have p : 0 ≤ cd_num m x := by omega
  obtain ⟨a1, a2, a3, a4⟩ := cd_mb_ok p
  have y := (cd_yr_ok p).1
  have s := cd_num_s 1 hm
  have u : cd_mb (cd_num m x) = m := cd_num_uniq (d := cd_num m x) (by omega) hm a3 a4 (by omega) (by omega)
  refine ⟨p, u, ?_⟩
  unfold cd_dim
  rw [u]
  omega
theorem cd_last : cd_num 119988 1 = 3652059 := by decide
theorem cd_mst_cap {d k : Int} (h : 0 ≤ d) (hk : 1 ≤ k) : cd_mst d k = if cd_num (cd_mb d + k) (if cd_dim d ≤ cd_len (cd_mb d + k) then cd_dim d else cd_len (cd_mb d + k)) ≤ 3652058 then cd_num (cd_mb d + k) (if cd_dim d ≤ cd_len (cd_mb d + k) then cd_dim d else cd_len (cd_mb d + k)) else 3652059 := by
  obtain ⟨a1, a2, a3, a4⟩ := cd_mb_ok h
  have y := (cd_yr_ok h).1
  have x1 := rp_x (c := k) h
  unfold cd_mst
  have e : (if cd_dim d < cd_len (cd_mb d + k) then cd_dim d else cd_len (cd_mb d + k)) = (if cd_dim d ≤ cd_len (cd_mb d + k) then cd_dim d else cd_len (cd_mb d + k)) := by
    by_cases q1 : cd_dim d < cd_len (cd_mb d + k)
    · rw [if_pos q1, if_pos (by omega)]
    · rw [if_neg q1]
      by_cases q2 : cd_dim d ≤ cd_len (cd_mb d + k)
      · rw [if_pos q2]
        omega
      · rw [if_neg q2]
  rw [e]
  generalize (if cd_dim d ≤ cd_len (cd_mb d + k) then cd_dim d else cd_len (cd_mb d + k)) = x at *
  generalize hm : cd_mb d + k = m at *
  by_cases q : 9999 < m / 12 + 1
  · rw [if_pos q, if_neg]
    have := cd_num_mono (a := 119988) (b := m) (by omega) (by omega)
    rw [cd_last] at this
    rw [cd_num_d]
    omega
  · rw [if_neg q, if_pos]
    have := cd_num_mono (a := m + 1) (b := 119988) (by omega) (by omega)
    rw [cd_last, cd_num_s 1 (by omega)] at this
    rw [cd_num_d]
    omega
theorem rp_stp0 {f u c : Int} (hf : 0 ≤ f) (hu : 0 ≤ u ∧ u ≤ 3) (hc : 1 ≤ c ∧ c ≤ 99) : cd_stp f u c = rp_cap u (rp_t f u c 0) := by
  have hr := rp_c_r (u := u) hc
  unfold cd_stp rp_cap rp_t
  by_cases q : u < 2
  · simp only [if_pos q]
    unfold rp_c
    by_cases q0 : u = 0
    · rw [if_pos q0, if_neg (by omega), if_neg (by omega)]
      simp
    · rw [if_neg q0, if_pos (by omega)]
      simp
      omega
  · simp only [if_neg q]
    rw [show (if u = 2 then c else 12 * c) = rp_c u c by
      unfold rp_c
      by_cases q2 : u = 2
      · rw [if_pos q2, if_neg (by omega), if_neg (by omega)]
      · rw [if_neg q2, if_neg (by omega), if_pos (by omega)]
        omega]
    exact cd_mst_cap hf hr.1
theorem rp_stpS {f u c : Int} (hf : 0 ≤ f) (hu : 0 ≤ u ∧ u ≤ 3) (hc : 1 ≤ c ∧ c ≤ 99) (i : Nat) : 0 ≤ rp_t f u c i ∧ cd_stp (rp_t f u c i) u c = rp_cap u (rp_t f u c (i + 1)) := by
  have hr := rp_c_r (u := u) hc
  by_cases q : u < 2
  · have p : 0 ≤ rp_t f u c i := by
      unfold rp_t
      rw [if_pos q]
      have : 0 ≤ (i : Int) * rp_c u c := Int.mul_nonneg (by omega) (by omega)
      omega
    refine ⟨p, ?_⟩
    rw [rp_stp0 p hu hc]
    unfold rp_cap
    rw [if_pos q, if_pos q]
    unfold rp_t
    rw [if_pos q, if_pos q, if_pos q, show ((i + 1 : Nat) : Int) = (i : Int) + 1 by omega, Int.add_mul]
    simp
    omega
  · have q1 := cd_mb_ok hf
    have q2 := (cd_yr_ok hf).1
    have x0 := rp_x (c := rp_c u c) hf
    have m1 := sq_m_r (mo := cd_mb f + rp_c u c) (by omega) hr.1 i
    have x1 := sq_x_r x0 i (c := rp_c u c)
    obtain ⟨p, p1, p2⟩ := cd_mb_num (m := sq_m (cd_mb f + rp_c u c) (rp_c u c) i) (by omega) x1
    have e : rp_t f u c i = cd_num (sq_m (cd_mb f + rp_c u c) (rp_c u c) i) (sq_x (cd_mb f + rp_c u c) (if cd_dim f ≤ cd_len (cd_mb f + rp_c u c) then cd_dim f else cd_len (cd_mb f + rp_c u c)) (rp_c u c) i) := by
      unfold rp_t
      rw [if_neg q]
      rfl
    rw [← e] at p p1 p2
    refine ⟨p, ?_⟩
    rw [rp_stp0 p hu hc]
    congr 1
    unfold rp_t at p1 p2 ⊢
    simp only [if_neg q] at p1 p2 ⊢
    rw [p1, p2]
    rfl
section CM
variable (L : Nat) (xs : Nat → Int32) (σ : pm_S)
theorem ev_mmvL {f u c b r : Int} {n : Nat} {fs : List Value} {v1 v2 : Int32} (ha : 199 < σ.2.1) (ho : σ.1 199 = .inr (6, fs)) (hv : fs[8]? = some (.int (zI b))) (hf : 0 ≤ f ∧ f ≤ 3652058) (hu : 0 ≤ u ∧ u ≤ 3) (hc : 1 ≤ c ∧ c ≤ 99) (hb : 0 ≤ b ∧ b ≤ 3652058) (hn : rp_n f u c b n) : ∀ (j i : Nat), i + j = n →
    pm_Ev (tq_P L xs) (145, 42, [(6, .int (zI (rp_cap u (rp_t f u c i)))), (5, .int (zI c)), (4, .int (zI u)), (3, .int (zI 2)), (0, .ref 199), (1, .int v1), (2, .int v2)], []) σ (.inl (some (.int (zI (rp_cap u (rp_t f u c n))))), σ) := by
  intro j
  induction j with
  | zero =>
    intro i hi
    have e : i = n := by omega
    subst e
    have h1 := hn.1
    have h2 : b < rp_cap u (rp_t f u c i) ∧ rp_cap u (rp_t f u c i) ≤ 2147483647 := by
      unfold rp_cap
      by_cases q : u < 2
      · rw [if_pos q]
        refine ⟨h1, ?_⟩
        have hr := rp_c_r (u := u) hc
        cases i with
        | zero =>
          unfold rp_t
          rw [if_pos q]
          simp
          omega
        | succ k =>
          have t := hn.2 k (by omega)
          unfold rp_t at t ⊢
          rw [if_pos q] at t ⊢
          rw [show ((k + 1 : Nat) : Int) = (k : Int) + 1 by omega, Int.add_mul]
          omega
      · rw [if_neg q]
        split <;> omega
    refine pm_Ev.go 2 (f' := (145, 44, [(6, _), (5, _), (4, _), (3, _), (0, _), (1, _), (2, _)], [_, _])) rfl ?_
    refine pm_Ev.jne rfl (by omega) rfl (fun h1x => ?_) (fun h1x => ?_)
    · exact absurd rfl h1x
    · clear h1x
      refine pm_Ev.go 2 (f' := (145, 50, [(6, _), (5, _), (4, _), (3, _), (0, _), (1, _), (2, _)], [_, _])) rfl ?_
      refine pm_Ev.gf (ix := 163) (kd := 1) (ci := 6) (k := 8) (ty := .int) rfl rfl ha ho hv ?_
      refine pm_Ev.jgt rfl (by omega) rfl (fun _ => ?_) (fun h2x => ?_)
      · refine pm_Ev.go 1 (f' := (145, 72, [(6, _), (5, _), (4, _), (3, _), (0, _), (1, _), (2, _)], [_])) rfl ?_
        exact pm_Ev.rv rfl rfl rfl
      · exact absurd h2x (by omega)
  | succ j ih =>
    intro i hi
    have h3 := hn.2 i (by omega)
    have h4 := rp_stpS (f := f) (u := u) (c := c) hf.1 hu hc i
    have h5 : rp_cap u (rp_t f u c i) = rp_t f u c i := by
      unfold rp_cap
      split
      · rfl
      · rw [if_pos (by omega)]
    rw [h5]
    refine pm_Ev.go 2 (f' := (145, 44, [(6, _), (5, _), (4, _), (3, _), (0, _), (1, _), (2, _)], [_, _])) rfl ?_
    refine pm_Ev.jne rfl (by omega) rfl (fun h1x => ?_) (fun _ => ?_)
    · exact absurd rfl h1x
    · refine pm_Ev.go 2 (f' := (145, 50, [(6, _), (5, _), (4, _), (3, _), (0, _), (1, _), (2, _)], [_, _])) rfl ?_
      refine pm_Ev.gf (ix := 163) (kd := 1) (ci := 6) (k := 8) (ty := .int) rfl rfl ha ho hv ?_
      refine pm_Ev.jgt rfl (by omega) rfl (fun h2 => ?_) (fun h2 => ?_)
      · exact absurd h2 (by omega)
      · refine pm_Ev.go 3 (f' := (145, 62, [(6, _), (5, _), (4, _), (3, _), (0, _), (1, _), (2, _)], [_, _, _])) rfl ?_
        refine pm_Ev.call rfl rfl rfl rfl rfl (ev_stepped L xs σ (by omega) hu (by omega)) ?_
        rw [h4.2]
        refine pm_Ev.go 2 (f' := (145, 42, [(6, _), (5, _), (4, _), (3, _), (0, _), (1, _), (2, _)], [])) rfl ?_
        exact pm_Ev.weak (ih (i + 1) (by omega)) rfl
end CM
