/-! one step of a repeat -/
def cd_dim (d : Int) : Int := d - cd_num (cd_mb d) 1 + 1
theorem cd_dim_r {d : Int} (h : 0 ≤ d) : 1 ≤ cd_dim d ∧ cd_dim d ≤ cd_len (cd_mb d) ∧ cd_dim d ≤ 31 := by
  obtain ⟨a1, a2, a3, a4⟩ := cd_mb_ok h
  have b := (cd_yr_ok h).1
  rw [cd_num_s 1 (by omega)] at a4
  have := cd_len_r (cd_mb d)
  unfold cd_dim
  omega
def cd_mst (d c : Int) : Int := if 9999 < (cd_mb d + c) / 12 + 1 then 3652059 else cd_num (cd_mb d + c) (if cd_dim d < cd_len (cd_mb d + c) then cd_dim d else cd_len (cd_mb d + c))
def cd_stp (d u c : Int) : Int := if u < 2 then d + (if u = 0 then c else 7 * c) else cd_mst d (if u = 2 then c else 12 * c)
section CM
variable (L : Nat) (xs : Nat → Int32) (σ : pm_S)
theorem ev_stpT {mo t : Int} {v0 v1 v2 v3 v4 : Value} (h : 0 ≤ mo ∧ mo ≤ 1000000) (ht : 1 ≤ t ∧ t ≤ 31) : pm_Ev (tq_P L xs) (144, 67, [(5, .int (zI t)), (4, v4), (3, v3), (0, v0), (1, v1), (2, v2)], [.int (zI (mo + 12))]) σ (.inl (some (.int (zI (if 9999 < mo / 12 + 1 then 3652059 else cd_num mo (if t < cd_len mo then t else cd_len mo))))), σ) := by
  refine pm_Ev.go 2 (f' := (144, 71, [(6, _), (5, _), (4, _), (3, _), (0, _), (1, _), (2, _)], [_])) rfl ?_
  refine pm_Ev.bp rfl rfl ?_
  refine pm_Ev.idiv rfl (by omega) ?_
  refine pm_Ev.go 2 (f' := (144, 78, [(7, _), (6, _), (5, _), (4, _), (3, _), (0, _), (1, _), (2, _)], [_])) rfl ?_
  refine pm_Ev.bp rfl rfl ?_
  refine pm_Ev.irem rfl (by omega) ?_
  refine pm_Ev.go 1 (f' := (144, 82, [(7, _), (6, _), (5, _), (4, _), (3, _), (0, _), (1, _), (2, _)], [_, _])) rfl ?_
  refine pm_Ev.iadd rfl ?_
  refine pm_Ev.go 2 (f' := (144, 87, [(8, _), (7, _), (6, _), (5, _), (4, _), (3, _), (0, _), (1, _), (2, _)], [_])) rfl ?_
  refine pm_Ev.sp rfl rfl ?_
  refine pm_Ev.jle rfl (by omega) rfl (fun h1 => ?_) (fun h1 => ?_)
  · refine pm_Ev.go 2 (f' := (144, 100, [(8, _), (7, _), (6, _), (5, _), (4, _), (3, _), (0, _), (1, _), (2, _)], [_, _])) rfl ?_
    refine pm_Ev.call rfl rfl rfl rfl rfl (ev_inMonth L xs σ (by omega) (by omega)) ?_
    rw [show ((mo + 12) / 12 - 1) * 12 + ((mo + 12) % 12 + 1) - 1 = mo by omega]
    have hl := cd_len_r mo
    refine pm_Ev.go 5 (f' := (144, 113, [(9, _), (8, _), (7, _), (6, _), (5, _), (4, _), (3, _), (0, _), (1, _), (2, _)], [_, _, _, _])) rfl ?_
    refine pm_Ev.jge rfl (by omega) rfl (fun h2 => ?_) (fun h2 => ?_)
    · refine pm_Ev.go 1 (f' := (144, 123, [(9, _), (8, _), (7, _), (6, _), (5, _), (4, _), (3, _), (0, _), (1, _), (2, _)], [_, _, _])) rfl ?_
      refine pm_Ev.call rfl rfl rfl rfl rfl (ev_mnumber L xs σ (by omega) (by omega)) ?_
      rw [show ((mo + 12) / 12 - 1) * 12 + ((mo + 12) % 12 + 1) - 1 = mo by omega]
      exact pm_Ev.rv rfl rfl (by first | (rw [if_pos (by omega)]; done) | (rw [if_neg (by omega), if_pos (by omega)]; done) | (rw [if_neg (by omega), if_neg (by omega)]; done))
    · refine pm_Ev.go 2 (f' := (144, 123, [(9, _), (8, _), (7, _), (6, _), (5, _), (4, _), (3, _), (0, _), (1, _), (2, _)], [_, _, _])) rfl ?_
      refine pm_Ev.call rfl rfl rfl rfl rfl (ev_mnumber L xs σ (by omega) (by omega)) ?_
      rw [show ((mo + 12) / 12 - 1) * 12 + ((mo + 12) % 12 + 1) - 1 = mo by omega]
      exact pm_Ev.rv rfl rfl (by first | (rw [if_pos (by omega)]; done) | (rw [if_neg (by omega), if_pos (by omega)]; done) | (rw [if_neg (by omega), if_neg (by omega)]; done))
  · refine pm_Ev.cc1 (3652059) rfl rfl rfl ?_
    exact pm_Ev.rv rfl rfl (by first | (rw [if_pos (by omega)]; done) | (rw [if_neg (by omega), if_pos (by omega)]; done) | (rw [if_neg (by omega), if_neg (by omega)]; done))
theorem ev_stepped {d u c : Int} (h : 0 ≤ d ∧ d ≤ 3652058) (hu : 0 ≤ u ∧ u ≤ 3) (hc : 0 ≤ c ∧ c ≤ 99) : pm_Ev (tq_P L xs) (pm_enter 144 [.int (zI d), .int (zI u), .int (zI c)]) σ (.inl (some (.int (zI (cd_stp d u c)))), σ) := by
  show pm_Ev (tq_P L xs) (144, 0, [(0, .int (zI d)), (1, .int (zI u)), (2, .int (zI c))], []) σ _
  refine pm_Ev.go 2 (f' := (144, 2, [(0, _), (1, _), (2, _)], [_, _])) rfl ?_
  refine pm_Ev.jge rfl (by omega) rfl (fun h1 => ?_) (fun h1 => ?_)
  · have q1 := cd_mb_ok h.1
    have q2 := cd_yr_ok h.1
    have q3 := cd_yr_r h.1 (by omega)
    refine pm_Ev.go 1 (f' := (144, 21, [(0, _), (1, _), (2, _)], [_])) rfl ?_
    refine pm_Ev.call rfl rfl rfl rfl rfl (ev_myearOf L xs σ (by omega)) ?_
    refine pm_Ev.go 2 (f' := (144, 26, [(3, _), (0, _), (1, _), (2, _)], [_])) rfl ?_
    refine pm_Ev.call rfl rfl rfl rfl rfl (ev_monthOf L xs σ (by omega)) ?_
    refine pm_Ev.go 5 (f' := (144, 36, [(4, _), (3, _), (0, _), (1, _), (2, _)], [_, _, _, _])) rfl ?_
    refine pm_Ev.call rfl rfl rfl rfl rfl (ev_mnumber L xs σ (by omega) (by omega)) ?_
    rw [show (cd_yr d - 1) * 12 + (cd_mb d - (cd_yr d - 1) * 12 + 1) - 1 = cd_mb d by omega]
    refine pm_Ev.isub rfl ?_
    refine pm_Ev.go 1 (f' := (144, 41, [(4, _), (3, _), (0, _), (1, _), (2, _)], [_, _])) rfl ?_
    refine pm_Ev.iadd rfl ?_
    refine pm_Ev.go 1 (f' := (144, 44, [(5, _), (4, _), (3, _), (0, _), (1, _), (2, _)], [])) rfl ?_
    refine pm_Ev.bp rfl rfl ?_
    refine pm_Ev.go 1 (f' := (144, 47, [(5, _), (4, _), (3, _), (0, _), (1, _), (2, _)], [_, _])) rfl ?_
    refine pm_Ev.imul rfl ?_
    refine pm_Ev.go 1 (f' := (144, 50, [(5, _), (4, _), (3, _), (0, _), (1, _), (2, _)], [_, _])) rfl ?_
    refine pm_Ev.iadd rfl ?_
    refine pm_Ev.go 1 (f' := (144, 52, [(5, _), (4, _), (3, _), (0, _), (1, _), (2, _)], [_, _])) rfl ?_
    refine pm_Ev.isub rfl ?_
    refine pm_Ev.go 2 (f' := (144, 55, [(5, _), (4, _), (3, _), (0, _), (1, _), (2, _)], [_, _, _])) rfl ?_
    refine pm_Ev.jne rfl (by omega) rfl (fun h2 => ?_) (fun h2 => ?_)
    · refine pm_Ev.bp rfl rfl ?_
      refine pm_Ev.go 1 (f' := (144, 65, [(5, _), (4, _), (3, _), (0, _), (1, _), (2, _)], [_, _, _])) rfl ?_
      refine pm_Ev.imul rfl ?_
      refine pm_Ev.iadd rfl ?_
      rw [show cd_stp d u c = cd_mst d (12 * c) by unfold cd_stp; rw [if_neg (by omega), if_neg (by omega)]]
      rw [show 12 * cd_yr d + (cd_mb d - (cd_yr d - 1) * 12 + 1) - 1 + 12 * c = cd_mb d + 12 * c + 12 by omega]
      exact pm_Ev.weak (ev_stpT L xs σ (by omega) (cd_dim_r h.1 |> fun q => ⟨q.1, q.2.2⟩)) rfl
    · refine pm_Ev.go 2 (f' := (144, 66, [(5, _), (4, _), (3, _), (0, _), (1, _), (2, _)], [_, _])) rfl ?_
      refine pm_Ev.iadd rfl ?_
      rw [show cd_stp d u c = cd_mst d c by unfold cd_stp; rw [if_neg (by omega), if_pos (by omega)]]
      rw [show 12 * cd_yr d + (cd_mb d - (cd_yr d - 1) * 12 + 1) - 1 + c = cd_mb d + c + 12 by omega]
      exact pm_Ev.weak (ev_stpT L xs σ (by omega) (cd_dim_r h.1 |> fun q => ⟨q.1, q.2.2⟩)) rfl
  · refine pm_Ev.go 2 (f' := (144, 7, [(0, _), (1, _), (2, _)], [_, _])) rfl ?_
    refine pm_Ev.zne rfl (by omega) rfl (fun h3 => ?_) (fun h3 => ?_)
    · refine pm_Ev.bp rfl rfl ?_
      refine pm_Ev.go 1 (f' := (144, 17, [(0, _), (1, _), (2, _)], [_, _, _])) rfl ?_
      refine pm_Ev.imul rfl ?_
      refine pm_Ev.iadd rfl ?_
      exact pm_Ev.rv rfl rfl (by unfold cd_stp; first | (rw [if_pos (by omega), if_pos (by omega)]; done) | (rw [if_pos (by omega), if_neg (by omega)]; done))
    · refine pm_Ev.go 2 (f' := (144, 18, [(0, _), (1, _), (2, _)], [_, _])) rfl ?_
      refine pm_Ev.iadd rfl ?_
      exact pm_Ev.rv rfl rfl (by unfold cd_stp; first | (rw [if_pos (by omega), if_pos (by omega)]; done) | (rw [if_pos (by omega), if_neg (by omega)]; done))
end CM
