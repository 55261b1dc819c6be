/-! small methods of the class -/
theorem ev_isWithin (L : Nat) (xs : Nat → Int32) (a lo hi : Int32) (σ : pm_S) : pm_Ev (tq_P L xs) (pm_enter 37 [.int a, .int lo, .int hi]) σ (.inl (some (.int (if lo ≤ a ∧ a ≤ hi then 1 else 0))), σ) := by
  show pm_Ev (tq_P L xs) (37, 0, [(0, .int a), (1, .int lo), (2, .int hi)], []) σ _
  refine pm_Ev.go 2 rfl ?_
  refine pm_Ev.br rfl rfl rfl rfl rfl rfl rfl (fun h => ?_) (fun h => ?_)
  · rw [if_neg (fun q => absurd q.1 (Int32.not_le.mpr h))]
    refine pm_Ev.go 1 rfl ?_
    exact pm_Ev.ret rfl rfl rfl rfl
  · refine pm_Ev.go 2 rfl ?_
    refine pm_Ev.br rfl rfl rfl rfl rfl rfl rfl (fun h2 => ?_) (fun h2 => ?_)
    · rw [if_neg (fun q => absurd q.2 (Int32.not_le.mpr h2))]
      refine pm_Ev.go 1 rfl ?_
      exact pm_Ev.ret rfl rfl rfl rfl
    · rw [if_pos ⟨Int32.not_lt.mp h, Int32.not_lt.mp h2⟩]
      refine pm_Ev.go 2 rfl ?_
      exact pm_Ev.ret rfl rfl rfl rfl
theorem ev_checkNumbers_ok (L : Nat) (xs : Nat → Int32) (σ : pm_S) {x : Int32} (hx : ¬ x = 0) : pm_Ev (tq_P L xs) (pm_enter 35 [.int x]) σ (.inl none, σ) := by
  show pm_Ev (tq_P L xs) (35, 0, [(0, .int x)], []) σ _
  refine pm_Ev.go 1 rfl ?_
  refine pm_Ev.br rfl rfl rfl rfl rfl rfl rfl (fun h => ?_) (fun h => absurd hx h)
  exact pm_Ev.ret rfl rfl rfl rfl
theorem ev_checkNumbers_no (L : Nat) (xs : Nat → Int32) (σ : pm_S) : pm_Ev (tq_P L xs) (pm_enter 35 [.int 0]) σ (.inr σ.2.1, pm_add σ (.inr (7, [])) 6) := by
  show pm_Ev (tq_P L xs) (35, 0, [(0, .int 0)], []) σ _
  refine pm_Ev.go 1 rfl ?_
  refine pm_Ev.br rfl rfl rfl rfl rfl rfl rfl (fun h => absurd rfl h) (fun h => ?_)
  exact pm_Ev.ret rfl rfl rfl rfl
