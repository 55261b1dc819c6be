section CM
variable (L : Nat) (xs : Nat → Int32) (σ : pm_S)
theorem ev_mmoved {d r b : Int} {n : Nat} {fs : List Value} (ha : 199 < σ.2.1) (ho : σ.1 199 = .inr (6, fs)) (hv : fs[8]? = some (.int (zI b))) (hd : 0 ≤ d ∧ d ≤ 3652058) (hb : 0 ≤ b ∧ b ≤ 3652058) (hr : 1 ≤ r ∧ r ≤ 100000) (hu : 0 ≤ r / 10 % 10 ∧ r / 10 % 10 ≤ 3) (hc : 1 ≤ r / 100 ∧ r / 100 ≤ 99) (hn : rp_n (rp_f d r b) (r / 10 % 10) (r / 100) (rp_b r b) n) :
    pm_Ev (tq_P L xs) (pm_enter 145 [.ref 199, .int (zI d), .int (zI r)]) σ (.inl (some (.int (zI (rp_cap (r / 10 % 10) (rp_t (rp_f d r b) (r / 10 % 10) (r / 100) n))))), σ) := by
  show pm_Ev (tq_P L xs) (145, 0, [(0, .ref 199), (1, .int (zI d)), (2, .int (zI r))], []) σ _
  have hff := rp_f_r (r := r) hd hb
  refine pm_Ev.go 1 (f' := (145, 1, [(0, _), (1, _), (2, _)], [_])) rfl ?_
  refine pm_Ev.bp rfl rfl ?_
  refine pm_Ev.irem rfl (by omega) ?_
  refine pm_Ev.go 2 (f' := (145, 6, [(3, _), (0, _), (1, _), (2, _)], [_])) rfl ?_
  refine pm_Ev.bp rfl rfl ?_
  refine pm_Ev.idiv rfl (by omega) ?_
  refine pm_Ev.bp rfl rfl ?_
  refine pm_Ev.irem rfl (by omega) ?_
  refine pm_Ev.go 2 (f' := (145, 15, [(4, _), (3, _), (0, _), (1, _), (2, _)], [_])) rfl ?_
  refine pm_Ev.bp rfl rfl ?_
  refine pm_Ev.idiv rfl (by omega) ?_
  refine pm_Ev.go 3 (f' := (145, 22, [(5, _), (4, _), (3, _), (0, _), (1, _), (2, _)], [_, _])) rfl ?_
  refine pm_Ev.jne rfl (by omega) rfl (fun h1 => ?_) (fun h1 => ?_)
  · have ef : rp_f d r b = d := if_neg (by omega)
    rw [ef] at hn ⊢
    refine pm_Ev.go 3 (f' := (145, 37, [(5, _), (4, _), (3, _), (0, _), (1, _), (2, _)], [_, _, _])) rfl ?_
    refine pm_Ev.call rfl rfl rfl rfl rfl (ev_stepped L xs σ (by omega) hu (by omega)) ?_
    refine pm_Ev.go 1 (f' := (145, 42, [(6, _), (5, _), (4, _), (3, _), (0, _), (1, _), (2, _)], [])) rfl ?_
    rw [rp_stp0 (by omega) hu hc]
    by_cases hk : r % 10 = 2
    · have eb : rp_b r b = b := if_pos hk
      rw [eb] at hn
      rw [hk]
      exact pm_Ev.weak (ev_mmvL L xs σ (v1 := zI d) (v2 := zI r) (r := r) ha ho hv (by omega) hu hc hb hn n 0 (by omega)) rfl
    · have eb : rp_b r b = -1 := if_neg hk
      rw [eb] at hn
      have n0 : n = 0 := by
        refine Classical.byContradiction fun q => ?_
        have t := hn.2 0 (by omega)
        have s := (rp_stpS (f := d) (u := r / 10 % 10) (c := r / 100) (by omega) hu hc 0).1
        omega
      subst n0
      refine pm_Ev.go 2 (f' := (145, 44, [(6, _), (5, _), (4, _), (3, _), (0, _), (1, _), (2, _)], [_, _])) rfl ?_
      refine pm_Ev.jne rfl (by omega) rfl (fun _ => ?_) (fun hz => absurd hz (by omega))
      refine pm_Ev.go 1 (f' := (145, 72, [(6, _), (5, _), (4, _), (3, _), (0, _), (1, _), (2, _)], [_])) rfl ?_
      exact pm_Ev.rv rfl rfl rfl
  · have ef : rp_f d r b = b := if_pos (by omega)
    rw [ef] at hn ⊢
    refine pm_Ev.go 1 (f' := (145, 26, [(5, _), (4, _), (3, _), (0, _), (1, _), (2, _)], [_])) rfl ?_
    refine pm_Ev.gf (ix := 163) (kd := 1) (ci := 6) (k := 8) (ty := .int) rfl rfl ha ho hv ?_
    refine pm_Ev.go 3 (f' := (145, 37, [(5, _), (4, _), (3, _), (0, _), (1, _), (2, _)], [_, _, _])) rfl ?_
    refine pm_Ev.call rfl rfl rfl rfl rfl (ev_stepped L xs σ (by omega) hu (by omega)) ?_
    refine pm_Ev.go 1 (f' := (145, 42, [(6, _), (5, _), (4, _), (3, _), (0, _), (1, _), (2, _)], [])) rfl ?_
    rw [rp_stp0 (by omega) hu hc]
    by_cases hk : r % 10 = 2
    · have eb : rp_b r b = b := if_pos hk
      rw [eb] at hn
      rw [hk]
      exact pm_Ev.weak (ev_mmvL L xs σ (v1 := zI d) (v2 := zI r) (r := r) ha ho hv (by omega) hu hc hb hn n 0 (by omega)) rfl
    · have eb : rp_b r b = -1 := if_neg hk
      rw [eb] at hn
      have n0 : n = 0 := by
        refine Classical.byContradiction fun q => ?_
        have t := hn.2 0 (by omega)
        have s := (rp_stpS (f := b) (u := r / 10 % 10) (c := r / 100) (by omega) hu hc 0).1
        omega
      subst n0
      refine pm_Ev.go 2 (f' := (145, 44, [(6, _), (5, _), (4, _), (3, _), (0, _), (1, _), (2, _)], [_, _])) rfl ?_
      refine pm_Ev.jne rfl (by omega) rfl (fun _ => ?_) (fun hz => absurd hz (by omega))
      refine pm_Ev.go 1 (f' := (145, 72, [(6, _), (5, _), (4, _), (3, _), (0, _), (1, _), (2, _)], [_])) rfl ?_
      exact pm_Ev.rv rfl rfl rfl
end CM
