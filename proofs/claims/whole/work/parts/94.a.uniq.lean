/-! entries with one parent and one place are one -/
theorem fo_uq {g : Int → Int → Int} {D : Int → Int} {n : Int} (W : fo_W D n) (I : Int → Int) (I0 : ∀ x, 0 ≤ x → x < n → 0 ≤ I x) (R : fo_R g I D n) : ∀ p q, 0 ≤ p → p < n → 0 ≤ q → q < n → I p = I q → p = q := by
  have key : ∀ (k : Nat) (p q : Int), p < k → 0 ≤ p → p < n → 0 ≤ q → q < n → I p = I q → p = q := by
    intro k
    induction k with
    | zero =>
      intro p q pk p0
      omega
    | succ k ih =>
      intro p q pk p0 p1 q0 q1 e
      have rp := R p p0 p1
      have rq := R q q0 q1
      rw [e] at rp
      have P := fo_par_P W p0 p1
      have Q := fo_par_P W q0 q1
      have pp := P.2.1
      have qp := Q.2.1
      have pe : fo_par D p = fo_par D q := by
        have h := rp.1.symm.trans rq.1
        unfold fo_id at h
        by_cases a : fo_par D p = -1
        · by_cases b : fo_par D q = -1
          · omega
          · rw [if_pos a, if_neg b] at h
            have := I0 (fo_par D q) (by have := Q.1; omega) (by omega)
            omega
        · by_cases b : fo_par D q = -1
          · rw [if_neg a, if_pos b] at h
            have := I0 (fo_par D p) (by have := P.1; omega) (by omega)
            omega
          · rw [if_neg a, if_neg b] at h
            exact ih _ _ (by omega) (by have := P.1; omega) (by omega) (by have := Q.1; omega) (by omega) h
      exact fo_pl_inj W p0 p1 q0 q1 pe (by rw [← rp.2, ← rq.2])
  exact fun p q p0 p1 q0 q1 e => key (p + 1).toNat p q (by omega) p0 p1 q0 q1 e
/-- a row of n different entries out of n takes all -/
theorem fo_sur {I J : Int → Int} {n : Int} (hI : fo_J I n) (hJ : fo_J J n) (h : ∀ q, 0 ≤ q → q < n → ∃ p, 0 ≤ p ∧ p < n ∧ J q = I p) : ∀ p, 0 ≤ p → p < n → ∃ q, 0 ≤ q ∧ q < n ∧ J q = I p := by
  intro p p0 p1
  refine Classical.byContradiction fun no => ?_
  -- then J, read as places of I, misses p: a row of n numbers below n that misses one
  have f : ∀ q : Int, ∃ y, 0 ≤ q → q < n → 0 ≤ y ∧ y < n ∧ J q = I y := fun q => by
    by_cases c : 0 ≤ q ∧ q < n
    · obtain ⟨y, y0, y1, y2⟩ := h q c.1 c.2
      exact ⟨y, fun _ _ => ⟨y0, y1, y2⟩⟩
    · exact ⟨0, fun a b => absurd ⟨a, b⟩ c⟩
  have F : ∀ q, 0 ≤ q → q < n → 0 ≤ Classical.choose (f q) ∧ Classical.choose (f q) < n ∧ J q = I (Classical.choose (f q)) := fun q q0 q1 => Classical.choose_spec (f q) q0 q1
  generalize hF : (fun q => Classical.choose (f q)) = u at *
  have F' : ∀ q, 0 ≤ q → q < n → 0 ≤ u q ∧ u q < n ∧ J q = I (u q) := fun q q0 q1 => by
    have := F q q0 q1
    rw [← hF]
    exact this
  have np : ∀ q, 0 ≤ q → q < n → u q ≠ p := fun q q0 q1 e => no ⟨q, q0, q1, by rw [(F' q q0 q1).2.2, e]⟩
  have le := fs_pg (I := fun q => if u q < p then u q else u q - 1) (m := n - 1) (n := n) (by omega) (by omega) (fun q q0 q1 => by
    have a := F' q q0 q1
    have b := np q q0 q1
    show 0 ≤ (if u q < p then u q else u q - 1) ∧ (if u q < p then u q else u q - 1) < n - 1
    split <;> omega) (fun q y q0 q1 y0 y1 e => by
    have a := np q q0 q1
    have b := np y y0 y1
    have e' : (if u q < p then u q else u q - 1) = (if u y < p then u y else u y - 1) := e
    have c : u q = u y := by
      split at e' <;> split at e' <;> omega
    exact hJ.2 q y q0 q1 y0 y1 (by rw [(F' q q0 q1).2.2, (F' y y0 y1).2.2, c]))
  omega
