/-! the entries tell the row -/
theorem mo_cag_u {g : Int → Int → Int} {m p q x y : Int} (h : mo_cag g m p q x) (k : mo_cag g m p q y) : x = y := by
  rcases h with ⟨h0, h1, h2, h3⟩ | ⟨h0, h1⟩
  · rcases k with ⟨k0, k1, k2, k3⟩ | ⟨k0, k1⟩
    · by_cases a : x < y
      · exact absurd h2 (k3 x h0 a)
      · by_cases b : y < x
        · exact absurd k2 (h3 y k0 b)
        · omega
    · exact absurd h2 (k1 x h0 h1)
  · rcases k with ⟨k0, k1, k2, k3⟩ | ⟨k0, k1⟩
    · exact absurd k2 (h1 y k0 k1)
    · omega
theorem mo_R.uni {g : Int → Int → Int} {m n : Int} {I D I' D' : Int → Int} (M : mo_R g m n I D) (M' : mo_R g m n I' D') : ∀ p, 0 ≤ p → p < n → I' p = I p ∧ D' p = D p := by
  -- climbing from two places that hold one entry
  have climb : ∀ (k : Nat) (x x' y : Int), x < k → 0 ≤ x → x < n → 0 ≤ x' → x' < n → I' x' = I x → fo_end D n x = y → fo_end D' n x' = y → y < n → I' y = I y := by
    intro k
    induction k with
    | zero =>
      intro x x' y xk x0
      omega
    | succ k ih =>
      intro x x' y xk x0 x1 x0' x1' e ey ey' yn
      by_cases c : fo_end D n x < n ∧ D (fo_end D n x) = D x
      · have a := M.next x0 x1 c
        by_cases c' : fo_end D' n x' < n ∧ D' (fo_end D' n x') = D' x'
        · have b := M'.next x0' x1' c'
          rw [e] at b
          have := mo_cag_u a b
          rw [ey, ey'] at this
          exact this.symm
        · have b := (M'.nonext x0' x1' c').1
          rw [e] at b
          have := mo_cag_u a b
          have i0 := M.J.1 (fo_end D n x) (by have := (fo_end_B (D := D) (n := n) x1).1; omega) c.1
          omega
      · have a := M.nonext x0 x1 c
        by_cases c' : fo_end D' n x' < n ∧ D' (fo_end D' n x') = D' x'
        · have b := M'.next x0' x1' c'
          rw [e] at b
          have := mo_cag_u a.1 b
          have i0 := M'.J.1 (fo_end D' n x') (by have := (fo_end_B (D := D') (n := n) x1').1; omega) c'.1
          omega
        · have b := M'.nonext x0' x1' c'
          have P := fo_par_P M.W x0 x1
          have P' := fo_par_P M'.W x0' x1'
          have p1 := P.2.1
          have p1' := P'.2.1
          have q : fo_id I' (fo_par D' x') = fo_id I (fo_par D x) := by rw [← (M'.R x' x0' x1').1, ← (M.R x x0 x1).1, e]
          have n1 : fo_par D x ≠ -1 := fun h => by
            have h2 := a.2
            rw [h, fo_end_root M.W, ey] at h2
            omega
          have n2 : fo_par D' x' ≠ -1 := fun h => by
            have h2 := b.2
            rw [h, fo_end_root M'.W, ey'] at h2
            omega
          unfold fo_id at q
          rw [if_neg n1, if_neg n2] at q
          exact ih (fo_par D x) (fo_par D' x') y (by omega) (by have := P.1; omega) (by omega) (by have := P'.1; omega) (by omega) q (a.2.trans ey) (b.2.trans ey') yn
  have row : ∀ (k : Nat), (k : Int) < n → I' k = I k := by
    intro k
    induction k with
    | zero =>
      intro k0
      have w := (M.W.2.2 0 (by omega) (by omega)).1
      have w' := (M'.W.2.2 0 (by omega) (by omega)).1
      have a := M.first (x := -1) (by omega) (by omega) (by rw [M.W.1]; exact w)
      have b := M'.first (x := -1) (by omega) (by omega) (by rw [M'.W.1]; exact w')
      exact (mo_cag_u a b).symm
    | succ k ih =>
      intro kn
      have e := ih (by omega)
      rw [show ((k + 1 : Nat) : Int) = (k : Int) + 1 by omega]
      have ide : fo_id I' (k : Int) = fo_id I (k : Int) := by
        unfold fo_id
        rw [if_neg (by omega), if_neg (by omega), e]
      by_cases c : (k : Int) + 1 < n ∧ D k < D (k + 1)
      · have a := M.first (x := k) (by omega) c.1 c.2
        by_cases c' : (k : Int) + 1 < n ∧ D' k < D' (k + 1)
        · have b := M'.first (x := k) (by omega) c'.1 c'.2
          rw [ide] at b
          exact (mo_cag_u a b).symm
        · have b := (M'.nofirst (x := k) (by omega) (by omega) c').1
          rw [ide] at b
          have := mo_cag_u a b
          have i0 := M.J.1 ((k : Int) + 1) (by omega) c.1
          omega
      · have a := M.nofirst (x := k) (by omega) (by omega) c
        by_cases c' : (k : Int) + 1 < n ∧ D' k < D' (k + 1)
        · have b := M'.first (x := k) (by omega) c'.1 c'.2
          rw [ide] at b
          have := mo_cag_u a.1 b
          have i0 := M'.J.1 ((k : Int) + 1) (by omega) c'.1
          omega
        · have b := M'.nofirst (x := k) (by omega) (by omega) c'
          exact climb (k + 1) k k (k + 1) (by omega) (by omega) (by omega) (by omega) (by omega) e a.2 b.2 (by omega)
  have row' : ∀ p, 0 ≤ p → p < n → I' p = I p := fun p p0 p1 => by
    have := row p.toNat (by omega)
    rw [show ((p.toNat : Nat) : Int) = p by omega] at this
    exact this
  have dep : ∀ (k : Nat) (p : Int), p < k → 0 ≤ p → p < n → D' p = D p := by
    intro k
    induction k with
    | zero =>
      intro p pk p0
      omega
    | succ k ih =>
      intro p pk p0 p1
      have P := fo_par_P M.W p0 p1
      have P' := fo_par_P M'.W p0 p1
      have d := fo_P_d M.W p0 p1 P
      have d' := fo_P_d M'.W p0 p1 P'
      have pe : fo_par D' p = fo_par D p := by
        have q : fo_id I' (fo_par D' p) = fo_id I (fo_par D p) := by rw [← (M'.R p p0 p1).1, ← (M.R p p0 p1).1, row' p p0 p1]
        have r : fo_id I' (fo_par D' p) = fo_id I (fo_par D' p) := by
          unfold fo_id
          by_cases z : fo_par D' p = -1
          · rw [if_pos z, if_pos z]
          · rw [if_neg z, if_neg z, row' _ (by have := P'.1; omega) (by have := P'.2.1; omega)]
        exact fo_id_inj M.J P'.1 (by have := P'.2.1; omega) P.1 (by have := P.2.1; omega) (r.symm.trans q)
      rw [pe] at d'
      by_cases z : fo_par D p = -1
      · rw [z, M.W.1] at d
        rw [z, M'.W.1] at d'
        omega
      · have := ih (fo_par D p) (by have := P.2.1; omega) (by have := P.1; omega) (by have := P.2.1; omega)
        omega
  exact fun p p0 p1 => ⟨row' p p0 p1, dep (p + 1).toNat p (by omega) p0 p1⟩
section RU
variable {C C' : Int → Int} {g g' : Int → Int → Int} {m : Int}
theorem RR.uni (R : RR C g m) (R' : RR C' g' m) (hg : ∀ e f, 0 ≤ e → e < 400 → 0 ≤ f → f < 14 → g' e f = g e f) (h0 : C' 0 = C 0) {p : Int} (p0 : 0 ≤ p) (p1 : p < C 0) : oI C' p = oI C p ∧ oD C' p = oD C p := by
  have k := R'.cg (C' := C') (g' := g) (fun _ _ _ => rfl) (fun e f e0 e1 f0 f1 => (hg e f e0 e1 f0 f1).symm)
  have M' := k.M
  rw [h0] at M'
  exact R.M.uni M' p p0 p1
theorem RR.same (R : RR C g m) (R' : RR C g' m) (hf : ∀ e f, f ≠ 1 → f ≠ 2 → g' e f = g e f) (hn : ∀ e, 0 ≤ e → e < 400 → g e 0 ≠ 1 → ∀ f, g' e f = g e f) {e f : Int} (e0 : 0 ≤ e) (e1 : e < 400) : g' e f = g e f := by
  by_cases h1 : f = 1
  · rcases R.M.th e e0 e1 with ⟨_, p, p0, p1, p2⟩ | ⟨a, _⟩
    · rw [h1, ← p2, (R.M.R p p0 p1).1, (R'.M.R p p0 p1).1]
    · exact hn e e0 e1 (by omega) f
  · by_cases h2 : f = 2
    · rcases R.M.th e e0 e1 with ⟨_, p, p0, p1, p2⟩ | ⟨a, _⟩
      · rw [h2, ← p2, (R.M.R p p0 p1).2, (R'.M.R p p0 p1).2]
      · exact hn e e0 e1 (by omega) f
    · exact hf e f h1 h2
end RU
