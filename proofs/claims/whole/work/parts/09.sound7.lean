/-! the machine's own laws: what a step is made of; heaps grow; more fuel changes nothing -/
theorem pm_step_inv {P : pm_P} {f : pm_F} {σ : pm_S} {r : pm_R} (h : pm_step P f σ = some r) : ∃ i n, pm_cod P f.1 f.2.1 = some (i, n) ∧ pm_ln i n = true ∧
    ((∃ pc lv st σ', r = .inl ((f.1, pc, lv, st), σ') ∧ pm_in P f.1 f.2.1 f.2.2.1 f.2.2.2 σ i = some (pc, lv, st, σ')) ∨ (∃ q, r = .inr (.inl q) ∧ pm_dn P f.1 f.2.1 f.2.2.2 σ i = some q) ∨ (∃ y as rr, r = .inr (.inr (y, as, (f.1, f.2.1, f.2.2.1, rr))) ∧ pm_ca P f.1 f.2.2.2 σ i = some (y, as, rr))) := by
  unfold pm_step at h
  split at h
  · cases h
  · next i n hc =>
    split at h
    · next hl =>
      refine ⟨i, n, hc, hl, ?_⟩
      split at h
      · next pc lv st σ' hi =>
        cases h
        exact Or.inl ⟨_, _, _, _, rfl, hi⟩
      · split at h
        · next q hq =>
          cases h
          exact Or.inr (Or.inl ⟨_, rfl, hq⟩)
        · split at h
          · next y as rr hr =>
            cases h
            exact Or.inr (Or.inr ⟨_, _, _, rfl, hr⟩)
          · cases h
    · cases h
theorem pm_in_inv {P : pm_P} {mi pc pc' : Nat} {lv lv' : pm_L} {st st' : List Value} {σ σ' : pm_S} {i : Instr} (h : pm_in P mi pc lv st σ i = some (pc', lv', st', σ')) :
    (σ' = σ ∧ (pm_i1 P mi pc lv st i = some (pc', lv', st') ∨ pm_i2 P mi pc lv st i = some (pc', lv', st') ∨ pm_i3 pc lv st i = some (pc', lv', st') ∨ pm_i4 pc lv st i = some (pc', lv', st'))) ∨ pm_i5 P mi pc lv st σ i = some (pc', lv', st', σ') ∨ pm_i6 P mi pc lv st σ i = some (pc', lv', st', σ') := by
  unfold pm_in at h
  have key : ∀ r : pm_M, pm_wp σ (some r) = some (pc', lv', st', σ') → σ' = σ ∧ r = (pc', lv', st') := by
    rintro ⟨a, b, d⟩ h
    cases h
    exact ⟨rfl, rfl⟩
  split at h
  · next r h1 =>
    obtain ⟨e1, rfl⟩ := key r h
    exact Or.inl ⟨e1, Or.inl h1⟩
  · split at h
    · next r h1 =>
      obtain ⟨e1, rfl⟩ := key r h
      exact Or.inl ⟨e1, Or.inr (Or.inl h1)⟩
    · split at h
      · next r h1 =>
        obtain ⟨e1, rfl⟩ := key r h
        exact Or.inl ⟨e1, Or.inr (Or.inr (Or.inl h1))⟩
      · split at h
        · next r h1 =>
          obtain ⟨e1, rfl⟩ := key r h
          exact Or.inl ⟨e1, Or.inr (Or.inr (Or.inr h1))⟩
        · split at h
          · next r h1 =>
            cases h
            exact Or.inr (Or.inl h1)
          · exact Or.inr (Or.inr h)
set_option maxHeartbeats 1000000 in
theorem pm_i5_sz {P : pm_P} {mi pc pc' : Nat} {lv lv' : pm_L} {st st' : List Value} {σ σ' : pm_S} {i : Instr} (h : pm_i5 P mi pc lv st σ i = some (pc', lv', st', σ')) : σ'.2 = σ.2 := by
  cases i <;> try (exact absurd (show (none : Option pm_N) = some _ from h) (by simp))
  all_goals
    dsimp only [pm_i5] at h
    repeat' split at h
    all_goals first | (cases h; done) | (cases h; rfl)
set_option maxHeartbeats 1000000 in
theorem pm_i6_sz {P : pm_P} {mi pc pc' : Nat} {lv lv' : pm_L} {st st' : List Value} {σ σ' : pm_S} {i : Instr} (h : pm_i6 P mi pc lv st σ i = some (pc', lv', st', σ')) : σ.2.1 ≤ σ'.2.1 ∧ σ.2.2 ≤ σ'.2.2 := by
  cases i <;> try (exact absurd (show (none : Option pm_N) = some _ from h) (by simp))
  case newarray ty =>
    cases ty <;> try (exact absurd (show (none : Option pm_N) = some _ from h) (by simp))
    all_goals
      dsimp only [pm_i6] at h
      repeat' split at h
      all_goals first | (cases h; done) | (cases h; exact ⟨Nat.le_succ _, Nat.le_add_right _ _⟩)
  all_goals
    dsimp only [pm_i6] at h
    repeat' split at h
    all_goals first | (cases h; done) | (cases h; exact ⟨Nat.le_refl _, Nat.le_refl _⟩) | (cases h; exact ⟨Nat.le_succ _, Nat.le_add_right _ _⟩)
theorem pm_in_sz {P : pm_P} {mi pc pc' : Nat} {lv lv' : pm_L} {st st' : List Value} {σ σ' : pm_S} {i : Instr} (h : pm_in P mi pc lv st σ i = some (pc', lv', st', σ')) : σ.2.1 ≤ σ'.2.1 ∧ σ.2.2 ≤ σ'.2.2 := by
  rcases pm_in_inv h with ⟨rfl, -⟩ | h | h
  · exact ⟨Nat.le_refl _, Nat.le_refl _⟩
  · have := pm_i5_sz h
    rw [this]
    exact ⟨Nat.le_refl _, Nat.le_refl _⟩
  · exact pm_i6_sz h
theorem pm_dn_sz {P : pm_P} {mi pc : Nat} {st : List Value} {σ σ' : pm_S} {o : pm_O} {i : Instr} (h : pm_dn P mi pc st σ i = some (o, σ')) : σ.2.1 ≤ σ'.2.1 ∧ σ.2.2 ≤ σ'.2.2 := by
  cases i <;> try (exact absurd (show (none : Option (pm_O × pm_S)) = some _ from h) (by simp))
  all_goals
    dsimp only [pm_dn] at h
    repeat' split at h
    all_goals first | (cases h; done) | (cases h; exact ⟨Nat.le_refl _, Nat.le_refl _⟩) | (cases h; exact ⟨Nat.le_succ _, Nat.le_add_right _ _⟩)
theorem pm_ev_sz {P : pm_P} : ∀ (n : Nat) (f : pm_F) (σ : pm_S) (o : pm_O) (σ' : pm_S), pm_ev P n f σ = some (o, σ') → σ.2.1 ≤ σ'.2.1 ∧ σ.2.2 ≤ σ'.2.2
  | 0, _, _, _, _, h => by cases h
  | n + 1, f, σ, o, σ', h => by
    rw [pm_ev] at h
    split at h
    · cases h
    · next f' σ1 hs =>
      obtain ⟨i, n0, -, -, ⟨pc, lv, st, σ2, e1, h1⟩ | ⟨q, e1, h1⟩ | ⟨y, as, rr, e1, h1⟩⟩ := pm_step_inv hs
      · cases e1
        have h2 := pm_in_sz h1
        have h3 := pm_ev_sz n _ _ _ _ h
        exact ⟨Nat.le_trans h2.1 h3.1, Nat.le_trans h2.2 h3.2⟩
      · cases e1
      · cases e1
    · next r hs =>
      obtain ⟨i, n0, -, -, ⟨pc, lv, st, σ2, e1, h1⟩ | ⟨q, e1, h1⟩ | ⟨y, as, rr, e1, h1⟩⟩ := pm_step_inv hs
      · cases e1
      · cases e1
        cases h
        exact pm_dn_sz h1
      · cases e1
    · next y as g hs =>
      split at h
      · cases h
      · next v σ1 h1 =>
        have h2 := pm_ev_sz n _ _ _ _ h1
        have h3 := pm_ev_sz n _ _ _ _ h
        exact ⟨Nat.le_trans h2.1 h3.1, Nat.le_trans h2.2 h3.2⟩
      · next x σ1 h1 =>
        have h2 := pm_ev_sz n _ _ _ _ h1
        split at h
        · cases h
        · cases h
          exact h2
        · next g' hc =>
          have h3 := pm_ev_sz n _ _ _ _ h
          exact ⟨Nat.le_trans h2.1 h3.1, Nat.le_trans h2.2 h3.2⟩
theorem pm_ev_succ {P : pm_P} : ∀ (n : Nat) (f : pm_F) (σ : pm_S) (r : pm_O × pm_S), pm_ev P n f σ = some r → pm_ev P (n + 1) f σ = some r
  | 0, _, _, _, h => by cases h
  | n + 1, f, σ, r, h => by
    rw [pm_ev] at h
    rw [pm_ev]
    cases hs : pm_step P f σ with
    | none => rw [hs] at h; cases h
    | some q =>
      rw [hs] at h
      rcases q with ⟨f', σ1⟩ | (q | ⟨y, as, g⟩)
      · exact pm_ev_succ n _ _ _ h
      · exact h
      · cases h1 : pm_ev P n (pm_enter y as) σ with
        | none => simp only [h1] at h; cases h
        | some q1 =>
          simp only [h1] at h
          simp only [pm_ev_succ n _ _ _ h1]
          obtain ⟨v | x, σ1⟩ := q1
          · exact pm_ev_succ n _ _ _ h
          · cases hc : pm_catch P g x σ1 with
            | none => simp only [hc] at h; cases h
            | some q2 =>
              simp only [hc] at h ⊢
              cases q2 with
              | none => exact h
              | some g' => exact pm_ev_succ n _ _ _ h
theorem pm_ev_le {P : pm_P} {n k : Nat} {f : pm_F} {σ : pm_S} {r : pm_O × pm_S} (h : pm_ev P n f σ = some r) (hk : n ≤ k) : pm_ev P k f σ = some r := by
  obtain ⟨d, rfl⟩ := Nat.le.dest hk
  clear hk
  induction d with
  | zero => exact h
  | succ d ih => exact pm_ev_succ _ _ _ _ ih
