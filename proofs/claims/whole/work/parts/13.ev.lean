/-! runs of the pure machine that come to an end -/
def pm_Ev (P : pm_P) (f : pm_F) (σ : pm_S) (r : pm_O × pm_S) : Prop := ∃ n, pm_ev P n f σ = some r
theorem pm_Ev.st {P : pm_P} {f f' : pm_F} {σ σ' : pm_S} {r : pm_O × pm_S} (h : pm_step P f σ = some (.inl (f', σ'))) (k : pm_Ev P f' σ' r) : pm_Ev P f σ r := by
  obtain ⟨n, hn⟩ := k
  exact ⟨n + 1, by rw [pm_ev, h]; exact hn⟩
theorem pm_Ev.dn {P : pm_P} {f : pm_F} {σ : pm_S} {r : pm_O × pm_S} (h : pm_step P f σ = some (.inr (.inl r))) : pm_Ev P f σ r := ⟨1, by rw [pm_ev, h]⟩
theorem pm_Ev.ca {P : pm_P} {f : pm_F} {σ σ1 : pm_S} {r : pm_O × pm_S} {y mi pc : Nat} {as st : List Value} {lv : pm_L} {v : Option Value} (h : pm_step P f σ = some (.inr (.inr (y, as, (mi, pc, lv, st))))) (k1 : pm_Ev P (pm_enter y as) σ (.inl v, σ1)) (k2 : pm_Ev P (mi, pc + 3, lv, v.toList ++ st) σ1 r) : pm_Ev P f σ r := by
  obtain ⟨n1, h1⟩ := k1
  obtain ⟨n2, h2⟩ := k2
  refine ⟨max n1 n2 + 1, ?_⟩
  rw [pm_ev, h]
  show (match pm_ev P (max n1 n2) (pm_enter y as) σ with
    | none => none
    | some (.inl v, σ') => pm_ev P (max n1 n2) (mi, pc + 3, lv, v.toList ++ st) σ'
    | some (.inr x, σ') => match pm_catch P (mi, pc, lv, st) x σ' with
      | none => none
      | some none => some (.inr x, σ')
      | some (some g') => pm_ev P (max n1 n2) g' σ') = some r
  rw [pm_ev_le h1 (Nat.le_max_left _ _)]
  exact pm_ev_le h2 (Nat.le_max_right _ _)
theorem pm_Ev.ct {P : pm_P} {f : pm_F} {σ σ1 : pm_S} {y x : Nat} {as : List Value} {g : pm_F} (h : pm_step P f σ = some (.inr (.inr (y, as, g)))) (k1 : pm_Ev P (pm_enter y as) σ (.inr x, σ1)) (hc : pm_catch P g x σ1 = some none) : pm_Ev P f σ (.inr x, σ1) := by
  obtain ⟨n1, h1⟩ := k1
  refine ⟨n1 + 1, ?_⟩
  rw [pm_ev, h]
  show (match pm_ev P n1 (pm_enter y as) σ with
    | none => none
    | some (.inl v, σ') => pm_ev P n1 (g.1, g.2.1 + 3, g.2.2.1, v.toList ++ g.2.2.2) σ'
    | some (.inr x, σ') => match pm_catch P g x σ' with
      | none => none
      | some none => some (.inr x, σ')
      | some (some g') => pm_ev P n1 g' σ') = some (.inr x, σ1)
  rw [h1]
  show (match pm_catch P g x σ1 with
      | none => none
      | some none => some (.inr x, σ1)
      | some (some g') => pm_ev P n1 g' σ1) = some (.inr x, σ1)
  rw [hc]
theorem pm_Ev.cc {P : pm_P} {f : pm_F} {σ σ1 : pm_S} {r : pm_O × pm_S} {y x : Nat} {as : List Value} {g g' : pm_F} (h : pm_step P f σ = some (.inr (.inr (y, as, g)))) (k1 : pm_Ev P (pm_enter y as) σ (.inr x, σ1)) (hc : pm_catch P g x σ1 = some (some g')) (k2 : pm_Ev P g' σ1 r) : pm_Ev P f σ r := by
  obtain ⟨n1, h1⟩ := k1
  obtain ⟨n2, h2⟩ := k2
  refine ⟨max n1 n2 + 1, ?_⟩
  rw [pm_ev, h]
  show (match pm_ev P (max n1 n2) (pm_enter y as) σ with
    | none => none
    | some (.inl v, σ') => pm_ev P (max n1 n2) (g.1, g.2.1 + 3, g.2.2.1, v.toList ++ g.2.2.2) σ'
    | some (.inr x, σ') => match pm_catch P g x σ' with
      | none => none
      | some none => some (.inr x, σ')
      | some (some g') => pm_ev P (max n1 n2) g' σ') = some r
  rw [pm_ev_le h1 (Nat.le_max_left _ _)]
  show (match pm_catch P g x σ1 with
      | none => none
      | some none => some (.inr x, σ1)
      | some (some g') => pm_ev P (max n1 n2) g' σ1) = some r
  rw [hc]
  exact pm_ev_le h2 (Nat.le_max_right _ _)
def pm_go (P : pm_P) : Nat → pm_F → pm_S → Option (pm_F × pm_S)
  | 0, f, σ => some (f, σ)
  | k + 1, f, σ => match pm_step P f σ with
    | some (.inl (f', σ')) => pm_go P k f' σ'
    | _ => none
theorem pm_Ev.go {P : pm_P} : ∀ (k : Nat) {f f' : pm_F} {σ σ' : pm_S} {r : pm_O × pm_S}, pm_go P k f σ = some (f', σ') → pm_Ev P f' σ' r → pm_Ev P f σ r
  | 0, _, _, _, _, _, h, kk => by cases h; exact kk
  | k + 1, f, f', σ, σ', r, h, kk => by
    rw [pm_go] at h
    split at h
    · next f1 σ1 hs => exact pm_Ev.st hs (pm_Ev.go k h kk)
    · cases h
