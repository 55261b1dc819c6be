/-! the reference: the end of an edit -/
theorem zI_and {a b : Int} (ha : a = 0 ∨ a = 1) (hb : b = 0 ∨ b = 1) : zI a &&& zI b = zI (a * b) := by
  rcases ha with rfl | rfl <;> rcases hb with rfl | rfl <;> decide
theorem pm_Ev.iand {P : pm_P} {mi pc : Nat} {lv : pm_L} {st : List Value} {σ : pm_S} {res : pm_O × pm_S} {a b : Int} (hc : pm_cod P mi pc = some (.iand, 1)) (ha : a = 0 ∨ a = 1) (hb : b = 0 ∨ b = 1) (k : pm_Ev P (mi, pc + 1, lv, .int (zI (a * b)) :: st) σ res) : pm_Ev P (mi, pc, lv, .int (zI b) :: .int (zI a) :: st) σ res := by
  refine pm_Ev.in hc rfl ?_ k
  show some (pc + 1, lv, Value.int (zI a &&& zI b) :: st, σ) = _
  rw [zI_and ha hb]
theorem pm_Fv.iand {P : pm_P} {mi pc : Nat} {lv : pm_L} {st : List Value} {σ : pm_S} {Q : pm_O → pm_S → Prop} {a b : Int} (hc : pm_cod P mi pc = some (.iand, 1)) (ha : a = 0 ∨ a = 1) (hb : b = 0 ∨ b = 1) (k : pm_Fv P (mi, pc + 1, lv, .int (zI (a * b)) :: st) σ Q) : pm_Fv P (mi, pc, lv, .int (zI b) :: .int (zI a) :: st) σ Q := by
  obtain ⟨o, s, e, q⟩ := k
  exact ⟨o, s, pm_Ev.iand hc ha hb e, q⟩
section MS
variable (L : Nat) (xs : Nat → Int32)
variable {σ : pm_S} {ad : Nat → Nat} {z : Nat → Int} {ar : Nat → Nat × (Nat → Int32)} {lr : Nat → Nat × (Nat → Int64)}
def mo_same (ar : Nat → Nat × (Nat → Int32)) (n : Int) : Prop := ∀ k : Int, 0 ≤ k → k < n → hq_g ar 202 k = hq_g ar 200 k
theorem ev_doneL (H : Hp σ ad z ar lr) (hl : (ar 200).1 = 5600 ∧ (ar 201).1 = 341600 ∧ (ar 202).1 = 5600) {Q : pm_O → pm_S → Prop} (kk : ∀ t : Int, (t = 1 ∧ mo_same ar 5600 ∨ t = 0 ∧ ¬ mo_same ar 5600) → pm_Fv (tq_P L xs) (103, 45, [(2, .int (zI 5600)), (1, .int (zI t)), (0, .ref 199)], []) σ Q) : ∀ (n : Nat) (j t : Int), 0 ≤ j → j + n = 5600 → (t = 1 ∧ mo_same ar j ∨ t = 0 ∧ ¬ mo_same ar j) → pm_Fv (tq_P L xs) (103, 9, [(2, .int (zI j)), (1, .int (zI t)), (0, .ref 199)], []) σ Q := by
  intro n
  induction n with
  | zero =>
    intro j t hj hn ht
    have e : j = 5600 := by omega
    subst e
    refine pm_Fv.go 1 (f' := (103, 10, [(2, _), (1, _), (0, _)], [_])) rfl ?_
    refine pm_Fv.sp rfl rfl ?_
    refine pm_Fv.jge rfl (by omega) rfl (fun _ => ?_) (fun h => absurd h (by omega))
    exact kk t ht
  | succ n ih =>
    intro j t hj hn ht
    have g1 := hq_g_r ar 202 j
    have g2 := hq_g_r ar 200 j
    have t01 : t = 0 ∨ t = 1 := by omega
    refine pm_Fv.go 1 (f' := (103, 10, [(2, _), (1, _), (0, _)], [_])) rfl ?_
    refine pm_Fv.sp rfl rfl ?_
    refine pm_Fv.jge rfl (by omega) rfl (fun h1 => ?_) (fun h1 => ?_)
    · exact absurd h1 (by omega)
    · refine pm_Fv.go 2 (f' := (103, 18, [(2, _), (1, _), (0, _)], [_, _])) rfl ?_
      refine pm_Fv.gf rfl rfl H.m199 H.o199 rfl ?_
      refine pm_Fv.go 1 (f' := (103, 22, [(2, _), (1, _), (0, _)], [_, _, _])) rfl ?_
      refine pm_Fv.fia H rfl (by decide) rfl rfl (by rw [hl.2.2]; omega) ?_
      refine pm_Fv.go 1 (f' := (103, 24, [(2, _), (1, _), (0, _)], [_, _, _])) rfl ?_
      refine pm_Fv.gf rfl rfl H.m199 H.o199 rfl ?_
      refine pm_Fv.go 1 (f' := (103, 28, [(2, _), (1, _), (0, _)], [_, _, _, _])) rfl ?_
      refine pm_Fv.fia H rfl (by decide) rfl rfl (by rw [hl.1]; omega) ?_
      refine pm_Fv.jne rfl (by omega) rfl (fun h2 => ?_) (fun h2 => ?_)
      · refine pm_Fv.go 1 (f' := (103, 37, [(2, _), (1, _), (0, _)], [_, _])) rfl ?_
        refine pm_Fv.iand rfl t01 (by omega) ?_
        refine pm_Fv.go 1 (f' := (103, 39, [(1, _), (2, _), (0, _)], [])) rfl ?_
        refine pm_Fv.inc rfl rfl (Nat.le_of_ble_eq_true rfl) ?_
        refine pm_Fv.go 1 (f' := (103, 9, [(2, _), (1, _), (0, _)], [])) rfl ?_
        refine pm_Fv.weak (ih (j + 1) (t * 0) (by omega) (by omega) (Or.inr ⟨by omega, fun q => h2 (q j hj (by omega))⟩)) rfl
      · refine pm_Fv.go 2 (f' := (103, 37, [(2, _), (1, _), (0, _)], [_, _])) rfl ?_
        refine pm_Fv.iand rfl t01 (by omega) ?_
        refine pm_Fv.go 1 (f' := (103, 39, [(1, _), (2, _), (0, _)], [])) rfl ?_
        refine pm_Fv.inc rfl rfl (Nat.le_of_ble_eq_true rfl) ?_
        refine pm_Fv.go 1 (f' := (103, 9, [(2, _), (1, _), (0, _)], [])) rfl ?_
        refine pm_Fv.weak (ih (j + 1) (t * 1) (by omega) (by omega) ?_) rfl
        rcases ht with ⟨t1, q⟩ | ⟨t1, q⟩
        · refine Or.inl ⟨by omega, fun k hk1 hk2 => ?_⟩
          by_cases e : k = j
          · rw [e]
            omega
          · exact q k hk1 (by omega)
        · exact Or.inr ⟨by omega, fun q2 => q fun k hk1 hk2 => q2 k hk1 (by omega)⟩
end MS
