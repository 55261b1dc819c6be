/-! the reference: children -/
def mo_g (ar : Nat → Nat × (Nat → Int32)) (e f : Int) : Int := hq_g ar 200 (14 * e + f)
def mo_ch (ar : Nat → Nat × (Nat → Int32)) (p q e : Int) : Prop := mo_g ar e 0 = 1 ∧ mo_g ar e 1 = p ∧ mo_g ar e 2 = q
def mo_ca (z : Nat → Int) (ar : Nat → Nat × (Nat → Int32)) (p q x : Int) : Prop := (0 ≤ x ∧ x < z 23 ∧ mo_ch ar p q x ∧ ∀ e : Int, 0 ≤ e → e < x → ¬ mo_ch ar p q e) ∨ (x = -1 ∧ ∀ e : Int, 0 ≤ e → e < z 23 → ¬ mo_ch ar p q e)
def mo_cn (ar : Nat → Nat × (Nat → Int32)) (p : Int) : Nat → Int
  | 0 => 0
  | n + 1 => mo_cn ar p n + (if mo_g ar n 0 = 1 ∧ mo_g ar n 1 = p then 1 else 0)
theorem mo_cn_r (ar : Nat → Nat × (Nat → Int32)) (p : Int) : ∀ n : Nat, 0 ≤ mo_cn ar p n ∧ mo_cn ar p n ≤ n
  | 0 => by
    rw [mo_cn]
    omega
  | n + 1 => by
    have := mo_cn_r ar p n
    rw [mo_cn]
    split <;> omega
theorem mo_g_r (ar : Nat → Nat × (Nat → Int32)) (e f : Int) : -2147483648 ≤ mo_g ar e f ∧ mo_g ar e f ≤ 2147483647 := hq_g_r _ _ _
section MS
variable (L : Nat) (xs : Nat → Int32)
variable {σ : pm_S} {ad : Nat → Nat} {z : Nat → Int} {ar : Nat → Nat × (Nat → Int32)} {lr : Nat → Nat × (Nat → Int64)}
theorem ev_g (H : Hp σ ad z ar lr) (hl : (ar 200).1 = 5600) {e f : Int} (h : 0 ≤ e ∧ e < 400 ∧ 0 ≤ f ∧ f < 14) : pm_Ev (tq_P L xs) (pm_enter 98 [.ref 199, .int (zI e), .int (zI f)]) σ (.inl (some (.int (zI (mo_g ar e f)))), σ) := ev_m_get L xs H hl (by omega)
theorem ev_childAtL (H : Hp σ ad z ar lr) (hl : (ar 200).1 = 5600) (hm : 0 ≤ z 23 ∧ z 23 ≤ 400) {p q x : Int} (hp : -2147483648 ≤ p ∧ p ≤ 2147483647) (hq : -2147483648 ≤ q ∧ q ≤ 2147483647) (hx : mo_ca z ar p q x) : ∀ (n : Nat) (e : Int), 0 ≤ e → e + n = z 23 → (∀ i : Int, 0 ≤ i → i < e → ¬ mo_ch ar p q i) → pm_Ev (tq_P L xs) (112, 2, [(3, .int (zI e)), (0, .ref 199), (1, .int (zI p)), (2, .int (zI q))], []) σ (.inl (some (.int (zI x))), σ) := by
  intro n
  induction n with
  | zero =>
    intro e h0 hn hb
    have xe : x = -1 := by
      rcases hx with ⟨a, b, c, d⟩ | ⟨a, b⟩
      · exact absurd c (hb x a (by omega))
      · exact a
    subst xe
    refine pm_Ev.go 2 (f' := (112, 4, [(3, _), (0, _), (1, _), (2, _)], [_, _])) rfl ?_
    refine pm_Ev.gf rfl rfl H.m199 H.o199 rfl ?_
    refine pm_Ev.jge rfl (by omega) rfl (fun h1 => ?_) (fun h1 => ?_)
    · refine pm_Ev.go 1 (f' := (112, 49, [(3, _), (0, _), (1, _), (2, _)], [_])) rfl ?_
      exact pm_Ev.rv rfl rfl rfl
    · exact absurd h1 (by omega)
  | succ n ih =>
    intro e h0 hn hb
    have g0 := mo_g_r ar e 0
    have g1 := mo_g_r ar e 1
    have g2 := mo_g_r ar e 2
    refine pm_Ev.go 2 (f' := (112, 4, [(3, _), (0, _), (1, _), (2, _)], [_, _])) rfl ?_
    refine pm_Ev.gf rfl rfl H.m199 H.o199 rfl ?_
    refine pm_Ev.jge rfl (by omega) rfl (fun h1 => ?_) (fun h1 => ?_)
    · exact absurd h1 (by omega)
    · refine pm_Ev.go 3 (f' := (112, 13, [(3, _), (0, _), (1, _), (2, _)], [_, _, _])) rfl ?_
      refine pm_Ev.cv rfl rfl rfl rfl (by decide) (Nat.le_of_ble_eq_true rfl) (Nat.le_of_ble_eq_true rfl) H.m199 H.o199 (ev_g L xs H hl (by omega)) ?_
      refine pm_Ev.go 1 (f' := (112, 17, [(3, _), (0, _), (1, _), (2, _)], [_, _])) rfl ?_
      refine pm_Ev.jne rfl (by omega) rfl (fun h2 => ?_) (fun h2 => ?_)
      · refine pm_Ev.inc rfl rfl (Nat.le_of_ble_eq_true rfl) ?_
        refine pm_Ev.go 1 (f' := (112, 2, [(3, _), (0, _), (1, _), (2, _)], [])) rfl ?_
        refine pm_Ev.weak (ih (e + 1) (by omega) (by omega) (fun i i0 i1 => ?_)) rfl
        by_cases ie : i = e
        · rw [ie]
          exact fun c => absurd c (by unfold mo_ch; omega)
        · exact hb i i0 (by omega)
      · refine pm_Ev.go 3 (f' := (112, 23, [(3, _), (0, _), (1, _), (2, _)], [_, _, _])) rfl ?_
        refine pm_Ev.cv rfl rfl rfl rfl (by decide) (Nat.le_of_ble_eq_true rfl) (Nat.le_of_ble_eq_true rfl) H.m199 H.o199 (ev_g L xs H hl (by omega)) ?_
        refine pm_Ev.go 1 (f' := (112, 27, [(3, _), (0, _), (1, _), (2, _)], [_, _])) rfl ?_
        refine pm_Ev.jne rfl (by omega) rfl (fun h3 => ?_) (fun h3 => ?_)
        · refine pm_Ev.inc rfl rfl (Nat.le_of_ble_eq_true rfl) ?_
          refine pm_Ev.go 1 (f' := (112, 2, [(3, _), (0, _), (1, _), (2, _)], [])) rfl ?_
          refine pm_Ev.weak (ih (e + 1) (by omega) (by omega) (fun i i0 i1 => ?_)) rfl
          by_cases ie : i = e
          · rw [ie]
            exact fun c => absurd c (by unfold mo_ch; omega)
          · exact hb i i0 (by omega)
        · refine pm_Ev.go 3 (f' := (112, 33, [(3, _), (0, _), (1, _), (2, _)], [_, _, _])) rfl ?_
          refine pm_Ev.cv rfl rfl rfl rfl (by decide) (Nat.le_of_ble_eq_true rfl) (Nat.le_of_ble_eq_true rfl) H.m199 H.o199 (ev_g L xs H hl (by omega)) ?_
          refine pm_Ev.go 1 (f' := (112, 37, [(3, _), (0, _), (1, _), (2, _)], [_, _])) rfl ?_
          refine pm_Ev.jne rfl (by omega) rfl (fun h4 => ?_) (fun h4 => ?_)
          · refine pm_Ev.inc rfl rfl (Nat.le_of_ble_eq_true rfl) ?_
            refine pm_Ev.go 1 (f' := (112, 2, [(3, _), (0, _), (1, _), (2, _)], [])) rfl ?_
            refine pm_Ev.weak (ih (e + 1) (by omega) (by omega) (fun i i0 i1 => ?_)) rfl
            by_cases ie : i = e
            · rw [ie]
              exact fun c => absurd c (by unfold mo_ch; omega)
            · exact hb i i0 (by omega)
          · refine pm_Ev.go 1 (f' := (112, 41, [(3, _), (0, _), (1, _), (2, _)], [_])) rfl ?_
            exact pm_Ev.rv rfl rfl (by
              have ch : mo_ch ar p q e := ⟨by omega, by omega, by omega⟩
              rcases hx with ⟨a, b, c, d⟩ | ⟨a, b⟩
              · have u1 : ¬ x < e := fun r => hb x a r c
                have u2 : ¬ e < x := fun r => d e h0 r ch
                omega
              · exact absurd ch (b e h0 (by omega)))
theorem ev_childAt (H : Hp σ ad z ar lr) (hl : (ar 200).1 = 5600) (hm : 0 ≤ z 23 ∧ z 23 ≤ 400) {p q x : Int} (hp : -2147483648 ≤ p ∧ p ≤ 2147483647) (hq : -2147483648 ≤ q ∧ q ≤ 2147483647) (hx : mo_ca z ar p q x) : pm_Ev (tq_P L xs) (pm_enter 112 [.ref 199, .int (zI p), .int (zI q)]) σ (.inl (some (.int (zI x))), σ) := by
  show pm_Ev (tq_P L xs) (112, 0, [(0, .ref 199), (1, .int (zI p)), (2, .int (zI q))], []) σ _
  refine pm_Ev.go 2 (f' := (112, 2, [(3, _), (0, _), (1, _), (2, _)], [])) rfl ?_
  exact ev_childAtL L xs H hl hm hp hq hx (z 23).toNat 0 (by omega) (by omega) (fun i h1 h2 => absurd h1 (by omega))
theorem ev_childrenL (H : Hp σ ad z ar lr) (hl : (ar 200).1 = 5600) (hm : 0 ≤ z 23 ∧ z 23 ≤ 400) {p : Int} (hp : -2147483648 ≤ p ∧ p ≤ 2147483647) : ∀ (n e : Nat), (e : Int) + n = z 23 → pm_Ev (tq_P L xs) (113, 4, [(3, .int (zI e)), (2, .int (zI (mo_cn ar p e))), (0, .ref 199), (1, .int (zI p))], []) σ (.inl (some (.int (zI (mo_cn ar p (z 23).toNat)))), σ) := by
  intro n
  induction n with
  | zero =>
    intro e hn
    have ee : e = (z 23).toNat := by omega
    subst ee
    refine pm_Ev.go 2 (f' := (113, 6, [(3, _), (2, _), (0, _), (1, _)], [_, _])) rfl ?_
    refine pm_Ev.gf rfl rfl H.m199 H.o199 rfl ?_
    refine pm_Ev.jge rfl (by omega) rfl (fun h1 => ?_) (fun h1 => ?_)
    · refine pm_Ev.go 1 (f' := (113, 47, [(3, _), (2, _), (0, _), (1, _)], [_])) rfl ?_
      exact pm_Ev.rv rfl rfl rfl
    · exact absurd h1 (by omega)
  | succ n ih =>
    intro e hn
    have g0 := mo_g_r ar e 0
    have g1 := mo_g_r ar e 1
    have ih1 := ih (e + 1) (by omega)
    rw [mo_cn, show ((e + 1 : Nat) : Int) = (e : Int) + 1 by omega] at ih1
    refine pm_Ev.go 2 (f' := (113, 6, [(3, _), (2, _), (0, _), (1, _)], [_, _])) rfl ?_
    refine pm_Ev.gf rfl rfl H.m199 H.o199 rfl ?_
    refine pm_Ev.jge rfl (by omega) rfl (fun h1 => ?_) (fun h1 => ?_)
    · exact absurd h1 (by omega)
    · refine pm_Ev.go 4 (f' := (113, 16, [(3, _), (2, _), (0, _), (1, _)], [_, _, _, _])) rfl ?_
      refine pm_Ev.cv rfl rfl rfl rfl (by decide) (Nat.le_of_ble_eq_true rfl) (Nat.le_of_ble_eq_true rfl) H.m199 H.o199 (ev_g L xs H hl (by omega)) ?_
      refine pm_Ev.go 1 (f' := (113, 20, [(3, _), (2, _), (0, _), (1, _)], [_, _, _])) rfl ?_
      refine pm_Ev.jne rfl (by omega) rfl (fun h2 => ?_) (fun h2 => ?_)
      · refine pm_Ev.go 1 (f' := (113, 38, [(3, _), (2, _), (0, _), (1, _)], [_, _])) rfl ?_
        refine pm_Ev.iadd rfl ?_
        refine pm_Ev.go 1 (f' := (113, 40, [(2, _), (3, _), (0, _), (1, _)], [])) rfl ?_
        refine pm_Ev.inc rfl rfl (Nat.le_of_ble_eq_true rfl) ?_
        refine pm_Ev.go 1 (f' := (113, 4, [(3, _), (2, _), (0, _), (1, _)], [])) rfl ?_
        first
          | (rw [if_pos (by omega)] at ih1; exact pm_Ev.weak ih1 rfl)
          | (rw [if_neg (by omega)] at ih1; exact pm_Ev.weak ih1 rfl)
      · refine pm_Ev.go 3 (f' := (113, 26, [(3, _), (2, _), (0, _), (1, _)], [_, _, _, _])) rfl ?_
        refine pm_Ev.cv rfl rfl rfl rfl (by decide) (Nat.le_of_ble_eq_true rfl) (Nat.le_of_ble_eq_true rfl) H.m199 H.o199 (ev_g L xs H hl (by omega)) ?_
        refine pm_Ev.go 1 (f' := (113, 30, [(3, _), (2, _), (0, _), (1, _)], [_, _, _])) rfl ?_
        refine pm_Ev.jne rfl (by omega) rfl (fun h3 => ?_) (fun h3 => ?_)
        · refine pm_Ev.go 1 (f' := (113, 38, [(3, _), (2, _), (0, _), (1, _)], [_, _])) rfl ?_
          refine pm_Ev.iadd rfl ?_
          refine pm_Ev.go 1 (f' := (113, 40, [(2, _), (3, _), (0, _), (1, _)], [])) rfl ?_
          refine pm_Ev.inc rfl rfl (Nat.le_of_ble_eq_true rfl) ?_
          refine pm_Ev.go 1 (f' := (113, 4, [(3, _), (2, _), (0, _), (1, _)], [])) rfl ?_
          first
            | (rw [if_pos (by omega)] at ih1; exact pm_Ev.weak ih1 rfl)
            | (rw [if_neg (by omega)] at ih1; exact pm_Ev.weak ih1 rfl)
        · refine pm_Ev.go 2 (f' := (113, 38, [(3, _), (2, _), (0, _), (1, _)], [_, _])) rfl ?_
          refine pm_Ev.iadd rfl ?_
          refine pm_Ev.go 1 (f' := (113, 40, [(2, _), (3, _), (0, _), (1, _)], [])) rfl ?_
          refine pm_Ev.inc rfl rfl (Nat.le_of_ble_eq_true rfl) ?_
          refine pm_Ev.go 1 (f' := (113, 4, [(3, _), (2, _), (0, _), (1, _)], [])) rfl ?_
          first
            | (rw [if_pos (by omega)] at ih1; exact pm_Ev.weak ih1 rfl)
            | (rw [if_neg (by omega)] at ih1; exact pm_Ev.weak ih1 rfl)
theorem ev_children (H : Hp σ ad z ar lr) (hl : (ar 200).1 = 5600) (hm : 0 ≤ z 23 ∧ z 23 ≤ 400) {p : Int} (hp : -2147483648 ≤ p ∧ p ≤ 2147483647) : pm_Ev (tq_P L xs) (pm_enter 113 [.ref 199, .int (zI p)]) σ (.inl (some (.int (zI (mo_cn ar p (z 23).toNat)))), σ) := by
  show pm_Ev (tq_P L xs) (113, 0, [(0, .ref 199), (1, .int (zI p))], []) σ _
  refine pm_Ev.go 4 (f' := (113, 4, [(3, _), (2, _), (0, _), (1, _)], [])) rfl ?_
  exact ev_childrenL L xs H hl hm hp (z 23).toNat 0 (by omega)
end MS
