/-! the reference: small methods -/
section MS
variable (L : Nat) (xs : Nat → Int32)
variable {σ : pm_S} {ad : Nat → Nat} {z : Nat → Int} {ar : Nat → Nat × (Nat → Int32)} {lr : Nat → Nat × (Nat → Int64)}
theorem ev_m_thrown (H : Hp σ ad z ar lr) : pm_Ev (tq_P L xs) (pm_enter 96 [.ref 199]) σ (.inl (some (.int (zI (z 29)))), σ) := by
  show pm_Ev (tq_P L xs) (96, 0, [(0, .ref 199)], []) σ _
  refine pm_Ev.go 1 (f' := (96, 1, [(0, _)], [_])) rfl ?_
  refine pm_Ev.gf rfl rfl H.m199 H.o199 rfl ?_
  exact pm_Ev.rv rfl rfl rfl
theorem ev_m_get (H : Hp σ ad z ar lr) (hl : (ar 200).1 = 5600) {e f : Int} (h : 0 ≤ 14 * e + f ∧ 14 * e + f < 5600) : pm_Ev (tq_P L xs) (pm_enter 98 [.ref 199, .int (zI e), .int (zI f)]) σ (.inl (some (.int (zI (hq_g ar 200 (14 * e + f))))), σ) := by
  show pm_Ev (tq_P L xs) (98, 0, [(0, .ref 199), (1, .int (zI e)), (2, .int (zI f))], []) σ _
  refine pm_Ev.go 1 (f' := (98, 1, [(0, _), (1, _), (2, _)], [_])) rfl ?_
  refine pm_Ev.gf rfl rfl H.m199 H.o199 rfl ?_
  refine pm_Ev.bp rfl rfl ?_
  refine pm_Ev.go 1 (f' := (98, 7, [(0, _), (1, _), (2, _)], [_, _, _])) rfl ?_
  refine pm_Ev.imul rfl ?_
  refine pm_Ev.go 1 (f' := (98, 9, [(0, _), (1, _), (2, _)], [_, _, _])) rfl ?_
  refine pm_Ev.iadd rfl ?_
  refine pm_Ev.fia H rfl (by decide) rfl rfl (by rw [hl]; omega) ?_
  exact pm_Ev.rv rfl rfl rfl
theorem ev_m_put (H : Hp σ ad z ar lr) (hl : (ar 200).1 = 5600) {e f v : Int} (h : 0 ≤ 14 * e + f ∧ 14 * e + f < 5600) : ∃ σ', pm_Ev (tq_P L xs) (pm_enter 99 [.ref 199, .int (zI e), .int (zI f), .int (zI v)]) σ (.inl none, σ') ∧ Hp σ' ad z (hq_w ar 200 (14 * e + f) v) lr ∧ σ'.2 = σ.2 := by
  refine ⟨_, ?_, H.faset (r := 200) (by decide) rfl rfl _, rfl⟩
  show pm_Ev (tq_P L xs) (99, 0, [(0, .ref 199), (1, .int (zI e)), (2, .int (zI f)), (3, .int (zI v))], []) σ _
  refine pm_Ev.go 1 (f' := (99, 1, [(0, _), (1, _), (2, _), (3, _)], [_])) rfl ?_
  refine pm_Ev.gf rfl rfl H.m199 H.o199 rfl ?_
  refine pm_Ev.bp rfl rfl ?_
  refine pm_Ev.go 1 (f' := (99, 7, [(0, _), (1, _), (2, _), (3, _)], [_, _, _])) rfl ?_
  refine pm_Ev.imul rfl ?_
  refine pm_Ev.go 1 (f' := (99, 9, [(0, _), (1, _), (2, _), (3, _)], [_, _, _])) rfl ?_
  refine pm_Ev.iadd rfl ?_
  refine pm_Ev.go 1 (f' := (99, 11, [(0, _), (1, _), (2, _), (3, _)], [_, _, _])) rfl ?_
  refine pm_Ev.is rfl (H.flt (r := 200) (by decide) rfl) (H.faat (r := 200) (by decide) rfl rfl) (zI_ix (by omega) (by rw [hl]; omega) (by rw [hl]; omega)) ?_
  rw [zI_nat (by omega) (by omega)]
  exact pm_Ev.ret rfl rfl rfl rfl
theorem ev_m_within {v lo hi : Int} (h : (-2147483648 ≤ v ∧ v ≤ 2147483647) ∧ (-2147483648 ≤ lo ∧ lo ≤ 2147483647) ∧ (-2147483648 ≤ hi ∧ hi ≤ 2147483647)) : pm_Ev (tq_P L xs) (pm_enter 121 [.int (zI v), .int (zI lo), .int (zI hi)]) σ (.inl (some (.int (zI (if lo ≤ v ∧ v ≤ hi then 1 else 0)))), σ) := by
  show pm_Ev (tq_P L xs) (121, 0, [(0, .int (zI v)), (1, .int (zI lo)), (2, .int (zI hi))], []) σ _
  refine pm_Ev.go 2 (f' := (121, 2, [(0, _), (1, _), (2, _)], [_, _])) rfl ?_
  refine pm_Ev.jlt rfl (by omega) rfl (fun h1 => ?_) (fun h1 => ?_)
  · refine pm_Ev.go 1 (f' := (121, 15, [(0, _), (1, _), (2, _)], [_])) rfl ?_
    exact pm_Ev.rb rfl rfl (by first | (rw [if_pos (by omega)]; done) | (rw [if_neg (by omega)]; done)) (by decide)
  · refine pm_Ev.go 2 (f' := (121, 7, [(0, _), (1, _), (2, _)], [_, _])) rfl ?_
    refine pm_Ev.jgt rfl (by omega) rfl (fun h2 => ?_) (fun h2 => ?_)
    · refine pm_Ev.go 1 (f' := (121, 15, [(0, _), (1, _), (2, _)], [_])) rfl ?_
      exact pm_Ev.rb rfl rfl (by first | (rw [if_pos (by omega)]; done) | (rw [if_neg (by omega)]; done)) (by decide)
    · refine pm_Ev.go 2 (f' := (121, 15, [(0, _), (1, _), (2, _)], [_])) rfl ?_
      exact pm_Ev.rb rfl rfl (by first | (rw [if_pos (by omega)]; done) | (rw [if_neg (by omega)]; done)) (by decide)
def mo_th (z : Nat → Int) (ar : Nat → Nat × (Nat → Int32)) (e : Int) : Prop := 0 ≤ e ∧ e < z 23 ∧ hq_g ar 200 (14 * e) = 1
theorem ev_m_isThere (H : Hp σ ad z ar lr) (hl : (ar 200).1 = 5600) (hm : 0 ≤ z 23 ∧ z 23 ≤ 400) {e : Int} (he : -2147483648 ≤ e ∧ e ≤ 2147483647) {t : Int} (ht : (mo_th z ar e ∧ t = 1) ∨ (¬ mo_th z ar e ∧ t = 0)) : pm_Ev (tq_P L xs) (pm_enter 100 [.ref 199, .int (zI e)]) σ (.inl (some (.int (zI t))), σ) := by
  show pm_Ev (tq_P L xs) (100, 0, [(0, .ref 199), (1, .int (zI e))], []) σ _
  have hg := hq_g_r ar 200 (14 * e)
  unfold mo_th at ht
  refine pm_Ev.go 1 (f' := (100, 1, [(0, _), (1, _)], [_])) rfl ?_
  refine pm_Ev.zlt rfl (by omega) rfl (fun h1 => ?_) (fun h1 => ?_)
  · refine pm_Ev.go 1 (f' := (100, 27, [(0, _), (1, _)], [_])) rfl ?_
    exact pm_Ev.rb rfl rfl (by omega) (by decide)
  · refine pm_Ev.go 2 (f' := (100, 6, [(0, _), (1, _)], [_, _])) rfl ?_
    refine pm_Ev.gf rfl rfl H.m199 H.o199 rfl ?_
    refine pm_Ev.jge rfl (by omega) rfl (fun h2 => ?_) (fun h2 => ?_)
    · refine pm_Ev.go 1 (f' := (100, 27, [(0, _), (1, _)], [_])) rfl ?_
      exact pm_Ev.rb rfl rfl (by omega) (by decide)
    · refine pm_Ev.go 3 (f' := (100, 15, [(0, _), (1, _)], [_, _, _])) rfl ?_
      refine pm_Ev.cv rfl rfl rfl rfl (by decide) (Nat.le_of_ble_eq_true rfl) (Nat.le_of_ble_eq_true rfl) H.m199 H.o199 (ev_m_get L xs H hl (by omega)) ?_
      rw [show 14 * e + 0 = 14 * e by omega]
      refine pm_Ev.go 1 (f' := (100, 19, [(0, _), (1, _)], [_, _])) rfl ?_
      refine pm_Ev.jne rfl (by omega) rfl (fun h3 => ?_) (fun h3 => ?_)
      · refine pm_Ev.go 1 (f' := (100, 27, [(0, _), (1, _)], [_])) rfl ?_
        exact pm_Ev.rb rfl rfl (by omega) (by decide)
      · refine pm_Ev.go 2 (f' := (100, 27, [(0, _), (1, _)], [_])) rfl ?_
        exact pm_Ev.rb rfl rfl (by omega) (by decide)
theorem ev_m_isPlace (H : Hp σ ad z ar lr) (hl : (ar 200).1 = 5600) (hm : 0 ≤ z 23 ∧ z 23 ≤ 400) {e : Int} (he : -2147483648 ≤ e ∧ e ≤ 2147483647) {t : Int} (ht : ((e = -1 ∨ mo_th z ar e) ∧ t = 1) ∨ (¬ (e = -1 ∨ mo_th z ar e) ∧ t = 0)) : pm_Ev (tq_P L xs) (pm_enter 101 [.ref 199, .int (zI e)]) σ (.inl (some (.int (zI t))), σ) := by
  show pm_Ev (tq_P L xs) (101, 0, [(0, .ref 199), (1, .int (zI e))], []) σ _
  refine pm_Ev.go 2 (f' := (101, 2, [(0, _), (1, _)], [_, _])) rfl ?_
  refine pm_Ev.jeq rfl (by omega) rfl (fun h1 => ?_) (fun h1 => ?_)
  · have t1 : t = 1 := ht.elim (fun q => q.2) (fun q => absurd (Or.inl h1) q.1)
    refine pm_Ev.go 2 (f' := (101, 18, [(0, _), (1, _)], [_])) rfl ?_
    exact pm_Ev.rb rfl rfl (by omega) (by decide)
  · have t2 : t = 0 ∨ t = 1 := by omega
    refine pm_Ev.go 2 (f' := (101, 7, [(0, _), (1, _)], [_, _])) rfl ?_
    refine pm_Ev.cv rfl rfl rfl rfl (by decide) (Nat.le_of_ble_eq_true rfl) (Nat.le_of_ble_eq_true rfl) H.m199 H.o199 (ev_m_isThere L xs H hl hm he (t := t) (ht.elim (fun q => q.1.elim (fun x => absurd x h1) (fun x => Or.inl ⟨x, q.2⟩)) (fun q => Or.inr ⟨fun x => q.1 (Or.inr x), q.2⟩))) ?_
    refine pm_Ev.zeq rfl (by omega) rfl (fun h2 => ?_) (fun h2 => ?_)
    · refine pm_Ev.go 1 (f' := (101, 18, [(0, _), (1, _)], [_])) rfl ?_
      exact pm_Ev.rb rfl rfl (by omega) (by decide)
    · refine pm_Ev.go 2 (f' := (101, 18, [(0, _), (1, _)], [_])) rfl ?_
      exact pm_Ev.rb rfl rfl (by omega) (by decide)
end MS
