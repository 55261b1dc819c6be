/-! the reference: insert, remove's refusal, move, promote, demote -/
section MS
variable (L : Nat) (xs : Nat → Int32)
variable {σ : pm_S} {ad : Nat → Nat} {z : Nat → Int} {ar : Nat → Nat × (Nat → Int32)} {lr : Nat → Nat × (Nat → Int64)}
theorem ev_w1 {v lo hi : Int} (h : (-2147483648 ≤ v ∧ v ≤ 2147483647) ∧ (-2147483648 ≤ lo ∧ lo ≤ 2147483647) ∧ (-2147483648 ≤ hi ∧ hi ≤ 2147483647)) (c : lo ≤ v ∧ v ≤ hi) : pm_Ev (tq_P L xs) (pm_enter 121 [.int (zI v), .int (zI lo), .int (zI hi)]) σ (.inl (some (.int (zI 1))), σ) := by
  have := ev_m_within L xs (σ := σ) h
  rw [if_pos c] at this
  exact this
theorem ev_w0 {v lo hi : Int} (h : (-2147483648 ≤ v ∧ v ≤ 2147483647) ∧ (-2147483648 ≤ lo ∧ lo ≤ 2147483647) ∧ (-2147483648 ≤ hi ∧ hi ≤ 2147483647)) (c : ¬ (lo ≤ v ∧ v ≤ hi)) : pm_Ev (tq_P L xs) (pm_enter 121 [.int (zI v), .int (zI lo), .int (zI hi)]) σ (.inl (some (.int (zI 0))), σ) := by
  have := ev_m_within L xs (σ := σ) h
  rw [if_neg c] at this
  exact this
theorem mo_R.sm {n : Int} {I D : Int → Int} (M : mo_R (mo_g ar) (z 23) n I D) (hx : ∀ e, 400 ≤ e → mo_g ar e 0 ≠ 1) (hy : ∀ e, e < 0 → mo_g ar e 0 ≠ 1 ∨ (-1000 ≤ mo_g ar e 2 ∧ mo_g ar e 2 ≤ 1000)) : ∀ e, mo_g ar e 0 = 1 → -1000 ≤ mo_g ar e 2 ∧ mo_g ar e 2 ≤ 1000 := by
  intro e he
  by_cases c : 0 ≤ e ∧ e < 400
  · rcases M.th e c.1 c.2 with ⟨_, x, x0, x1, xe⟩ | ⟨q, _⟩
    · have := M.pl (ar := ar) (z := z) x0 x1
      rw [xe] at this
      omega
    · rw [q] at he
      exact absurd he (by decide)
  · by_cases d : 400 ≤ e
    · exact absurd he (hx e d)
    · exact (hy e (by omega)).elim (fun q => absurd he q) (fun q => q)
theorem ev_minsert1 (H : Hp σ ad z ar lr) (h : mo_H z ar) {n : Int} {I D : Int → Int} (M : mo_R (mo_g ar) (z 23) n I D) {p k t : Int} (hp : -2147483648 ≤ p ∧ p ≤ 2147483647) (n1 : p ≠ -1) (n2 : ∀ x, 0 ≤ x → x < n → I x ≠ p) : pm_Fv (tq_P L xs) (pm_enter 120 [.ref 199, .int (zI p), .int (zI k), .int (zI t)]) σ (fun o s => o = .inl (some (.int (zI 0))) ∧ Hp s ad (hq_u z 29 1) ar lr ∧ s.2 = σ.2) := by
  show pm_Fv (tq_P L xs) (120, 0, [(0, .ref 199), (1, .int (zI p)), (2, .int (zI k)), (3, .int (zI t))], []) σ _
  have H0 : Hp σ ad (hq_u z 29 (z 29)) ar lr := by rw [hq_u_self]; exact H
  have hm : 0 ≤ z 23 ∧ z 23 ≤ 400 := ⟨M.m0, M.m4⟩
  refine pm_Fv.go 3 (f' := (120, 3, [(0, _), (1, _), (2, _), (3, _)], [_, _, _])) rfl ?_
  refine pm_Fv.cv rfl rfl rfl rfl (by decide) (Nat.le_of_ble_eq_true rfl) (Nat.le_of_ble_eq_true rfl) H0.m199 H0.o199 (ev_noP L xs H0 h.l0 M hp n1 n2) ?_
  refine pm_Fv.zne rfl (by omega) rfl (fun h1 => ?_) (fun h1 => ?_)
  · exact absurd h1 (by omega)
  · refine pm_Fv.go 3 (f' := (120, 15, [(0, _), (1, _), (2, _), (3, _)], [_, _, _])) rfl ?_
    refine pm_Fv.cvF rfl rfl rfl rfl (by decide) (Nat.le_of_ble_eq_true rfl) (Nat.le_of_ble_eq_true rfl) H0.m199 H0.o199 (ev_fo L xs H0) (fun s1 q1 => ?_)
    obtain ⟨H1, r1⟩ := q1
    refine pm_Fv.zne rfl (by omega) rfl (fun h2 => ?_) (fun h2 => ?_)
    · refine pm_Fv.go 1 (f' := (120, 96, [(0, _), (1, _), (2, _), (3, _)], [_])) rfl ?_
      exact pm_Fv.rv rfl rfl ⟨rfl, H1, r1⟩
    · exact absurd h2 (by omega)
theorem ev_minsert2a (H : Hp σ ad z ar lr) (h : mo_H z ar) {n : Int} {I D : Int → Int} (M : mo_R (mo_g ar) (z 23) n I D) {k t : Int} (hk : -2147483648 ≤ k ∧ k ≤ 2147483647) (ht : -2147483648 ≤ t ∧ t ≤ 2147483647) {r : Int} (u0 : -1 ≤ r) (u1 : r < n ∨ r = -1) (c : ¬ (0 ≤ k ∧ k ≤ fo_cc D n r)) : pm_Fv (tq_P L xs) (pm_enter 120 [.ref 199, .int (zI (fo_id I r)), .int (zI k), .int (zI t)]) σ (fun o s => o = .inl (some (.int (zI 0))) ∧ Hp s ad (hq_u z 29 2) ar lr ∧ s.2 = σ.2) := by
  show pm_Fv (tq_P L xs) (120, 0, [(0, .ref 199), (1, .int (zI (fo_id I r))), (2, .int (zI k)), (3, .int (zI t))], []) σ _
  have H0 : Hp σ ad (hq_u z 29 (z 29)) ar lr := by rw [hq_u_self]; exact H
  have hm : 0 ≤ z 23 ∧ z 23 ≤ 400 := ⟨M.m0, M.m4⟩
  have cc := fo_cc_r M.W u0 u1
  have nm := M.nm
  have idr := M.idr u0 u1
  refine pm_Fv.go 3 (f' := (120, 3, [(0, _), (1, _), (2, _), (3, _)], [_, _, _])) rfl ?_
  refine pm_Fv.cv rfl rfl rfl rfl (by decide) (Nat.le_of_ble_eq_true rfl) (Nat.le_of_ble_eq_true rfl) H0.m199 H0.o199 (ev_isP L xs H0 h.l0 M u0 u1) ?_
  refine pm_Fv.zne rfl (by omega) rfl (fun h1 => ?_) (fun h1 => ?_)
  · refine pm_Fv.go 2 (f' := (120, 15, [(0, _), (1, _), (2, _), (3, _)], [_, _, _])) rfl ?_
    refine pm_Fv.cvF rfl rfl rfl rfl (by decide) (Nat.le_of_ble_eq_true rfl) (Nat.le_of_ble_eq_true rfl) H0.m199 H0.o199 (ev_fz L xs H0) (fun s1 q1 => ?_)
    obtain ⟨H1, r1⟩ := q1
    refine pm_Fv.zne rfl (by omega) rfl (fun h2 => ?_) (fun h2 => ?_)
    · exact absurd h2 (by omega)
    · refine pm_Fv.go 5 (f' := (120, 26, [(0, _), (1, _), (2, _), (3, _)], [_, _, _, _, _])) rfl ?_
      refine pm_Fv.cv rfl rfl rfl rfl (by decide) (Nat.le_of_ble_eq_true rfl) (Nat.le_of_ble_eq_true rfl) H1.m199 H1.o199 (ev_kids L xs H1 h.l0 M u0 u1) ?_
      refine pm_Fv.call rfl rfl rfl rfl rfl (ev_w0 L xs (by omega) c) ?_
      refine pm_Fv.zeq rfl (by omega) rfl (fun h3 => ?_) (fun h3 => ?_)
      · refine pm_Fv.go 3 (f' := (120, 51, [(0, _), (1, _), (2, _), (3, _)], [_, _, _])) rfl ?_
        refine pm_Fv.cvF rfl rfl rfl rfl (by decide) (Nat.le_of_ble_eq_true rfl) (Nat.le_of_ble_eq_true rfl) H1.m199 H1.o199 (ev_fo L xs H1) (fun s2 q2 => ?_)
        obtain ⟨H2, r2⟩ := q2
        refine pm_Fv.zne rfl (by omega) rfl (fun h4 => ?_) (fun h4 => ?_)
        · refine pm_Fv.go 1 (f' := (120, 96, [(0, _), (1, _), (2, _), (3, _)], [_])) rfl ?_
          exact pm_Fv.rv rfl rfl ⟨rfl, H2, (r2.trans r1)⟩
        · exact absurd h4 (by omega)
      · exact absurd h3 (by omega)
  · exact absurd h1 (by omega)
theorem ev_minsert2b (H : Hp σ ad z ar lr) (h : mo_H z ar) {n : Int} {I D : Int → Int} (M : mo_R (mo_g ar) (z 23) n I D) {k t : Int} (hk : -2147483648 ≤ k ∧ k ≤ 2147483647) (ht : -2147483648 ≤ t ∧ t ≤ 2147483647) {r : Int} (u0 : -1 ≤ r) (u1 : r < n ∨ r = -1) (c : 0 ≤ k ∧ k ≤ fo_cc D n r) (d : ¬ (0 ≤ t ∧ t ≤ 999999)) : pm_Fv (tq_P L xs) (pm_enter 120 [.ref 199, .int (zI (fo_id I r)), .int (zI k), .int (zI t)]) σ (fun o s => o = .inl (some (.int (zI 0))) ∧ Hp s ad (hq_u z 29 2) ar lr ∧ s.2 = σ.2) := by
  show pm_Fv (tq_P L xs) (120, 0, [(0, .ref 199), (1, .int (zI (fo_id I r))), (2, .int (zI k)), (3, .int (zI t))], []) σ _
  have H0 : Hp σ ad (hq_u z 29 (z 29)) ar lr := by rw [hq_u_self]; exact H
  have hm : 0 ≤ z 23 ∧ z 23 ≤ 400 := ⟨M.m0, M.m4⟩
  have cc := fo_cc_r M.W u0 u1
  have nm := M.nm
  have idr := M.idr u0 u1
  refine pm_Fv.go 3 (f' := (120, 3, [(0, _), (1, _), (2, _), (3, _)], [_, _, _])) rfl ?_
  refine pm_Fv.cv rfl rfl rfl rfl (by decide) (Nat.le_of_ble_eq_true rfl) (Nat.le_of_ble_eq_true rfl) H0.m199 H0.o199 (ev_isP L xs H0 h.l0 M u0 u1) ?_
  refine pm_Fv.zne rfl (by omega) rfl (fun h1 => ?_) (fun h1 => ?_)
  · refine pm_Fv.go 2 (f' := (120, 15, [(0, _), (1, _), (2, _), (3, _)], [_, _, _])) rfl ?_
    refine pm_Fv.cvF rfl rfl rfl rfl (by decide) (Nat.le_of_ble_eq_true rfl) (Nat.le_of_ble_eq_true rfl) H0.m199 H0.o199 (ev_fz L xs H0) (fun s1 q1 => ?_)
    obtain ⟨H1, r1⟩ := q1
    refine pm_Fv.zne rfl (by omega) rfl (fun h2 => ?_) (fun h2 => ?_)
    · exact absurd h2 (by omega)
    · refine pm_Fv.go 5 (f' := (120, 26, [(0, _), (1, _), (2, _), (3, _)], [_, _, _, _, _])) rfl ?_
      refine pm_Fv.cv rfl rfl rfl rfl (by decide) (Nat.le_of_ble_eq_true rfl) (Nat.le_of_ble_eq_true rfl) H1.m199 H1.o199 (ev_kids L xs H1 h.l0 M u0 u1) ?_
      refine pm_Fv.call rfl rfl rfl rfl rfl (ev_w1 L xs (by omega) c) ?_
      refine pm_Fv.zeq rfl (by omega) rfl (fun h3 => ?_) (fun h3 => ?_)
      · exact absurd h3 (by omega)
      · refine pm_Fv.go 2 (f' := (120, 37, [(0, _), (1, _), (2, _), (3, _)], [_, _, _])) rfl ?_
        refine pm_Fv.cc1 (999999) rfl rfl rfl ?_
        refine pm_Fv.call rfl rfl rfl rfl rfl (ev_w0 L xs (by omega) d) ?_
        refine pm_Fv.zne rfl (by omega) rfl (fun h4 => ?_) (fun h4 => ?_)
        · exact absurd h4 (by omega)
        · refine pm_Fv.go 3 (f' := (120, 51, [(0, _), (1, _), (2, _), (3, _)], [_, _, _])) rfl ?_
          refine pm_Fv.cvF rfl rfl rfl rfl (by decide) (Nat.le_of_ble_eq_true rfl) (Nat.le_of_ble_eq_true rfl) H1.m199 H1.o199 (ev_fo L xs H1) (fun s2 q2 => ?_)
          obtain ⟨H2, r2⟩ := q2
          refine pm_Fv.zne rfl (by omega) rfl (fun h5 => ?_) (fun h5 => ?_)
          · refine pm_Fv.go 1 (f' := (120, 96, [(0, _), (1, _), (2, _), (3, _)], [_])) rfl ?_
            exact pm_Fv.rv rfl rfl ⟨rfl, H2, (r2.trans r1)⟩
          · exact absurd h5 (by omega)
  · exact absurd h1 (by omega)
theorem ev_minsert3a (H : Hp σ ad z ar lr) (h : mo_H z ar) {n : Int} {I D : Int → Int} (M : mo_R (mo_g ar) (z 23) n I D) {k t : Int} (hk : -2147483648 ≤ k ∧ k ≤ 2147483647) (ht : -2147483648 ≤ t ∧ t ≤ 2147483647) {r : Int} (u0 : -1 ≤ r) (u1 : r < n ∨ r = -1) (c : 0 ≤ k ∧ k ≤ fo_cc D n r) (d : 0 ≤ t ∧ t ≤ 999999) (e : z 23 = 400) : pm_Fv (tq_P L xs) (pm_enter 120 [.ref 199, .int (zI (fo_id I r)), .int (zI k), .int (zI t)]) σ (fun o s => o = .inl (some (.int (zI 0))) ∧ Hp s ad (hq_u z 29 3) ar lr ∧ s.2 = σ.2) := by
  show pm_Fv (tq_P L xs) (120, 0, [(0, .ref 199), (1, .int (zI (fo_id I r))), (2, .int (zI k)), (3, .int (zI t))], []) σ _
  have H0 : Hp σ ad (hq_u z 29 (z 29)) ar lr := by rw [hq_u_self]; exact H
  have hm : 0 ≤ z 23 ∧ z 23 ≤ 400 := ⟨M.m0, M.m4⟩
  have cc := fo_cc_r M.W u0 u1
  have nm := M.nm
  have idr := M.idr u0 u1
  refine pm_Fv.go 3 (f' := (120, 3, [(0, _), (1, _), (2, _), (3, _)], [_, _, _])) rfl ?_
  refine pm_Fv.cv rfl rfl rfl rfl (by decide) (Nat.le_of_ble_eq_true rfl) (Nat.le_of_ble_eq_true rfl) H0.m199 H0.o199 (ev_isP L xs H0 h.l0 M u0 u1) ?_
  refine pm_Fv.zne rfl (by omega) rfl (fun h1 => ?_) (fun h1 => ?_)
  · refine pm_Fv.go 2 (f' := (120, 15, [(0, _), (1, _), (2, _), (3, _)], [_, _, _])) rfl ?_
    refine pm_Fv.cvF rfl rfl rfl rfl (by decide) (Nat.le_of_ble_eq_true rfl) (Nat.le_of_ble_eq_true rfl) H0.m199 H0.o199 (ev_fz L xs H0) (fun s1 q1 => ?_)
    obtain ⟨H1, r1⟩ := q1
    refine pm_Fv.zne rfl (by omega) rfl (fun h2 => ?_) (fun h2 => ?_)
    · exact absurd h2 (by omega)
    · refine pm_Fv.go 5 (f' := (120, 26, [(0, _), (1, _), (2, _), (3, _)], [_, _, _, _, _])) rfl ?_
      refine pm_Fv.cv rfl rfl rfl rfl (by decide) (Nat.le_of_ble_eq_true rfl) (Nat.le_of_ble_eq_true rfl) H1.m199 H1.o199 (ev_kids L xs H1 h.l0 M u0 u1) ?_
      refine pm_Fv.call rfl rfl rfl rfl rfl (ev_w1 L xs (by omega) c) ?_
      refine pm_Fv.zeq rfl (by omega) rfl (fun h3 => ?_) (fun h3 => ?_)
      · exact absurd h3 (by omega)
      · refine pm_Fv.go 2 (f' := (120, 37, [(0, _), (1, _), (2, _), (3, _)], [_, _, _])) rfl ?_
        refine pm_Fv.cc1 (999999) rfl rfl rfl ?_
        refine pm_Fv.call rfl rfl rfl rfl rfl (ev_w1 L xs (by omega) d) ?_
        refine pm_Fv.zne rfl (by omega) rfl (fun h4 => ?_) (fun h4 => ?_)
        · refine pm_Fv.go 2 (f' := (120, 51, [(0, _), (1, _), (2, _), (3, _)], [_, _, _])) rfl ?_
          refine pm_Fv.cvF rfl rfl rfl rfl (by decide) (Nat.le_of_ble_eq_true rfl) (Nat.le_of_ble_eq_true rfl) H1.m199 H1.o199 (ev_fz L xs H1) (fun s2 q2 => ?_)
          obtain ⟨H2, r2⟩ := q2
          refine pm_Fv.zne rfl (by omega) rfl (fun h5 => ?_) (fun h5 => ?_)
          · exact absurd h5 (by omega)
          · refine pm_Fv.go 2 (f' := (120, 59, [(0, _), (1, _), (2, _), (3, _)], [_, _])) rfl ?_
            refine pm_Fv.gf rfl rfl H2.m199 H2.o199 rfl ?_
            rw [show hq_u z 29 0 23 = z 23 from rfl]
            refine pm_Fv.sp rfl rfl ?_
            refine pm_Fv.jeq rfl (by omega) rfl (fun h6 => ?_) (fun h6 => ?_)
            · refine pm_Fv.go 3 (f' := (120, 89, [(0, _), (1, _), (2, _), (3, _)], [_, _, _])) rfl ?_
              refine pm_Fv.cvF rfl rfl rfl rfl (by decide) (Nat.le_of_ble_eq_true rfl) (Nat.le_of_ble_eq_true rfl) H2.m199 H2.o199 (ev_fo L xs H2) (fun s3 q3 => ?_)
              obtain ⟨H3, r3⟩ := q3
              refine pm_Fv.zeq rfl (by omega) rfl (fun h7 => ?_) (fun h7 => ?_)
              · exact absurd h7 (by omega)
              · refine pm_Fv.go 1 (f' := (120, 96, [(0, _), (1, _), (2, _), (3, _)], [_])) rfl ?_
                exact pm_Fv.rv rfl rfl ⟨rfl, H3, (r3.trans (r2.trans r1))⟩
            · exact absurd h6 (by omega)
        · exact absurd h4 (by omega)
  · exact absurd h1 (by omega)
theorem ev_minsert3b (H : Hp σ ad z ar lr) (h : mo_H z ar) {n : Int} {I D : Int → Int} (M : mo_R (mo_g ar) (z 23) n I D) {k t : Int} (hk : -2147483648 ≤ k ∧ k ≤ 2147483647) (ht : -2147483648 ≤ t ∧ t ≤ 2147483647) {r : Int} (u0 : -1 ≤ r) (u1 : r < n ∨ r = -1) (c : 0 ≤ k ∧ k ≤ fo_cc D n r) (d : 0 ≤ t ∧ t ≤ 999999) (e : z 23 < 400) (f : r ≠ -1) (g : D r = 12) : pm_Fv (tq_P L xs) (pm_enter 120 [.ref 199, .int (zI (fo_id I r)), .int (zI k), .int (zI t)]) σ (fun o s => o = .inl (some (.int (zI 0))) ∧ Hp s ad (hq_u z 29 3) ar lr ∧ s.2 = σ.2) := by
  show pm_Fv (tq_P L xs) (120, 0, [(0, .ref 199), (1, .int (zI (fo_id I r))), (2, .int (zI k)), (3, .int (zI t))], []) σ _
  have H0 : Hp σ ad (hq_u z 29 (z 29)) ar lr := by rw [hq_u_self]; exact H
  have hm : 0 ≤ z 23 ∧ z 23 ≤ 400 := ⟨M.m0, M.m4⟩
  have cc := fo_cc_r M.W u0 u1
  have nm := M.nm
  have idr := M.idr u0 u1
  have dd : 0 ≤ D r ∧ D r ≤ 12 := by
    by_cases q : r = -1
    · rw [q, M.W.1]
      omega
    · have := M.dp r (by omega) (by omega)
      have := fo_nonneg M.W u0 (by omega)
      omega
  refine pm_Fv.go 3 (f' := (120, 3, [(0, _), (1, _), (2, _), (3, _)], [_, _, _])) rfl ?_
  refine pm_Fv.cv rfl rfl rfl rfl (by decide) (Nat.le_of_ble_eq_true rfl) (Nat.le_of_ble_eq_true rfl) H0.m199 H0.o199 (ev_isP L xs H0 h.l0 M u0 u1) ?_
  refine pm_Fv.zne rfl (by omega) rfl (fun h1 => ?_) (fun h1 => ?_)
  · refine pm_Fv.go 2 (f' := (120, 15, [(0, _), (1, _), (2, _), (3, _)], [_, _, _])) rfl ?_
    refine pm_Fv.cvF rfl rfl rfl rfl (by decide) (Nat.le_of_ble_eq_true rfl) (Nat.le_of_ble_eq_true rfl) H0.m199 H0.o199 (ev_fz L xs H0) (fun s1 q1 => ?_)
    obtain ⟨H1, r1⟩ := q1
    refine pm_Fv.zne rfl (by omega) rfl (fun h2 => ?_) (fun h2 => ?_)
    · exact absurd h2 (by omega)
    · refine pm_Fv.go 5 (f' := (120, 26, [(0, _), (1, _), (2, _), (3, _)], [_, _, _, _, _])) rfl ?_
      refine pm_Fv.cv rfl rfl rfl rfl (by decide) (Nat.le_of_ble_eq_true rfl) (Nat.le_of_ble_eq_true rfl) H1.m199 H1.o199 (ev_kids L xs H1 h.l0 M u0 u1) ?_
      refine pm_Fv.call rfl rfl rfl rfl rfl (ev_w1 L xs (by omega) c) ?_
      refine pm_Fv.zeq rfl (by omega) rfl (fun h3 => ?_) (fun h3 => ?_)
      · exact absurd h3 (by omega)
      · refine pm_Fv.go 2 (f' := (120, 37, [(0, _), (1, _), (2, _), (3, _)], [_, _, _])) rfl ?_
        refine pm_Fv.cc1 (999999) rfl rfl rfl ?_
        refine pm_Fv.call rfl rfl rfl rfl rfl (ev_w1 L xs (by omega) d) ?_
        refine pm_Fv.zne rfl (by omega) rfl (fun h4 => ?_) (fun h4 => ?_)
        · refine pm_Fv.go 2 (f' := (120, 51, [(0, _), (1, _), (2, _), (3, _)], [_, _, _])) rfl ?_
          refine pm_Fv.cvF rfl rfl rfl rfl (by decide) (Nat.le_of_ble_eq_true rfl) (Nat.le_of_ble_eq_true rfl) H1.m199 H1.o199 (ev_fz L xs H1) (fun s2 q2 => ?_)
          obtain ⟨H2, r2⟩ := q2
          refine pm_Fv.zne rfl (by omega) rfl (fun h5 => ?_) (fun h5 => ?_)
          · exact absurd h5 (by omega)
          · refine pm_Fv.go 2 (f' := (120, 59, [(0, _), (1, _), (2, _), (3, _)], [_, _])) rfl ?_
            refine pm_Fv.gf rfl rfl H2.m199 H2.o199 rfl ?_
            rw [show hq_u z 29 0 23 = z 23 from rfl]
            refine pm_Fv.sp rfl rfl ?_
            refine pm_Fv.jeq rfl (by omega) rfl (fun h6 => ?_) (fun h6 => ?_)
            · exact absurd h6 (by omega)
            · refine pm_Fv.go 2 (f' := (120, 70, [(0, _), (1, _), (2, _), (3, _)], [_, _, _])) rfl ?_
              refine pm_Fv.jeq rfl (by omega) rfl (fun h7 => ?_) (fun h7 => ?_)
              · exact absurd h7 (by omega)
              · refine pm_Fv.go 2 (f' := (120, 75, [(0, _), (1, _), (2, _), (3, _)], [_, _, _])) rfl ?_
                refine pm_Fv.cv rfl rfl rfl rfl (by decide) (Nat.le_of_ble_eq_true rfl) (Nat.le_of_ble_eq_true rfl) H2.m199 H2.o199 (ev_depth L xs H2 h.l0 M u0 u1) ?_
                refine pm_Fv.bp rfl rfl ?_
                refine pm_Fv.jne rfl (by omega) rfl (fun h8 => ?_) (fun h8 => ?_)
                · exact absurd h8 (by omega)
                · refine pm_Fv.go 3 (f' := (120, 89, [(0, _), (1, _), (2, _), (3, _)], [_, _, _])) rfl ?_
                  refine pm_Fv.cvF rfl rfl rfl rfl (by decide) (Nat.le_of_ble_eq_true rfl) (Nat.le_of_ble_eq_true rfl) H2.m199 H2.o199 (ev_fo L xs H2) (fun s3 q3 => ?_)
                  obtain ⟨H3, r3⟩ := q3
                  refine pm_Fv.zeq rfl (by omega) rfl (fun h9 => ?_) (fun h9 => ?_)
                  · exact absurd h9 (by omega)
                  · refine pm_Fv.go 1 (f' := (120, 96, [(0, _), (1, _), (2, _), (3, _)], [_])) rfl ?_
                    exact pm_Fv.rv rfl rfl ⟨rfl, H3, (r3.trans (r2.trans r1))⟩
        · exact absurd h4 (by omega)
  · exact absurd h1 (by omega)
theorem ev_minsert0a (H : Hp σ ad z ar lr) (h : mo_H z ar) {n : Int} {I D : Int → Int} (M : mo_R (mo_g ar) (z 23) n I D) {k t : Int} (hk : -2147483648 ≤ k ∧ k ≤ 2147483647) (ht : -2147483648 ≤ t ∧ t ≤ 2147483647) {r : Int} (u0 : -1 ≤ r) (u1 : r < n ∨ r = -1) (c : 0 ≤ k ∧ k ≤ fo_cc D n r) (d : 0 ≤ t ∧ t ≤ 999999) (S : ∀ e, mo_g ar e 0 = 1 → -1000 ≤ mo_g ar e 2 ∧ mo_g ar e 2 ≤ 1000) (e : z 23 < 400) (f : r = -1) : pm_Fv (tq_P L xs) (pm_enter 120 [.ref 199, .int (zI (fo_id I r)), .int (zI k), .int (zI t)]) σ (fun o s => o = .inl (some (.int (zI (z 23)))) ∧ (∃ z' ar', mo_ed (hq_u (hq_u z 29 0) 23 (z 23 + 1)) ar (mo_in (mo_g ar) (z 23) (fo_id I r) k t) z' ar' ∧ Hp s ad z' ar' lr) ∧ s.2 = σ.2) := by
  show pm_Fv (tq_P L xs) (120, 0, [(0, .ref 199), (1, .int (zI (fo_id I r))), (2, .int (zI k)), (3, .int (zI t))], []) σ _
  have H0 : Hp σ ad (hq_u z 29 (z 29)) ar lr := by rw [hq_u_self]; exact H
  have hm : 0 ≤ z 23 ∧ z 23 ≤ 400 := ⟨M.m0, M.m4⟩
  have cc := fo_cc_r M.W u0 u1
  have nm := M.nm
  have idr := M.idr u0 u1
  have dd : 0 ≤ D r ∧ D r ≤ 12 := by
    by_cases q : r = -1
    · rw [q, M.W.1]
      omega
    · have := M.dp r (by omega) (by omega)
      have := fo_nonneg M.W u0 (by omega)
      omega
  refine pm_Fv.go 3 (f' := (120, 3, [(0, _), (1, _), (2, _), (3, _)], [_, _, _])) rfl ?_
  refine pm_Fv.cv rfl rfl rfl rfl (by decide) (Nat.le_of_ble_eq_true rfl) (Nat.le_of_ble_eq_true rfl) H0.m199 H0.o199 (ev_isP L xs H0 h.l0 M u0 u1) ?_
  refine pm_Fv.zne rfl (by omega) rfl (fun h1 => ?_) (fun h1 => ?_)
  · refine pm_Fv.go 2 (f' := (120, 15, [(0, _), (1, _), (2, _), (3, _)], [_, _, _])) rfl ?_
    refine pm_Fv.cvF rfl rfl rfl rfl (by decide) (Nat.le_of_ble_eq_true rfl) (Nat.le_of_ble_eq_true rfl) H0.m199 H0.o199 (ev_fz L xs H0) (fun s1 q1 => ?_)
    obtain ⟨H1, r1⟩ := q1
    refine pm_Fv.zne rfl (by omega) rfl (fun h2 => ?_) (fun h2 => ?_)
    · exact absurd h2 (by omega)
    · refine pm_Fv.go 5 (f' := (120, 26, [(0, _), (1, _), (2, _), (3, _)], [_, _, _, _, _])) rfl ?_
      refine pm_Fv.cv rfl rfl rfl rfl (by decide) (Nat.le_of_ble_eq_true rfl) (Nat.le_of_ble_eq_true rfl) H1.m199 H1.o199 (ev_kids L xs H1 h.l0 M u0 u1) ?_
      refine pm_Fv.call rfl rfl rfl rfl rfl (ev_w1 L xs (by omega) c) ?_
      refine pm_Fv.zeq rfl (by omega) rfl (fun h3 => ?_) (fun h3 => ?_)
      · exact absurd h3 (by omega)
      · refine pm_Fv.go 2 (f' := (120, 37, [(0, _), (1, _), (2, _), (3, _)], [_, _, _])) rfl ?_
        refine pm_Fv.cc1 (999999) rfl rfl rfl ?_
        refine pm_Fv.call rfl rfl rfl rfl rfl (ev_w1 L xs (by omega) d) ?_
        refine pm_Fv.zne rfl (by omega) rfl (fun h4 => ?_) (fun h4 => ?_)
        · refine pm_Fv.go 2 (f' := (120, 51, [(0, _), (1, _), (2, _), (3, _)], [_, _, _])) rfl ?_
          refine pm_Fv.cvF rfl rfl rfl rfl (by decide) (Nat.le_of_ble_eq_true rfl) (Nat.le_of_ble_eq_true rfl) H1.m199 H1.o199 (ev_fz L xs H1) (fun s2 q2 => ?_)
          obtain ⟨H2, r2⟩ := q2
          refine pm_Fv.zne rfl (by omega) rfl (fun h5 => ?_) (fun h5 => ?_)
          · exact absurd h5 (by omega)
          · refine pm_Fv.go 2 (f' := (120, 59, [(0, _), (1, _), (2, _), (3, _)], [_, _])) rfl ?_
            refine pm_Fv.gf rfl rfl H2.m199 H2.o199 rfl ?_
            rw [show hq_u z 29 0 23 = z 23 from rfl]
            refine pm_Fv.sp rfl rfl ?_
            refine pm_Fv.jeq rfl (by omega) rfl (fun h6 => ?_) (fun h6 => ?_)
            · exact absurd h6 (by omega)
            · refine pm_Fv.go 2 (f' := (120, 70, [(0, _), (1, _), (2, _), (3, _)], [_, _, _])) rfl ?_
              refine pm_Fv.jeq rfl (by omega) rfl (fun h7 => ?_) (fun h7 => ?_)
              · refine pm_Fv.go 2 (f' := (120, 89, [(0, _), (1, _), (2, _), (3, _)], [_, _, _])) rfl ?_
                refine pm_Fv.cvF rfl rfl rfl rfl (by decide) (Nat.le_of_ble_eq_true rfl) (Nat.le_of_ble_eq_true rfl) H2.m199 H2.o199 (ev_fz L xs H2) (fun s3 q3 => ?_)
                obtain ⟨H3, r3⟩ := q3
                refine pm_Fv.zeq rfl (by omega) rfl (fun h8 => ?_) (fun h8 => ?_)
                · exact (ev_minsT L xs H3 h (show 0 ≤ z 23 ∧ z 23 < 400 by omega) S (by omega) hk).mono (fun o s q => ⟨q.1, q.2.1, q.2.2.trans (r3.trans (r2.trans r1))⟩)
                · exact absurd h8 (by omega)
              · exact absurd h7 (by omega)
        · exact absurd h4 (by omega)
  · exact absurd h1 (by omega)
theorem ev_minsert0b (H : Hp σ ad z ar lr) (h : mo_H z ar) {n : Int} {I D : Int → Int} (M : mo_R (mo_g ar) (z 23) n I D) {k t : Int} (hk : -2147483648 ≤ k ∧ k ≤ 2147483647) (ht : -2147483648 ≤ t ∧ t ≤ 2147483647) {r : Int} (u0 : -1 ≤ r) (u1 : r < n ∨ r = -1) (c : 0 ≤ k ∧ k ≤ fo_cc D n r) (d : 0 ≤ t ∧ t ≤ 999999) (S : ∀ e, mo_g ar e 0 = 1 → -1000 ≤ mo_g ar e 2 ∧ mo_g ar e 2 ≤ 1000) (e : z 23 < 400) (f : r ≠ -1) (g : D r < 12) : pm_Fv (tq_P L xs) (pm_enter 120 [.ref 199, .int (zI (fo_id I r)), .int (zI k), .int (zI t)]) σ (fun o s => o = .inl (some (.int (zI (z 23)))) ∧ (∃ z' ar', mo_ed (hq_u (hq_u z 29 0) 23 (z 23 + 1)) ar (mo_in (mo_g ar) (z 23) (fo_id I r) k t) z' ar' ∧ Hp s ad z' ar' lr) ∧ s.2 = σ.2) := by
  show pm_Fv (tq_P L xs) (120, 0, [(0, .ref 199), (1, .int (zI (fo_id I r))), (2, .int (zI k)), (3, .int (zI t))], []) σ _
  have H0 : Hp σ ad (hq_u z 29 (z 29)) ar lr := by rw [hq_u_self]; exact H
  have hm : 0 ≤ z 23 ∧ z 23 ≤ 400 := ⟨M.m0, M.m4⟩
  have cc := fo_cc_r M.W u0 u1
  have nm := M.nm
  have idr := M.idr u0 u1
  have dd : 0 ≤ D r ∧ D r ≤ 12 := by
    by_cases q : r = -1
    · rw [q, M.W.1]
      omega
    · have := M.dp r (by omega) (by omega)
      have := fo_nonneg M.W u0 (by omega)
      omega
  refine pm_Fv.go 3 (f' := (120, 3, [(0, _), (1, _), (2, _), (3, _)], [_, _, _])) rfl ?_
  refine pm_Fv.cv rfl rfl rfl rfl (by decide) (Nat.le_of_ble_eq_true rfl) (Nat.le_of_ble_eq_true rfl) H0.m199 H0.o199 (ev_isP L xs H0 h.l0 M u0 u1) ?_
  refine pm_Fv.zne rfl (by omega) rfl (fun h1 => ?_) (fun h1 => ?_)
  · refine pm_Fv.go 2 (f' := (120, 15, [(0, _), (1, _), (2, _), (3, _)], [_, _, _])) rfl ?_
    refine pm_Fv.cvF rfl rfl rfl rfl (by decide) (Nat.le_of_ble_eq_true rfl) (Nat.le_of_ble_eq_true rfl) H0.m199 H0.o199 (ev_fz L xs H0) (fun s1 q1 => ?_)
    obtain ⟨H1, r1⟩ := q1
    refine pm_Fv.zne rfl (by omega) rfl (fun h2 => ?_) (fun h2 => ?_)
    · exact absurd h2 (by omega)
    · refine pm_Fv.go 5 (f' := (120, 26, [(0, _), (1, _), (2, _), (3, _)], [_, _, _, _, _])) rfl ?_
      refine pm_Fv.cv rfl rfl rfl rfl (by decide) (Nat.le_of_ble_eq_true rfl) (Nat.le_of_ble_eq_true rfl) H1.m199 H1.o199 (ev_kids L xs H1 h.l0 M u0 u1) ?_
      refine pm_Fv.call rfl rfl rfl rfl rfl (ev_w1 L xs (by omega) c) ?_
      refine pm_Fv.zeq rfl (by omega) rfl (fun h3 => ?_) (fun h3 => ?_)
      · exact absurd h3 (by omega)
      · refine pm_Fv.go 2 (f' := (120, 37, [(0, _), (1, _), (2, _), (3, _)], [_, _, _])) rfl ?_
        refine pm_Fv.cc1 (999999) rfl rfl rfl ?_
        refine pm_Fv.call rfl rfl rfl rfl rfl (ev_w1 L xs (by omega) d) ?_
        refine pm_Fv.zne rfl (by omega) rfl (fun h4 => ?_) (fun h4 => ?_)
        · refine pm_Fv.go 2 (f' := (120, 51, [(0, _), (1, _), (2, _), (3, _)], [_, _, _])) rfl ?_
          refine pm_Fv.cvF rfl rfl rfl rfl (by decide) (Nat.le_of_ble_eq_true rfl) (Nat.le_of_ble_eq_true rfl) H1.m199 H1.o199 (ev_fz L xs H1) (fun s2 q2 => ?_)
          obtain ⟨H2, r2⟩ := q2
          refine pm_Fv.zne rfl (by omega) rfl (fun h5 => ?_) (fun h5 => ?_)
          · exact absurd h5 (by omega)
          · refine pm_Fv.go 2 (f' := (120, 59, [(0, _), (1, _), (2, _), (3, _)], [_, _])) rfl ?_
            refine pm_Fv.gf rfl rfl H2.m199 H2.o199 rfl ?_
            rw [show hq_u z 29 0 23 = z 23 from rfl]
            refine pm_Fv.sp rfl rfl ?_
            refine pm_Fv.jeq rfl (by omega) rfl (fun h6 => ?_) (fun h6 => ?_)
            · exact absurd h6 (by omega)
            · refine pm_Fv.go 2 (f' := (120, 70, [(0, _), (1, _), (2, _), (3, _)], [_, _, _])) rfl ?_
              refine pm_Fv.jeq rfl (by omega) rfl (fun h7 => ?_) (fun h7 => ?_)
              · exact absurd h7 (by omega)
              · refine pm_Fv.go 2 (f' := (120, 75, [(0, _), (1, _), (2, _), (3, _)], [_, _, _])) rfl ?_
                refine pm_Fv.cv rfl rfl rfl rfl (by decide) (Nat.le_of_ble_eq_true rfl) (Nat.le_of_ble_eq_true rfl) H2.m199 H2.o199 (ev_depth L xs H2 h.l0 M u0 u1) ?_
                refine pm_Fv.bp rfl rfl ?_
                refine pm_Fv.jne rfl (by omega) rfl (fun h8 => ?_) (fun h8 => ?_)
                · refine pm_Fv.go 2 (f' := (120, 89, [(0, _), (1, _), (2, _), (3, _)], [_, _, _])) rfl ?_
                  refine pm_Fv.cvF rfl rfl rfl rfl (by decide) (Nat.le_of_ble_eq_true rfl) (Nat.le_of_ble_eq_true rfl) H2.m199 H2.o199 (ev_fz L xs H2) (fun s3 q3 => ?_)
                  obtain ⟨H3, r3⟩ := q3
                  refine pm_Fv.zeq rfl (by omega) rfl (fun h9 => ?_) (fun h9 => ?_)
                  · exact (ev_minsT L xs H3 h (show 0 ≤ z 23 ∧ z 23 < 400 by omega) S (by omega) hk).mono (fun o s q => ⟨q.1, q.2.1, q.2.2.trans (r3.trans (r2.trans r1))⟩)
                  · exact absurd h9 (by omega)
                · exact absurd h8 (by omega)
        · exact absurd h4 (by omega)
  · exact absurd h1 (by omega)
theorem ev_mremove1 (H : Hp σ ad z ar lr) (h : mo_H z ar) {n : Int} {I D : Int → Int} (M : mo_R (mo_g ar) (z 23) n I D) {p : Int} (hp : -2147483648 ≤ p ∧ p ≤ 2147483647) (n2 : ∀ x, 0 ≤ x → x < n → I x ≠ p) : pm_Fv (tq_P L xs) (pm_enter 122 [.ref 199, .int (zI p)]) σ (fun o s => o = .inl (some (.int (zI 0))) ∧ Hp s ad (hq_u z 29 1) ar lr ∧ s.2 = σ.2) := by
  show pm_Fv (tq_P L xs) (122, 0, [(0, .ref 199), (1, .int (zI p))], []) σ _
  have H0 : Hp σ ad (hq_u z 29 (z 29)) ar lr := by rw [hq_u_self]; exact H
  have hm : 0 ≤ z 23 ∧ z 23 ≤ 400 := ⟨M.m0, M.m4⟩
  refine pm_Fv.go 3 (f' := (122, 3, [(0, _), (1, _)], [_, _, _])) rfl ?_
  refine pm_Fv.cv rfl rfl rfl rfl (by decide) (Nat.le_of_ble_eq_true rfl) (Nat.le_of_ble_eq_true rfl) H0.m199 H0.o199 (ev_noT L xs H0 h.l0 M hp n2) ?_
  refine pm_Fv.zne rfl (by omega) rfl (fun h1 => ?_) (fun h1 => ?_)
  · exact absurd h1 (by omega)
  · refine pm_Fv.go 3 (f' := (122, 15, [(0, _), (1, _)], [_, _, _])) rfl ?_
    refine pm_Fv.cvF rfl rfl rfl rfl (by decide) (Nat.le_of_ble_eq_true rfl) (Nat.le_of_ble_eq_true rfl) H0.m199 H0.o199 (ev_fo L xs H0) (fun s1 q1 => ?_)
    obtain ⟨H1, r1⟩ := q1
    refine pm_Fv.zeq rfl (by omega) rfl (fun h2 => ?_) (fun h2 => ?_)
    · exact absurd h2 (by omega)
    · refine pm_Fv.go 1 (f' := (122, 22, [(0, _), (1, _)], [_])) rfl ?_
      exact pm_Fv.rv rfl rfl ⟨rfl, H1, r1⟩
theorem ev_mpromote1 (H : Hp σ ad z ar lr) (h : mo_H z ar) {n : Int} {I D : Int → Int} (M : mo_R (mo_g ar) (z 23) n I D) {p : Int} (hp : -2147483648 ≤ p ∧ p ≤ 2147483647) (n2 : ∀ x, 0 ≤ x → x < n → I x ≠ p) : pm_Fv (tq_P L xs) (pm_enter 125 [.ref 199, .int (zI p)]) σ (fun o s => o = .inl none ∧ Hp s ad (hq_u z 29 1) ar lr ∧ s.2 = σ.2) := by
  show pm_Fv (tq_P L xs) (125, 0, [(0, .ref 199), (1, .int (zI p))], []) σ _
  have H0 : Hp σ ad (hq_u z 29 (z 29)) ar lr := by rw [hq_u_self]; exact H
  have hm : 0 ≤ z 23 ∧ z 23 ≤ 400 := ⟨M.m0, M.m4⟩
  refine pm_Fv.go 3 (f' := (125, 3, [(0, _), (1, _)], [_, _, _])) rfl ?_
  refine pm_Fv.cv rfl rfl rfl rfl (by decide) (Nat.le_of_ble_eq_true rfl) (Nat.le_of_ble_eq_true rfl) H0.m199 H0.o199 (ev_noT L xs H0 h.l0 M hp n2) ?_
  refine pm_Fv.zne rfl (by omega) rfl (fun h1 => ?_) (fun h1 => ?_)
  · exact absurd h1 (by omega)
  · refine pm_Fv.go 3 (f' := (125, 15, [(0, _), (1, _)], [_, _, _])) rfl ?_
    refine pm_Fv.cvF rfl rfl rfl rfl (by decide) (Nat.le_of_ble_eq_true rfl) (Nat.le_of_ble_eq_true rfl) H0.m199 H0.o199 (ev_fo L xs H0) (fun s1 q1 => ?_)
    obtain ⟨H1, r1⟩ := q1
    refine pm_Fv.zne rfl (by omega) rfl (fun h2 => ?_) (fun h2 => ?_)
    · exact pm_Fv.ret rfl rfl rfl rfl ⟨rfl, H1, r1⟩
    · exact absurd h2 (by omega)
theorem ev_mpromote2 (H : Hp σ ad z ar lr) (h : mo_H z ar) {n : Int} {I D : Int → Int} (M : mo_R (mo_g ar) (z 23) n I D) {b : Int} (b0 : 0 ≤ b) (b1 : b < n) (c : fo_par D b = -1) : pm_Fv (tq_P L xs) (pm_enter 125 [.ref 199, .int (zI (I b))]) σ (fun o s => o = .inl none ∧ Hp s ad (hq_u z 29 2) ar lr ∧ s.2 = σ.2) := by
  show pm_Fv (tq_P L xs) (125, 0, [(0, .ref 199), (1, .int (zI (I b)))], []) σ _
  have H0 : Hp σ ad (hq_u z 29 (z 29)) ar lr := by rw [hq_u_self]; exact H
  have hm : 0 ≤ z 23 ∧ z 23 ≤ 400 := ⟨M.m0, M.m4⟩
  have i0 := M.J.1 b b0 b1
  have i1 := M.lt b b0 b1
  have P := fo_par_P M.W b0 b1
  have p1 := P.2.1
  have p0 := P.1
  have gp := (M.R b b0 b1).1
  have pr := M.idr p0 (by omega)
  refine pm_Fv.go 3 (f' := (125, 3, [(0, _), (1, _)], [_, _, _])) rfl ?_
  refine pm_Fv.cv rfl rfl rfl rfl (by decide) (Nat.le_of_ble_eq_true rfl) (Nat.le_of_ble_eq_true rfl) H0.m199 H0.o199 (ev_isT L xs H0 h.l0 M b0 b1) ?_
  refine pm_Fv.zne rfl (by omega) rfl (fun h1 => ?_) (fun h1 => ?_)
  · refine pm_Fv.go 2 (f' := (125, 15, [(0, _), (1, _)], [_, _, _])) rfl ?_
    refine pm_Fv.cvF rfl rfl rfl rfl (by decide) (Nat.le_of_ble_eq_true rfl) (Nat.le_of_ble_eq_true rfl) H0.m199 H0.o199 (ev_fz L xs H0) (fun s1 q1 => ?_)
    obtain ⟨H1, r1⟩ := q1
    refine pm_Fv.zne rfl (by omega) rfl (fun h2 => ?_) (fun h2 => ?_)
    · exact absurd h2 (by omega)
    · refine pm_Fv.go 4 (f' := (125, 25, [(0, _), (1, _)], [_, _, _, _])) rfl ?_
      refine pm_Fv.cv rfl rfl rfl rfl (by decide) (Nat.le_of_ble_eq_true rfl) (Nat.le_of_ble_eq_true rfl) H1.m199 H1.o199 (ev_g L xs H1 h.l0 (by omega)) ?_
      rw [gp]
      refine pm_Fv.go 1 (f' := (125, 29, [(0, _), (1, _)], [_, _, _])) rfl ?_
      refine pm_Fv.jne rfl (by omega) rfl (fun h3 => ?_) (fun h3 => ?_)
      · exact absurd h3 (by omega)
      · refine pm_Fv.go 3 (f' := (125, 38, [(0, _), (1, _)], [_, _, _])) rfl ?_
        refine pm_Fv.cvF rfl rfl rfl rfl (by decide) (Nat.le_of_ble_eq_true rfl) (Nat.le_of_ble_eq_true rfl) H1.m199 H1.o199 (ev_fo L xs H1) (fun s2 q2 => ?_)
        obtain ⟨H2, r2⟩ := q2
        refine pm_Fv.zeq rfl (by omega) rfl (fun h4 => ?_) (fun h4 => ?_)
        · exact absurd h4 (by omega)
        · exact pm_Fv.ret rfl rfl rfl rfl ⟨rfl, H2, (r2.trans r1)⟩
  · exact absurd h1 (by omega)
theorem ev_mpromote0 (H : Hp σ ad z ar lr) (h : mo_H z ar) {n : Int} {I D : Int → Int} (M : mo_R (mo_g ar) (z 23) n I D) {b : Int} (b0 : 0 ≤ b) (b1 : b < n) (S : ∀ e, mo_g ar e 0 = 1 → -1000 ≤ mo_g ar e 2 ∧ mo_g ar e 2 ≤ 1000) (c : fo_par D b ≠ -1) : pm_Fv (tq_P L xs) (pm_enter 125 [.ref 199, .int (zI (I b))]) σ (fun o s => o = .inl none ∧ (∃ z' ar', mo_ed (hq_u z 29 0) ar (mo_cy (mo_g ar) (z 23) (I b) (fo_id I (fo_par D (fo_par D b))) (mo_g ar (fo_id I (fo_par D b)) 2 + 1)) z' ar' ∧ Hp s ad z' ar' lr) ∧ s.2 = σ.2) := by
  show pm_Fv (tq_P L xs) (125, 0, [(0, .ref 199), (1, .int (zI (I b)))], []) σ _
  have H0 : Hp σ ad (hq_u z 29 (z 29)) ar lr := by rw [hq_u_self]; exact H
  have hm : 0 ≤ z 23 ∧ z 23 ≤ 400 := ⟨M.m0, M.m4⟩
  have i0 := M.J.1 b b0 b1
  have i1 := M.lt b b0 b1
  have P := fo_par_P M.W b0 b1
  have p1 := P.2.1
  have p0 := P.1
  have gp := (M.R b b0 b1).1
  have pr := M.idr p0 (by omega)
  have Pp := fo_par_P M.W (p := fo_par D b) (by omega) (by omega)
  have q1 := Pp.2.1
  have q0 := Pp.1
  have gq := M.gp (ar := ar) (z := z) (x := fo_par D b) (by omega) (by omega)
  have qr := M.idr q0 (by omega)
  have pl := M.pl (ar := ar) (z := z) (p := fo_par D b) (by omega) (by omega)
  have p2 := M.pl (ar := ar) (z := z) b0 b1
  rw [← fo_id_at (I := I) (x := fo_par D b) (by omega)] at pl
  refine pm_Fv.go 3 (f' := (125, 3, [(0, _), (1, _)], [_, _, _])) rfl ?_
  refine pm_Fv.cv rfl rfl rfl rfl (by decide) (Nat.le_of_ble_eq_true rfl) (Nat.le_of_ble_eq_true rfl) H0.m199 H0.o199 (ev_isT L xs H0 h.l0 M b0 b1) ?_
  refine pm_Fv.zne rfl (by omega) rfl (fun h1 => ?_) (fun h1 => ?_)
  · refine pm_Fv.go 2 (f' := (125, 15, [(0, _), (1, _)], [_, _, _])) rfl ?_
    refine pm_Fv.cvF rfl rfl rfl rfl (by decide) (Nat.le_of_ble_eq_true rfl) (Nat.le_of_ble_eq_true rfl) H0.m199 H0.o199 (ev_fz L xs H0) (fun s1 q1 => ?_)
    obtain ⟨H1, r1⟩ := q1
    refine pm_Fv.zne rfl (by omega) rfl (fun h2 => ?_) (fun h2 => ?_)
    · exact absurd h2 (by omega)
    · refine pm_Fv.go 4 (f' := (125, 25, [(0, _), (1, _)], [_, _, _, _])) rfl ?_
      refine pm_Fv.cv rfl rfl rfl rfl (by decide) (Nat.le_of_ble_eq_true rfl) (Nat.le_of_ble_eq_true rfl) H1.m199 H1.o199 (ev_g L xs H1 h.l0 (by omega)) ?_
      rw [gp]
      refine pm_Fv.go 1 (f' := (125, 29, [(0, _), (1, _)], [_, _, _])) rfl ?_
      refine pm_Fv.jne rfl (by omega) rfl (fun h3 => ?_) (fun h3 => ?_)
      · refine pm_Fv.go 2 (f' := (125, 38, [(0, _), (1, _)], [_, _, _])) rfl ?_
        refine pm_Fv.cvF rfl rfl rfl rfl (by decide) (Nat.le_of_ble_eq_true rfl) (Nat.le_of_ble_eq_true rfl) H1.m199 H1.o199 (ev_fz L xs H1) (fun s2 q2 => ?_)
        obtain ⟨H2, r2⟩ := q2
        refine pm_Fv.zeq rfl (by omega) rfl (fun h4 => ?_) (fun h4 => ?_)
        · refine pm_Fv.go 3 (f' := (125, 48, [(0, _), (1, _)], [_, _, _])) rfl ?_
          refine pm_Fv.cv rfl rfl rfl rfl (by decide) (Nat.le_of_ble_eq_true rfl) (Nat.le_of_ble_eq_true rfl) H2.m199 H2.o199 (ev_g L xs H2 h.l0 (by omega)) ?_
          rw [gp]
          refine pm_Fv.go 6 (f' := (125, 57, [(2, _), (0, _), (1, _)], [_, _, _, _, _])) rfl ?_
          refine pm_Fv.cv rfl rfl rfl rfl (by decide) (Nat.le_of_ble_eq_true rfl) (Nat.le_of_ble_eq_true rfl) H2.m199 H2.o199 (ev_g L xs H2 h.l0 (by omega)) ?_
          rw [gq]
          refine pm_Fv.go 3 (f' := (125, 63, [(2, _), (0, _), (1, _)], [_, _, _, _, _, _])) rfl ?_
          refine pm_Fv.cv rfl rfl rfl rfl (by decide) (Nat.le_of_ble_eq_true rfl) (Nat.le_of_ble_eq_true rfl) H2.m199 H2.o199 (ev_g L xs H2 h.l0 (by omega)) ?_
          refine pm_Fv.go 1 (f' := (125, 67, [(2, _), (0, _), (1, _)], [_, _, _, _, _])) rfl ?_
          refine pm_Fv.iadd rfl ?_
          refine pm_Fv.cvF rfl rfl rfl rfl (by decide) (Nat.le_of_ble_eq_true rfl) (Nat.le_of_ble_eq_true rfl) H2.m199 H2.o199 (ev_mcarry L xs H2 h hm S (by omega) (by omega) (by omega) (by omega)) (fun s3 q3 => ?_)
          obtain ⟨H3, r3⟩ := q3
          exact pm_Fv.ret rfl rfl rfl rfl ⟨rfl, H3, (r3.trans (r2.trans r1))⟩
        · exact absurd h4 (by omega)
      · exact absurd h3 (by omega)
  · exact absurd h1 (by omega)
theorem ev_mdemote1 (H : Hp σ ad z ar lr) (h : mo_H z ar) {n : Int} {I D : Int → Int} (M : mo_R (mo_g ar) (z 23) n I D) {p : Int} (hp : -2147483648 ≤ p ∧ p ≤ 2147483647) (n2 : ∀ x, 0 ≤ x → x < n → I x ≠ p) : pm_Fv (tq_P L xs) (pm_enter 126 [.ref 199, .int (zI p)]) σ (fun o s => o = .inl none ∧ Hp s ad (hq_u z 29 1) ar lr ∧ s.2 = σ.2) := by
  show pm_Fv (tq_P L xs) (126, 0, [(0, .ref 199), (1, .int (zI p))], []) σ _
  have H0 : Hp σ ad (hq_u z 29 (z 29)) ar lr := by rw [hq_u_self]; exact H
  have hm : 0 ≤ z 23 ∧ z 23 ≤ 400 := ⟨M.m0, M.m4⟩
  refine pm_Fv.go 3 (f' := (126, 3, [(0, _), (1, _)], [_, _, _])) rfl ?_
  refine pm_Fv.cv rfl rfl rfl rfl (by decide) (Nat.le_of_ble_eq_true rfl) (Nat.le_of_ble_eq_true rfl) H0.m199 H0.o199 (ev_noT L xs H0 h.l0 M hp n2) ?_
  refine pm_Fv.zne rfl (by omega) rfl (fun h1 => ?_) (fun h1 => ?_)
  · exact absurd h1 (by omega)
  · refine pm_Fv.go 3 (f' := (126, 15, [(0, _), (1, _)], [_, _, _])) rfl ?_
    refine pm_Fv.cvF rfl rfl rfl rfl (by decide) (Nat.le_of_ble_eq_true rfl) (Nat.le_of_ble_eq_true rfl) H0.m199 H0.o199 (ev_fo L xs H0) (fun s1 q1 => ?_)
    obtain ⟨H1, r1⟩ := q1
    refine pm_Fv.zne rfl (by omega) rfl (fun h2 => ?_) (fun h2 => ?_)
    · exact pm_Fv.ret rfl rfl rfl rfl ⟨rfl, H1, r1⟩
    · exact absurd h2 (by omega)
theorem ev_mdemote2 (H : Hp σ ad z ar lr) (h : mo_H z ar) {n : Int} {I D : Int → Int} (M : mo_R (mo_g ar) (z 23) n I D) {b : Int} (b0 : 0 ≤ b) (b1 : b < n) (c : fo_pl D b = 0) : pm_Fv (tq_P L xs) (pm_enter 126 [.ref 199, .int (zI (I b))]) σ (fun o s => o = .inl none ∧ Hp s ad (hq_u z 29 2) ar lr ∧ s.2 = σ.2) := by
  show pm_Fv (tq_P L xs) (126, 0, [(0, .ref 199), (1, .int (zI (I b)))], []) σ _
  have H0 : Hp σ ad (hq_u z 29 (z 29)) ar lr := by rw [hq_u_self]; exact H
  have hm : 0 ≤ z 23 ∧ z 23 ≤ 400 := ⟨M.m0, M.m4⟩
  have i0 := M.J.1 b b0 b1
  have i1 := M.lt b b0 b1
  have P := fo_par_P M.W b0 b1
  have p1 := P.2.1
  have p0 := P.1
  have gp := (M.R b b0 b1).1
  have pr := M.idr p0 (by omega)
  have pl := M.pl (ar := ar) (z := z) b0 b1
  have g2 := (M.R b b0 b1).2
  have g2r := mo_g_r ar (I b) 2
  refine pm_Fv.go 3 (f' := (126, 3, [(0, _), (1, _)], [_, _, _])) rfl ?_
  refine pm_Fv.cv rfl rfl rfl rfl (by decide) (Nat.le_of_ble_eq_true rfl) (Nat.le_of_ble_eq_true rfl) H0.m199 H0.o199 (ev_isT L xs H0 h.l0 M b0 b1) ?_
  refine pm_Fv.zne rfl (by omega) rfl (fun h1 => ?_) (fun h1 => ?_)
  · refine pm_Fv.go 2 (f' := (126, 15, [(0, _), (1, _)], [_, _, _])) rfl ?_
    refine pm_Fv.cvF rfl rfl rfl rfl (by decide) (Nat.le_of_ble_eq_true rfl) (Nat.le_of_ble_eq_true rfl) H0.m199 H0.o199 (ev_fz L xs H0) (fun s1 q1 => ?_)
    obtain ⟨H1, r1⟩ := q1
    refine pm_Fv.zne rfl (by omega) rfl (fun h2 => ?_) (fun h2 => ?_)
    · exact absurd h2 (by omega)
    · refine pm_Fv.go 4 (f' := (126, 25, [(0, _), (1, _)], [_, _, _, _])) rfl ?_
      refine pm_Fv.cv rfl rfl rfl rfl (by decide) (Nat.le_of_ble_eq_true rfl) (Nat.le_of_ble_eq_true rfl) H1.m199 H1.o199 (ev_g L xs H1 h.l0 (by omega)) ?_
      refine pm_Fv.zne rfl (by omega) rfl (fun h3 => ?_) (fun h3 => ?_)
      · exact absurd h3 (by omega)
      · refine pm_Fv.go 3 (f' := (126, 37, [(0, _), (1, _)], [_, _, _])) rfl ?_
        refine pm_Fv.cvF rfl rfl rfl rfl (by decide) (Nat.le_of_ble_eq_true rfl) (Nat.le_of_ble_eq_true rfl) H1.m199 H1.o199 (ev_fo L xs H1) (fun s2 q2 => ?_)
        obtain ⟨H2, r2⟩ := q2
        refine pm_Fv.zne rfl (by omega) rfl (fun h4 => ?_) (fun h4 => ?_)
        · exact pm_Fv.ret rfl rfl rfl rfl ⟨rfl, H2, (r2.trans r1)⟩
        · exact absurd h4 (by omega)
  · exact absurd h1 (by omega)
theorem ev_mdemote3 (H : Hp σ ad z ar lr) (h : mo_H z ar) {n : Int} {I D : Int → Int} (M : mo_R (mo_g ar) (z 23) n I D) {b : Int} (b0 : 0 ≤ b) (b1 : b < n) {v : Int} (hv : fo_hi D b (fo_end D n b) v) (c : fo_pl D b ≠ 0) (d : 12 < v + 1) : pm_Fv (tq_P L xs) (pm_enter 126 [.ref 199, .int (zI (I b))]) σ (fun o s => o = .inl none ∧ Hp s ad (hq_u z 29 3) ar lr ∧ s.2 = σ.2) := by
  show pm_Fv (tq_P L xs) (126, 0, [(0, .ref 199), (1, .int (zI (I b)))], []) σ _
  have H0 : Hp σ ad (hq_u z 29 (z 29)) ar lr := by rw [hq_u_self]; exact H
  have hm : 0 ≤ z 23 ∧ z 23 ≤ 400 := ⟨M.m0, M.m4⟩
  have i0 := M.J.1 b b0 b1
  have i1 := M.lt b b0 b1
  have P := fo_par_P M.W b0 b1
  have p1 := P.2.1
  have p0 := P.1
  have gp := (M.R b b0 b1).1
  have pr := M.idr p0 (by omega)
  have pl := M.pl (ar := ar) (z := z) b0 b1
  have g2 := (M.R b b0 b1).2
  have g2r := mo_g_r ar (I b) 2
  have hb := hv.1 b (by omega) (fo_end_B (D := D) b1).1
  have vv : v ≤ 12 := by
    obtain ⟨x, x0, x1, x2⟩ := hv.2
    have := M.dp x (by omega) (by have := (fo_end_B (D := D) b1).2.1; omega)
    omega
  have w0 := (M.W.2.2 b b0 b1).1
  refine pm_Fv.go 3 (f' := (126, 3, [(0, _), (1, _)], [_, _, _])) rfl ?_
  refine pm_Fv.cv rfl rfl rfl rfl (by decide) (Nat.le_of_ble_eq_true rfl) (Nat.le_of_ble_eq_true rfl) H0.m199 H0.o199 (ev_isT L xs H0 h.l0 M b0 b1) ?_
  refine pm_Fv.zne rfl (by omega) rfl (fun h1 => ?_) (fun h1 => ?_)
  · refine pm_Fv.go 2 (f' := (126, 15, [(0, _), (1, _)], [_, _, _])) rfl ?_
    refine pm_Fv.cvF rfl rfl rfl rfl (by decide) (Nat.le_of_ble_eq_true rfl) (Nat.le_of_ble_eq_true rfl) H0.m199 H0.o199 (ev_fz L xs H0) (fun s1 q1 => ?_)
    obtain ⟨H1, r1⟩ := q1
    refine pm_Fv.zne rfl (by omega) rfl (fun h2 => ?_) (fun h2 => ?_)
    · exact absurd h2 (by omega)
    · refine pm_Fv.go 4 (f' := (126, 25, [(0, _), (1, _)], [_, _, _, _])) rfl ?_
      refine pm_Fv.cv rfl rfl rfl rfl (by decide) (Nat.le_of_ble_eq_true rfl) (Nat.le_of_ble_eq_true rfl) H1.m199 H1.o199 (ev_g L xs H1 h.l0 (by omega)) ?_
      refine pm_Fv.zne rfl (by omega) rfl (fun h3 => ?_) (fun h3 => ?_)
      · refine pm_Fv.go 2 (f' := (126, 37, [(0, _), (1, _)], [_, _, _])) rfl ?_
        refine pm_Fv.cvF rfl rfl rfl rfl (by decide) (Nat.le_of_ble_eq_true rfl) (Nat.le_of_ble_eq_true rfl) H1.m199 H1.o199 (ev_fz L xs H1) (fun s2 q2 => ?_)
        obtain ⟨H2, r2⟩ := q2
        refine pm_Fv.zne rfl (by omega) rfl (fun h4 => ?_) (fun h4 => ?_)
        · exact absurd h4 (by omega)
        · refine pm_Fv.go 3 (f' := (126, 46, [(0, _), (1, _)], [_, _, _])) rfl ?_
          refine pm_Fv.cv rfl rfl rfl rfl (by decide) (Nat.le_of_ble_eq_true rfl) (Nat.le_of_ble_eq_true rfl) H2.m199 H2.o199 ((by have q := ev_depth L xs H2 h.l0 M (x := b) (by omega) (Or.inl b1); rw [fo_id_at b0] at q; exact q)) ?_
          refine pm_Fv.go 2 (f' := (126, 51, [(0, _), (1, _)], [_, _, _, _])) rfl ?_
          refine pm_Fv.cv rfl rfl rfl rfl (by decide) (Nat.le_of_ble_eq_true rfl) (Nat.le_of_ble_eq_true rfl) H2.m199 H2.o199 ((by have q := ev_height L xs H2 h.l0 M b0 b1 hv; rw [fo_id_at b0] at q; exact q)) ?_
          refine pm_Fv.iadd rfl ?_
          refine pm_Fv.bp rfl rfl ?_
          refine pm_Fv.jle rfl (by omega) rfl (fun h5 => ?_) (fun h5 => ?_)
          · exact absurd h5 (by omega)
          · refine pm_Fv.go 3 (f' := (126, 66, [(0, _), (1, _)], [_, _, _])) rfl ?_
            refine pm_Fv.cvF rfl rfl rfl rfl (by decide) (Nat.le_of_ble_eq_true rfl) (Nat.le_of_ble_eq_true rfl) H2.m199 H2.o199 (ev_fo L xs H2) (fun s3 q3 => ?_)
            obtain ⟨H3, r3⟩ := q3
            refine pm_Fv.zeq rfl (by omega) rfl (fun h6 => ?_) (fun h6 => ?_)
            · exact absurd h6 (by omega)
            · exact pm_Fv.ret rfl rfl rfl rfl ⟨rfl, H3, (r3.trans (r2.trans r1))⟩
      · exact absurd h3 (by omega)
  · exact absurd h1 (by omega)
theorem ev_mdemote0 (H : Hp σ ad z ar lr) (h : mo_H z ar) {n : Int} {I D : Int → Int} (M : mo_R (mo_g ar) (z 23) n I D) {b : Int} (b0 : 0 ≤ b) (b1 : b < n) (S : ∀ e, mo_g ar e 0 = 1 → -1000 ≤ mo_g ar e 2 ∧ mo_g ar e 2 ≤ 1000) {v : Int} (hv : fo_hi D b (fo_end D n b) v) {y : Int} (y0 : 0 ≤ y) (y1 : y < n) (yp : fo_par D y = fo_par D b) (yl : fo_pl D y = fo_pl D b - 1) (c : fo_pl D b ≠ 0) (d : v + 1 ≤ 12) : pm_Fv (tq_P L xs) (pm_enter 126 [.ref 199, .int (zI (I b))]) σ (fun o s => o = .inl none ∧ (∃ z' ar', mo_ed (hq_u z 29 0) ar (mo_cy (mo_g ar) (z 23) (I b) (I y) (fo_cc D n y)) z' ar' ∧ Hp s ad z' ar' lr) ∧ s.2 = σ.2) := by
  show pm_Fv (tq_P L xs) (126, 0, [(0, .ref 199), (1, .int (zI (I b)))], []) σ _
  have H0 : Hp σ ad (hq_u z 29 (z 29)) ar lr := by rw [hq_u_self]; exact H
  have hm : 0 ≤ z 23 ∧ z 23 ≤ 400 := ⟨M.m0, M.m4⟩
  have i0 := M.J.1 b b0 b1
  have i1 := M.lt b b0 b1
  have P := fo_par_P M.W b0 b1
  have p1 := P.2.1
  have p0 := P.1
  have gp := (M.R b b0 b1).1
  have pr := M.idr p0 (by omega)
  have pl := M.pl (ar := ar) (z := z) b0 b1
  have g2 := (M.R b b0 b1).2
  have g2r := mo_g_r ar (I b) 2
  have hb := hv.1 b (by omega) (fo_end_B (D := D) b1).1
  have vv : v ≤ 12 := by
    obtain ⟨x, x0, x1, x2⟩ := hv.2
    have := M.dp x (by omega) (by have := (fo_end_B (D := D) b1).2.1; omega)
    omega
  have w0 := (M.W.2.2 b b0 b1).1
  have yi := M.J.1 y y0 y1
  have yj := M.lt y y0 y1
  have cy := fo_cc_r M.W (r := y) (by omega) (Or.inl y1)
  have nm := M.nm
  refine pm_Fv.go 3 (f' := (126, 3, [(0, _), (1, _)], [_, _, _])) rfl ?_
  refine pm_Fv.cv rfl rfl rfl rfl (by decide) (Nat.le_of_ble_eq_true rfl) (Nat.le_of_ble_eq_true rfl) H0.m199 H0.o199 (ev_isT L xs H0 h.l0 M b0 b1) ?_
  refine pm_Fv.zne rfl (by omega) rfl (fun h1 => ?_) (fun h1 => ?_)
  · refine pm_Fv.go 2 (f' := (126, 15, [(0, _), (1, _)], [_, _, _])) rfl ?_
    refine pm_Fv.cvF rfl rfl rfl rfl (by decide) (Nat.le_of_ble_eq_true rfl) (Nat.le_of_ble_eq_true rfl) H0.m199 H0.o199 (ev_fz L xs H0) (fun s1 q1 => ?_)
    obtain ⟨H1, r1⟩ := q1
    refine pm_Fv.zne rfl (by omega) rfl (fun h2 => ?_) (fun h2 => ?_)
    · exact absurd h2 (by omega)
    · refine pm_Fv.go 4 (f' := (126, 25, [(0, _), (1, _)], [_, _, _, _])) rfl ?_
      refine pm_Fv.cv rfl rfl rfl rfl (by decide) (Nat.le_of_ble_eq_true rfl) (Nat.le_of_ble_eq_true rfl) H1.m199 H1.o199 (ev_g L xs H1 h.l0 (by omega)) ?_
      refine pm_Fv.zne rfl (by omega) rfl (fun h3 => ?_) (fun h3 => ?_)
      · refine pm_Fv.go 2 (f' := (126, 37, [(0, _), (1, _)], [_, _, _])) rfl ?_
        refine pm_Fv.cvF rfl rfl rfl rfl (by decide) (Nat.le_of_ble_eq_true rfl) (Nat.le_of_ble_eq_true rfl) H1.m199 H1.o199 (ev_fz L xs H1) (fun s2 q2 => ?_)
        obtain ⟨H2, r2⟩ := q2
        refine pm_Fv.zne rfl (by omega) rfl (fun h4 => ?_) (fun h4 => ?_)
        · exact absurd h4 (by omega)
        · refine pm_Fv.go 3 (f' := (126, 46, [(0, _), (1, _)], [_, _, _])) rfl ?_
          refine pm_Fv.cv rfl rfl rfl rfl (by decide) (Nat.le_of_ble_eq_true rfl) (Nat.le_of_ble_eq_true rfl) H2.m199 H2.o199 ((by have q := ev_depth L xs H2 h.l0 M (x := b) (by omega) (Or.inl b1); rw [fo_id_at b0] at q; exact q)) ?_
          refine pm_Fv.go 2 (f' := (126, 51, [(0, _), (1, _)], [_, _, _, _])) rfl ?_
          refine pm_Fv.cv rfl rfl rfl rfl (by decide) (Nat.le_of_ble_eq_true rfl) (Nat.le_of_ble_eq_true rfl) H2.m199 H2.o199 ((by have q := ev_height L xs H2 h.l0 M b0 b1 hv; rw [fo_id_at b0] at q; exact q)) ?_
          refine pm_Fv.iadd rfl ?_
          refine pm_Fv.bp rfl rfl ?_
          refine pm_Fv.jle rfl (by omega) rfl (fun h5 => ?_) (fun h5 => ?_)
          · refine pm_Fv.go 2 (f' := (126, 66, [(0, _), (1, _)], [_, _, _])) rfl ?_
            refine pm_Fv.cvF rfl rfl rfl rfl (by decide) (Nat.le_of_ble_eq_true rfl) (Nat.le_of_ble_eq_true rfl) H2.m199 H2.o199 (ev_fz L xs H2) (fun s3 q3 => ?_)
            obtain ⟨H3, r3⟩ := q3
            refine pm_Fv.zeq rfl (by omega) rfl (fun h6 => ?_) (fun h6 => ?_)
            · refine pm_Fv.go 4 (f' := (126, 77, [(0, _), (1, _)], [_, _, _, _])) rfl ?_
              refine pm_Fv.cv rfl rfl rfl rfl (by decide) (Nat.le_of_ble_eq_true rfl) (Nat.le_of_ble_eq_true rfl) H3.m199 H3.o199 (ev_g L xs H3 h.l0 (by omega)) ?_
              rw [gp]
              refine pm_Fv.go 3 (f' := (126, 83, [(0, _), (1, _)], [_, _, _, _, _])) rfl ?_
              refine pm_Fv.cv rfl rfl rfl rfl (by decide) (Nat.le_of_ble_eq_true rfl) (Nat.le_of_ble_eq_true rfl) H3.m199 H3.o199 (ev_g L xs H3 h.l0 (by omega)) ?_
              rw [g2]
              refine pm_Fv.go 1 (f' := (126, 87, [(0, _), (1, _)], [_, _, _, _])) rfl ?_
              refine pm_Fv.isub rfl ?_
              refine pm_Fv.cv rfl rfl rfl rfl (by decide) (Nat.le_of_ble_eq_true rfl) (Nat.le_of_ble_eq_true rfl) H3.m199 H3.o199 (ev_childAt L xs H3 h.l0 hm (by omega) (by omega) (M.kid y0 y1 yp yl)) ?_
              refine pm_Fv.go 6 (f' := (126, 97, [(2, _), (0, _), (1, _)], [_, _, _, _, _])) rfl ?_
              refine pm_Fv.cv rfl rfl rfl rfl (by decide) (Nat.le_of_ble_eq_true rfl) (Nat.le_of_ble_eq_true rfl) H3.m199 H3.o199 ((by have q := ev_kids L xs H3 h.l0 M (r := y) (by omega) (Or.inl y1); rw [fo_id_at y0] at q; exact q)) ?_
              refine pm_Fv.cvF rfl rfl rfl rfl (by decide) (Nat.le_of_ble_eq_true rfl) (Nat.le_of_ble_eq_true rfl) H3.m199 H3.o199 (ev_mcarry L xs H3 h hm S (by omega) (by omega) (by omega) (by omega)) (fun s4 q4 => ?_)
              obtain ⟨H4, r4⟩ := q4
              exact pm_Fv.ret rfl rfl rfl rfl ⟨rfl, H4, (r4.trans (r3.trans (r2.trans r1)))⟩
            · exact absurd h6 (by omega)
          · exact absurd h5 (by omega)
      · exact absurd h3 (by omega)
  · exact absurd h1 (by omega)
end MS
