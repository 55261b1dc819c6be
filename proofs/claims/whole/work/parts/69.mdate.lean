/-! the reference: date, state -/
section MS
variable (L : Nat) (xs : Nat → Int32)
variable {σ : pm_S} {ad : Nat → Nat} {z : Nat → Int} {ar : Nat → Nat × (Nat → Int32)} {lr : Nat → Nat × (Nat → Int64)}
theorem ev_mdateR {p q d k u c nn rr : Int} (hq : -2147483648 ≤ q ∧ q ≤ 2147483647) (hd : -2147483648 ≤ d ∧ d ≤ 2147483647) (hk : -2147483648 ≤ k ∧ k ≤ 2147483647) (hu : -2147483648 ≤ u ∧ u ≤ 2147483647) (hc : -2147483648 ≤ c ∧ c ≤ 2147483647) (hn : nn = if d = -1 then 1 else 0) (hr : rr = if (0 ≤ q ∧ q ≤ 1) ∧ (d = -1 ∨ (0 ≤ d ∧ d ≤ 3652058) ∧ (0 ≤ k ∧ k ≤ 3) ∧ (k = 0 ∨ (0 ≤ u ∧ u ≤ 3) ∧ (1 ≤ c ∧ c ≤ 99))) then 1 else 0) {Q : pm_O → pm_S → Prop} (kk : pm_Fv (tq_P L xs) (132, 79, [(8, .int (zI rr)), (7, .int (zI nn)), (0, .ref 199), (1, .int (zI p)), (2, .int (zI q)), (3, .int (zI d)), (4, .int (zI k)), (5, .int (zI u)), (6, .int (zI c))], []) σ Q) : pm_Fv (tq_P L xs) (132, 0, [(0, .ref 199), (1, .int (zI p)), (2, .int (zI q)), (3, .int (zI d)), (4, .int (zI k)), (5, .int (zI u)), (6, .int (zI c))], []) σ Q := by
  by_cases dn : d = -1
  · skip
    refine pm_Fv.go 2 (f' := (132, 2, [(0, _), (1, _), (2, _), (3, _), (4, _), (5, _), (6, _)], [_, _])) rfl ?_
    refine pm_Fv.jne rfl (by omega) rfl (fun h1 => ?_) (fun h1 => ?_)
    · exact absurd dn h1
    · refine pm_Fv.go 6 (f' := (132, 15, [(7, _), (0, _), (1, _), (2, _), (3, _), (4, _), (5, _), (6, _)], [_, _, _])) rfl ?_
      refine pm_Fv.call rfl rfl rfl rfl rfl (ev_m_within L xs (by omega)) ?_
      refine pm_Fv.zeq rfl (by omega) rfl (fun h2 => ?_) (fun h2 => ?_)
      · refine pm_Fv.go 2 (f' := (132, 79, [(8, _), (7, _), (0, _), (1, _), (2, _), (3, _), (4, _), (5, _), (6, _)], [])) rfl ?_
        first
          | (rw [show rr = 0 by omega, show nn = 0 by omega] at kk; exact pm_Fv.weak kk rfl)
          | (rw [show rr = 1 by omega, show nn = 0 by omega] at kk; exact pm_Fv.weak kk rfl)
          | (rw [show rr = 0 by omega, show nn = 1 by omega] at kk; exact pm_Fv.weak kk rfl)
          | (rw [show rr = 1 by omega, show nn = 1 by omega] at kk; exact pm_Fv.weak kk rfl)
      · refine pm_Fv.go 1 (f' := (132, 23, [(7, _), (0, _), (1, _), (2, _), (3, _), (4, _), (5, _), (6, _)], [_])) rfl ?_
        refine pm_Fv.zne rfl (by omega) rfl (fun h3 => ?_) (fun h3 => ?_)
        · refine pm_Fv.go 3 (f' := (132, 79, [(8, _), (7, _), (0, _), (1, _), (2, _), (3, _), (4, _), (5, _), (6, _)], [])) rfl ?_
          first
            | (rw [show rr = 0 by omega, show nn = 0 by omega] at kk; exact pm_Fv.weak kk rfl)
            | (rw [show rr = 1 by omega, show nn = 0 by omega] at kk; exact pm_Fv.weak kk rfl)
            | (rw [show rr = 0 by omega, show nn = 1 by omega] at kk; exact pm_Fv.weak kk rfl)
            | (rw [show rr = 1 by omega, show nn = 1 by omega] at kk; exact pm_Fv.weak kk rfl)
        · exact absurd h3 (by omega)
  · skip
    refine pm_Fv.go 2 (f' := (132, 2, [(0, _), (1, _), (2, _), (3, _), (4, _), (5, _), (6, _)], [_, _])) rfl ?_
    refine pm_Fv.jne rfl (by omega) rfl (fun h1 => ?_) (fun h1 => ?_)
    · refine pm_Fv.go 5 (f' := (132, 15, [(7, _), (0, _), (1, _), (2, _), (3, _), (4, _), (5, _), (6, _)], [_, _, _])) rfl ?_
      refine pm_Fv.call rfl rfl rfl rfl rfl (ev_m_within L xs (by omega)) ?_
      refine pm_Fv.zeq rfl (by omega) rfl (fun h2 => ?_) (fun h2 => ?_)
      · refine pm_Fv.go 2 (f' := (132, 79, [(8, _), (7, _), (0, _), (1, _), (2, _), (3, _), (4, _), (5, _), (6, _)], [])) rfl ?_
        first
          | (rw [show rr = 0 by omega, show nn = 0 by omega] at kk; exact pm_Fv.weak kk rfl)
          | (rw [show rr = 1 by omega, show nn = 0 by omega] at kk; exact pm_Fv.weak kk rfl)
          | (rw [show rr = 0 by omega, show nn = 1 by omega] at kk; exact pm_Fv.weak kk rfl)
          | (rw [show rr = 1 by omega, show nn = 1 by omega] at kk; exact pm_Fv.weak kk rfl)
      · refine pm_Fv.go 1 (f' := (132, 23, [(7, _), (0, _), (1, _), (2, _), (3, _), (4, _), (5, _), (6, _)], [_])) rfl ?_
        refine pm_Fv.zne rfl (by omega) rfl (fun h3 => ?_) (fun h3 => ?_)
        · exact absurd h3 (by omega)
        · refine pm_Fv.go 2 (f' := (132, 28, [(7, _), (0, _), (1, _), (2, _), (3, _), (4, _), (5, _), (6, _)], [_, _])) rfl ?_
          refine pm_Fv.cc1 (3652058) rfl rfl rfl ?_
          refine pm_Fv.call rfl rfl rfl rfl rfl (ev_m_within L xs (by omega)) ?_
          refine pm_Fv.zeq rfl (by omega) rfl (fun h4 => ?_) (fun h4 => ?_)
          · refine pm_Fv.go 2 (f' := (132, 79, [(8, _), (7, _), (0, _), (1, _), (2, _), (3, _), (4, _), (5, _), (6, _)], [])) rfl ?_
            first
              | (rw [show rr = 0 by omega, show nn = 0 by omega] at kk; exact pm_Fv.weak kk rfl)
              | (rw [show rr = 1 by omega, show nn = 0 by omega] at kk; exact pm_Fv.weak kk rfl)
              | (rw [show rr = 0 by omega, show nn = 1 by omega] at kk; exact pm_Fv.weak kk rfl)
              | (rw [show rr = 1 by omega, show nn = 1 by omega] at kk; exact pm_Fv.weak kk rfl)
          · refine pm_Fv.go 3 (f' := (132, 40, [(7, _), (0, _), (1, _), (2, _), (3, _), (4, _), (5, _), (6, _)], [_, _, _])) rfl ?_
            refine pm_Fv.call rfl rfl rfl rfl rfl (ev_m_within L xs (by omega)) ?_
            refine pm_Fv.zeq rfl (by omega) rfl (fun h5 => ?_) (fun h5 => ?_)
            · refine pm_Fv.go 2 (f' := (132, 79, [(8, _), (7, _), (0, _), (1, _), (2, _), (3, _), (4, _), (5, _), (6, _)], [])) rfl ?_
              first
                | (rw [show rr = 0 by omega, show nn = 0 by omega] at kk; exact pm_Fv.weak kk rfl)
                | (rw [show rr = 1 by omega, show nn = 0 by omega] at kk; exact pm_Fv.weak kk rfl)
                | (rw [show rr = 0 by omega, show nn = 1 by omega] at kk; exact pm_Fv.weak kk rfl)
                | (rw [show rr = 1 by omega, show nn = 1 by omega] at kk; exact pm_Fv.weak kk rfl)
            · refine pm_Fv.go 1 (f' := (132, 48, [(7, _), (0, _), (1, _), (2, _), (3, _), (4, _), (5, _), (6, _)], [_])) rfl ?_
              refine pm_Fv.zeq rfl (by omega) rfl (fun h6 => ?_) (fun h6 => ?_)
              · refine pm_Fv.go 3 (f' := (132, 79, [(8, _), (7, _), (0, _), (1, _), (2, _), (3, _), (4, _), (5, _), (6, _)], [])) rfl ?_
                first
                  | (rw [show rr = 0 by omega, show nn = 0 by omega] at kk; exact pm_Fv.weak kk rfl)
                  | (rw [show rr = 1 by omega, show nn = 0 by omega] at kk; exact pm_Fv.weak kk rfl)
                  | (rw [show rr = 0 by omega, show nn = 1 by omega] at kk; exact pm_Fv.weak kk rfl)
                  | (rw [show rr = 1 by omega, show nn = 1 by omega] at kk; exact pm_Fv.weak kk rfl)
              · refine pm_Fv.go 3 (f' := (132, 55, [(7, _), (0, _), (1, _), (2, _), (3, _), (4, _), (5, _), (6, _)], [_, _, _])) rfl ?_
                refine pm_Fv.call rfl rfl rfl rfl rfl (ev_m_within L xs (by omega)) ?_
                refine pm_Fv.zeq rfl (by omega) rfl (fun h7 => ?_) (fun h7 => ?_)
                · refine pm_Fv.go 2 (f' := (132, 79, [(8, _), (7, _), (0, _), (1, _), (2, _), (3, _), (4, _), (5, _), (6, _)], [])) rfl ?_
                  first
                    | (rw [show rr = 0 by omega, show nn = 0 by omega] at kk; exact pm_Fv.weak kk rfl)
                    | (rw [show rr = 1 by omega, show nn = 0 by omega] at kk; exact pm_Fv.weak kk rfl)
                    | (rw [show rr = 0 by omega, show nn = 1 by omega] at kk; exact pm_Fv.weak kk rfl)
                    | (rw [show rr = 1 by omega, show nn = 1 by omega] at kk; exact pm_Fv.weak kk rfl)
                · refine pm_Fv.go 2 (f' := (132, 64, [(7, _), (0, _), (1, _), (2, _), (3, _), (4, _), (5, _), (6, _)], [_, _])) rfl ?_
                  refine pm_Fv.bp rfl rfl ?_
                  refine pm_Fv.call rfl rfl rfl rfl rfl (ev_m_within L xs (by omega)) ?_
                  refine pm_Fv.zeq rfl (by omega) rfl (fun h8 => ?_) (fun h8 => ?_)
                  · refine pm_Fv.go 2 (f' := (132, 79, [(8, _), (7, _), (0, _), (1, _), (2, _), (3, _), (4, _), (5, _), (6, _)], [])) rfl ?_
                    first
                      | (rw [show rr = 0 by omega, show nn = 0 by omega] at kk; exact pm_Fv.weak kk rfl)
                      | (rw [show rr = 1 by omega, show nn = 0 by omega] at kk; exact pm_Fv.weak kk rfl)
                      | (rw [show rr = 0 by omega, show nn = 1 by omega] at kk; exact pm_Fv.weak kk rfl)
                      | (rw [show rr = 1 by omega, show nn = 1 by omega] at kk; exact pm_Fv.weak kk rfl)
                  · refine pm_Fv.go 3 (f' := (132, 79, [(8, _), (7, _), (0, _), (1, _), (2, _), (3, _), (4, _), (5, _), (6, _)], [])) rfl ?_
                    first
                      | (rw [show rr = 0 by omega, show nn = 0 by omega] at kk; exact pm_Fv.weak kk rfl)
                      | (rw [show rr = 1 by omega, show nn = 0 by omega] at kk; exact pm_Fv.weak kk rfl)
                      | (rw [show rr = 0 by omega, show nn = 1 by omega] at kk; exact pm_Fv.weak kk rfl)
                      | (rw [show rr = 1 by omega, show nn = 1 by omega] at kk; exact pm_Fv.weak kk rfl)
    · exact absurd dn h1
theorem ev_mdate1 (H : Hp σ ad z ar lr) (h : mo_H z ar) {n : Int} {I D : Int → Int} (M : mo_R (mo_g ar) (z 23) n I D) {p : Int} (hp : -2147483648 ≤ p ∧ p ≤ 2147483647) {q d k u c : Int} (hq : -2147483648 ≤ q ∧ q ≤ 2147483647) (hd : -2147483648 ≤ d ∧ d ≤ 2147483647) (hk : -2147483648 ≤ k ∧ k ≤ 2147483647) (hu : -2147483648 ≤ u ∧ u ≤ 2147483647) (hc : -2147483648 ≤ c ∧ c ≤ 2147483647) (n2 : ∀ x, 0 ≤ x → x < n → I x ≠ p) : pm_Fv (tq_P L xs) (pm_enter 132 [.ref 199, .int (zI p), .int (zI q), .int (zI d), .int (zI k), .int (zI u), .int (zI c)]) σ (fun o s => o = .inl none ∧ Hp s ad (hq_u z 29 1) ar lr ∧ s.2 = σ.2) := by
  show pm_Fv (tq_P L xs) (132, 0, [(0, .ref 199), (1, .int (zI p)), (2, .int (zI q)), (3, .int (zI d)), (4, .int (zI k)), (5, .int (zI u)), (6, .int (zI c))], []) σ _
  have H0 : Hp σ ad (hq_u z 29 (z 29)) ar lr := by rw [hq_u_self]; exact H
  have hm : 0 ≤ z 23 ∧ z 23 ≤ 400 := ⟨M.m0, M.m4⟩
  refine ev_mdateR L xs hq hd hk hu hc rfl rfl ?_
  refine pm_Fv.go 3 (f' := (132, 82, [(8, _), (7, _), (0, _), (1, _), (2, _), (3, _), (4, _), (5, _), (6, _)], [_, _, _])) rfl ?_
  refine pm_Fv.cv rfl rfl rfl rfl (by decide) (Nat.le_of_ble_eq_true rfl) (Nat.le_of_ble_eq_true rfl) H0.m199 H0.o199 (ev_noT L xs H0 h.l0 M hp n2) ?_
  refine pm_Fv.zne rfl (by omega) rfl (fun h1 => ?_) (fun h1 => ?_)
  · exact absurd h1 (by omega)
  · refine pm_Fv.go 3 (f' := (132, 94, [(8, _), (7, _), (0, _), (1, _), (2, _), (3, _), (4, _), (5, _), (6, _)], [_, _, _])) rfl ?_
    refine pm_Fv.cvF rfl rfl rfl rfl (by decide) (Nat.le_of_ble_eq_true rfl) (Nat.le_of_ble_eq_true rfl) H0.m199 H0.o199 (ev_fo L xs H0) (fun s1 q1 => ?_)
    obtain ⟨H1, r1⟩ := q1
    refine pm_Fv.zne rfl (by omega) rfl (fun h2 => ?_) (fun h2 => ?_)
    · exact pm_Fv.ret rfl rfl rfl rfl ⟨rfl, H1, r1⟩
    · exact absurd h2 (by omega)
theorem ev_mdate2 (H : Hp σ ad z ar lr) (h : mo_H z ar) {n : Int} {I D : Int → Int} (M : mo_R (mo_g ar) (z 23) n I D) {b : Int} (b0 : 0 ≤ b) (b1 : b < n) {q d k u c : Int} (hq : -2147483648 ≤ q ∧ q ≤ 2147483647) (hd : -2147483648 ≤ d ∧ d ≤ 2147483647) (hk : -2147483648 ≤ k ∧ k ≤ 2147483647) (hu : -2147483648 ≤ u ∧ u ≤ 2147483647) (hc : -2147483648 ≤ c ∧ c ≤ 2147483647) (ok : ¬ ((0 ≤ q ∧ q ≤ 1) ∧ (d = -1 ∨ (0 ≤ d ∧ d ≤ 3652058) ∧ (0 ≤ k ∧ k ≤ 3) ∧ (k = 0 ∨ (0 ≤ u ∧ u ≤ 3) ∧ (1 ≤ c ∧ c ≤ 99))))) : pm_Fv (tq_P L xs) (pm_enter 132 [.ref 199, .int (zI (I b)), .int (zI q), .int (zI d), .int (zI k), .int (zI u), .int (zI c)]) σ (fun o s => o = .inl none ∧ Hp s ad (hq_u z 29 2) ar lr ∧ s.2 = σ.2) := by
  show pm_Fv (tq_P L xs) (132, 0, [(0, .ref 199), (1, .int (zI (I b))), (2, .int (zI q)), (3, .int (zI d)), (4, .int (zI k)), (5, .int (zI u)), (6, .int (zI c))], []) σ _
  have H0 : Hp σ ad (hq_u z 29 (z 29)) ar lr := by rw [hq_u_self]; exact H
  have hm : 0 ≤ z 23 ∧ z 23 ≤ 400 := ⟨M.m0, M.m4⟩
  have i0 := M.J.1 b b0 b1
  have i1 := M.lt b b0 b1
  refine ev_mdateR L xs hq hd hk hu hc rfl rfl ?_
  rw [if_neg ok]
  refine pm_Fv.go 3 (f' := (132, 82, [(8, _), (7, _), (0, _), (1, _), (2, _), (3, _), (4, _), (5, _), (6, _)], [_, _, _])) rfl ?_
  refine pm_Fv.cv rfl rfl rfl rfl (by decide) (Nat.le_of_ble_eq_true rfl) (Nat.le_of_ble_eq_true rfl) H0.m199 H0.o199 (ev_isT L xs H0 h.l0 M b0 b1) ?_
  refine pm_Fv.zne rfl (by omega) rfl (fun h1 => ?_) (fun h1 => ?_)
  · refine pm_Fv.go 2 (f' := (132, 94, [(8, _), (7, _), (0, _), (1, _), (2, _), (3, _), (4, _), (5, _), (6, _)], [_, _, _])) rfl ?_
    refine pm_Fv.cvF rfl rfl rfl rfl (by decide) (Nat.le_of_ble_eq_true rfl) (Nat.le_of_ble_eq_true rfl) H0.m199 H0.o199 (ev_fz L xs H0) (fun s1 q1 => ?_)
    obtain ⟨H1, r1⟩ := q1
    refine pm_Fv.zne rfl (by omega) rfl (fun h2 => ?_) (fun h2 => ?_)
    · exact absurd h2 (by omega)
    · refine pm_Fv.go 2 (f' := (132, 103, [(8, _), (7, _), (0, _), (1, _), (2, _), (3, _), (4, _), (5, _), (6, _)], [_, _])) rfl ?_
      refine pm_Fv.zne rfl (by omega) rfl (fun h3 => ?_) (fun h3 => ?_)
      · exact absurd h3 (by omega)
      · refine pm_Fv.go 3 (f' := (132, 112, [(8, _), (7, _), (0, _), (1, _), (2, _), (3, _), (4, _), (5, _), (6, _)], [_, _, _])) rfl ?_
        refine pm_Fv.cvF rfl rfl rfl rfl (by decide) (Nat.le_of_ble_eq_true rfl) (Nat.le_of_ble_eq_true rfl) H1.m199 H1.o199 (ev_fo L xs H1) (fun s2 q2 => ?_)
        obtain ⟨H2, r2⟩ := q2
        refine pm_Fv.zeq rfl (by omega) rfl (fun h4 => ?_) (fun h4 => ?_)
        · exact absurd h4 (by omega)
        · exact pm_Fv.ret rfl rfl rfl rfl ⟨rfl, H2, (r2.trans r1)⟩
  · exact absurd h1 (by omega)
theorem ev_mdate0a (H : Hp σ ad z ar lr) (h : mo_H z ar) {n : Int} {I D : Int → Int} (M : mo_R (mo_g ar) (z 23) n I D) {b : Int} (b0 : 0 ≤ b) (b1 : b < n) {q d k u c : Int} (hq : -2147483648 ≤ q ∧ q ≤ 2147483647) (hd : -2147483648 ≤ d ∧ d ≤ 2147483647) (hk : -2147483648 ≤ k ∧ k ≤ 2147483647) (hu : -2147483648 ≤ u ∧ u ≤ 2147483647) (hc : -2147483648 ≤ c ∧ c ≤ 2147483647) (ok : (0 ≤ q ∧ q ≤ 1) ∧ (d = -1 ∨ (0 ≤ d ∧ d ≤ 3652058) ∧ (0 ≤ k ∧ k ≤ 3) ∧ (k = 0 ∨ (0 ≤ u ∧ u ≤ 3) ∧ (1 ≤ c ∧ c ≤ 99)))) (dn : d = -1) : pm_Fv (tq_P L xs) (pm_enter 132 [.ref 199, .int (zI (I b)), .int (zI q), .int (zI d), .int (zI k), .int (zI u), .int (zI c)]) σ (fun o s => o = .inl none ∧ (∃ z' ar', mo_ed (hq_u z 29 0) ar (mo_pt (mo_pt (mo_g ar) (I b) (8 + q) d) (I b) (10 + q) (if d = -1 ∨ k = 0 then 0 else k + 10 * u + 100 * c)) z' ar' ∧ Hp s ad z' ar' lr) ∧ s.2 = σ.2) := by
  show pm_Fv (tq_P L xs) (132, 0, [(0, .ref 199), (1, .int (zI (I b))), (2, .int (zI q)), (3, .int (zI d)), (4, .int (zI k)), (5, .int (zI u)), (6, .int (zI c))], []) σ _
  have H0 : Hp σ ad (hq_u z 29 (z 29)) ar lr := by rw [hq_u_self]; exact H
  have hm : 0 ≤ z 23 ∧ z 23 ≤ 400 := ⟨M.m0, M.m4⟩
  have i0 := M.J.1 b b0 b1
  have i1 := M.lt b b0 b1
  rw [if_pos (Or.inl dn)]
  refine ev_mdateR L xs hq hd hk hu hc rfl rfl ?_
  rw [if_pos ok, if_pos dn]
  refine pm_Fv.go 3 (f' := (132, 82, [(8, _), (7, _), (0, _), (1, _), (2, _), (3, _), (4, _), (5, _), (6, _)], [_, _, _])) rfl ?_
  refine pm_Fv.cv rfl rfl rfl rfl (by decide) (Nat.le_of_ble_eq_true rfl) (Nat.le_of_ble_eq_true rfl) H0.m199 H0.o199 (ev_isT L xs H0 h.l0 M b0 b1) ?_
  refine pm_Fv.zne rfl (by omega) rfl (fun h1 => ?_) (fun h1 => ?_)
  · refine pm_Fv.go 2 (f' := (132, 94, [(8, _), (7, _), (0, _), (1, _), (2, _), (3, _), (4, _), (5, _), (6, _)], [_, _, _])) rfl ?_
    refine pm_Fv.cvF rfl rfl rfl rfl (by decide) (Nat.le_of_ble_eq_true rfl) (Nat.le_of_ble_eq_true rfl) H0.m199 H0.o199 (ev_fz L xs H0) (fun s1 q1 => ?_)
    obtain ⟨H1, r1⟩ := q1
    refine pm_Fv.zne rfl (by omega) rfl (fun h2 => ?_) (fun h2 => ?_)
    · exact absurd h2 (by omega)
    · refine pm_Fv.go 2 (f' := (132, 103, [(8, _), (7, _), (0, _), (1, _), (2, _), (3, _), (4, _), (5, _), (6, _)], [_, _])) rfl ?_
      refine pm_Fv.zne rfl (by omega) rfl (fun h3 => ?_) (fun h3 => ?_)
      · refine pm_Fv.go 2 (f' := (132, 112, [(8, _), (7, _), (0, _), (1, _), (2, _), (3, _), (4, _), (5, _), (6, _)], [_, _, _])) rfl ?_
        refine pm_Fv.cvF rfl rfl rfl rfl (by decide) (Nat.le_of_ble_eq_true rfl) (Nat.le_of_ble_eq_true rfl) H1.m199 H1.o199 (ev_fz L xs H1) (fun s2 q2 => ?_)
        obtain ⟨H2, r2⟩ := q2
        refine pm_Fv.zeq rfl (by omega) rfl (fun h4 => ?_) (fun h4 => ?_)
        · refine pm_Fv.go 1 (f' := (132, 120, [(8, _), (7, _), (0, _), (1, _), (2, _), (3, _), (4, _), (5, _), (6, _)], [_])) rfl ?_
          refine pm_Fv.cvF rfl rfl rfl rfl (by decide) (Nat.le_of_ble_eq_true rfl) (Nat.le_of_ble_eq_true rfl) H2.m199 H2.o199 (ev_beg L xs H2 h) (fun s3 q3 => ?_)
          obtain ⟨H3, r3⟩ := q3
          refine pm_Fv.go 2 (f' := (132, 125, [(8, _), (7, _), (0, _), (1, _), (2, _), (3, _), (4, _), (5, _), (6, _)], [_, _])) rfl ?_
          refine pm_Fv.bp rfl rfl ?_
          refine pm_Fv.go 1 (f' := (132, 128, [(8, _), (7, _), (0, _), (1, _), (2, _), (3, _), (4, _), (5, _), (6, _)], [_, _, _, _])) rfl ?_
          refine pm_Fv.iadd rfl ?_
          refine pm_Fv.go 1 (f' := (132, 130, [(8, _), (7, _), (0, _), (1, _), (2, _), (3, _), (4, _), (5, _), (6, _)], [_, _, _, _])) rfl ?_
          refine pm_Fv.cvF rfl rfl rfl rfl (by decide) (Nat.le_of_ble_eq_true rfl) (Nat.le_of_ble_eq_true rfl) H3.m199 H3.o199 (ev_pw L xs H3 h.l0 (by omega)) (fun s4 q4 => ?_)
          obtain ⟨H4, r4⟩ := q4
          refine pm_Fv.go 2 (f' := (132, 135, [(8, _), (7, _), (0, _), (1, _), (2, _), (3, _), (4, _), (5, _), (6, _)], [_, _])) rfl ?_
          refine pm_Fv.bp rfl rfl ?_
          refine pm_Fv.go 1 (f' := (132, 138, [(8, _), (7, _), (0, _), (1, _), (2, _), (3, _), (4, _), (5, _), (6, _)], [_, _, _, _])) rfl ?_
          refine pm_Fv.iadd rfl ?_
          refine pm_Fv.go 1 (f' := (132, 141, [(8, _), (7, _), (0, _), (1, _), (2, _), (3, _), (4, _), (5, _), (6, _)], [_, _, _, _])) rfl ?_
          refine pm_Fv.zne rfl (by omega) rfl (fun h5 => ?_) (fun h5 => ?_)
          · refine pm_Fv.go 2 (f' := (132, 167, [(8, _), (7, _), (0, _), (1, _), (2, _), (3, _), (4, _), (5, _), (6, _)], [_, _, _, _])) rfl ?_
            refine pm_Fv.cvF rfl rfl rfl rfl (by decide) (Nat.le_of_ble_eq_true rfl) (Nat.le_of_ble_eq_true rfl) H4.m199 H4.o199 (ev_pw L xs H4 h.l0 (by omega)) (fun s5 q5 => ?_)
            obtain ⟨H5, r5⟩ := q5
            refine pm_Fv.go 1 (f' := (132, 171, [(8, _), (7, _), (0, _), (1, _), (2, _), (3, _), (4, _), (5, _), (6, _)], [_])) rfl ?_
            refine pm_Fv.cvF rfl rfl rfl rfl (by decide) (Nat.le_of_ble_eq_true rfl) (Nat.le_of_ble_eq_true rfl) H5.m199 H5.o199 (ev_dne L xs H5 (z := hq_u z 29 0) h) (fun s6 q6 => ?_)
            obtain ⟨H6, r6⟩ := q6
            exact pm_Fv.ret rfl rfl rfl rfl ⟨rfl, H6, (r6.trans (r5.trans (r4.trans (r3.trans (r2.trans r1)))))⟩
          · exact absurd h5 (by omega)
        · exact absurd h4 (by omega)
      · exact absurd h3 (by omega)
  · exact absurd h1 (by omega)
theorem ev_mdate0b (H : Hp σ ad z ar lr) (h : mo_H z ar) {n : Int} {I D : Int → Int} (M : mo_R (mo_g ar) (z 23) n I D) {b : Int} (b0 : 0 ≤ b) (b1 : b < n) {q d k u c : Int} (hq : -2147483648 ≤ q ∧ q ≤ 2147483647) (hd : -2147483648 ≤ d ∧ d ≤ 2147483647) (hk : -2147483648 ≤ k ∧ k ≤ 2147483647) (hu : -2147483648 ≤ u ∧ u ≤ 2147483647) (hc : -2147483648 ≤ c ∧ c ≤ 2147483647) (ok : (0 ≤ q ∧ q ≤ 1) ∧ (d = -1 ∨ (0 ≤ d ∧ d ≤ 3652058) ∧ (0 ≤ k ∧ k ≤ 3) ∧ (k = 0 ∨ (0 ≤ u ∧ u ≤ 3) ∧ (1 ≤ c ∧ c ≤ 99)))) (dn : ¬ d = -1) (k0 : k = 0) : pm_Fv (tq_P L xs) (pm_enter 132 [.ref 199, .int (zI (I b)), .int (zI q), .int (zI d), .int (zI k), .int (zI u), .int (zI c)]) σ (fun o s => o = .inl none ∧ (∃ z' ar', mo_ed (hq_u z 29 0) ar (mo_pt (mo_pt (mo_g ar) (I b) (8 + q) d) (I b) (10 + q) (if d = -1 ∨ k = 0 then 0 else k + 10 * u + 100 * c)) z' ar' ∧ Hp s ad z' ar' lr) ∧ s.2 = σ.2) := by
  show pm_Fv (tq_P L xs) (132, 0, [(0, .ref 199), (1, .int (zI (I b))), (2, .int (zI q)), (3, .int (zI d)), (4, .int (zI k)), (5, .int (zI u)), (6, .int (zI c))], []) σ _
  have H0 : Hp σ ad (hq_u z 29 (z 29)) ar lr := by rw [hq_u_self]; exact H
  have hm : 0 ≤ z 23 ∧ z 23 ≤ 400 := ⟨M.m0, M.m4⟩
  have i0 := M.J.1 b b0 b1
  have i1 := M.lt b b0 b1
  rw [if_pos (Or.inr k0)]
  refine ev_mdateR L xs hq hd hk hu hc rfl rfl ?_
  rw [if_pos ok, if_neg dn]
  refine pm_Fv.go 3 (f' := (132, 82, [(8, _), (7, _), (0, _), (1, _), (2, _), (3, _), (4, _), (5, _), (6, _)], [_, _, _])) rfl ?_
  refine pm_Fv.cv rfl rfl rfl rfl (by decide) (Nat.le_of_ble_eq_true rfl) (Nat.le_of_ble_eq_true rfl) H0.m199 H0.o199 (ev_isT L xs H0 h.l0 M b0 b1) ?_
  refine pm_Fv.zne rfl (by omega) rfl (fun h1 => ?_) (fun h1 => ?_)
  · refine pm_Fv.go 2 (f' := (132, 94, [(8, _), (7, _), (0, _), (1, _), (2, _), (3, _), (4, _), (5, _), (6, _)], [_, _, _])) rfl ?_
    refine pm_Fv.cvF rfl rfl rfl rfl (by decide) (Nat.le_of_ble_eq_true rfl) (Nat.le_of_ble_eq_true rfl) H0.m199 H0.o199 (ev_fz L xs H0) (fun s1 q1 => ?_)
    obtain ⟨H1, r1⟩ := q1
    refine pm_Fv.zne rfl (by omega) rfl (fun h2 => ?_) (fun h2 => ?_)
    · exact absurd h2 (by omega)
    · refine pm_Fv.go 2 (f' := (132, 103, [(8, _), (7, _), (0, _), (1, _), (2, _), (3, _), (4, _), (5, _), (6, _)], [_, _])) rfl ?_
      refine pm_Fv.zne rfl (by omega) rfl (fun h3 => ?_) (fun h3 => ?_)
      · refine pm_Fv.go 2 (f' := (132, 112, [(8, _), (7, _), (0, _), (1, _), (2, _), (3, _), (4, _), (5, _), (6, _)], [_, _, _])) rfl ?_
        refine pm_Fv.cvF rfl rfl rfl rfl (by decide) (Nat.le_of_ble_eq_true rfl) (Nat.le_of_ble_eq_true rfl) H1.m199 H1.o199 (ev_fz L xs H1) (fun s2 q2 => ?_)
        obtain ⟨H2, r2⟩ := q2
        refine pm_Fv.zeq rfl (by omega) rfl (fun h4 => ?_) (fun h4 => ?_)
        · refine pm_Fv.go 1 (f' := (132, 120, [(8, _), (7, _), (0, _), (1, _), (2, _), (3, _), (4, _), (5, _), (6, _)], [_])) rfl ?_
          refine pm_Fv.cvF rfl rfl rfl rfl (by decide) (Nat.le_of_ble_eq_true rfl) (Nat.le_of_ble_eq_true rfl) H2.m199 H2.o199 (ev_beg L xs H2 h) (fun s3 q3 => ?_)
          obtain ⟨H3, r3⟩ := q3
          refine pm_Fv.go 2 (f' := (132, 125, [(8, _), (7, _), (0, _), (1, _), (2, _), (3, _), (4, _), (5, _), (6, _)], [_, _])) rfl ?_
          refine pm_Fv.bp rfl rfl ?_
          refine pm_Fv.go 1 (f' := (132, 128, [(8, _), (7, _), (0, _), (1, _), (2, _), (3, _), (4, _), (5, _), (6, _)], [_, _, _, _])) rfl ?_
          refine pm_Fv.iadd rfl ?_
          refine pm_Fv.go 1 (f' := (132, 130, [(8, _), (7, _), (0, _), (1, _), (2, _), (3, _), (4, _), (5, _), (6, _)], [_, _, _, _])) rfl ?_
          refine pm_Fv.cvF rfl rfl rfl rfl (by decide) (Nat.le_of_ble_eq_true rfl) (Nat.le_of_ble_eq_true rfl) H3.m199 H3.o199 (ev_pw L xs H3 h.l0 (by omega)) (fun s4 q4 => ?_)
          obtain ⟨H4, r4⟩ := q4
          refine pm_Fv.go 2 (f' := (132, 135, [(8, _), (7, _), (0, _), (1, _), (2, _), (3, _), (4, _), (5, _), (6, _)], [_, _])) rfl ?_
          refine pm_Fv.bp rfl rfl ?_
          refine pm_Fv.go 1 (f' := (132, 138, [(8, _), (7, _), (0, _), (1, _), (2, _), (3, _), (4, _), (5, _), (6, _)], [_, _, _, _])) rfl ?_
          refine pm_Fv.iadd rfl ?_
          refine pm_Fv.go 1 (f' := (132, 141, [(8, _), (7, _), (0, _), (1, _), (2, _), (3, _), (4, _), (5, _), (6, _)], [_, _, _, _])) rfl ?_
          refine pm_Fv.zne rfl (by omega) rfl (fun h5 => ?_) (fun h5 => ?_)
          · exact absurd h5 (by omega)
          · refine pm_Fv.go 1 (f' := (132, 146, [(8, _), (7, _), (0, _), (1, _), (2, _), (3, _), (4, _), (5, _), (6, _)], [_, _, _, _])) rfl ?_
            refine pm_Fv.zne rfl (by omega) rfl (fun h6 => ?_) (fun h6 => ?_)
            · exact absurd h6 (by omega)
            · refine pm_Fv.go 2 (f' := (132, 167, [(8, _), (7, _), (0, _), (1, _), (2, _), (3, _), (4, _), (5, _), (6, _)], [_, _, _, _])) rfl ?_
              refine pm_Fv.cvF rfl rfl rfl rfl (by decide) (Nat.le_of_ble_eq_true rfl) (Nat.le_of_ble_eq_true rfl) H4.m199 H4.o199 (ev_pw L xs H4 h.l0 (by omega)) (fun s5 q5 => ?_)
              obtain ⟨H5, r5⟩ := q5
              refine pm_Fv.go 1 (f' := (132, 171, [(8, _), (7, _), (0, _), (1, _), (2, _), (3, _), (4, _), (5, _), (6, _)], [_])) rfl ?_
              refine pm_Fv.cvF rfl rfl rfl rfl (by decide) (Nat.le_of_ble_eq_true rfl) (Nat.le_of_ble_eq_true rfl) H5.m199 H5.o199 (ev_dne L xs H5 (z := hq_u z 29 0) h) (fun s6 q6 => ?_)
              obtain ⟨H6, r6⟩ := q6
              exact pm_Fv.ret rfl rfl rfl rfl ⟨rfl, H6, (r6.trans (r5.trans (r4.trans (r3.trans (r2.trans r1)))))⟩
        · exact absurd h4 (by omega)
      · exact absurd h3 (by omega)
  · exact absurd h1 (by omega)
theorem ev_mdate0c (H : Hp σ ad z ar lr) (h : mo_H z ar) {n : Int} {I D : Int → Int} (M : mo_R (mo_g ar) (z 23) n I D) {b : Int} (b0 : 0 ≤ b) (b1 : b < n) {q d k u c : Int} (hq : -2147483648 ≤ q ∧ q ≤ 2147483647) (hd : -2147483648 ≤ d ∧ d ≤ 2147483647) (hk : -2147483648 ≤ k ∧ k ≤ 2147483647) (hu : -2147483648 ≤ u ∧ u ≤ 2147483647) (hc : -2147483648 ≤ c ∧ c ≤ 2147483647) (ok : (0 ≤ q ∧ q ≤ 1) ∧ (d = -1 ∨ (0 ≤ d ∧ d ≤ 3652058) ∧ (0 ≤ k ∧ k ≤ 3) ∧ (k = 0 ∨ (0 ≤ u ∧ u ≤ 3) ∧ (1 ≤ c ∧ c ≤ 99)))) (dn : ¬ d = -1) (k0 : ¬ k = 0) : pm_Fv (tq_P L xs) (pm_enter 132 [.ref 199, .int (zI (I b)), .int (zI q), .int (zI d), .int (zI k), .int (zI u), .int (zI c)]) σ (fun o s => o = .inl none ∧ (∃ z' ar', mo_ed (hq_u z 29 0) ar (mo_pt (mo_pt (mo_g ar) (I b) (8 + q) d) (I b) (10 + q) (if d = -1 ∨ k = 0 then 0 else k + 10 * u + 100 * c)) z' ar' ∧ Hp s ad z' ar' lr) ∧ s.2 = σ.2) := by
  show pm_Fv (tq_P L xs) (132, 0, [(0, .ref 199), (1, .int (zI (I b))), (2, .int (zI q)), (3, .int (zI d)), (4, .int (zI k)), (5, .int (zI u)), (6, .int (zI c))], []) σ _
  have H0 : Hp σ ad (hq_u z 29 (z 29)) ar lr := by rw [hq_u_self]; exact H
  have hm : 0 ≤ z 23 ∧ z 23 ≤ 400 := ⟨M.m0, M.m4⟩
  have i0 := M.J.1 b b0 b1
  have i1 := M.lt b b0 b1
  rw [if_neg (fun x => x.elim dn k0)]
  refine ev_mdateR L xs hq hd hk hu hc rfl rfl ?_
  rw [if_pos ok, if_neg dn]
  refine pm_Fv.go 3 (f' := (132, 82, [(8, _), (7, _), (0, _), (1, _), (2, _), (3, _), (4, _), (5, _), (6, _)], [_, _, _])) rfl ?_
  refine pm_Fv.cv rfl rfl rfl rfl (by decide) (Nat.le_of_ble_eq_true rfl) (Nat.le_of_ble_eq_true rfl) H0.m199 H0.o199 (ev_isT L xs H0 h.l0 M b0 b1) ?_
  refine pm_Fv.zne rfl (by omega) rfl (fun h1 => ?_) (fun h1 => ?_)
  · refine pm_Fv.go 2 (f' := (132, 94, [(8, _), (7, _), (0, _), (1, _), (2, _), (3, _), (4, _), (5, _), (6, _)], [_, _, _])) rfl ?_
    refine pm_Fv.cvF rfl rfl rfl rfl (by decide) (Nat.le_of_ble_eq_true rfl) (Nat.le_of_ble_eq_true rfl) H0.m199 H0.o199 (ev_fz L xs H0) (fun s1 q1 => ?_)
    obtain ⟨H1, r1⟩ := q1
    refine pm_Fv.zne rfl (by omega) rfl (fun h2 => ?_) (fun h2 => ?_)
    · exact absurd h2 (by omega)
    · refine pm_Fv.go 2 (f' := (132, 103, [(8, _), (7, _), (0, _), (1, _), (2, _), (3, _), (4, _), (5, _), (6, _)], [_, _])) rfl ?_
      refine pm_Fv.zne rfl (by omega) rfl (fun h3 => ?_) (fun h3 => ?_)
      · refine pm_Fv.go 2 (f' := (132, 112, [(8, _), (7, _), (0, _), (1, _), (2, _), (3, _), (4, _), (5, _), (6, _)], [_, _, _])) rfl ?_
        refine pm_Fv.cvF rfl rfl rfl rfl (by decide) (Nat.le_of_ble_eq_true rfl) (Nat.le_of_ble_eq_true rfl) H1.m199 H1.o199 (ev_fz L xs H1) (fun s2 q2 => ?_)
        obtain ⟨H2, r2⟩ := q2
        refine pm_Fv.zeq rfl (by omega) rfl (fun h4 => ?_) (fun h4 => ?_)
        · refine pm_Fv.go 1 (f' := (132, 120, [(8, _), (7, _), (0, _), (1, _), (2, _), (3, _), (4, _), (5, _), (6, _)], [_])) rfl ?_
          refine pm_Fv.cvF rfl rfl rfl rfl (by decide) (Nat.le_of_ble_eq_true rfl) (Nat.le_of_ble_eq_true rfl) H2.m199 H2.o199 (ev_beg L xs H2 h) (fun s3 q3 => ?_)
          obtain ⟨H3, r3⟩ := q3
          refine pm_Fv.go 2 (f' := (132, 125, [(8, _), (7, _), (0, _), (1, _), (2, _), (3, _), (4, _), (5, _), (6, _)], [_, _])) rfl ?_
          refine pm_Fv.bp rfl rfl ?_
          refine pm_Fv.go 1 (f' := (132, 128, [(8, _), (7, _), (0, _), (1, _), (2, _), (3, _), (4, _), (5, _), (6, _)], [_, _, _, _])) rfl ?_
          refine pm_Fv.iadd rfl ?_
          refine pm_Fv.go 1 (f' := (132, 130, [(8, _), (7, _), (0, _), (1, _), (2, _), (3, _), (4, _), (5, _), (6, _)], [_, _, _, _])) rfl ?_
          refine pm_Fv.cvF rfl rfl rfl rfl (by decide) (Nat.le_of_ble_eq_true rfl) (Nat.le_of_ble_eq_true rfl) H3.m199 H3.o199 (ev_pw L xs H3 h.l0 (by omega)) (fun s4 q4 => ?_)
          obtain ⟨H4, r4⟩ := q4
          refine pm_Fv.go 2 (f' := (132, 135, [(8, _), (7, _), (0, _), (1, _), (2, _), (3, _), (4, _), (5, _), (6, _)], [_, _])) rfl ?_
          refine pm_Fv.bp rfl rfl ?_
          refine pm_Fv.go 1 (f' := (132, 138, [(8, _), (7, _), (0, _), (1, _), (2, _), (3, _), (4, _), (5, _), (6, _)], [_, _, _, _])) rfl ?_
          refine pm_Fv.iadd rfl ?_
          refine pm_Fv.go 1 (f' := (132, 141, [(8, _), (7, _), (0, _), (1, _), (2, _), (3, _), (4, _), (5, _), (6, _)], [_, _, _, _])) rfl ?_
          refine pm_Fv.zne rfl (by omega) rfl (fun h5 => ?_) (fun h5 => ?_)
          · exact absurd h5 (by omega)
          · refine pm_Fv.go 1 (f' := (132, 146, [(8, _), (7, _), (0, _), (1, _), (2, _), (3, _), (4, _), (5, _), (6, _)], [_, _, _, _])) rfl ?_
            refine pm_Fv.zne rfl (by omega) rfl (fun h6 => ?_) (fun h6 => ?_)
            · refine pm_Fv.go 1 (f' := (132, 155, [(8, _), (7, _), (0, _), (1, _), (2, _), (3, _), (4, _), (5, _), (6, _)], [_, _, _, _])) rfl ?_
              refine pm_Fv.bp rfl rfl ?_
              refine pm_Fv.go 1 (f' := (132, 159, [(8, _), (7, _), (0, _), (1, _), (2, _), (3, _), (4, _), (5, _), (6, _)], [_, _, _, _, _, _])) rfl ?_
              refine pm_Fv.imul rfl ?_
              refine pm_Fv.iadd rfl ?_
              refine pm_Fv.bp rfl rfl ?_
              refine pm_Fv.go 1 (f' := (132, 165, [(8, _), (7, _), (0, _), (1, _), (2, _), (3, _), (4, _), (5, _), (6, _)], [_, _, _, _, _, _])) rfl ?_
              refine pm_Fv.imul rfl ?_
              refine pm_Fv.iadd rfl ?_
              refine pm_Fv.cvF rfl rfl rfl rfl (by decide) (Nat.le_of_ble_eq_true rfl) (Nat.le_of_ble_eq_true rfl) H4.m199 H4.o199 (ev_pw L xs H4 h.l0 (by omega)) (fun s5 q5 => ?_)
              obtain ⟨H5, r5⟩ := q5
              refine pm_Fv.go 1 (f' := (132, 171, [(8, _), (7, _), (0, _), (1, _), (2, _), (3, _), (4, _), (5, _), (6, _)], [_])) rfl ?_
              refine pm_Fv.cvF rfl rfl rfl rfl (by decide) (Nat.le_of_ble_eq_true rfl) (Nat.le_of_ble_eq_true rfl) H5.m199 H5.o199 (ev_dne L xs H5 (z := hq_u z 29 0) h) (fun s6 q6 => ?_)
              obtain ⟨H6, r6⟩ := q6
              exact pm_Fv.ret rfl rfl rfl rfl ⟨rfl, H6, (r6.trans (r5.trans (r4.trans (r3.trans (r2.trans r1)))))⟩
            · exact absurd h6 (by omega)
        · exact absurd h4 (by omega)
      · exact absurd h3 (by omega)
  · exact absurd h1 (by omega)
theorem ev_mstateP (H : Hp σ ad z ar lr) (h : mo_H z ar) {n : Int} {I D : Int → Int} (M : mo_R (mo_g ar) (z 23) n I D) {b : Int} (b0 : 0 ≤ b) (b1 : b < n) : 0 ≤ I b ∧ I b < 400 := by
  have := M.J.1 b b0 b1
  have := M.lt b b0 b1
  have := M.m4
  omega
theorem mo_dn_g {z' : Nat → Int} {ar' : Nat → Nat × (Nat → Int32)} (h : mo_dn z ar z' ar') : ar' 200 = ar 200 ∧ z' 23 = z 23 := by
  rcases h with ⟨_, h1, h2⟩ | ⟨_, _, h1, h2⟩ | ⟨_, _, h1, h2⟩
  · rw [h1, h2]
    exact ⟨rfl, rfl⟩
  · rw [h1, h2]
    refine ⟨?_, rfl⟩
    split <;> rfl
  · rw [h1, h2]
    refine ⟨rfl, ?_⟩
    unfold mo_stz
    split <;> rfl
theorem mo_ed_g {z' : Nat → Int} {ar' : Nat → Nat × (Nat → Int32)} {g : Int → Int → Int} (h : mo_ed z ar g z' ar') : mo_g ar' = mo_g (mo_w ar g) ∧ (ar' 200).1 = (ar 200).1 ∧ z' 23 = z 23 := by
  have k := mo_dn_g h
  refine ⟨?_, ?_, k.2⟩
  · funext e f
    unfold mo_g hq_g
    rw [k.1]
    rfl
  · rw [k.1]
    rfl
theorem ev_mstate1 (H : Hp σ ad z ar lr) (h : mo_H z ar) {n : Int} {I D : Int → Int} (M : mo_R (mo_g ar) (z 23) n I D) {p v : Int} (hp : -2147483648 ≤ p ∧ p ≤ 2147483647) (n2 : ∀ x, 0 ≤ x → x < n → I x ≠ p) : pm_Fv (tq_P L xs) (pm_enter 129 [.ref 199, .int (zI p), .int (zI v)]) σ (fun o s => o = .inl (some (.int (zI 0))) ∧ Hp s ad (hq_u z 29 1) ar lr ∧ s.2 = σ.2) := by
  show pm_Fv (tq_P L xs) (129, 0, [(0, .ref 199), (1, .int (zI p)), (2, .int (zI v))], []) σ _
  have H0 : Hp σ ad (hq_u z 29 (z 29)) ar lr := by rw [hq_u_self]; exact H
  have hm : 0 ≤ z 23 ∧ z 23 ≤ 400 := ⟨M.m0, M.m4⟩
  refine pm_Fv.go 3 (f' := (129, 3, [(0, _), (1, _), (2, _)], [_, _, _])) rfl ?_
  refine pm_Fv.cv rfl rfl rfl rfl (by decide) (Nat.le_of_ble_eq_true rfl) (Nat.le_of_ble_eq_true rfl) H0.m199 H0.o199 (ev_noT L xs H0 h.l0 M hp n2) ?_
  refine pm_Fv.zne rfl (by omega) rfl (fun h1 => ?_) (fun h1 => ?_)
  · exact absurd h1 (by omega)
  · refine pm_Fv.go 3 (f' := (129, 15, [(0, _), (1, _), (2, _)], [_, _, _])) rfl ?_
    refine pm_Fv.cvF rfl rfl rfl rfl (by decide) (Nat.le_of_ble_eq_true rfl) (Nat.le_of_ble_eq_true rfl) H0.m199 H0.o199 (ev_fo L xs H0) (fun s1 q1 => ?_)
    obtain ⟨H1, r1⟩ := q1
    refine pm_Fv.zne rfl (by omega) rfl (fun h2 => ?_) (fun h2 => ?_)
    · refine pm_Fv.go 1 (f' := (129, 44, [(0, _), (1, _), (2, _)], [_])) rfl ?_
      exact pm_Fv.rv rfl rfl ⟨rfl, H1, r1⟩
    · exact absurd h2 (by omega)
theorem ev_mstate2 (H : Hp σ ad z ar lr) (h : mo_H z ar) {n : Int} {I D : Int → Int} (M : mo_R (mo_g ar) (z 23) n I D) {b : Int} (b0 : 0 ≤ b) (b1 : b < n) {v : Int} (hv : -2147483648 ≤ v ∧ v ≤ 2147483647) (c : ¬ (0 ≤ v ∧ v ≤ 4)) : pm_Fv (tq_P L xs) (pm_enter 129 [.ref 199, .int (zI (I b)), .int (zI v)]) σ (fun o s => o = .inl (some (.int (zI 0))) ∧ Hp s ad (hq_u z 29 2) ar lr ∧ s.2 = σ.2) := by
  show pm_Fv (tq_P L xs) (129, 0, [(0, .ref 199), (1, .int (zI (I b))), (2, .int (zI v))], []) σ _
  have H0 : Hp σ ad (hq_u z 29 (z 29)) ar lr := by rw [hq_u_self]; exact H
  have hm : 0 ≤ z 23 ∧ z 23 ≤ 400 := ⟨M.m0, M.m4⟩
  have i0 := M.J.1 b b0 b1
  have i1 := M.lt b b0 b1
  refine pm_Fv.go 3 (f' := (129, 3, [(0, _), (1, _), (2, _)], [_, _, _])) rfl ?_
  refine pm_Fv.cv rfl rfl rfl rfl (by decide) (Nat.le_of_ble_eq_true rfl) (Nat.le_of_ble_eq_true rfl) H0.m199 H0.o199 (ev_isT L xs H0 h.l0 M b0 b1) ?_
  refine pm_Fv.zne rfl (by omega) rfl (fun h1 => ?_) (fun h1 => ?_)
  · refine pm_Fv.go 2 (f' := (129, 15, [(0, _), (1, _), (2, _)], [_, _, _])) rfl ?_
    refine pm_Fv.cvF rfl rfl rfl rfl (by decide) (Nat.le_of_ble_eq_true rfl) (Nat.le_of_ble_eq_true rfl) H0.m199 H0.o199 (ev_fz L xs H0) (fun s1 q1 => ?_)
    obtain ⟨H1, r1⟩ := q1
    refine pm_Fv.zne rfl (by omega) rfl (fun h2 => ?_) (fun h2 => ?_)
    · exact absurd h2 (by omega)
    · refine pm_Fv.go 4 (f' := (129, 25, [(0, _), (1, _), (2, _)], [_, _, _, _])) rfl ?_
      refine pm_Fv.call rfl rfl rfl rfl rfl (ev_w0 L xs (by omega) c) ?_
      refine pm_Fv.zne rfl (by omega) rfl (fun h3 => ?_) (fun h3 => ?_)
      · exact absurd h3 (by omega)
      · refine pm_Fv.go 3 (f' := (129, 37, [(0, _), (1, _), (2, _)], [_, _, _])) rfl ?_
        refine pm_Fv.cvF rfl rfl rfl rfl (by decide) (Nat.le_of_ble_eq_true rfl) (Nat.le_of_ble_eq_true rfl) H1.m199 H1.o199 (ev_fo L xs H1) (fun s2 q2 => ?_)
        obtain ⟨H2, r2⟩ := q2
        refine pm_Fv.zeq rfl (by omega) rfl (fun h4 => ?_) (fun h4 => ?_)
        · exact absurd h4 (by omega)
        · refine pm_Fv.go 1 (f' := (129, 44, [(0, _), (1, _), (2, _)], [_])) rfl ?_
          exact pm_Fv.rv rfl rfl ⟨rfl, H2, (r2.trans r1)⟩
  · exact absurd h1 (by omega)
theorem ev_mstate0a (H : Hp σ ad z ar lr) (h : mo_H z ar) {n : Int} {I D : Int → Int} (M : mo_R (mo_g ar) (z 23) n I D) {b : Int} (b0 : 0 ≤ b) (b1 : b < n) {v : Int} (hv : -2147483648 ≤ v ∧ v ≤ 2147483647) (c : 0 ≤ v ∧ v ≤ 4) (d : ¬ v = 3) : pm_Fv (tq_P L xs) (pm_enter 129 [.ref 199, .int (zI (I b)), .int (zI v)]) σ (fun o s => o = .inl (some (.int (zI v))) ∧ (∃ z' ar', mo_ed (hq_u z 29 0) ar (mo_pt (mo_g ar) (I b) 4 (v)) z' ar' ∧ Hp s ad z' ar' lr) ∧ s.2 = σ.2) := by
  show pm_Fv (tq_P L xs) (129, 0, [(0, .ref 199), (1, .int (zI (I b))), (2, .int (zI v))], []) σ _
  have H0 : Hp σ ad (hq_u z 29 (z 29)) ar lr := by rw [hq_u_self]; exact H
  have hm : 0 ≤ z 23 ∧ z 23 ≤ 400 := ⟨M.m0, M.m4⟩
  have i0 := M.J.1 b b0 b1
  have i1 := M.lt b b0 b1
  have K9 := mo_pt_K (mo_g_K ar) (x := I b) (y := 4) (v := v) (by omega)
  refine pm_Fv.go 3 (f' := (129, 3, [(0, _), (1, _), (2, _)], [_, _, _])) rfl ?_
  refine pm_Fv.cv rfl rfl rfl rfl (by decide) (Nat.le_of_ble_eq_true rfl) (Nat.le_of_ble_eq_true rfl) H0.m199 H0.o199 (ev_isT L xs H0 h.l0 M b0 b1) ?_
  refine pm_Fv.zne rfl (by omega) rfl (fun h1 => ?_) (fun h1 => ?_)
  · refine pm_Fv.go 2 (f' := (129, 15, [(0, _), (1, _), (2, _)], [_, _, _])) rfl ?_
    refine pm_Fv.cvF rfl rfl rfl rfl (by decide) (Nat.le_of_ble_eq_true rfl) (Nat.le_of_ble_eq_true rfl) H0.m199 H0.o199 (ev_fz L xs H0) (fun s1 q1 => ?_)
    obtain ⟨H1, r1⟩ := q1
    refine pm_Fv.zne rfl (by omega) rfl (fun h2 => ?_) (fun h2 => ?_)
    · exact absurd h2 (by omega)
    · refine pm_Fv.go 4 (f' := (129, 25, [(0, _), (1, _), (2, _)], [_, _, _, _])) rfl ?_
      refine pm_Fv.call rfl rfl rfl rfl rfl (ev_w1 L xs (by omega) c) ?_
      refine pm_Fv.zne rfl (by omega) rfl (fun h3 => ?_) (fun h3 => ?_)
      · refine pm_Fv.go 2 (f' := (129, 37, [(0, _), (1, _), (2, _)], [_, _, _])) rfl ?_
        refine pm_Fv.cvF rfl rfl rfl rfl (by decide) (Nat.le_of_ble_eq_true rfl) (Nat.le_of_ble_eq_true rfl) H1.m199 H1.o199 (ev_fz L xs H1) (fun s2 q2 => ?_)
        obtain ⟨H2, r2⟩ := q2
        refine pm_Fv.zeq rfl (by omega) rfl (fun h4 => ?_) (fun h4 => ?_)
        · refine pm_Fv.go 2 (f' := (129, 47, [(0, _), (1, _), (2, _)], [_, _])) rfl ?_
          refine pm_Fv.jne rfl (by omega) rfl (fun h5 => ?_) (fun h5 => ?_)
          · refine pm_Fv.go 8 (f' := (129, 85, [(5, _), (4, _), (3, _), (0, _), (1, _), (2, _)], [_, _])) rfl ?_
            refine pm_Fv.jge rfl (by omega) rfl (fun h6 => ?_) (fun h6 => ?_)
            · exact absurd h6 (by omega)
            · refine pm_Fv.go 1 (f' := (129, 89, [(5, _), (4, _), (3, _), (0, _), (1, _), (2, _)], [_])) rfl ?_
              refine pm_Fv.zeq rfl (by omega) rfl (fun h7 => ?_) (fun h7 => ?_)
              · refine pm_Fv.go 3 (f' := (129, 154, [(5, _), (4, _), (3, _), (0, _), (1, _), (2, _)], [_, _, _])) rfl ?_
                refine pm_Fv.cvF rfl rfl rfl rfl (by decide) (Nat.le_of_ble_eq_true rfl) (Nat.le_of_ble_eq_true rfl) H2.m199 H2.o199 (ev_fz L xs H2) (fun s3 q3 => ?_)
                obtain ⟨H3, r3⟩ := q3
                refine pm_Fv.zeq rfl (by omega) rfl (fun h8 => ?_) (fun h8 => ?_)
                · refine pm_Fv.go 1 (f' := (129, 163, [(5, _), (4, _), (3, _), (0, _), (1, _), (2, _)], [_])) rfl ?_
                  refine pm_Fv.cvF rfl rfl rfl rfl (by decide) (Nat.le_of_ble_eq_true rfl) (Nat.le_of_ble_eq_true rfl) H3.m199 H3.o199 (ev_beg L xs H3 h) (fun s4 q4 => ?_)
                  obtain ⟨H4, r4⟩ := q4
                  refine pm_Fv.go 4 (f' := (129, 172, [(5, _), (4, _), (3, _), (0, _), (1, _), (2, _)], [_, _])) rfl ?_
                  refine pm_Fv.jge rfl (by omega) rfl (fun h9 => ?_) (fun h9 => ?_)
                  · exact absurd h9 (by omega)
                  · refine pm_Fv.go 1 (f' := (129, 176, [(5, _), (4, _), (3, _), (0, _), (1, _), (2, _)], [_])) rfl ?_
                    refine pm_Fv.zeq rfl (by omega) rfl (fun h10 => ?_) (fun h10 => ?_)
                    · refine pm_Fv.go 4 (f' := (129, 236, [(5, _), (4, _), (3, _), (0, _), (1, _), (2, _)], [_, _, _, _])) rfl ?_
                      refine pm_Fv.zeq rfl (by omega) rfl (fun h11 => ?_) (fun h11 => ?_)
                      · refine pm_Fv.go 1 (f' := (129, 244, [(5, _), (4, _), (3, _), (0, _), (1, _), (2, _)], [_, _, _, _])) rfl ?_
                        refine pm_Fv.cvF rfl rfl rfl rfl (by decide) (Nat.le_of_ble_eq_true rfl) (Nat.le_of_ble_eq_true rfl) H4.m199 H4.o199 (ev_pw L xs H4 h.l0 (by omega)) (fun s5 q5 => ?_)
                        obtain ⟨H5, r5⟩ := q5
                        refine pm_Fv.go 1 (f' := (129, 248, [(5, _), (4, _), (3, _), (0, _), (1, _), (2, _)], [_])) rfl ?_
                        refine pm_Fv.cvF rfl rfl rfl rfl (by decide) (Nat.le_of_ble_eq_true rfl) (Nat.le_of_ble_eq_true rfl) H5.m199 H5.o199 (ev_dne L xs H5 (z := hq_u z 29 0) h) (fun s6 q6 => ?_)
                        obtain ⟨H6, r6⟩ := q6
                        obtain ⟨z9, ar9, hd, H9⟩ := H6
                        have e9 := mo_ed_g hd
                        have gv : mo_g ar9 (I b) 4 = v := by
                          rw [e9.1, mo_w_g K9 (by omega) (by omega) (by omega)]
                          exact mo_pt_at _ _ _ _
                        refine pm_Fv.go 3 (f' := (129, 254, _, [_, _, _])) rfl ?_
                        refine pm_Fv.cv rfl rfl rfl rfl (by decide) (Nat.le_of_ble_eq_true rfl) (Nat.le_of_ble_eq_true rfl) H9.m199 H9.o199 (ev_g L xs H9 (e9.2.1.trans h.l0) (by omega)) ?_
                        rw [gv]
                        exact pm_Fv.rv rfl rfl ⟨rfl, ⟨z9, ar9, hd, H9⟩, (r6.trans (r5.trans (r4.trans (r3.trans (r2.trans r1)))))⟩
                      · exact absurd h11 (by omega)
                    · exact absurd h10 (by omega)
                · exact absurd h8 (by omega)
              · exact absurd h7 (by omega)
          · exact absurd h5 (by omega)
        · exact absurd h4 (by omega)
      · exact absurd h3 (by omega)
  · exact absurd h1 (by omega)
theorem ev_mstate0b (H : Hp σ ad z ar lr) (h : mo_H z ar) {n : Int} {I D : Int → Int} (M : mo_R (mo_g ar) (z 23) n I D) {b : Int} (b0 : 0 ≤ b) (b1 : b < n) (d0 : mo_g ar (I b) 10 ≤ 0) (d1 : mo_g ar (I b) 11 ≤ 0) : pm_Fv (tq_P L xs) (pm_enter 129 [.ref 199, .int (zI (I b)), .int (zI 3)]) σ (fun o s => o = .inl (some (.int (zI 3))) ∧ (∃ z' ar', mo_ed (hq_u z 29 0) ar (mo_pt (mo_g ar) (I b) 4 (3)) z' ar' ∧ Hp s ad z' ar' lr) ∧ s.2 = σ.2) := by
  show pm_Fv (tq_P L xs) (129, 0, [(0, .ref 199), (1, .int (zI (I b))), (2, .int (zI 3))], []) σ _
  have H0 : Hp σ ad (hq_u z 29 (z 29)) ar lr := by rw [hq_u_self]; exact H
  have hm : 0 ≤ z 23 ∧ z 23 ≤ 400 := ⟨M.m0, M.m4⟩
  have i0 := M.J.1 b b0 b1
  have i1 := M.lt b b0 b1
  have a0 := mo_g_r ar (I b) 10
  have a1 := mo_g_r ar (I b) 11
  have K9 := mo_pt_K (mo_g_K ar) (x := I b) (y := 4) (v := 3) (by omega)
  refine pm_Fv.go 3 (f' := (129, 3, [(0, _), (1, _), (2, _)], [_, _, _])) rfl ?_
  refine pm_Fv.cv rfl rfl rfl rfl (by decide) (Nat.le_of_ble_eq_true rfl) (Nat.le_of_ble_eq_true rfl) H0.m199 H0.o199 (ev_isT L xs H0 h.l0 M b0 b1) ?_
  refine pm_Fv.zne rfl (by omega) rfl (fun h1 => ?_) (fun h1 => ?_)
  · refine pm_Fv.go 2 (f' := (129, 15, [(0, _), (1, _), (2, _)], [_, _, _])) rfl ?_
    refine pm_Fv.cvF rfl rfl rfl rfl (by decide) (Nat.le_of_ble_eq_true rfl) (Nat.le_of_ble_eq_true rfl) H0.m199 H0.o199 (ev_fz L xs H0) (fun s1 q1 => ?_)
    obtain ⟨H1, r1⟩ := q1
    refine pm_Fv.zne rfl (by omega) rfl (fun h2 => ?_) (fun h2 => ?_)
    · exact absurd h2 (by omega)
    · refine pm_Fv.go 4 (f' := (129, 25, [(0, _), (1, _), (2, _)], [_, _, _, _])) rfl ?_
      refine pm_Fv.call rfl rfl rfl rfl rfl (ev_w1 L xs (by omega) (by omega)) ?_
      refine pm_Fv.zne rfl (by omega) rfl (fun h3 => ?_) (fun h3 => ?_)
      · refine pm_Fv.go 2 (f' := (129, 37, [(0, _), (1, _), (2, _)], [_, _, _])) rfl ?_
        refine pm_Fv.cvF rfl rfl rfl rfl (by decide) (Nat.le_of_ble_eq_true rfl) (Nat.le_of_ble_eq_true rfl) H1.m199 H1.o199 (ev_fz L xs H1) (fun s2 q2 => ?_)
        obtain ⟨H2, r2⟩ := q2
        refine pm_Fv.zeq rfl (by omega) rfl (fun h4 => ?_) (fun h4 => ?_)
        · refine pm_Fv.go 2 (f' := (129, 47, [(0, _), (1, _), (2, _)], [_, _])) rfl ?_
          refine pm_Fv.jne rfl (by omega) rfl (fun h5 => ?_) (fun h5 => ?_)
          · exact absurd h5 (by omega)
          · refine pm_Fv.go 2 (f' := (129, 52, [(0, _), (1, _), (2, _)], [_, _])) rfl ?_
            refine pm_Fv.bp rfl rfl ?_
            refine pm_Fv.cv rfl rfl rfl rfl (by decide) (Nat.le_of_ble_eq_true rfl) (Nat.le_of_ble_eq_true rfl) H2.m199 H2.o199 (ev_g L xs H2 h.l0 (by omega)) ?_
            refine pm_Fv.zgt rfl (by omega) rfl (fun h6 => ?_) (fun h6 => ?_)
            · exact absurd h6 (by omega)
            · refine pm_Fv.go 2 (f' := (129, 62, [(0, _), (1, _), (2, _)], [_, _])) rfl ?_
              refine pm_Fv.bp rfl rfl ?_
              refine pm_Fv.cv rfl rfl rfl rfl (by decide) (Nat.le_of_ble_eq_true rfl) (Nat.le_of_ble_eq_true rfl) H2.m199 H2.o199 (ev_g L xs H2 h.l0 (by omega)) ?_
              refine pm_Fv.zle rfl (by omega) rfl (fun h7 => ?_) (fun h7 => ?_)
              · refine pm_Fv.go 8 (f' := (129, 85, [(5, _), (4, _), (3, _), (0, _), (1, _), (2, _)], [_, _])) rfl ?_
                refine pm_Fv.jge rfl (by omega) rfl (fun h8 => ?_) (fun h8 => ?_)
                · exact absurd h8 (by omega)
                · refine pm_Fv.go 1 (f' := (129, 89, [(5, _), (4, _), (3, _), (0, _), (1, _), (2, _)], [_])) rfl ?_
                  refine pm_Fv.zeq rfl (by omega) rfl (fun h9 => ?_) (fun h9 => ?_)
                  · refine pm_Fv.go 3 (f' := (129, 154, [(5, _), (4, _), (3, _), (0, _), (1, _), (2, _)], [_, _, _])) rfl ?_
                    refine pm_Fv.cvF rfl rfl rfl rfl (by decide) (Nat.le_of_ble_eq_true rfl) (Nat.le_of_ble_eq_true rfl) H2.m199 H2.o199 (ev_fz L xs H2) (fun s3 q3 => ?_)
                    obtain ⟨H3, r3⟩ := q3
                    refine pm_Fv.zeq rfl (by omega) rfl (fun h10 => ?_) (fun h10 => ?_)
                    · refine pm_Fv.go 1 (f' := (129, 163, [(5, _), (4, _), (3, _), (0, _), (1, _), (2, _)], [_])) rfl ?_
                      refine pm_Fv.cvF rfl rfl rfl rfl (by decide) (Nat.le_of_ble_eq_true rfl) (Nat.le_of_ble_eq_true rfl) H3.m199 H3.o199 (ev_beg L xs H3 h) (fun s4 q4 => ?_)
                      obtain ⟨H4, r4⟩ := q4
                      refine pm_Fv.go 4 (f' := (129, 172, [(5, _), (4, _), (3, _), (0, _), (1, _), (2, _)], [_, _])) rfl ?_
                      refine pm_Fv.jge rfl (by omega) rfl (fun h11 => ?_) (fun h11 => ?_)
                      · exact absurd h11 (by omega)
                      · refine pm_Fv.go 1 (f' := (129, 176, [(5, _), (4, _), (3, _), (0, _), (1, _), (2, _)], [_])) rfl ?_
                        refine pm_Fv.zeq rfl (by omega) rfl (fun h12 => ?_) (fun h12 => ?_)
                        · refine pm_Fv.go 4 (f' := (129, 236, [(5, _), (4, _), (3, _), (0, _), (1, _), (2, _)], [_, _, _, _])) rfl ?_
                          refine pm_Fv.zeq rfl (by omega) rfl (fun h13 => ?_) (fun h13 => ?_)
                          · refine pm_Fv.go 1 (f' := (129, 244, [(5, _), (4, _), (3, _), (0, _), (1, _), (2, _)], [_, _, _, _])) rfl ?_
                            refine pm_Fv.cvF rfl rfl rfl rfl (by decide) (Nat.le_of_ble_eq_true rfl) (Nat.le_of_ble_eq_true rfl) H4.m199 H4.o199 (ev_pw L xs H4 h.l0 (by omega)) (fun s5 q5 => ?_)
                            obtain ⟨H5, r5⟩ := q5
                            refine pm_Fv.go 1 (f' := (129, 248, [(5, _), (4, _), (3, _), (0, _), (1, _), (2, _)], [_])) rfl ?_
                            refine pm_Fv.cvF rfl rfl rfl rfl (by decide) (Nat.le_of_ble_eq_true rfl) (Nat.le_of_ble_eq_true rfl) H5.m199 H5.o199 (ev_dne L xs H5 (z := hq_u z 29 0) h) (fun s6 q6 => ?_)
                            obtain ⟨H6, r6⟩ := q6
                            obtain ⟨z9, ar9, hd, H9⟩ := H6
                            have e9 := mo_ed_g hd
                            have gv : mo_g ar9 (I b) 4 = 3 := by
                              rw [e9.1, mo_w_g K9 (by omega) (by omega) (by omega)]
                              exact mo_pt_at _ _ _ _
                            refine pm_Fv.go 3 (f' := (129, 254, _, [_, _, _])) rfl ?_
                            refine pm_Fv.cv rfl rfl rfl rfl (by decide) (Nat.le_of_ble_eq_true rfl) (Nat.le_of_ble_eq_true rfl) H9.m199 H9.o199 (ev_g L xs H9 (e9.2.1.trans h.l0) (by omega)) ?_
                            rw [gv]
                            exact pm_Fv.rv rfl rfl ⟨rfl, ⟨z9, ar9, hd, H9⟩, (r6.trans (r5.trans (r4.trans (r3.trans (r2.trans r1)))))⟩
                          · exact absurd h13 (by omega)
                        · exact absurd h12 (by omega)
                    · exact absurd h10 (by omega)
                  · exact absurd h9 (by omega)
              · exact absurd h7 (by omega)
        · exact absurd h4 (by omega)
      · exact absurd h3 (by omega)
  · exact absurd h1 (by omega)
theorem ev_mstate0zo (H : Hp σ ad z ar lr) (h : mo_H z ar) {n : Int} {I D : Int → Int} (M : mo_R (mo_g ar) (z 23) n I D) {b : Int} (b0 : 0 ≤ b) (b1 : b < n) (d0 : mo_g ar (I b) 10 ≤ 0) (d1 : 0 < mo_g ar (I b) 11) {y1 : Int} (m1 : ∀ s z' ar' ad', Hp s ad' z' ar' lr → z' 26 = z 26 → pm_Ev (tq_P L xs) (pm_enter 145 [.ref 199, .int (zI (mo_g ar (I b) 9)), .int (zI (mo_g ar (I b) 11))]) s (.inl (some (.int (zI y1))), s)) (q1 : -2147483648 ≤ y1 ∧ y1 ≤ 2147483647) (l1 : y1 ≤ 3652058) : pm_Fv (tq_P L xs) (pm_enter 129 [.ref 199, .int (zI (I b)), .int (zI 3)]) σ (fun o s => o = .inl (some (.int (zI 1))) ∧ (∃ z' ar', mo_ed (hq_u z 29 0) ar (mo_pt (mo_pt (mo_g ar) (I b) 9 (y1)) (I b) 4 (1)) z' ar' ∧ Hp s ad z' ar' lr) ∧ s.2 = σ.2) := by
  show pm_Fv (tq_P L xs) (129, 0, [(0, .ref 199), (1, .int (zI (I b))), (2, .int (zI 3))], []) σ _
  have H0 : Hp σ ad (hq_u z 29 (z 29)) ar lr := by rw [hq_u_self]; exact H
  have hm : 0 ≤ z 23 ∧ z 23 ≤ 400 := ⟨M.m0, M.m4⟩
  have i0 := M.J.1 b b0 b1
  have i1 := M.lt b b0 b1
  have a0 := mo_g_r ar (I b) 10
  have a1 := mo_g_r ar (I b) 11
  have K9 := mo_pt_K (mo_pt_K (mo_g_K ar) (x := I b) (y := 9) (v := y1) (by omega)) (x := I b) (y := 4) (v := 1) (by omega)
  refine pm_Fv.go 3 (f' := (129, 3, [(0, _), (1, _), (2, _)], [_, _, _])) rfl ?_
  refine pm_Fv.cv rfl rfl rfl rfl (by decide) (Nat.le_of_ble_eq_true rfl) (Nat.le_of_ble_eq_true rfl) H0.m199 H0.o199 (ev_isT L xs H0 h.l0 M b0 b1) ?_
  refine pm_Fv.zne rfl (by omega) rfl (fun h1 => ?_) (fun h1 => ?_)
  · refine pm_Fv.go 2 (f' := (129, 15, [(0, _), (1, _), (2, _)], [_, _, _])) rfl ?_
    refine pm_Fv.cvF rfl rfl rfl rfl (by decide) (Nat.le_of_ble_eq_true rfl) (Nat.le_of_ble_eq_true rfl) H0.m199 H0.o199 (ev_fz L xs H0) (fun s1 q1 => ?_)
    obtain ⟨H1, r1⟩ := q1
    refine pm_Fv.zne rfl (by omega) rfl (fun h2 => ?_) (fun h2 => ?_)
    · exact absurd h2 (by omega)
    · refine pm_Fv.go 4 (f' := (129, 25, [(0, _), (1, _), (2, _)], [_, _, _, _])) rfl ?_
      refine pm_Fv.call rfl rfl rfl rfl rfl (ev_w1 L xs (by omega) (by omega)) ?_
      refine pm_Fv.zne rfl (by omega) rfl (fun h3 => ?_) (fun h3 => ?_)
      · refine pm_Fv.go 2 (f' := (129, 37, [(0, _), (1, _), (2, _)], [_, _, _])) rfl ?_
        refine pm_Fv.cvF rfl rfl rfl rfl (by decide) (Nat.le_of_ble_eq_true rfl) (Nat.le_of_ble_eq_true rfl) H1.m199 H1.o199 (ev_fz L xs H1) (fun s2 q2 => ?_)
        obtain ⟨H2, r2⟩ := q2
        refine pm_Fv.zeq rfl (by omega) rfl (fun h4 => ?_) (fun h4 => ?_)
        · refine pm_Fv.go 2 (f' := (129, 47, [(0, _), (1, _), (2, _)], [_, _])) rfl ?_
          refine pm_Fv.jne rfl (by omega) rfl (fun h5 => ?_) (fun h5 => ?_)
          · exact absurd h5 (by omega)
          · refine pm_Fv.go 2 (f' := (129, 52, [(0, _), (1, _), (2, _)], [_, _])) rfl ?_
            refine pm_Fv.bp rfl rfl ?_
            refine pm_Fv.cv rfl rfl rfl rfl (by decide) (Nat.le_of_ble_eq_true rfl) (Nat.le_of_ble_eq_true rfl) H2.m199 H2.o199 (ev_g L xs H2 h.l0 (by omega)) ?_
            refine pm_Fv.zgt rfl (by omega) rfl (fun h6 => ?_) (fun h6 => ?_)
            · exact absurd h6 (by omega)
            · refine pm_Fv.go 2 (f' := (129, 62, [(0, _), (1, _), (2, _)], [_, _])) rfl ?_
              refine pm_Fv.bp rfl rfl ?_
              refine pm_Fv.cv rfl rfl rfl rfl (by decide) (Nat.le_of_ble_eq_true rfl) (Nat.le_of_ble_eq_true rfl) H2.m199 H2.o199 (ev_g L xs H2 h.l0 (by omega)) ?_
              refine pm_Fv.zle rfl (by omega) rfl (fun h7 => ?_) (fun h7 => ?_)
              · exact absurd h7 (by omega)
              · refine pm_Fv.go 9 (f' := (129, 85, [(5, _), (4, _), (3, _), (0, _), (1, _), (2, _)], [_, _])) rfl ?_
                refine pm_Fv.jge rfl (by omega) rfl (fun h8 => ?_) (fun h8 => ?_)
                · exact absurd h8 (by omega)
                · refine pm_Fv.go 1 (f' := (129, 89, [(5, _), (4, _), (3, _), (0, _), (1, _), (2, _)], [_])) rfl ?_
                  refine pm_Fv.zeq rfl (by omega) rfl (fun h9 => ?_) (fun h9 => ?_)
                  · exact absurd h9 (by omega)
                  · refine pm_Fv.go 3 (f' := (129, 96, [(5, _), (4, _), (3, _), (0, _), (1, _), (2, _)], [_, _, _])) rfl ?_
                    refine pm_Fv.bp rfl rfl ?_
                    refine pm_Fv.go 1 (f' := (129, 100, [(5, _), (4, _), (3, _), (0, _), (1, _), (2, _)], [_, _, _, _, _])) rfl ?_
                    refine pm_Fv.iadd rfl ?_
                    rw [show (10 : Int) + 0 = 10 from rfl]
                    refine pm_Fv.cv rfl rfl rfl rfl (by decide) (Nat.le_of_ble_eq_true rfl) (Nat.le_of_ble_eq_true rfl) H2.m199 H2.o199 (ev_g L xs H2 h.l0 (by omega)) ?_
                    refine pm_Fv.zle rfl (by omega) rfl (fun h10 => ?_) (fun h10 => ?_)
                    · refine pm_Fv.go 1 (f' := (129, 141, [(5, _), (4, _), (3, _), (0, _), (1, _), (2, _)], [_, _])) rfl ?_
                      refine pm_Fv.ior rfl ?_
                      rw [show zor 0 0 = 0 from by decide]
                      refine pm_Fv.go 1 (f' := (129, 144, [(4, _), (5, _), (3, _), (0, _), (1, _), (2, _)], [])) rfl ?_
                      refine pm_Fv.inc rfl rfl (Nat.le_of_ble_eq_true rfl) ?_
                      rw [show (0 : Int) + 1 = 1 from rfl]
                      refine pm_Fv.go 3 (f' := (129, 85, [(5, _), (4, _), (3, _), (0, _), (1, _), (2, _)], [_, _])) rfl ?_
                      refine pm_Fv.jge rfl (by omega) rfl (fun h11 => ?_) (fun h11 => ?_)
                      · exact absurd h11 (by omega)
                      · refine pm_Fv.go 1 (f' := (129, 89, [(5, _), (4, _), (3, _), (0, _), (1, _), (2, _)], [_])) rfl ?_
                        refine pm_Fv.zeq rfl (by omega) rfl (fun h12 => ?_) (fun h12 => ?_)
                        · exact absurd h12 (by omega)
                        · refine pm_Fv.go 3 (f' := (129, 96, [(5, _), (4, _), (3, _), (0, _), (1, _), (2, _)], [_, _, _])) rfl ?_
                          refine pm_Fv.bp rfl rfl ?_
                          refine pm_Fv.go 1 (f' := (129, 100, [(5, _), (4, _), (3, _), (0, _), (1, _), (2, _)], [_, _, _, _, _])) rfl ?_
                          refine pm_Fv.iadd rfl ?_
                          rw [show (10 : Int) + 1 = 11 from rfl]
                          refine pm_Fv.cv rfl rfl rfl rfl (by decide) (Nat.le_of_ble_eq_true rfl) (Nat.le_of_ble_eq_true rfl) H2.m199 H2.o199 (ev_g L xs H2 h.l0 (by omega)) ?_
                          refine pm_Fv.zle rfl (by omega) rfl (fun h13 => ?_) (fun h13 => ?_)
                          · exact absurd h13 (by omega)
                          · refine pm_Fv.go 3 (f' := (129, 110, [(5, _), (4, _), (3, _), (0, _), (1, _), (2, _)], [_, _, _, _])) rfl ?_
                            refine pm_Fv.bp rfl rfl ?_
                            refine pm_Fv.go 1 (f' := (129, 114, [(5, _), (4, _), (3, _), (0, _), (1, _), (2, _)], [_, _, _, _, _, _])) rfl ?_
                            refine pm_Fv.iadd rfl ?_
                            rw [show (8 : Int) + 1 = 9 from rfl]
                            refine pm_Fv.cv rfl rfl rfl rfl (by decide) (Nat.le_of_ble_eq_true rfl) (Nat.le_of_ble_eq_true rfl) H2.m199 H2.o199 (ev_g L xs H2 h.l0 (by omega)) ?_
                            refine pm_Fv.go 2 (f' := (129, 120, [(5, _), (4, _), (3, _), (0, _), (1, _), (2, _)], [_, _, _, _, _])) rfl ?_
                            refine pm_Fv.bp rfl rfl ?_
                            refine pm_Fv.go 1 (f' := (129, 124, [(5, _), (4, _), (3, _), (0, _), (1, _), (2, _)], [_, _, _, _, _, _, _])) rfl ?_
                            refine pm_Fv.iadd rfl ?_
                            rw [show (10 : Int) + 1 = 11 from rfl]
                            refine pm_Fv.cv rfl rfl rfl rfl (by decide) (Nat.le_of_ble_eq_true rfl) (Nat.le_of_ble_eq_true rfl) H2.m199 H2.o199 (ev_g L xs H2 h.l0 (by omega)) ?_
                            refine pm_Fv.cv rfl rfl rfl rfl (by decide) (Nat.le_of_ble_eq_true rfl) (Nat.le_of_ble_eq_true rfl) H2.m199 H2.o199 (m1 _ _ _ _ H2 rfl) ?_
                            refine pm_Fv.cc1 (3652058) rfl rfl rfl ?_
                            refine pm_Fv.jle rfl (by omega) rfl (fun h14 => ?_) (fun h14 => ?_)
                            · refine pm_Fv.go 1 (f' := (129, 141, [(5, _), (4, _), (3, _), (0, _), (1, _), (2, _)], [_, _])) rfl ?_
                              refine pm_Fv.ior rfl ?_
                              rw [show zor 0 0 = 0 from by decide]
                              refine pm_Fv.go 1 (f' := (129, 144, [(4, _), (5, _), (3, _), (0, _), (1, _), (2, _)], [])) rfl ?_
                              refine pm_Fv.inc rfl rfl (Nat.le_of_ble_eq_true rfl) ?_
                              rw [show (1 : Int) + 1 = 2 from rfl]
                              refine pm_Fv.go 3 (f' := (129, 85, [(5, _), (4, _), (3, _), (0, _), (1, _), (2, _)], [_, _])) rfl ?_
                              refine pm_Fv.jge rfl (by omega) rfl (fun h15 => ?_) (fun h15 => ?_)
                              · refine pm_Fv.go 3 (f' := (129, 154, [(5, _), (4, _), (3, _), (0, _), (1, _), (2, _)], [_, _, _])) rfl ?_
                                refine pm_Fv.cvF rfl rfl rfl rfl (by decide) (Nat.le_of_ble_eq_true rfl) (Nat.le_of_ble_eq_true rfl) H2.m199 H2.o199 (ev_fz L xs H2) (fun s3 q3 => ?_)
                                obtain ⟨H3, r3⟩ := q3
                                refine pm_Fv.zeq rfl (by omega) rfl (fun h16 => ?_) (fun h16 => ?_)
                                · refine pm_Fv.go 1 (f' := (129, 163, [(5, _), (4, _), (3, _), (0, _), (1, _), (2, _)], [_])) rfl ?_
                                  refine pm_Fv.cvF rfl rfl rfl rfl (by decide) (Nat.le_of_ble_eq_true rfl) (Nat.le_of_ble_eq_true rfl) H3.m199 H3.o199 (ev_beg L xs H3 h) (fun s4 q4 => ?_)
                                  obtain ⟨H4, r4⟩ := q4
                                  refine pm_Fv.go 4 (f' := (129, 172, [(5, _), (4, _), (3, _), (0, _), (1, _), (2, _)], [_, _])) rfl ?_
                                  refine pm_Fv.jge rfl (by omega) rfl (fun h17 => ?_) (fun h17 => ?_)
                                  · exact absurd h17 (by omega)
                                  · refine pm_Fv.go 1 (f' := (129, 176, [(5, _), (4, _), (3, _), (0, _), (1, _), (2, _)], [_])) rfl ?_
                                    refine pm_Fv.zeq rfl (by omega) rfl (fun h18 => ?_) (fun h18 => ?_)
                                    · exact absurd h18 (by omega)
                                    · refine pm_Fv.go 2 (f' := (129, 181, [(5, _), (4, _), (3, _), (0, _), (1, _), (2, _)], [_, _])) rfl ?_
                                      refine pm_Fv.bp rfl rfl ?_
                                      refine pm_Fv.go 1 (f' := (129, 185, [(5, _), (4, _), (3, _), (0, _), (1, _), (2, _)], [_, _, _, _])) rfl ?_
                                      refine pm_Fv.iadd rfl ?_
                                      rw [show (10 : Int) + 0 = 10 from rfl]
                                      refine pm_Fv.cv rfl rfl rfl rfl (by decide) (Nat.le_of_ble_eq_true rfl) (Nat.le_of_ble_eq_true rfl) H4.m199 H4.o199 (ev_gw L xs H4 h.l0 (by first | exact mo_g_K ar | exact K8) (by omega)) ?_
                                      first | rw [mo_pt_f (by decide)] | skip
                                      refine pm_Fv.zle rfl (by omega) rfl (fun h19 => ?_) (fun h19 => ?_)
                                      · refine pm_Fv.inc rfl rfl (Nat.le_of_ble_eq_true rfl) ?_
                                        rw [show (0 : Int) + 1 = 1 from rfl]
                                        refine pm_Fv.go 3 (f' := (129, 172, [(5, _), (4, _), (3, _), (0, _), (1, _), (2, _)], [_, _])) rfl ?_
                                        refine pm_Fv.jge rfl (by omega) rfl (fun h20 => ?_) (fun h20 => ?_)
                                        · exact absurd h20 (by omega)
                                        · refine pm_Fv.go 1 (f' := (129, 176, [(5, _), (4, _), (3, _), (0, _), (1, _), (2, _)], [_])) rfl ?_
                                          refine pm_Fv.zeq rfl (by omega) rfl (fun h21 => ?_) (fun h21 => ?_)
                                          · exact absurd h21 (by omega)
                                          · refine pm_Fv.go 2 (f' := (129, 181, [(5, _), (4, _), (3, _), (0, _), (1, _), (2, _)], [_, _])) rfl ?_
                                            refine pm_Fv.bp rfl rfl ?_
                                            refine pm_Fv.go 1 (f' := (129, 185, [(5, _), (4, _), (3, _), (0, _), (1, _), (2, _)], [_, _, _, _])) rfl ?_
                                            refine pm_Fv.iadd rfl ?_
                                            rw [show (10 : Int) + 1 = 11 from rfl]
                                            refine pm_Fv.cv rfl rfl rfl rfl (by decide) (Nat.le_of_ble_eq_true rfl) (Nat.le_of_ble_eq_true rfl) H4.m199 H4.o199 (ev_gw L xs H4 h.l0 (by first | exact mo_g_K ar | exact K8) (by omega)) ?_
                                            first | rw [mo_pt_f (by decide)] | skip
                                            refine pm_Fv.zle rfl (by omega) rfl (fun h22 => ?_) (fun h22 => ?_)
                                            · exact absurd h22 (by omega)
                                            · refine pm_Fv.go 2 (f' := (129, 194, [(5, _), (4, _), (3, _), (0, _), (1, _), (2, _)], [_, _])) rfl ?_
                                              refine pm_Fv.bp rfl rfl ?_
                                              refine pm_Fv.go 1 (f' := (129, 198, [(5, _), (4, _), (3, _), (0, _), (1, _), (2, _)], [_, _, _, _])) rfl ?_
                                              refine pm_Fv.iadd rfl ?_
                                              rw [show (8 : Int) + 1 = 9 from rfl]
                                              refine pm_Fv.go 3 (f' := (129, 202, [(5, _), (4, _), (3, _), (0, _), (1, _), (2, _)], [_, _, _, _, _, _])) rfl ?_
                                              refine pm_Fv.bp rfl rfl ?_
                                              refine pm_Fv.go 1 (f' := (129, 206, [(5, _), (4, _), (3, _), (0, _), (1, _), (2, _)], [_, _, _, _, _, _, _, _])) rfl ?_
                                              refine pm_Fv.iadd rfl ?_
                                              rw [show (8 : Int) + 1 = 9 from rfl]
                                              refine pm_Fv.cv rfl rfl rfl rfl (by decide) (Nat.le_of_ble_eq_true rfl) (Nat.le_of_ble_eq_true rfl) H4.m199 H4.o199 (ev_gw L xs H4 h.l0 (by first | exact mo_g_K ar | exact K8) (by omega)) ?_
                                              first | rw [mo_pt_f (by decide)] | skip
                                              refine pm_Fv.go 2 (f' := (129, 212, [(5, _), (4, _), (3, _), (0, _), (1, _), (2, _)], [_, _, _, _, _, _, _])) rfl ?_
                                              refine pm_Fv.bp rfl rfl ?_
                                              refine pm_Fv.go 1 (f' := (129, 216, [(5, _), (4, _), (3, _), (0, _), (1, _), (2, _)], [_, _, _, _, _, _, _, _, _])) rfl ?_
                                              refine pm_Fv.iadd rfl ?_
                                              rw [show (10 : Int) + 1 = 11 from rfl]
                                              refine pm_Fv.cv rfl rfl rfl rfl (by decide) (Nat.le_of_ble_eq_true rfl) (Nat.le_of_ble_eq_true rfl) H4.m199 H4.o199 (ev_gw L xs H4 h.l0 (by first | exact mo_g_K ar | exact K8) (by omega)) ?_
                                              first | rw [mo_pt_f (by decide)] | skip
                                              refine pm_Fv.cv rfl rfl rfl rfl (by decide) (Nat.le_of_ble_eq_true rfl) (Nat.le_of_ble_eq_true rfl) H4.m199 H4.o199 (m1 _ _ _ _ H4 rfl) ?_
                                              refine pm_Fv.cvF rfl rfl rfl rfl (by decide) (Nat.le_of_ble_eq_true rfl) (Nat.le_of_ble_eq_true rfl) H4.m199 H4.o199 (ev_pw L xs H4 h.l0 (by omega)) (fun s5 q5 => ?_)
                                              obtain ⟨H5, r5⟩ := q5
                                              refine pm_Fv.inc rfl rfl (Nat.le_of_ble_eq_true rfl) ?_
                                              rw [show (1 : Int) + 1 = 2 from rfl]
                                              refine pm_Fv.go 3 (f' := (129, 172, [(5, _), (4, _), (3, _), (0, _), (1, _), (2, _)], [_, _])) rfl ?_
                                              refine pm_Fv.jge rfl (by omega) rfl (fun h23 => ?_) (fun h23 => ?_)
                                              · refine pm_Fv.go 4 (f' := (129, 236, [(5, _), (4, _), (3, _), (0, _), (1, _), (2, _)], [_, _, _, _])) rfl ?_
                                                refine pm_Fv.zeq rfl (by omega) rfl (fun h24 => ?_) (fun h24 => ?_)
                                                · exact absurd h24 (by omega)
                                                · refine pm_Fv.go 2 (f' := (129, 244, [(5, _), (4, _), (3, _), (0, _), (1, _), (2, _)], [_, _, _, _])) rfl ?_
                                                  refine pm_Fv.cvF rfl rfl rfl rfl (by decide) (Nat.le_of_ble_eq_true rfl) (Nat.le_of_ble_eq_true rfl) H5.m199 H5.o199 (ev_pw L xs H5 h.l0 (by omega)) (fun s6 q6 => ?_)
                                                  obtain ⟨H6, r6⟩ := q6
                                                  refine pm_Fv.go 1 (f' := (129, 248, [(5, _), (4, _), (3, _), (0, _), (1, _), (2, _)], [_])) rfl ?_
                                                  refine pm_Fv.cvF rfl rfl rfl rfl (by decide) (Nat.le_of_ble_eq_true rfl) (Nat.le_of_ble_eq_true rfl) H6.m199 H6.o199 (ev_dne L xs H6 (z := hq_u z 29 0) h) (fun s7 q7 => ?_)
                                                  obtain ⟨H7, r7⟩ := q7
                                                  obtain ⟨z9, ar9, hd, H9⟩ := H7
                                                  have e9 := mo_ed_g hd
                                                  have gv : mo_g ar9 (I b) 4 = 1 := by
                                                    rw [e9.1, mo_w_g K9 (by omega) (by omega) (by omega)]
                                                    exact mo_pt_at _ _ _ _
                                                  refine pm_Fv.go 3 (f' := (129, 254, _, [_, _, _])) rfl ?_
                                                  refine pm_Fv.cv rfl rfl rfl rfl (by decide) (Nat.le_of_ble_eq_true rfl) (Nat.le_of_ble_eq_true rfl) H9.m199 H9.o199 (ev_g L xs H9 (e9.2.1.trans h.l0) (by omega)) ?_
                                                  rw [gv]
                                                  exact pm_Fv.rv rfl rfl ⟨rfl, ⟨z9, ar9, hd, H9⟩, (r7.trans (r6.trans (r5.trans (r4.trans (r3.trans (r2.trans r1))))))⟩
                                              · exact absurd h23 (by omega)
                                      · exact absurd h19 (by omega)
                                · exact absurd h16 (by omega)
                              · exact absurd h15 (by omega)
                            · exact absurd h14 (by omega)
                    · exact absurd h10 (by omega)
        · exact absurd h4 (by omega)
      · exact absurd h3 (by omega)
  · exact absurd h1 (by omega)
theorem ev_mstate3zx (H : Hp σ ad z ar lr) (h : mo_H z ar) {n : Int} {I D : Int → Int} (M : mo_R (mo_g ar) (z 23) n I D) {b : Int} (b0 : 0 ≤ b) (b1 : b < n) (d0 : mo_g ar (I b) 10 ≤ 0) (d1 : 0 < mo_g ar (I b) 11) {y1 : Int} (m1 : ∀ s z' ar' ad', Hp s ad' z' ar' lr → z' 26 = z 26 → pm_Ev (tq_P L xs) (pm_enter 145 [.ref 199, .int (zI (mo_g ar (I b) 9)), .int (zI (mo_g ar (I b) 11))]) s (.inl (some (.int (zI y1))), s)) (q1 : -2147483648 ≤ y1 ∧ y1 ≤ 2147483647) (l1 : 3652058 < y1) : pm_Fv (tq_P L xs) (pm_enter 129 [.ref 199, .int (zI (I b)), .int (zI 3)]) σ (fun o s => o = .inl (some (.int (zI 0))) ∧ Hp s ad (hq_u z 29 3) ar lr ∧ s.2 = σ.2) := by
  show pm_Fv (tq_P L xs) (129, 0, [(0, .ref 199), (1, .int (zI (I b))), (2, .int (zI 3))], []) σ _
  have H0 : Hp σ ad (hq_u z 29 (z 29)) ar lr := by rw [hq_u_self]; exact H
  have hm : 0 ≤ z 23 ∧ z 23 ≤ 400 := ⟨M.m0, M.m4⟩
  have i0 := M.J.1 b b0 b1
  have i1 := M.lt b b0 b1
  have a0 := mo_g_r ar (I b) 10
  have a1 := mo_g_r ar (I b) 11
  refine pm_Fv.go 3 (f' := (129, 3, [(0, _), (1, _), (2, _)], [_, _, _])) rfl ?_
  refine pm_Fv.cv rfl rfl rfl rfl (by decide) (Nat.le_of_ble_eq_true rfl) (Nat.le_of_ble_eq_true rfl) H0.m199 H0.o199 (ev_isT L xs H0 h.l0 M b0 b1) ?_
  refine pm_Fv.zne rfl (by omega) rfl (fun h1 => ?_) (fun h1 => ?_)
  · refine pm_Fv.go 2 (f' := (129, 15, [(0, _), (1, _), (2, _)], [_, _, _])) rfl ?_
    refine pm_Fv.cvF rfl rfl rfl rfl (by decide) (Nat.le_of_ble_eq_true rfl) (Nat.le_of_ble_eq_true rfl) H0.m199 H0.o199 (ev_fz L xs H0) (fun s1 q1 => ?_)
    obtain ⟨H1, r1⟩ := q1
    refine pm_Fv.zne rfl (by omega) rfl (fun h2 => ?_) (fun h2 => ?_)
    · exact absurd h2 (by omega)
    · refine pm_Fv.go 4 (f' := (129, 25, [(0, _), (1, _), (2, _)], [_, _, _, _])) rfl ?_
      refine pm_Fv.call rfl rfl rfl rfl rfl (ev_w1 L xs (by omega) (by omega)) ?_
      refine pm_Fv.zne rfl (by omega) rfl (fun h3 => ?_) (fun h3 => ?_)
      · refine pm_Fv.go 2 (f' := (129, 37, [(0, _), (1, _), (2, _)], [_, _, _])) rfl ?_
        refine pm_Fv.cvF rfl rfl rfl rfl (by decide) (Nat.le_of_ble_eq_true rfl) (Nat.le_of_ble_eq_true rfl) H1.m199 H1.o199 (ev_fz L xs H1) (fun s2 q2 => ?_)
        obtain ⟨H2, r2⟩ := q2
        refine pm_Fv.zeq rfl (by omega) rfl (fun h4 => ?_) (fun h4 => ?_)
        · refine pm_Fv.go 2 (f' := (129, 47, [(0, _), (1, _), (2, _)], [_, _])) rfl ?_
          refine pm_Fv.jne rfl (by omega) rfl (fun h5 => ?_) (fun h5 => ?_)
          · exact absurd h5 (by omega)
          · refine pm_Fv.go 2 (f' := (129, 52, [(0, _), (1, _), (2, _)], [_, _])) rfl ?_
            refine pm_Fv.bp rfl rfl ?_
            refine pm_Fv.cv rfl rfl rfl rfl (by decide) (Nat.le_of_ble_eq_true rfl) (Nat.le_of_ble_eq_true rfl) H2.m199 H2.o199 (ev_g L xs H2 h.l0 (by omega)) ?_
            refine pm_Fv.zgt rfl (by omega) rfl (fun h6 => ?_) (fun h6 => ?_)
            · exact absurd h6 (by omega)
            · refine pm_Fv.go 2 (f' := (129, 62, [(0, _), (1, _), (2, _)], [_, _])) rfl ?_
              refine pm_Fv.bp rfl rfl ?_
              refine pm_Fv.cv rfl rfl rfl rfl (by decide) (Nat.le_of_ble_eq_true rfl) (Nat.le_of_ble_eq_true rfl) H2.m199 H2.o199 (ev_g L xs H2 h.l0 (by omega)) ?_
              refine pm_Fv.zle rfl (by omega) rfl (fun h7 => ?_) (fun h7 => ?_)
              · exact absurd h7 (by omega)
              · refine pm_Fv.go 9 (f' := (129, 85, [(5, _), (4, _), (3, _), (0, _), (1, _), (2, _)], [_, _])) rfl ?_
                refine pm_Fv.jge rfl (by omega) rfl (fun h8 => ?_) (fun h8 => ?_)
                · exact absurd h8 (by omega)
                · refine pm_Fv.go 1 (f' := (129, 89, [(5, _), (4, _), (3, _), (0, _), (1, _), (2, _)], [_])) rfl ?_
                  refine pm_Fv.zeq rfl (by omega) rfl (fun h9 => ?_) (fun h9 => ?_)
                  · exact absurd h9 (by omega)
                  · refine pm_Fv.go 3 (f' := (129, 96, [(5, _), (4, _), (3, _), (0, _), (1, _), (2, _)], [_, _, _])) rfl ?_
                    refine pm_Fv.bp rfl rfl ?_
                    refine pm_Fv.go 1 (f' := (129, 100, [(5, _), (4, _), (3, _), (0, _), (1, _), (2, _)], [_, _, _, _, _])) rfl ?_
                    refine pm_Fv.iadd rfl ?_
                    rw [show (10 : Int) + 0 = 10 from rfl]
                    refine pm_Fv.cv rfl rfl rfl rfl (by decide) (Nat.le_of_ble_eq_true rfl) (Nat.le_of_ble_eq_true rfl) H2.m199 H2.o199 (ev_g L xs H2 h.l0 (by omega)) ?_
                    refine pm_Fv.zle rfl (by omega) rfl (fun h10 => ?_) (fun h10 => ?_)
                    · refine pm_Fv.go 1 (f' := (129, 141, [(5, _), (4, _), (3, _), (0, _), (1, _), (2, _)], [_, _])) rfl ?_
                      refine pm_Fv.ior rfl ?_
                      rw [show zor 0 0 = 0 from by decide]
                      refine pm_Fv.go 1 (f' := (129, 144, [(4, _), (5, _), (3, _), (0, _), (1, _), (2, _)], [])) rfl ?_
                      refine pm_Fv.inc rfl rfl (Nat.le_of_ble_eq_true rfl) ?_
                      rw [show (0 : Int) + 1 = 1 from rfl]
                      refine pm_Fv.go 3 (f' := (129, 85, [(5, _), (4, _), (3, _), (0, _), (1, _), (2, _)], [_, _])) rfl ?_
                      refine pm_Fv.jge rfl (by omega) rfl (fun h11 => ?_) (fun h11 => ?_)
                      · exact absurd h11 (by omega)
                      · refine pm_Fv.go 1 (f' := (129, 89, [(5, _), (4, _), (3, _), (0, _), (1, _), (2, _)], [_])) rfl ?_
                        refine pm_Fv.zeq rfl (by omega) rfl (fun h12 => ?_) (fun h12 => ?_)
                        · exact absurd h12 (by omega)
                        · refine pm_Fv.go 3 (f' := (129, 96, [(5, _), (4, _), (3, _), (0, _), (1, _), (2, _)], [_, _, _])) rfl ?_
                          refine pm_Fv.bp rfl rfl ?_
                          refine pm_Fv.go 1 (f' := (129, 100, [(5, _), (4, _), (3, _), (0, _), (1, _), (2, _)], [_, _, _, _, _])) rfl ?_
                          refine pm_Fv.iadd rfl ?_
                          rw [show (10 : Int) + 1 = 11 from rfl]
                          refine pm_Fv.cv rfl rfl rfl rfl (by decide) (Nat.le_of_ble_eq_true rfl) (Nat.le_of_ble_eq_true rfl) H2.m199 H2.o199 (ev_g L xs H2 h.l0 (by omega)) ?_
                          refine pm_Fv.zle rfl (by omega) rfl (fun h13 => ?_) (fun h13 => ?_)
                          · exact absurd h13 (by omega)
                          · refine pm_Fv.go 3 (f' := (129, 110, [(5, _), (4, _), (3, _), (0, _), (1, _), (2, _)], [_, _, _, _])) rfl ?_
                            refine pm_Fv.bp rfl rfl ?_
                            refine pm_Fv.go 1 (f' := (129, 114, [(5, _), (4, _), (3, _), (0, _), (1, _), (2, _)], [_, _, _, _, _, _])) rfl ?_
                            refine pm_Fv.iadd rfl ?_
                            rw [show (8 : Int) + 1 = 9 from rfl]
                            refine pm_Fv.cv rfl rfl rfl rfl (by decide) (Nat.le_of_ble_eq_true rfl) (Nat.le_of_ble_eq_true rfl) H2.m199 H2.o199 (ev_g L xs H2 h.l0 (by omega)) ?_
                            refine pm_Fv.go 2 (f' := (129, 120, [(5, _), (4, _), (3, _), (0, _), (1, _), (2, _)], [_, _, _, _, _])) rfl ?_
                            refine pm_Fv.bp rfl rfl ?_
                            refine pm_Fv.go 1 (f' := (129, 124, [(5, _), (4, _), (3, _), (0, _), (1, _), (2, _)], [_, _, _, _, _, _, _])) rfl ?_
                            refine pm_Fv.iadd rfl ?_
                            rw [show (10 : Int) + 1 = 11 from rfl]
                            refine pm_Fv.cv rfl rfl rfl rfl (by decide) (Nat.le_of_ble_eq_true rfl) (Nat.le_of_ble_eq_true rfl) H2.m199 H2.o199 (ev_g L xs H2 h.l0 (by omega)) ?_
                            refine pm_Fv.cv rfl rfl rfl rfl (by decide) (Nat.le_of_ble_eq_true rfl) (Nat.le_of_ble_eq_true rfl) H2.m199 H2.o199 (m1 _ _ _ _ H2 rfl) ?_
                            refine pm_Fv.cc1 (3652058) rfl rfl rfl ?_
                            refine pm_Fv.jle rfl (by omega) rfl (fun h14 => ?_) (fun h14 => ?_)
                            · exact absurd h14 (by omega)
                            · refine pm_Fv.go 2 (f' := (129, 141, [(5, _), (4, _), (3, _), (0, _), (1, _), (2, _)], [_, _])) rfl ?_
                              refine pm_Fv.ior rfl ?_
                              rw [show zor 0 1 = 1 from by decide]
                              refine pm_Fv.go 1 (f' := (129, 144, [(4, _), (5, _), (3, _), (0, _), (1, _), (2, _)], [])) rfl ?_
                              refine pm_Fv.inc rfl rfl (Nat.le_of_ble_eq_true rfl) ?_
                              rw [show (1 : Int) + 1 = 2 from rfl]
                              refine pm_Fv.go 3 (f' := (129, 85, [(5, _), (4, _), (3, _), (0, _), (1, _), (2, _)], [_, _])) rfl ?_
                              refine pm_Fv.jge rfl (by omega) rfl (fun h15 => ?_) (fun h15 => ?_)
                              · refine pm_Fv.go 3 (f' := (129, 154, [(5, _), (4, _), (3, _), (0, _), (1, _), (2, _)], [_, _, _])) rfl ?_
                                refine pm_Fv.cvF rfl rfl rfl rfl (by decide) (Nat.le_of_ble_eq_true rfl) (Nat.le_of_ble_eq_true rfl) H2.m199 H2.o199 (ev_fo L xs H2) (fun s3 q3 => ?_)
                                obtain ⟨H3, r3⟩ := q3
                                refine pm_Fv.zeq rfl (by omega) rfl (fun h16 => ?_) (fun h16 => ?_)
                                · exact absurd h16 (by omega)
                                · refine pm_Fv.go 1 (f' := (129, 161, [(5, _), (4, _), (3, _), (0, _), (1, _), (2, _)], [_])) rfl ?_
                                  exact pm_Fv.rv rfl rfl ⟨rfl, H3, (r3.trans (r2.trans r1))⟩
                              · exact absurd h15 (by omega)
                    · exact absurd h10 (by omega)
        · exact absurd h4 (by omega)
      · exact absurd h3 (by omega)
  · exact absurd h1 (by omega)
theorem ev_mstate0oz (H : Hp σ ad z ar lr) (h : mo_H z ar) {n : Int} {I D : Int → Int} (M : mo_R (mo_g ar) (z 23) n I D) {b : Int} (b0 : 0 ≤ b) (b1 : b < n) (d0 : 0 < mo_g ar (I b) 10) {y0 : Int} (m0 : ∀ s z' ar' ad', Hp s ad' z' ar' lr → z' 26 = z 26 → pm_Ev (tq_P L xs) (pm_enter 145 [.ref 199, .int (zI (mo_g ar (I b) 8)), .int (zI (mo_g ar (I b) 10))]) s (.inl (some (.int (zI y0))), s)) (q0 : -2147483648 ≤ y0 ∧ y0 ≤ 2147483647) (l0 : y0 ≤ 3652058) (d1 : mo_g ar (I b) 11 ≤ 0) : pm_Fv (tq_P L xs) (pm_enter 129 [.ref 199, .int (zI (I b)), .int (zI 3)]) σ (fun o s => o = .inl (some (.int (zI 1))) ∧ (∃ z' ar', mo_ed (hq_u z 29 0) ar (mo_pt (mo_pt (mo_g ar) (I b) 8 (y0)) (I b) 4 (1)) z' ar' ∧ Hp s ad z' ar' lr) ∧ s.2 = σ.2) := by
  show pm_Fv (tq_P L xs) (129, 0, [(0, .ref 199), (1, .int (zI (I b))), (2, .int (zI 3))], []) σ _
  have H0 : Hp σ ad (hq_u z 29 (z 29)) ar lr := by rw [hq_u_self]; exact H
  have hm : 0 ≤ z 23 ∧ z 23 ≤ 400 := ⟨M.m0, M.m4⟩
  have i0 := M.J.1 b b0 b1
  have i1 := M.lt b b0 b1
  have a0 := mo_g_r ar (I b) 10
  have a1 := mo_g_r ar (I b) 11
  have K9 := mo_pt_K (mo_pt_K (mo_g_K ar) (x := I b) (y := 8) (v := y0) (by omega)) (x := I b) (y := 4) (v := 1) (by omega)
  have K8 := mo_pt_K (mo_g_K ar) (x := I b) (y := 8) (v := y0) (by omega)
  refine pm_Fv.go 3 (f' := (129, 3, [(0, _), (1, _), (2, _)], [_, _, _])) rfl ?_
  refine pm_Fv.cv rfl rfl rfl rfl (by decide) (Nat.le_of_ble_eq_true rfl) (Nat.le_of_ble_eq_true rfl) H0.m199 H0.o199 (ev_isT L xs H0 h.l0 M b0 b1) ?_
  refine pm_Fv.zne rfl (by omega) rfl (fun h1 => ?_) (fun h1 => ?_)
  · refine pm_Fv.go 2 (f' := (129, 15, [(0, _), (1, _), (2, _)], [_, _, _])) rfl ?_
    refine pm_Fv.cvF rfl rfl rfl rfl (by decide) (Nat.le_of_ble_eq_true rfl) (Nat.le_of_ble_eq_true rfl) H0.m199 H0.o199 (ev_fz L xs H0) (fun s1 q1 => ?_)
    obtain ⟨H1, r1⟩ := q1
    refine pm_Fv.zne rfl (by omega) rfl (fun h2 => ?_) (fun h2 => ?_)
    · exact absurd h2 (by omega)
    · refine pm_Fv.go 4 (f' := (129, 25, [(0, _), (1, _), (2, _)], [_, _, _, _])) rfl ?_
      refine pm_Fv.call rfl rfl rfl rfl rfl (ev_w1 L xs (by omega) (by omega)) ?_
      refine pm_Fv.zne rfl (by omega) rfl (fun h3 => ?_) (fun h3 => ?_)
      · refine pm_Fv.go 2 (f' := (129, 37, [(0, _), (1, _), (2, _)], [_, _, _])) rfl ?_
        refine pm_Fv.cvF rfl rfl rfl rfl (by decide) (Nat.le_of_ble_eq_true rfl) (Nat.le_of_ble_eq_true rfl) H1.m199 H1.o199 (ev_fz L xs H1) (fun s2 q2 => ?_)
        obtain ⟨H2, r2⟩ := q2
        refine pm_Fv.zeq rfl (by omega) rfl (fun h4 => ?_) (fun h4 => ?_)
        · refine pm_Fv.go 2 (f' := (129, 47, [(0, _), (1, _), (2, _)], [_, _])) rfl ?_
          refine pm_Fv.jne rfl (by omega) rfl (fun h5 => ?_) (fun h5 => ?_)
          · exact absurd h5 (by omega)
          · refine pm_Fv.go 2 (f' := (129, 52, [(0, _), (1, _), (2, _)], [_, _])) rfl ?_
            refine pm_Fv.bp rfl rfl ?_
            refine pm_Fv.cv rfl rfl rfl rfl (by decide) (Nat.le_of_ble_eq_true rfl) (Nat.le_of_ble_eq_true rfl) H2.m199 H2.o199 (ev_g L xs H2 h.l0 (by omega)) ?_
            refine pm_Fv.zgt rfl (by omega) rfl (fun h6 => ?_) (fun h6 => ?_)
            · refine pm_Fv.go 9 (f' := (129, 85, [(5, _), (4, _), (3, _), (0, _), (1, _), (2, _)], [_, _])) rfl ?_
              refine pm_Fv.jge rfl (by omega) rfl (fun h7 => ?_) (fun h7 => ?_)
              · exact absurd h7 (by omega)
              · refine pm_Fv.go 1 (f' := (129, 89, [(5, _), (4, _), (3, _), (0, _), (1, _), (2, _)], [_])) rfl ?_
                refine pm_Fv.zeq rfl (by omega) rfl (fun h8 => ?_) (fun h8 => ?_)
                · exact absurd h8 (by omega)
                · refine pm_Fv.go 3 (f' := (129, 96, [(5, _), (4, _), (3, _), (0, _), (1, _), (2, _)], [_, _, _])) rfl ?_
                  refine pm_Fv.bp rfl rfl ?_
                  refine pm_Fv.go 1 (f' := (129, 100, [(5, _), (4, _), (3, _), (0, _), (1, _), (2, _)], [_, _, _, _, _])) rfl ?_
                  refine pm_Fv.iadd rfl ?_
                  rw [show (10 : Int) + 0 = 10 from rfl]
                  refine pm_Fv.cv rfl rfl rfl rfl (by decide) (Nat.le_of_ble_eq_true rfl) (Nat.le_of_ble_eq_true rfl) H2.m199 H2.o199 (ev_g L xs H2 h.l0 (by omega)) ?_
                  refine pm_Fv.zle rfl (by omega) rfl (fun h9 => ?_) (fun h9 => ?_)
                  · exact absurd h9 (by omega)
                  · refine pm_Fv.go 3 (f' := (129, 110, [(5, _), (4, _), (3, _), (0, _), (1, _), (2, _)], [_, _, _, _])) rfl ?_
                    refine pm_Fv.bp rfl rfl ?_
                    refine pm_Fv.go 1 (f' := (129, 114, [(5, _), (4, _), (3, _), (0, _), (1, _), (2, _)], [_, _, _, _, _, _])) rfl ?_
                    refine pm_Fv.iadd rfl ?_
                    rw [show (8 : Int) + 0 = 8 from rfl]
                    refine pm_Fv.cv rfl rfl rfl rfl (by decide) (Nat.le_of_ble_eq_true rfl) (Nat.le_of_ble_eq_true rfl) H2.m199 H2.o199 (ev_g L xs H2 h.l0 (by omega)) ?_
                    refine pm_Fv.go 2 (f' := (129, 120, [(5, _), (4, _), (3, _), (0, _), (1, _), (2, _)], [_, _, _, _, _])) rfl ?_
                    refine pm_Fv.bp rfl rfl ?_
                    refine pm_Fv.go 1 (f' := (129, 124, [(5, _), (4, _), (3, _), (0, _), (1, _), (2, _)], [_, _, _, _, _, _, _])) rfl ?_
                    refine pm_Fv.iadd rfl ?_
                    rw [show (10 : Int) + 0 = 10 from rfl]
                    refine pm_Fv.cv rfl rfl rfl rfl (by decide) (Nat.le_of_ble_eq_true rfl) (Nat.le_of_ble_eq_true rfl) H2.m199 H2.o199 (ev_g L xs H2 h.l0 (by omega)) ?_
                    refine pm_Fv.cv rfl rfl rfl rfl (by decide) (Nat.le_of_ble_eq_true rfl) (Nat.le_of_ble_eq_true rfl) H2.m199 H2.o199 (m0 _ _ _ _ H2 rfl) ?_
                    refine pm_Fv.cc1 (3652058) rfl rfl rfl ?_
                    refine pm_Fv.jle rfl (by omega) rfl (fun h10 => ?_) (fun h10 => ?_)
                    · refine pm_Fv.go 1 (f' := (129, 141, [(5, _), (4, _), (3, _), (0, _), (1, _), (2, _)], [_, _])) rfl ?_
                      refine pm_Fv.ior rfl ?_
                      rw [show zor 0 0 = 0 from by decide]
                      refine pm_Fv.go 1 (f' := (129, 144, [(4, _), (5, _), (3, _), (0, _), (1, _), (2, _)], [])) rfl ?_
                      refine pm_Fv.inc rfl rfl (Nat.le_of_ble_eq_true rfl) ?_
                      rw [show (0 : Int) + 1 = 1 from rfl]
                      refine pm_Fv.go 3 (f' := (129, 85, [(5, _), (4, _), (3, _), (0, _), (1, _), (2, _)], [_, _])) rfl ?_
                      refine pm_Fv.jge rfl (by omega) rfl (fun h11 => ?_) (fun h11 => ?_)
                      · exact absurd h11 (by omega)
                      · refine pm_Fv.go 1 (f' := (129, 89, [(5, _), (4, _), (3, _), (0, _), (1, _), (2, _)], [_])) rfl ?_
                        refine pm_Fv.zeq rfl (by omega) rfl (fun h12 => ?_) (fun h12 => ?_)
                        · exact absurd h12 (by omega)
                        · refine pm_Fv.go 3 (f' := (129, 96, [(5, _), (4, _), (3, _), (0, _), (1, _), (2, _)], [_, _, _])) rfl ?_
                          refine pm_Fv.bp rfl rfl ?_
                          refine pm_Fv.go 1 (f' := (129, 100, [(5, _), (4, _), (3, _), (0, _), (1, _), (2, _)], [_, _, _, _, _])) rfl ?_
                          refine pm_Fv.iadd rfl ?_
                          rw [show (10 : Int) + 1 = 11 from rfl]
                          refine pm_Fv.cv rfl rfl rfl rfl (by decide) (Nat.le_of_ble_eq_true rfl) (Nat.le_of_ble_eq_true rfl) H2.m199 H2.o199 (ev_g L xs H2 h.l0 (by omega)) ?_
                          refine pm_Fv.zle rfl (by omega) rfl (fun h13 => ?_) (fun h13 => ?_)
                          · refine pm_Fv.go 1 (f' := (129, 141, [(5, _), (4, _), (3, _), (0, _), (1, _), (2, _)], [_, _])) rfl ?_
                            refine pm_Fv.ior rfl ?_
                            rw [show zor 0 0 = 0 from by decide]
                            refine pm_Fv.go 1 (f' := (129, 144, [(4, _), (5, _), (3, _), (0, _), (1, _), (2, _)], [])) rfl ?_
                            refine pm_Fv.inc rfl rfl (Nat.le_of_ble_eq_true rfl) ?_
                            rw [show (1 : Int) + 1 = 2 from rfl]
                            refine pm_Fv.go 3 (f' := (129, 85, [(5, _), (4, _), (3, _), (0, _), (1, _), (2, _)], [_, _])) rfl ?_
                            refine pm_Fv.jge rfl (by omega) rfl (fun h14 => ?_) (fun h14 => ?_)
                            · refine pm_Fv.go 3 (f' := (129, 154, [(5, _), (4, _), (3, _), (0, _), (1, _), (2, _)], [_, _, _])) rfl ?_
                              refine pm_Fv.cvF rfl rfl rfl rfl (by decide) (Nat.le_of_ble_eq_true rfl) (Nat.le_of_ble_eq_true rfl) H2.m199 H2.o199 (ev_fz L xs H2) (fun s3 q3 => ?_)
                              obtain ⟨H3, r3⟩ := q3
                              refine pm_Fv.zeq rfl (by omega) rfl (fun h15 => ?_) (fun h15 => ?_)
                              · refine pm_Fv.go 1 (f' := (129, 163, [(5, _), (4, _), (3, _), (0, _), (1, _), (2, _)], [_])) rfl ?_
                                refine pm_Fv.cvF rfl rfl rfl rfl (by decide) (Nat.le_of_ble_eq_true rfl) (Nat.le_of_ble_eq_true rfl) H3.m199 H3.o199 (ev_beg L xs H3 h) (fun s4 q4 => ?_)
                                obtain ⟨H4, r4⟩ := q4
                                refine pm_Fv.go 4 (f' := (129, 172, [(5, _), (4, _), (3, _), (0, _), (1, _), (2, _)], [_, _])) rfl ?_
                                refine pm_Fv.jge rfl (by omega) rfl (fun h16 => ?_) (fun h16 => ?_)
                                · exact absurd h16 (by omega)
                                · refine pm_Fv.go 1 (f' := (129, 176, [(5, _), (4, _), (3, _), (0, _), (1, _), (2, _)], [_])) rfl ?_
                                  refine pm_Fv.zeq rfl (by omega) rfl (fun h17 => ?_) (fun h17 => ?_)
                                  · exact absurd h17 (by omega)
                                  · refine pm_Fv.go 2 (f' := (129, 181, [(5, _), (4, _), (3, _), (0, _), (1, _), (2, _)], [_, _])) rfl ?_
                                    refine pm_Fv.bp rfl rfl ?_
                                    refine pm_Fv.go 1 (f' := (129, 185, [(5, _), (4, _), (3, _), (0, _), (1, _), (2, _)], [_, _, _, _])) rfl ?_
                                    refine pm_Fv.iadd rfl ?_
                                    rw [show (10 : Int) + 0 = 10 from rfl]
                                    refine pm_Fv.cv rfl rfl rfl rfl (by decide) (Nat.le_of_ble_eq_true rfl) (Nat.le_of_ble_eq_true rfl) H4.m199 H4.o199 (ev_gw L xs H4 h.l0 (by first | exact mo_g_K ar | exact K8) (by omega)) ?_
                                    first | rw [mo_pt_f (by decide)] | skip
                                    refine pm_Fv.zle rfl (by omega) rfl (fun h18 => ?_) (fun h18 => ?_)
                                    · exact absurd h18 (by omega)
                                    · refine pm_Fv.go 2 (f' := (129, 194, [(5, _), (4, _), (3, _), (0, _), (1, _), (2, _)], [_, _])) rfl ?_
                                      refine pm_Fv.bp rfl rfl ?_
                                      refine pm_Fv.go 1 (f' := (129, 198, [(5, _), (4, _), (3, _), (0, _), (1, _), (2, _)], [_, _, _, _])) rfl ?_
                                      refine pm_Fv.iadd rfl ?_
                                      rw [show (8 : Int) + 0 = 8 from rfl]
                                      refine pm_Fv.go 3 (f' := (129, 202, [(5, _), (4, _), (3, _), (0, _), (1, _), (2, _)], [_, _, _, _, _, _])) rfl ?_
                                      refine pm_Fv.bp rfl rfl ?_
                                      refine pm_Fv.go 1 (f' := (129, 206, [(5, _), (4, _), (3, _), (0, _), (1, _), (2, _)], [_, _, _, _, _, _, _, _])) rfl ?_
                                      refine pm_Fv.iadd rfl ?_
                                      rw [show (8 : Int) + 0 = 8 from rfl]
                                      refine pm_Fv.cv rfl rfl rfl rfl (by decide) (Nat.le_of_ble_eq_true rfl) (Nat.le_of_ble_eq_true rfl) H4.m199 H4.o199 (ev_gw L xs H4 h.l0 (by first | exact mo_g_K ar | exact K8) (by omega)) ?_
                                      first | rw [mo_pt_f (by decide)] | skip
                                      refine pm_Fv.go 2 (f' := (129, 212, [(5, _), (4, _), (3, _), (0, _), (1, _), (2, _)], [_, _, _, _, _, _, _])) rfl ?_
                                      refine pm_Fv.bp rfl rfl ?_
                                      refine pm_Fv.go 1 (f' := (129, 216, [(5, _), (4, _), (3, _), (0, _), (1, _), (2, _)], [_, _, _, _, _, _, _, _, _])) rfl ?_
                                      refine pm_Fv.iadd rfl ?_
                                      rw [show (10 : Int) + 0 = 10 from rfl]
                                      refine pm_Fv.cv rfl rfl rfl rfl (by decide) (Nat.le_of_ble_eq_true rfl) (Nat.le_of_ble_eq_true rfl) H4.m199 H4.o199 (ev_gw L xs H4 h.l0 (by first | exact mo_g_K ar | exact K8) (by omega)) ?_
                                      first | rw [mo_pt_f (by decide)] | skip
                                      refine pm_Fv.cv rfl rfl rfl rfl (by decide) (Nat.le_of_ble_eq_true rfl) (Nat.le_of_ble_eq_true rfl) H4.m199 H4.o199 (m0 _ _ _ _ H4 rfl) ?_
                                      refine pm_Fv.cvF rfl rfl rfl rfl (by decide) (Nat.le_of_ble_eq_true rfl) (Nat.le_of_ble_eq_true rfl) H4.m199 H4.o199 (ev_pw L xs H4 h.l0 (by omega)) (fun s5 q5 => ?_)
                                      obtain ⟨H5, r5⟩ := q5
                                      refine pm_Fv.inc rfl rfl (Nat.le_of_ble_eq_true rfl) ?_
                                      rw [show (0 : Int) + 1 = 1 from rfl]
                                      refine pm_Fv.go 3 (f' := (129, 172, [(5, _), (4, _), (3, _), (0, _), (1, _), (2, _)], [_, _])) rfl ?_
                                      refine pm_Fv.jge rfl (by omega) rfl (fun h19 => ?_) (fun h19 => ?_)
                                      · exact absurd h19 (by omega)
                                      · refine pm_Fv.go 1 (f' := (129, 176, [(5, _), (4, _), (3, _), (0, _), (1, _), (2, _)], [_])) rfl ?_
                                        refine pm_Fv.zeq rfl (by omega) rfl (fun h20 => ?_) (fun h20 => ?_)
                                        · exact absurd h20 (by omega)
                                        · refine pm_Fv.go 2 (f' := (129, 181, [(5, _), (4, _), (3, _), (0, _), (1, _), (2, _)], [_, _])) rfl ?_
                                          refine pm_Fv.bp rfl rfl ?_
                                          refine pm_Fv.go 1 (f' := (129, 185, [(5, _), (4, _), (3, _), (0, _), (1, _), (2, _)], [_, _, _, _])) rfl ?_
                                          refine pm_Fv.iadd rfl ?_
                                          rw [show (10 : Int) + 1 = 11 from rfl]
                                          refine pm_Fv.cv rfl rfl rfl rfl (by decide) (Nat.le_of_ble_eq_true rfl) (Nat.le_of_ble_eq_true rfl) H5.m199 H5.o199 (ev_gw L xs H5 h.l0 (by first | exact mo_g_K ar | exact K8) (by omega)) ?_
                                          first | rw [mo_pt_f (by decide)] | skip
                                          refine pm_Fv.zle rfl (by omega) rfl (fun h21 => ?_) (fun h21 => ?_)
                                          · refine pm_Fv.inc rfl rfl (Nat.le_of_ble_eq_true rfl) ?_
                                            rw [show (1 : Int) + 1 = 2 from rfl]
                                            refine pm_Fv.go 3 (f' := (129, 172, [(5, _), (4, _), (3, _), (0, _), (1, _), (2, _)], [_, _])) rfl ?_
                                            refine pm_Fv.jge rfl (by omega) rfl (fun h22 => ?_) (fun h22 => ?_)
                                            · refine pm_Fv.go 4 (f' := (129, 236, [(5, _), (4, _), (3, _), (0, _), (1, _), (2, _)], [_, _, _, _])) rfl ?_
                                              refine pm_Fv.zeq rfl (by omega) rfl (fun h23 => ?_) (fun h23 => ?_)
                                              · exact absurd h23 (by omega)
                                              · refine pm_Fv.go 2 (f' := (129, 244, [(5, _), (4, _), (3, _), (0, _), (1, _), (2, _)], [_, _, _, _])) rfl ?_
                                                refine pm_Fv.cvF rfl rfl rfl rfl (by decide) (Nat.le_of_ble_eq_true rfl) (Nat.le_of_ble_eq_true rfl) H5.m199 H5.o199 (ev_pw L xs H5 h.l0 (by omega)) (fun s6 q6 => ?_)
                                                obtain ⟨H6, r6⟩ := q6
                                                refine pm_Fv.go 1 (f' := (129, 248, [(5, _), (4, _), (3, _), (0, _), (1, _), (2, _)], [_])) rfl ?_
                                                refine pm_Fv.cvF rfl rfl rfl rfl (by decide) (Nat.le_of_ble_eq_true rfl) (Nat.le_of_ble_eq_true rfl) H6.m199 H6.o199 (ev_dne L xs H6 (z := hq_u z 29 0) h) (fun s7 q7 => ?_)
                                                obtain ⟨H7, r7⟩ := q7
                                                obtain ⟨z9, ar9, hd, H9⟩ := H7
                                                have e9 := mo_ed_g hd
                                                have gv : mo_g ar9 (I b) 4 = 1 := by
                                                  rw [e9.1, mo_w_g K9 (by omega) (by omega) (by omega)]
                                                  exact mo_pt_at _ _ _ _
                                                refine pm_Fv.go 3 (f' := (129, 254, _, [_, _, _])) rfl ?_
                                                refine pm_Fv.cv rfl rfl rfl rfl (by decide) (Nat.le_of_ble_eq_true rfl) (Nat.le_of_ble_eq_true rfl) H9.m199 H9.o199 (ev_g L xs H9 (e9.2.1.trans h.l0) (by omega)) ?_
                                                rw [gv]
                                                exact pm_Fv.rv rfl rfl ⟨rfl, ⟨z9, ar9, hd, H9⟩, (r7.trans (r6.trans (r5.trans (r4.trans (r3.trans (r2.trans r1))))))⟩
                                            · exact absurd h22 (by omega)
                                          · exact absurd h21 (by omega)
                              · exact absurd h15 (by omega)
                            · exact absurd h14 (by omega)
                          · exact absurd h13 (by omega)
                    · exact absurd h10 (by omega)
            · exact absurd h6 (by omega)
        · exact absurd h4 (by omega)
      · exact absurd h3 (by omega)
  · exact absurd h1 (by omega)
theorem ev_mstate0oo (H : Hp σ ad z ar lr) (h : mo_H z ar) {n : Int} {I D : Int → Int} (M : mo_R (mo_g ar) (z 23) n I D) {b : Int} (b0 : 0 ≤ b) (b1 : b < n) (d0 : 0 < mo_g ar (I b) 10) {y0 : Int} (m0 : ∀ s z' ar' ad', Hp s ad' z' ar' lr → z' 26 = z 26 → pm_Ev (tq_P L xs) (pm_enter 145 [.ref 199, .int (zI (mo_g ar (I b) 8)), .int (zI (mo_g ar (I b) 10))]) s (.inl (some (.int (zI y0))), s)) (q0 : -2147483648 ≤ y0 ∧ y0 ≤ 2147483647) (l0 : y0 ≤ 3652058) (d1 : 0 < mo_g ar (I b) 11) {y1 : Int} (m1 : ∀ s z' ar' ad', Hp s ad' z' ar' lr → z' 26 = z 26 → pm_Ev (tq_P L xs) (pm_enter 145 [.ref 199, .int (zI (mo_g ar (I b) 9)), .int (zI (mo_g ar (I b) 11))]) s (.inl (some (.int (zI y1))), s)) (q1 : -2147483648 ≤ y1 ∧ y1 ≤ 2147483647) (l1 : y1 ≤ 3652058) : pm_Fv (tq_P L xs) (pm_enter 129 [.ref 199, .int (zI (I b)), .int (zI 3)]) σ (fun o s => o = .inl (some (.int (zI 1))) ∧ (∃ z' ar', mo_ed (hq_u z 29 0) ar (mo_pt (mo_pt (mo_pt (mo_g ar) (I b) 8 (y0)) (I b) 9 (y1)) (I b) 4 (1)) z' ar' ∧ Hp s ad z' ar' lr) ∧ s.2 = σ.2) := by
  show pm_Fv (tq_P L xs) (129, 0, [(0, .ref 199), (1, .int (zI (I b))), (2, .int (zI 3))], []) σ _
  have H0 : Hp σ ad (hq_u z 29 (z 29)) ar lr := by rw [hq_u_self]; exact H
  have hm : 0 ≤ z 23 ∧ z 23 ≤ 400 := ⟨M.m0, M.m4⟩
  have i0 := M.J.1 b b0 b1
  have i1 := M.lt b b0 b1
  have a0 := mo_g_r ar (I b) 10
  have a1 := mo_g_r ar (I b) 11
  have K9 := mo_pt_K (mo_pt_K (mo_pt_K (mo_g_K ar) (x := I b) (y := 8) (v := y0) (by omega)) (x := I b) (y := 9) (v := y1) (by omega)) (x := I b) (y := 4) (v := 1) (by omega)
  have K8 := mo_pt_K (mo_g_K ar) (x := I b) (y := 8) (v := y0) (by omega)
  refine pm_Fv.go 3 (f' := (129, 3, [(0, _), (1, _), (2, _)], [_, _, _])) rfl ?_
  refine pm_Fv.cv rfl rfl rfl rfl (by decide) (Nat.le_of_ble_eq_true rfl) (Nat.le_of_ble_eq_true rfl) H0.m199 H0.o199 (ev_isT L xs H0 h.l0 M b0 b1) ?_
  refine pm_Fv.zne rfl (by omega) rfl (fun h1 => ?_) (fun h1 => ?_)
  · refine pm_Fv.go 2 (f' := (129, 15, [(0, _), (1, _), (2, _)], [_, _, _])) rfl ?_
    refine pm_Fv.cvF rfl rfl rfl rfl (by decide) (Nat.le_of_ble_eq_true rfl) (Nat.le_of_ble_eq_true rfl) H0.m199 H0.o199 (ev_fz L xs H0) (fun s1 q1 => ?_)
    obtain ⟨H1, r1⟩ := q1
    refine pm_Fv.zne rfl (by omega) rfl (fun h2 => ?_) (fun h2 => ?_)
    · exact absurd h2 (by omega)
    · refine pm_Fv.go 4 (f' := (129, 25, [(0, _), (1, _), (2, _)], [_, _, _, _])) rfl ?_
      refine pm_Fv.call rfl rfl rfl rfl rfl (ev_w1 L xs (by omega) (by omega)) ?_
      refine pm_Fv.zne rfl (by omega) rfl (fun h3 => ?_) (fun h3 => ?_)
      · refine pm_Fv.go 2 (f' := (129, 37, [(0, _), (1, _), (2, _)], [_, _, _])) rfl ?_
        refine pm_Fv.cvF rfl rfl rfl rfl (by decide) (Nat.le_of_ble_eq_true rfl) (Nat.le_of_ble_eq_true rfl) H1.m199 H1.o199 (ev_fz L xs H1) (fun s2 q2 => ?_)
        obtain ⟨H2, r2⟩ := q2
        refine pm_Fv.zeq rfl (by omega) rfl (fun h4 => ?_) (fun h4 => ?_)
        · refine pm_Fv.go 2 (f' := (129, 47, [(0, _), (1, _), (2, _)], [_, _])) rfl ?_
          refine pm_Fv.jne rfl (by omega) rfl (fun h5 => ?_) (fun h5 => ?_)
          · exact absurd h5 (by omega)
          · refine pm_Fv.go 2 (f' := (129, 52, [(0, _), (1, _), (2, _)], [_, _])) rfl ?_
            refine pm_Fv.bp rfl rfl ?_
            refine pm_Fv.cv rfl rfl rfl rfl (by decide) (Nat.le_of_ble_eq_true rfl) (Nat.le_of_ble_eq_true rfl) H2.m199 H2.o199 (ev_g L xs H2 h.l0 (by omega)) ?_
            refine pm_Fv.zgt rfl (by omega) rfl (fun h6 => ?_) (fun h6 => ?_)
            · refine pm_Fv.go 9 (f' := (129, 85, [(5, _), (4, _), (3, _), (0, _), (1, _), (2, _)], [_, _])) rfl ?_
              refine pm_Fv.jge rfl (by omega) rfl (fun h7 => ?_) (fun h7 => ?_)
              · exact absurd h7 (by omega)
              · refine pm_Fv.go 1 (f' := (129, 89, [(5, _), (4, _), (3, _), (0, _), (1, _), (2, _)], [_])) rfl ?_
                refine pm_Fv.zeq rfl (by omega) rfl (fun h8 => ?_) (fun h8 => ?_)
                · exact absurd h8 (by omega)
                · refine pm_Fv.go 3 (f' := (129, 96, [(5, _), (4, _), (3, _), (0, _), (1, _), (2, _)], [_, _, _])) rfl ?_
                  refine pm_Fv.bp rfl rfl ?_
                  refine pm_Fv.go 1 (f' := (129, 100, [(5, _), (4, _), (3, _), (0, _), (1, _), (2, _)], [_, _, _, _, _])) rfl ?_
                  refine pm_Fv.iadd rfl ?_
                  rw [show (10 : Int) + 0 = 10 from rfl]
                  refine pm_Fv.cv rfl rfl rfl rfl (by decide) (Nat.le_of_ble_eq_true rfl) (Nat.le_of_ble_eq_true rfl) H2.m199 H2.o199 (ev_g L xs H2 h.l0 (by omega)) ?_
                  refine pm_Fv.zle rfl (by omega) rfl (fun h9 => ?_) (fun h9 => ?_)
                  · exact absurd h9 (by omega)
                  · refine pm_Fv.go 3 (f' := (129, 110, [(5, _), (4, _), (3, _), (0, _), (1, _), (2, _)], [_, _, _, _])) rfl ?_
                    refine pm_Fv.bp rfl rfl ?_
                    refine pm_Fv.go 1 (f' := (129, 114, [(5, _), (4, _), (3, _), (0, _), (1, _), (2, _)], [_, _, _, _, _, _])) rfl ?_
                    refine pm_Fv.iadd rfl ?_
                    rw [show (8 : Int) + 0 = 8 from rfl]
                    refine pm_Fv.cv rfl rfl rfl rfl (by decide) (Nat.le_of_ble_eq_true rfl) (Nat.le_of_ble_eq_true rfl) H2.m199 H2.o199 (ev_g L xs H2 h.l0 (by omega)) ?_
                    refine pm_Fv.go 2 (f' := (129, 120, [(5, _), (4, _), (3, _), (0, _), (1, _), (2, _)], [_, _, _, _, _])) rfl ?_
                    refine pm_Fv.bp rfl rfl ?_
                    refine pm_Fv.go 1 (f' := (129, 124, [(5, _), (4, _), (3, _), (0, _), (1, _), (2, _)], [_, _, _, _, _, _, _])) rfl ?_
                    refine pm_Fv.iadd rfl ?_
                    rw [show (10 : Int) + 0 = 10 from rfl]
                    refine pm_Fv.cv rfl rfl rfl rfl (by decide) (Nat.le_of_ble_eq_true rfl) (Nat.le_of_ble_eq_true rfl) H2.m199 H2.o199 (ev_g L xs H2 h.l0 (by omega)) ?_
                    refine pm_Fv.cv rfl rfl rfl rfl (by decide) (Nat.le_of_ble_eq_true rfl) (Nat.le_of_ble_eq_true rfl) H2.m199 H2.o199 (m0 _ _ _ _ H2 rfl) ?_
                    refine pm_Fv.cc1 (3652058) rfl rfl rfl ?_
                    refine pm_Fv.jle rfl (by omega) rfl (fun h10 => ?_) (fun h10 => ?_)
                    · refine pm_Fv.go 1 (f' := (129, 141, [(5, _), (4, _), (3, _), (0, _), (1, _), (2, _)], [_, _])) rfl ?_
                      refine pm_Fv.ior rfl ?_
                      rw [show zor 0 0 = 0 from by decide]
                      refine pm_Fv.go 1 (f' := (129, 144, [(4, _), (5, _), (3, _), (0, _), (1, _), (2, _)], [])) rfl ?_
                      refine pm_Fv.inc rfl rfl (Nat.le_of_ble_eq_true rfl) ?_
                      rw [show (0 : Int) + 1 = 1 from rfl]
                      refine pm_Fv.go 3 (f' := (129, 85, [(5, _), (4, _), (3, _), (0, _), (1, _), (2, _)], [_, _])) rfl ?_
                      refine pm_Fv.jge rfl (by omega) rfl (fun h11 => ?_) (fun h11 => ?_)
                      · exact absurd h11 (by omega)
                      · refine pm_Fv.go 1 (f' := (129, 89, [(5, _), (4, _), (3, _), (0, _), (1, _), (2, _)], [_])) rfl ?_
                        refine pm_Fv.zeq rfl (by omega) rfl (fun h12 => ?_) (fun h12 => ?_)
                        · exact absurd h12 (by omega)
                        · refine pm_Fv.go 3 (f' := (129, 96, [(5, _), (4, _), (3, _), (0, _), (1, _), (2, _)], [_, _, _])) rfl ?_
                          refine pm_Fv.bp rfl rfl ?_
                          refine pm_Fv.go 1 (f' := (129, 100, [(5, _), (4, _), (3, _), (0, _), (1, _), (2, _)], [_, _, _, _, _])) rfl ?_
                          refine pm_Fv.iadd rfl ?_
                          rw [show (10 : Int) + 1 = 11 from rfl]
                          refine pm_Fv.cv rfl rfl rfl rfl (by decide) (Nat.le_of_ble_eq_true rfl) (Nat.le_of_ble_eq_true rfl) H2.m199 H2.o199 (ev_g L xs H2 h.l0 (by omega)) ?_
                          refine pm_Fv.zle rfl (by omega) rfl (fun h13 => ?_) (fun h13 => ?_)
                          · exact absurd h13 (by omega)
                          · refine pm_Fv.go 3 (f' := (129, 110, [(5, _), (4, _), (3, _), (0, _), (1, _), (2, _)], [_, _, _, _])) rfl ?_
                            refine pm_Fv.bp rfl rfl ?_
                            refine pm_Fv.go 1 (f' := (129, 114, [(5, _), (4, _), (3, _), (0, _), (1, _), (2, _)], [_, _, _, _, _, _])) rfl ?_
                            refine pm_Fv.iadd rfl ?_
                            rw [show (8 : Int) + 1 = 9 from rfl]
                            refine pm_Fv.cv rfl rfl rfl rfl (by decide) (Nat.le_of_ble_eq_true rfl) (Nat.le_of_ble_eq_true rfl) H2.m199 H2.o199 (ev_g L xs H2 h.l0 (by omega)) ?_
                            refine pm_Fv.go 2 (f' := (129, 120, [(5, _), (4, _), (3, _), (0, _), (1, _), (2, _)], [_, _, _, _, _])) rfl ?_
                            refine pm_Fv.bp rfl rfl ?_
                            refine pm_Fv.go 1 (f' := (129, 124, [(5, _), (4, _), (3, _), (0, _), (1, _), (2, _)], [_, _, _, _, _, _, _])) rfl ?_
                            refine pm_Fv.iadd rfl ?_
                            rw [show (10 : Int) + 1 = 11 from rfl]
                            refine pm_Fv.cv rfl rfl rfl rfl (by decide) (Nat.le_of_ble_eq_true rfl) (Nat.le_of_ble_eq_true rfl) H2.m199 H2.o199 (ev_g L xs H2 h.l0 (by omega)) ?_
                            refine pm_Fv.cv rfl rfl rfl rfl (by decide) (Nat.le_of_ble_eq_true rfl) (Nat.le_of_ble_eq_true rfl) H2.m199 H2.o199 (m1 _ _ _ _ H2 rfl) ?_
                            refine pm_Fv.cc1 (3652058) rfl rfl rfl ?_
                            refine pm_Fv.jle rfl (by omega) rfl (fun h14 => ?_) (fun h14 => ?_)
                            · refine pm_Fv.go 1 (f' := (129, 141, [(5, _), (4, _), (3, _), (0, _), (1, _), (2, _)], [_, _])) rfl ?_
                              refine pm_Fv.ior rfl ?_
                              rw [show zor 0 0 = 0 from by decide]
                              refine pm_Fv.go 1 (f' := (129, 144, [(4, _), (5, _), (3, _), (0, _), (1, _), (2, _)], [])) rfl ?_
                              refine pm_Fv.inc rfl rfl (Nat.le_of_ble_eq_true rfl) ?_
                              rw [show (1 : Int) + 1 = 2 from rfl]
                              refine pm_Fv.go 3 (f' := (129, 85, [(5, _), (4, _), (3, _), (0, _), (1, _), (2, _)], [_, _])) rfl ?_
                              refine pm_Fv.jge rfl (by omega) rfl (fun h15 => ?_) (fun h15 => ?_)
                              · refine pm_Fv.go 3 (f' := (129, 154, [(5, _), (4, _), (3, _), (0, _), (1, _), (2, _)], [_, _, _])) rfl ?_
                                refine pm_Fv.cvF rfl rfl rfl rfl (by decide) (Nat.le_of_ble_eq_true rfl) (Nat.le_of_ble_eq_true rfl) H2.m199 H2.o199 (ev_fz L xs H2) (fun s3 q3 => ?_)
                                obtain ⟨H3, r3⟩ := q3
                                refine pm_Fv.zeq rfl (by omega) rfl (fun h16 => ?_) (fun h16 => ?_)
                                · refine pm_Fv.go 1 (f' := (129, 163, [(5, _), (4, _), (3, _), (0, _), (1, _), (2, _)], [_])) rfl ?_
                                  refine pm_Fv.cvF rfl rfl rfl rfl (by decide) (Nat.le_of_ble_eq_true rfl) (Nat.le_of_ble_eq_true rfl) H3.m199 H3.o199 (ev_beg L xs H3 h) (fun s4 q4 => ?_)
                                  obtain ⟨H4, r4⟩ := q4
                                  refine pm_Fv.go 4 (f' := (129, 172, [(5, _), (4, _), (3, _), (0, _), (1, _), (2, _)], [_, _])) rfl ?_
                                  refine pm_Fv.jge rfl (by omega) rfl (fun h17 => ?_) (fun h17 => ?_)
                                  · exact absurd h17 (by omega)
                                  · refine pm_Fv.go 1 (f' := (129, 176, [(5, _), (4, _), (3, _), (0, _), (1, _), (2, _)], [_])) rfl ?_
                                    refine pm_Fv.zeq rfl (by omega) rfl (fun h18 => ?_) (fun h18 => ?_)
                                    · exact absurd h18 (by omega)
                                    · refine pm_Fv.go 2 (f' := (129, 181, [(5, _), (4, _), (3, _), (0, _), (1, _), (2, _)], [_, _])) rfl ?_
                                      refine pm_Fv.bp rfl rfl ?_
                                      refine pm_Fv.go 1 (f' := (129, 185, [(5, _), (4, _), (3, _), (0, _), (1, _), (2, _)], [_, _, _, _])) rfl ?_
                                      refine pm_Fv.iadd rfl ?_
                                      rw [show (10 : Int) + 0 = 10 from rfl]
                                      refine pm_Fv.cv rfl rfl rfl rfl (by decide) (Nat.le_of_ble_eq_true rfl) (Nat.le_of_ble_eq_true rfl) H4.m199 H4.o199 (ev_gw L xs H4 h.l0 (by first | exact mo_g_K ar | exact K8) (by omega)) ?_
                                      first | rw [mo_pt_f (by decide)] | skip
                                      refine pm_Fv.zle rfl (by omega) rfl (fun h19 => ?_) (fun h19 => ?_)
                                      · exact absurd h19 (by omega)
                                      · refine pm_Fv.go 2 (f' := (129, 194, [(5, _), (4, _), (3, _), (0, _), (1, _), (2, _)], [_, _])) rfl ?_
                                        refine pm_Fv.bp rfl rfl ?_
                                        refine pm_Fv.go 1 (f' := (129, 198, [(5, _), (4, _), (3, _), (0, _), (1, _), (2, _)], [_, _, _, _])) rfl ?_
                                        refine pm_Fv.iadd rfl ?_
                                        rw [show (8 : Int) + 0 = 8 from rfl]
                                        refine pm_Fv.go 3 (f' := (129, 202, [(5, _), (4, _), (3, _), (0, _), (1, _), (2, _)], [_, _, _, _, _, _])) rfl ?_
                                        refine pm_Fv.bp rfl rfl ?_
                                        refine pm_Fv.go 1 (f' := (129, 206, [(5, _), (4, _), (3, _), (0, _), (1, _), (2, _)], [_, _, _, _, _, _, _, _])) rfl ?_
                                        refine pm_Fv.iadd rfl ?_
                                        rw [show (8 : Int) + 0 = 8 from rfl]
                                        refine pm_Fv.cv rfl rfl rfl rfl (by decide) (Nat.le_of_ble_eq_true rfl) (Nat.le_of_ble_eq_true rfl) H4.m199 H4.o199 (ev_gw L xs H4 h.l0 (by first | exact mo_g_K ar | exact K8) (by omega)) ?_
                                        first | rw [mo_pt_f (by decide)] | skip
                                        refine pm_Fv.go 2 (f' := (129, 212, [(5, _), (4, _), (3, _), (0, _), (1, _), (2, _)], [_, _, _, _, _, _, _])) rfl ?_
                                        refine pm_Fv.bp rfl rfl ?_
                                        refine pm_Fv.go 1 (f' := (129, 216, [(5, _), (4, _), (3, _), (0, _), (1, _), (2, _)], [_, _, _, _, _, _, _, _, _])) rfl ?_
                                        refine pm_Fv.iadd rfl ?_
                                        rw [show (10 : Int) + 0 = 10 from rfl]
                                        refine pm_Fv.cv rfl rfl rfl rfl (by decide) (Nat.le_of_ble_eq_true rfl) (Nat.le_of_ble_eq_true rfl) H4.m199 H4.o199 (ev_gw L xs H4 h.l0 (by first | exact mo_g_K ar | exact K8) (by omega)) ?_
                                        first | rw [mo_pt_f (by decide)] | skip
                                        refine pm_Fv.cv rfl rfl rfl rfl (by decide) (Nat.le_of_ble_eq_true rfl) (Nat.le_of_ble_eq_true rfl) H4.m199 H4.o199 (m0 _ _ _ _ H4 rfl) ?_
                                        refine pm_Fv.cvF rfl rfl rfl rfl (by decide) (Nat.le_of_ble_eq_true rfl) (Nat.le_of_ble_eq_true rfl) H4.m199 H4.o199 (ev_pw L xs H4 h.l0 (by omega)) (fun s5 q5 => ?_)
                                        obtain ⟨H5, r5⟩ := q5
                                        refine pm_Fv.inc rfl rfl (Nat.le_of_ble_eq_true rfl) ?_
                                        rw [show (0 : Int) + 1 = 1 from rfl]
                                        refine pm_Fv.go 3 (f' := (129, 172, [(5, _), (4, _), (3, _), (0, _), (1, _), (2, _)], [_, _])) rfl ?_
                                        refine pm_Fv.jge rfl (by omega) rfl (fun h20 => ?_) (fun h20 => ?_)
                                        · exact absurd h20 (by omega)
                                        · refine pm_Fv.go 1 (f' := (129, 176, [(5, _), (4, _), (3, _), (0, _), (1, _), (2, _)], [_])) rfl ?_
                                          refine pm_Fv.zeq rfl (by omega) rfl (fun h21 => ?_) (fun h21 => ?_)
                                          · exact absurd h21 (by omega)
                                          · refine pm_Fv.go 2 (f' := (129, 181, [(5, _), (4, _), (3, _), (0, _), (1, _), (2, _)], [_, _])) rfl ?_
                                            refine pm_Fv.bp rfl rfl ?_
                                            refine pm_Fv.go 1 (f' := (129, 185, [(5, _), (4, _), (3, _), (0, _), (1, _), (2, _)], [_, _, _, _])) rfl ?_
                                            refine pm_Fv.iadd rfl ?_
                                            rw [show (10 : Int) + 1 = 11 from rfl]
                                            refine pm_Fv.cv rfl rfl rfl rfl (by decide) (Nat.le_of_ble_eq_true rfl) (Nat.le_of_ble_eq_true rfl) H5.m199 H5.o199 (ev_gw L xs H5 h.l0 (by first | exact mo_g_K ar | exact K8) (by omega)) ?_
                                            first | rw [mo_pt_f (by decide)] | skip
                                            refine pm_Fv.zle rfl (by omega) rfl (fun h22 => ?_) (fun h22 => ?_)
                                            · exact absurd h22 (by omega)
                                            · refine pm_Fv.go 2 (f' := (129, 194, [(5, _), (4, _), (3, _), (0, _), (1, _), (2, _)], [_, _])) rfl ?_
                                              refine pm_Fv.bp rfl rfl ?_
                                              refine pm_Fv.go 1 (f' := (129, 198, [(5, _), (4, _), (3, _), (0, _), (1, _), (2, _)], [_, _, _, _])) rfl ?_
                                              refine pm_Fv.iadd rfl ?_
                                              rw [show (8 : Int) + 1 = 9 from rfl]
                                              refine pm_Fv.go 3 (f' := (129, 202, [(5, _), (4, _), (3, _), (0, _), (1, _), (2, _)], [_, _, _, _, _, _])) rfl ?_
                                              refine pm_Fv.bp rfl rfl ?_
                                              refine pm_Fv.go 1 (f' := (129, 206, [(5, _), (4, _), (3, _), (0, _), (1, _), (2, _)], [_, _, _, _, _, _, _, _])) rfl ?_
                                              refine pm_Fv.iadd rfl ?_
                                              rw [show (8 : Int) + 1 = 9 from rfl]
                                              refine pm_Fv.cv rfl rfl rfl rfl (by decide) (Nat.le_of_ble_eq_true rfl) (Nat.le_of_ble_eq_true rfl) H5.m199 H5.o199 (ev_gw L xs H5 h.l0 (by first | exact mo_g_K ar | exact K8) (by omega)) ?_
                                              first | rw [mo_pt_f (by decide)] | skip
                                              refine pm_Fv.go 2 (f' := (129, 212, [(5, _), (4, _), (3, _), (0, _), (1, _), (2, _)], [_, _, _, _, _, _, _])) rfl ?_
                                              refine pm_Fv.bp rfl rfl ?_
                                              refine pm_Fv.go 1 (f' := (129, 216, [(5, _), (4, _), (3, _), (0, _), (1, _), (2, _)], [_, _, _, _, _, _, _, _, _])) rfl ?_
                                              refine pm_Fv.iadd rfl ?_
                                              rw [show (10 : Int) + 1 = 11 from rfl]
                                              refine pm_Fv.cv rfl rfl rfl rfl (by decide) (Nat.le_of_ble_eq_true rfl) (Nat.le_of_ble_eq_true rfl) H5.m199 H5.o199 (ev_gw L xs H5 h.l0 (by first | exact mo_g_K ar | exact K8) (by omega)) ?_
                                              first | rw [mo_pt_f (by decide)] | skip
                                              refine pm_Fv.cv rfl rfl rfl rfl (by decide) (Nat.le_of_ble_eq_true rfl) (Nat.le_of_ble_eq_true rfl) H5.m199 H5.o199 (m1 _ _ _ _ H5 rfl) ?_
                                              refine pm_Fv.cvF rfl rfl rfl rfl (by decide) (Nat.le_of_ble_eq_true rfl) (Nat.le_of_ble_eq_true rfl) H5.m199 H5.o199 (ev_pw L xs H5 h.l0 (by omega)) (fun s6 q6 => ?_)
                                              obtain ⟨H6, r6⟩ := q6
                                              refine pm_Fv.inc rfl rfl (Nat.le_of_ble_eq_true rfl) ?_
                                              rw [show (1 : Int) + 1 = 2 from rfl]
                                              refine pm_Fv.go 3 (f' := (129, 172, [(5, _), (4, _), (3, _), (0, _), (1, _), (2, _)], [_, _])) rfl ?_
                                              refine pm_Fv.jge rfl (by omega) rfl (fun h23 => ?_) (fun h23 => ?_)
                                              · refine pm_Fv.go 4 (f' := (129, 236, [(5, _), (4, _), (3, _), (0, _), (1, _), (2, _)], [_, _, _, _])) rfl ?_
                                                refine pm_Fv.zeq rfl (by omega) rfl (fun h24 => ?_) (fun h24 => ?_)
                                                · exact absurd h24 (by omega)
                                                · refine pm_Fv.go 2 (f' := (129, 244, [(5, _), (4, _), (3, _), (0, _), (1, _), (2, _)], [_, _, _, _])) rfl ?_
                                                  refine pm_Fv.cvF rfl rfl rfl rfl (by decide) (Nat.le_of_ble_eq_true rfl) (Nat.le_of_ble_eq_true rfl) H6.m199 H6.o199 (ev_pw L xs H6 h.l0 (by omega)) (fun s7 q7 => ?_)
                                                  obtain ⟨H7, r7⟩ := q7
                                                  refine pm_Fv.go 1 (f' := (129, 248, [(5, _), (4, _), (3, _), (0, _), (1, _), (2, _)], [_])) rfl ?_
                                                  refine pm_Fv.cvF rfl rfl rfl rfl (by decide) (Nat.le_of_ble_eq_true rfl) (Nat.le_of_ble_eq_true rfl) H7.m199 H7.o199 (ev_dne L xs H7 (z := hq_u z 29 0) h) (fun s8 q8 => ?_)
                                                  obtain ⟨H8, r8⟩ := q8
                                                  obtain ⟨z9, ar9, hd, H9⟩ := H8
                                                  have e9 := mo_ed_g hd
                                                  have gv : mo_g ar9 (I b) 4 = 1 := by
                                                    rw [e9.1, mo_w_g K9 (by omega) (by omega) (by omega)]
                                                    exact mo_pt_at _ _ _ _
                                                  refine pm_Fv.go 3 (f' := (129, 254, _, [_, _, _])) rfl ?_
                                                  refine pm_Fv.cv rfl rfl rfl rfl (by decide) (Nat.le_of_ble_eq_true rfl) (Nat.le_of_ble_eq_true rfl) H9.m199 H9.o199 (ev_g L xs H9 (e9.2.1.trans h.l0) (by omega)) ?_
                                                  rw [gv]
                                                  exact pm_Fv.rv rfl rfl ⟨rfl, ⟨z9, ar9, hd, H9⟩, (r8.trans (r7.trans (r6.trans (r5.trans (r4.trans (r3.trans (r2.trans r1)))))))⟩
                                              · exact absurd h23 (by omega)
                                · exact absurd h16 (by omega)
                              · exact absurd h15 (by omega)
                            · exact absurd h14 (by omega)
                    · exact absurd h10 (by omega)
            · exact absurd h6 (by omega)
        · exact absurd h4 (by omega)
      · exact absurd h3 (by omega)
  · exact absurd h1 (by omega)
theorem ev_mstate3ox (H : Hp σ ad z ar lr) (h : mo_H z ar) {n : Int} {I D : Int → Int} (M : mo_R (mo_g ar) (z 23) n I D) {b : Int} (b0 : 0 ≤ b) (b1 : b < n) (d0 : 0 < mo_g ar (I b) 10) {y0 : Int} (m0 : ∀ s z' ar' ad', Hp s ad' z' ar' lr → z' 26 = z 26 → pm_Ev (tq_P L xs) (pm_enter 145 [.ref 199, .int (zI (mo_g ar (I b) 8)), .int (zI (mo_g ar (I b) 10))]) s (.inl (some (.int (zI y0))), s)) (q0 : -2147483648 ≤ y0 ∧ y0 ≤ 2147483647) (l0 : y0 ≤ 3652058) (d1 : 0 < mo_g ar (I b) 11) {y1 : Int} (m1 : ∀ s z' ar' ad', Hp s ad' z' ar' lr → z' 26 = z 26 → pm_Ev (tq_P L xs) (pm_enter 145 [.ref 199, .int (zI (mo_g ar (I b) 9)), .int (zI (mo_g ar (I b) 11))]) s (.inl (some (.int (zI y1))), s)) (q1 : -2147483648 ≤ y1 ∧ y1 ≤ 2147483647) (l1 : 3652058 < y1) : pm_Fv (tq_P L xs) (pm_enter 129 [.ref 199, .int (zI (I b)), .int (zI 3)]) σ (fun o s => o = .inl (some (.int (zI 0))) ∧ Hp s ad (hq_u z 29 3) ar lr ∧ s.2 = σ.2) := by
  show pm_Fv (tq_P L xs) (129, 0, [(0, .ref 199), (1, .int (zI (I b))), (2, .int (zI 3))], []) σ _
  have H0 : Hp σ ad (hq_u z 29 (z 29)) ar lr := by rw [hq_u_self]; exact H
  have hm : 0 ≤ z 23 ∧ z 23 ≤ 400 := ⟨M.m0, M.m4⟩
  have i0 := M.J.1 b b0 b1
  have i1 := M.lt b b0 b1
  have a0 := mo_g_r ar (I b) 10
  have a1 := mo_g_r ar (I b) 11
  refine pm_Fv.go 3 (f' := (129, 3, [(0, _), (1, _), (2, _)], [_, _, _])) rfl ?_
  refine pm_Fv.cv rfl rfl rfl rfl (by decide) (Nat.le_of_ble_eq_true rfl) (Nat.le_of_ble_eq_true rfl) H0.m199 H0.o199 (ev_isT L xs H0 h.l0 M b0 b1) ?_
  refine pm_Fv.zne rfl (by omega) rfl (fun h1 => ?_) (fun h1 => ?_)
  · refine pm_Fv.go 2 (f' := (129, 15, [(0, _), (1, _), (2, _)], [_, _, _])) rfl ?_
    refine pm_Fv.cvF rfl rfl rfl rfl (by decide) (Nat.le_of_ble_eq_true rfl) (Nat.le_of_ble_eq_true rfl) H0.m199 H0.o199 (ev_fz L xs H0) (fun s1 q1 => ?_)
    obtain ⟨H1, r1⟩ := q1
    refine pm_Fv.zne rfl (by omega) rfl (fun h2 => ?_) (fun h2 => ?_)
    · exact absurd h2 (by omega)
    · refine pm_Fv.go 4 (f' := (129, 25, [(0, _), (1, _), (2, _)], [_, _, _, _])) rfl ?_
      refine pm_Fv.call rfl rfl rfl rfl rfl (ev_w1 L xs (by omega) (by omega)) ?_
      refine pm_Fv.zne rfl (by omega) rfl (fun h3 => ?_) (fun h3 => ?_)
      · refine pm_Fv.go 2 (f' := (129, 37, [(0, _), (1, _), (2, _)], [_, _, _])) rfl ?_
        refine pm_Fv.cvF rfl rfl rfl rfl (by decide) (Nat.le_of_ble_eq_true rfl) (Nat.le_of_ble_eq_true rfl) H1.m199 H1.o199 (ev_fz L xs H1) (fun s2 q2 => ?_)
        obtain ⟨H2, r2⟩ := q2
        refine pm_Fv.zeq rfl (by omega) rfl (fun h4 => ?_) (fun h4 => ?_)
        · refine pm_Fv.go 2 (f' := (129, 47, [(0, _), (1, _), (2, _)], [_, _])) rfl ?_
          refine pm_Fv.jne rfl (by omega) rfl (fun h5 => ?_) (fun h5 => ?_)
          · exact absurd h5 (by omega)
          · refine pm_Fv.go 2 (f' := (129, 52, [(0, _), (1, _), (2, _)], [_, _])) rfl ?_
            refine pm_Fv.bp rfl rfl ?_
            refine pm_Fv.cv rfl rfl rfl rfl (by decide) (Nat.le_of_ble_eq_true rfl) (Nat.le_of_ble_eq_true rfl) H2.m199 H2.o199 (ev_g L xs H2 h.l0 (by omega)) ?_
            refine pm_Fv.zgt rfl (by omega) rfl (fun h6 => ?_) (fun h6 => ?_)
            · refine pm_Fv.go 9 (f' := (129, 85, [(5, _), (4, _), (3, _), (0, _), (1, _), (2, _)], [_, _])) rfl ?_
              refine pm_Fv.jge rfl (by omega) rfl (fun h7 => ?_) (fun h7 => ?_)
              · exact absurd h7 (by omega)
              · refine pm_Fv.go 1 (f' := (129, 89, [(5, _), (4, _), (3, _), (0, _), (1, _), (2, _)], [_])) rfl ?_
                refine pm_Fv.zeq rfl (by omega) rfl (fun h8 => ?_) (fun h8 => ?_)
                · exact absurd h8 (by omega)
                · refine pm_Fv.go 3 (f' := (129, 96, [(5, _), (4, _), (3, _), (0, _), (1, _), (2, _)], [_, _, _])) rfl ?_
                  refine pm_Fv.bp rfl rfl ?_
                  refine pm_Fv.go 1 (f' := (129, 100, [(5, _), (4, _), (3, _), (0, _), (1, _), (2, _)], [_, _, _, _, _])) rfl ?_
                  refine pm_Fv.iadd rfl ?_
                  rw [show (10 : Int) + 0 = 10 from rfl]
                  refine pm_Fv.cv rfl rfl rfl rfl (by decide) (Nat.le_of_ble_eq_true rfl) (Nat.le_of_ble_eq_true rfl) H2.m199 H2.o199 (ev_g L xs H2 h.l0 (by omega)) ?_
                  refine pm_Fv.zle rfl (by omega) rfl (fun h9 => ?_) (fun h9 => ?_)
                  · exact absurd h9 (by omega)
                  · refine pm_Fv.go 3 (f' := (129, 110, [(5, _), (4, _), (3, _), (0, _), (1, _), (2, _)], [_, _, _, _])) rfl ?_
                    refine pm_Fv.bp rfl rfl ?_
                    refine pm_Fv.go 1 (f' := (129, 114, [(5, _), (4, _), (3, _), (0, _), (1, _), (2, _)], [_, _, _, _, _, _])) rfl ?_
                    refine pm_Fv.iadd rfl ?_
                    rw [show (8 : Int) + 0 = 8 from rfl]
                    refine pm_Fv.cv rfl rfl rfl rfl (by decide) (Nat.le_of_ble_eq_true rfl) (Nat.le_of_ble_eq_true rfl) H2.m199 H2.o199 (ev_g L xs H2 h.l0 (by omega)) ?_
                    refine pm_Fv.go 2 (f' := (129, 120, [(5, _), (4, _), (3, _), (0, _), (1, _), (2, _)], [_, _, _, _, _])) rfl ?_
                    refine pm_Fv.bp rfl rfl ?_
                    refine pm_Fv.go 1 (f' := (129, 124, [(5, _), (4, _), (3, _), (0, _), (1, _), (2, _)], [_, _, _, _, _, _, _])) rfl ?_
                    refine pm_Fv.iadd rfl ?_
                    rw [show (10 : Int) + 0 = 10 from rfl]
                    refine pm_Fv.cv rfl rfl rfl rfl (by decide) (Nat.le_of_ble_eq_true rfl) (Nat.le_of_ble_eq_true rfl) H2.m199 H2.o199 (ev_g L xs H2 h.l0 (by omega)) ?_
                    refine pm_Fv.cv rfl rfl rfl rfl (by decide) (Nat.le_of_ble_eq_true rfl) (Nat.le_of_ble_eq_true rfl) H2.m199 H2.o199 (m0 _ _ _ _ H2 rfl) ?_
                    refine pm_Fv.cc1 (3652058) rfl rfl rfl ?_
                    refine pm_Fv.jle rfl (by omega) rfl (fun h10 => ?_) (fun h10 => ?_)
                    · refine pm_Fv.go 1 (f' := (129, 141, [(5, _), (4, _), (3, _), (0, _), (1, _), (2, _)], [_, _])) rfl ?_
                      refine pm_Fv.ior rfl ?_
                      rw [show zor 0 0 = 0 from by decide]
                      refine pm_Fv.go 1 (f' := (129, 144, [(4, _), (5, _), (3, _), (0, _), (1, _), (2, _)], [])) rfl ?_
                      refine pm_Fv.inc rfl rfl (Nat.le_of_ble_eq_true rfl) ?_
                      rw [show (0 : Int) + 1 = 1 from rfl]
                      refine pm_Fv.go 3 (f' := (129, 85, [(5, _), (4, _), (3, _), (0, _), (1, _), (2, _)], [_, _])) rfl ?_
                      refine pm_Fv.jge rfl (by omega) rfl (fun h11 => ?_) (fun h11 => ?_)
                      · exact absurd h11 (by omega)
                      · refine pm_Fv.go 1 (f' := (129, 89, [(5, _), (4, _), (3, _), (0, _), (1, _), (2, _)], [_])) rfl ?_
                        refine pm_Fv.zeq rfl (by omega) rfl (fun h12 => ?_) (fun h12 => ?_)
                        · exact absurd h12 (by omega)
                        · refine pm_Fv.go 3 (f' := (129, 96, [(5, _), (4, _), (3, _), (0, _), (1, _), (2, _)], [_, _, _])) rfl ?_
                          refine pm_Fv.bp rfl rfl ?_
                          refine pm_Fv.go 1 (f' := (129, 100, [(5, _), (4, _), (3, _), (0, _), (1, _), (2, _)], [_, _, _, _, _])) rfl ?_
                          refine pm_Fv.iadd rfl ?_
                          rw [show (10 : Int) + 1 = 11 from rfl]
                          refine pm_Fv.cv rfl rfl rfl rfl (by decide) (Nat.le_of_ble_eq_true rfl) (Nat.le_of_ble_eq_true rfl) H2.m199 H2.o199 (ev_g L xs H2 h.l0 (by omega)) ?_
                          refine pm_Fv.zle rfl (by omega) rfl (fun h13 => ?_) (fun h13 => ?_)
                          · exact absurd h13 (by omega)
                          · refine pm_Fv.go 3 (f' := (129, 110, [(5, _), (4, _), (3, _), (0, _), (1, _), (2, _)], [_, _, _, _])) rfl ?_
                            refine pm_Fv.bp rfl rfl ?_
                            refine pm_Fv.go 1 (f' := (129, 114, [(5, _), (4, _), (3, _), (0, _), (1, _), (2, _)], [_, _, _, _, _, _])) rfl ?_
                            refine pm_Fv.iadd rfl ?_
                            rw [show (8 : Int) + 1 = 9 from rfl]
                            refine pm_Fv.cv rfl rfl rfl rfl (by decide) (Nat.le_of_ble_eq_true rfl) (Nat.le_of_ble_eq_true rfl) H2.m199 H2.o199 (ev_g L xs H2 h.l0 (by omega)) ?_
                            refine pm_Fv.go 2 (f' := (129, 120, [(5, _), (4, _), (3, _), (0, _), (1, _), (2, _)], [_, _, _, _, _])) rfl ?_
                            refine pm_Fv.bp rfl rfl ?_
                            refine pm_Fv.go 1 (f' := (129, 124, [(5, _), (4, _), (3, _), (0, _), (1, _), (2, _)], [_, _, _, _, _, _, _])) rfl ?_
                            refine pm_Fv.iadd rfl ?_
                            rw [show (10 : Int) + 1 = 11 from rfl]
                            refine pm_Fv.cv rfl rfl rfl rfl (by decide) (Nat.le_of_ble_eq_true rfl) (Nat.le_of_ble_eq_true rfl) H2.m199 H2.o199 (ev_g L xs H2 h.l0 (by omega)) ?_
                            refine pm_Fv.cv rfl rfl rfl rfl (by decide) (Nat.le_of_ble_eq_true rfl) (Nat.le_of_ble_eq_true rfl) H2.m199 H2.o199 (m1 _ _ _ _ H2 rfl) ?_
                            refine pm_Fv.cc1 (3652058) rfl rfl rfl ?_
                            refine pm_Fv.jle rfl (by omega) rfl (fun h14 => ?_) (fun h14 => ?_)
                            · exact absurd h14 (by omega)
                            · refine pm_Fv.go 2 (f' := (129, 141, [(5, _), (4, _), (3, _), (0, _), (1, _), (2, _)], [_, _])) rfl ?_
                              refine pm_Fv.ior rfl ?_
                              rw [show zor 0 1 = 1 from by decide]
                              refine pm_Fv.go 1 (f' := (129, 144, [(4, _), (5, _), (3, _), (0, _), (1, _), (2, _)], [])) rfl ?_
                              refine pm_Fv.inc rfl rfl (Nat.le_of_ble_eq_true rfl) ?_
                              rw [show (1 : Int) + 1 = 2 from rfl]
                              refine pm_Fv.go 3 (f' := (129, 85, [(5, _), (4, _), (3, _), (0, _), (1, _), (2, _)], [_, _])) rfl ?_
                              refine pm_Fv.jge rfl (by omega) rfl (fun h15 => ?_) (fun h15 => ?_)
                              · refine pm_Fv.go 3 (f' := (129, 154, [(5, _), (4, _), (3, _), (0, _), (1, _), (2, _)], [_, _, _])) rfl ?_
                                refine pm_Fv.cvF rfl rfl rfl rfl (by decide) (Nat.le_of_ble_eq_true rfl) (Nat.le_of_ble_eq_true rfl) H2.m199 H2.o199 (ev_fo L xs H2) (fun s3 q3 => ?_)
                                obtain ⟨H3, r3⟩ := q3
                                refine pm_Fv.zeq rfl (by omega) rfl (fun h16 => ?_) (fun h16 => ?_)
                                · exact absurd h16 (by omega)
                                · refine pm_Fv.go 1 (f' := (129, 161, [(5, _), (4, _), (3, _), (0, _), (1, _), (2, _)], [_])) rfl ?_
                                  exact pm_Fv.rv rfl rfl ⟨rfl, H3, (r3.trans (r2.trans r1))⟩
                              · exact absurd h15 (by omega)
                    · exact absurd h10 (by omega)
            · exact absurd h6 (by omega)
        · exact absurd h4 (by omega)
      · exact absurd h3 (by omega)
  · exact absurd h1 (by omega)
theorem ev_mstate3xz (H : Hp σ ad z ar lr) (h : mo_H z ar) {n : Int} {I D : Int → Int} (M : mo_R (mo_g ar) (z 23) n I D) {b : Int} (b0 : 0 ≤ b) (b1 : b < n) (d0 : 0 < mo_g ar (I b) 10) {y0 : Int} (m0 : ∀ s z' ar' ad', Hp s ad' z' ar' lr → z' 26 = z 26 → pm_Ev (tq_P L xs) (pm_enter 145 [.ref 199, .int (zI (mo_g ar (I b) 8)), .int (zI (mo_g ar (I b) 10))]) s (.inl (some (.int (zI y0))), s)) (q0 : -2147483648 ≤ y0 ∧ y0 ≤ 2147483647) (l0 : 3652058 < y0) (d1 : mo_g ar (I b) 11 ≤ 0) : pm_Fv (tq_P L xs) (pm_enter 129 [.ref 199, .int (zI (I b)), .int (zI 3)]) σ (fun o s => o = .inl (some (.int (zI 0))) ∧ Hp s ad (hq_u z 29 3) ar lr ∧ s.2 = σ.2) := by
  show pm_Fv (tq_P L xs) (129, 0, [(0, .ref 199), (1, .int (zI (I b))), (2, .int (zI 3))], []) σ _
  have H0 : Hp σ ad (hq_u z 29 (z 29)) ar lr := by rw [hq_u_self]; exact H
  have hm : 0 ≤ z 23 ∧ z 23 ≤ 400 := ⟨M.m0, M.m4⟩
  have i0 := M.J.1 b b0 b1
  have i1 := M.lt b b0 b1
  have a0 := mo_g_r ar (I b) 10
  have a1 := mo_g_r ar (I b) 11
  refine pm_Fv.go 3 (f' := (129, 3, [(0, _), (1, _), (2, _)], [_, _, _])) rfl ?_
  refine pm_Fv.cv rfl rfl rfl rfl (by decide) (Nat.le_of_ble_eq_true rfl) (Nat.le_of_ble_eq_true rfl) H0.m199 H0.o199 (ev_isT L xs H0 h.l0 M b0 b1) ?_
  refine pm_Fv.zne rfl (by omega) rfl (fun h1 => ?_) (fun h1 => ?_)
  · refine pm_Fv.go 2 (f' := (129, 15, [(0, _), (1, _), (2, _)], [_, _, _])) rfl ?_
    refine pm_Fv.cvF rfl rfl rfl rfl (by decide) (Nat.le_of_ble_eq_true rfl) (Nat.le_of_ble_eq_true rfl) H0.m199 H0.o199 (ev_fz L xs H0) (fun s1 q1 => ?_)
    obtain ⟨H1, r1⟩ := q1
    refine pm_Fv.zne rfl (by omega) rfl (fun h2 => ?_) (fun h2 => ?_)
    · exact absurd h2 (by omega)
    · refine pm_Fv.go 4 (f' := (129, 25, [(0, _), (1, _), (2, _)], [_, _, _, _])) rfl ?_
      refine pm_Fv.call rfl rfl rfl rfl rfl (ev_w1 L xs (by omega) (by omega)) ?_
      refine pm_Fv.zne rfl (by omega) rfl (fun h3 => ?_) (fun h3 => ?_)
      · refine pm_Fv.go 2 (f' := (129, 37, [(0, _), (1, _), (2, _)], [_, _, _])) rfl ?_
        refine pm_Fv.cvF rfl rfl rfl rfl (by decide) (Nat.le_of_ble_eq_true rfl) (Nat.le_of_ble_eq_true rfl) H1.m199 H1.o199 (ev_fz L xs H1) (fun s2 q2 => ?_)
        obtain ⟨H2, r2⟩ := q2
        refine pm_Fv.zeq rfl (by omega) rfl (fun h4 => ?_) (fun h4 => ?_)
        · refine pm_Fv.go 2 (f' := (129, 47, [(0, _), (1, _), (2, _)], [_, _])) rfl ?_
          refine pm_Fv.jne rfl (by omega) rfl (fun h5 => ?_) (fun h5 => ?_)
          · exact absurd h5 (by omega)
          · refine pm_Fv.go 2 (f' := (129, 52, [(0, _), (1, _), (2, _)], [_, _])) rfl ?_
            refine pm_Fv.bp rfl rfl ?_
            refine pm_Fv.cv rfl rfl rfl rfl (by decide) (Nat.le_of_ble_eq_true rfl) (Nat.le_of_ble_eq_true rfl) H2.m199 H2.o199 (ev_g L xs H2 h.l0 (by omega)) ?_
            refine pm_Fv.zgt rfl (by omega) rfl (fun h6 => ?_) (fun h6 => ?_)
            · refine pm_Fv.go 9 (f' := (129, 85, [(5, _), (4, _), (3, _), (0, _), (1, _), (2, _)], [_, _])) rfl ?_
              refine pm_Fv.jge rfl (by omega) rfl (fun h7 => ?_) (fun h7 => ?_)
              · exact absurd h7 (by omega)
              · refine pm_Fv.go 1 (f' := (129, 89, [(5, _), (4, _), (3, _), (0, _), (1, _), (2, _)], [_])) rfl ?_
                refine pm_Fv.zeq rfl (by omega) rfl (fun h8 => ?_) (fun h8 => ?_)
                · exact absurd h8 (by omega)
                · refine pm_Fv.go 3 (f' := (129, 96, [(5, _), (4, _), (3, _), (0, _), (1, _), (2, _)], [_, _, _])) rfl ?_
                  refine pm_Fv.bp rfl rfl ?_
                  refine pm_Fv.go 1 (f' := (129, 100, [(5, _), (4, _), (3, _), (0, _), (1, _), (2, _)], [_, _, _, _, _])) rfl ?_
                  refine pm_Fv.iadd rfl ?_
                  rw [show (10 : Int) + 0 = 10 from rfl]
                  refine pm_Fv.cv rfl rfl rfl rfl (by decide) (Nat.le_of_ble_eq_true rfl) (Nat.le_of_ble_eq_true rfl) H2.m199 H2.o199 (ev_g L xs H2 h.l0 (by omega)) ?_
                  refine pm_Fv.zle rfl (by omega) rfl (fun h9 => ?_) (fun h9 => ?_)
                  · exact absurd h9 (by omega)
                  · refine pm_Fv.go 3 (f' := (129, 110, [(5, _), (4, _), (3, _), (0, _), (1, _), (2, _)], [_, _, _, _])) rfl ?_
                    refine pm_Fv.bp rfl rfl ?_
                    refine pm_Fv.go 1 (f' := (129, 114, [(5, _), (4, _), (3, _), (0, _), (1, _), (2, _)], [_, _, _, _, _, _])) rfl ?_
                    refine pm_Fv.iadd rfl ?_
                    rw [show (8 : Int) + 0 = 8 from rfl]
                    refine pm_Fv.cv rfl rfl rfl rfl (by decide) (Nat.le_of_ble_eq_true rfl) (Nat.le_of_ble_eq_true rfl) H2.m199 H2.o199 (ev_g L xs H2 h.l0 (by omega)) ?_
                    refine pm_Fv.go 2 (f' := (129, 120, [(5, _), (4, _), (3, _), (0, _), (1, _), (2, _)], [_, _, _, _, _])) rfl ?_
                    refine pm_Fv.bp rfl rfl ?_
                    refine pm_Fv.go 1 (f' := (129, 124, [(5, _), (4, _), (3, _), (0, _), (1, _), (2, _)], [_, _, _, _, _, _, _])) rfl ?_
                    refine pm_Fv.iadd rfl ?_
                    rw [show (10 : Int) + 0 = 10 from rfl]
                    refine pm_Fv.cv rfl rfl rfl rfl (by decide) (Nat.le_of_ble_eq_true rfl) (Nat.le_of_ble_eq_true rfl) H2.m199 H2.o199 (ev_g L xs H2 h.l0 (by omega)) ?_
                    refine pm_Fv.cv rfl rfl rfl rfl (by decide) (Nat.le_of_ble_eq_true rfl) (Nat.le_of_ble_eq_true rfl) H2.m199 H2.o199 (m0 _ _ _ _ H2 rfl) ?_
                    refine pm_Fv.cc1 (3652058) rfl rfl rfl ?_
                    refine pm_Fv.jle rfl (by omega) rfl (fun h10 => ?_) (fun h10 => ?_)
                    · exact absurd h10 (by omega)
                    · refine pm_Fv.go 2 (f' := (129, 141, [(5, _), (4, _), (3, _), (0, _), (1, _), (2, _)], [_, _])) rfl ?_
                      refine pm_Fv.ior rfl ?_
                      rw [show zor 0 1 = 1 from by decide]
                      refine pm_Fv.go 1 (f' := (129, 144, [(4, _), (5, _), (3, _), (0, _), (1, _), (2, _)], [])) rfl ?_
                      refine pm_Fv.inc rfl rfl (Nat.le_of_ble_eq_true rfl) ?_
                      rw [show (0 : Int) + 1 = 1 from rfl]
                      refine pm_Fv.go 3 (f' := (129, 85, [(5, _), (4, _), (3, _), (0, _), (1, _), (2, _)], [_, _])) rfl ?_
                      refine pm_Fv.jge rfl (by omega) rfl (fun h11 => ?_) (fun h11 => ?_)
                      · exact absurd h11 (by omega)
                      · refine pm_Fv.go 1 (f' := (129, 89, [(5, _), (4, _), (3, _), (0, _), (1, _), (2, _)], [_])) rfl ?_
                        refine pm_Fv.zeq rfl (by omega) rfl (fun h12 => ?_) (fun h12 => ?_)
                        · exact absurd h12 (by omega)
                        · refine pm_Fv.go 3 (f' := (129, 96, [(5, _), (4, _), (3, _), (0, _), (1, _), (2, _)], [_, _, _])) rfl ?_
                          refine pm_Fv.bp rfl rfl ?_
                          refine pm_Fv.go 1 (f' := (129, 100, [(5, _), (4, _), (3, _), (0, _), (1, _), (2, _)], [_, _, _, _, _])) rfl ?_
                          refine pm_Fv.iadd rfl ?_
                          rw [show (10 : Int) + 1 = 11 from rfl]
                          refine pm_Fv.cv rfl rfl rfl rfl (by decide) (Nat.le_of_ble_eq_true rfl) (Nat.le_of_ble_eq_true rfl) H2.m199 H2.o199 (ev_g L xs H2 h.l0 (by omega)) ?_
                          refine pm_Fv.zle rfl (by omega) rfl (fun h13 => ?_) (fun h13 => ?_)
                          · refine pm_Fv.go 1 (f' := (129, 141, [(5, _), (4, _), (3, _), (0, _), (1, _), (2, _)], [_, _])) rfl ?_
                            refine pm_Fv.ior rfl ?_
                            rw [show zor 1 0 = 1 from by decide]
                            refine pm_Fv.go 1 (f' := (129, 144, [(4, _), (5, _), (3, _), (0, _), (1, _), (2, _)], [])) rfl ?_
                            refine pm_Fv.inc rfl rfl (Nat.le_of_ble_eq_true rfl) ?_
                            rw [show (1 : Int) + 1 = 2 from rfl]
                            refine pm_Fv.go 3 (f' := (129, 85, [(5, _), (4, _), (3, _), (0, _), (1, _), (2, _)], [_, _])) rfl ?_
                            refine pm_Fv.jge rfl (by omega) rfl (fun h14 => ?_) (fun h14 => ?_)
                            · refine pm_Fv.go 3 (f' := (129, 154, [(5, _), (4, _), (3, _), (0, _), (1, _), (2, _)], [_, _, _])) rfl ?_
                              refine pm_Fv.cvF rfl rfl rfl rfl (by decide) (Nat.le_of_ble_eq_true rfl) (Nat.le_of_ble_eq_true rfl) H2.m199 H2.o199 (ev_fo L xs H2) (fun s3 q3 => ?_)
                              obtain ⟨H3, r3⟩ := q3
                              refine pm_Fv.zeq rfl (by omega) rfl (fun h15 => ?_) (fun h15 => ?_)
                              · exact absurd h15 (by omega)
                              · refine pm_Fv.go 1 (f' := (129, 161, [(5, _), (4, _), (3, _), (0, _), (1, _), (2, _)], [_])) rfl ?_
                                exact pm_Fv.rv rfl rfl ⟨rfl, H3, (r3.trans (r2.trans r1))⟩
                            · exact absurd h14 (by omega)
                          · exact absurd h13 (by omega)
            · exact absurd h6 (by omega)
        · exact absurd h4 (by omega)
      · exact absurd h3 (by omega)
  · exact absurd h1 (by omega)
theorem ev_mstate3xo (H : Hp σ ad z ar lr) (h : mo_H z ar) {n : Int} {I D : Int → Int} (M : mo_R (mo_g ar) (z 23) n I D) {b : Int} (b0 : 0 ≤ b) (b1 : b < n) (d0 : 0 < mo_g ar (I b) 10) {y0 : Int} (m0 : ∀ s z' ar' ad', Hp s ad' z' ar' lr → z' 26 = z 26 → pm_Ev (tq_P L xs) (pm_enter 145 [.ref 199, .int (zI (mo_g ar (I b) 8)), .int (zI (mo_g ar (I b) 10))]) s (.inl (some (.int (zI y0))), s)) (q0 : -2147483648 ≤ y0 ∧ y0 ≤ 2147483647) (l0 : 3652058 < y0) (d1 : 0 < mo_g ar (I b) 11) {y1 : Int} (m1 : ∀ s z' ar' ad', Hp s ad' z' ar' lr → z' 26 = z 26 → pm_Ev (tq_P L xs) (pm_enter 145 [.ref 199, .int (zI (mo_g ar (I b) 9)), .int (zI (mo_g ar (I b) 11))]) s (.inl (some (.int (zI y1))), s)) (q1 : -2147483648 ≤ y1 ∧ y1 ≤ 2147483647) (l1 : y1 ≤ 3652058) : pm_Fv (tq_P L xs) (pm_enter 129 [.ref 199, .int (zI (I b)), .int (zI 3)]) σ (fun o s => o = .inl (some (.int (zI 0))) ∧ Hp s ad (hq_u z 29 3) ar lr ∧ s.2 = σ.2) := by
  show pm_Fv (tq_P L xs) (129, 0, [(0, .ref 199), (1, .int (zI (I b))), (2, .int (zI 3))], []) σ _
  have H0 : Hp σ ad (hq_u z 29 (z 29)) ar lr := by rw [hq_u_self]; exact H
  have hm : 0 ≤ z 23 ∧ z 23 ≤ 400 := ⟨M.m0, M.m4⟩
  have i0 := M.J.1 b b0 b1
  have i1 := M.lt b b0 b1
  have a0 := mo_g_r ar (I b) 10
  have a1 := mo_g_r ar (I b) 11
  refine pm_Fv.go 3 (f' := (129, 3, [(0, _), (1, _), (2, _)], [_, _, _])) rfl ?_
  refine pm_Fv.cv rfl rfl rfl rfl (by decide) (Nat.le_of_ble_eq_true rfl) (Nat.le_of_ble_eq_true rfl) H0.m199 H0.o199 (ev_isT L xs H0 h.l0 M b0 b1) ?_
  refine pm_Fv.zne rfl (by omega) rfl (fun h1 => ?_) (fun h1 => ?_)
  · refine pm_Fv.go 2 (f' := (129, 15, [(0, _), (1, _), (2, _)], [_, _, _])) rfl ?_
    refine pm_Fv.cvF rfl rfl rfl rfl (by decide) (Nat.le_of_ble_eq_true rfl) (Nat.le_of_ble_eq_true rfl) H0.m199 H0.o199 (ev_fz L xs H0) (fun s1 q1 => ?_)
    obtain ⟨H1, r1⟩ := q1
    refine pm_Fv.zne rfl (by omega) rfl (fun h2 => ?_) (fun h2 => ?_)
    · exact absurd h2 (by omega)
    · refine pm_Fv.go 4 (f' := (129, 25, [(0, _), (1, _), (2, _)], [_, _, _, _])) rfl ?_
      refine pm_Fv.call rfl rfl rfl rfl rfl (ev_w1 L xs (by omega) (by omega)) ?_
      refine pm_Fv.zne rfl (by omega) rfl (fun h3 => ?_) (fun h3 => ?_)
      · refine pm_Fv.go 2 (f' := (129, 37, [(0, _), (1, _), (2, _)], [_, _, _])) rfl ?_
        refine pm_Fv.cvF rfl rfl rfl rfl (by decide) (Nat.le_of_ble_eq_true rfl) (Nat.le_of_ble_eq_true rfl) H1.m199 H1.o199 (ev_fz L xs H1) (fun s2 q2 => ?_)
        obtain ⟨H2, r2⟩ := q2
        refine pm_Fv.zeq rfl (by omega) rfl (fun h4 => ?_) (fun h4 => ?_)
        · refine pm_Fv.go 2 (f' := (129, 47, [(0, _), (1, _), (2, _)], [_, _])) rfl ?_
          refine pm_Fv.jne rfl (by omega) rfl (fun h5 => ?_) (fun h5 => ?_)
          · exact absurd h5 (by omega)
          · refine pm_Fv.go 2 (f' := (129, 52, [(0, _), (1, _), (2, _)], [_, _])) rfl ?_
            refine pm_Fv.bp rfl rfl ?_
            refine pm_Fv.cv rfl rfl rfl rfl (by decide) (Nat.le_of_ble_eq_true rfl) (Nat.le_of_ble_eq_true rfl) H2.m199 H2.o199 (ev_g L xs H2 h.l0 (by omega)) ?_
            refine pm_Fv.zgt rfl (by omega) rfl (fun h6 => ?_) (fun h6 => ?_)
            · refine pm_Fv.go 9 (f' := (129, 85, [(5, _), (4, _), (3, _), (0, _), (1, _), (2, _)], [_, _])) rfl ?_
              refine pm_Fv.jge rfl (by omega) rfl (fun h7 => ?_) (fun h7 => ?_)
              · exact absurd h7 (by omega)
              · refine pm_Fv.go 1 (f' := (129, 89, [(5, _), (4, _), (3, _), (0, _), (1, _), (2, _)], [_])) rfl ?_
                refine pm_Fv.zeq rfl (by omega) rfl (fun h8 => ?_) (fun h8 => ?_)
                · exact absurd h8 (by omega)
                · refine pm_Fv.go 3 (f' := (129, 96, [(5, _), (4, _), (3, _), (0, _), (1, _), (2, _)], [_, _, _])) rfl ?_
                  refine pm_Fv.bp rfl rfl ?_
                  refine pm_Fv.go 1 (f' := (129, 100, [(5, _), (4, _), (3, _), (0, _), (1, _), (2, _)], [_, _, _, _, _])) rfl ?_
                  refine pm_Fv.iadd rfl ?_
                  rw [show (10 : Int) + 0 = 10 from rfl]
                  refine pm_Fv.cv rfl rfl rfl rfl (by decide) (Nat.le_of_ble_eq_true rfl) (Nat.le_of_ble_eq_true rfl) H2.m199 H2.o199 (ev_g L xs H2 h.l0 (by omega)) ?_
                  refine pm_Fv.zle rfl (by omega) rfl (fun h9 => ?_) (fun h9 => ?_)
                  · exact absurd h9 (by omega)
                  · refine pm_Fv.go 3 (f' := (129, 110, [(5, _), (4, _), (3, _), (0, _), (1, _), (2, _)], [_, _, _, _])) rfl ?_
                    refine pm_Fv.bp rfl rfl ?_
                    refine pm_Fv.go 1 (f' := (129, 114, [(5, _), (4, _), (3, _), (0, _), (1, _), (2, _)], [_, _, _, _, _, _])) rfl ?_
                    refine pm_Fv.iadd rfl ?_
                    rw [show (8 : Int) + 0 = 8 from rfl]
                    refine pm_Fv.cv rfl rfl rfl rfl (by decide) (Nat.le_of_ble_eq_true rfl) (Nat.le_of_ble_eq_true rfl) H2.m199 H2.o199 (ev_g L xs H2 h.l0 (by omega)) ?_
                    refine pm_Fv.go 2 (f' := (129, 120, [(5, _), (4, _), (3, _), (0, _), (1, _), (2, _)], [_, _, _, _, _])) rfl ?_
                    refine pm_Fv.bp rfl rfl ?_
                    refine pm_Fv.go 1 (f' := (129, 124, [(5, _), (4, _), (3, _), (0, _), (1, _), (2, _)], [_, _, _, _, _, _, _])) rfl ?_
                    refine pm_Fv.iadd rfl ?_
                    rw [show (10 : Int) + 0 = 10 from rfl]
                    refine pm_Fv.cv rfl rfl rfl rfl (by decide) (Nat.le_of_ble_eq_true rfl) (Nat.le_of_ble_eq_true rfl) H2.m199 H2.o199 (ev_g L xs H2 h.l0 (by omega)) ?_
                    refine pm_Fv.cv rfl rfl rfl rfl (by decide) (Nat.le_of_ble_eq_true rfl) (Nat.le_of_ble_eq_true rfl) H2.m199 H2.o199 (m0 _ _ _ _ H2 rfl) ?_
                    refine pm_Fv.cc1 (3652058) rfl rfl rfl ?_
                    refine pm_Fv.jle rfl (by omega) rfl (fun h10 => ?_) (fun h10 => ?_)
                    · exact absurd h10 (by omega)
                    · refine pm_Fv.go 2 (f' := (129, 141, [(5, _), (4, _), (3, _), (0, _), (1, _), (2, _)], [_, _])) rfl ?_
                      refine pm_Fv.ior rfl ?_
                      rw [show zor 0 1 = 1 from by decide]
                      refine pm_Fv.go 1 (f' := (129, 144, [(4, _), (5, _), (3, _), (0, _), (1, _), (2, _)], [])) rfl ?_
                      refine pm_Fv.inc rfl rfl (Nat.le_of_ble_eq_true rfl) ?_
                      rw [show (0 : Int) + 1 = 1 from rfl]
                      refine pm_Fv.go 3 (f' := (129, 85, [(5, _), (4, _), (3, _), (0, _), (1, _), (2, _)], [_, _])) rfl ?_
                      refine pm_Fv.jge rfl (by omega) rfl (fun h11 => ?_) (fun h11 => ?_)
                      · exact absurd h11 (by omega)
                      · refine pm_Fv.go 1 (f' := (129, 89, [(5, _), (4, _), (3, _), (0, _), (1, _), (2, _)], [_])) rfl ?_
                        refine pm_Fv.zeq rfl (by omega) rfl (fun h12 => ?_) (fun h12 => ?_)
                        · exact absurd h12 (by omega)
                        · refine pm_Fv.go 3 (f' := (129, 96, [(5, _), (4, _), (3, _), (0, _), (1, _), (2, _)], [_, _, _])) rfl ?_
                          refine pm_Fv.bp rfl rfl ?_
                          refine pm_Fv.go 1 (f' := (129, 100, [(5, _), (4, _), (3, _), (0, _), (1, _), (2, _)], [_, _, _, _, _])) rfl ?_
                          refine pm_Fv.iadd rfl ?_
                          rw [show (10 : Int) + 1 = 11 from rfl]
                          refine pm_Fv.cv rfl rfl rfl rfl (by decide) (Nat.le_of_ble_eq_true rfl) (Nat.le_of_ble_eq_true rfl) H2.m199 H2.o199 (ev_g L xs H2 h.l0 (by omega)) ?_
                          refine pm_Fv.zle rfl (by omega) rfl (fun h13 => ?_) (fun h13 => ?_)
                          · exact absurd h13 (by omega)
                          · refine pm_Fv.go 3 (f' := (129, 110, [(5, _), (4, _), (3, _), (0, _), (1, _), (2, _)], [_, _, _, _])) rfl ?_
                            refine pm_Fv.bp rfl rfl ?_
                            refine pm_Fv.go 1 (f' := (129, 114, [(5, _), (4, _), (3, _), (0, _), (1, _), (2, _)], [_, _, _, _, _, _])) rfl ?_
                            refine pm_Fv.iadd rfl ?_
                            rw [show (8 : Int) + 1 = 9 from rfl]
                            refine pm_Fv.cv rfl rfl rfl rfl (by decide) (Nat.le_of_ble_eq_true rfl) (Nat.le_of_ble_eq_true rfl) H2.m199 H2.o199 (ev_g L xs H2 h.l0 (by omega)) ?_
                            refine pm_Fv.go 2 (f' := (129, 120, [(5, _), (4, _), (3, _), (0, _), (1, _), (2, _)], [_, _, _, _, _])) rfl ?_
                            refine pm_Fv.bp rfl rfl ?_
                            refine pm_Fv.go 1 (f' := (129, 124, [(5, _), (4, _), (3, _), (0, _), (1, _), (2, _)], [_, _, _, _, _, _, _])) rfl ?_
                            refine pm_Fv.iadd rfl ?_
                            rw [show (10 : Int) + 1 = 11 from rfl]
                            refine pm_Fv.cv rfl rfl rfl rfl (by decide) (Nat.le_of_ble_eq_true rfl) (Nat.le_of_ble_eq_true rfl) H2.m199 H2.o199 (ev_g L xs H2 h.l0 (by omega)) ?_
                            refine pm_Fv.cv rfl rfl rfl rfl (by decide) (Nat.le_of_ble_eq_true rfl) (Nat.le_of_ble_eq_true rfl) H2.m199 H2.o199 (m1 _ _ _ _ H2 rfl) ?_
                            refine pm_Fv.cc1 (3652058) rfl rfl rfl ?_
                            refine pm_Fv.jle rfl (by omega) rfl (fun h14 => ?_) (fun h14 => ?_)
                            · refine pm_Fv.go 1 (f' := (129, 141, [(5, _), (4, _), (3, _), (0, _), (1, _), (2, _)], [_, _])) rfl ?_
                              refine pm_Fv.ior rfl ?_
                              rw [show zor 1 0 = 1 from by decide]
                              refine pm_Fv.go 1 (f' := (129, 144, [(4, _), (5, _), (3, _), (0, _), (1, _), (2, _)], [])) rfl ?_
                              refine pm_Fv.inc rfl rfl (Nat.le_of_ble_eq_true rfl) ?_
                              rw [show (1 : Int) + 1 = 2 from rfl]
                              refine pm_Fv.go 3 (f' := (129, 85, [(5, _), (4, _), (3, _), (0, _), (1, _), (2, _)], [_, _])) rfl ?_
                              refine pm_Fv.jge rfl (by omega) rfl (fun h15 => ?_) (fun h15 => ?_)
                              · refine pm_Fv.go 3 (f' := (129, 154, [(5, _), (4, _), (3, _), (0, _), (1, _), (2, _)], [_, _, _])) rfl ?_
                                refine pm_Fv.cvF rfl rfl rfl rfl (by decide) (Nat.le_of_ble_eq_true rfl) (Nat.le_of_ble_eq_true rfl) H2.m199 H2.o199 (ev_fo L xs H2) (fun s3 q3 => ?_)
                                obtain ⟨H3, r3⟩ := q3
                                refine pm_Fv.zeq rfl (by omega) rfl (fun h16 => ?_) (fun h16 => ?_)
                                · exact absurd h16 (by omega)
                                · refine pm_Fv.go 1 (f' := (129, 161, [(5, _), (4, _), (3, _), (0, _), (1, _), (2, _)], [_])) rfl ?_
                                  exact pm_Fv.rv rfl rfl ⟨rfl, H3, (r3.trans (r2.trans r1))⟩
                              · exact absurd h15 (by omega)
                            · exact absurd h14 (by omega)
            · exact absurd h6 (by omega)
        · exact absurd h4 (by omega)
      · exact absurd h3 (by omega)
  · exact absurd h1 (by omega)
theorem ev_mstate3xx (H : Hp σ ad z ar lr) (h : mo_H z ar) {n : Int} {I D : Int → Int} (M : mo_R (mo_g ar) (z 23) n I D) {b : Int} (b0 : 0 ≤ b) (b1 : b < n) (d0 : 0 < mo_g ar (I b) 10) {y0 : Int} (m0 : ∀ s z' ar' ad', Hp s ad' z' ar' lr → z' 26 = z 26 → pm_Ev (tq_P L xs) (pm_enter 145 [.ref 199, .int (zI (mo_g ar (I b) 8)), .int (zI (mo_g ar (I b) 10))]) s (.inl (some (.int (zI y0))), s)) (q0 : -2147483648 ≤ y0 ∧ y0 ≤ 2147483647) (l0 : 3652058 < y0) (d1 : 0 < mo_g ar (I b) 11) {y1 : Int} (m1 : ∀ s z' ar' ad', Hp s ad' z' ar' lr → z' 26 = z 26 → pm_Ev (tq_P L xs) (pm_enter 145 [.ref 199, .int (zI (mo_g ar (I b) 9)), .int (zI (mo_g ar (I b) 11))]) s (.inl (some (.int (zI y1))), s)) (q1 : -2147483648 ≤ y1 ∧ y1 ≤ 2147483647) (l1 : 3652058 < y1) : pm_Fv (tq_P L xs) (pm_enter 129 [.ref 199, .int (zI (I b)), .int (zI 3)]) σ (fun o s => o = .inl (some (.int (zI 0))) ∧ Hp s ad (hq_u z 29 3) ar lr ∧ s.2 = σ.2) := by
  show pm_Fv (tq_P L xs) (129, 0, [(0, .ref 199), (1, .int (zI (I b))), (2, .int (zI 3))], []) σ _
  have H0 : Hp σ ad (hq_u z 29 (z 29)) ar lr := by rw [hq_u_self]; exact H
  have hm : 0 ≤ z 23 ∧ z 23 ≤ 400 := ⟨M.m0, M.m4⟩
  have i0 := M.J.1 b b0 b1
  have i1 := M.lt b b0 b1
  have a0 := mo_g_r ar (I b) 10
  have a1 := mo_g_r ar (I b) 11
  refine pm_Fv.go 3 (f' := (129, 3, [(0, _), (1, _), (2, _)], [_, _, _])) rfl ?_
  refine pm_Fv.cv rfl rfl rfl rfl (by decide) (Nat.le_of_ble_eq_true rfl) (Nat.le_of_ble_eq_true rfl) H0.m199 H0.o199 (ev_isT L xs H0 h.l0 M b0 b1) ?_
  refine pm_Fv.zne rfl (by omega) rfl (fun h1 => ?_) (fun h1 => ?_)
  · refine pm_Fv.go 2 (f' := (129, 15, [(0, _), (1, _), (2, _)], [_, _, _])) rfl ?_
    refine pm_Fv.cvF rfl rfl rfl rfl (by decide) (Nat.le_of_ble_eq_true rfl) (Nat.le_of_ble_eq_true rfl) H0.m199 H0.o199 (ev_fz L xs H0) (fun s1 q1 => ?_)
    obtain ⟨H1, r1⟩ := q1
    refine pm_Fv.zne rfl (by omega) rfl (fun h2 => ?_) (fun h2 => ?_)
    · exact absurd h2 (by omega)
    · refine pm_Fv.go 4 (f' := (129, 25, [(0, _), (1, _), (2, _)], [_, _, _, _])) rfl ?_
      refine pm_Fv.call rfl rfl rfl rfl rfl (ev_w1 L xs (by omega) (by omega)) ?_
      refine pm_Fv.zne rfl (by omega) rfl (fun h3 => ?_) (fun h3 => ?_)
      · refine pm_Fv.go 2 (f' := (129, 37, [(0, _), (1, _), (2, _)], [_, _, _])) rfl ?_
        refine pm_Fv.cvF rfl rfl rfl rfl (by decide) (Nat.le_of_ble_eq_true rfl) (Nat.le_of_ble_eq_true rfl) H1.m199 H1.o199 (ev_fz L xs H1) (fun s2 q2 => ?_)
        obtain ⟨H2, r2⟩ := q2
        refine pm_Fv.zeq rfl (by omega) rfl (fun h4 => ?_) (fun h4 => ?_)
        · refine pm_Fv.go 2 (f' := (129, 47, [(0, _), (1, _), (2, _)], [_, _])) rfl ?_
          refine pm_Fv.jne rfl (by omega) rfl (fun h5 => ?_) (fun h5 => ?_)
          · exact absurd h5 (by omega)
          · refine pm_Fv.go 2 (f' := (129, 52, [(0, _), (1, _), (2, _)], [_, _])) rfl ?_
            refine pm_Fv.bp rfl rfl ?_
            refine pm_Fv.cv rfl rfl rfl rfl (by decide) (Nat.le_of_ble_eq_true rfl) (Nat.le_of_ble_eq_true rfl) H2.m199 H2.o199 (ev_g L xs H2 h.l0 (by omega)) ?_
            refine pm_Fv.zgt rfl (by omega) rfl (fun h6 => ?_) (fun h6 => ?_)
            · refine pm_Fv.go 9 (f' := (129, 85, [(5, _), (4, _), (3, _), (0, _), (1, _), (2, _)], [_, _])) rfl ?_
              refine pm_Fv.jge rfl (by omega) rfl (fun h7 => ?_) (fun h7 => ?_)
              · exact absurd h7 (by omega)
              · refine pm_Fv.go 1 (f' := (129, 89, [(5, _), (4, _), (3, _), (0, _), (1, _), (2, _)], [_])) rfl ?_
                refine pm_Fv.zeq rfl (by omega) rfl (fun h8 => ?_) (fun h8 => ?_)
                · exact absurd h8 (by omega)
                · refine pm_Fv.go 3 (f' := (129, 96, [(5, _), (4, _), (3, _), (0, _), (1, _), (2, _)], [_, _, _])) rfl ?_
                  refine pm_Fv.bp rfl rfl ?_
                  refine pm_Fv.go 1 (f' := (129, 100, [(5, _), (4, _), (3, _), (0, _), (1, _), (2, _)], [_, _, _, _, _])) rfl ?_
                  refine pm_Fv.iadd rfl ?_
                  rw [show (10 : Int) + 0 = 10 from rfl]
                  refine pm_Fv.cv rfl rfl rfl rfl (by decide) (Nat.le_of_ble_eq_true rfl) (Nat.le_of_ble_eq_true rfl) H2.m199 H2.o199 (ev_g L xs H2 h.l0 (by omega)) ?_
                  refine pm_Fv.zle rfl (by omega) rfl (fun h9 => ?_) (fun h9 => ?_)
                  · exact absurd h9 (by omega)
                  · refine pm_Fv.go 3 (f' := (129, 110, [(5, _), (4, _), (3, _), (0, _), (1, _), (2, _)], [_, _, _, _])) rfl ?_
                    refine pm_Fv.bp rfl rfl ?_
                    refine pm_Fv.go 1 (f' := (129, 114, [(5, _), (4, _), (3, _), (0, _), (1, _), (2, _)], [_, _, _, _, _, _])) rfl ?_
                    refine pm_Fv.iadd rfl ?_
                    rw [show (8 : Int) + 0 = 8 from rfl]
                    refine pm_Fv.cv rfl rfl rfl rfl (by decide) (Nat.le_of_ble_eq_true rfl) (Nat.le_of_ble_eq_true rfl) H2.m199 H2.o199 (ev_g L xs H2 h.l0 (by omega)) ?_
                    refine pm_Fv.go 2 (f' := (129, 120, [(5, _), (4, _), (3, _), (0, _), (1, _), (2, _)], [_, _, _, _, _])) rfl ?_
                    refine pm_Fv.bp rfl rfl ?_
                    refine pm_Fv.go 1 (f' := (129, 124, [(5, _), (4, _), (3, _), (0, _), (1, _), (2, _)], [_, _, _, _, _, _, _])) rfl ?_
                    refine pm_Fv.iadd rfl ?_
                    rw [show (10 : Int) + 0 = 10 from rfl]
                    refine pm_Fv.cv rfl rfl rfl rfl (by decide) (Nat.le_of_ble_eq_true rfl) (Nat.le_of_ble_eq_true rfl) H2.m199 H2.o199 (ev_g L xs H2 h.l0 (by omega)) ?_
                    refine pm_Fv.cv rfl rfl rfl rfl (by decide) (Nat.le_of_ble_eq_true rfl) (Nat.le_of_ble_eq_true rfl) H2.m199 H2.o199 (m0 _ _ _ _ H2 rfl) ?_
                    refine pm_Fv.cc1 (3652058) rfl rfl rfl ?_
                    refine pm_Fv.jle rfl (by omega) rfl (fun h10 => ?_) (fun h10 => ?_)
                    · exact absurd h10 (by omega)
                    · refine pm_Fv.go 2 (f' := (129, 141, [(5, _), (4, _), (3, _), (0, _), (1, _), (2, _)], [_, _])) rfl ?_
                      refine pm_Fv.ior rfl ?_
                      rw [show zor 0 1 = 1 from by decide]
                      refine pm_Fv.go 1 (f' := (129, 144, [(4, _), (5, _), (3, _), (0, _), (1, _), (2, _)], [])) rfl ?_
                      refine pm_Fv.inc rfl rfl (Nat.le_of_ble_eq_true rfl) ?_
                      rw [show (0 : Int) + 1 = 1 from rfl]
                      refine pm_Fv.go 3 (f' := (129, 85, [(5, _), (4, _), (3, _), (0, _), (1, _), (2, _)], [_, _])) rfl ?_
                      refine pm_Fv.jge rfl (by omega) rfl (fun h11 => ?_) (fun h11 => ?_)
                      · exact absurd h11 (by omega)
                      · refine pm_Fv.go 1 (f' := (129, 89, [(5, _), (4, _), (3, _), (0, _), (1, _), (2, _)], [_])) rfl ?_
                        refine pm_Fv.zeq rfl (by omega) rfl (fun h12 => ?_) (fun h12 => ?_)
                        · exact absurd h12 (by omega)
                        · refine pm_Fv.go 3 (f' := (129, 96, [(5, _), (4, _), (3, _), (0, _), (1, _), (2, _)], [_, _, _])) rfl ?_
                          refine pm_Fv.bp rfl rfl ?_
                          refine pm_Fv.go 1 (f' := (129, 100, [(5, _), (4, _), (3, _), (0, _), (1, _), (2, _)], [_, _, _, _, _])) rfl ?_
                          refine pm_Fv.iadd rfl ?_
                          rw [show (10 : Int) + 1 = 11 from rfl]
                          refine pm_Fv.cv rfl rfl rfl rfl (by decide) (Nat.le_of_ble_eq_true rfl) (Nat.le_of_ble_eq_true rfl) H2.m199 H2.o199 (ev_g L xs H2 h.l0 (by omega)) ?_
                          refine pm_Fv.zle rfl (by omega) rfl (fun h13 => ?_) (fun h13 => ?_)
                          · exact absurd h13 (by omega)
                          · refine pm_Fv.go 3 (f' := (129, 110, [(5, _), (4, _), (3, _), (0, _), (1, _), (2, _)], [_, _, _, _])) rfl ?_
                            refine pm_Fv.bp rfl rfl ?_
                            refine pm_Fv.go 1 (f' := (129, 114, [(5, _), (4, _), (3, _), (0, _), (1, _), (2, _)], [_, _, _, _, _, _])) rfl ?_
                            refine pm_Fv.iadd rfl ?_
                            rw [show (8 : Int) + 1 = 9 from rfl]
                            refine pm_Fv.cv rfl rfl rfl rfl (by decide) (Nat.le_of_ble_eq_true rfl) (Nat.le_of_ble_eq_true rfl) H2.m199 H2.o199 (ev_g L xs H2 h.l0 (by omega)) ?_
                            refine pm_Fv.go 2 (f' := (129, 120, [(5, _), (4, _), (3, _), (0, _), (1, _), (2, _)], [_, _, _, _, _])) rfl ?_
                            refine pm_Fv.bp rfl rfl ?_
                            refine pm_Fv.go 1 (f' := (129, 124, [(5, _), (4, _), (3, _), (0, _), (1, _), (2, _)], [_, _, _, _, _, _, _])) rfl ?_
                            refine pm_Fv.iadd rfl ?_
                            rw [show (10 : Int) + 1 = 11 from rfl]
                            refine pm_Fv.cv rfl rfl rfl rfl (by decide) (Nat.le_of_ble_eq_true rfl) (Nat.le_of_ble_eq_true rfl) H2.m199 H2.o199 (ev_g L xs H2 h.l0 (by omega)) ?_
                            refine pm_Fv.cv rfl rfl rfl rfl (by decide) (Nat.le_of_ble_eq_true rfl) (Nat.le_of_ble_eq_true rfl) H2.m199 H2.o199 (m1 _ _ _ _ H2 rfl) ?_
                            refine pm_Fv.cc1 (3652058) rfl rfl rfl ?_
                            refine pm_Fv.jle rfl (by omega) rfl (fun h14 => ?_) (fun h14 => ?_)
                            · exact absurd h14 (by omega)
                            · refine pm_Fv.go 2 (f' := (129, 141, [(5, _), (4, _), (3, _), (0, _), (1, _), (2, _)], [_, _])) rfl ?_
                              refine pm_Fv.ior rfl ?_
                              rw [show zor 1 1 = 1 from by decide]
                              refine pm_Fv.go 1 (f' := (129, 144, [(4, _), (5, _), (3, _), (0, _), (1, _), (2, _)], [])) rfl ?_
                              refine pm_Fv.inc rfl rfl (Nat.le_of_ble_eq_true rfl) ?_
                              rw [show (1 : Int) + 1 = 2 from rfl]
                              refine pm_Fv.go 3 (f' := (129, 85, [(5, _), (4, _), (3, _), (0, _), (1, _), (2, _)], [_, _])) rfl ?_
                              refine pm_Fv.jge rfl (by omega) rfl (fun h15 => ?_) (fun h15 => ?_)
                              · refine pm_Fv.go 3 (f' := (129, 154, [(5, _), (4, _), (3, _), (0, _), (1, _), (2, _)], [_, _, _])) rfl ?_
                                refine pm_Fv.cvF rfl rfl rfl rfl (by decide) (Nat.le_of_ble_eq_true rfl) (Nat.le_of_ble_eq_true rfl) H2.m199 H2.o199 (ev_fo L xs H2) (fun s3 q3 => ?_)
                                obtain ⟨H3, r3⟩ := q3
                                refine pm_Fv.zeq rfl (by omega) rfl (fun h16 => ?_) (fun h16 => ?_)
                                · exact absurd h16 (by omega)
                                · refine pm_Fv.go 1 (f' := (129, 161, [(5, _), (4, _), (3, _), (0, _), (1, _), (2, _)], [_])) rfl ?_
                                  exact pm_Fv.rv rfl rfl ⟨rfl, H3, (r3.trans (r2.trans r1))⟩
                              · exact absurd h15 (by omega)
            · exact absurd h6 (by omega)
        · exact absurd h4 (by omega)
      · exact absurd h3 (by omega)
  · exact absurd h1 (by omega)
end MS
