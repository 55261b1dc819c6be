/-! the reference: days, steps, small questions -/
section MS
variable (L : Nat) (xs : Nat → Int32)
variable {σ : pm_S} {ad : Nat → Nat} {z : Nat → Int} {ar : Nat → Nat × (Nat → Int32)} {lr : Nat → Nat × (Nat → Int64)}
theorem ev_mtoday1 (H : Hp σ ad z ar lr) (h : mo_H z ar) {v : Int} (hv : -2147483648 ≤ v ∧ v ≤ 2147483647) (c : ¬ (0 ≤ v ∧ v ≤ 3652058)) : pm_Fv (tq_P L xs) (pm_enter 146 [.ref 199, .int (zI v)]) σ (fun o s => o = .inl (some (.int (zI 0))) ∧ Hp s ad (hq_u z 29 1) ar lr ∧ s.2 = σ.2) := by
  show pm_Fv (tq_P L xs) (146, 0, [(0, .ref 199), (1, .int (zI v))], []) σ _
  have H0 : Hp σ ad (hq_u z 29 (z 29)) ar lr := by rw [hq_u_self]; exact H
  refine pm_Fv.go 3 (f' := (146, 3, [(0, _), (1, _)], [_, _, _])) rfl ?_
  refine pm_Fv.cc1 (3652058) rfl rfl rfl ?_
  refine pm_Fv.call rfl rfl rfl rfl rfl (ev_w0 L xs (by omega) c) ?_
  refine pm_Fv.zne rfl (by omega) rfl (fun h1 => ?_) (fun h1 => ?_)
  · exact absurd h1 (by omega)
  · refine pm_Fv.go 3 (f' := (146, 17, [(0, _), (1, _)], [_, _, _])) rfl ?_
    refine pm_Fv.cvF rfl rfl rfl rfl (by decide) (Nat.le_of_ble_eq_true rfl) (Nat.le_of_ble_eq_true rfl) H0.m199 H0.o199 (ev_fo L xs H0) (fun s1 q1 => ?_)
    obtain ⟨H1, r1⟩ := q1
    refine pm_Fv.zeq rfl (by omega) rfl (fun h2 => ?_) (fun h2 => ?_)
    · exact absurd h2 (by omega)
    · refine pm_Fv.go 1 (f' := (146, 24, [(0, _), (1, _)], [_])) rfl ?_
      exact pm_Fv.rv rfl rfl ⟨rfl, H1, r1⟩
theorem ev_mtoday0 (H : Hp σ ad z ar lr) (h : mo_H z ar) {v : Int} (hv : -2147483648 ≤ v ∧ v ≤ 2147483647) (c : 0 ≤ v ∧ v ≤ 3652058) : pm_Fv (tq_P L xs) (pm_enter 146 [.ref 199, .int (zI v)]) σ (fun o s => o = .inl (some (.int (zI (z 26)))) ∧ Hp s ad (hq_u (hq_u z 29 0) 26 v) ar lr ∧ s.2 = σ.2) := by
  show pm_Fv (tq_P L xs) (146, 0, [(0, .ref 199), (1, .int (zI v))], []) σ _
  have H0 : Hp σ ad (hq_u z 29 (z 29)) ar lr := by rw [hq_u_self]; exact H
  refine pm_Fv.go 3 (f' := (146, 3, [(0, _), (1, _)], [_, _, _])) rfl ?_
  refine pm_Fv.cc1 (3652058) rfl rfl rfl ?_
  refine pm_Fv.call rfl rfl rfl rfl rfl (ev_w1 L xs (by omega) c) ?_
  refine pm_Fv.zne rfl (by omega) rfl (fun h1 => ?_) (fun h1 => ?_)
  · refine pm_Fv.go 2 (f' := (146, 17, [(0, _), (1, _)], [_, _, _])) rfl ?_
    refine pm_Fv.cvF rfl rfl rfl rfl (by decide) (Nat.le_of_ble_eq_true rfl) (Nat.le_of_ble_eq_true rfl) H0.m199 H0.o199 (ev_fz L xs H0) (fun s1 q1 => ?_)
    obtain ⟨H1, r1⟩ := q1
    refine pm_Fv.zeq rfl (by omega) rfl (fun h2 => ?_) (fun h2 => ?_)
    · refine pm_Fv.go 1 (f' := (146, 26, [(0, _), (1, _)], [_])) rfl ?_
      refine pm_Fv.gf rfl rfl H1.m199 H1.o199 rfl ?_
      refine pm_Fv.go 3 (f' := (146, 32, [(2, _), (0, _), (1, _)], [_, _])) rfl ?_
      refine pm_Fv.pz H1 26 rfl rfl rfl (by decide) rfl rfl (Nat.le_of_ble_eq_true rfl) rfl (by decide) rfl (fun s2 H2 r2 => ?_)
      refine pm_Fv.go 1 (f' := (146, 36, [(2, _), (0, _), (1, _)], [_])) rfl ?_
      exact pm_Fv.rv rfl rfl ⟨rfl, H2, (r2.trans r1)⟩
    · exact absurd h2 (by omega)
  · exact absurd h1 (by omega)
theorem ev_mday1a (H : Hp σ ad z ar lr) (h : mo_H z ar) {y m v : Int} (hy : -2147483648 ≤ y ∧ y ≤ 2147483647) (hm : -2147483648 ≤ m ∧ m ≤ 2147483647) (hv : -2147483648 ≤ v ∧ v ≤ 2147483647) (c : ¬ (1 ≤ y ∧ y ≤ 9999)) : pm_Fv (tq_P L xs) (pm_enter 147 [.ref 199, .int (zI y), .int (zI m), .int (zI v)]) σ (fun o s => o = .inl (some (.int (zI 0))) ∧ Hp s ad (hq_u z 29 1) ar lr ∧ s.2 = σ.2) := by
  show pm_Fv (tq_P L xs) (147, 0, [(0, .ref 199), (1, .int (zI y)), (2, .int (zI m)), (3, .int (zI v))], []) σ _
  have H0 : Hp σ ad (hq_u z 29 (z 29)) ar lr := by rw [hq_u_self]; exact H
  refine pm_Fv.go 3 (f' := (147, 3, [(0, _), (1, _), (2, _), (3, _)], [_, _, _])) rfl ?_
  refine pm_Fv.sp rfl rfl ?_
  refine pm_Fv.call rfl rfl rfl rfl rfl (ev_w0 L xs (by omega) c) ?_
  refine pm_Fv.zeq rfl (by omega) rfl (fun h1 => ?_) (fun h1 => ?_)
  · refine pm_Fv.go 3 (f' := (147, 41, [(0, _), (1, _), (2, _), (3, _)], [_, _, _])) rfl ?_
    refine pm_Fv.cvF rfl rfl rfl rfl (by decide) (Nat.le_of_ble_eq_true rfl) (Nat.le_of_ble_eq_true rfl) H0.m199 H0.o199 (ev_fo L xs H0) (fun s1 q1 => ?_)
    obtain ⟨H1, r1⟩ := q1
    refine pm_Fv.zeq rfl (by omega) rfl (fun h2 => ?_) (fun h2 => ?_)
    · exact absurd h2 (by omega)
    · refine pm_Fv.go 1 (f' := (147, 48, [(0, _), (1, _), (2, _), (3, _)], [_])) rfl ?_
      exact pm_Fv.rv rfl rfl ⟨rfl, H1, r1⟩
  · exact absurd h1 (by omega)
theorem ev_mday1b (H : Hp σ ad z ar lr) (h : mo_H z ar) {y m v : Int} (hy : -2147483648 ≤ y ∧ y ≤ 2147483647) (hm : -2147483648 ≤ m ∧ m ≤ 2147483647) (hv : -2147483648 ≤ v ∧ v ≤ 2147483647) (c : 1 ≤ y ∧ y ≤ 9999) (d : ¬ (1 ≤ m ∧ m ≤ 12)) : pm_Fv (tq_P L xs) (pm_enter 147 [.ref 199, .int (zI y), .int (zI m), .int (zI v)]) σ (fun o s => o = .inl (some (.int (zI 0))) ∧ Hp s ad (hq_u z 29 1) ar lr ∧ s.2 = σ.2) := by
  show pm_Fv (tq_P L xs) (147, 0, [(0, .ref 199), (1, .int (zI y)), (2, .int (zI m)), (3, .int (zI v))], []) σ _
  have H0 : Hp σ ad (hq_u z 29 (z 29)) ar lr := by rw [hq_u_self]; exact H
  refine pm_Fv.go 3 (f' := (147, 3, [(0, _), (1, _), (2, _), (3, _)], [_, _, _])) rfl ?_
  refine pm_Fv.sp rfl rfl ?_
  refine pm_Fv.call rfl rfl rfl rfl rfl (ev_w1 L xs (by omega) c) ?_
  refine pm_Fv.zeq rfl (by omega) rfl (fun h1 => ?_) (fun h1 => ?_)
  · exact absurd h1 (by omega)
  · refine pm_Fv.go 2 (f' := (147, 14, [(0, _), (1, _), (2, _), (3, _)], [_, _, _])) rfl ?_
    refine pm_Fv.bp rfl rfl ?_
    refine pm_Fv.call rfl rfl rfl rfl rfl (ev_w0 L xs (by omega) d) ?_
    refine pm_Fv.zeq rfl (by omega) rfl (fun h2 => ?_) (fun h2 => ?_)
    · refine pm_Fv.go 3 (f' := (147, 41, [(0, _), (1, _), (2, _), (3, _)], [_, _, _])) rfl ?_
      refine pm_Fv.cvF rfl rfl rfl rfl (by decide) (Nat.le_of_ble_eq_true rfl) (Nat.le_of_ble_eq_true rfl) H0.m199 H0.o199 (ev_fo L xs H0) (fun s1 q1 => ?_)
      obtain ⟨H1, r1⟩ := q1
      refine pm_Fv.zeq rfl (by omega) rfl (fun h3 => ?_) (fun h3 => ?_)
      · exact absurd h3 (by omega)
      · refine pm_Fv.go 1 (f' := (147, 48, [(0, _), (1, _), (2, _), (3, _)], [_])) rfl ?_
        exact pm_Fv.rv rfl rfl ⟨rfl, H1, r1⟩
    · exact absurd h2 (by omega)
theorem ev_mday1c (H : Hp σ ad z ar lr) (h : mo_H z ar) {y m v : Int} (hy : -2147483648 ≤ y ∧ y ≤ 2147483647) (hm : -2147483648 ≤ m ∧ m ≤ 2147483647) (hv : -2147483648 ≤ v ∧ v ≤ 2147483647) (c : 1 ≤ y ∧ y ≤ 9999) (d : 1 ≤ m ∧ m ≤ 12) (e : ¬ (1 ≤ v ∧ v ≤ cd_len ((y - 1) * 12 + m - 1))) : pm_Fv (tq_P L xs) (pm_enter 147 [.ref 199, .int (zI y), .int (zI m), .int (zI v)]) σ (fun o s => o = .inl (some (.int (zI 0))) ∧ Hp s ad (hq_u z 29 1) ar lr ∧ s.2 = σ.2) := by
  show pm_Fv (tq_P L xs) (147, 0, [(0, .ref 199), (1, .int (zI y)), (2, .int (zI m)), (3, .int (zI v))], []) σ _
  have H0 : Hp σ ad (hq_u z 29 (z 29)) ar lr := by rw [hq_u_self]; exact H
  have ln := cd_len_r ((y - 1) * 12 + m - 1)
  refine pm_Fv.go 3 (f' := (147, 3, [(0, _), (1, _), (2, _), (3, _)], [_, _, _])) rfl ?_
  refine pm_Fv.sp rfl rfl ?_
  refine pm_Fv.call rfl rfl rfl rfl rfl (ev_w1 L xs (by omega) c) ?_
  refine pm_Fv.zeq rfl (by omega) rfl (fun h1 => ?_) (fun h1 => ?_)
  · exact absurd h1 (by omega)
  · refine pm_Fv.go 2 (f' := (147, 14, [(0, _), (1, _), (2, _), (3, _)], [_, _, _])) rfl ?_
    refine pm_Fv.bp rfl rfl ?_
    refine pm_Fv.call rfl rfl rfl rfl rfl (ev_w1 L xs (by omega) d) ?_
    refine pm_Fv.zeq rfl (by omega) rfl (fun h2 => ?_) (fun h2 => ?_)
    · exact absurd h2 (by omega)
    · refine pm_Fv.go 4 (f' := (147, 26, [(0, _), (1, _), (2, _), (3, _)], [_, _, _, _, _])) rfl ?_
      refine pm_Fv.call rfl rfl rfl rfl rfl (ev_inMonth L xs _ (by omega) d) ?_
      refine pm_Fv.call rfl rfl rfl rfl rfl (ev_w0 L xs (by omega) e) ?_
      refine pm_Fv.zne rfl (by omega) rfl (fun h3 => ?_) (fun h3 => ?_)
      · exact absurd h3 (by omega)
      · refine pm_Fv.go 3 (f' := (147, 41, [(0, _), (1, _), (2, _), (3, _)], [_, _, _])) rfl ?_
        refine pm_Fv.cvF rfl rfl rfl rfl (by decide) (Nat.le_of_ble_eq_true rfl) (Nat.le_of_ble_eq_true rfl) H0.m199 H0.o199 (ev_fo L xs H0) (fun s1 q1 => ?_)
        obtain ⟨H1, r1⟩ := q1
        refine pm_Fv.zeq rfl (by omega) rfl (fun h4 => ?_) (fun h4 => ?_)
        · exact absurd h4 (by omega)
        · refine pm_Fv.go 1 (f' := (147, 48, [(0, _), (1, _), (2, _), (3, _)], [_])) rfl ?_
          exact pm_Fv.rv rfl rfl ⟨rfl, H1, r1⟩
theorem ev_mday0 (H : Hp σ ad z ar lr) (h : mo_H z ar) {y m v : Int} (hy : -2147483648 ≤ y ∧ y ≤ 2147483647) (hm : -2147483648 ≤ m ∧ m ≤ 2147483647) (hv : -2147483648 ≤ v ∧ v ≤ 2147483647) (c : 1 ≤ y ∧ y ≤ 9999) (d : 1 ≤ m ∧ m ≤ 12) (e : 1 ≤ v ∧ v ≤ cd_len ((y - 1) * 12 + m - 1)) : pm_Fv (tq_P L xs) (pm_enter 147 [.ref 199, .int (zI y), .int (zI m), .int (zI v)]) σ (fun o s => o = .inl (some (.int (zI (cd_num ((y - 1) * 12 + m - 1) v)))) ∧ Hp s ad (hq_u z 29 0) ar lr ∧ s.2 = σ.2) := by
  show pm_Fv (tq_P L xs) (147, 0, [(0, .ref 199), (1, .int (zI y)), (2, .int (zI m)), (3, .int (zI v))], []) σ _
  have H0 : Hp σ ad (hq_u z 29 (z 29)) ar lr := by rw [hq_u_self]; exact H
  have ln := cd_len_r ((y - 1) * 12 + m - 1)
  refine pm_Fv.go 3 (f' := (147, 3, [(0, _), (1, _), (2, _), (3, _)], [_, _, _])) rfl ?_
  refine pm_Fv.sp rfl rfl ?_
  refine pm_Fv.call rfl rfl rfl rfl rfl (ev_w1 L xs (by omega) c) ?_
  refine pm_Fv.zeq rfl (by omega) rfl (fun h1 => ?_) (fun h1 => ?_)
  · exact absurd h1 (by omega)
  · refine pm_Fv.go 2 (f' := (147, 14, [(0, _), (1, _), (2, _), (3, _)], [_, _, _])) rfl ?_
    refine pm_Fv.bp rfl rfl ?_
    refine pm_Fv.call rfl rfl rfl rfl rfl (ev_w1 L xs (by omega) d) ?_
    refine pm_Fv.zeq rfl (by omega) rfl (fun h2 => ?_) (fun h2 => ?_)
    · exact absurd h2 (by omega)
    · refine pm_Fv.go 4 (f' := (147, 26, [(0, _), (1, _), (2, _), (3, _)], [_, _, _, _, _])) rfl ?_
      refine pm_Fv.call rfl rfl rfl rfl rfl (ev_inMonth L xs _ (by omega) d) ?_
      refine pm_Fv.call rfl rfl rfl rfl rfl (ev_w1 L xs (by omega) e) ?_
      refine pm_Fv.zne rfl (by omega) rfl (fun h3 => ?_) (fun h3 => ?_)
      · refine pm_Fv.go 2 (f' := (147, 41, [(0, _), (1, _), (2, _), (3, _)], [_, _, _])) rfl ?_
        refine pm_Fv.cvF rfl rfl rfl rfl (by decide) (Nat.le_of_ble_eq_true rfl) (Nat.le_of_ble_eq_true rfl) H0.m199 H0.o199 (ev_fz L xs H0) (fun s1 q1 => ?_)
        obtain ⟨H1, r1⟩ := q1
        refine pm_Fv.zeq rfl (by omega) rfl (fun h4 => ?_) (fun h4 => ?_)
        · refine pm_Fv.go 3 (f' := (147, 52, [(0, _), (1, _), (2, _), (3, _)], [_, _, _])) rfl ?_
          refine pm_Fv.call rfl rfl rfl rfl rfl (ev_mnumber L xs _ (by omega) d) ?_
          exact pm_Fv.rv rfl rfl ⟨rfl, H1, r1⟩
        · exact absurd h4 (by omega)
      · exact absurd h3 (by omega)
theorem ev_mcal1a (H : Hp σ ad z ar lr) (h : mo_H z ar) {d v : Int} (hd : -2147483648 ≤ d ∧ d ≤ 2147483647) (hv : -2147483648 ≤ v ∧ v ≤ 2147483647) (c : ¬ (0 ≤ d ∧ d ≤ 3652058)) : pm_Fv (tq_P L xs) (pm_enter 148 [.ref 199, .int (zI d), .int (zI v)]) σ (fun o s => o = .inl (some (.int (zI 0))) ∧ Hp s ad (hq_u z 29 1) ar lr ∧ s.2 = σ.2) := by
  show pm_Fv (tq_P L xs) (148, 0, [(0, .ref 199), (1, .int (zI d)), (2, .int (zI v))], []) σ _
  have H0 : Hp σ ad (hq_u z 29 (z 29)) ar lr := by rw [hq_u_self]; exact H
  refine pm_Fv.go 3 (f' := (148, 3, [(0, _), (1, _), (2, _)], [_, _, _])) rfl ?_
  refine pm_Fv.cc1 (3652058) rfl rfl rfl ?_
  refine pm_Fv.call rfl rfl rfl rfl rfl (ev_w0 L xs (by omega) c) ?_
  refine pm_Fv.zeq rfl (by omega) rfl (fun h1 => ?_) (fun h1 => ?_)
  · refine pm_Fv.go 3 (f' := (148, 26, [(0, _), (1, _), (2, _)], [_, _, _])) rfl ?_
    refine pm_Fv.cvF rfl rfl rfl rfl (by decide) (Nat.le_of_ble_eq_true rfl) (Nat.le_of_ble_eq_true rfl) H0.m199 H0.o199 (ev_fo L xs H0) (fun s1 q1 => ?_)
    obtain ⟨H1, r1⟩ := q1
    refine pm_Fv.zeq rfl (by omega) rfl (fun h2 => ?_) (fun h2 => ?_)
    · exact absurd h2 (by omega)
    · refine pm_Fv.go 1 (f' := (148, 33, [(0, _), (1, _), (2, _)], [_])) rfl ?_
      exact pm_Fv.rv rfl rfl ⟨rfl, H1, r1⟩
  · exact absurd h1 (by omega)
theorem ev_mcal1b (H : Hp σ ad z ar lr) (h : mo_H z ar) {d v : Int} (hd : -2147483648 ≤ d ∧ d ≤ 2147483647) (hv : -2147483648 ≤ v ∧ v ≤ 2147483647) (c : 0 ≤ d ∧ d ≤ 3652058) (e : ¬ (0 ≤ v ∧ v ≤ 3)) : pm_Fv (tq_P L xs) (pm_enter 148 [.ref 199, .int (zI d), .int (zI v)]) σ (fun o s => o = .inl (some (.int (zI 0))) ∧ Hp s ad (hq_u z 29 1) ar lr ∧ s.2 = σ.2) := by
  show pm_Fv (tq_P L xs) (148, 0, [(0, .ref 199), (1, .int (zI d)), (2, .int (zI v))], []) σ _
  have H0 : Hp σ ad (hq_u z 29 (z 29)) ar lr := by rw [hq_u_self]; exact H
  refine pm_Fv.go 3 (f' := (148, 3, [(0, _), (1, _), (2, _)], [_, _, _])) rfl ?_
  refine pm_Fv.cc1 (3652058) rfl rfl rfl ?_
  refine pm_Fv.call rfl rfl rfl rfl rfl (ev_w1 L xs (by omega) c) ?_
  refine pm_Fv.zeq rfl (by omega) rfl (fun h1 => ?_) (fun h1 => ?_)
  · exact absurd h1 (by omega)
  · refine pm_Fv.go 3 (f' := (148, 14, [(0, _), (1, _), (2, _)], [_, _, _, _])) rfl ?_
    refine pm_Fv.call rfl rfl rfl rfl rfl (ev_w0 L xs (by omega) e) ?_
    refine pm_Fv.zne rfl (by omega) rfl (fun h2 => ?_) (fun h2 => ?_)
    · exact absurd h2 (by omega)
    · refine pm_Fv.go 3 (f' := (148, 26, [(0, _), (1, _), (2, _)], [_, _, _])) rfl ?_
      refine pm_Fv.cvF rfl rfl rfl rfl (by decide) (Nat.le_of_ble_eq_true rfl) (Nat.le_of_ble_eq_true rfl) H0.m199 H0.o199 (ev_fo L xs H0) (fun s1 q1 => ?_)
      obtain ⟨H1, r1⟩ := q1
      refine pm_Fv.zeq rfl (by omega) rfl (fun h3 => ?_) (fun h3 => ?_)
      · exact absurd h3 (by omega)
      · refine pm_Fv.go 1 (f' := (148, 33, [(0, _), (1, _), (2, _)], [_])) rfl ?_
        exact pm_Fv.rv rfl rfl ⟨rfl, H1, r1⟩
theorem ev_mcal00 (H : Hp σ ad z ar lr) (h : mo_H z ar) {d : Int} (c : 0 ≤ d ∧ d ≤ 3652058) : pm_Fv (tq_P L xs) (pm_enter 148 [.ref 199, .int (zI d), .int (zI 0)]) σ (fun o s => o = .inl (some (.int (zI (cd_yr d)))) ∧ Hp s ad (hq_u z 29 0) ar lr ∧ s.2 = σ.2) := by
  show pm_Fv (tq_P L xs) (148, 0, [(0, .ref 199), (1, .int (zI d)), (2, .int (zI 0))], []) σ _
  have H0 : Hp σ ad (hq_u z 29 (z 29)) ar lr := by rw [hq_u_self]; exact H
  have y1 := cd_yr_r c.1 (by omega : d ≤ 10000000)
  have mb := cd_mb_ok c.1
  refine pm_Fv.go 3 (f' := (148, 3, [(0, _), (1, _), (2, _)], [_, _, _])) rfl ?_
  refine pm_Fv.cc1 (3652058) rfl rfl rfl ?_
  refine pm_Fv.call rfl rfl rfl rfl rfl (ev_w1 L xs (by omega) c) ?_
  refine pm_Fv.zeq rfl (by omega) rfl (fun h1 => ?_) (fun h1 => ?_)
  · exact absurd h1 (by omega)
  · refine pm_Fv.go 3 (f' := (148, 14, [(0, _), (1, _), (2, _)], [_, _, _, _])) rfl ?_
    refine pm_Fv.call rfl rfl rfl rfl rfl (ev_w1 L xs (by omega) (by omega)) ?_
    refine pm_Fv.zne rfl (by omega) rfl (fun h2 => ?_) (fun h2 => ?_)
    · refine pm_Fv.go 2 (f' := (148, 26, [(0, _), (1, _), (2, _)], [_, _, _])) rfl ?_
      refine pm_Fv.cvF rfl rfl rfl rfl (by decide) (Nat.le_of_ble_eq_true rfl) (Nat.le_of_ble_eq_true rfl) H0.m199 H0.o199 (ev_fz L xs H0) (fun s1 q1 => ?_)
      obtain ⟨H1, r1⟩ := q1
      refine pm_Fv.zeq rfl (by omega) rfl (fun h3 => ?_) (fun h3 => ?_)
      · refine pm_Fv.go 3 (f' := (148, 61, [(0, _), (1, _), (2, _)], [_])) rfl ?_
        refine pm_Fv.call rfl rfl rfl rfl rfl (ev_myearOf L xs _ (by omega)) ?_
        exact pm_Fv.rv rfl rfl ⟨rfl, H1, r1⟩
      · exact absurd h3 (by omega)
    · exact absurd h2 (by omega)
theorem ev_mcal01 (H : Hp σ ad z ar lr) (h : mo_H z ar) {d : Int} (c : 0 ≤ d ∧ d ≤ 3652058) : pm_Fv (tq_P L xs) (pm_enter 148 [.ref 199, .int (zI d), .int (zI 1)]) σ (fun o s => o = .inl (some (.int (zI (cd_mb d - (cd_yr d - 1) * 12 + 1)))) ∧ Hp s ad (hq_u z 29 0) ar lr ∧ s.2 = σ.2) := by
  show pm_Fv (tq_P L xs) (148, 0, [(0, .ref 199), (1, .int (zI d)), (2, .int (zI 1))], []) σ _
  have H0 : Hp σ ad (hq_u z 29 (z 29)) ar lr := by rw [hq_u_self]; exact H
  have y1 := cd_yr_r c.1 (by omega : d ≤ 10000000)
  have mb := cd_mb_ok c.1
  refine pm_Fv.go 3 (f' := (148, 3, [(0, _), (1, _), (2, _)], [_, _, _])) rfl ?_
  refine pm_Fv.cc1 (3652058) rfl rfl rfl ?_
  refine pm_Fv.call rfl rfl rfl rfl rfl (ev_w1 L xs (by omega) c) ?_
  refine pm_Fv.zeq rfl (by omega) rfl (fun h1 => ?_) (fun h1 => ?_)
  · exact absurd h1 (by omega)
  · refine pm_Fv.go 3 (f' := (148, 14, [(0, _), (1, _), (2, _)], [_, _, _, _])) rfl ?_
    refine pm_Fv.call rfl rfl rfl rfl rfl (ev_w1 L xs (by omega) (by omega)) ?_
    refine pm_Fv.zne rfl (by omega) rfl (fun h2 => ?_) (fun h2 => ?_)
    · refine pm_Fv.go 2 (f' := (148, 26, [(0, _), (1, _), (2, _)], [_, _, _])) rfl ?_
      refine pm_Fv.cvF rfl rfl rfl rfl (by decide) (Nat.le_of_ble_eq_true rfl) (Nat.le_of_ble_eq_true rfl) H0.m199 H0.o199 (ev_fz L xs H0) (fun s1 q1 => ?_)
      obtain ⟨H1, r1⟩ := q1
      refine pm_Fv.zeq rfl (by omega) rfl (fun h3 => ?_) (fun h3 => ?_)
      · refine pm_Fv.go 3 (f' := (148, 66, [(0, _), (1, _), (2, _)], [_])) rfl ?_
        refine pm_Fv.call rfl rfl rfl rfl rfl (ev_monthOf L xs _ (by omega)) ?_
        exact pm_Fv.rv rfl rfl ⟨rfl, H1, r1⟩
      · exact absurd h3 (by omega)
    · exact absurd h2 (by omega)
theorem ev_mcal02 (H : Hp σ ad z ar lr) (h : mo_H z ar) {d : Int} (c : 0 ≤ d ∧ d ≤ 3652058) : pm_Fv (tq_P L xs) (pm_enter 148 [.ref 199, .int (zI d), .int (zI 2)]) σ (fun o s => o = .inl (some (.int (zI (d - cd_num ((cd_yr d - 1) * 12 + (cd_mb d - (cd_yr d - 1) * 12 + 1) - 1) 1 + 1)))) ∧ Hp s ad (hq_u z 29 0) ar lr ∧ s.2 = σ.2) := by
  show pm_Fv (tq_P L xs) (148, 0, [(0, .ref 199), (1, .int (zI d)), (2, .int (zI 2))], []) σ _
  have H0 : Hp σ ad (hq_u z 29 (z 29)) ar lr := by rw [hq_u_self]; exact H
  have y1 := cd_yr_r c.1 (by omega : d ≤ 10000000)
  have mb := cd_mb_ok c.1
  refine pm_Fv.go 3 (f' := (148, 3, [(0, _), (1, _), (2, _)], [_, _, _])) rfl ?_
  refine pm_Fv.cc1 (3652058) rfl rfl rfl ?_
  refine pm_Fv.call rfl rfl rfl rfl rfl (ev_w1 L xs (by omega) c) ?_
  refine pm_Fv.zeq rfl (by omega) rfl (fun h1 => ?_) (fun h1 => ?_)
  · exact absurd h1 (by omega)
  · refine pm_Fv.go 3 (f' := (148, 14, [(0, _), (1, _), (2, _)], [_, _, _, _])) rfl ?_
    refine pm_Fv.call rfl rfl rfl rfl rfl (ev_w1 L xs (by omega) (by omega)) ?_
    refine pm_Fv.zne rfl (by omega) rfl (fun h2 => ?_) (fun h2 => ?_)
    · refine pm_Fv.go 2 (f' := (148, 26, [(0, _), (1, _), (2, _)], [_, _, _])) rfl ?_
      refine pm_Fv.cvF rfl rfl rfl rfl (by decide) (Nat.le_of_ble_eq_true rfl) (Nat.le_of_ble_eq_true rfl) H0.m199 H0.o199 (ev_fz L xs H0) (fun s1 q1 => ?_)
      obtain ⟨H1, r1⟩ := q1
      refine pm_Fv.zeq rfl (by omega) rfl (fun h3 => ?_) (fun h3 => ?_)
      · refine pm_Fv.go 4 (f' := (148, 72, [(0, _), (1, _), (2, _)], [_, _])) rfl ?_
        refine pm_Fv.call rfl rfl rfl rfl rfl (ev_myearOf L xs _ (by omega)) ?_
        refine pm_Fv.go 1 (f' := (148, 76, [(0, _), (1, _), (2, _)], [_, _, _])) rfl ?_
        refine pm_Fv.call rfl rfl rfl rfl rfl (ev_monthOf L xs _ (by omega)) ?_
        refine pm_Fv.go 1 (f' := (148, 80, [(0, _), (1, _), (2, _)], [_, _, _, _])) rfl ?_
        refine pm_Fv.call rfl rfl rfl rfl rfl (ev_mnumber L xs _ (by omega) (by omega)) ?_
        refine pm_Fv.isub rfl ?_
        refine pm_Fv.go 1 (f' := (148, 85, [(0, _), (1, _), (2, _)], [_, _])) rfl ?_
        refine pm_Fv.iadd rfl ?_
        exact pm_Fv.rv rfl rfl ⟨rfl, H1, r1⟩
      · exact absurd h3 (by omega)
    · exact absurd h2 (by omega)
theorem ev_mcal03 (H : Hp σ ad z ar lr) (h : mo_H z ar) {d : Int} (c : 0 ≤ d ∧ d ≤ 3652058) : pm_Fv (tq_P L xs) (pm_enter 148 [.ref 199, .int (zI d), .int (zI 3)]) σ (fun o s => o = .inl (some (.int (zI (d % 7)))) ∧ Hp s ad (hq_u z 29 0) ar lr ∧ s.2 = σ.2) := by
  show pm_Fv (tq_P L xs) (148, 0, [(0, .ref 199), (1, .int (zI d)), (2, .int (zI 3))], []) σ _
  have H0 : Hp σ ad (hq_u z 29 (z 29)) ar lr := by rw [hq_u_self]; exact H
  have y1 := cd_yr_r c.1 (by omega : d ≤ 10000000)
  have mb := cd_mb_ok c.1
  refine pm_Fv.go 3 (f' := (148, 3, [(0, _), (1, _), (2, _)], [_, _, _])) rfl ?_
  refine pm_Fv.cc1 (3652058) rfl rfl rfl ?_
  refine pm_Fv.call rfl rfl rfl rfl rfl (ev_w1 L xs (by omega) c) ?_
  refine pm_Fv.zeq rfl (by omega) rfl (fun h1 => ?_) (fun h1 => ?_)
  · exact absurd h1 (by omega)
  · refine pm_Fv.go 3 (f' := (148, 14, [(0, _), (1, _), (2, _)], [_, _, _, _])) rfl ?_
    refine pm_Fv.call rfl rfl rfl rfl rfl (ev_w1 L xs (by omega) (by omega)) ?_
    refine pm_Fv.zne rfl (by omega) rfl (fun h2 => ?_) (fun h2 => ?_)
    · refine pm_Fv.go 2 (f' := (148, 26, [(0, _), (1, _), (2, _)], [_, _, _])) rfl ?_
      refine pm_Fv.cvF rfl rfl rfl rfl (by decide) (Nat.le_of_ble_eq_true rfl) (Nat.le_of_ble_eq_true rfl) H0.m199 H0.o199 (ev_fz L xs H0) (fun s1 q1 => ?_)
      obtain ⟨H1, r1⟩ := q1
      refine pm_Fv.zeq rfl (by omega) rfl (fun h3 => ?_) (fun h3 => ?_)
      · refine pm_Fv.go 3 (f' := (148, 88, [(0, _), (1, _), (2, _)], [_])) rfl ?_
        refine pm_Fv.bp rfl rfl ?_
        refine pm_Fv.irem rfl (by omega) ?_
        exact pm_Fv.rv rfl rfl ⟨rfl, H1, r1⟩
      · exact absurd h3 (by omega)
    · exact absurd h2 (by omega)
theorem ev_mopen1 (H : Hp σ ad z ar lr) (h : mo_H z ar) (c : z 24 = 1) : pm_Fv (tq_P L xs) (pm_enter 107 [.ref 199]) σ (fun o s => o = .inl none ∧ Hp s ad (hq_u z 29 1) ar lr ∧ s.2 = σ.2) := by
  show pm_Fv (tq_P L xs) (107, 0, [(0, .ref 199)], []) σ _
  have H0 : Hp σ ad (hq_u z 29 (z 29)) ar lr := by rw [hq_u_self]; exact H
  refine pm_Fv.go 2 (f' := (107, 2, [(0, _)], [_, _])) rfl ?_
  refine pm_Fv.gf rfl rfl H0.m199 H0.o199 rfl ?_
  rw [show hq_u z 29 (z 29) 24 = z 24 from rfl, c]
  refine pm_Fv.go 1 (f' := (107, 6, [(0, _)], [_, _, _])) rfl ?_
  refine pm_Fv.cvF rfl rfl rfl rfl (by decide) (Nat.le_of_ble_eq_true rfl) (Nat.le_of_ble_eq_true rfl) H0.m199 H0.o199 (ev_fo L xs H0) (fun s1 q1 => ?_)
  obtain ⟨H1, r1⟩ := q1
  refine pm_Fv.zeq rfl (by omega) rfl (fun h1 => ?_) (fun h1 => ?_)
  · exact absurd h1 (by omega)
  · exact pm_Fv.ret rfl rfl rfl rfl ⟨rfl, H1, r1⟩
theorem ev_mopen0 (H : Hp σ ad z ar lr) (h : mo_H z ar) (c : z 24 = 0) : pm_Fv (tq_P L xs) (pm_enter 107 [.ref 199]) σ (fun o s => o = .inl none ∧ Hp s ad (hq_u (hq_u (hq_u z 29 0) 24 1) 25 0) ar lr ∧ s.2 = σ.2) := by
  show pm_Fv (tq_P L xs) (107, 0, [(0, .ref 199)], []) σ _
  have H0 : Hp σ ad (hq_u z 29 (z 29)) ar lr := by rw [hq_u_self]; exact H
  refine pm_Fv.go 2 (f' := (107, 2, [(0, _)], [_, _])) rfl ?_
  refine pm_Fv.gf rfl rfl H0.m199 H0.o199 rfl ?_
  rw [show hq_u z 29 (z 29) 24 = z 24 from rfl, c]
  refine pm_Fv.go 1 (f' := (107, 6, [(0, _)], [_, _, _])) rfl ?_
  refine pm_Fv.cvF rfl rfl rfl rfl (by decide) (Nat.le_of_ble_eq_true rfl) (Nat.le_of_ble_eq_true rfl) H0.m199 H0.o199 (ev_fz L xs H0) (fun s1 q1 => ?_)
  obtain ⟨H1, r1⟩ := q1
  refine pm_Fv.zeq rfl (by omega) rfl (fun h1 => ?_) (fun h1 => ?_)
  · refine pm_Fv.go 2 (f' := (107, 15, [(0, _)], [_, _])) rfl ?_
    refine pm_Fv.pz H1 24 rfl rfl rfl (by decide) rfl rfl (Nat.le_of_ble_eq_true rfl) rfl (by decide) rfl (fun s2 H2 r2 => ?_)
    refine pm_Fv.go 2 (f' := (107, 20, [(0, _)], [_, _])) rfl ?_
    refine pm_Fv.pz H2 25 rfl rfl rfl (by decide) rfl rfl (Nat.le_of_ble_eq_true rfl) rfl (by decide) rfl (fun s3 H3 r3 => ?_)
    exact pm_Fv.ret rfl rfl rfl rfl ⟨rfl, H3, (r3.trans (r2.trans r1))⟩
  · exact absurd h1 (by omega)
theorem ev_mclose1 (H : Hp σ ad z ar lr) (h : mo_H z ar) (c : z 24 = 0) : pm_Fv (tq_P L xs) (pm_enter 108 [.ref 199]) σ (fun o s => o = .inl (some (.int (zI 0))) ∧ Hp s ad (hq_u z 29 1) ar lr ∧ s.2 = σ.2) := by
  show pm_Fv (tq_P L xs) (108, 0, [(0, .ref 199)], []) σ _
  have H0 : Hp σ ad (hq_u z 29 (z 29)) ar lr := by rw [hq_u_self]; exact H
  refine pm_Fv.go 2 (f' := (108, 2, [(0, _)], [_, _])) rfl ?_
  refine pm_Fv.gf rfl rfl H0.m199 H0.o199 rfl ?_
  rw [show hq_u z 29 (z 29) 24 = z 24 from rfl, c]
  refine pm_Fv.zne rfl (by omega) rfl (fun h1 => ?_) (fun h1 => ?_)
  · exact absurd h1 (by omega)
  · refine pm_Fv.go 3 (f' := (108, 14, [(0, _)], [_, _, _])) rfl ?_
    refine pm_Fv.cvF rfl rfl rfl rfl (by decide) (Nat.le_of_ble_eq_true rfl) (Nat.le_of_ble_eq_true rfl) H0.m199 H0.o199 (ev_fo L xs H0) (fun s1 q1 => ?_)
    obtain ⟨H1, r1⟩ := q1
    refine pm_Fv.zeq rfl (by omega) rfl (fun h2 => ?_) (fun h2 => ?_)
    · exact absurd h2 (by omega)
    · refine pm_Fv.go 1 (f' := (108, 21, [(0, _)], [_])) rfl ?_
      exact pm_Fv.rv rfl rfl ⟨rfl, H1, r1⟩
theorem ev_mclose0 (H : Hp σ ad z ar lr) (h : mo_H z ar) (c : z 24 = 1) (e : z 25 = 0) : pm_Fv (tq_P L xs) (pm_enter 108 [.ref 199]) σ (fun o s => o = .inl (some (.int (zI (z 21 - z 20)))) ∧ Hp s ad (hq_u (hq_u (hq_u z 29 0) 24 0) 25 0) ar lr ∧ s.2 = σ.2) := by
  show pm_Fv (tq_P L xs) (108, 0, [(0, .ref 199)], []) σ _
  have H0 : Hp σ ad (hq_u z 29 (z 29)) ar lr := by rw [hq_u_self]; exact H
  refine pm_Fv.go 2 (f' := (108, 2, [(0, _)], [_, _])) rfl ?_
  refine pm_Fv.gf rfl rfl H0.m199 H0.o199 rfl ?_
  rw [show hq_u z 29 (z 29) 24 = z 24 from rfl, c]
  refine pm_Fv.zne rfl (by omega) rfl (fun h1 => ?_) (fun h1 => ?_)
  · refine pm_Fv.go 2 (f' := (108, 14, [(0, _)], [_, _, _])) rfl ?_
    refine pm_Fv.cvF rfl rfl rfl rfl (by decide) (Nat.le_of_ble_eq_true rfl) (Nat.le_of_ble_eq_true rfl) H0.m199 H0.o199 (ev_fz L xs H0) (fun s1 q1 => ?_)
    obtain ⟨H1, r1⟩ := q1
    refine pm_Fv.zeq rfl (by omega) rfl (fun h2 => ?_) (fun h2 => ?_)
    · refine pm_Fv.go 2 (f' := (108, 24, [(0, _)], [_, _])) rfl ?_
      refine pm_Fv.pz H1 24 rfl rfl rfl (by decide) rfl rfl (Nat.le_of_ble_eq_true rfl) rfl (by decide) rfl (fun s2 H2 r2 => ?_)
      refine pm_Fv.go 1 (f' := (108, 28, [(0, _)], [_])) rfl ?_
      refine pm_Fv.gf rfl rfl H2.m199 H2.o199 rfl ?_
      rw [show hq_u (hq_u z 29 0) 24 0 25 = z 25 from rfl]
      refine pm_Fv.zle rfl (by omega) rfl (fun h3 => ?_) (fun h3 => ?_)
      · refine pm_Fv.go 2 (f' := (108, 40, [(0, _)], [_, _])) rfl ?_
        refine pm_Fv.pz H2 25 rfl rfl rfl (by decide) rfl rfl (Nat.le_of_ble_eq_true rfl) rfl (by decide) rfl (fun s3 H3 r3 => ?_)
        refine pm_Fv.go 1 (f' := (108, 44, [(0, _)], [_])) rfl ?_
        refine pm_Fv.gf rfl rfl H3.m199 H3.o199 rfl ?_
        refine pm_Fv.go 1 (f' := (108, 48, [(0, _)], [_, _])) rfl ?_
        refine pm_Fv.gf rfl rfl H3.m199 H3.o199 rfl ?_
        refine pm_Fv.isub rfl ?_
        exact pm_Fv.rv rfl rfl ⟨rfl, H3, (r3.trans (r2.trans r1))⟩
      · exact absurd h3 (by omega)
    · exact absurd h2 (by omega)
  · exact absurd h1 (by omega)
theorem ev_mclose2 (H : Hp σ ad z ar lr) (h : mo_H z ar) (c : z 24 = 1) (e : 0 < z 25) : pm_Fv (tq_P L xs) (pm_enter 108 [.ref 199]) σ fun o s => o = .inl (some (.int (zI (mo_stz (hq_u (hq_u z 29 0) 24 0) 21 - mo_stz (hq_u (hq_u z 29 0) 24 0) 20)))) ∧ Hp s ad (hq_u (mo_stz (hq_u (hq_u z 29 0) 24 0)) 25 0) (hq_cp ar 201 200 (5600 * ((z 21 + 1) % 61)) 0 5600) lr ∧ s.2 = σ.2 := by
  show pm_Fv (tq_P L xs) (108, 0, [(0, .ref 199)], []) σ _
  have H0 : Hp σ ad (hq_u z 29 (z 29)) ar lr := by rw [hq_u_self]; exact H
  have e1 := h.e1
  refine pm_Fv.go 2 (f' := (108, 2, [(0, _)], [_, _])) rfl ?_
  refine pm_Fv.gf rfl rfl H0.m199 H0.o199 rfl ?_
  rw [show hq_u z 29 (z 29) 24 = z 24 from rfl, c]
  refine pm_Fv.zne rfl (by omega) rfl (fun h1 => ?_) (fun h1 => ?_)
  · refine pm_Fv.go 2 (f' := (108, 14, [(0, _)], [_, _, _])) rfl ?_
    refine pm_Fv.cvF rfl rfl rfl rfl (by decide) (Nat.le_of_ble_eq_true rfl) (Nat.le_of_ble_eq_true rfl) H0.m199 H0.o199 (ev_fz L xs H0) (fun s1 q1 => ?_)
    obtain ⟨H1, r1⟩ := q1
    refine pm_Fv.zeq rfl (by omega) rfl (fun h2 => ?_) (fun h2 => ?_)
    · refine pm_Fv.go 2 (f' := (108, 24, [(0, _)], [_, _])) rfl ?_
      refine pm_Fv.pz H1 24 rfl rfl rfl (by decide) rfl rfl (Nat.le_of_ble_eq_true rfl) rfl (by decide) rfl (fun s2 H2 r2 => ?_)
      refine pm_Fv.go 1 (f' := (108, 28, [(0, _)], [_])) rfl ?_
      refine pm_Fv.gf rfl rfl H2.m199 H2.o199 rfl ?_
      rw [show hq_u (hq_u z 29 0) 24 0 25 = z 25 from rfl]
      refine pm_Fv.zle rfl (by omega) rfl (fun h3 => ?_) (fun h3 => ?_)
      · exact absurd h3 (by omega)
      · refine pm_Fv.go 1 (f' := (108, 35, [(0, _)], [_])) rfl ?_
        refine pm_Fv.cvF rfl rfl rfl rfl (by decide) (Nat.le_of_ble_eq_true rfl) (Nat.le_of_ble_eq_true rfl) H2.m199 H2.o199 (ev_step L xs H2 ⟨h.l0, h.l1, h.l2⟩ (show 0 ≤ z 21 ∧ z 21 < 100000 ∧ 0 ≤ z 20 ∧ z 20 ≤ z 21 by have := h.n0; have := h.n1; have := h.o0; have := h.o1; omega)) (fun s3 q3 => ?_)
        obtain ⟨H3, r3⟩ := q3
        refine pm_Fv.go 2 (f' := (108, 40, [(0, _)], [_, _])) rfl ?_
        refine pm_Fv.pz H3 25 rfl rfl rfl (by decide) rfl rfl (Nat.le_of_ble_eq_true rfl) rfl (by decide) rfl (fun s4 H4 r4 => ?_)
        refine pm_Fv.go 1 (f' := (108, 44, [(0, _)], [_])) rfl ?_
        refine pm_Fv.gf rfl rfl H4.m199 H4.o199 rfl ?_
        refine pm_Fv.go 1 (f' := (108, 48, [(0, _)], [_, _])) rfl ?_
        refine pm_Fv.gf rfl rfl H4.m199 H4.o199 rfl ?_
        refine pm_Fv.isub rfl ?_
        exact pm_Fv.rv rfl rfl ⟨rfl, H4, (r4.trans (r3.trans (r2.trans r1)))⟩
    · exact absurd h2 (by omega)
  · exact absurd h1 (by omega)
theorem ev_mundo1 (H : Hp σ ad z ar lr) (h : mo_H z ar) (c : z 24 = 1) : pm_Fv (tq_P L xs) (pm_enter 109 [.ref 199]) σ (fun o s => o = .inl (some (.int (zI 0))) ∧ Hp s ad (hq_u z 29 1) ar lr ∧ s.2 = σ.2) := by
  show pm_Fv (tq_P L xs) (109, 0, [(0, .ref 199)], []) σ _
  have H0 : Hp σ ad (hq_u z 29 (z 29)) ar lr := by rw [hq_u_self]; exact H
  have n0 := h.n0
  have n1 := h.n1
  have o0 := h.o0
  have o1 := h.o1
  refine pm_Fv.go 2 (f' := (109, 2, [(0, _)], [_, _])) rfl ?_
  refine pm_Fv.gf rfl rfl H0.m199 H0.o199 rfl ?_
  rw [show hq_u z 29 (z 29) 24 = z 24 from rfl, c]
  refine pm_Fv.go 1 (f' := (109, 6, [(0, _)], [_, _, _])) rfl ?_
  refine pm_Fv.cvF rfl rfl rfl rfl (by decide) (Nat.le_of_ble_eq_true rfl) (Nat.le_of_ble_eq_true rfl) H0.m199 H0.o199 (ev_fo L xs H0) (fun s1 q1 => ?_)
  obtain ⟨H1, r1⟩ := q1
  refine pm_Fv.zne rfl (by omega) rfl (fun h1 => ?_) (fun h1 => ?_)
  · refine pm_Fv.go 1 (f' := (109, 24, [(0, _)], [_])) rfl ?_
    exact pm_Fv.rb rfl rfl (by decide) ⟨rfl, H1, r1⟩
  · exact absurd h1 (by omega)
theorem ev_mundoN (H : Hp σ ad z ar lr) (h : mo_H z ar) (c : z 24 = 0) (e : z 21 = z 20) : pm_Fv (tq_P L xs) (pm_enter 109 [.ref 199]) σ (fun o s => o = .inl (some (.int (zI 0))) ∧ Hp s ad (hq_u z 29 0) ar lr ∧ s.2 = σ.2) := by
  show pm_Fv (tq_P L xs) (109, 0, [(0, .ref 199)], []) σ _
  have H0 : Hp σ ad (hq_u z 29 (z 29)) ar lr := by rw [hq_u_self]; exact H
  have n0 := h.n0
  have n1 := h.n1
  have o0 := h.o0
  have o1 := h.o1
  refine pm_Fv.go 2 (f' := (109, 2, [(0, _)], [_, _])) rfl ?_
  refine pm_Fv.gf rfl rfl H0.m199 H0.o199 rfl ?_
  rw [show hq_u z 29 (z 29) 24 = z 24 from rfl, c]
  refine pm_Fv.go 1 (f' := (109, 6, [(0, _)], [_, _, _])) rfl ?_
  refine pm_Fv.cvF rfl rfl rfl rfl (by decide) (Nat.le_of_ble_eq_true rfl) (Nat.le_of_ble_eq_true rfl) H0.m199 H0.o199 (ev_fz L xs H0) (fun s1 q1 => ?_)
  obtain ⟨H1, r1⟩ := q1
  refine pm_Fv.zne rfl (by omega) rfl (fun h1 => ?_) (fun h1 => ?_)
  · exact absurd h1 (by omega)
  · refine pm_Fv.go 1 (f' := (109, 13, [(0, _)], [_])) rfl ?_
    refine pm_Fv.gf rfl rfl H1.m199 H1.o199 rfl ?_
    rw [show hq_u z 29 0 21 = z 21 from rfl]
    refine pm_Fv.go 1 (f' := (109, 17, [(0, _)], [_, _])) rfl ?_
    refine pm_Fv.gf rfl rfl H1.m199 H1.o199 rfl ?_
    rw [show hq_u z 29 0 20 = z 20 from rfl]
    refine pm_Fv.jne rfl (by omega) rfl (fun h2 => ?_) (fun h2 => ?_)
    · exact absurd h2 (by omega)
    · refine pm_Fv.go 1 (f' := (109, 24, [(0, _)], [_])) rfl ?_
      exact pm_Fv.rb rfl rfl (by decide) ⟨rfl, H1, r1⟩
theorem ev_mundo0 (H : Hp σ ad z ar lr) (h : mo_H z ar) (c : z 24 = 0) (e : z 21 ≠ z 20) : pm_Fv (tq_P L xs) (pm_enter 109 [.ref 199]) σ (fun o s => o = .inl (some (.int (zI 1))) ∧ Hp s ad (hq_u (hq_u z 29 0) 21 (z 21 - 1)) (hq_cp ar 200 201 0 (5600 * ((z 21 - 1) % 61)) 5600) lr ∧ s.2 = σ.2) := by
  show pm_Fv (tq_P L xs) (109, 0, [(0, .ref 199)], []) σ _
  have H0 : Hp σ ad (hq_u z 29 (z 29)) ar lr := by rw [hq_u_self]; exact H
  have n0 := h.n0
  have n1 := h.n1
  have o0 := h.o0
  have o1 := h.o1
  refine pm_Fv.go 2 (f' := (109, 2, [(0, _)], [_, _])) rfl ?_
  refine pm_Fv.gf rfl rfl H0.m199 H0.o199 rfl ?_
  rw [show hq_u z 29 (z 29) 24 = z 24 from rfl, c]
  refine pm_Fv.go 1 (f' := (109, 6, [(0, _)], [_, _, _])) rfl ?_
  refine pm_Fv.cvF rfl rfl rfl rfl (by decide) (Nat.le_of_ble_eq_true rfl) (Nat.le_of_ble_eq_true rfl) H0.m199 H0.o199 (ev_fz L xs H0) (fun s1 q1 => ?_)
  obtain ⟨H1, r1⟩ := q1
  refine pm_Fv.zne rfl (by omega) rfl (fun h1 => ?_) (fun h1 => ?_)
  · exact absurd h1 (by omega)
  · refine pm_Fv.go 1 (f' := (109, 13, [(0, _)], [_])) rfl ?_
    refine pm_Fv.gf rfl rfl H1.m199 H1.o199 rfl ?_
    rw [show hq_u z 29 0 21 = z 21 from rfl]
    refine pm_Fv.go 1 (f' := (109, 17, [(0, _)], [_, _])) rfl ?_
    refine pm_Fv.gf rfl rfl H1.m199 H1.o199 rfl ?_
    rw [show hq_u z 29 0 20 = z 20 from rfl]
    refine pm_Fv.jne rfl (by omega) rfl (fun h2 => ?_) (fun h2 => ?_)
    · refine pm_Fv.go 2 (f' := (109, 27, [(0, _)], [_, _])) rfl ?_
      refine pm_Fv.gf rfl rfl H1.m199 H1.o199 rfl ?_
      rw [show hq_u z 29 0 21 = z 21 from rfl]
      refine pm_Fv.go 1 (f' := (109, 31, [(0, _)], [_, _, _])) rfl ?_
      refine pm_Fv.isub rfl ?_
      refine pm_Fv.pz H1 21 rfl rfl rfl (by decide) rfl rfl (Nat.le_of_ble_eq_true rfl) rfl (by decide) rfl (fun s2 H2 r2 => ?_)
      refine pm_Fv.go 1 (f' := (109, 36, [(0, _)], [_])) rfl ?_
      refine pm_Fv.cvF rfl rfl rfl rfl (by decide) (Nat.le_of_ble_eq_true rfl) (Nat.le_of_ble_eq_true rfl) H2.m199 H2.o199 (ev_load L xs H2 ⟨h.l0, h.l1, h.l2⟩ (show 0 ≤ z 21 - 1 ∧ z 21 - 1 ≤ 100000 by omega)) (fun s3 q3 => ?_)
      obtain ⟨H3, r3⟩ := q3
      refine pm_Fv.go 1 (f' := (109, 40, [(0, _)], [_])) rfl ?_
      exact pm_Fv.rb rfl rfl (by decide) ⟨rfl, H3, (r3.trans (r2.trans r1))⟩
    · exact absurd h2 (by omega)
theorem ev_mredo1 (H : Hp σ ad z ar lr) (h : mo_H z ar) (c : z 24 = 1) : pm_Fv (tq_P L xs) (pm_enter 110 [.ref 199]) σ (fun o s => o = .inl (some (.int (zI 0))) ∧ Hp s ad (hq_u z 29 1) ar lr ∧ s.2 = σ.2) := by
  show pm_Fv (tq_P L xs) (110, 0, [(0, .ref 199)], []) σ _
  have H0 : Hp σ ad (hq_u z 29 (z 29)) ar lr := by rw [hq_u_self]; exact H
  have n0 := h.n0
  have n1 := h.n1
  have o0 := h.o0
  have o1 := h.o1
  refine pm_Fv.go 2 (f' := (110, 2, [(0, _)], [_, _])) rfl ?_
  refine pm_Fv.gf rfl rfl H0.m199 H0.o199 rfl ?_
  rw [show hq_u z 29 (z 29) 24 = z 24 from rfl, c]
  refine pm_Fv.go 1 (f' := (110, 6, [(0, _)], [_, _, _])) rfl ?_
  refine pm_Fv.cvF rfl rfl rfl rfl (by decide) (Nat.le_of_ble_eq_true rfl) (Nat.le_of_ble_eq_true rfl) H0.m199 H0.o199 (ev_fo L xs H0) (fun s1 q1 => ?_)
  obtain ⟨H1, r1⟩ := q1
  refine pm_Fv.zne rfl (by omega) rfl (fun h1 => ?_) (fun h1 => ?_)
  · refine pm_Fv.go 1 (f' := (110, 24, [(0, _)], [_])) rfl ?_
    exact pm_Fv.rb rfl rfl (by decide) ⟨rfl, H1, r1⟩
  · exact absurd h1 (by omega)
theorem ev_mredoN (H : Hp σ ad z ar lr) (h : mo_H z ar) (c : z 24 = 0) (lm : z 21 ≤ z 22 ∧ z 22 < 90000) (e : z 21 = z 22) : pm_Fv (tq_P L xs) (pm_enter 110 [.ref 199]) σ (fun o s => o = .inl (some (.int (zI 0))) ∧ Hp s ad (hq_u z 29 0) ar lr ∧ s.2 = σ.2) := by
  show pm_Fv (tq_P L xs) (110, 0, [(0, .ref 199)], []) σ _
  have H0 : Hp σ ad (hq_u z 29 (z 29)) ar lr := by rw [hq_u_self]; exact H
  have n0 := h.n0
  have n1 := h.n1
  have o0 := h.o0
  have o1 := h.o1
  refine pm_Fv.go 2 (f' := (110, 2, [(0, _)], [_, _])) rfl ?_
  refine pm_Fv.gf rfl rfl H0.m199 H0.o199 rfl ?_
  rw [show hq_u z 29 (z 29) 24 = z 24 from rfl, c]
  refine pm_Fv.go 1 (f' := (110, 6, [(0, _)], [_, _, _])) rfl ?_
  refine pm_Fv.cvF rfl rfl rfl rfl (by decide) (Nat.le_of_ble_eq_true rfl) (Nat.le_of_ble_eq_true rfl) H0.m199 H0.o199 (ev_fz L xs H0) (fun s1 q1 => ?_)
  obtain ⟨H1, r1⟩ := q1
  refine pm_Fv.zne rfl (by omega) rfl (fun h1 => ?_) (fun h1 => ?_)
  · exact absurd h1 (by omega)
  · refine pm_Fv.go 1 (f' := (110, 13, [(0, _)], [_])) rfl ?_
    refine pm_Fv.gf rfl rfl H1.m199 H1.o199 rfl ?_
    rw [show hq_u z 29 0 21 = z 21 from rfl]
    refine pm_Fv.go 1 (f' := (110, 17, [(0, _)], [_, _])) rfl ?_
    refine pm_Fv.gf rfl rfl H1.m199 H1.o199 rfl ?_
    rw [show hq_u z 29 0 22 = z 22 from rfl]
    refine pm_Fv.jne rfl (by omega) rfl (fun h2 => ?_) (fun h2 => ?_)
    · exact absurd h2 (by omega)
    · refine pm_Fv.go 1 (f' := (110, 24, [(0, _)], [_])) rfl ?_
      exact pm_Fv.rb rfl rfl (by decide) ⟨rfl, H1, r1⟩
theorem ev_mredo0 (H : Hp σ ad z ar lr) (h : mo_H z ar) (c : z 24 = 0) (lm : z 21 ≤ z 22 ∧ z 22 < 90000) (e : z 21 ≠ z 22) : pm_Fv (tq_P L xs) (pm_enter 110 [.ref 199]) σ (fun o s => o = .inl (some (.int (zI 1))) ∧ Hp s ad (hq_u (hq_u z 29 0) 21 (z 21 + 1)) (hq_cp ar 200 201 0 (5600 * ((z 21 + 1) % 61)) 5600) lr ∧ s.2 = σ.2) := by
  show pm_Fv (tq_P L xs) (110, 0, [(0, .ref 199)], []) σ _
  have H0 : Hp σ ad (hq_u z 29 (z 29)) ar lr := by rw [hq_u_self]; exact H
  have n0 := h.n0
  have n1 := h.n1
  have o0 := h.o0
  have o1 := h.o1
  refine pm_Fv.go 2 (f' := (110, 2, [(0, _)], [_, _])) rfl ?_
  refine pm_Fv.gf rfl rfl H0.m199 H0.o199 rfl ?_
  rw [show hq_u z 29 (z 29) 24 = z 24 from rfl, c]
  refine pm_Fv.go 1 (f' := (110, 6, [(0, _)], [_, _, _])) rfl ?_
  refine pm_Fv.cvF rfl rfl rfl rfl (by decide) (Nat.le_of_ble_eq_true rfl) (Nat.le_of_ble_eq_true rfl) H0.m199 H0.o199 (ev_fz L xs H0) (fun s1 q1 => ?_)
  obtain ⟨H1, r1⟩ := q1
  refine pm_Fv.zne rfl (by omega) rfl (fun h1 => ?_) (fun h1 => ?_)
  · exact absurd h1 (by omega)
  · refine pm_Fv.go 1 (f' := (110, 13, [(0, _)], [_])) rfl ?_
    refine pm_Fv.gf rfl rfl H1.m199 H1.o199 rfl ?_
    rw [show hq_u z 29 0 21 = z 21 from rfl]
    refine pm_Fv.go 1 (f' := (110, 17, [(0, _)], [_, _])) rfl ?_
    refine pm_Fv.gf rfl rfl H1.m199 H1.o199 rfl ?_
    rw [show hq_u z 29 0 22 = z 22 from rfl]
    refine pm_Fv.jne rfl (by omega) rfl (fun h2 => ?_) (fun h2 => ?_)
    · refine pm_Fv.go 2 (f' := (110, 27, [(0, _)], [_, _])) rfl ?_
      refine pm_Fv.gf rfl rfl H1.m199 H1.o199 rfl ?_
      rw [show hq_u z 29 0 21 = z 21 from rfl]
      refine pm_Fv.go 1 (f' := (110, 31, [(0, _)], [_, _, _])) rfl ?_
      refine pm_Fv.iadd rfl ?_
      refine pm_Fv.pz H1 21 rfl rfl rfl (by decide) rfl rfl (Nat.le_of_ble_eq_true rfl) rfl (by decide) rfl (fun s2 H2 r2 => ?_)
      refine pm_Fv.go 1 (f' := (110, 36, [(0, _)], [_])) rfl ?_
      refine pm_Fv.cvF rfl rfl rfl rfl (by decide) (Nat.le_of_ble_eq_true rfl) (Nat.le_of_ble_eq_true rfl) H2.m199 H2.o199 (ev_load L xs H2 ⟨h.l0, h.l1, h.l2⟩ (show 0 ≤ z 21 + 1 ∧ z 21 + 1 ≤ 100000 by omega)) (fun s3 q3 => ?_)
      obtain ⟨H3, r3⟩ := q3
      refine pm_Fv.go 1 (f' := (110, 40, [(0, _)], [_])) rfl ?_
      exact pm_Fv.rb rfl rfl (by decide) ⟨rfl, H3, (r3.trans (r2.trans r1))⟩
    · exact absurd h2 (by omega)
theorem ev_msteps1a (H : Hp σ ad z ar lr) (h : mo_H z ar) {v : Int} (hv : -2147483648 ≤ v ∧ v ≤ 2147483647) (c : v < 0) : pm_Fv (tq_P L xs) (pm_enter 111 [.ref 199, .int (zI v)]) σ (fun o s => o = .inl (some (.int (zI 0))) ∧ Hp s ad (hq_u z 29 1) ar lr ∧ s.2 = σ.2) := by
  show pm_Fv (tq_P L xs) (111, 0, [(0, .ref 199), (1, .int (zI v))], []) σ _
  have H0 : Hp σ ad (hq_u z 29 (z 29)) ar lr := by rw [hq_u_self]; exact H
  refine pm_Fv.go 2 (f' := (111, 2, [(0, _), (1, _)], [_, _])) rfl ?_
  refine pm_Fv.zlt rfl (by omega) rfl (fun h1 => ?_) (fun h1 => ?_)
  · refine pm_Fv.go 3 (f' := (111, 16, [(0, _), (1, _)], [_, _, _])) rfl ?_
    refine pm_Fv.cvF rfl rfl rfl rfl (by decide) (Nat.le_of_ble_eq_true rfl) (Nat.le_of_ble_eq_true rfl) H0.m199 H0.o199 (ev_fo L xs H0) (fun s1 q1 => ?_)
    obtain ⟨H1, r1⟩ := q1
    refine pm_Fv.zeq rfl (by omega) rfl (fun h2 => ?_) (fun h2 => ?_)
    · exact absurd h2 (by omega)
    · refine pm_Fv.go 1 (f' := (111, 23, [(0, _), (1, _)], [_])) rfl ?_
      exact pm_Fv.rv rfl rfl ⟨rfl, H1, r1⟩
  · exact absurd h1 (by omega)
theorem ev_msteps1b (H : Hp σ ad z ar lr) (h : mo_H z ar) {v : Int} (hv : -2147483648 ≤ v ∧ v ≤ 2147483647) (c : 2 < v) : pm_Fv (tq_P L xs) (pm_enter 111 [.ref 199, .int (zI v)]) σ (fun o s => o = .inl (some (.int (zI 0))) ∧ Hp s ad (hq_u z 29 1) ar lr ∧ s.2 = σ.2) := by
  show pm_Fv (tq_P L xs) (111, 0, [(0, .ref 199), (1, .int (zI v))], []) σ _
  have H0 : Hp σ ad (hq_u z 29 (z 29)) ar lr := by rw [hq_u_self]; exact H
  refine pm_Fv.go 2 (f' := (111, 2, [(0, _), (1, _)], [_, _])) rfl ?_
  refine pm_Fv.zlt rfl (by omega) rfl (fun h1 => ?_) (fun h1 => ?_)
  · exact absurd h1 (by omega)
  · refine pm_Fv.go 2 (f' := (111, 7, [(0, _), (1, _)], [_, _, _])) rfl ?_
    refine pm_Fv.jle rfl (by omega) rfl (fun h2 => ?_) (fun h2 => ?_)
    · exact absurd h2 (by omega)
    · refine pm_Fv.go 3 (f' := (111, 16, [(0, _), (1, _)], [_, _, _])) rfl ?_
      refine pm_Fv.cvF rfl rfl rfl rfl (by decide) (Nat.le_of_ble_eq_true rfl) (Nat.le_of_ble_eq_true rfl) H0.m199 H0.o199 (ev_fo L xs H0) (fun s1 q1 => ?_)
      obtain ⟨H1, r1⟩ := q1
      refine pm_Fv.zeq rfl (by omega) rfl (fun h3 => ?_) (fun h3 => ?_)
      · exact absurd h3 (by omega)
      · refine pm_Fv.go 1 (f' := (111, 23, [(0, _), (1, _)], [_])) rfl ?_
        exact pm_Fv.rv rfl rfl ⟨rfl, H1, r1⟩
theorem ev_msteps00 (H : Hp σ ad z ar lr) (h : mo_H z ar)  : pm_Fv (tq_P L xs) (pm_enter 111 [.ref 199, .int (zI 0)]) σ (fun o s => o = .inl (some (.int (zI (z 21 - z 20)))) ∧ Hp s ad (hq_u z 29 0) ar lr ∧ s.2 = σ.2) := by
  show pm_Fv (tq_P L xs) (111, 0, [(0, .ref 199), (1, .int (zI 0))], []) σ _
  have H0 : Hp σ ad (hq_u z 29 (z 29)) ar lr := by rw [hq_u_self]; exact H
  refine pm_Fv.go 2 (f' := (111, 2, [(0, _), (1, _)], [_, _])) rfl ?_
  refine pm_Fv.zlt rfl (by omega) rfl (fun h1 => ?_) (fun h1 => ?_)
  · exact absurd h1 (by omega)
  · refine pm_Fv.go 2 (f' := (111, 7, [(0, _), (1, _)], [_, _, _])) rfl ?_
    refine pm_Fv.jle rfl (by omega) rfl (fun h2 => ?_) (fun h2 => ?_)
    · refine pm_Fv.go 2 (f' := (111, 16, [(0, _), (1, _)], [_, _, _])) rfl ?_
      refine pm_Fv.cvF rfl rfl rfl rfl (by decide) (Nat.le_of_ble_eq_true rfl) (Nat.le_of_ble_eq_true rfl) H0.m199 H0.o199 (ev_fz L xs H0) (fun s1 q1 => ?_)
      obtain ⟨H1, r1⟩ := q1
      refine pm_Fv.zeq rfl (by omega) rfl (fun h3 => ?_) (fun h3 => ?_)
      · refine pm_Fv.go 1 (f' := (111, 25, [(0, _), (1, _)], [_])) rfl ?_
        refine pm_Fv.zne rfl (by omega) rfl (fun h4 => ?_) (fun h4 => ?_)
        · exact absurd h4 (by omega)
        · refine pm_Fv.go 1 (f' := (111, 29, [(0, _), (1, _)], [_])) rfl ?_
          refine pm_Fv.gf rfl rfl H1.m199 H1.o199 rfl ?_
          refine pm_Fv.go 1 (f' := (111, 33, [(0, _), (1, _)], [_, _])) rfl ?_
          refine pm_Fv.gf rfl rfl H1.m199 H1.o199 rfl ?_
          refine pm_Fv.isub rfl ?_
          refine pm_Fv.go 1 (f' := (111, 61, [(0, _), (1, _)], [_])) rfl ?_
          exact pm_Fv.rv rfl rfl ⟨rfl, H1, r1⟩
      · exact absurd h3 (by omega)
    · exact absurd h2 (by omega)
theorem ev_msteps01 (H : Hp σ ad z ar lr) (h : mo_H z ar)  : pm_Fv (tq_P L xs) (pm_enter 111 [.ref 199, .int (zI 1)]) σ (fun o s => o = .inl (some (.int (zI (z 22 - z 21)))) ∧ Hp s ad (hq_u z 29 0) ar lr ∧ s.2 = σ.2) := by
  show pm_Fv (tq_P L xs) (111, 0, [(0, .ref 199), (1, .int (zI 1))], []) σ _
  have H0 : Hp σ ad (hq_u z 29 (z 29)) ar lr := by rw [hq_u_self]; exact H
  refine pm_Fv.go 2 (f' := (111, 2, [(0, _), (1, _)], [_, _])) rfl ?_
  refine pm_Fv.zlt rfl (by omega) rfl (fun h1 => ?_) (fun h1 => ?_)
  · exact absurd h1 (by omega)
  · refine pm_Fv.go 2 (f' := (111, 7, [(0, _), (1, _)], [_, _, _])) rfl ?_
    refine pm_Fv.jle rfl (by omega) rfl (fun h2 => ?_) (fun h2 => ?_)
    · refine pm_Fv.go 2 (f' := (111, 16, [(0, _), (1, _)], [_, _, _])) rfl ?_
      refine pm_Fv.cvF rfl rfl rfl rfl (by decide) (Nat.le_of_ble_eq_true rfl) (Nat.le_of_ble_eq_true rfl) H0.m199 H0.o199 (ev_fz L xs H0) (fun s1 q1 => ?_)
      obtain ⟨H1, r1⟩ := q1
      refine pm_Fv.zeq rfl (by omega) rfl (fun h3 => ?_) (fun h3 => ?_)
      · refine pm_Fv.go 1 (f' := (111, 25, [(0, _), (1, _)], [_])) rfl ?_
        refine pm_Fv.zne rfl (by omega) rfl (fun h4 => ?_) (fun h4 => ?_)
        · refine pm_Fv.go 2 (f' := (111, 42, [(0, _), (1, _)], [_, _])) rfl ?_
          refine pm_Fv.jne rfl (by omega) rfl (fun h5 => ?_) (fun h5 => ?_)
          · exact absurd h5 (by omega)
          · refine pm_Fv.go 1 (f' := (111, 46, [(0, _), (1, _)], [_])) rfl ?_
            refine pm_Fv.gf rfl rfl H1.m199 H1.o199 rfl ?_
            refine pm_Fv.go 1 (f' := (111, 50, [(0, _), (1, _)], [_, _])) rfl ?_
            refine pm_Fv.gf rfl rfl H1.m199 H1.o199 rfl ?_
            refine pm_Fv.isub rfl ?_
            refine pm_Fv.go 1 (f' := (111, 61, [(0, _), (1, _)], [_])) rfl ?_
            exact pm_Fv.rv rfl rfl ⟨rfl, H1, r1⟩
        · exact absurd h4 (by omega)
      · exact absurd h3 (by omega)
    · exact absurd h2 (by omega)
theorem ev_msteps02 (H : Hp σ ad z ar lr) (h : mo_H z ar)  : pm_Fv (tq_P L xs) (pm_enter 111 [.ref 199, .int (zI 2)]) σ (fun o s => o = .inl (some (.int (zI (z 25)))) ∧ Hp s ad (hq_u z 29 0) ar lr ∧ s.2 = σ.2) := by
  show pm_Fv (tq_P L xs) (111, 0, [(0, .ref 199), (1, .int (zI 2))], []) σ _
  have H0 : Hp σ ad (hq_u z 29 (z 29)) ar lr := by rw [hq_u_self]; exact H
  refine pm_Fv.go 2 (f' := (111, 2, [(0, _), (1, _)], [_, _])) rfl ?_
  refine pm_Fv.zlt rfl (by omega) rfl (fun h1 => ?_) (fun h1 => ?_)
  · exact absurd h1 (by omega)
  · refine pm_Fv.go 2 (f' := (111, 7, [(0, _), (1, _)], [_, _, _])) rfl ?_
    refine pm_Fv.jle rfl (by omega) rfl (fun h2 => ?_) (fun h2 => ?_)
    · refine pm_Fv.go 2 (f' := (111, 16, [(0, _), (1, _)], [_, _, _])) rfl ?_
      refine pm_Fv.cvF rfl rfl rfl rfl (by decide) (Nat.le_of_ble_eq_true rfl) (Nat.le_of_ble_eq_true rfl) H0.m199 H0.o199 (ev_fz L xs H0) (fun s1 q1 => ?_)
      obtain ⟨H1, r1⟩ := q1
      refine pm_Fv.zeq rfl (by omega) rfl (fun h3 => ?_) (fun h3 => ?_)
      · refine pm_Fv.go 1 (f' := (111, 25, [(0, _), (1, _)], [_])) rfl ?_
        refine pm_Fv.zne rfl (by omega) rfl (fun h4 => ?_) (fun h4 => ?_)
        · refine pm_Fv.go 2 (f' := (111, 42, [(0, _), (1, _)], [_, _])) rfl ?_
          refine pm_Fv.jne rfl (by omega) rfl (fun h5 => ?_) (fun h5 => ?_)
          · refine pm_Fv.go 1 (f' := (111, 58, [(0, _), (1, _)], [_])) rfl ?_
            refine pm_Fv.gf rfl rfl H1.m199 H1.o199 rfl ?_
            exact pm_Fv.rv rfl rfl ⟨rfl, H1, r1⟩
          · exact absurd h5 (by omega)
        · exact absurd h4 (by omega)
      · exact absurd h3 (by omega)
    · exact absurd h2 (by omega)
theorem ev_mfound1a (H : Hp σ ad z ar lr) (h : mo_H z ar) {i v : Int} (hi : -2147483648 ≤ i ∧ i ≤ 2147483647) (hv : -2147483648 ≤ v ∧ v ≤ 2147483647) (c : i < 0) : pm_Fv (tq_P L xs) (pm_enter 154 [.ref 199, .int (zI i), .int (zI v)]) σ (fun o s => o = .inl (some (.int (zI 0))) ∧ Hp s ad (hq_u z 29 1) ar lr ∧ s.2 = σ.2) := by
  show pm_Fv (tq_P L xs) (154, 0, [(0, .ref 199), (1, .int (zI i)), (2, .int (zI v))], []) σ _
  have H0 : Hp σ ad (hq_u z 29 (z 29)) ar lr := by rw [hq_u_self]; exact H
  refine pm_Fv.go 2 (f' := (154, 2, [(0, _), (1, _), (2, _)], [_, _])) rfl ?_
  refine pm_Fv.zlt rfl (by omega) rfl (fun h1 => ?_) (fun h1 => ?_)
  · refine pm_Fv.go 3 (f' := (154, 19, [(0, _), (1, _), (2, _)], [_, _, _])) rfl ?_
    refine pm_Fv.cvF rfl rfl rfl rfl (by decide) (Nat.le_of_ble_eq_true rfl) (Nat.le_of_ble_eq_true rfl) H0.m199 H0.o199 (ev_fo L xs H0) (fun s1 q1 => ?_)
    obtain ⟨H1, r1⟩ := q1
    refine pm_Fv.zne rfl (by omega) rfl (fun h2 => ?_) (fun h2 => ?_)
    · refine pm_Fv.go 1 (f' := (154, 48, [(0, _), (1, _), (2, _)], [_])) rfl ?_
      exact pm_Fv.rv rfl rfl ⟨rfl, H1, r1⟩
    · exact absurd h2 (by omega)
  · exact absurd h1 (by omega)
theorem ev_mfound1b (H : Hp σ ad z ar lr) (h : mo_H z ar) {i v : Int} (hi : -2147483648 ≤ i ∧ i ≤ 2147483647) (hv : -2147483648 ≤ v ∧ v ≤ 2147483647) (zf : 0 ≤ z 28 ∧ z 28 ≤ 800) (c : 0 ≤ i) (d : z 28 ≤ i) : pm_Fv (tq_P L xs) (pm_enter 154 [.ref 199, .int (zI i), .int (zI v)]) σ (fun o s => o = .inl (some (.int (zI 0))) ∧ Hp s ad (hq_u z 29 1) ar lr ∧ s.2 = σ.2) := by
  show pm_Fv (tq_P L xs) (154, 0, [(0, .ref 199), (1, .int (zI i)), (2, .int (zI v))], []) σ _
  have H0 : Hp σ ad (hq_u z 29 (z 29)) ar lr := by rw [hq_u_self]; exact H
  refine pm_Fv.go 2 (f' := (154, 2, [(0, _), (1, _), (2, _)], [_, _])) rfl ?_
  refine pm_Fv.zlt rfl (by omega) rfl (fun h1 => ?_) (fun h1 => ?_)
  · exact absurd h1 (by omega)
  · refine pm_Fv.go 2 (f' := (154, 7, [(0, _), (1, _), (2, _)], [_, _, _])) rfl ?_
    refine pm_Fv.gf rfl rfl H0.m199 H0.o199 rfl ?_
    rw [show hq_u z 29 (z 29) 28 = z 28 from rfl]
    refine pm_Fv.jlt rfl (by omega) rfl (fun h2 => ?_) (fun h2 => ?_)
    · exact absurd h2 (by omega)
    · refine pm_Fv.go 3 (f' := (154, 19, [(0, _), (1, _), (2, _)], [_, _, _])) rfl ?_
      refine pm_Fv.cvF rfl rfl rfl rfl (by decide) (Nat.le_of_ble_eq_true rfl) (Nat.le_of_ble_eq_true rfl) H0.m199 H0.o199 (ev_fo L xs H0) (fun s1 q1 => ?_)
      obtain ⟨H1, r1⟩ := q1
      refine pm_Fv.zne rfl (by omega) rfl (fun h3 => ?_) (fun h3 => ?_)
      · refine pm_Fv.go 1 (f' := (154, 48, [(0, _), (1, _), (2, _)], [_])) rfl ?_
        exact pm_Fv.rv rfl rfl ⟨rfl, H1, r1⟩
      · exact absurd h3 (by omega)
theorem ev_mfound2 (H : Hp σ ad z ar lr) (h : mo_H z ar) {i v : Int} (hi : -2147483648 ≤ i ∧ i ≤ 2147483647) (hv : -2147483648 ≤ v ∧ v ≤ 2147483647) (zf : 0 ≤ z 28 ∧ z 28 ≤ 800) (c : 0 ≤ i) (d : i < z 28) (e : ¬ (0 ≤ v ∧ v ≤ 2)) : pm_Fv (tq_P L xs) (pm_enter 154 [.ref 199, .int (zI i), .int (zI v)]) σ (fun o s => o = .inl (some (.int (zI 0))) ∧ Hp s ad (hq_u z 29 2) ar lr ∧ s.2 = σ.2) := by
  show pm_Fv (tq_P L xs) (154, 0, [(0, .ref 199), (1, .int (zI i)), (2, .int (zI v))], []) σ _
  have H0 : Hp σ ad (hq_u z 29 (z 29)) ar lr := by rw [hq_u_self]; exact H
  refine pm_Fv.go 2 (f' := (154, 2, [(0, _), (1, _), (2, _)], [_, _])) rfl ?_
  refine pm_Fv.zlt rfl (by omega) rfl (fun h1 => ?_) (fun h1 => ?_)
  · exact absurd h1 (by omega)
  · refine pm_Fv.go 2 (f' := (154, 7, [(0, _), (1, _), (2, _)], [_, _, _])) rfl ?_
    refine pm_Fv.gf rfl rfl H0.m199 H0.o199 rfl ?_
    rw [show hq_u z 29 (z 29) 28 = z 28 from rfl]
    refine pm_Fv.jlt rfl (by omega) rfl (fun h2 => ?_) (fun h2 => ?_)
    · refine pm_Fv.go 2 (f' := (154, 19, [(0, _), (1, _), (2, _)], [_, _, _])) rfl ?_
      refine pm_Fv.cvF rfl rfl rfl rfl (by decide) (Nat.le_of_ble_eq_true rfl) (Nat.le_of_ble_eq_true rfl) H0.m199 H0.o199 (ev_fz L xs H0) (fun s1 q1 => ?_)
      obtain ⟨H1, r1⟩ := q1
      refine pm_Fv.zne rfl (by omega) rfl (fun h3 => ?_) (fun h3 => ?_)
      · exact absurd h3 (by omega)
      · refine pm_Fv.go 4 (f' := (154, 29, [(0, _), (1, _), (2, _)], [_, _, _, _])) rfl ?_
        refine pm_Fv.call rfl rfl rfl rfl rfl (ev_w0 L xs (by omega) e) ?_
        refine pm_Fv.zne rfl (by omega) rfl (fun h4 => ?_) (fun h4 => ?_)
        · exact absurd h4 (by omega)
        · refine pm_Fv.go 3 (f' := (154, 41, [(0, _), (1, _), (2, _)], [_, _, _])) rfl ?_
          refine pm_Fv.cvF rfl rfl rfl rfl (by decide) (Nat.le_of_ble_eq_true rfl) (Nat.le_of_ble_eq_true rfl) H1.m199 H1.o199 (ev_fo L xs H1) (fun s2 q2 => ?_)
          obtain ⟨H2, r2⟩ := q2
          refine pm_Fv.zeq rfl (by omega) rfl (fun h5 => ?_) (fun h5 => ?_)
          · exact absurd h5 (by omega)
          · refine pm_Fv.go 1 (f' := (154, 48, [(0, _), (1, _), (2, _)], [_])) rfl ?_
            exact pm_Fv.rv rfl rfl ⟨rfl, H2, (r2.trans r1)⟩
    · exact absurd h2 (by omega)
theorem ev_mfound00 (H : Hp σ ad z ar lr) (h : mo_H z ar) {i : Int} (hi : -2147483648 ≤ i ∧ i ≤ 2147483647) (zf : 0 ≤ z 28 ∧ z 28 ≤ 800) (c : 0 ≤ i) (d : i < z 28) : pm_Fv (tq_P L xs) (pm_enter 154 [.ref 199, .int (zI i), .int (zI 0)]) σ (fun o s => o = .inl (some (.int (zI (hq_g ar 204 i)))) ∧ Hp s ad (hq_u z 29 0) ar lr ∧ s.2 = σ.2) := by
  show pm_Fv (tq_P L xs) (154, 0, [(0, .ref 199), (1, .int (zI i)), (2, .int (zI 0))], []) σ _
  have H0 : Hp σ ad (hq_u z 29 (z 29)) ar lr := by rw [hq_u_self]; exact H
  refine pm_Fv.go 2 (f' := (154, 2, [(0, _), (1, _), (2, _)], [_, _])) rfl ?_
  refine pm_Fv.zlt rfl (by omega) rfl (fun h1 => ?_) (fun h1 => ?_)
  · exact absurd h1 (by omega)
  · refine pm_Fv.go 2 (f' := (154, 7, [(0, _), (1, _), (2, _)], [_, _, _])) rfl ?_
    refine pm_Fv.gf rfl rfl H0.m199 H0.o199 rfl ?_
    rw [show hq_u z 29 (z 29) 28 = z 28 from rfl]
    refine pm_Fv.jlt rfl (by omega) rfl (fun h2 => ?_) (fun h2 => ?_)
    · refine pm_Fv.go 2 (f' := (154, 19, [(0, _), (1, _), (2, _)], [_, _, _])) rfl ?_
      refine pm_Fv.cvF rfl rfl rfl rfl (by decide) (Nat.le_of_ble_eq_true rfl) (Nat.le_of_ble_eq_true rfl) H0.m199 H0.o199 (ev_fz L xs H0) (fun s1 q1 => ?_)
      obtain ⟨H1, r1⟩ := q1
      refine pm_Fv.zne rfl (by omega) rfl (fun h3 => ?_) (fun h3 => ?_)
      · exact absurd h3 (by omega)
      · refine pm_Fv.go 4 (f' := (154, 29, [(0, _), (1, _), (2, _)], [_, _, _, _])) rfl ?_
        refine pm_Fv.call rfl rfl rfl rfl rfl (ev_w1 L xs (by omega) (by omega)) ?_
        refine pm_Fv.zne rfl (by omega) rfl (fun h4 => ?_) (fun h4 => ?_)
        · refine pm_Fv.go 2 (f' := (154, 41, [(0, _), (1, _), (2, _)], [_, _, _])) rfl ?_
          refine pm_Fv.cvF rfl rfl rfl rfl (by decide) (Nat.le_of_ble_eq_true rfl) (Nat.le_of_ble_eq_true rfl) H1.m199 H1.o199 (ev_fz L xs H1) (fun s2 q2 => ?_)
          obtain ⟨H2, r2⟩ := q2
          refine pm_Fv.zeq rfl (by omega) rfl (fun h5 => ?_) (fun h5 => ?_)
          · refine pm_Fv.go 1 (f' := (154, 50, [(0, _), (1, _), (2, _)], [_])) rfl ?_
            refine pm_Fv.zne rfl (by omega) rfl (fun h6 => ?_) (fun h6 => ?_)
            · exact absurd h6 (by omega)
            · refine pm_Fv.go 1 (f' := (154, 54, [(0, _), (1, _), (2, _)], [_])) rfl ?_
              refine pm_Fv.gf rfl rfl H2.m199 H2.o199 rfl ?_
              refine pm_Fv.go 1 (f' := (154, 58, [(0, _), (1, _), (2, _)], [_, _])) rfl ?_
              refine pm_Fv.fia H2 rfl (by decide) rfl rfl (by rw [h.l4]; omega) ?_
              refine pm_Fv.go 1 (f' := (154, 82, [(0, _), (1, _), (2, _)], [_])) rfl ?_
              exact pm_Fv.rv rfl rfl ⟨rfl, H2, (r2.trans r1)⟩
          · exact absurd h5 (by omega)
        · exact absurd h4 (by omega)
    · exact absurd h2 (by omega)
theorem ev_mfound01 (H : Hp σ ad z ar lr) (h : mo_H z ar) {i : Int} (hi : -2147483648 ≤ i ∧ i ≤ 2147483647) (zf : 0 ≤ z 28 ∧ z 28 ≤ 800) (c : 0 ≤ i) (d : i < z 28) : pm_Fv (tq_P L xs) (pm_enter 154 [.ref 199, .int (zI i), .int (zI 1)]) σ (fun o s => o = .inl (some (.int (zI (hq_g ar 205 i)))) ∧ Hp s ad (hq_u z 29 0) ar lr ∧ s.2 = σ.2) := by
  show pm_Fv (tq_P L xs) (154, 0, [(0, .ref 199), (1, .int (zI i)), (2, .int (zI 1))], []) σ _
  have H0 : Hp σ ad (hq_u z 29 (z 29)) ar lr := by rw [hq_u_self]; exact H
  refine pm_Fv.go 2 (f' := (154, 2, [(0, _), (1, _), (2, _)], [_, _])) rfl ?_
  refine pm_Fv.zlt rfl (by omega) rfl (fun h1 => ?_) (fun h1 => ?_)
  · exact absurd h1 (by omega)
  · refine pm_Fv.go 2 (f' := (154, 7, [(0, _), (1, _), (2, _)], [_, _, _])) rfl ?_
    refine pm_Fv.gf rfl rfl H0.m199 H0.o199 rfl ?_
    rw [show hq_u z 29 (z 29) 28 = z 28 from rfl]
    refine pm_Fv.jlt rfl (by omega) rfl (fun h2 => ?_) (fun h2 => ?_)
    · refine pm_Fv.go 2 (f' := (154, 19, [(0, _), (1, _), (2, _)], [_, _, _])) rfl ?_
      refine pm_Fv.cvF rfl rfl rfl rfl (by decide) (Nat.le_of_ble_eq_true rfl) (Nat.le_of_ble_eq_true rfl) H0.m199 H0.o199 (ev_fz L xs H0) (fun s1 q1 => ?_)
      obtain ⟨H1, r1⟩ := q1
      refine pm_Fv.zne rfl (by omega) rfl (fun h3 => ?_) (fun h3 => ?_)
      · exact absurd h3 (by omega)
      · refine pm_Fv.go 4 (f' := (154, 29, [(0, _), (1, _), (2, _)], [_, _, _, _])) rfl ?_
        refine pm_Fv.call rfl rfl rfl rfl rfl (ev_w1 L xs (by omega) (by omega)) ?_
        refine pm_Fv.zne rfl (by omega) rfl (fun h4 => ?_) (fun h4 => ?_)
        · refine pm_Fv.go 2 (f' := (154, 41, [(0, _), (1, _), (2, _)], [_, _, _])) rfl ?_
          refine pm_Fv.cvF rfl rfl rfl rfl (by decide) (Nat.le_of_ble_eq_true rfl) (Nat.le_of_ble_eq_true rfl) H1.m199 H1.o199 (ev_fz L xs H1) (fun s2 q2 => ?_)
          obtain ⟨H2, r2⟩ := q2
          refine pm_Fv.zeq rfl (by omega) rfl (fun h5 => ?_) (fun h5 => ?_)
          · refine pm_Fv.go 1 (f' := (154, 50, [(0, _), (1, _), (2, _)], [_])) rfl ?_
            refine pm_Fv.zne rfl (by omega) rfl (fun h6 => ?_) (fun h6 => ?_)
            · refine pm_Fv.go 2 (f' := (154, 64, [(0, _), (1, _), (2, _)], [_, _])) rfl ?_
              refine pm_Fv.jne rfl (by omega) rfl (fun h7 => ?_) (fun h7 => ?_)
              · exact absurd h7 (by omega)
              · refine pm_Fv.go 1 (f' := (154, 68, [(0, _), (1, _), (2, _)], [_])) rfl ?_
                refine pm_Fv.gf rfl rfl H2.m199 H2.o199 rfl ?_
                refine pm_Fv.go 1 (f' := (154, 72, [(0, _), (1, _), (2, _)], [_, _])) rfl ?_
                refine pm_Fv.fia H2 rfl (by decide) rfl rfl (by rw [h.l5]; omega) ?_
                refine pm_Fv.go 1 (f' := (154, 82, [(0, _), (1, _), (2, _)], [_])) rfl ?_
                exact pm_Fv.rv rfl rfl ⟨rfl, H2, (r2.trans r1)⟩
            · exact absurd h6 (by omega)
          · exact absurd h5 (by omega)
        · exact absurd h4 (by omega)
    · exact absurd h2 (by omega)
theorem ev_mfound02 (H : Hp σ ad z ar lr) (h : mo_H z ar) {i : Int} (hi : -2147483648 ≤ i ∧ i ≤ 2147483647) (zf : 0 ≤ z 28 ∧ z 28 ≤ 800) (c : 0 ≤ i) (d : i < z 28) : pm_Fv (tq_P L xs) (pm_enter 154 [.ref 199, .int (zI i), .int (zI 2)]) σ (fun o s => o = .inl (some (.int (zI (hq_g ar 206 i)))) ∧ Hp s ad (hq_u z 29 0) ar lr ∧ s.2 = σ.2) := by
  show pm_Fv (tq_P L xs) (154, 0, [(0, .ref 199), (1, .int (zI i)), (2, .int (zI 2))], []) σ _
  have H0 : Hp σ ad (hq_u z 29 (z 29)) ar lr := by rw [hq_u_self]; exact H
  refine pm_Fv.go 2 (f' := (154, 2, [(0, _), (1, _), (2, _)], [_, _])) rfl ?_
  refine pm_Fv.zlt rfl (by omega) rfl (fun h1 => ?_) (fun h1 => ?_)
  · exact absurd h1 (by omega)
  · refine pm_Fv.go 2 (f' := (154, 7, [(0, _), (1, _), (2, _)], [_, _, _])) rfl ?_
    refine pm_Fv.gf rfl rfl H0.m199 H0.o199 rfl ?_
    rw [show hq_u z 29 (z 29) 28 = z 28 from rfl]
    refine pm_Fv.jlt rfl (by omega) rfl (fun h2 => ?_) (fun h2 => ?_)
    · refine pm_Fv.go 2 (f' := (154, 19, [(0, _), (1, _), (2, _)], [_, _, _])) rfl ?_
      refine pm_Fv.cvF rfl rfl rfl rfl (by decide) (Nat.le_of_ble_eq_true rfl) (Nat.le_of_ble_eq_true rfl) H0.m199 H0.o199 (ev_fz L xs H0) (fun s1 q1 => ?_)
      obtain ⟨H1, r1⟩ := q1
      refine pm_Fv.zne rfl (by omega) rfl (fun h3 => ?_) (fun h3 => ?_)
      · exact absurd h3 (by omega)
      · refine pm_Fv.go 4 (f' := (154, 29, [(0, _), (1, _), (2, _)], [_, _, _, _])) rfl ?_
        refine pm_Fv.call rfl rfl rfl rfl rfl (ev_w1 L xs (by omega) (by omega)) ?_
        refine pm_Fv.zne rfl (by omega) rfl (fun h4 => ?_) (fun h4 => ?_)
        · refine pm_Fv.go 2 (f' := (154, 41, [(0, _), (1, _), (2, _)], [_, _, _])) rfl ?_
          refine pm_Fv.cvF rfl rfl rfl rfl (by decide) (Nat.le_of_ble_eq_true rfl) (Nat.le_of_ble_eq_true rfl) H1.m199 H1.o199 (ev_fz L xs H1) (fun s2 q2 => ?_)
          obtain ⟨H2, r2⟩ := q2
          refine pm_Fv.zeq rfl (by omega) rfl (fun h5 => ?_) (fun h5 => ?_)
          · refine pm_Fv.go 1 (f' := (154, 50, [(0, _), (1, _), (2, _)], [_])) rfl ?_
            refine pm_Fv.zne rfl (by omega) rfl (fun h6 => ?_) (fun h6 => ?_)
            · refine pm_Fv.go 2 (f' := (154, 64, [(0, _), (1, _), (2, _)], [_, _])) rfl ?_
              refine pm_Fv.jne rfl (by omega) rfl (fun h7 => ?_) (fun h7 => ?_)
              · refine pm_Fv.go 1 (f' := (154, 77, [(0, _), (1, _), (2, _)], [_])) rfl ?_
                refine pm_Fv.gf rfl rfl H2.m199 H2.o199 rfl ?_
                refine pm_Fv.go 1 (f' := (154, 81, [(0, _), (1, _), (2, _)], [_, _])) rfl ?_
                refine pm_Fv.fia H2 rfl (by decide) rfl rfl (by rw [h.l6]; omega) ?_
                exact pm_Fv.rv rfl rfl ⟨rfl, H2, (r2.trans r1)⟩
              · exact absurd h7 (by omega)
            · exact absurd h6 (by omega)
          · exact absurd h5 (by omega)
        · exact absurd h4 (by omega)
    · exact absurd h2 (by omega)
theorem ev_mchild1 (H : Hp σ ad z ar lr) (h : mo_H z ar) {n : Int} {I D : Int → Int} (M : mo_R (mo_g ar) (z 23) n I D) {p k : Int} (hp : -2147483648 ≤ p ∧ p ≤ 2147483647) (n1 : p ≠ -1) (n2 : ∀ x, 0 ≤ x → x < n → I x ≠ p) : pm_Fv (tq_P L xs) (pm_enter 157 [.ref 199, .int (zI p), .int (zI k)]) σ (fun o s => o = .inl (some (.int (zI 0))) ∧ Hp s ad (hq_u z 29 1) ar lr ∧ s.2 = σ.2) := by
  show pm_Fv (tq_P L xs) (157, 0, [(0, .ref 199), (1, .int (zI p)), (2, .int (zI k))], []) σ _
  have H0 : Hp σ ad (hq_u z 29 (z 29)) ar lr := by rw [hq_u_self]; exact H
  have hm : 0 ≤ z 23 ∧ z 23 ≤ 400 := ⟨M.m0, M.m4⟩
  refine pm_Fv.go 3 (f' := (157, 3, [(0, _), (1, _), (2, _)], [_, _, _])) rfl ?_
  refine pm_Fv.cv rfl rfl rfl rfl (by decide) (Nat.le_of_ble_eq_true rfl) (Nat.le_of_ble_eq_true rfl) H0.m199 H0.o199 (ev_noP L xs H0 h.l0 M hp n1 n2) ?_
  refine pm_Fv.zne rfl (by omega) rfl (fun h1 => ?_) (fun h1 => ?_)
  · exact absurd h1 (by omega)
  · refine pm_Fv.go 3 (f' := (157, 15, [(0, _), (1, _), (2, _)], [_, _, _])) rfl ?_
    refine pm_Fv.cvF rfl rfl rfl rfl (by decide) (Nat.le_of_ble_eq_true rfl) (Nat.le_of_ble_eq_true rfl) H0.m199 H0.o199 (ev_fo L xs H0) (fun s1 q1 => ?_)
    obtain ⟨H1, r1⟩ := q1
    refine pm_Fv.zeq rfl (by omega) rfl (fun h2 => ?_) (fun h2 => ?_)
    · exact absurd h2 (by omega)
    · refine pm_Fv.go 1 (f' := (157, 22, [(0, _), (1, _), (2, _)], [_])) rfl ?_
      exact pm_Fv.rv rfl rfl ⟨rfl, H1, r1⟩
theorem ev_mchildN (H : Hp σ ad z ar lr) (h : mo_H z ar) {n : Int} {I D : Int → Int} (M : mo_R (mo_g ar) (z 23) n I D) {r : Int} (u0 : -1 ≤ r) (u1 : r < n ∨ r = -1) {k : Int} (hk : -2147483648 ≤ k ∧ k ≤ 2147483647) (c : k < 0) : pm_Fv (tq_P L xs) (pm_enter 157 [.ref 199, .int (zI (fo_id I r)), .int (zI k)]) σ (fun o s => o = .inl (some (.int (zI (-1)))) ∧ Hp s ad (hq_u z 29 0) ar lr ∧ s.2 = σ.2) := by
  show pm_Fv (tq_P L xs) (157, 0, [(0, .ref 199), (1, .int (zI (fo_id I r))), (2, .int (zI k))], []) σ _
  have H0 : Hp σ ad (hq_u z 29 (z 29)) ar lr := by rw [hq_u_self]; exact H
  have hm : 0 ≤ z 23 ∧ z 23 ≤ 400 := ⟨M.m0, M.m4⟩
  refine pm_Fv.go 3 (f' := (157, 3, [(0, _), (1, _), (2, _)], [_, _, _])) rfl ?_
  refine pm_Fv.cv rfl rfl rfl rfl (by decide) (Nat.le_of_ble_eq_true rfl) (Nat.le_of_ble_eq_true rfl) H0.m199 H0.o199 (ev_isP L xs H0 h.l0 M u0 u1) ?_
  refine pm_Fv.zne rfl (by omega) rfl (fun h1 => ?_) (fun h1 => ?_)
  · refine pm_Fv.go 2 (f' := (157, 15, [(0, _), (1, _), (2, _)], [_, _, _])) rfl ?_
    refine pm_Fv.cvF rfl rfl rfl rfl (by decide) (Nat.le_of_ble_eq_true rfl) (Nat.le_of_ble_eq_true rfl) H0.m199 H0.o199 (ev_fz L xs H0) (fun s1 q1 => ?_)
    obtain ⟨H1, r1⟩ := q1
    refine pm_Fv.zeq rfl (by omega) rfl (fun h2 => ?_) (fun h2 => ?_)
    · refine pm_Fv.go 1 (f' := (157, 24, [(0, _), (1, _), (2, _)], [_])) rfl ?_
      refine pm_Fv.zge rfl (by omega) rfl (fun h3 => ?_) (fun h3 => ?_)
      · exact absurd h3 (by omega)
      · refine pm_Fv.go 2 (f' := (157, 37, [(0, _), (1, _), (2, _)], [_])) rfl ?_
        exact pm_Fv.rv rfl rfl ⟨rfl, H1, r1⟩
    · exact absurd h2 (by omega)
  · exact absurd h1 (by omega)
theorem ev_mchild0 (H : Hp σ ad z ar lr) (h : mo_H z ar) {n : Int} {I D : Int → Int} (M : mo_R (mo_g ar) (z 23) n I D) {r : Int} (u0 : -1 ≤ r) (u1 : r < n ∨ r = -1) {k x : Int} (hk : -2147483648 ≤ k ∧ k ≤ 2147483647) (c : 0 ≤ k) (ca : mo_cag (mo_g ar) (z 23) (fo_id I r) k x) : pm_Fv (tq_P L xs) (pm_enter 157 [.ref 199, .int (zI (fo_id I r)), .int (zI k)]) σ (fun o s => o = .inl (some (.int (zI (x)))) ∧ Hp s ad (hq_u z 29 0) ar lr ∧ s.2 = σ.2) := by
  show pm_Fv (tq_P L xs) (157, 0, [(0, .ref 199), (1, .int (zI (fo_id I r))), (2, .int (zI k))], []) σ _
  have H0 : Hp σ ad (hq_u z 29 (z 29)) ar lr := by rw [hq_u_self]; exact H
  have hm : 0 ≤ z 23 ∧ z 23 ≤ 400 := ⟨M.m0, M.m4⟩
  have idr := M.idr u0 u1
  refine pm_Fv.go 3 (f' := (157, 3, [(0, _), (1, _), (2, _)], [_, _, _])) rfl ?_
  refine pm_Fv.cv rfl rfl rfl rfl (by decide) (Nat.le_of_ble_eq_true rfl) (Nat.le_of_ble_eq_true rfl) H0.m199 H0.o199 (ev_isP L xs H0 h.l0 M u0 u1) ?_
  refine pm_Fv.zne rfl (by omega) rfl (fun h1 => ?_) (fun h1 => ?_)
  · refine pm_Fv.go 2 (f' := (157, 15, [(0, _), (1, _), (2, _)], [_, _, _])) rfl ?_
    refine pm_Fv.cvF rfl rfl rfl rfl (by decide) (Nat.le_of_ble_eq_true rfl) (Nat.le_of_ble_eq_true rfl) H0.m199 H0.o199 (ev_fz L xs H0) (fun s1 q1 => ?_)
    obtain ⟨H1, r1⟩ := q1
    refine pm_Fv.zeq rfl (by omega) rfl (fun h2 => ?_) (fun h2 => ?_)
    · refine pm_Fv.go 1 (f' := (157, 24, [(0, _), (1, _), (2, _)], [_])) rfl ?_
      refine pm_Fv.zge rfl (by omega) rfl (fun h3 => ?_) (fun h3 => ?_)
      · refine pm_Fv.go 3 (f' := (157, 34, [(0, _), (1, _), (2, _)], [_, _, _])) rfl ?_
        refine pm_Fv.cv rfl rfl rfl rfl (by decide) (Nat.le_of_ble_eq_true rfl) (Nat.le_of_ble_eq_true rfl) H1.m199 H1.o199 (ev_childAt L xs H1 h.l0 hm (by omega) hk ca) ?_
        exact pm_Fv.rv rfl rfl ⟨rfl, H1, r1⟩
      · exact absurd h3 (by omega)
    · exact absurd h2 (by omega)
  · exact absurd h1 (by omega)
end MS
