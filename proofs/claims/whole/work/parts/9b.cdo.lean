/-! the desk: edits -/
section MS
variable (L : Nat) (xs : Nat → Int32)
variable {σ : pm_S} {ad : Nat → Nat} {z : Nat → Int} {ar : Nat → Nat × (Nat → Int32)} {lr : Nat → Nat × (Nat → Int64)}
variable {A C0 : Int → Int} {z0 : Nat → Int} {ar0 : Nat → Nat × (Nat → Int32)}
theorem ev_endE (H : Hp σ ad z ar lr) (E : od_E A C0 z0 ar0 z ar) (h5 : z0 5 = 0 ∨ z0 5 = 1) : pm_Fv (tq_P L xs) (pm_enter 50 [.ref 1]) σ (fun o s => o = .inl none ∧ Hp s ad (hw_ee z) ar lr ∧ s.2 = σ.2) := by
  have jj := E.h.jj
  have ej := E.j
  exact ev_endEdit L xs H E.h.h2 E.h.h3 (by rw [E.zo 5 (by decide) (by decide) (by decide) (by omega)]; exact h5) E.h.h7
theorem ev_change (H : Hp σ ad z ar lr) (E : od_E A C0 z0 ar0 z ar) (h5 : z0 5 = 0 ∨ z0 5 = 1) {e f v : Int} (he : 0 ≤ e ∧ e < z0 8 ∧ 0 ≤ f ∧ f < 16) (hv : -2147483648 ≤ v ∧ v ≤ 2147483647) (hc : hq_g ar 190 (401 + e * 16 + f) = C0 (401 + e * 16 + f)) : pm_Fv (tq_P L xs) (pm_enter 39 [.ref 0, .int (zI e), .int (zI f), .int (zI v)]) σ (fun o s => o = .inl none ∧ ∃ ad' z' ar', Hp s ad' (hw_ee z') ar' lr ∧ od_E A C0 z0 ar0 z' ar' ∧ (∀ i, 0 ≤ i → hq_g ar' 190 i = if i = 401 + e * 16 + f then v else hq_g ar 190 i) ∧ hq_rm σ ar lr s ar' lr) := by
  show pm_Fv (tq_P L xs) (39, 0, [(0, .ref 0), (1, .int (zI e)), (2, .int (zI f)), (3, .int (zI v))], []) σ _
  refine pm_Fv.go 1 (f' := (39, 1, [(0, _), (1, _), (2, _), (3, _)], [_])) rfl ?_
  refine pm_Fv.gf rfl rfl H.m0 H.o0 rfl ?_
  refine pm_Fv.go 3 (f' := (39, 7, [(0, _), (1, _), (2, _), (3, _)], [_, _, _, _])) rfl ?_
  refine pm_Fv.cvF rfl rfl rfl rfl (by decide) (Nat.le_of_ble_eq_true rfl) (Nat.le_of_ble_eq_true rfl) H.m188 H.o188 (ev_setE L xs H E he hv hc) (fun s1 q1 => ?_)
  obtain ⟨ad1, z1, ar1, H1, E1, g1, d1, m1⟩ := q1
  refine pm_Fv.go 1 (f' := (39, 11, [(0, _), (1, _), (2, _), (3, _)], [_])) rfl ?_
  refine pm_Fv.gf rfl rfl H1.m0 H1.o0 rfl ?_
  refine pm_Fv.cvF rfl rfl rfl rfl (by decide) (Nat.le_of_ble_eq_true rfl) (Nat.le_of_ble_eq_true rfl) H1.m1 H1.o1 (ev_endE L xs H1 E1 h5) (fun s2 q2 => ?_)
  obtain ⟨H2, r2⟩ := q2
  exact pm_Fv.ret rfl rfl rfl rfl ⟨rfl, ⟨ad1, z1, ar1, H2, E1, g1, hq_rm_tr m1 (hq_rm_refl r2)⟩⟩
theorem ev_dtitle0 (H : Hp σ ad z ar lr) (h : hw A z ar) (h7 : z 7 = 0) (hz1 : z 1 < 99999) (h5 : z 5 = 0 ∨ z 5 = 1) (N : od_N (hq_g ar 190) (z 8)) {b : Int} (b0 : 0 ≤ b) (b1 : b < (hq_g ar 190 0)) {v : Int} (hv : -2147483648 ≤ v ∧ v ≤ 2147483647) (c : 0 ≤ v ∧ v ≤ 999999) : pm_Fv (tq_P L xs) (pm_enter 8 [.ref 0, .int (zI ((oI (hq_g ar 190)) b)), .int (zI v)]) σ (fun o s => o = .inl none ∧ ∃ ad' z' ar', Hp s ad' (hw_ee z') ar' lr ∧ od_E A (hq_g ar 190) z ar z' ar' ∧ (∀ i, 0 ≤ i → hq_g ar' 190 i = if i = 401 + ((oI (hq_g ar 190)) b) * 16 + (3) then (v) else hq_g ar 190 i) ∧ hq_rm σ ar lr s ar' lr) := by
  show pm_Fv (tq_P L xs) (8, 0, [(0, .ref 0), (1, .int (zI ((oI (hq_g ar 190)) b))), (2, .int (zI v))], []) σ _
  have hl := h.le
  have E := od_E.ini h h7 hz1
  have i0 := N.J.1 b b0 b1
  have i1 := N.lt b b0 b1
  refine pm_Fv.go 2 (f' := (8, 2, [(0, _), (1, _), (2, _)], [_, _])) rfl ?_
  refine pm_Fv.cv rfl rfl rfl rfl (by decide) (Nat.le_of_ble_eq_true rfl) (Nat.le_of_ble_eq_true rfl) H.m0 H.o0 (ev_pos L xs H hl N b0 b1) ?_
  refine pm_Fv.go 3 (f' := (8, 8, [(0, _), (1, _), (2, _)], [_, _])) rfl ?_
  refine pm_Fv.cc1 (999999) rfl rfl rfl ?_
  refine pm_Fv.call rfl rfl rfl rfl rfl (ev_in1 L xs (by omega) c) ?_
  refine pm_Fv.call rfl rfl rfl rfl rfl (ev_ckN1 L xs) ?_
  refine pm_Fv.go 4 (f' := (8, 20, [(0, _), (1, _), (2, _)], [_, _, _, _])) rfl ?_
  refine pm_Fv.cvF rfl rfl rfl rfl (by decide) (Nat.le_of_ble_eq_true rfl) (Nat.le_of_ble_eq_true rfl) H.m0 H.o0 (ev_change L xs H E h5 (by omega) (by omega) rfl) (fun s1 q1 => ?_)
  obtain ⟨ad1, z1, ar1, H1, E1, g1, m1⟩ := q1
  exact pm_Fv.ret rfl rfl rfl rfl ⟨rfl, ⟨ad1, z1, ar1, H1, E1, g1, m1⟩⟩
theorem ev_drank0 (H : Hp σ ad z ar lr) (h : hw A z ar) (h7 : z 7 = 0) (hz1 : z 1 < 99999) (h5 : z 5 = 0 ∨ z 5 = 1) (N : od_N (hq_g ar 190) (z 8)) {b : Int} (b0 : 0 ≤ b) (b1 : b < (hq_g ar 190 0)) {v : Int} (hv : -2147483648 ≤ v ∧ v ≤ 2147483647) (c : 0 ≤ v ∧ v ≤ 3) : pm_Fv (tq_P L xs) (pm_enter 10 [.ref 0, .int (zI ((oI (hq_g ar 190)) b)), .int (zI v)]) σ (fun o s => o = .inl none ∧ ∃ ad' z' ar', Hp s ad' (hw_ee z') ar' lr ∧ od_E A (hq_g ar 190) z ar z' ar' ∧ (∀ i, 0 ≤ i → hq_g ar' 190 i = if i = 401 + ((oI (hq_g ar 190)) b) * 16 + (5) then (v) else hq_g ar 190 i) ∧ hq_rm σ ar lr s ar' lr) := by
  show pm_Fv (tq_P L xs) (10, 0, [(0, .ref 0), (1, .int (zI ((oI (hq_g ar 190)) b))), (2, .int (zI v))], []) σ _
  have hl := h.le
  have E := od_E.ini h h7 hz1
  have i0 := N.J.1 b b0 b1
  have i1 := N.lt b b0 b1
  refine pm_Fv.go 2 (f' := (10, 2, [(0, _), (1, _), (2, _)], [_, _])) rfl ?_
  refine pm_Fv.cv rfl rfl rfl rfl (by decide) (Nat.le_of_ble_eq_true rfl) (Nat.le_of_ble_eq_true rfl) H.m0 H.o0 (ev_pos L xs H hl N b0 b1) ?_
  refine pm_Fv.go 4 (f' := (10, 9, [(0, _), (1, _), (2, _)], [_, _, _])) rfl ?_
  refine pm_Fv.call rfl rfl rfl rfl rfl (ev_in1 L xs (by omega) c) ?_
  refine pm_Fv.call rfl rfl rfl rfl rfl (ev_ckN1 L xs) ?_
  refine pm_Fv.go 4 (f' := (10, 19, [(0, _), (1, _), (2, _)], [_, _, _, _])) rfl ?_
  refine pm_Fv.cvF rfl rfl rfl rfl (by decide) (Nat.le_of_ble_eq_true rfl) (Nat.le_of_ble_eq_true rfl) H.m0 H.o0 (ev_change L xs H E h5 (by omega) (by omega) rfl) (fun s1 q1 => ?_)
  obtain ⟨ad1, z1, ar1, H1, E1, g1, m1⟩ := q1
  exact pm_Fv.ret rfl rfl rfl rfl ⟨rfl, ⟨ad1, z1, ar1, H1, E1, g1, m1⟩⟩
theorem ev_dminutes0 (H : Hp σ ad z ar lr) (h : hw A z ar) (h7 : z 7 = 0) (hz1 : z 1 < 99999) (h5 : z 5 = 0 ∨ z 5 = 1) (N : od_N (hq_g ar 190) (z 8)) {b : Int} (b0 : 0 ≤ b) (b1 : b < (hq_g ar 190 0)) {q v : Int} (hq : -2147483648 ≤ q ∧ q ≤ 2147483647) (hv : -2147483648 ≤ v ∧ v ≤ 2147483647) (c : 0 ≤ q ∧ q ≤ 1) (d : 0 ≤ v ∧ v ≤ 1000000) : pm_Fv (tq_P L xs) (pm_enter 13 [.ref 0, .int (zI ((oI (hq_g ar 190)) b)), .int (zI q), .int (zI v)]) σ (fun o s => o = .inl none ∧ ∃ ad' z' ar', Hp s ad' (hw_ee z') ar' lr ∧ od_E A (hq_g ar 190) z ar z' ar' ∧ (∀ i, 0 ≤ i → hq_g ar' 190 i = if i = 401 + ((oI (hq_g ar 190)) b) * 16 + (12 + q) then (v) else hq_g ar 190 i) ∧ hq_rm σ ar lr s ar' lr) := by
  show pm_Fv (tq_P L xs) (13, 0, [(0, .ref 0), (1, .int (zI ((oI (hq_g ar 190)) b))), (2, .int (zI q)), (3, .int (zI v))], []) σ _
  have hl := h.le
  have E := od_E.ini h h7 hz1
  have i0 := N.J.1 b b0 b1
  have i1 := N.lt b b0 b1
  refine pm_Fv.go 2 (f' := (13, 2, [(0, _), (1, _), (2, _), (3, _)], [_, _])) rfl ?_
  refine pm_Fv.cv rfl rfl rfl rfl (by decide) (Nat.le_of_ble_eq_true rfl) (Nat.le_of_ble_eq_true rfl) H.m0 H.o0 (ev_pos L xs H hl N b0 b1) ?_
  refine pm_Fv.go 4 (f' := (13, 9, [(0, _), (1, _), (2, _), (3, _)], [_, _, _])) rfl ?_
  refine pm_Fv.call rfl rfl rfl rfl rfl (ev_in1 L xs (by omega) c) ?_
  refine pm_Fv.zeq rfl (by omega) rfl (fun h1 => ?_) (fun h1 => ?_)
  · exact absurd h1 (by omega)
  · refine pm_Fv.go 2 (f' := (13, 17, [(0, _), (1, _), (2, _), (3, _)], [_, _])) rfl ?_
    refine pm_Fv.cc1 (1000000) rfl rfl rfl ?_
    refine pm_Fv.call rfl rfl rfl rfl rfl (ev_in1 L xs (by omega) d) ?_
    refine pm_Fv.zeq rfl (by omega) rfl (fun h2 => ?_) (fun h2 => ?_)
    · exact absurd h2 (by omega)
    · refine pm_Fv.go 2 (f' := (13, 30, [(0, _), (1, _), (2, _), (3, _)], [_])) rfl ?_
      refine pm_Fv.call rfl rfl rfl rfl rfl (ev_ckN1 L xs) ?_
      refine pm_Fv.go 2 (f' := (13, 35, [(0, _), (1, _), (2, _), (3, _)], [_, _])) rfl ?_
      refine pm_Fv.bp rfl rfl ?_
      refine pm_Fv.go 1 (f' := (13, 38, [(0, _), (1, _), (2, _), (3, _)], [_, _, _, _])) rfl ?_
      refine pm_Fv.iadd rfl ?_
      refine pm_Fv.go 1 (f' := (13, 40, [(0, _), (1, _), (2, _), (3, _)], [_, _, _, _])) rfl ?_
      refine pm_Fv.cvF rfl rfl rfl rfl (by decide) (Nat.le_of_ble_eq_true rfl) (Nat.le_of_ble_eq_true rfl) H.m0 H.o0 (ev_change L xs H E h5 (by omega) (by omega) rfl) (fun s1 q1 => ?_)
      obtain ⟨ad1, z1, ar1, H1, E1, g1, m1⟩ := q1
      exact pm_Fv.ret rfl rfl rfl rfl ⟨rfl, ⟨ad1, z1, ar1, H1, E1, g1, m1⟩⟩
theorem ev_dfold00 (H : Hp σ ad z ar lr) (h : hw A z ar) (h7 : z 7 = 0) (hz1 : z 1 < 99999) (h5 : z 5 = 0 ∨ z 5 = 1) (N : od_N (hq_g ar 190) (z 8)) {b : Int} (b0 : 0 ≤ b) (b1 : b < (hq_g ar 190 0)) : pm_Fv (tq_P L xs) (pm_enter 14 [.ref 0, .int (zI ((oI (hq_g ar 190)) b)), .int (zI 0)]) σ (fun o s => o = .inl none ∧ ∃ ad' z' ar', Hp s ad' (hw_ee z') ar' lr ∧ od_E A (hq_g ar 190) z ar z' ar' ∧ (∀ i, 0 ≤ i → hq_g ar' 190 i = if i = 401 + ((oI (hq_g ar 190)) b) * 16 + (9) then (0) else hq_g ar 190 i) ∧ hq_rm σ ar lr s ar' lr) := by
  show pm_Fv (tq_P L xs) (14, 0, [(0, .ref 0), (1, .int (zI ((oI (hq_g ar 190)) b))), (2, .int (zI 0))], []) σ _
  have hl := h.le
  have E := od_E.ini h h7 hz1
  have i0 := N.J.1 b b0 b1
  have i1 := N.lt b b0 b1
  refine pm_Fv.go 2 (f' := (14, 2, [(0, _), (1, _), (2, _)], [_, _])) rfl ?_
  refine pm_Fv.cv rfl rfl rfl rfl (by decide) (Nat.le_of_ble_eq_true rfl) (Nat.le_of_ble_eq_true rfl) H.m0 H.o0 (ev_pos L xs H hl N b0 b1) ?_
  refine pm_Fv.go 3 (f' := (14, 8, [(0, _), (1, _), (2, _)], [_, _])) rfl ?_
  refine pm_Fv.bp rfl rfl ?_
  refine pm_Fv.go 1 (f' := (14, 11, [(0, _), (1, _), (2, _)], [_, _, _, _])) rfl ?_
  refine pm_Fv.zeq rfl (by omega) rfl (fun h1 => ?_) (fun h1 => ?_)
  · refine pm_Fv.go 1 (f' := (14, 19, [(0, _), (1, _), (2, _)], [_, _, _, _])) rfl ?_
    refine pm_Fv.cvF rfl rfl rfl rfl (by decide) (Nat.le_of_ble_eq_true rfl) (Nat.le_of_ble_eq_true rfl) H.m0 H.o0 (ev_change L xs H E h5 (by omega) (by omega) rfl) (fun s1 q1 => ?_)
    obtain ⟨ad1, z1, ar1, H1, E1, g1, m1⟩ := q1
    exact pm_Fv.ret rfl rfl rfl rfl ⟨rfl, ⟨ad1, z1, ar1, H1, E1, g1, m1⟩⟩
  · exact absurd h1 (by omega)
theorem ev_dfold01 (H : Hp σ ad z ar lr) (h : hw A z ar) (h7 : z 7 = 0) (hz1 : z 1 < 99999) (h5 : z 5 = 0 ∨ z 5 = 1) (N : od_N (hq_g ar 190) (z 8)) {b : Int} (b0 : 0 ≤ b) (b1 : b < (hq_g ar 190 0)) : pm_Fv (tq_P L xs) (pm_enter 14 [.ref 0, .int (zI ((oI (hq_g ar 190)) b)), .int (zI 1)]) σ (fun o s => o = .inl none ∧ ∃ ad' z' ar', Hp s ad' (hw_ee z') ar' lr ∧ od_E A (hq_g ar 190) z ar z' ar' ∧ (∀ i, 0 ≤ i → hq_g ar' 190 i = if i = 401 + ((oI (hq_g ar 190)) b) * 16 + (9) then (1) else hq_g ar 190 i) ∧ hq_rm σ ar lr s ar' lr) := by
  show pm_Fv (tq_P L xs) (14, 0, [(0, .ref 0), (1, .int (zI ((oI (hq_g ar 190)) b))), (2, .int (zI 1))], []) σ _
  have hl := h.le
  have E := od_E.ini h h7 hz1
  have i0 := N.J.1 b b0 b1
  have i1 := N.lt b b0 b1
  refine pm_Fv.go 2 (f' := (14, 2, [(0, _), (1, _), (2, _)], [_, _])) rfl ?_
  refine pm_Fv.cv rfl rfl rfl rfl (by decide) (Nat.le_of_ble_eq_true rfl) (Nat.le_of_ble_eq_true rfl) H.m0 H.o0 (ev_pos L xs H hl N b0 b1) ?_
  refine pm_Fv.go 3 (f' := (14, 8, [(0, _), (1, _), (2, _)], [_, _])) rfl ?_
  refine pm_Fv.bp rfl rfl ?_
  refine pm_Fv.go 1 (f' := (14, 11, [(0, _), (1, _), (2, _)], [_, _, _, _])) rfl ?_
  refine pm_Fv.zeq rfl (by omega) rfl (fun h1 => ?_) (fun h1 => ?_)
  · exact absurd h1 (by omega)
  · refine pm_Fv.go 2 (f' := (14, 19, [(0, _), (1, _), (2, _)], [_, _, _, _])) rfl ?_
    refine pm_Fv.cvF rfl rfl rfl rfl (by decide) (Nat.le_of_ble_eq_true rfl) (Nat.le_of_ble_eq_true rfl) H.m0 H.o0 (ev_change L xs H E h5 (by omega) (by omega) rfl) (fun s1 q1 => ?_)
    obtain ⟨ad1, z1, ar1, H1, E1, g1, m1⟩ := q1
    exact pm_Fv.ret rfl rfl rfl rfl ⟨rfl, ⟨ad1, z1, ar1, H1, E1, g1, m1⟩⟩
theorem ev_dtagT (H : Hp σ ad z ar lr) (h : hw A z ar) (h7 : z 7 = 0) (hz1 : z 1 < 99999) (h5 : z 5 = 0 ∨ z 5 = 1) (N : od_N (hq_g ar 190) (z 8)) {b : Int} (b0 : 0 ≤ b) (b1 : b < (hq_g ar 190 0)) {q : Int} (hq : -2147483648 ≤ q ∧ q ≤ 2147483647) (c : 0 ≤ q ∧ q ≤ 23) : pm_Fv (tq_P L xs) (pm_enter 11 [.ref 0, .int (zI ((oI (hq_g ar 190)) b)), .int (zI q), .int (zI 1)]) σ (fun o s => o = .inl none ∧ ∃ ad' z' ar', Hp s ad' (hw_ee z') ar' lr ∧ od_E A (hq_g ar 190) z ar z' ar' ∧ (∀ i, 0 ≤ i → hq_g ar' 190 i = if i = 401 + ((oI (hq_g ar 190)) b) * 16 + (6) then (zor (oV (hq_g ar 190) ((oI (hq_g ar 190)) b) 6) (zshl 1 q)) else hq_g ar 190 i) ∧ hq_rm σ ar lr s ar' lr) := by
  show pm_Fv (tq_P L xs) (11, 0, [(0, .ref 0), (1, .int (zI ((oI (hq_g ar 190)) b))), (2, .int (zI q)), (3, .int (zI 1))], []) σ _
  have hl := h.le
  have E := od_E.ini h h7 hz1
  have i0 := N.J.1 b b0 b1
  have i1 := N.lt b b0 b1
  refine pm_Fv.go 2 (f' := (11, 2, [(0, _), (1, _), (2, _), (3, _)], [_, _])) rfl ?_
  refine pm_Fv.cv rfl rfl rfl rfl (by decide) (Nat.le_of_ble_eq_true rfl) (Nat.le_of_ble_eq_true rfl) H.m0 H.o0 (ev_pos L xs H hl N b0 b1) ?_
  refine pm_Fv.go 3 (f' := (11, 8, [(0, _), (1, _), (2, _), (3, _)], [_, _])) rfl ?_
  refine pm_Fv.bp rfl rfl ?_
  refine pm_Fv.call rfl rfl rfl rfl rfl (ev_in1 L xs (by omega) c) ?_
  refine pm_Fv.call rfl rfl rfl rfl rfl (ev_ckN1 L xs) ?_
  refine pm_Fv.go 1 (f' := (11, 17, [(0, _), (1, _), (2, _), (3, _)], [_])) rfl ?_
  refine pm_Fv.gf rfl rfl H.m0 H.o0 rfl ?_
  refine pm_Fv.go 1 (f' := (11, 21, [(0, _), (1, _), (2, _), (3, _)], [_, _])) rfl ?_
  refine pm_Fv.bp rfl rfl ?_
  refine pm_Fv.cv rfl rfl rfl rfl (by decide) (Nat.le_of_ble_eq_true rfl) (Nat.le_of_ble_eq_true rfl) H.m188 H.o188 (ev_value L xs H hl N.m0 (by omega)) ?_
  refine pm_Fv.go 3 (f' := (11, 30, [(4, _), (0, _), (1, _), (2, _), (3, _)], [_, _])) rfl ?_
  refine pm_Fv.bp rfl rfl ?_
  refine pm_Fv.go 1 (f' := (11, 33, [(4, _), (0, _), (1, _), (2, _), (3, _)], [_, _, _, _])) rfl ?_
  refine pm_Fv.zeq rfl (by omega) rfl (fun h1 => ?_) (fun h1 => ?_)
  · exact absurd h1 (by omega)
  · refine pm_Fv.go 3 (f' := (11, 40, [(4, _), (0, _), (1, _), (2, _), (3, _)], [_, _, _, _, _, _])) rfl ?_
    refine pm_Fv.ishl rfl ?_
    refine pm_Fv.ior rfl ?_
    refine pm_Fv.go 1 (f' := (11, 53, [(4, _), (0, _), (1, _), (2, _), (3, _)], [_, _, _, _])) rfl ?_
    refine pm_Fv.cvF rfl rfl rfl rfl (by decide) (Nat.le_of_ble_eq_true rfl) (Nat.le_of_ble_eq_true rfl) H.m0 H.o0 (ev_change L xs H E h5 (by omega) (zor_r _ _) rfl) (fun s1 q1 => ?_)
    obtain ⟨ad1, z1, ar1, H1, E1, g1, m1⟩ := q1
    exact pm_Fv.ret rfl rfl rfl rfl ⟨rfl, ⟨ad1, z1, ar1, H1, E1, g1, m1⟩⟩
theorem ev_dtag0 (H : Hp σ ad z ar lr) (h : hw A z ar) (h7 : z 7 = 0) (hz1 : z 1 < 99999) (h5 : z 5 = 0 ∨ z 5 = 1) (N : od_N (hq_g ar 190) (z 8)) {b : Int} (b0 : 0 ≤ b) (b1 : b < (hq_g ar 190 0)) {q : Int} (hq : -2147483648 ≤ q ∧ q ≤ 2147483647) (c : 0 ≤ q ∧ q ≤ 23) : pm_Fv (tq_P L xs) (pm_enter 11 [.ref 0, .int (zI ((oI (hq_g ar 190)) b)), .int (zI q), .int (zI 0)]) σ (fun o s => o = .inl none ∧ ∃ ad' z' ar', Hp s ad' (hw_ee z') ar' lr ∧ od_E A (hq_g ar 190) z ar z' ar' ∧ (∀ i, 0 ≤ i → hq_g ar' 190 i = if i = 401 + ((oI (hq_g ar 190)) b) * 16 + (6) then (zand (oV (hq_g ar 190) ((oI (hq_g ar 190)) b) 6) (zxor (zshl 1 q) (-1))) else hq_g ar 190 i) ∧ hq_rm σ ar lr s ar' lr) := by
  show pm_Fv (tq_P L xs) (11, 0, [(0, .ref 0), (1, .int (zI ((oI (hq_g ar 190)) b))), (2, .int (zI q)), (3, .int (zI 0))], []) σ _
  have hl := h.le
  have E := od_E.ini h h7 hz1
  have i0 := N.J.1 b b0 b1
  have i1 := N.lt b b0 b1
  refine pm_Fv.go 2 (f' := (11, 2, [(0, _), (1, _), (2, _), (3, _)], [_, _])) rfl ?_
  refine pm_Fv.cv rfl rfl rfl rfl (by decide) (Nat.le_of_ble_eq_true rfl) (Nat.le_of_ble_eq_true rfl) H.m0 H.o0 (ev_pos L xs H hl N b0 b1) ?_
  refine pm_Fv.go 3 (f' := (11, 8, [(0, _), (1, _), (2, _), (3, _)], [_, _])) rfl ?_
  refine pm_Fv.bp rfl rfl ?_
  refine pm_Fv.call rfl rfl rfl rfl rfl (ev_in1 L xs (by omega) c) ?_
  refine pm_Fv.call rfl rfl rfl rfl rfl (ev_ckN1 L xs) ?_
  refine pm_Fv.go 1 (f' := (11, 17, [(0, _), (1, _), (2, _), (3, _)], [_])) rfl ?_
  refine pm_Fv.gf rfl rfl H.m0 H.o0 rfl ?_
  refine pm_Fv.go 1 (f' := (11, 21, [(0, _), (1, _), (2, _), (3, _)], [_, _])) rfl ?_
  refine pm_Fv.bp rfl rfl ?_
  refine pm_Fv.cv rfl rfl rfl rfl (by decide) (Nat.le_of_ble_eq_true rfl) (Nat.le_of_ble_eq_true rfl) H.m188 H.o188 (ev_value L xs H hl N.m0 (by omega)) ?_
  refine pm_Fv.go 3 (f' := (11, 30, [(4, _), (0, _), (1, _), (2, _), (3, _)], [_, _])) rfl ?_
  refine pm_Fv.bp rfl rfl ?_
  refine pm_Fv.go 1 (f' := (11, 33, [(4, _), (0, _), (1, _), (2, _), (3, _)], [_, _, _, _])) rfl ?_
  refine pm_Fv.zeq rfl (by omega) rfl (fun h1 => ?_) (fun h1 => ?_)
  · refine pm_Fv.go 3 (f' := (11, 49, [(4, _), (0, _), (1, _), (2, _), (3, _)], [_, _, _, _, _, _])) rfl ?_
    refine pm_Fv.ishl rfl ?_
    refine pm_Fv.go 1 (f' := (11, 51, [(4, _), (0, _), (1, _), (2, _), (3, _)], [_, _, _, _, _, _])) rfl ?_
    refine pm_Fv.ixor rfl ?_
    refine pm_Fv.iandx rfl ?_
    refine pm_Fv.cvF rfl rfl rfl rfl (by decide) (Nat.le_of_ble_eq_true rfl) (Nat.le_of_ble_eq_true rfl) H.m0 H.o0 (ev_change L xs H E h5 (by omega) (zand_r _ _) rfl) (fun s1 q1 => ?_)
    obtain ⟨ad1, z1, ar1, H1, E1, g1, m1⟩ := q1
    exact pm_Fv.ret rfl rfl rfl rfl ⟨rfl, ⟨ad1, z1, ar1, H1, E1, g1, m1⟩⟩
  · exact absurd h1 (by omega)
theorem ev_ddate0a (H : Hp σ ad z ar lr) (h : hw A z ar) (h7 : z 7 = 0) (hz1 : z 1 < 99999) (h5 : z 5 = 0 ∨ z 5 = 1) (N : od_N (hq_g ar 190) (z 8)) {b : Int} (b0 : 0 ≤ b) (b1 : b < (hq_g ar 190 0)) {q d k u c : Int} (hq : -2147483648 ≤ q ∧ q ≤ 2147483647) (hd : -2147483648 ≤ d ∧ d ≤ 2147483647) (hk : -2147483648 ≤ k ∧ k ≤ 2147483647) (hu : -2147483648 ≤ u ∧ u ≤ 2147483647) (hc : -2147483648 ≤ c ∧ c ≤ 2147483647) (x : 0 ≤ q ∧ q ≤ 1) (y : d = -1) : pm_Fv (tq_P L xs) (pm_enter 12 [.ref 0, .int (zI ((oI (hq_g ar 190)) b)), .int (zI q), .int (zI d), .int (zI k), .int (zI u), .int (zI c)]) σ (fun o s => o = .inl none ∧ ∃ ad' z' ar', Hp s ad' (hw_ee z') ar' lr ∧ od_E A (hq_g ar 190) z ar z' ar' ∧ (∀ i, 0 ≤ i → hq_g ar' 190 i = if i = 401 + ((oI (hq_g ar 190)) b) * 16 + (14 + q) then (0) else if i = 401 + ((oI (hq_g ar 190)) b) * 16 + (10 + q) then d else hq_g ar 190 i) ∧ hq_rm σ ar lr s ar' lr) := by
  show pm_Fv (tq_P L xs) (12, 0, [(0, .ref 0), (1, .int (zI ((oI (hq_g ar 190)) b))), (2, .int (zI q)), (3, .int (zI d)), (4, .int (zI k)), (5, .int (zI u)), (6, .int (zI c))], []) σ _
  have hl := h.le
  have E := od_E.ini h h7 hz1
  have i0 := N.J.1 b b0 b1
  have i1 := N.lt b b0 b1
  refine pm_Fv.go 2 (f' := (12, 2, [(0, _), (1, _), (2, _), (3, _), (4, _), (5, _), (6, _)], [_, _])) rfl ?_
  refine pm_Fv.cv rfl rfl rfl rfl (by decide) (Nat.le_of_ble_eq_true rfl) (Nat.le_of_ble_eq_true rfl) H.m0 H.o0 (ev_pos L xs H hl N b0 b1) ?_
  refine pm_Fv.go 4 (f' := (12, 9, [(0, _), (1, _), (2, _), (3, _), (4, _), (5, _), (6, _)], [_, _, _])) rfl ?_
  refine pm_Fv.call rfl rfl rfl rfl rfl (ev_in1 L xs (by omega) x) ?_
  refine pm_Fv.call rfl rfl rfl rfl rfl (ev_ckN1 L xs) ?_
  refine pm_Fv.go 2 (f' := (12, 17, [(0, _), (1, _), (2, _), (3, _), (4, _), (5, _), (6, _)], [_, _])) rfl ?_
  refine pm_Fv.jeq rfl (by omega) rfl (fun h1 => ?_) (fun h1 => ?_)
  · refine pm_Fv.go 2 (f' := (12, 44, [(0, _), (1, _), (2, _), (3, _), (4, _), (5, _), (6, _)], [_])) rfl ?_
    refine pm_Fv.call rfl rfl rfl rfl rfl (ev_ckN1 L xs) ?_
    refine pm_Fv.go 1 (f' := (12, 48, [(0, _), (1, _), (2, _), (3, _), (4, _), (5, _), (6, _)], [_])) rfl ?_
    refine pm_Fv.gf rfl rfl H.m0 H.o0 rfl ?_
    refine pm_Fv.go 1 (f' := (12, 52, [(0, _), (1, _), (2, _), (3, _), (4, _), (5, _), (6, _)], [_, _])) rfl ?_
    refine pm_Fv.bp rfl rfl ?_
    refine pm_Fv.go 1 (f' := (12, 55, [(0, _), (1, _), (2, _), (3, _), (4, _), (5, _), (6, _)], [_, _, _, _])) rfl ?_
    refine pm_Fv.iadd rfl ?_
    refine pm_Fv.go 1 (f' := (12, 57, [(0, _), (1, _), (2, _), (3, _), (4, _), (5, _), (6, _)], [_, _, _, _])) rfl ?_
    refine pm_Fv.cvF rfl rfl rfl rfl (by decide) (Nat.le_of_ble_eq_true rfl) (Nat.le_of_ble_eq_true rfl) H.m188 H.o188 (ev_setE L xs H E (by omega) (by omega) rfl) (fun s1 q1 => ?_)
    obtain ⟨ad1, z1, ar1, H1, E1, g1, d1, m1⟩ := q1
    refine pm_Fv.go 2 (f' := (12, 62, [(0, _), (1, _), (2, _), (3, _), (4, _), (5, _), (6, _)], [_, _])) rfl ?_
    refine pm_Fv.bp rfl rfl ?_
    refine pm_Fv.go 1 (f' := (12, 65, [(0, _), (1, _), (2, _), (3, _), (4, _), (5, _), (6, _)], [_, _, _, _])) rfl ?_
    refine pm_Fv.iadd rfl ?_
    refine pm_Fv.go 2 (f' := (12, 68, [(0, _), (1, _), (2, _), (3, _), (4, _), (5, _), (6, _)], [_, _, _, _, _])) rfl ?_
    refine pm_Fv.jne rfl (by omega) rfl (fun h2 => ?_) (fun h2 => ?_)
    · exact absurd h2 (by omega)
    · refine pm_Fv.go 2 (f' := (12, 84, [(0, _), (1, _), (2, _), (3, _), (4, _), (5, _), (6, _)], [_, _, _, _])) rfl ?_
      refine pm_Fv.cvF rfl rfl rfl rfl (by decide) (Nat.le_of_ble_eq_true rfl) (Nat.le_of_ble_eq_true rfl) H1.m0 H1.o0 (ev_change L xs H1 E1 h5 (by omega) (by omega) (by rw [g1 _ (by omega), if_neg (by omega)])) (fun s2 q2 => ?_)
      obtain ⟨ad2, z2, ar2, H2, E2, g2, m2⟩ := q2
      refine pm_Fv.ret rfl rfl rfl rfl ⟨rfl, ⟨ad2, z2, ar2, H2, E2, fun i i0 => ?_, hq_rm_tr m1 m2⟩⟩
      rw [g2 i i0, g1 i i0]
  · exact absurd h1 (by omega)
theorem ev_ddate0b (H : Hp σ ad z ar lr) (h : hw A z ar) (h7 : z 7 = 0) (hz1 : z 1 < 99999) (h5 : z 5 = 0 ∨ z 5 = 1) (N : od_N (hq_g ar 190) (z 8)) {b : Int} (b0 : 0 ≤ b) (b1 : b < (hq_g ar 190 0)) {q d k u c : Int} (hq : -2147483648 ≤ q ∧ q ≤ 2147483647) (hd : -2147483648 ≤ d ∧ d ≤ 2147483647) (hk : -2147483648 ≤ k ∧ k ≤ 2147483647) (hu : -2147483648 ≤ u ∧ u ≤ 2147483647) (hc : -2147483648 ≤ c ∧ c ≤ 2147483647) (x : 0 ≤ q ∧ q ≤ 1) (y : d ≠ -1) (w : 0 ≤ d ∧ d ≤ 3652058) (v : k = 0 ∨ (1 ≤ k ∧ k ≤ 3) ∧ (0 ≤ u ∧ u ≤ 3) ∧ (1 ≤ c ∧ c ≤ 99)) : pm_Fv (tq_P L xs) (pm_enter 12 [.ref 0, .int (zI ((oI (hq_g ar 190)) b)), .int (zI q), .int (zI d), .int (zI k), .int (zI u), .int (zI c)]) σ (fun o s => o = .inl none ∧ ∃ ad' z' ar', Hp s ad' (hw_ee z') ar' lr ∧ od_E A (hq_g ar 190) z ar z' ar' ∧ (∀ i, 0 ≤ i → hq_g ar' 190 i = if i = 401 + ((oI (hq_g ar 190)) b) * 16 + (14 + q) then (if k = 0 then 0 else k + 10 * u + 100 * c) else if i = 401 + ((oI (hq_g ar 190)) b) * 16 + (10 + q) then d else hq_g ar 190 i) ∧ hq_rm σ ar lr s ar' lr) := by
  show pm_Fv (tq_P L xs) (12, 0, [(0, .ref 0), (1, .int (zI ((oI (hq_g ar 190)) b))), (2, .int (zI q)), (3, .int (zI d)), (4, .int (zI k)), (5, .int (zI u)), (6, .int (zI c))], []) σ _
  have hl := h.le
  have E := od_E.ini h h7 hz1
  have i0 := N.J.1 b b0 b1
  have i1 := N.lt b b0 b1
  have rr : 0 ≤ (if k = 0 then 0 else k + 10 * u + 100 * c) ∧ (if k = 0 then 0 else k + 10 * u + 100 * c) ≤ 100000 := by
    split <;> omega
  refine pm_Fv.go 2 (f' := (12, 2, [(0, _), (1, _), (2, _), (3, _), (4, _), (5, _), (6, _)], [_, _])) rfl ?_
  refine pm_Fv.cv rfl rfl rfl rfl (by decide) (Nat.le_of_ble_eq_true rfl) (Nat.le_of_ble_eq_true rfl) H.m0 H.o0 (ev_pos L xs H hl N b0 b1) ?_
  refine pm_Fv.go 4 (f' := (12, 9, [(0, _), (1, _), (2, _), (3, _), (4, _), (5, _), (6, _)], [_, _, _])) rfl ?_
  refine pm_Fv.call rfl rfl rfl rfl rfl (ev_in1 L xs (by omega) x) ?_
  refine pm_Fv.call rfl rfl rfl rfl rfl (ev_ckN1 L xs) ?_
  refine pm_Fv.go 2 (f' := (12, 17, [(0, _), (1, _), (2, _), (3, _), (4, _), (5, _), (6, _)], [_, _])) rfl ?_
  refine pm_Fv.jeq rfl (by omega) rfl (fun h1 => ?_) (fun h1 => ?_)
  · exact absurd h1 (by omega)
  · refine pm_Fv.go 1 (f' := (12, 21, [(0, _), (1, _), (2, _), (3, _), (4, _), (5, _), (6, _)], [_])) rfl ?_
    refine pm_Fv.call rfl rfl rfl rfl rfl (ev_day1 L xs hd w) ?_
    refine pm_Fv.zeq rfl (by omega) rfl (fun h2 => ?_) (fun h2 => ?_)
    · exact absurd h2 (by omega)
    · refine pm_Fv.go 3 (f' := (12, 33, [(0, _), (1, _), (2, _), (3, _), (4, _), (5, _), (6, _)], [_, _, _])) rfl ?_
      refine pm_Fv.call rfl rfl rfl rfl rfl ((by have q := ev_isRep L xs (σ := σ) hk hu hc; rw [if_pos v] at q; exact q)) ?_
      refine pm_Fv.zeq rfl (by omega) rfl (fun h3 => ?_) (fun h3 => ?_)
      · exact absurd h3 (by omega)
      · refine pm_Fv.go 2 (f' := (12, 44, [(0, _), (1, _), (2, _), (3, _), (4, _), (5, _), (6, _)], [_])) rfl ?_
        refine pm_Fv.call rfl rfl rfl rfl rfl (ev_ckN1 L xs) ?_
        refine pm_Fv.go 1 (f' := (12, 48, [(0, _), (1, _), (2, _), (3, _), (4, _), (5, _), (6, _)], [_])) rfl ?_
        refine pm_Fv.gf rfl rfl H.m0 H.o0 rfl ?_
        refine pm_Fv.go 1 (f' := (12, 52, [(0, _), (1, _), (2, _), (3, _), (4, _), (5, _), (6, _)], [_, _])) rfl ?_
        refine pm_Fv.bp rfl rfl ?_
        refine pm_Fv.go 1 (f' := (12, 55, [(0, _), (1, _), (2, _), (3, _), (4, _), (5, _), (6, _)], [_, _, _, _])) rfl ?_
        refine pm_Fv.iadd rfl ?_
        refine pm_Fv.go 1 (f' := (12, 57, [(0, _), (1, _), (2, _), (3, _), (4, _), (5, _), (6, _)], [_, _, _, _])) rfl ?_
        refine pm_Fv.cvF rfl rfl rfl rfl (by decide) (Nat.le_of_ble_eq_true rfl) (Nat.le_of_ble_eq_true rfl) H.m188 H.o188 (ev_setE L xs H E (by omega) (by omega) rfl) (fun s1 q1 => ?_)
        obtain ⟨ad1, z1, ar1, H1, E1, g1, d1, m1⟩ := q1
        refine pm_Fv.go 2 (f' := (12, 62, [(0, _), (1, _), (2, _), (3, _), (4, _), (5, _), (6, _)], [_, _])) rfl ?_
        refine pm_Fv.bp rfl rfl ?_
        refine pm_Fv.go 1 (f' := (12, 65, [(0, _), (1, _), (2, _), (3, _), (4, _), (5, _), (6, _)], [_, _, _, _])) rfl ?_
        refine pm_Fv.iadd rfl ?_
        refine pm_Fv.go 2 (f' := (12, 68, [(0, _), (1, _), (2, _), (3, _), (4, _), (5, _), (6, _)], [_, _, _, _, _])) rfl ?_
        refine pm_Fv.jne rfl (by omega) rfl (fun h4 => ?_) (fun h4 => ?_)
        · refine pm_Fv.go 3 (f' := (12, 81, [(0, _), (1, _), (2, _), (3, _), (4, _), (5, _), (6, _)], [_, _, _, _, _, _])) rfl ?_
          refine pm_Fv.call rfl rfl rfl rfl rfl (ev_repeat L xs hk) ?_
          refine pm_Fv.cvF rfl rfl rfl rfl (by decide) (Nat.le_of_ble_eq_true rfl) (Nat.le_of_ble_eq_true rfl) H1.m0 H1.o0 (ev_change L xs H1 E1 h5 (by omega) (by omega) (by rw [g1 _ (by omega), if_neg (by omega)])) (fun s2 q2 => ?_)
          obtain ⟨ad2, z2, ar2, H2, E2, g2, m2⟩ := q2
          refine pm_Fv.ret rfl rfl rfl rfl ⟨rfl, ⟨ad2, z2, ar2, H2, E2, fun i i0 => ?_, hq_rm_tr m1 m2⟩⟩
          rw [g2 i i0, g1 i i0]
        · exact absurd h4 (by omega)
theorem ev_hasRep (H : Hp σ ad z ar lr) (hl : od_L z ar) (N : od_N (hq_g ar 190) (z 8)) {b : Int} (b0 : 0 ≤ b) (b1 : b < (hq_g ar 190 0)) : pm_Ev (tq_P L xs) (pm_enter 40 [.ref 0, .int (zI ((oI (hq_g ar 190)) b))]) σ (.inl (some (.int (zI (if oV (hq_g ar 190) ((oI (hq_g ar 190)) b) 14 = 0 ∧ oV (hq_g ar 190) ((oI (hq_g ar 190)) b) 15 = 0 then 0 else 1)))), σ) := by
  show pm_Ev (tq_P L xs) (40, 0, [(0, .ref 0), (1, .int (zI ((oI (hq_g ar 190)) b)))], []) σ _
  have i0 := N.J.1 b b0 b1
  have i1 := N.lt b b0 b1
  have r1 : -2147483648 ≤ oV (hq_g ar 190) ((oI (hq_g ar 190)) b) 14 ∧ oV (hq_g ar 190) ((oI (hq_g ar 190)) b) 14 ≤ 2147483647 := hq_g_r _ _ _
  have r2 : -2147483648 ≤ oV (hq_g ar 190) ((oI (hq_g ar 190)) b) 15 ∧ oV (hq_g ar 190) ((oI (hq_g ar 190)) b) 15 ≤ 2147483647 := hq_g_r _ _ _
  refine pm_Ev.go 1 (f' := (40, 1, [(0, _), (1, _)], [_])) rfl ?_
  refine pm_Ev.gf rfl rfl H.m0 H.o0 rfl ?_
  refine pm_Ev.go 1 (f' := (40, 5, [(0, _), (1, _)], [_, _])) rfl ?_
  refine pm_Ev.bp rfl rfl ?_
  refine pm_Ev.cv rfl rfl rfl rfl (by decide) (Nat.le_of_ble_eq_true rfl) (Nat.le_of_ble_eq_true rfl) H.m188 H.o188 (ev_value L xs H hl N.m0 (by omega)) ?_
  refine pm_Ev.zne rfl (by omega) rfl (fun h1 => ?_) (fun h1 => ?_)
  · refine pm_Ev.go 2 (f' := (40, 31, [(0, _), (1, _)], [_])) rfl ?_
    exact pm_Ev.rb rfl rfl (by first | (rw [if_pos (by omega)]; done) | (rw [if_neg (by omega)]; done)) (by decide)
  · refine pm_Ev.go 1 (f' := (40, 14, [(0, _), (1, _)], [_])) rfl ?_
    refine pm_Ev.gf rfl rfl H.m0 H.o0 rfl ?_
    refine pm_Ev.go 1 (f' := (40, 18, [(0, _), (1, _)], [_, _])) rfl ?_
    refine pm_Ev.bp rfl rfl ?_
    refine pm_Ev.cv rfl rfl rfl rfl (by decide) (Nat.le_of_ble_eq_true rfl) (Nat.le_of_ble_eq_true rfl) H.m188 H.o188 (ev_value L xs H hl N.m0 (by omega)) ?_
    refine pm_Ev.zeq rfl (by omega) rfl (fun h2 => ?_) (fun h2 => ?_)
    · refine pm_Ev.go 1 (f' := (40, 31, [(0, _), (1, _)], [_])) rfl ?_
      exact pm_Ev.rb rfl rfl (by first | (rw [if_pos (by omega)]; done) | (rw [if_neg (by omega)]; done)) (by decide)
    · refine pm_Ev.go 2 (f' := (40, 31, [(0, _), (1, _)], [_])) rfl ?_
      exact pm_Ev.rb rfl rfl (by first | (rw [if_pos (by omega)]; done) | (rw [if_neg (by omega)]; done)) (by decide)
theorem ev_mvD (H : Hp σ ad z ar lr) (hl : od_L z ar) (N : od_N (hq_g ar 190) (z 8)) {b : Int} (b0 : 0 ≤ b) (b1 : b < (hq_g ar 190 0)) {y0 y1 : Int} (m0 : ∀ s, pm_Ev (tq_P L xs) (pm_enter 163 [.int (zI (oV (hq_g ar 190) ((oI (hq_g ar 190)) b) 10)), .int (zI (oV (hq_g ar 190) ((oI (hq_g ar 190)) b) 14)), .int (zI (z 0))]) s (.inl (some (.int (zI y0))), s)) (q0 : -2147483648 ≤ y0 ∧ y0 ≤ 2147483647) (m1 : ∀ s, pm_Ev (tq_P L xs) (pm_enter 163 [.int (zI (oV (hq_g ar 190) ((oI (hq_g ar 190)) b) 11)), .int (zI (oV (hq_g ar 190) ((oI (hq_g ar 190)) b) 15)), .int (zI (z 0))]) s (.inl (some (.int (zI y1))), s)) (q1 : -2147483648 ≤ y1 ∧ y1 ≤ 2147483647) (far : ¬ (y0 ≤ 3652058 ∧ y1 ≤ 3652058)) : pm_Ev (tq_P L xs) (pm_enter 41 [.ref 0, .int (zI ((oI (hq_g ar 190)) b))]) σ (.inr σ.2.1, pm_add σ (.inr (10, [])) 6) := by
  show pm_Ev (tq_P L xs) (41, 0, [(0, .ref 0), (1, .int (zI ((oI (hq_g ar 190)) b)))], []) σ _
  have i0 := N.J.1 b b0 b1
  have i1 := N.lt b b0 b1
  by_cases c : y0 ≤ 3652058
  · skip
    refine pm_Ev.go 1 (f' := (41, 1, [(0, _), (1, _)], [_])) rfl ?_
    refine pm_Ev.gf rfl rfl H.m0 H.o0 rfl ?_
    refine pm_Ev.go 1 (f' := (41, 5, [(0, _), (1, _)], [_, _])) rfl ?_
    refine pm_Ev.bp rfl rfl ?_
    refine pm_Ev.cv rfl rfl rfl rfl (by decide) (Nat.le_of_ble_eq_true rfl) (Nat.le_of_ble_eq_true rfl) H.m188 H.o188 (ev_value L xs H hl N.m0 (by omega)) ?_
    refine pm_Ev.go 1 (f' := (41, 11, [(0, _), (1, _)], [_, _])) rfl ?_
    refine pm_Ev.gf rfl rfl H.m0 H.o0 rfl ?_
    refine pm_Ev.go 1 (f' := (41, 15, [(0, _), (1, _)], [_, _, _])) rfl ?_
    refine pm_Ev.bp rfl rfl ?_
    refine pm_Ev.cv rfl rfl rfl rfl (by decide) (Nat.le_of_ble_eq_true rfl) (Nat.le_of_ble_eq_true rfl) H.m188 H.o188 (ev_value L xs H hl N.m0 (by omega)) ?_
    refine pm_Ev.go 1 (f' := (41, 21, [(0, _), (1, _)], [_, _, _])) rfl ?_
    refine pm_Ev.gf rfl rfl H.m0 H.o0 rfl ?_
    refine pm_Ev.call rfl rfl rfl rfl rfl (m0 _) ?_
    refine pm_Ev.go 2 (f' := (41, 29, [(2, _), (0, _), (1, _)], [_])) rfl ?_
    refine pm_Ev.gf rfl rfl H.m0 H.o0 rfl ?_
    refine pm_Ev.go 1 (f' := (41, 33, [(2, _), (0, _), (1, _)], [_, _])) rfl ?_
    refine pm_Ev.bp rfl rfl ?_
    refine pm_Ev.cv rfl rfl rfl rfl (by decide) (Nat.le_of_ble_eq_true rfl) (Nat.le_of_ble_eq_true rfl) H.m188 H.o188 (ev_value L xs H hl N.m0 (by omega)) ?_
    refine pm_Ev.go 1 (f' := (41, 39, [(2, _), (0, _), (1, _)], [_, _])) rfl ?_
    refine pm_Ev.gf rfl rfl H.m0 H.o0 rfl ?_
    refine pm_Ev.go 1 (f' := (41, 43, [(2, _), (0, _), (1, _)], [_, _, _])) rfl ?_
    refine pm_Ev.bp rfl rfl ?_
    refine pm_Ev.cv rfl rfl rfl rfl (by decide) (Nat.le_of_ble_eq_true rfl) (Nat.le_of_ble_eq_true rfl) H.m188 H.o188 (ev_value L xs H hl N.m0 (by omega)) ?_
    refine pm_Ev.go 1 (f' := (41, 49, [(2, _), (0, _), (1, _)], [_, _, _])) rfl ?_
    refine pm_Ev.gf rfl rfl H.m0 H.o0 rfl ?_
    refine pm_Ev.call rfl rfl rfl rfl rfl (m1 _) ?_
    refine pm_Ev.go 2 (f' := (41, 57, [(3, _), (2, _), (0, _), (1, _)], [_])) rfl ?_
    refine pm_Ev.ccw (3652058) rfl rfl rfl ?_
    refine pm_Ev.jgt rfl (by omega) rfl (fun h1 => ?_) (fun h1 => ?_)
    · exact absurd h1 (by omega)
    · refine pm_Ev.go 1 (f' := (41, 64, [(3, _), (2, _), (0, _), (1, _)], [_])) rfl ?_
      refine pm_Ev.ccw (3652058) rfl rfl rfl ?_
      refine pm_Ev.jgt rfl (by omega) rfl (fun h2 => ?_) (fun h2 => ?_)
      · refine pm_Ev.go 1 (f' := (41, 75, [(3, _), (2, _), (0, _), (1, _)], [_])) rfl ?_
        exact pm_Ev.callT rfl rfl rfl rfl rfl (ev_ckL0 L xs) rfl
      · exact absurd h2 (by omega)
  · skip
    refine pm_Ev.go 1 (f' := (41, 1, [(0, _), (1, _)], [_])) rfl ?_
    refine pm_Ev.gf rfl rfl H.m0 H.o0 rfl ?_
    refine pm_Ev.go 1 (f' := (41, 5, [(0, _), (1, _)], [_, _])) rfl ?_
    refine pm_Ev.bp rfl rfl ?_
    refine pm_Ev.cv rfl rfl rfl rfl (by decide) (Nat.le_of_ble_eq_true rfl) (Nat.le_of_ble_eq_true rfl) H.m188 H.o188 (ev_value L xs H hl N.m0 (by omega)) ?_
    refine pm_Ev.go 1 (f' := (41, 11, [(0, _), (1, _)], [_, _])) rfl ?_
    refine pm_Ev.gf rfl rfl H.m0 H.o0 rfl ?_
    refine pm_Ev.go 1 (f' := (41, 15, [(0, _), (1, _)], [_, _, _])) rfl ?_
    refine pm_Ev.bp rfl rfl ?_
    refine pm_Ev.cv rfl rfl rfl rfl (by decide) (Nat.le_of_ble_eq_true rfl) (Nat.le_of_ble_eq_true rfl) H.m188 H.o188 (ev_value L xs H hl N.m0 (by omega)) ?_
    refine pm_Ev.go 1 (f' := (41, 21, [(0, _), (1, _)], [_, _, _])) rfl ?_
    refine pm_Ev.gf rfl rfl H.m0 H.o0 rfl ?_
    refine pm_Ev.call rfl rfl rfl rfl rfl (m0 _) ?_
    refine pm_Ev.go 2 (f' := (41, 29, [(2, _), (0, _), (1, _)], [_])) rfl ?_
    refine pm_Ev.gf rfl rfl H.m0 H.o0 rfl ?_
    refine pm_Ev.go 1 (f' := (41, 33, [(2, _), (0, _), (1, _)], [_, _])) rfl ?_
    refine pm_Ev.bp rfl rfl ?_
    refine pm_Ev.cv rfl rfl rfl rfl (by decide) (Nat.le_of_ble_eq_true rfl) (Nat.le_of_ble_eq_true rfl) H.m188 H.o188 (ev_value L xs H hl N.m0 (by omega)) ?_
    refine pm_Ev.go 1 (f' := (41, 39, [(2, _), (0, _), (1, _)], [_, _])) rfl ?_
    refine pm_Ev.gf rfl rfl H.m0 H.o0 rfl ?_
    refine pm_Ev.go 1 (f' := (41, 43, [(2, _), (0, _), (1, _)], [_, _, _])) rfl ?_
    refine pm_Ev.bp rfl rfl ?_
    refine pm_Ev.cv rfl rfl rfl rfl (by decide) (Nat.le_of_ble_eq_true rfl) (Nat.le_of_ble_eq_true rfl) H.m188 H.o188 (ev_value L xs H hl N.m0 (by omega)) ?_
    refine pm_Ev.go 1 (f' := (41, 49, [(2, _), (0, _), (1, _)], [_, _, _])) rfl ?_
    refine pm_Ev.gf rfl rfl H.m0 H.o0 rfl ?_
    refine pm_Ev.call rfl rfl rfl rfl rfl (m1 _) ?_
    refine pm_Ev.go 2 (f' := (41, 57, [(3, _), (2, _), (0, _), (1, _)], [_])) rfl ?_
    refine pm_Ev.ccw (3652058) rfl rfl rfl ?_
    refine pm_Ev.jgt rfl (by omega) rfl (fun h1 => ?_) (fun h1 => ?_)
    · refine pm_Ev.go 1 (f' := (41, 75, [(3, _), (2, _), (0, _), (1, _)], [_])) rfl ?_
      exact pm_Ev.callT rfl rfl rfl rfl rfl (ev_ckL0 L xs) rfl
    · exact absurd h1 (by omega)
theorem ev_mvE (H : Hp σ ad z ar lr) (E : od_E A (hq_g ar 190) z ar z ar) (N : od_N (hq_g ar 190) (z 8)) {b : Int} (b0 : 0 ≤ b) (b1 : b < (hq_g ar 190 0)) {y0 y1 : Int} (m0 : ∀ s, pm_Ev (tq_P L xs) (pm_enter 163 [.int (zI (oV (hq_g ar 190) ((oI (hq_g ar 190)) b) 10)), .int (zI (oV (hq_g ar 190) ((oI (hq_g ar 190)) b) 14)), .int (zI (z 0))]) s (.inl (some (.int (zI y0))), s)) (q0 : -2147483648 ≤ y0 ∧ y0 ≤ 2147483647) (m1 : ∀ s, pm_Ev (tq_P L xs) (pm_enter 163 [.int (zI (oV (hq_g ar 190) ((oI (hq_g ar 190)) b) 11)), .int (zI (oV (hq_g ar 190) ((oI (hq_g ar 190)) b) 15)), .int (zI (z 0))]) s (.inl (some (.int (zI y1))), s)) (q1 : -2147483648 ≤ y1 ∧ y1 ≤ 2147483647) (c : y0 ≤ 3652058) (d : y1 ≤ 3652058) : pm_Fv (tq_P L xs) (pm_enter 41 [.ref 0, .int (zI ((oI (hq_g ar 190)) b))]) σ (fun o s => o = .inl none ∧ ∃ ad' z' ar', Hp s ad' z' ar' lr ∧ od_E A (hq_g ar 190) z ar z' ar' ∧ (∀ i, 0 ≤ i → hq_g ar' 190 i = if i = 401 + ((oI (hq_g ar 190)) b) * 16 + 11 then y1 else if i = 401 + ((oI (hq_g ar 190)) b) * 16 + 10 then y0 else hq_g ar 190 i) ∧ hq_rm σ ar lr s ar' lr) := by
  show pm_Fv (tq_P L xs) (41, 0, [(0, .ref 0), (1, .int (zI ((oI (hq_g ar 190)) b)))], []) σ _
  have hl := E.h.le
  have i0 := N.J.1 b b0 b1
  have i1 := N.lt b b0 b1
  refine pm_Fv.go 1 (f' := (41, 1, [(0, _), (1, _)], [_])) rfl ?_
  refine pm_Fv.gf rfl rfl H.m0 H.o0 rfl ?_
  refine pm_Fv.go 1 (f' := (41, 5, [(0, _), (1, _)], [_, _])) rfl ?_
  refine pm_Fv.bp rfl rfl ?_
  refine pm_Fv.cv rfl rfl rfl rfl (by decide) (Nat.le_of_ble_eq_true rfl) (Nat.le_of_ble_eq_true rfl) H.m188 H.o188 (ev_value L xs H hl N.m0 (by omega)) ?_
  refine pm_Fv.go 1 (f' := (41, 11, [(0, _), (1, _)], [_, _])) rfl ?_
  refine pm_Fv.gf rfl rfl H.m0 H.o0 rfl ?_
  refine pm_Fv.go 1 (f' := (41, 15, [(0, _), (1, _)], [_, _, _])) rfl ?_
  refine pm_Fv.bp rfl rfl ?_
  refine pm_Fv.cv rfl rfl rfl rfl (by decide) (Nat.le_of_ble_eq_true rfl) (Nat.le_of_ble_eq_true rfl) H.m188 H.o188 (ev_value L xs H hl N.m0 (by omega)) ?_
  refine pm_Fv.go 1 (f' := (41, 21, [(0, _), (1, _)], [_, _, _])) rfl ?_
  refine pm_Fv.gf rfl rfl H.m0 H.o0 rfl ?_
  refine pm_Fv.call rfl rfl rfl rfl rfl (m0 _) ?_
  refine pm_Fv.go 2 (f' := (41, 29, [(2, _), (0, _), (1, _)], [_])) rfl ?_
  refine pm_Fv.gf rfl rfl H.m0 H.o0 rfl ?_
  refine pm_Fv.go 1 (f' := (41, 33, [(2, _), (0, _), (1, _)], [_, _])) rfl ?_
  refine pm_Fv.bp rfl rfl ?_
  refine pm_Fv.cv rfl rfl rfl rfl (by decide) (Nat.le_of_ble_eq_true rfl) (Nat.le_of_ble_eq_true rfl) H.m188 H.o188 (ev_value L xs H hl N.m0 (by omega)) ?_
  refine pm_Fv.go 1 (f' := (41, 39, [(2, _), (0, _), (1, _)], [_, _])) rfl ?_
  refine pm_Fv.gf rfl rfl H.m0 H.o0 rfl ?_
  refine pm_Fv.go 1 (f' := (41, 43, [(2, _), (0, _), (1, _)], [_, _, _])) rfl ?_
  refine pm_Fv.bp rfl rfl ?_
  refine pm_Fv.cv rfl rfl rfl rfl (by decide) (Nat.le_of_ble_eq_true rfl) (Nat.le_of_ble_eq_true rfl) H.m188 H.o188 (ev_value L xs H hl N.m0 (by omega)) ?_
  refine pm_Fv.go 1 (f' := (41, 49, [(2, _), (0, _), (1, _)], [_, _, _])) rfl ?_
  refine pm_Fv.gf rfl rfl H.m0 H.o0 rfl ?_
  refine pm_Fv.call rfl rfl rfl rfl rfl (m1 _) ?_
  refine pm_Fv.go 2 (f' := (41, 57, [(3, _), (2, _), (0, _), (1, _)], [_])) rfl ?_
  refine pm_Fv.ccw (3652058) rfl rfl rfl ?_
  refine pm_Fv.jgt rfl (by omega) rfl (fun h1 => ?_) (fun h1 => ?_)
  · exact absurd h1 (by omega)
  · refine pm_Fv.go 1 (f' := (41, 64, [(3, _), (2, _), (0, _), (1, _)], [_])) rfl ?_
    refine pm_Fv.ccw (3652058) rfl rfl rfl ?_
    refine pm_Fv.jgt rfl (by omega) rfl (fun h2 => ?_) (fun h2 => ?_)
    · exact absurd h2 (by omega)
    · refine pm_Fv.go 2 (f' := (41, 75, [(3, _), (2, _), (0, _), (1, _)], [_])) rfl ?_
      refine pm_Fv.call rfl rfl rfl rfl rfl (ev_ckL1 L xs) ?_
      refine pm_Fv.go 1 (f' := (41, 79, [(3, _), (2, _), (0, _), (1, _)], [_])) rfl ?_
      refine pm_Fv.gf rfl rfl H.m0 H.o0 rfl ?_
      refine pm_Fv.go 1 (f' := (41, 83, [(3, _), (2, _), (0, _), (1, _)], [_, _])) rfl ?_
      refine pm_Fv.bp rfl rfl ?_
      refine pm_Fv.go 1 (f' := (41, 86, [(3, _), (2, _), (0, _), (1, _)], [_, _, _, _])) rfl ?_
      refine pm_Fv.cvF rfl rfl rfl rfl (by decide) (Nat.le_of_ble_eq_true rfl) (Nat.le_of_ble_eq_true rfl) H.m188 H.o188 (ev_setE L xs H E (by omega) q0 rfl) (fun s1 q1 => ?_)
      obtain ⟨ad1, z1, ar1, H1, E1, g1, d1, m3⟩ := q1
      refine pm_Fv.go 1 (f' := (41, 90, [(3, _), (2, _), (0, _), (1, _)], [_])) rfl ?_
      refine pm_Fv.gf rfl rfl H1.m0 H1.o0 rfl ?_
      refine pm_Fv.go 1 (f' := (41, 94, [(3, _), (2, _), (0, _), (1, _)], [_, _])) rfl ?_
      refine pm_Fv.bp rfl rfl ?_
      refine pm_Fv.go 1 (f' := (41, 97, [(3, _), (2, _), (0, _), (1, _)], [_, _, _, _])) rfl ?_
      refine pm_Fv.cvF rfl rfl rfl rfl (by decide) (Nat.le_of_ble_eq_true rfl) (Nat.le_of_ble_eq_true rfl) H1.m188 H1.o188 (ev_setE L xs H1 E1 (by omega) q1 (by rw [g1 _ (by omega), if_neg (by omega)])) (fun s2 q2 => ?_)
      obtain ⟨ad2, z2, ar2, H2, E2, g2, d2, m4⟩ := q2
      refine pm_Fv.ret rfl rfl rfl rfl ⟨rfl, ⟨ad2, z2, ar2, H2, E2, fun i i0 => ?_, hq_rm_tr m3 m4⟩⟩
      rw [g2 i i0, g1 i i0]
theorem ev_dstate3 (H : Hp σ ad z ar lr) (hl : od_L z ar) (N : od_N (hq_g ar 190) (z 8)) {b : Int} (b0 : 0 ≤ b) (b1 : b < (hq_g ar 190 0)) (hr : ¬ (oV (hq_g ar 190) ((oI (hq_g ar 190)) b) 14 = 0 ∧ oV (hq_g ar 190) ((oI (hq_g ar 190)) b) 15 = 0)) {y0 y1 : Int} (m0 : ∀ s, pm_Ev (tq_P L xs) (pm_enter 163 [.int (zI (oV (hq_g ar 190) ((oI (hq_g ar 190)) b) 10)), .int (zI (oV (hq_g ar 190) ((oI (hq_g ar 190)) b) 14)), .int (zI (z 0))]) s (.inl (some (.int (zI y0))), s)) (q0 : -2147483648 ≤ y0 ∧ y0 ≤ 2147483647) (m1 : ∀ s, pm_Ev (tq_P L xs) (pm_enter 163 [.int (zI (oV (hq_g ar 190) ((oI (hq_g ar 190)) b) 11)), .int (zI (oV (hq_g ar 190) ((oI (hq_g ar 190)) b) 15)), .int (zI (z 0))]) s (.inl (some (.int (zI y1))), s)) (q1 : -2147483648 ≤ y1 ∧ y1 ≤ 2147483647) (far : ¬ (y0 ≤ 3652058 ∧ y1 ≤ 3652058)) : pm_Ev (tq_P L xs) (pm_enter 9 [.ref 0, .int (zI ((oI (hq_g ar 190)) b)), .int (zI 3)]) σ (.inr σ.2.1, pm_add σ (.inr (10, [])) 6) := by
  show pm_Ev (tq_P L xs) (9, 0, [(0, .ref 0), (1, .int (zI ((oI (hq_g ar 190)) b))), (2, .int (zI 3))], []) σ _
  refine pm_Ev.go 2 (f' := (9, 2, [(0, _), (1, _), (2, _)], [_, _])) rfl ?_
  refine pm_Ev.cv rfl rfl rfl rfl (by decide) (Nat.le_of_ble_eq_true rfl) (Nat.le_of_ble_eq_true rfl) H.m0 H.o0 (ev_pos L xs H hl N b0 b1) ?_
  refine pm_Ev.go 4 (f' := (9, 9, [(0, _), (1, _), (2, _)], [_, _, _])) rfl ?_
  refine pm_Ev.call rfl rfl rfl rfl rfl (ev_in1 L xs (by omega) (by omega)) ?_
  refine pm_Ev.call rfl rfl rfl rfl rfl (ev_ckN1 L xs) ?_
  refine pm_Ev.go 2 (f' := (9, 17, [(0, _), (1, _), (2, _)], [_, _])) rfl ?_
  refine pm_Ev.jne rfl (by omega) rfl (fun h1 => ?_) (fun h1 => ?_)
  · exact absurd h1 (by omega)
  · refine pm_Ev.go 2 (f' := (9, 22, [(0, _), (1, _), (2, _)], [_, _])) rfl ?_
    refine pm_Ev.cv rfl rfl rfl rfl (by decide) (Nat.le_of_ble_eq_true rfl) (Nat.le_of_ble_eq_true rfl) H.m0 H.o0 ((by have q := ev_hasRep L xs H hl N b0 b1; rw [if_neg hr] at q; exact q)) ?_
    refine pm_Ev.zeq rfl (by omega) rfl (fun h2 => ?_) (fun h2 => ?_)
    · exact absurd h2 (by omega)
    · refine pm_Ev.go 4 (f' := (9, 35, [(3, _), (0, _), (1, _), (2, _)], [_])) rfl ?_
      refine pm_Ev.zeq rfl (by omega) rfl (fun h3 => ?_) (fun h3 => ?_)
      · exact absurd h3 (by omega)
      · refine pm_Ev.go 2 (f' := (9, 40, [(3, _), (0, _), (1, _), (2, _)], [_, _])) rfl ?_
        exact pm_Ev.cvT rfl rfl rfl rfl (by decide) (Nat.le_of_ble_eq_true rfl) (Nat.le_of_ble_eq_true rfl) H.m0 H.o0 (ev_mvD L xs H hl N b0 b1 m0 q0 m1 q1 far) rfl
theorem ev_dstate0a (H : Hp σ ad z ar lr) (h : hw A z ar) (h7 : z 7 = 0) (hz1 : z 1 < 99999) (h5 : z 5 = 0 ∨ z 5 = 1) (N : od_N (hq_g ar 190) (z 8)) {b : Int} (b0 : 0 ≤ b) (b1 : b < (hq_g ar 190 0)) {v : Int} (hv : -2147483648 ≤ v ∧ v ≤ 2147483647) (c : 0 ≤ v ∧ v ≤ 4) (d : ¬ v = 3) : pm_Fv (tq_P L xs) (pm_enter 9 [.ref 0, .int (zI ((oI (hq_g ar 190)) b)), .int (zI v)]) σ (fun o s => o = .inl (some (.int (zI (v)))) ∧ ∃ ad' z' ar', Hp s ad' (hw_ee z') ar' lr ∧ od_E A (hq_g ar 190) z ar z' ar' ∧ (∀ i, 0 ≤ i → hq_g ar' 190 i = if i = 401 + ((oI (hq_g ar 190)) b) * 16 + (4) then (v) else hq_g ar 190 i) ∧ hq_rm σ ar lr s ar' lr) := by
  show pm_Fv (tq_P L xs) (9, 0, [(0, .ref 0), (1, .int (zI ((oI (hq_g ar 190)) b))), (2, .int (zI v))], []) σ _
  have hl := h.le
  have E := od_E.ini h h7 hz1
  have i0 := N.J.1 b b0 b1
  have i1 := N.lt b b0 b1
  refine pm_Fv.go 2 (f' := (9, 2, [(0, _), (1, _), (2, _)], [_, _])) rfl ?_
  refine pm_Fv.cv rfl rfl rfl rfl (by decide) (Nat.le_of_ble_eq_true rfl) (Nat.le_of_ble_eq_true rfl) H.m0 H.o0 (ev_pos L xs H hl N b0 b1) ?_
  refine pm_Fv.go 4 (f' := (9, 9, [(0, _), (1, _), (2, _)], [_, _, _])) rfl ?_
  refine pm_Fv.call rfl rfl rfl rfl rfl (ev_in1 L xs (by omega) (by omega)) ?_
  refine pm_Fv.call rfl rfl rfl rfl rfl (ev_ckN1 L xs) ?_
  refine pm_Fv.go 2 (f' := (9, 17, [(0, _), (1, _), (2, _)], [_, _])) rfl ?_
  refine pm_Fv.jne rfl (by omega) rfl (fun h1 => ?_) (fun h1 => ?_)
  · refine pm_Fv.go 3 (f' := (9, 35, [(3, _), (0, _), (1, _), (2, _)], [_])) rfl ?_
    refine pm_Fv.zeq rfl (by omega) rfl (fun h2 => ?_) (fun h2 => ?_)
    · refine pm_Fv.go 1 (f' := (9, 44, [(3, _), (0, _), (1, _), (2, _)], [_])) rfl ?_
      refine pm_Fv.zeq rfl (by omega) rfl (fun h3 => ?_) (fun h3 => ?_)
      · refine pm_Fv.go 6 (f' := (9, 59, [(4, _), (3, _), (0, _), (1, _), (2, _)], [_, _, _, _])) rfl ?_
        refine pm_Fv.cvF rfl rfl rfl rfl (by decide) (Nat.le_of_ble_eq_true rfl) (Nat.le_of_ble_eq_true rfl) H.m0 H.o0 (ev_change L xs H E h5 (by omega) (by omega) rfl) (fun s1 q1 => ?_)
        obtain ⟨ad1, z1, ar1, H1, E1, g1, m1⟩ := q1
        refine pm_Fv.go 1 (f' := (9, 64, [(4, _), (3, _), (0, _), (1, _), (2, _)], [_])) rfl ?_
        exact pm_Fv.rv rfl rfl ⟨rfl, ⟨ad1, z1, ar1, H1, E1, g1, m1⟩⟩
      · exact absurd h3 (by omega)
    · exact absurd h2 (by omega)
  · exact absurd h1 (by omega)
theorem ev_dstate0b (H : Hp σ ad z ar lr) (h : hw A z ar) (h7 : z 7 = 0) (hz1 : z 1 < 99999) (h5 : z 5 = 0 ∨ z 5 = 1) (N : od_N (hq_g ar 190) (z 8)) {b : Int} (b0 : 0 ≤ b) (b1 : b < (hq_g ar 190 0)) (hr : (oV (hq_g ar 190) ((oI (hq_g ar 190)) b) 14 = 0 ∧ oV (hq_g ar 190) ((oI (hq_g ar 190)) b) 15 = 0)) : pm_Fv (tq_P L xs) (pm_enter 9 [.ref 0, .int (zI ((oI (hq_g ar 190)) b)), .int (zI 3)]) σ (fun o s => o = .inl (some (.int (zI (3)))) ∧ ∃ ad' z' ar', Hp s ad' (hw_ee z') ar' lr ∧ od_E A (hq_g ar 190) z ar z' ar' ∧ (∀ i, 0 ≤ i → hq_g ar' 190 i = if i = 401 + ((oI (hq_g ar 190)) b) * 16 + (4) then (3) else hq_g ar 190 i) ∧ hq_rm σ ar lr s ar' lr) := by
  show pm_Fv (tq_P L xs) (9, 0, [(0, .ref 0), (1, .int (zI ((oI (hq_g ar 190)) b))), (2, .int (zI 3))], []) σ _
  have hl := h.le
  have E := od_E.ini h h7 hz1
  have i0 := N.J.1 b b0 b1
  have i1 := N.lt b b0 b1
  refine pm_Fv.go 2 (f' := (9, 2, [(0, _), (1, _), (2, _)], [_, _])) rfl ?_
  refine pm_Fv.cv rfl rfl rfl rfl (by decide) (Nat.le_of_ble_eq_true rfl) (Nat.le_of_ble_eq_true rfl) H.m0 H.o0 (ev_pos L xs H hl N b0 b1) ?_
  refine pm_Fv.go 4 (f' := (9, 9, [(0, _), (1, _), (2, _)], [_, _, _])) rfl ?_
  refine pm_Fv.call rfl rfl rfl rfl rfl (ev_in1 L xs (by omega) (by omega)) ?_
  refine pm_Fv.call rfl rfl rfl rfl rfl (ev_ckN1 L xs) ?_
  refine pm_Fv.go 2 (f' := (9, 17, [(0, _), (1, _), (2, _)], [_, _])) rfl ?_
  refine pm_Fv.jne rfl (by omega) rfl (fun h1 => ?_) (fun h1 => ?_)
  · exact absurd h1 (by omega)
  · refine pm_Fv.go 2 (f' := (9, 22, [(0, _), (1, _), (2, _)], [_, _])) rfl ?_
    refine pm_Fv.cv rfl rfl rfl rfl (by decide) (Nat.le_of_ble_eq_true rfl) (Nat.le_of_ble_eq_true rfl) H.m0 H.o0 ((by have q := ev_hasRep L xs H hl N b0 b1; rw [if_pos hr] at q; exact q)) ?_
    refine pm_Fv.zeq rfl (by omega) rfl (fun h2 => ?_) (fun h2 => ?_)
    · refine pm_Fv.go 3 (f' := (9, 35, [(3, _), (0, _), (1, _), (2, _)], [_])) rfl ?_
      refine pm_Fv.zeq rfl (by omega) rfl (fun h3 => ?_) (fun h3 => ?_)
      · refine pm_Fv.go 1 (f' := (9, 44, [(3, _), (0, _), (1, _), (2, _)], [_])) rfl ?_
        refine pm_Fv.zeq rfl (by omega) rfl (fun h4 => ?_) (fun h4 => ?_)
        · refine pm_Fv.go 6 (f' := (9, 59, [(4, _), (3, _), (0, _), (1, _), (2, _)], [_, _, _, _])) rfl ?_
          refine pm_Fv.cvF rfl rfl rfl rfl (by decide) (Nat.le_of_ble_eq_true rfl) (Nat.le_of_ble_eq_true rfl) H.m0 H.o0 (ev_change L xs H E h5 (by omega) (by omega) rfl) (fun s1 q1 => ?_)
          obtain ⟨ad1, z1, ar1, H1, E1, g1, m1⟩ := q1
          refine pm_Fv.go 1 (f' := (9, 64, [(4, _), (3, _), (0, _), (1, _), (2, _)], [_])) rfl ?_
          exact pm_Fv.rv rfl rfl ⟨rfl, ⟨ad1, z1, ar1, H1, E1, g1, m1⟩⟩
        · exact absurd h4 (by omega)
      · exact absurd h3 (by omega)
    · exact absurd h2 (by omega)
theorem ev_dstate0c (H : Hp σ ad z ar lr) (h : hw A z ar) (h7 : z 7 = 0) (hz1 : z 1 < 99999) (h5 : z 5 = 0 ∨ z 5 = 1) (N : od_N (hq_g ar 190) (z 8)) {b : Int} (b0 : 0 ≤ b) (b1 : b < (hq_g ar 190 0)) (hr : ¬ (oV (hq_g ar 190) ((oI (hq_g ar 190)) b) 14 = 0 ∧ oV (hq_g ar 190) ((oI (hq_g ar 190)) b) 15 = 0)) {y0 y1 : Int} (m0 : ∀ s, pm_Ev (tq_P L xs) (pm_enter 163 [.int (zI (oV (hq_g ar 190) ((oI (hq_g ar 190)) b) 10)), .int (zI (oV (hq_g ar 190) ((oI (hq_g ar 190)) b) 14)), .int (zI (z 0))]) s (.inl (some (.int (zI y0))), s)) (q0 : -2147483648 ≤ y0 ∧ y0 ≤ 2147483647) (m1 : ∀ s, pm_Ev (tq_P L xs) (pm_enter 163 [.int (zI (oV (hq_g ar 190) ((oI (hq_g ar 190)) b) 11)), .int (zI (oV (hq_g ar 190) ((oI (hq_g ar 190)) b) 15)), .int (zI (z 0))]) s (.inl (some (.int (zI y1))), s)) (q1 : -2147483648 ≤ y1 ∧ y1 ≤ 2147483647) (c : y0 ≤ 3652058) (d : y1 ≤ 3652058) : pm_Fv (tq_P L xs) (pm_enter 9 [.ref 0, .int (zI ((oI (hq_g ar 190)) b)), .int (zI 3)]) σ (fun o s => o = .inl (some (.int (zI 1))) ∧ ∃ ad' z' ar', Hp s ad' (hw_ee z') ar' lr ∧ od_E A (hq_g ar 190) z ar z' ar' ∧ (∀ i, 0 ≤ i → hq_g ar' 190 i = if i = 401 + ((oI (hq_g ar 190)) b) * 16 + 4 then 1 else if i = 401 + ((oI (hq_g ar 190)) b) * 16 + 11 then y1 else if i = 401 + ((oI (hq_g ar 190)) b) * 16 + 10 then y0 else hq_g ar 190 i) ∧ hq_rm σ ar lr s ar' lr) := by
  show pm_Fv (tq_P L xs) (9, 0, [(0, .ref 0), (1, .int (zI ((oI (hq_g ar 190)) b))), (2, .int (zI 3))], []) σ _
  have hl := h.le
  have E := od_E.ini h h7 hz1
  have i0 := N.J.1 b b0 b1
  have i1 := N.lt b b0 b1
  refine pm_Fv.go 2 (f' := (9, 2, [(0, _), (1, _), (2, _)], [_, _])) rfl ?_
  refine pm_Fv.cv rfl rfl rfl rfl (by decide) (Nat.le_of_ble_eq_true rfl) (Nat.le_of_ble_eq_true rfl) H.m0 H.o0 (ev_pos L xs H hl N b0 b1) ?_
  refine pm_Fv.go 4 (f' := (9, 9, [(0, _), (1, _), (2, _)], [_, _, _])) rfl ?_
  refine pm_Fv.call rfl rfl rfl rfl rfl (ev_in1 L xs (by omega) (by omega)) ?_
  refine pm_Fv.call rfl rfl rfl rfl rfl (ev_ckN1 L xs) ?_
  refine pm_Fv.go 2 (f' := (9, 17, [(0, _), (1, _), (2, _)], [_, _])) rfl ?_
  refine pm_Fv.jne rfl (by omega) rfl (fun h1 => ?_) (fun h1 => ?_)
  · exact absurd h1 (by omega)
  · refine pm_Fv.go 2 (f' := (9, 22, [(0, _), (1, _), (2, _)], [_, _])) rfl ?_
    refine pm_Fv.cv rfl rfl rfl rfl (by decide) (Nat.le_of_ble_eq_true rfl) (Nat.le_of_ble_eq_true rfl) H.m0 H.o0 ((by have q := ev_hasRep L xs H hl N b0 b1; rw [if_neg hr] at q; exact q)) ?_
    refine pm_Fv.zeq rfl (by omega) rfl (fun h2 => ?_) (fun h2 => ?_)
    · exact absurd h2 (by omega)
    · refine pm_Fv.go 4 (f' := (9, 35, [(3, _), (0, _), (1, _), (2, _)], [_])) rfl ?_
      refine pm_Fv.zeq rfl (by omega) rfl (fun h3 => ?_) (fun h3 => ?_)
      · exact absurd h3 (by omega)
      · refine pm_Fv.go 2 (f' := (9, 40, [(3, _), (0, _), (1, _), (2, _)], [_, _])) rfl ?_
        refine pm_Fv.cvF rfl rfl rfl rfl (by decide) (Nat.le_of_ble_eq_true rfl) (Nat.le_of_ble_eq_true rfl) H.m0 H.o0 (ev_mvE L xs H E N b0 b1 m0 q0 m1 q1 c d) (fun s1 q1 => ?_)
        obtain ⟨ad1, z1, ar1, H1, E1, g1, m3⟩ := q1
        refine pm_Fv.go 1 (f' := (9, 44, [(3, _), (0, _), (1, _), (2, _)], [_])) rfl ?_
        refine pm_Fv.zeq rfl (by omega) rfl (fun h4 => ?_) (fun h4 => ?_)
        · exact absurd h4 (by omega)
        · refine pm_Fv.go 7 (f' := (9, 59, [(4, _), (3, _), (0, _), (1, _), (2, _)], [_, _, _, _])) rfl ?_
          refine pm_Fv.cvF rfl rfl rfl rfl (by decide) (Nat.le_of_ble_eq_true rfl) (Nat.le_of_ble_eq_true rfl) H1.m0 H1.o0 (ev_change L xs H1 E1 h5 (by omega) (by omega) (by rw [g1 _ (by omega), if_neg (by omega), if_neg (by omega)])) (fun s2 q2 => ?_)
          obtain ⟨ad2, z2, ar2, H2, E2, g2, m4⟩ := q2
          refine pm_Fv.go 1 (f' := (9, 64, [(4, _), (3, _), (0, _), (1, _), (2, _)], [_])) rfl ?_
          refine pm_Fv.rv rfl rfl ⟨rfl, ⟨ad2, z2, ar2, H2, E2, fun i i0 => ?_, hq_rm_tr m3 m4⟩⟩
          rw [g2 i i0, g1 i i0]
theorem ev_dremove0 (H : Hp σ ad z ar lr) (h : hw A z ar) (h7 : z 7 = 0) (hz1 : z 1 < 99999) (h5 : z 5 = 0 ∨ z 5 = 1) (N : od_N (hq_g ar 190) (z 8)) {b : Int} (b0 : 0 ≤ b) (b1 : b < (hq_g ar 190 0)) : pm_Fv (tq_P L xs) (pm_enter 4 [.ref 0, .int (zI ((oI (hq_g ar 190)) b))]) σ (fun o s => o = .inl (some (.int (zI (fo_end (oD (hq_g ar 190)) (hq_g ar 190 0) b - b)))) ∧ ∃ ad' z' ar', Hp s ad' (hw_ee z') ar' lr ∧ od_E A (hq_g ar 190) z ar z' ar' ∧ (∀ i, 0 ≤ i → hq_g ar' 190 i = if i = 0 then hq_g ar 190 0 - (fo_end (oD (hq_g ar 190)) (hq_g ar 190 0) b - b) else if 1 + b ≤ i ∧ i < 1 + hq_g ar 190 0 - (fo_end (oD (hq_g ar 190)) (hq_g ar 190 0) b - b) then hq_g ar 190 (i + (fo_end (oD (hq_g ar 190)) (hq_g ar 190 0) b - b)) else hq_g ar 190 i) ∧ hq_rm σ ar lr s ar' lr) := by
  show pm_Fv (tq_P L xs) (4, 0, [(0, .ref 0), (1, .int (zI ((oI (hq_g ar 190)) b)))], []) σ _
  have hl := h.le
  have E := od_E.ini h h7 hz1
  have nm := N.nm
  have m4 := N.m4
  have B := fo_end_B (D := (oD (hq_g ar 190))) b1
  have bb := B.1
  have be := B.2.1
  refine pm_Fv.go 2 (f' := (4, 2, [(0, _), (1, _)], [_, _])) rfl ?_
  refine pm_Fv.cv rfl rfl rfl rfl (by decide) (Nat.le_of_ble_eq_true rfl) (Nat.le_of_ble_eq_true rfl) H.m0 H.o0 (ev_pos L xs H hl N b0 b1) ?_
  refine pm_Fv.go 2 (f' := (4, 7, [(2, _), (0, _), (1, _)], [_])) rfl ?_
  refine pm_Fv.gf rfl rfl H.m0 H.o0 rfl ?_
  refine pm_Fv.go 1 (f' := (4, 11, [(2, _), (0, _), (1, _)], [_, _])) rfl ?_
  refine pm_Fv.cv rfl rfl rfl rfl (by decide) (Nat.le_of_ble_eq_true rfl) (Nat.le_of_ble_eq_true rfl) H.m188 H.o188 (ev_branchEnd L xs H hl N (by omega) (by omega)) ?_
  refine pm_Fv.go 2 (f' := (4, 16, [(3, _), (2, _), (0, _), (1, _)], [_])) rfl ?_
  refine pm_Fv.gf rfl rfl H.m0 H.o0 rfl ?_
  refine pm_Fv.go 2 (f' := (4, 21, [(3, _), (2, _), (0, _), (1, _)], [_, _, _])) rfl ?_
  refine pm_Fv.cvF rfl rfl rfl rfl (by decide) (Nat.le_of_ble_eq_true rfl) (Nat.le_of_ble_eq_true rfl) H.m188 H.o188 (ev_cut L xs H E (fun _ _ => rfl) b0 bb be (by omega)) (fun s1 q1 => ?_)
  obtain ⟨ad1, z1, ar1, H1, E1, g1, m1⟩ := q1
  refine pm_Fv.go 1 (f' := (4, 25, [(3, _), (2, _), (0, _), (1, _)], [_])) rfl ?_
  refine pm_Fv.gf rfl rfl H1.m0 H1.o0 rfl ?_
  refine pm_Fv.cvF rfl rfl rfl rfl (by decide) (Nat.le_of_ble_eq_true rfl) (Nat.le_of_ble_eq_true rfl) H1.m1 H1.o1 (ev_endE L xs H1 E1 h5) (fun s2 q2 => ?_)
  obtain ⟨H2, r2⟩ := q2
  refine pm_Fv.go 2 (f' := (4, 33, [(3, _), (2, _), (0, _), (1, _)], [_, _])) rfl ?_
  refine pm_Fv.isub rfl ?_
  exact pm_Fv.rv rfl rfl ⟨rfl, ⟨ad1, z1, ar1, H2, E1, g1, hq_rm_tr m1 (hq_rm_refl r2)⟩⟩
theorem ev_dpromote0 (H : Hp σ ad z ar lr) (h : hw A z ar) (h7 : z 7 = 0) (hz1 : z 1 < 99999) (h5 : z 5 = 0 ∨ z 5 = 1) (N : od_N (hq_g ar 190) (z 8)) {b : Int} (b0 : 0 ≤ b) (b1 : b < (hq_g ar 190 0)) (l9 : (ar 189).1 = 400) (c : fo_par (oD (hq_g ar 190)) b ≠ -1) : pm_Fv (tq_P L xs) (pm_enter 6 [.ref 0, .int (zI ((oI (hq_g ar 190)) b))]) σ (fun o s => o = .inl none ∧ ∃ ad' z' ar', Hp s ad' (hw_ee z') ar' lr ∧ od_E A (hq_g ar 190) z ar z' ar' ∧ (∀ q, 0 ≤ q → q < 400 → hq_g ar' 190 (1 + q) = hq_g ar 190 (1 + od_ps b (fo_end (oD (hq_g ar 190)) (hq_g ar 190 0) b) (fo_end (oD (hq_g ar 190)) (hq_g ar 190 0) (fo_par (oD (hq_g ar 190)) b)) q)) ∧ hq_g ar' 190 0 = hq_g ar 190 0 ∧ (∀ q, b ≤ q → q < fo_end (oD (hq_g ar 190)) (hq_g ar 190 0) b → hq_g ar' 190 (401 + (oI (hq_g ar 190)) q * 16 + 2) = oV (hq_g ar 190) ((oI (hq_g ar 190)) q) 2 + (-1)) ∧ (∀ i, 401 ≤ i → (∀ q, b ≤ q → q < fo_end (oD (hq_g ar 190)) (hq_g ar 190 0) b → i ≠ 401 + (oI (hq_g ar 190)) q * 16 + 2) → hq_g ar' 190 i = hq_g ar 190 i) ∧ hq_rm σ ar lr s ar' lr) := by
  show pm_Fv (tq_P L xs) (6, 0, [(0, .ref 0), (1, .int (zI ((oI (hq_g ar 190)) b)))], []) σ _
  have hl := h.le
  have E := od_E.ini h h7 hz1
  have nm := N.nm
  have m4 := N.m4
  have B := fo_end_B (D := (oD (hq_g ar 190))) b1
  have bb := B.1
  have be := B.2.1
  have P := fo_par_P N.W b0 b1
  have p0 := P.1
  have p1 := P.2.1
  have Bp := fo_end_B (D := (oD (hq_g ar 190))) (n := (hq_g ar 190 0)) (p := fo_par (oD (hq_g ar 190)) b) (by omega)
  have bp2 := Bp.2.1
  have pe := fo_B_sub P B Bp
  refine pm_Fv.go 2 (f' := (6, 2, [(0, _), (1, _)], [_, _])) rfl ?_
  refine pm_Fv.cv rfl rfl rfl rfl (by decide) (Nat.le_of_ble_eq_true rfl) (Nat.le_of_ble_eq_true rfl) H.m0 H.o0 (ev_pos L xs H hl N b0 b1) ?_
  refine pm_Fv.go 2 (f' := (6, 7, [(2, _), (0, _), (1, _)], [_])) rfl ?_
  refine pm_Fv.gf rfl rfl H.m0 H.o0 rfl ?_
  refine pm_Fv.go 1 (f' := (6, 11, [(2, _), (0, _), (1, _)], [_, _])) rfl ?_
  refine pm_Fv.cv rfl rfl rfl rfl (by decide) (Nat.le_of_ble_eq_true rfl) (Nat.le_of_ble_eq_true rfl) H.m188 H.o188 (ev_parentPosition L xs H hl N b0 b1) ?_
  refine pm_Fv.go 3 (f' := (6, 17, [(3, _), (2, _), (0, _), (1, _)], [_, _])) rfl ?_
  refine pm_Fv.jeq rfl (by omega) rfl (fun h1 => ?_) (fun h1 => ?_)
  · exact absurd h1 (by omega)
  · refine pm_Fv.go 2 (f' := (6, 25, [(3, _), (2, _), (0, _), (1, _)], [_])) rfl ?_
    refine pm_Fv.call rfl rfl rfl rfl rfl (ev_ckS1 L xs) ?_
    refine pm_Fv.go 1 (f' := (6, 29, [(3, _), (2, _), (0, _), (1, _)], [_])) rfl ?_
    refine pm_Fv.gf rfl rfl H.m0 H.o0 rfl ?_
    refine pm_Fv.go 2 (f' := (6, 34, [(3, _), (2, _), (0, _), (1, _)], [_, _, _])) rfl ?_
    refine pm_Fv.gf rfl rfl H.m0 H.o0 rfl ?_
    refine pm_Fv.go 1 (f' := (6, 38, [(3, _), (2, _), (0, _), (1, _)], [_, _, _, _])) rfl ?_
    refine pm_Fv.cv rfl rfl rfl rfl (by decide) (Nat.le_of_ble_eq_true rfl) (Nat.le_of_ble_eq_true rfl) H.m188 H.o188 (ev_branchEnd L xs H hl N (b := fo_par (oD (hq_g ar 190)) b) (by omega) (by omega)) ?_
    refine pm_Fv.go 1 (f' := (6, 42, [(3, _), (2, _), (0, _), (1, _)], [_, _, _, _])) rfl ?_
    refine pm_Fv.cvF rfl rfl rfl rfl (by decide) (Nat.le_of_ble_eq_true rfl) (Nat.le_of_ble_eq_true rfl) H.m188 H.o188 (ev_carry L xs H E N l9 b0 b1 rfl (t := fo_end (oD (hq_g ar 190)) (hq_g ar 190 0) (fo_par (oD (hq_g ar 190)) b)) (by omega) (by omega) (Or.inr (Or.inr pe.2)) (by omega)) (fun s1 q1 => ?_)
    obtain ⟨ad1, z1, ar1, H1, E1, g1, g2, g3, g4, m1⟩ := q1
    refine pm_Fv.go 1 (f' := (6, 46, [(3, _), (2, _), (0, _), (1, _)], [_])) rfl ?_
    refine pm_Fv.gf rfl rfl H1.m0 H1.o0 rfl ?_
    refine pm_Fv.cvF rfl rfl rfl rfl (by decide) (Nat.le_of_ble_eq_true rfl) (Nat.le_of_ble_eq_true rfl) H1.m1 H1.o1 (ev_endE L xs H1 E1 h5) (fun s2 q2 => ?_)
    obtain ⟨H2, r2⟩ := q2
    exact pm_Fv.ret rfl rfl rfl rfl ⟨rfl, ⟨ad1, z1, ar1, H2, E1, g1, g2, g3, g4, hq_rm_tr m1 (hq_rm_refl r2)⟩⟩
theorem ev_ddemote0 (H : Hp σ ad z ar lr) (h : hw A z ar) (h7 : z 7 = 0) (hz1 : z 1 < 99999) (h5 : z 5 = 0 ∨ z 5 = 1) (N : od_N (hq_g ar 190) (z 8)) {b : Int} (b0 : 0 ≤ b) (b1 : b < (hq_g ar 190 0)) (l9 : (ar 189).1 = 400) {v : Int} (hv : fo_hi (oD (hq_g ar 190)) b (fo_end (oD (hq_g ar 190)) (hq_g ar 190 0) b) v) (c : fo_pl (oD (hq_g ar 190)) b ≠ 0) (d : v + 1 ≤ 12) : pm_Fv (tq_P L xs) (pm_enter 7 [.ref 0, .int (zI ((oI (hq_g ar 190)) b))]) σ (fun o s => o = .inl none ∧ ∃ ad' z' ar', Hp s ad' (hw_ee z') ar' lr ∧ od_E A (hq_g ar 190) z ar z' ar' ∧ (∀ q, 0 ≤ q → q < 400 → hq_g ar' 190 (1 + q) = hq_g ar 190 (1 + od_ps b (fo_end (oD (hq_g ar 190)) (hq_g ar 190 0) b) (b) q)) ∧ hq_g ar' 190 0 = hq_g ar 190 0 ∧ (∀ q, b ≤ q → q < fo_end (oD (hq_g ar 190)) (hq_g ar 190 0) b → hq_g ar' 190 (401 + (oI (hq_g ar 190)) q * 16 + 2) = oV (hq_g ar 190) ((oI (hq_g ar 190)) q) 2 + (1)) ∧ (∀ i, 401 ≤ i → (∀ q, b ≤ q → q < fo_end (oD (hq_g ar 190)) (hq_g ar 190 0) b → i ≠ 401 + (oI (hq_g ar 190)) q * 16 + 2) → hq_g ar' 190 i = hq_g ar 190 i) ∧ hq_rm σ ar lr s ar' lr) := by
  show pm_Fv (tq_P L xs) (7, 0, [(0, .ref 0), (1, .int (zI ((oI (hq_g ar 190)) b)))], []) σ _
  have hl := h.le
  have E := od_E.ini h h7 hz1
  have nm := N.nm
  have m4 := N.m4
  have B := fo_end_B (D := (oD (hq_g ar 190))) b1
  have bb := B.1
  have be := B.2.1
  have P := fo_par_P N.W b0 b1
  have p0 := P.1
  have p1 := P.2.1
  have c0 := fo_c_nn (oD (hq_g ar 190)) ((oD (hq_g ar 190)) b) (fo_par (oD (hq_g ar 190)) b + 1) b
  have c1 := fo_c_le (D := (oD (hq_g ar 190))) (v := (oD (hq_g ar 190)) b) (a := fo_par (oD (hq_g ar 190)) b + 1) (b := b) (by omega)
  have pe : fo_pl (oD (hq_g ar 190)) b = fo_c (oD (hq_g ar 190)) ((oD (hq_g ar 190)) b) (fo_par (oD (hq_g ar 190)) b + 1) b := rfl
  have hb := hv.1 b (by omega) (by omega)
  have vv : v ≤ 12 := by
    obtain ⟨y, y0, y1, y2⟩ := hv.2
    have := N.dp y (by omega) (by omega)
    omega
  have db := N.dr (p := b) (by omega) (Or.inl b1)
  refine pm_Fv.go 2 (f' := (7, 2, [(0, _), (1, _)], [_, _])) rfl ?_
  refine pm_Fv.cv rfl rfl rfl rfl (by decide) (Nat.le_of_ble_eq_true rfl) (Nat.le_of_ble_eq_true rfl) H.m0 H.o0 (ev_pos L xs H hl N b0 b1) ?_
  refine pm_Fv.go 2 (f' := (7, 7, [(2, _), (0, _), (1, _)], [_])) rfl ?_
  refine pm_Fv.gf rfl rfl H.m0 H.o0 rfl ?_
  refine pm_Fv.go 1 (f' := (7, 11, [(2, _), (0, _), (1, _)], [_, _])) rfl ?_
  refine pm_Fv.cv rfl rfl rfl rfl (by decide) (Nat.le_of_ble_eq_true rfl) (Nat.le_of_ble_eq_true rfl) H.m188 H.o188 (ev_placeAt L xs H hl N b0 b1) ?_
  refine pm_Fv.zle rfl (by omega) rfl (fun h1 => ?_) (fun h1 => ?_)
  · exact absurd h1 (by omega)
  · refine pm_Fv.go 2 (f' := (7, 22, [(2, _), (0, _), (1, _)], [_])) rfl ?_
    refine pm_Fv.call rfl rfl rfl rfl rfl (ev_ckS1 L xs) ?_
    refine pm_Fv.go 1 (f' := (7, 26, [(2, _), (0, _), (1, _)], [_])) rfl ?_
    refine pm_Fv.gf rfl rfl H.m0 H.o0 rfl ?_
    refine pm_Fv.go 1 (f' := (7, 30, [(2, _), (0, _), (1, _)], [_, _])) rfl ?_
    refine pm_Fv.cv rfl rfl rfl rfl (by decide) (Nat.le_of_ble_eq_true rfl) (Nat.le_of_ble_eq_true rfl) H.m188 H.o188 (ev_deepestFrom L xs H hl N b0 b1 hv) ?_
    refine pm_Fv.bp rfl rfl ?_
    refine pm_Fv.jge rfl (by omega) rfl (fun h2 => ?_) (fun h2 => ?_)
    · exact absurd h2 (by omega)
    · refine pm_Fv.go 2 (f' := (7, 43, [(2, _), (0, _), (1, _)], [_])) rfl ?_
      refine pm_Fv.call rfl rfl rfl rfl rfl (ev_ckL1 L xs) ?_
      refine pm_Fv.go 1 (f' := (7, 47, [(2, _), (0, _), (1, _)], [_])) rfl ?_
      refine pm_Fv.gf rfl rfl H.m0 H.o0 rfl ?_
      refine pm_Fv.go 3 (f' := (7, 53, [(2, _), (0, _), (1, _)], [_, _, _, _])) rfl ?_
      refine pm_Fv.cvF rfl rfl rfl rfl (by decide) (Nat.le_of_ble_eq_true rfl) (Nat.le_of_ble_eq_true rfl) H.m188 H.o188 (ev_carry L xs H E N l9 b0 b1 rfl (t := b) (by omega) (by omega) (Or.inr (Or.inl rfl)) (by omega)) (fun s1 q1 => ?_)
      obtain ⟨ad1, z1, ar1, H1, E1, g1, g2, g3, g4, m1⟩ := q1
      refine pm_Fv.go 1 (f' := (7, 57, [(2, _), (0, _), (1, _)], [_])) rfl ?_
      refine pm_Fv.gf rfl rfl H1.m0 H1.o0 rfl ?_
      refine pm_Fv.cvF rfl rfl rfl rfl (by decide) (Nat.le_of_ble_eq_true rfl) (Nat.le_of_ble_eq_true rfl) H1.m1 H1.o1 (ev_endE L xs H1 E1 h5) (fun s2 q2 => ?_)
      obtain ⟨H2, r2⟩ := q2
      exact pm_Fv.ret rfl rfl rfl rfl ⟨rfl, ⟨ad1, z1, ar1, H2, E1, g1, g2, g3, g4, hq_rm_tr m1 (hq_rm_refl r2)⟩⟩
theorem ev_dmove0 (H : Hp σ ad z ar lr) (h : hw A z ar) (h7 : z 7 = 0) (hz1 : z 1 < 99999) (h5 : z 5 = 0 ∨ z 5 = 1) (N : od_N (hq_g ar 190) (z 8)) {b : Int} (b0 : 0 ≤ b) (b1 : b < (hq_g ar 190 0)) {r : Int} (u0 : -1 ≤ r) (u1 : r < (hq_g ar 190 0) ∨ r = -1) {k : Int} (hk : -2147483648 ≤ k ∧ k ≤ 2147483647) (l9 : (ar 189).1 = 400) (c : ¬ (b ≤ r ∧ r < fo_end (oD (hq_g ar 190)) (hq_g ar 190 0) b)) {v : Int} (hv : fo_hi (oD (hq_g ar 190)) b (fo_end (oD (hq_g ar 190)) (hq_g ar 190 0) b) v) (d : 0 ≤ k ∧ k ≤ (fo_cc (oD (hq_g ar 190)) (hq_g ar 190 0) r - (if fo_par (oD (hq_g ar 190)) b = r then 1 else 0))) (e : (oD (hq_g ar 190)) r + (v - (oD (hq_g ar 190)) b + 1) ≤ 12) {t : Int} (t0 : r < t) (t1 : t ≤ fo_end (oD (hq_g ar 190)) (hq_g ar 190 0) r) (t2 : t < fo_end (oD (hq_g ar 190)) (hq_g ar 190 0) r → (oD (hq_g ar 190)) t = (oD (hq_g ar 190)) r + 1 ∧ t ≠ b ∧ od_cw (oD (hq_g ar 190)) r b (r + 1) t = k) (t3 : od_cw (oD (hq_g ar 190)) r b (r + 1) t ≤ k) (ht : t < b ∨ t = b ∨ fo_end (oD (hq_g ar 190)) (hq_g ar 190 0) b ≤ t) : pm_Fv (tq_P L xs) (pm_enter 5 [.ref 0, .int (zI ((oI (hq_g ar 190)) b)), .int (zI (fo_id (oI (hq_g ar 190)) r)), .int (zI k)]) σ (fun o s => o = .inl none ∧ ∃ ad' z' ar', Hp s ad' (hw_ee z') ar' lr ∧ od_E A (hq_g ar 190) z ar z' ar' ∧ (∀ q, 0 ≤ q → q < 400 → hq_g ar' 190 (1 + q) = hq_g ar 190 (1 + od_ps b (fo_end (oD (hq_g ar 190)) (hq_g ar 190 0) b) (t) q)) ∧ hq_g ar' 190 0 = hq_g ar 190 0 ∧ (∀ q, b ≤ q → q < fo_end (oD (hq_g ar 190)) (hq_g ar 190 0) b → hq_g ar' 190 (401 + (oI (hq_g ar 190)) q * 16 + 2) = oV (hq_g ar 190) ((oI (hq_g ar 190)) q) 2 + ((oD (hq_g ar 190)) r + 1 - (oD (hq_g ar 190)) b)) ∧ (∀ i, 401 ≤ i → (∀ q, b ≤ q → q < fo_end (oD (hq_g ar 190)) (hq_g ar 190 0) b → i ≠ 401 + (oI (hq_g ar 190)) q * 16 + 2) → hq_g ar' 190 i = hq_g ar 190 i) ∧ hq_rm σ ar lr s ar' lr) := by
  show pm_Fv (tq_P L xs) (5, 0, [(0, .ref 0), (1, .int (zI ((oI (hq_g ar 190)) b))), (2, .int (zI (fo_id (oI (hq_g ar 190)) r))), (3, .int (zI k))], []) σ _
  have hl := h.le
  have E := od_E.ini h h7 hz1
  have nm := N.nm
  have m4 := N.m4
  have B := fo_end_B (D := (oD (hq_g ar 190))) b1
  have bb := B.1
  have be := B.2.1
  have P := fo_par_P N.W b0 b1
  have p0 := P.1
  have p1 := P.2.1
  have hb := hv.1 b (by omega) (by omega)
  have vv : v ≤ 12 := by
    obtain ⟨y, y0, y1, y2⟩ := hv.2
    have := N.dp y (by omega) (by omega)
    omega
  have db := N.dr (p := b) (by omega) (Or.inl b1)
  have cc := fo_cc_r N.W u0 u1
  have dr := N.dr u0 u1
  have Br := fo_end_B' N.W u0 u1
  by_cases x1 : r < b
  · skip
    by_cases x2 : fo_par (oD (hq_g ar 190)) b = r
    · skip
      rw [if_pos x2] at d
      refine pm_Fv.go 2 (f' := (5, 2, [(0, _), (1, _), (2, _), (3, _)], [_, _])) rfl ?_
      refine pm_Fv.cv rfl rfl rfl rfl (by decide) (Nat.le_of_ble_eq_true rfl) (Nat.le_of_ble_eq_true rfl) H.m0 H.o0 (ev_pos L xs H hl N b0 b1) ?_
      refine pm_Fv.go 3 (f' := (5, 9, [(4, _), (0, _), (1, _), (2, _), (3, _)], [_, _])) rfl ?_
      refine pm_Fv.cv rfl rfl rfl rfl (by decide) (Nat.le_of_ble_eq_true rfl) (Nat.le_of_ble_eq_true rfl) H.m0 H.o0 (ev_por L xs H hl N u0 u1) ?_
      refine pm_Fv.go 2 (f' := (5, 15, [(5, _), (4, _), (0, _), (1, _), (2, _), (3, _)], [_])) rfl ?_
      refine pm_Fv.gf rfl rfl H.m0 H.o0 rfl ?_
      refine pm_Fv.go 1 (f' := (5, 20, [(5, _), (4, _), (0, _), (1, _), (2, _), (3, _)], [_, _])) rfl ?_
      refine pm_Fv.cv rfl rfl rfl rfl (by decide) (Nat.le_of_ble_eq_true rfl) (Nat.le_of_ble_eq_true rfl) H.m188 H.o188 (ev_branchEnd L xs H hl N (by omega) (by omega)) ?_
      refine pm_Fv.go 3 (f' := (5, 29, [(6, _), (5, _), (4, _), (0, _), (1, _), (2, _), (3, _)], [_, _])) rfl ?_
      refine pm_Fv.jlt rfl (by omega) rfl (fun h1 => ?_) (fun h1 => ?_)
      · refine pm_Fv.go 2 (f' := (5, 44, [(6, _), (5, _), (4, _), (0, _), (1, _), (2, _), (3, _)], [_])) rfl ?_
        refine pm_Fv.call rfl rfl rfl rfl rfl (ev_ckS1 L xs) ?_
        refine pm_Fv.go 1 (f' := (5, 48, [(6, _), (5, _), (4, _), (0, _), (1, _), (2, _), (3, _)], [_])) rfl ?_
        refine pm_Fv.gf rfl rfl H.m0 H.o0 rfl ?_
        refine pm_Fv.go 1 (f' := (5, 53, [(6, _), (5, _), (4, _), (0, _), (1, _), (2, _), (3, _)], [_, _])) rfl ?_
        refine pm_Fv.cv rfl rfl rfl rfl (by decide) (Nat.le_of_ble_eq_true rfl) (Nat.le_of_ble_eq_true rfl) H.m188 H.o188 (ev_childCount L xs H hl N u0 u1) ?_
        refine pm_Fv.go 1 (f' := (5, 57, [(6, _), (5, _), (4, _), (0, _), (1, _), (2, _), (3, _)], [_, _])) rfl ?_
        refine pm_Fv.gf rfl rfl H.m0 H.o0 rfl ?_
        refine pm_Fv.go 1 (f' := (5, 62, [(6, _), (5, _), (4, _), (0, _), (1, _), (2, _), (3, _)], [_, _, _])) rfl ?_
        refine pm_Fv.cv rfl rfl rfl rfl (by decide) (Nat.le_of_ble_eq_true rfl) (Nat.le_of_ble_eq_true rfl) H.m188 H.o188 (ev_parentPosition L xs H hl N b0 b1) ?_
        refine pm_Fv.go 1 (f' := (5, 67, [(6, _), (5, _), (4, _), (0, _), (1, _), (2, _), (3, _)], [_, _, _])) rfl ?_
        refine pm_Fv.jne rfl (by omega) rfl (fun h2 => ?_) (fun h2 => ?_)
        · exact absurd h2 (by omega)
        · refine pm_Fv.go 2 (f' := (5, 75, [(6, _), (5, _), (4, _), (0, _), (1, _), (2, _), (3, _)], [_, _])) rfl ?_
          refine pm_Fv.isub rfl ?_
          refine pm_Fv.go 4 (f' := (5, 82, [(7, _), (6, _), (5, _), (4, _), (0, _), (1, _), (2, _), (3, _)], [_, _, _])) rfl ?_
          refine pm_Fv.call rfl rfl rfl rfl rfl (ev_in1 L xs (by omega) d) ?_
          refine pm_Fv.call rfl rfl rfl rfl rfl (ev_ckN1 L xs) ?_
          refine pm_Fv.go 1 (f' := (5, 89, [(7, _), (6, _), (5, _), (4, _), (0, _), (1, _), (2, _), (3, _)], [_])) rfl ?_
          refine pm_Fv.gf rfl rfl H.m0 H.o0 rfl ?_
          refine pm_Fv.go 1 (f' := (5, 94, [(7, _), (6, _), (5, _), (4, _), (0, _), (1, _), (2, _), (3, _)], [_, _])) rfl ?_
          refine pm_Fv.cv rfl rfl rfl rfl (by decide) (Nat.le_of_ble_eq_true rfl) (Nat.le_of_ble_eq_true rfl) H.m188 H.o188 (ev_depthAt L xs H hl N u0 u1) ?_
          refine pm_Fv.go 1 (f' := (5, 98, [(7, _), (6, _), (5, _), (4, _), (0, _), (1, _), (2, _), (3, _)], [_, _])) rfl ?_
          refine pm_Fv.iadd rfl ?_
          refine pm_Fv.go 1 (f' := (5, 100, [(7, _), (6, _), (5, _), (4, _), (0, _), (1, _), (2, _), (3, _)], [_, _])) rfl ?_
          refine pm_Fv.gf rfl rfl H.m0 H.o0 rfl ?_
          refine pm_Fv.go 1 (f' := (5, 105, [(7, _), (6, _), (5, _), (4, _), (0, _), (1, _), (2, _), (3, _)], [_, _, _])) rfl ?_
          refine pm_Fv.cv rfl rfl rfl rfl (by decide) (Nat.le_of_ble_eq_true rfl) (Nat.le_of_ble_eq_true rfl) H.m188 H.o188 (ev_depthAt L xs H hl N (by omega) (Or.inl b1)) ?_
          refine pm_Fv.isub rfl ?_
          refine pm_Fv.go 2 (f' := (5, 112, [(8, _), (7, _), (6, _), (5, _), (4, _), (0, _), (1, _), (2, _), (3, _)], [_])) rfl ?_
          refine pm_Fv.gf rfl rfl H.m0 H.o0 rfl ?_
          refine pm_Fv.go 1 (f' := (5, 117, [(8, _), (7, _), (6, _), (5, _), (4, _), (0, _), (1, _), (2, _), (3, _)], [_, _])) rfl ?_
          refine pm_Fv.cv rfl rfl rfl rfl (by decide) (Nat.le_of_ble_eq_true rfl) (Nat.le_of_ble_eq_true rfl) H.m188 H.o188 (ev_deepestFrom L xs H hl N b0 b1 hv) ?_
          refine pm_Fv.go 1 (f' := (5, 122, [(8, _), (7, _), (6, _), (5, _), (4, _), (0, _), (1, _), (2, _), (3, _)], [_, _])) rfl ?_
          refine pm_Fv.iadd rfl ?_
          refine pm_Fv.bp rfl rfl ?_
          refine pm_Fv.jgt rfl (by omega) rfl (fun h3 => ?_) (fun h3 => ?_)
          · exact absurd h3 (by omega)
          · refine pm_Fv.go 2 (f' := (5, 133, [(8, _), (7, _), (6, _), (5, _), (4, _), (0, _), (1, _), (2, _), (3, _)], [_])) rfl ?_
            refine pm_Fv.call rfl rfl rfl rfl rfl (ev_ckL1 L xs) ?_
            refine pm_Fv.go 1 (f' := (5, 137, [(8, _), (7, _), (6, _), (5, _), (4, _), (0, _), (1, _), (2, _), (3, _)], [_])) rfl ?_
            refine pm_Fv.gf rfl rfl H.m0 H.o0 rfl ?_
            refine pm_Fv.go 2 (f' := (5, 143, [(8, _), (7, _), (6, _), (5, _), (4, _), (0, _), (1, _), (2, _), (3, _)], [_, _, _])) rfl ?_
            refine pm_Fv.gf rfl rfl H.m0 H.o0 rfl ?_
            refine pm_Fv.go 3 (f' := (5, 151, [(8, _), (7, _), (6, _), (5, _), (4, _), (0, _), (1, _), (2, _), (3, _)], [_, _, _, _, _, _])) rfl ?_
            refine pm_Fv.cv rfl rfl rfl rfl (by decide) (Nat.le_of_ble_eq_true rfl) (Nat.le_of_ble_eq_true rfl) H.m188 H.o188 (ev_cpw L xs H hl N u0 u1 hk (by omega) t0 t1 t2 t3) ?_
            refine pm_Fv.go 1 (f' := (5, 156, [(8, _), (7, _), (6, _), (5, _), (4, _), (0, _), (1, _), (2, _), (3, _)], [_, _, _, _])) rfl ?_
            refine pm_Fv.cvF rfl rfl rfl rfl (by decide) (Nat.le_of_ble_eq_true rfl) (Nat.le_of_ble_eq_true rfl) H.m188 H.o188 (ev_carry L xs H E N l9 b0 b1 rfl (t := t) (by omega) (by omega) (ht) (by omega)) (fun s1 q1 => ?_)
            obtain ⟨ad1, z1, ar1, H1, E1, g1, g2, g3, g4, m1⟩ := q1
            refine pm_Fv.go 1 (f' := (5, 160, [(8, _), (7, _), (6, _), (5, _), (4, _), (0, _), (1, _), (2, _), (3, _)], [_])) rfl ?_
            refine pm_Fv.gf rfl rfl H1.m0 H1.o0 rfl ?_
            refine pm_Fv.cvF rfl rfl rfl rfl (by decide) (Nat.le_of_ble_eq_true rfl) (Nat.le_of_ble_eq_true rfl) H1.m1 H1.o1 (ev_endE L xs H1 E1 h5) (fun s2 q2 => ?_)
            obtain ⟨H2, r2⟩ := q2
            exact pm_Fv.ret rfl rfl rfl rfl ⟨rfl, ⟨ad1, z1, ar1, H2, E1, g1, g2, g3, g4, hq_rm_tr m1 (hq_rm_refl r2)⟩⟩
      · exact absurd h1 (by omega)
    · skip
      rw [if_neg x2] at d
      refine pm_Fv.go 2 (f' := (5, 2, [(0, _), (1, _), (2, _), (3, _)], [_, _])) rfl ?_
      refine pm_Fv.cv rfl rfl rfl rfl (by decide) (Nat.le_of_ble_eq_true rfl) (Nat.le_of_ble_eq_true rfl) H.m0 H.o0 (ev_pos L xs H hl N b0 b1) ?_
      refine pm_Fv.go 3 (f' := (5, 9, [(4, _), (0, _), (1, _), (2, _), (3, _)], [_, _])) rfl ?_
      refine pm_Fv.cv rfl rfl rfl rfl (by decide) (Nat.le_of_ble_eq_true rfl) (Nat.le_of_ble_eq_true rfl) H.m0 H.o0 (ev_por L xs H hl N u0 u1) ?_
      refine pm_Fv.go 2 (f' := (5, 15, [(5, _), (4, _), (0, _), (1, _), (2, _), (3, _)], [_])) rfl ?_
      refine pm_Fv.gf rfl rfl H.m0 H.o0 rfl ?_
      refine pm_Fv.go 1 (f' := (5, 20, [(5, _), (4, _), (0, _), (1, _), (2, _), (3, _)], [_, _])) rfl ?_
      refine pm_Fv.cv rfl rfl rfl rfl (by decide) (Nat.le_of_ble_eq_true rfl) (Nat.le_of_ble_eq_true rfl) H.m188 H.o188 (ev_branchEnd L xs H hl N (by omega) (by omega)) ?_
      refine pm_Fv.go 3 (f' := (5, 29, [(6, _), (5, _), (4, _), (0, _), (1, _), (2, _), (3, _)], [_, _])) rfl ?_
      refine pm_Fv.jlt rfl (by omega) rfl (fun h1 => ?_) (fun h1 => ?_)
      · refine pm_Fv.go 2 (f' := (5, 44, [(6, _), (5, _), (4, _), (0, _), (1, _), (2, _), (3, _)], [_])) rfl ?_
        refine pm_Fv.call rfl rfl rfl rfl rfl (ev_ckS1 L xs) ?_
        refine pm_Fv.go 1 (f' := (5, 48, [(6, _), (5, _), (4, _), (0, _), (1, _), (2, _), (3, _)], [_])) rfl ?_
        refine pm_Fv.gf rfl rfl H.m0 H.o0 rfl ?_
        refine pm_Fv.go 1 (f' := (5, 53, [(6, _), (5, _), (4, _), (0, _), (1, _), (2, _), (3, _)], [_, _])) rfl ?_
        refine pm_Fv.cv rfl rfl rfl rfl (by decide) (Nat.le_of_ble_eq_true rfl) (Nat.le_of_ble_eq_true rfl) H.m188 H.o188 (ev_childCount L xs H hl N u0 u1) ?_
        refine pm_Fv.go 1 (f' := (5, 57, [(6, _), (5, _), (4, _), (0, _), (1, _), (2, _), (3, _)], [_, _])) rfl ?_
        refine pm_Fv.gf rfl rfl H.m0 H.o0 rfl ?_
        refine pm_Fv.go 1 (f' := (5, 62, [(6, _), (5, _), (4, _), (0, _), (1, _), (2, _), (3, _)], [_, _, _])) rfl ?_
        refine pm_Fv.cv rfl rfl rfl rfl (by decide) (Nat.le_of_ble_eq_true rfl) (Nat.le_of_ble_eq_true rfl) H.m188 H.o188 (ev_parentPosition L xs H hl N b0 b1) ?_
        refine pm_Fv.go 1 (f' := (5, 67, [(6, _), (5, _), (4, _), (0, _), (1, _), (2, _), (3, _)], [_, _, _])) rfl ?_
        refine pm_Fv.jne rfl (by omega) rfl (fun h2 => ?_) (fun h2 => ?_)
        · refine pm_Fv.go 1 (f' := (5, 75, [(6, _), (5, _), (4, _), (0, _), (1, _), (2, _), (3, _)], [_, _])) rfl ?_
          refine pm_Fv.isub rfl ?_
          refine pm_Fv.go 4 (f' := (5, 82, [(7, _), (6, _), (5, _), (4, _), (0, _), (1, _), (2, _), (3, _)], [_, _, _])) rfl ?_
          refine pm_Fv.call rfl rfl rfl rfl rfl (ev_in1 L xs (by omega) d) ?_
          refine pm_Fv.call rfl rfl rfl rfl rfl (ev_ckN1 L xs) ?_
          refine pm_Fv.go 1 (f' := (5, 89, [(7, _), (6, _), (5, _), (4, _), (0, _), (1, _), (2, _), (3, _)], [_])) rfl ?_
          refine pm_Fv.gf rfl rfl H.m0 H.o0 rfl ?_
          refine pm_Fv.go 1 (f' := (5, 94, [(7, _), (6, _), (5, _), (4, _), (0, _), (1, _), (2, _), (3, _)], [_, _])) rfl ?_
          refine pm_Fv.cv rfl rfl rfl rfl (by decide) (Nat.le_of_ble_eq_true rfl) (Nat.le_of_ble_eq_true rfl) H.m188 H.o188 (ev_depthAt L xs H hl N u0 u1) ?_
          refine pm_Fv.go 1 (f' := (5, 98, [(7, _), (6, _), (5, _), (4, _), (0, _), (1, _), (2, _), (3, _)], [_, _])) rfl ?_
          refine pm_Fv.iadd rfl ?_
          refine pm_Fv.go 1 (f' := (5, 100, [(7, _), (6, _), (5, _), (4, _), (0, _), (1, _), (2, _), (3, _)], [_, _])) rfl ?_
          refine pm_Fv.gf rfl rfl H.m0 H.o0 rfl ?_
          refine pm_Fv.go 1 (f' := (5, 105, [(7, _), (6, _), (5, _), (4, _), (0, _), (1, _), (2, _), (3, _)], [_, _, _])) rfl ?_
          refine pm_Fv.cv rfl rfl rfl rfl (by decide) (Nat.le_of_ble_eq_true rfl) (Nat.le_of_ble_eq_true rfl) H.m188 H.o188 (ev_depthAt L xs H hl N (by omega) (Or.inl b1)) ?_
          refine pm_Fv.isub rfl ?_
          refine pm_Fv.go 2 (f' := (5, 112, [(8, _), (7, _), (6, _), (5, _), (4, _), (0, _), (1, _), (2, _), (3, _)], [_])) rfl ?_
          refine pm_Fv.gf rfl rfl H.m0 H.o0 rfl ?_
          refine pm_Fv.go 1 (f' := (5, 117, [(8, _), (7, _), (6, _), (5, _), (4, _), (0, _), (1, _), (2, _), (3, _)], [_, _])) rfl ?_
          refine pm_Fv.cv rfl rfl rfl rfl (by decide) (Nat.le_of_ble_eq_true rfl) (Nat.le_of_ble_eq_true rfl) H.m188 H.o188 (ev_deepestFrom L xs H hl N b0 b1 hv) ?_
          refine pm_Fv.go 1 (f' := (5, 122, [(8, _), (7, _), (6, _), (5, _), (4, _), (0, _), (1, _), (2, _), (3, _)], [_, _])) rfl ?_
          refine pm_Fv.iadd rfl ?_
          refine pm_Fv.bp rfl rfl ?_
          refine pm_Fv.jgt rfl (by omega) rfl (fun h3 => ?_) (fun h3 => ?_)
          · exact absurd h3 (by omega)
          · refine pm_Fv.go 2 (f' := (5, 133, [(8, _), (7, _), (6, _), (5, _), (4, _), (0, _), (1, _), (2, _), (3, _)], [_])) rfl ?_
            refine pm_Fv.call rfl rfl rfl rfl rfl (ev_ckL1 L xs) ?_
            refine pm_Fv.go 1 (f' := (5, 137, [(8, _), (7, _), (6, _), (5, _), (4, _), (0, _), (1, _), (2, _), (3, _)], [_])) rfl ?_
            refine pm_Fv.gf rfl rfl H.m0 H.o0 rfl ?_
            refine pm_Fv.go 2 (f' := (5, 143, [(8, _), (7, _), (6, _), (5, _), (4, _), (0, _), (1, _), (2, _), (3, _)], [_, _, _])) rfl ?_
            refine pm_Fv.gf rfl rfl H.m0 H.o0 rfl ?_
            refine pm_Fv.go 3 (f' := (5, 151, [(8, _), (7, _), (6, _), (5, _), (4, _), (0, _), (1, _), (2, _), (3, _)], [_, _, _, _, _, _])) rfl ?_
            refine pm_Fv.cv rfl rfl rfl rfl (by decide) (Nat.le_of_ble_eq_true rfl) (Nat.le_of_ble_eq_true rfl) H.m188 H.o188 (ev_cpw L xs H hl N u0 u1 hk (by omega) t0 t1 t2 t3) ?_
            refine pm_Fv.go 1 (f' := (5, 156, [(8, _), (7, _), (6, _), (5, _), (4, _), (0, _), (1, _), (2, _), (3, _)], [_, _, _, _])) rfl ?_
            refine pm_Fv.cvF rfl rfl rfl rfl (by decide) (Nat.le_of_ble_eq_true rfl) (Nat.le_of_ble_eq_true rfl) H.m188 H.o188 (ev_carry L xs H E N l9 b0 b1 rfl (t := t) (by omega) (by omega) (ht) (by omega)) (fun s1 q1 => ?_)
            obtain ⟨ad1, z1, ar1, H1, E1, g1, g2, g3, g4, m1⟩ := q1
            refine pm_Fv.go 1 (f' := (5, 160, [(8, _), (7, _), (6, _), (5, _), (4, _), (0, _), (1, _), (2, _), (3, _)], [_])) rfl ?_
            refine pm_Fv.gf rfl rfl H1.m0 H1.o0 rfl ?_
            refine pm_Fv.cvF rfl rfl rfl rfl (by decide) (Nat.le_of_ble_eq_true rfl) (Nat.le_of_ble_eq_true rfl) H1.m1 H1.o1 (ev_endE L xs H1 E1 h5) (fun s2 q2 => ?_)
            obtain ⟨H2, r2⟩ := q2
            exact pm_Fv.ret rfl rfl rfl rfl ⟨rfl, ⟨ad1, z1, ar1, H2, E1, g1, g2, g3, g4, hq_rm_tr m1 (hq_rm_refl r2)⟩⟩
        · exact absurd h2 (by omega)
      · exact absurd h1 (by omega)
  · skip
    by_cases x2 : fo_par (oD (hq_g ar 190)) b = r
    · skip
      rw [if_pos x2] at d
      refine pm_Fv.go 2 (f' := (5, 2, [(0, _), (1, _), (2, _), (3, _)], [_, _])) rfl ?_
      refine pm_Fv.cv rfl rfl rfl rfl (by decide) (Nat.le_of_ble_eq_true rfl) (Nat.le_of_ble_eq_true rfl) H.m0 H.o0 (ev_pos L xs H hl N b0 b1) ?_
      refine pm_Fv.go 3 (f' := (5, 9, [(4, _), (0, _), (1, _), (2, _), (3, _)], [_, _])) rfl ?_
      refine pm_Fv.cv rfl rfl rfl rfl (by decide) (Nat.le_of_ble_eq_true rfl) (Nat.le_of_ble_eq_true rfl) H.m0 H.o0 (ev_por L xs H hl N u0 u1) ?_
      refine pm_Fv.go 2 (f' := (5, 15, [(5, _), (4, _), (0, _), (1, _), (2, _), (3, _)], [_])) rfl ?_
      refine pm_Fv.gf rfl rfl H.m0 H.o0 rfl ?_
      refine pm_Fv.go 1 (f' := (5, 20, [(5, _), (4, _), (0, _), (1, _), (2, _), (3, _)], [_, _])) rfl ?_
      refine pm_Fv.cv rfl rfl rfl rfl (by decide) (Nat.le_of_ble_eq_true rfl) (Nat.le_of_ble_eq_true rfl) H.m188 H.o188 (ev_branchEnd L xs H hl N (by omega) (by omega)) ?_
      refine pm_Fv.go 3 (f' := (5, 29, [(6, _), (5, _), (4, _), (0, _), (1, _), (2, _), (3, _)], [_, _])) rfl ?_
      refine pm_Fv.jlt rfl (by omega) rfl (fun h1 => ?_) (fun h1 => ?_)
      · exact absurd h1 (by omega)
      · refine pm_Fv.go 2 (f' := (5, 36, [(6, _), (5, _), (4, _), (0, _), (1, _), (2, _), (3, _)], [_, _])) rfl ?_
        refine pm_Fv.jlt rfl (by omega) rfl (fun h2 => ?_) (fun h2 => ?_)
        · exact absurd h2 (by omega)
        · refine pm_Fv.go 2 (f' := (5, 44, [(6, _), (5, _), (4, _), (0, _), (1, _), (2, _), (3, _)], [_])) rfl ?_
          refine pm_Fv.call rfl rfl rfl rfl rfl (ev_ckS1 L xs) ?_
          refine pm_Fv.go 1 (f' := (5, 48, [(6, _), (5, _), (4, _), (0, _), (1, _), (2, _), (3, _)], [_])) rfl ?_
          refine pm_Fv.gf rfl rfl H.m0 H.o0 rfl ?_
          refine pm_Fv.go 1 (f' := (5, 53, [(6, _), (5, _), (4, _), (0, _), (1, _), (2, _), (3, _)], [_, _])) rfl ?_
          refine pm_Fv.cv rfl rfl rfl rfl (by decide) (Nat.le_of_ble_eq_true rfl) (Nat.le_of_ble_eq_true rfl) H.m188 H.o188 (ev_childCount L xs H hl N u0 u1) ?_
          refine pm_Fv.go 1 (f' := (5, 57, [(6, _), (5, _), (4, _), (0, _), (1, _), (2, _), (3, _)], [_, _])) rfl ?_
          refine pm_Fv.gf rfl rfl H.m0 H.o0 rfl ?_
          refine pm_Fv.go 1 (f' := (5, 62, [(6, _), (5, _), (4, _), (0, _), (1, _), (2, _), (3, _)], [_, _, _])) rfl ?_
          refine pm_Fv.cv rfl rfl rfl rfl (by decide) (Nat.le_of_ble_eq_true rfl) (Nat.le_of_ble_eq_true rfl) H.m188 H.o188 (ev_parentPosition L xs H hl N b0 b1) ?_
          refine pm_Fv.go 1 (f' := (5, 67, [(6, _), (5, _), (4, _), (0, _), (1, _), (2, _), (3, _)], [_, _, _])) rfl ?_
          refine pm_Fv.jne rfl (by omega) rfl (fun h3 => ?_) (fun h3 => ?_)
          · exact absurd h3 (by omega)
          · refine pm_Fv.go 2 (f' := (5, 75, [(6, _), (5, _), (4, _), (0, _), (1, _), (2, _), (3, _)], [_, _])) rfl ?_
            refine pm_Fv.isub rfl ?_
            refine pm_Fv.go 4 (f' := (5, 82, [(7, _), (6, _), (5, _), (4, _), (0, _), (1, _), (2, _), (3, _)], [_, _, _])) rfl ?_
            refine pm_Fv.call rfl rfl rfl rfl rfl (ev_in1 L xs (by omega) d) ?_
            refine pm_Fv.call rfl rfl rfl rfl rfl (ev_ckN1 L xs) ?_
            refine pm_Fv.go 1 (f' := (5, 89, [(7, _), (6, _), (5, _), (4, _), (0, _), (1, _), (2, _), (3, _)], [_])) rfl ?_
            refine pm_Fv.gf rfl rfl H.m0 H.o0 rfl ?_
            refine pm_Fv.go 1 (f' := (5, 94, [(7, _), (6, _), (5, _), (4, _), (0, _), (1, _), (2, _), (3, _)], [_, _])) rfl ?_
            refine pm_Fv.cv rfl rfl rfl rfl (by decide) (Nat.le_of_ble_eq_true rfl) (Nat.le_of_ble_eq_true rfl) H.m188 H.o188 (ev_depthAt L xs H hl N u0 u1) ?_
            refine pm_Fv.go 1 (f' := (5, 98, [(7, _), (6, _), (5, _), (4, _), (0, _), (1, _), (2, _), (3, _)], [_, _])) rfl ?_
            refine pm_Fv.iadd rfl ?_
            refine pm_Fv.go 1 (f' := (5, 100, [(7, _), (6, _), (5, _), (4, _), (0, _), (1, _), (2, _), (3, _)], [_, _])) rfl ?_
            refine pm_Fv.gf rfl rfl H.m0 H.o0 rfl ?_
            refine pm_Fv.go 1 (f' := (5, 105, [(7, _), (6, _), (5, _), (4, _), (0, _), (1, _), (2, _), (3, _)], [_, _, _])) rfl ?_
            refine pm_Fv.cv rfl rfl rfl rfl (by decide) (Nat.le_of_ble_eq_true rfl) (Nat.le_of_ble_eq_true rfl) H.m188 H.o188 (ev_depthAt L xs H hl N (by omega) (Or.inl b1)) ?_
            refine pm_Fv.isub rfl ?_
            refine pm_Fv.go 2 (f' := (5, 112, [(8, _), (7, _), (6, _), (5, _), (4, _), (0, _), (1, _), (2, _), (3, _)], [_])) rfl ?_
            refine pm_Fv.gf rfl rfl H.m0 H.o0 rfl ?_
            refine pm_Fv.go 1 (f' := (5, 117, [(8, _), (7, _), (6, _), (5, _), (4, _), (0, _), (1, _), (2, _), (3, _)], [_, _])) rfl ?_
            refine pm_Fv.cv rfl rfl rfl rfl (by decide) (Nat.le_of_ble_eq_true rfl) (Nat.le_of_ble_eq_true rfl) H.m188 H.o188 (ev_deepestFrom L xs H hl N b0 b1 hv) ?_
            refine pm_Fv.go 1 (f' := (5, 122, [(8, _), (7, _), (6, _), (5, _), (4, _), (0, _), (1, _), (2, _), (3, _)], [_, _])) rfl ?_
            refine pm_Fv.iadd rfl ?_
            refine pm_Fv.bp rfl rfl ?_
            refine pm_Fv.jgt rfl (by omega) rfl (fun h4 => ?_) (fun h4 => ?_)
            · exact absurd h4 (by omega)
            · refine pm_Fv.go 2 (f' := (5, 133, [(8, _), (7, _), (6, _), (5, _), (4, _), (0, _), (1, _), (2, _), (3, _)], [_])) rfl ?_
              refine pm_Fv.call rfl rfl rfl rfl rfl (ev_ckL1 L xs) ?_
              refine pm_Fv.go 1 (f' := (5, 137, [(8, _), (7, _), (6, _), (5, _), (4, _), (0, _), (1, _), (2, _), (3, _)], [_])) rfl ?_
              refine pm_Fv.gf rfl rfl H.m0 H.o0 rfl ?_
              refine pm_Fv.go 2 (f' := (5, 143, [(8, _), (7, _), (6, _), (5, _), (4, _), (0, _), (1, _), (2, _), (3, _)], [_, _, _])) rfl ?_
              refine pm_Fv.gf rfl rfl H.m0 H.o0 rfl ?_
              refine pm_Fv.go 3 (f' := (5, 151, [(8, _), (7, _), (6, _), (5, _), (4, _), (0, _), (1, _), (2, _), (3, _)], [_, _, _, _, _, _])) rfl ?_
              refine pm_Fv.cv rfl rfl rfl rfl (by decide) (Nat.le_of_ble_eq_true rfl) (Nat.le_of_ble_eq_true rfl) H.m188 H.o188 (ev_cpw L xs H hl N u0 u1 hk (by omega) t0 t1 t2 t3) ?_
              refine pm_Fv.go 1 (f' := (5, 156, [(8, _), (7, _), (6, _), (5, _), (4, _), (0, _), (1, _), (2, _), (3, _)], [_, _, _, _])) rfl ?_
              refine pm_Fv.cvF rfl rfl rfl rfl (by decide) (Nat.le_of_ble_eq_true rfl) (Nat.le_of_ble_eq_true rfl) H.m188 H.o188 (ev_carry L xs H E N l9 b0 b1 rfl (t := t) (by omega) (by omega) (ht) (by omega)) (fun s1 q1 => ?_)
              obtain ⟨ad1, z1, ar1, H1, E1, g1, g2, g3, g4, m1⟩ := q1
              refine pm_Fv.go 1 (f' := (5, 160, [(8, _), (7, _), (6, _), (5, _), (4, _), (0, _), (1, _), (2, _), (3, _)], [_])) rfl ?_
              refine pm_Fv.gf rfl rfl H1.m0 H1.o0 rfl ?_
              refine pm_Fv.cvF rfl rfl rfl rfl (by decide) (Nat.le_of_ble_eq_true rfl) (Nat.le_of_ble_eq_true rfl) H1.m1 H1.o1 (ev_endE L xs H1 E1 h5) (fun s2 q2 => ?_)
              obtain ⟨H2, r2⟩ := q2
              exact pm_Fv.ret rfl rfl rfl rfl ⟨rfl, ⟨ad1, z1, ar1, H2, E1, g1, g2, g3, g4, hq_rm_tr m1 (hq_rm_refl r2)⟩⟩
    · skip
      rw [if_neg x2] at d
      refine pm_Fv.go 2 (f' := (5, 2, [(0, _), (1, _), (2, _), (3, _)], [_, _])) rfl ?_
      refine pm_Fv.cv rfl rfl rfl rfl (by decide) (Nat.le_of_ble_eq_true rfl) (Nat.le_of_ble_eq_true rfl) H.m0 H.o0 (ev_pos L xs H hl N b0 b1) ?_
      refine pm_Fv.go 3 (f' := (5, 9, [(4, _), (0, _), (1, _), (2, _), (3, _)], [_, _])) rfl ?_
      refine pm_Fv.cv rfl rfl rfl rfl (by decide) (Nat.le_of_ble_eq_true rfl) (Nat.le_of_ble_eq_true rfl) H.m0 H.o0 (ev_por L xs H hl N u0 u1) ?_
      refine pm_Fv.go 2 (f' := (5, 15, [(5, _), (4, _), (0, _), (1, _), (2, _), (3, _)], [_])) rfl ?_
      refine pm_Fv.gf rfl rfl H.m0 H.o0 rfl ?_
      refine pm_Fv.go 1 (f' := (5, 20, [(5, _), (4, _), (0, _), (1, _), (2, _), (3, _)], [_, _])) rfl ?_
      refine pm_Fv.cv rfl rfl rfl rfl (by decide) (Nat.le_of_ble_eq_true rfl) (Nat.le_of_ble_eq_true rfl) H.m188 H.o188 (ev_branchEnd L xs H hl N (by omega) (by omega)) ?_
      refine pm_Fv.go 3 (f' := (5, 29, [(6, _), (5, _), (4, _), (0, _), (1, _), (2, _), (3, _)], [_, _])) rfl ?_
      refine pm_Fv.jlt rfl (by omega) rfl (fun h1 => ?_) (fun h1 => ?_)
      · exact absurd h1 (by omega)
      · refine pm_Fv.go 2 (f' := (5, 36, [(6, _), (5, _), (4, _), (0, _), (1, _), (2, _), (3, _)], [_, _])) rfl ?_
        refine pm_Fv.jlt rfl (by omega) rfl (fun h2 => ?_) (fun h2 => ?_)
        · exact absurd h2 (by omega)
        · refine pm_Fv.go 2 (f' := (5, 44, [(6, _), (5, _), (4, _), (0, _), (1, _), (2, _), (3, _)], [_])) rfl ?_
          refine pm_Fv.call rfl rfl rfl rfl rfl (ev_ckS1 L xs) ?_
          refine pm_Fv.go 1 (f' := (5, 48, [(6, _), (5, _), (4, _), (0, _), (1, _), (2, _), (3, _)], [_])) rfl ?_
          refine pm_Fv.gf rfl rfl H.m0 H.o0 rfl ?_
          refine pm_Fv.go 1 (f' := (5, 53, [(6, _), (5, _), (4, _), (0, _), (1, _), (2, _), (3, _)], [_, _])) rfl ?_
          refine pm_Fv.cv rfl rfl rfl rfl (by decide) (Nat.le_of_ble_eq_true rfl) (Nat.le_of_ble_eq_true rfl) H.m188 H.o188 (ev_childCount L xs H hl N u0 u1) ?_
          refine pm_Fv.go 1 (f' := (5, 57, [(6, _), (5, _), (4, _), (0, _), (1, _), (2, _), (3, _)], [_, _])) rfl ?_
          refine pm_Fv.gf rfl rfl H.m0 H.o0 rfl ?_
          refine pm_Fv.go 1 (f' := (5, 62, [(6, _), (5, _), (4, _), (0, _), (1, _), (2, _), (3, _)], [_, _, _])) rfl ?_
          refine pm_Fv.cv rfl rfl rfl rfl (by decide) (Nat.le_of_ble_eq_true rfl) (Nat.le_of_ble_eq_true rfl) H.m188 H.o188 (ev_parentPosition L xs H hl N b0 b1) ?_
          refine pm_Fv.go 1 (f' := (5, 67, [(6, _), (5, _), (4, _), (0, _), (1, _), (2, _), (3, _)], [_, _, _])) rfl ?_
          refine pm_Fv.jne rfl (by omega) rfl (fun h3 => ?_) (fun h3 => ?_)
          · refine pm_Fv.go 1 (f' := (5, 75, [(6, _), (5, _), (4, _), (0, _), (1, _), (2, _), (3, _)], [_, _])) rfl ?_
            refine pm_Fv.isub rfl ?_
            refine pm_Fv.go 4 (f' := (5, 82, [(7, _), (6, _), (5, _), (4, _), (0, _), (1, _), (2, _), (3, _)], [_, _, _])) rfl ?_
            refine pm_Fv.call rfl rfl rfl rfl rfl (ev_in1 L xs (by omega) d) ?_
            refine pm_Fv.call rfl rfl rfl rfl rfl (ev_ckN1 L xs) ?_
            refine pm_Fv.go 1 (f' := (5, 89, [(7, _), (6, _), (5, _), (4, _), (0, _), (1, _), (2, _), (3, _)], [_])) rfl ?_
            refine pm_Fv.gf rfl rfl H.m0 H.o0 rfl ?_
            refine pm_Fv.go 1 (f' := (5, 94, [(7, _), (6, _), (5, _), (4, _), (0, _), (1, _), (2, _), (3, _)], [_, _])) rfl ?_
            refine pm_Fv.cv rfl rfl rfl rfl (by decide) (Nat.le_of_ble_eq_true rfl) (Nat.le_of_ble_eq_true rfl) H.m188 H.o188 (ev_depthAt L xs H hl N u0 u1) ?_
            refine pm_Fv.go 1 (f' := (5, 98, [(7, _), (6, _), (5, _), (4, _), (0, _), (1, _), (2, _), (3, _)], [_, _])) rfl ?_
            refine pm_Fv.iadd rfl ?_
            refine pm_Fv.go 1 (f' := (5, 100, [(7, _), (6, _), (5, _), (4, _), (0, _), (1, _), (2, _), (3, _)], [_, _])) rfl ?_
            refine pm_Fv.gf rfl rfl H.m0 H.o0 rfl ?_
            refine pm_Fv.go 1 (f' := (5, 105, [(7, _), (6, _), (5, _), (4, _), (0, _), (1, _), (2, _), (3, _)], [_, _, _])) rfl ?_
            refine pm_Fv.cv rfl rfl rfl rfl (by decide) (Nat.le_of_ble_eq_true rfl) (Nat.le_of_ble_eq_true rfl) H.m188 H.o188 (ev_depthAt L xs H hl N (by omega) (Or.inl b1)) ?_
            refine pm_Fv.isub rfl ?_
            refine pm_Fv.go 2 (f' := (5, 112, [(8, _), (7, _), (6, _), (5, _), (4, _), (0, _), (1, _), (2, _), (3, _)], [_])) rfl ?_
            refine pm_Fv.gf rfl rfl H.m0 H.o0 rfl ?_
            refine pm_Fv.go 1 (f' := (5, 117, [(8, _), (7, _), (6, _), (5, _), (4, _), (0, _), (1, _), (2, _), (3, _)], [_, _])) rfl ?_
            refine pm_Fv.cv rfl rfl rfl rfl (by decide) (Nat.le_of_ble_eq_true rfl) (Nat.le_of_ble_eq_true rfl) H.m188 H.o188 (ev_deepestFrom L xs H hl N b0 b1 hv) ?_
            refine pm_Fv.go 1 (f' := (5, 122, [(8, _), (7, _), (6, _), (5, _), (4, _), (0, _), (1, _), (2, _), (3, _)], [_, _])) rfl ?_
            refine pm_Fv.iadd rfl ?_
            refine pm_Fv.bp rfl rfl ?_
            refine pm_Fv.jgt rfl (by omega) rfl (fun h4 => ?_) (fun h4 => ?_)
            · exact absurd h4 (by omega)
            · refine pm_Fv.go 2 (f' := (5, 133, [(8, _), (7, _), (6, _), (5, _), (4, _), (0, _), (1, _), (2, _), (3, _)], [_])) rfl ?_
              refine pm_Fv.call rfl rfl rfl rfl rfl (ev_ckL1 L xs) ?_
              refine pm_Fv.go 1 (f' := (5, 137, [(8, _), (7, _), (6, _), (5, _), (4, _), (0, _), (1, _), (2, _), (3, _)], [_])) rfl ?_
              refine pm_Fv.gf rfl rfl H.m0 H.o0 rfl ?_
              refine pm_Fv.go 2 (f' := (5, 143, [(8, _), (7, _), (6, _), (5, _), (4, _), (0, _), (1, _), (2, _), (3, _)], [_, _, _])) rfl ?_
              refine pm_Fv.gf rfl rfl H.m0 H.o0 rfl ?_
              refine pm_Fv.go 3 (f' := (5, 151, [(8, _), (7, _), (6, _), (5, _), (4, _), (0, _), (1, _), (2, _), (3, _)], [_, _, _, _, _, _])) rfl ?_
              refine pm_Fv.cv rfl rfl rfl rfl (by decide) (Nat.le_of_ble_eq_true rfl) (Nat.le_of_ble_eq_true rfl) H.m188 H.o188 (ev_cpw L xs H hl N u0 u1 hk (by omega) t0 t1 t2 t3) ?_
              refine pm_Fv.go 1 (f' := (5, 156, [(8, _), (7, _), (6, _), (5, _), (4, _), (0, _), (1, _), (2, _), (3, _)], [_, _, _, _])) rfl ?_
              refine pm_Fv.cvF rfl rfl rfl rfl (by decide) (Nat.le_of_ble_eq_true rfl) (Nat.le_of_ble_eq_true rfl) H.m188 H.o188 (ev_carry L xs H E N l9 b0 b1 rfl (t := t) (by omega) (by omega) (ht) (by omega)) (fun s1 q1 => ?_)
              obtain ⟨ad1, z1, ar1, H1, E1, g1, g2, g3, g4, m1⟩ := q1
              refine pm_Fv.go 1 (f' := (5, 160, [(8, _), (7, _), (6, _), (5, _), (4, _), (0, _), (1, _), (2, _), (3, _)], [_])) rfl ?_
              refine pm_Fv.gf rfl rfl H1.m0 H1.o0 rfl ?_
              refine pm_Fv.cvF rfl rfl rfl rfl (by decide) (Nat.le_of_ble_eq_true rfl) (Nat.le_of_ble_eq_true rfl) H1.m1 H1.o1 (ev_endE L xs H1 E1 h5) (fun s2 q2 => ?_)
              obtain ⟨H2, r2⟩ := q2
              exact pm_Fv.ret rfl rfl rfl rfl ⟨rfl, ⟨ad1, z1, ar1, H2, E1, g1, g2, g3, g4, hq_rm_tr m1 (hq_rm_refl r2)⟩⟩
          · exact absurd h3 (by omega)
theorem ev_dinsert0 (H : Hp σ ad z ar lr) (h : hw A z ar) (h7 : z 7 = 0) (hz1 : z 1 < 99999) (h5 : z 5 = 0 ∨ z 5 = 1) (N : od_N (hq_g ar 190) (z 8)) {k t : Int} (hk : -2147483648 ≤ k ∧ k ≤ 2147483647) (ht : -2147483648 ≤ t ∧ t ≤ 2147483647) {r : Int} (u0 : -1 ≤ r) (u1 : r < (hq_g ar 190 0) ∨ r = -1) (c : 0 ≤ k ∧ k ≤ fo_cc (oD (hq_g ar 190)) (hq_g ar 190 0) r) (d : 0 ≤ t ∧ t ≤ 999999) (g : (oD (hq_g ar 190)) r < 12) (e : z 8 < 400) {x : Int} (x0 : r < x) (x1 : x ≤ fo_end (oD (hq_g ar 190)) (hq_g ar 190 0) r) (x2 : x < fo_end (oD (hq_g ar 190)) (hq_g ar 190 0) r → (oD (hq_g ar 190)) x = (oD (hq_g ar 190)) r + 1) (x3 : fo_c (oD (hq_g ar 190)) ((oD (hq_g ar 190)) r + 1) (r + 1) x = k) : pm_Fv (tq_P L xs) (pm_enter 3 [.ref 0, .int (zI (fo_id (oI (hq_g ar 190)) r)), .int (zI k), .int (zI t)]) σ (fun o s => o = .inl (some (.int (zI (z 8)))) ∧ ∃ ad' z' ar' A' ar1, Hp s ad' (hw_ee z') ar' lr ∧ hw A' (hq_u z 8 (z 8 + 1)) ar1 ∧ od_E A' (hq_g ar1 190) (hq_u z 8 (z 8 + 1)) ar1 z' ar' ∧ bo_C (hq_g ar 190) (hq_g ar1 190) (z 8) ((oD (hq_g ar 190)) r + 1) t ∧ (∀ i, i < 401 + 16 * z 8 → A' i = A i) ∧ (∀ i, 401 + 16 * z 8 ≤ i → A' i = hq_g ar1 190 i) ∧ (∀ r, r ≠ 190 → r ≠ 191 → ar1 r = ar r) ∧ (∀ i, 0 ≤ i → hq_g ar' 190 i = if i = 0 then hq_g ar1 190 0 + 1 else if i = 1 + x then z 8 else if 1 + x < i ∧ i ≤ 1 + hq_g ar1 190 0 then hq_g ar1 190 (i - 1) else hq_g ar1 190 i) ∧ hq_rm σ ar lr s ar' lr) := by
  show pm_Fv (tq_P L xs) (3, 0, [(0, .ref 0), (1, .int (zI (fo_id (oI (hq_g ar 190)) r))), (2, .int (zI k)), (3, .int (zI t))], []) σ _
  have hl := h.le
  have E := od_E.ini h h7 hz1
  have nm := N.nm
  have m4 := N.m4
  have m0 := N.m0
  have cc := fo_cc_r N.W u0 u1
  have dr := N.dr u0 u1
  have Br := fo_end_B' N.W u0 u1
  refine pm_Fv.go 2 (f' := (3, 2, [(0, _), (1, _), (2, _), (3, _)], [_, _])) rfl ?_
  refine pm_Fv.cv rfl rfl rfl rfl (by decide) (Nat.le_of_ble_eq_true rfl) (Nat.le_of_ble_eq_true rfl) H.m0 H.o0 (ev_por L xs H hl N u0 u1) ?_
  refine pm_Fv.go 4 (f' := (3, 10, [(4, _), (0, _), (1, _), (2, _), (3, _)], [_, _, _])) rfl ?_
  refine pm_Fv.gf rfl rfl H.m0 H.o0 rfl ?_
  refine pm_Fv.go 1 (f' := (3, 15, [(4, _), (0, _), (1, _), (2, _), (3, _)], [_, _, _, _])) rfl ?_
  refine pm_Fv.cv rfl rfl rfl rfl (by decide) (Nat.le_of_ble_eq_true rfl) (Nat.le_of_ble_eq_true rfl) H.m188 H.o188 (ev_childCount L xs H hl N u0 u1) ?_
  refine pm_Fv.call rfl rfl rfl rfl rfl (ev_in1 L xs (by omega) c) ?_
  refine pm_Fv.zeq rfl (by omega) rfl (fun h1 => ?_) (fun h1 => ?_)
  · exact absurd h1 (by omega)
  · refine pm_Fv.go 2 (f' := (3, 26, [(4, _), (0, _), (1, _), (2, _), (3, _)], [_, _])) rfl ?_
    refine pm_Fv.cc1 (999999) rfl rfl rfl ?_
    refine pm_Fv.call rfl rfl rfl rfl rfl (ev_in1 L xs (by omega) d) ?_
    refine pm_Fv.zeq rfl (by omega) rfl (fun h2 => ?_) (fun h2 => ?_)
    · exact absurd h2 (by omega)
    · refine pm_Fv.go 2 (f' := (3, 39, [(4, _), (0, _), (1, _), (2, _), (3, _)], [_])) rfl ?_
      refine pm_Fv.call rfl rfl rfl rfl rfl (ev_ckN1 L xs) ?_
      refine pm_Fv.go 1 (f' := (3, 43, [(4, _), (0, _), (1, _), (2, _), (3, _)], [_])) rfl ?_
      refine pm_Fv.gf rfl rfl H.m0 H.o0 rfl ?_
      refine pm_Fv.go 1 (f' := (3, 48, [(4, _), (0, _), (1, _), (2, _), (3, _)], [_, _])) rfl ?_
      refine pm_Fv.cv rfl rfl rfl rfl (by decide) (Nat.le_of_ble_eq_true rfl) (Nat.le_of_ble_eq_true rfl) H.m188 H.o188 (ev_depthAt L xs H hl N u0 u1) ?_
      refine pm_Fv.go 1 (f' := (3, 52, [(4, _), (0, _), (1, _), (2, _), (3, _)], [_, _])) rfl ?_
      refine pm_Fv.iadd rfl ?_
      refine pm_Fv.go 2 (f' := (3, 57, [(5, _), (4, _), (0, _), (1, _), (2, _), (3, _)], [_])) rfl ?_
      refine pm_Fv.bp rfl rfl ?_
      refine pm_Fv.jgt rfl (by omega) rfl (fun h3 => ?_) (fun h3 => ?_)
      · exact absurd h3 (by omega)
      · refine pm_Fv.go 1 (f' := (3, 63, [(5, _), (4, _), (0, _), (1, _), (2, _), (3, _)], [_])) rfl ?_
        refine pm_Fv.gf rfl rfl H.m0 H.o0 rfl ?_
        refine pm_Fv.gf rfl rfl H.m188 H.o188 rfl ?_
        refine pm_Fv.sp rfl rfl ?_
        refine pm_Fv.jge rfl (by omega) rfl (fun h4 => ?_) (fun h4 => ?_)
        · exact absurd h4 (by omega)
        · refine pm_Fv.go 2 (f' := (3, 80, [(5, _), (4, _), (0, _), (1, _), (2, _), (3, _)], [_])) rfl ?_
          refine pm_Fv.call rfl rfl rfl rfl rfl (ev_ckL1 L xs) ?_
          refine pm_Fv.go 1 (f' := (3, 84, [(5, _), (4, _), (0, _), (1, _), (2, _), (3, _)], [_])) rfl ?_
          refine pm_Fv.gf rfl rfl H.m0 H.o0 rfl ?_
          refine pm_Fv.go 1 (f' := (3, 88, [(5, _), (4, _), (0, _), (1, _), (2, _), (3, _)], [_, _])) rfl ?_
          refine pm_Fv.gf rfl rfl H.m0 H.o0 rfl ?_
          refine pm_Fv.go 2 (f' := (3, 94, [(5, _), (4, _), (0, _), (1, _), (2, _), (3, _)], [_, _, _, _])) rfl ?_
          refine pm_Fv.cv rfl rfl rfl rfl (by decide) (Nat.le_of_ble_eq_true rfl) (Nat.le_of_ble_eq_true rfl) H.m188 H.o188 (ev_childPosition L xs H hl N u0 u1 hk x0 x1 (fun q => ⟨x2 q, by rw [od_cw_c (by omega)]; exact x3⟩) (by rw [od_cw_c (by omega)]; omega)) ?_
          refine pm_Fv.go 2 (f' := (3, 100, [(5, _), (4, _), (0, _), (1, _), (2, _), (3, _)], [_, _, _, _])) rfl ?_
          refine pm_Fv.cvF rfl rfl rfl rfl (by decide) (Nat.le_of_ble_eq_true rfl) (Nat.le_of_ble_eq_true rfl) H.m188 H.o188 (ev_plant L xs H h h7 hz1 e (c := x) (d := (oD (hq_g ar 190)) r + 1) (t := t) (by omega) (by omega) (by omega) (by omega) ht) (fun s1 q1 => ?_)
          obtain ⟨ad1, z1, ar9, A9, ar8, H1, w9, E1, b9, a1, a2, o9, g9, m9⟩ := q1
          refine pm_Fv.go 2 (f' := (3, 106, [(6, _), (5, _), (4, _), (0, _), (1, _), (2, _), (3, _)], [_])) rfl ?_
          refine pm_Fv.gf rfl rfl H1.m0 H1.o0 rfl ?_
          refine pm_Fv.cvF rfl rfl rfl rfl (by decide) (Nat.le_of_ble_eq_true rfl) (Nat.le_of_ble_eq_true rfl) H1.m1 H1.o1 (ev_endE L xs H1 E1 h5) (fun s2 q2 => ?_)
          obtain ⟨H2, r2⟩ := q2
          refine pm_Fv.go 1 (f' := (3, 114, [(6, _), (5, _), (4, _), (0, _), (1, _), (2, _), (3, _)], [_])) rfl ?_
          exact pm_Fv.rv rfl rfl ⟨rfl, ⟨ad1, z1, ar9, A9, ar8, H2, w9, E1, b9, a1, a2, o9, g9, hq_rm_tr m9 (hq_rm_refl r2)⟩⟩
end MS
