/-! the desk: groups, undo, redo -/
section MS
variable (L : Nat) (xs : Nat → Int32)
variable {σ : pm_S} {ad : Nat → Nat} {z : Nat → Int} {ar : Nat → Nat × (Nat → Int32)} {lr : Nat → Nat × (Nat → Int64)}
theorem ev_dopen0 (H : Hp σ ad z ar lr) (c : z 5 = 0) : pm_Fv (tq_P L xs) (pm_enter 16 [.ref 0]) σ (fun o s => o = .inl none ∧ Hp s ad (hq_u z 5 1) ar lr ∧ s.2 = σ.2) := by
  show pm_Fv (tq_P L xs) (16, 0, [(0, .ref 0)], []) σ _
  refine pm_Fv.go 1 (f' := (16, 1, [(0, _)], [_])) rfl ?_
  refine pm_Fv.gf rfl rfl H.m0 H.o0 rfl ?_
  refine pm_Fv.gf rfl rfl H.m1 H.o1 rfl ?_
  rw [c]
  refine pm_Fv.zne rfl (by omega) rfl (fun h1 => ?_) (fun h1 => ?_)
  · exact absurd h1 (by omega)
  · refine pm_Fv.go 2 (f' := (16, 15, [(0, _)], [_])) rfl ?_
    refine pm_Fv.call rfl rfl rfl rfl rfl (ev_ckS1 L xs) ?_
    refine pm_Fv.go 1 (f' := (16, 19, [(0, _)], [_])) rfl ?_
    refine pm_Fv.gf rfl rfl H.m0 H.o0 rfl ?_
    refine pm_Fv.cvF rfl rfl rfl rfl (by decide) (Nat.le_of_ble_eq_true rfl) (Nat.le_of_ble_eq_true rfl) H.m1 H.o1 (ev_openG L xs H) (fun s1 q1 => ?_)
    obtain ⟨H1, r1⟩ := q1
    exact pm_Fv.ret rfl rfl rfl rfl ⟨rfl, H1, r1⟩
theorem ev_dclose0 (H : Hp σ ad z ar lr) (c : z 5 = 1) (k2 : 0 ≤ z 2 ∧ z 2 < 61) (k3 : 0 ≤ z 3 ∧ z 3 ≤ 60) (h6 : 0 ≤ z 6 ∧ z 6 ≤ 90000) : pm_Fv (tq_P L xs) (pm_enter 17 [.ref 0]) σ (fun o s => o = .inl (some (.int (zI ((if z 6 = 0 then hq_u z 5 0 else hw_es (hq_u z 5 0)) 3)))) ∧ Hp s ad (if z 6 = 0 then hq_u z 5 0 else hw_es (hq_u z 5 0)) ar lr ∧ s.2 = σ.2) := by
  show pm_Fv (tq_P L xs) (17, 0, [(0, .ref 0)], []) σ _
  refine pm_Fv.go 1 (f' := (17, 1, [(0, _)], [_])) rfl ?_
  refine pm_Fv.gf rfl rfl H.m0 H.o0 rfl ?_
  refine pm_Fv.gf rfl rfl H.m1 H.o1 rfl ?_
  rw [c]
  refine pm_Fv.call rfl rfl rfl rfl rfl (ev_ckS1 L xs) ?_
  refine pm_Fv.go 1 (f' := (17, 11, [(0, _)], [_])) rfl ?_
  refine pm_Fv.gf rfl rfl H.m0 H.o0 rfl ?_
  refine pm_Fv.cvF rfl rfl rfl rfl (by decide) (Nat.le_of_ble_eq_true rfl) (Nat.le_of_ble_eq_true rfl) H.m1 H.o1 (ev_closeG L xs H k2 k3 h6) (fun s1 q1 => ?_)
  obtain ⟨H1, r1⟩ := q1
  refine pm_Fv.go 1 (f' := (17, 18, [(0, _)], [_])) rfl ?_
  refine pm_Fv.gf rfl rfl H1.m0 H1.o0 rfl ?_
  refine pm_Fv.gf rfl rfl H1.m1 H1.o1 rfl ?_
  exact pm_Fv.rv rfl rfl ⟨rfl, H1, r1⟩
theorem ev_goBack0 (H : Hp σ ad z ar lr) (c : z 3 = 0) : pm_Fv (tq_P L xs) (pm_enter 54 [.ref 1]) σ (fun o s => o = .inl (some (.int (zI 0))) ∧ Hp s ad z ar lr ∧ s.2 = σ.2) := by
  show pm_Fv (tq_P L xs) (54, 0, [(0, .ref 1)], []) σ _
  refine pm_Fv.go 1 (f' := (54, 1, [(0, _)], [_])) rfl ?_
  refine pm_Fv.gf rfl rfl H.m1 H.o1 rfl ?_
  refine pm_Fv.zne rfl (by omega) rfl (fun h1 => ?_) (fun h1 => ?_)
  · exact absurd h1 (by omega)
  · refine pm_Fv.go 1 (f' := (54, 8, [(0, _)], [_])) rfl ?_
    exact pm_Fv.rb rfl rfl (by decide) ⟨rfl, H, rfl⟩
theorem ev_goBack (H : Hp σ ad z ar lr) (k3 : 0 < z 3 ∧ z 3 ≤ 60) {j : Nat} {B : Int} {P Q : Int → Int} (l : ls_ok (z (105 + 3 * j)) B (hq_g ar (5 + 3 * j + 1)) (hq_g ar (5 + 3 * j + 2)) P Q) (cap : (ar (5 + 3 * j + 1)).1 = (ar (5 + 3 * j + 2)).1 ∧ 4 ≤ (ar (5 + 3 * j + 1)).1 ∧ (ar (5 + 3 * j + 1)).1 ≤ 13602 ∧ 0 ≤ z (105 + 3 * j) ∧ z (105 + 3 * j) ≤ ((ar (5 + 3 * j + 1)).1 : Int)) (b0 : 0 ≤ B) (b1 : B ≤ ((ar 190).1 : Int)) (b2 : (ar 190).1 ≤ 13602) (k2 : 0 ≤ z 2 ∧ z 2 < 61) (jj : (j : Int) = (z 2 + (z 3 - 1)) % 61) : pm_Fv (tq_P L xs) (pm_enter 54 [.ref 1]) σ (fun o s => o = .inl (some (.int (zI 1))) ∧ (∃ ar', Hp s ad (hq_u (hq_u z 3 (z 3 - 1)) 4 (z 4 + 1)) ar' lr ∧ (∀ r, r ≠ 190 → r ≠ (5 + 3 * j + 2) → ar' r = ar r) ∧ (∀ r, (ar' r).1 = (ar r).1) ∧ ex_k (z (105 + 3 * j)) (hq_g ar 190) (hq_g ar (5 + 3 * j + 2)) (hq_g ar (5 + 3 * j + 1)) (hq_g ar' 190) (hq_g ar' (5 + 3 * j + 2))) ∧ s.2 = σ.2) := by
  show pm_Fv (tq_P L xs) (54, 0, [(0, .ref 1)], []) σ _
  have jl : j < 61 := by omega
  refine pm_Fv.go 1 (f' := (54, 1, [(0, _)], [_])) rfl ?_
  refine pm_Fv.gf rfl rfl H.m1 H.o1 rfl ?_
  refine pm_Fv.zne rfl (by omega) rfl (fun h1 => ?_) (fun h1 => ?_)
  · refine pm_Fv.go 2 (f' := (54, 11, [(0, _)], [_, _])) rfl ?_
    refine pm_Fv.gf rfl rfl H.m1 H.o1 rfl ?_
    refine pm_Fv.go 1 (f' := (54, 15, [(0, _)], [_, _, _])) rfl ?_
    refine pm_Fv.isub rfl ?_
    refine pm_Fv.pz H 3 rfl rfl rfl (by decide) rfl rfl (Nat.le_of_ble_eq_true rfl) rfl (by decide) rfl (fun s1 H1 r1 => ?_)
    refine pm_Fv.go 2 (f' := (54, 21, [(0, _)], [_, _])) rfl ?_
    refine pm_Fv.gf rfl rfl H1.m1 H1.o1 rfl ?_
    rw [show hq_u z 3 (z 3 - 1) 4 = z 4 from rfl]
    refine pm_Fv.go 1 (f' := (54, 25, [(0, _)], [_, _, _])) rfl ?_
    refine pm_Fv.iadd rfl ?_
    refine pm_Fv.pz H1 4 rfl rfl rfl (by decide) rfl rfl (Nat.le_of_ble_eq_true rfl) rfl (by decide) rfl (fun s2 H2 r2 => ?_)
    refine pm_Fv.go 2 (f' := (54, 31, [(0, _)], [_, _])) rfl ?_
    refine pm_Fv.gf rfl rfl H2.m1 H2.o1 rfl ?_
    rw [show (hq_u (hq_u z 3 (z 3 - 1)) 4 (z 4 + 1)) 3 = z 3 - 1 from rfl]
    refine pm_Fv.cv rfl rfl rfl rfl (by decide) (Nat.le_of_ble_eq_true rfl) (Nat.le_of_ble_eq_true rfl) H2.m1 H2.o1 (ev_hstep L xs H2 (show 0 ≤ z 2 ∧ z 2 < 61 from k2) (by omega) jj) ?_
    refine pm_Fv.go 1 (f' := (54, 38, [(0, _)], [_, _])) rfl ?_
    refine pm_Fv.gf rfl rfl H2.m1 H2.o1 rfl ?_
    have xs0 : (hq_u (hq_u z 3 (z 3 - 1)) 4 (z 4 + 1)) (105 + 3 * j) = z (105 + 3 * j) := by rw [hq_u_ne (by omega), hq_u_ne (by omega)]
    have ex := ev_exch L xs (z := (hq_u (hq_u z 3 (z 3 - 1)) 4 (z 4 + 1))) jl H2 b0 (by rw [xs0]; exact cap.2.2.2.1) (by rw [xs0]; exact l.1) (by rw [xs0]; exact fun i i0 i1 => ⟨(l.2.1 i i0 i1).1, (l.2.1 i i0 i1).2.1⟩) b1 b2 (by rw [xs0]; exact cap.2.2.2.2) cap.1 cap.2.2.1
    refine pm_Fv.cvF rfl rfl rfl rfl (by decide) (Nat.le_of_ble_eq_true rfl) (Nat.le_of_ble_eq_true rfl) (H2.ms jl) (H2.os jl) ex (fun s3 q3 => ?_)
    obtain ⟨⟨ar9, H3, o9, l9, x9⟩, r3⟩ := q3
    rw [xs0] at x9
    refine pm_Fv.go 1 (f' := (54, 45, [(0, _)], [_])) rfl ?_
    exact pm_Fv.rb rfl rfl (by decide) ⟨rfl, ⟨ar9, H3, o9, l9, x9⟩, (r3.trans (r2.trans r1))⟩
  · exact absurd h1 (by omega)
theorem ev_goForth0 (H : Hp σ ad z ar lr) (c : z 4 = 0) : pm_Fv (tq_P L xs) (pm_enter 55 [.ref 1]) σ (fun o s => o = .inl (some (.int (zI 0))) ∧ Hp s ad z ar lr ∧ s.2 = σ.2) := by
  show pm_Fv (tq_P L xs) (55, 0, [(0, .ref 1)], []) σ _
  refine pm_Fv.go 1 (f' := (55, 1, [(0, _)], [_])) rfl ?_
  refine pm_Fv.gf rfl rfl H.m1 H.o1 rfl ?_
  refine pm_Fv.zne rfl (by omega) rfl (fun h1 => ?_) (fun h1 => ?_)
  · exact absurd h1 (by omega)
  · refine pm_Fv.go 1 (f' := (55, 8, [(0, _)], [_])) rfl ?_
    exact pm_Fv.rb rfl rfl (by decide) ⟨rfl, H, rfl⟩
theorem ev_goForth (H : Hp σ ad z ar lr) (k3 : 0 ≤ z 3 ∧ z 3 ≤ 60) (k4 : 0 < z 4 ∧ z 4 ≤ 60) {j : Nat} {B : Int} {P Q : Int → Int} (l : ls_ok (z (105 + 3 * j)) B (hq_g ar (5 + 3 * j + 1)) (hq_g ar (5 + 3 * j + 2)) P Q) (cap : (ar (5 + 3 * j + 1)).1 = (ar (5 + 3 * j + 2)).1 ∧ 4 ≤ (ar (5 + 3 * j + 1)).1 ∧ (ar (5 + 3 * j + 1)).1 ≤ 13602 ∧ 0 ≤ z (105 + 3 * j) ∧ z (105 + 3 * j) ≤ ((ar (5 + 3 * j + 1)).1 : Int)) (b0 : 0 ≤ B) (b1 : B ≤ ((ar 190).1 : Int)) (b2 : (ar 190).1 ≤ 13602) (k2 : 0 ≤ z 2 ∧ z 2 < 61) (jj : (j : Int) = (z 2 + z 3) % 61) : pm_Fv (tq_P L xs) (pm_enter 55 [.ref 1]) σ (fun o s => o = .inl (some (.int (zI 1))) ∧ (∃ ar', Hp s ad (hq_u (hq_u z 3 (z 3 + 1)) 4 (z 4 - 1)) ar' lr ∧ (∀ r, r ≠ 190 → r ≠ (5 + 3 * j + 2) → ar' r = ar r) ∧ (∀ r, (ar' r).1 = (ar r).1) ∧ ex_k (z (105 + 3 * j)) (hq_g ar 190) (hq_g ar (5 + 3 * j + 2)) (hq_g ar (5 + 3 * j + 1)) (hq_g ar' 190) (hq_g ar' (5 + 3 * j + 2))) ∧ s.2 = σ.2) := by
  show pm_Fv (tq_P L xs) (55, 0, [(0, .ref 1)], []) σ _
  have jl : j < 61 := by omega
  refine pm_Fv.go 1 (f' := (55, 1, [(0, _)], [_])) rfl ?_
  refine pm_Fv.gf rfl rfl H.m1 H.o1 rfl ?_
  refine pm_Fv.zne rfl (by omega) rfl (fun h1 => ?_) (fun h1 => ?_)
  · refine pm_Fv.go 2 (f' := (55, 11, [(0, _)], [_, _])) rfl ?_
    refine pm_Fv.gf rfl rfl H.m1 H.o1 rfl ?_
    refine pm_Fv.cv rfl rfl rfl rfl (by decide) (Nat.le_of_ble_eq_true rfl) (Nat.le_of_ble_eq_true rfl) H.m1 H.o1 (ev_hstep L xs H k2 (by omega) jj) ?_
    refine pm_Fv.go 1 (f' := (55, 18, [(0, _)], [_, _])) rfl ?_
    refine pm_Fv.gf rfl rfl H.m1 H.o1 rfl ?_
    have xs0 : z (105 + 3 * j) = z (105 + 3 * j) := rfl
    have ex := ev_exch L xs (z := z) jl H b0 (by rw [xs0]; exact cap.2.2.2.1) (by rw [xs0]; exact l.1) (by rw [xs0]; exact fun i i0 i1 => ⟨(l.2.1 i i0 i1).1, (l.2.1 i i0 i1).2.1⟩) b1 b2 (by rw [xs0]; exact cap.2.2.2.2) cap.1 cap.2.2.1
    refine pm_Fv.cvF rfl rfl rfl rfl (by decide) (Nat.le_of_ble_eq_true rfl) (Nat.le_of_ble_eq_true rfl) (H.ms jl) (H.os jl) ex (fun s1 q1 => ?_)
    obtain ⟨⟨ar9, H1, o9, l9, x9⟩, r1⟩ := q1
    rw [xs0] at x9
    refine pm_Fv.go 2 (f' := (55, 26, [(0, _)], [_, _])) rfl ?_
    refine pm_Fv.gf rfl rfl H1.m1 H1.o1 rfl ?_
    refine pm_Fv.go 1 (f' := (55, 30, [(0, _)], [_, _, _])) rfl ?_
    refine pm_Fv.iadd rfl ?_
    refine pm_Fv.pz H1 3 rfl rfl rfl (by decide) rfl rfl (Nat.le_of_ble_eq_true rfl) rfl (by decide) rfl (fun s2 H2 r2 => ?_)
    refine pm_Fv.go 2 (f' := (55, 36, [(0, _)], [_, _])) rfl ?_
    refine pm_Fv.gf rfl rfl H2.m1 H2.o1 rfl ?_
    rw [show hq_u z 3 (z 3 + 1) 4 = z 4 from rfl]
    refine pm_Fv.go 1 (f' := (55, 40, [(0, _)], [_, _, _])) rfl ?_
    refine pm_Fv.isub rfl ?_
    refine pm_Fv.pz H2 4 rfl rfl rfl (by decide) rfl rfl (Nat.le_of_ble_eq_true rfl) rfl (by decide) rfl (fun s3 H3 r3 => ?_)
    refine pm_Fv.go 1 (f' := (55, 45, [(0, _)], [_])) rfl ?_
    exact pm_Fv.rb rfl rfl (by decide) ⟨rfl, ⟨ar9, H3, o9, l9, x9⟩, (r3.trans (r2.trans r1))⟩
  · exact absurd h1 (by omega)
theorem ev_dundoN (H : Hp σ ad z ar lr) (c : z 5 = 0) (d : z 3 = 0) : pm_Fv (tq_P L xs) (pm_enter 18 [.ref 0]) σ (fun o s => o = .inl (some (.int (zI 0))) ∧ Hp s ad z ar lr ∧ s.2 = σ.2) := by
  show pm_Fv (tq_P L xs) (18, 0, [(0, .ref 0)], []) σ _
  refine pm_Fv.go 1 (f' := (18, 1, [(0, _)], [_])) rfl ?_
  refine pm_Fv.gf rfl rfl H.m0 H.o0 rfl ?_
  refine pm_Fv.gf rfl rfl H.m1 H.o1 rfl ?_
  rw [c]
  refine pm_Fv.zne rfl (by omega) rfl (fun h1 => ?_) (fun h1 => ?_)
  · exact absurd h1 (by omega)
  · refine pm_Fv.go 2 (f' := (18, 15, [(0, _)], [_])) rfl ?_
    refine pm_Fv.call rfl rfl rfl rfl rfl (ev_ckS1 L xs) ?_
    refine pm_Fv.go 1 (f' := (18, 19, [(0, _)], [_])) rfl ?_
    refine pm_Fv.gf rfl rfl H.m0 H.o0 rfl ?_
    refine pm_Fv.cvF rfl rfl rfl rfl (by decide) (Nat.le_of_ble_eq_true rfl) (Nat.le_of_ble_eq_true rfl) H.m1 H.o1 (ev_goBack0 L xs H d) (fun s1 q1 => ?_)
    obtain ⟨H1, r1⟩ := q1
    exact pm_Fv.rb rfl rfl (by decide) ⟨rfl, H1, r1⟩
theorem ev_dundo0 (H : Hp σ ad z ar lr) (c : z 5 = 0) (k3 : 0 < z 3 ∧ z 3 ≤ 60) {j : Nat} {B : Int} {P Q : Int → Int} (l : ls_ok (z (105 + 3 * j)) B (hq_g ar (5 + 3 * j + 1)) (hq_g ar (5 + 3 * j + 2)) P Q) (cap : (ar (5 + 3 * j + 1)).1 = (ar (5 + 3 * j + 2)).1 ∧ 4 ≤ (ar (5 + 3 * j + 1)).1 ∧ (ar (5 + 3 * j + 1)).1 ≤ 13602 ∧ 0 ≤ z (105 + 3 * j) ∧ z (105 + 3 * j) ≤ ((ar (5 + 3 * j + 1)).1 : Int)) (b0 : 0 ≤ B) (b1 : B ≤ ((ar 190).1 : Int)) (b2 : (ar 190).1 ≤ 13602) (k2 : 0 ≤ z 2 ∧ z 2 < 61) (jj : (j : Int) = (z 2 + (z 3 - 1)) % 61) : pm_Fv (tq_P L xs) (pm_enter 18 [.ref 0]) σ (fun o s => o = .inl (some (.int (zI 1))) ∧ (∃ ar', Hp s ad (hq_u (hq_u z 3 (z 3 - 1)) 4 (z 4 + 1)) ar' lr ∧ (∀ r, r ≠ 190 → r ≠ (5 + 3 * j + 2) → ar' r = ar r) ∧ (∀ r, (ar' r).1 = (ar r).1) ∧ ex_k (z (105 + 3 * j)) (hq_g ar 190) (hq_g ar (5 + 3 * j + 2)) (hq_g ar (5 + 3 * j + 1)) (hq_g ar' 190) (hq_g ar' (5 + 3 * j + 2))) ∧ s.2 = σ.2) := by
  show pm_Fv (tq_P L xs) (18, 0, [(0, .ref 0)], []) σ _
  refine pm_Fv.go 1 (f' := (18, 1, [(0, _)], [_])) rfl ?_
  refine pm_Fv.gf rfl rfl H.m0 H.o0 rfl ?_
  refine pm_Fv.gf rfl rfl H.m1 H.o1 rfl ?_
  rw [c]
  refine pm_Fv.zne rfl (by omega) rfl (fun h1 => ?_) (fun h1 => ?_)
  · exact absurd h1 (by omega)
  · refine pm_Fv.go 2 (f' := (18, 15, [(0, _)], [_])) rfl ?_
    refine pm_Fv.call rfl rfl rfl rfl rfl (ev_ckS1 L xs) ?_
    refine pm_Fv.go 1 (f' := (18, 19, [(0, _)], [_])) rfl ?_
    refine pm_Fv.gf rfl rfl H.m0 H.o0 rfl ?_
    refine pm_Fv.cvF rfl rfl rfl rfl (by decide) (Nat.le_of_ble_eq_true rfl) (Nat.le_of_ble_eq_true rfl) H.m1 H.o1 (ev_goBack L xs H k3 l cap b0 b1 b2 k2 jj) (fun s1 q1 => ?_)
    obtain ⟨H1, r1⟩ := q1
    exact pm_Fv.rb rfl rfl (by decide) ⟨rfl, H1, r1⟩
theorem ev_dredoN (H : Hp σ ad z ar lr) (c : z 5 = 0) (d : z 4 = 0) : pm_Fv (tq_P L xs) (pm_enter 19 [.ref 0]) σ (fun o s => o = .inl (some (.int (zI 0))) ∧ Hp s ad z ar lr ∧ s.2 = σ.2) := by
  show pm_Fv (tq_P L xs) (19, 0, [(0, .ref 0)], []) σ _
  refine pm_Fv.go 1 (f' := (19, 1, [(0, _)], [_])) rfl ?_
  refine pm_Fv.gf rfl rfl H.m0 H.o0 rfl ?_
  refine pm_Fv.gf rfl rfl H.m1 H.o1 rfl ?_
  rw [c]
  refine pm_Fv.zne rfl (by omega) rfl (fun h1 => ?_) (fun h1 => ?_)
  · exact absurd h1 (by omega)
  · refine pm_Fv.go 2 (f' := (19, 15, [(0, _)], [_])) rfl ?_
    refine pm_Fv.call rfl rfl rfl rfl rfl (ev_ckS1 L xs) ?_
    refine pm_Fv.go 1 (f' := (19, 19, [(0, _)], [_])) rfl ?_
    refine pm_Fv.gf rfl rfl H.m0 H.o0 rfl ?_
    refine pm_Fv.cvF rfl rfl rfl rfl (by decide) (Nat.le_of_ble_eq_true rfl) (Nat.le_of_ble_eq_true rfl) H.m1 H.o1 (ev_goForth0 L xs H d) (fun s1 q1 => ?_)
    obtain ⟨H1, r1⟩ := q1
    exact pm_Fv.rb rfl rfl (by decide) ⟨rfl, H1, r1⟩
theorem ev_dredo0 (H : Hp σ ad z ar lr) (c : z 5 = 0) (k3 : 0 ≤ z 3 ∧ z 3 ≤ 60) (k4 : 0 < z 4 ∧ z 4 ≤ 60) {j : Nat} {B : Int} {P Q : Int → Int} (l : ls_ok (z (105 + 3 * j)) B (hq_g ar (5 + 3 * j + 1)) (hq_g ar (5 + 3 * j + 2)) P Q) (cap : (ar (5 + 3 * j + 1)).1 = (ar (5 + 3 * j + 2)).1 ∧ 4 ≤ (ar (5 + 3 * j + 1)).1 ∧ (ar (5 + 3 * j + 1)).1 ≤ 13602 ∧ 0 ≤ z (105 + 3 * j) ∧ z (105 + 3 * j) ≤ ((ar (5 + 3 * j + 1)).1 : Int)) (b0 : 0 ≤ B) (b1 : B ≤ ((ar 190).1 : Int)) (b2 : (ar 190).1 ≤ 13602) (k2 : 0 ≤ z 2 ∧ z 2 < 61) (jj : (j : Int) = (z 2 + z 3) % 61) : pm_Fv (tq_P L xs) (pm_enter 19 [.ref 0]) σ (fun o s => o = .inl (some (.int (zI 1))) ∧ (∃ ar', Hp s ad (hq_u (hq_u z 3 (z 3 + 1)) 4 (z 4 - 1)) ar' lr ∧ (∀ r, r ≠ 190 → r ≠ (5 + 3 * j + 2) → ar' r = ar r) ∧ (∀ r, (ar' r).1 = (ar r).1) ∧ ex_k (z (105 + 3 * j)) (hq_g ar 190) (hq_g ar (5 + 3 * j + 2)) (hq_g ar (5 + 3 * j + 1)) (hq_g ar' 190) (hq_g ar' (5 + 3 * j + 2))) ∧ s.2 = σ.2) := by
  show pm_Fv (tq_P L xs) (19, 0, [(0, .ref 0)], []) σ _
  refine pm_Fv.go 1 (f' := (19, 1, [(0, _)], [_])) rfl ?_
  refine pm_Fv.gf rfl rfl H.m0 H.o0 rfl ?_
  refine pm_Fv.gf rfl rfl H.m1 H.o1 rfl ?_
  rw [c]
  refine pm_Fv.zne rfl (by omega) rfl (fun h1 => ?_) (fun h1 => ?_)
  · exact absurd h1 (by omega)
  · refine pm_Fv.go 2 (f' := (19, 15, [(0, _)], [_])) rfl ?_
    refine pm_Fv.call rfl rfl rfl rfl rfl (ev_ckS1 L xs) ?_
    refine pm_Fv.go 1 (f' := (19, 19, [(0, _)], [_])) rfl ?_
    refine pm_Fv.gf rfl rfl H.m0 H.o0 rfl ?_
    refine pm_Fv.cvF rfl rfl rfl rfl (by decide) (Nat.le_of_ble_eq_true rfl) (Nat.le_of_ble_eq_true rfl) H.m1 H.o1 (ev_goForth L xs H k3 k4 l cap b0 b1 b2 k2 jj) (fun s1 q1 => ?_)
    obtain ⟨H1, r1⟩ := q1
    exact pm_Fv.rb rfl rfl (by decide) ⟨rfl, H1, r1⟩
end MS
