/-! the reference: what was, is kept and brought back -/
section MS
variable (L : Nat) (xs : Nat → Int32)
variable {σ : pm_S} {ad : Nat → Nat} {z : Nat → Int} {ar : Nat → Nat × (Nat → Int32)} {lr : Nat → Nat × (Nat → Int64)}
theorem ev_keepL (hl : (ar 200).1 = 5600 ∧ (ar 201).1 = 341600 ∧ (ar 202).1 = 5600) (hz : 0 ≤ z 21 ∧ z 21 ≤ 100000) : ∀ (n : Nat) (j : Int) (σ : pm_S), Hp σ ad z (hq_cp ar 201 202 (5600 * (z 21 % 61)) (0) j) lr → 0 ≤ j → j + n = 5600 → pm_Fv (tq_P L xs) (104, 2, [(1, .int (zI j)), (0, .ref 199)], []) σ (fun o s => o = .inl none ∧ Hp s ad z (hq_cp ar 201 202 (5600 * (z 21 % 61)) (0) 5600) lr ∧ s.2 = σ.2) := by
  intro n
  induction n with
  | zero =>
    intro j σ H hj hn
    have e : j = 5600 := by omega
    subst e
    refine pm_Fv.go 1 (f' := (104, 3, [(1, _), (0, _)], [_])) rfl ?_
    refine pm_Fv.sp rfl rfl ?_
    refine pm_Fv.jge rfl (by omega) rfl (fun _ => ?_) (fun h => absurd h (by omega))
    exact pm_Fv.ret rfl rfl rfl rfl ⟨rfl, H, rfl⟩
  | succ n ih =>
    intro j σ H hj hn
    have l1 := hq_cp_len ar 201 202 (5600 * (z 21 % 61)) (0) j 202
    have l2 := hq_cp_len ar 201 202 (5600 * (z 21 % 61)) (0) j 201
    have cs := hq_cp_s ar (r := 201) (q := 202) (by decide) (b := 5600 * (z 21 % 61)) (c := 0) (j := j) (by omega) hj
    refine pm_Fv.go 1 (f' := (104, 3, [(1, _), (0, _)], [_])) rfl ?_
    refine pm_Fv.sp rfl rfl ?_
    refine pm_Fv.jge rfl (by omega) rfl (fun h1 => ?_) (fun h1 => ?_)
    · exact absurd h1 (by omega)
    · refine pm_Fv.go 1 (f' := (104, 10, [(1, _), (0, _)], [_])) rfl ?_
      refine pm_Fv.gf rfl rfl H.m199 H.o199 rfl ?_
      refine pm_Fv.sp rfl rfl ?_
      refine pm_Fv.go 1 (f' := (104, 17, [(1, _), (0, _)], [_, _, _])) rfl ?_
      refine pm_Fv.gf rfl rfl H.m199 H.o199 rfl ?_
      refine pm_Fv.bp rfl rfl ?_
      refine pm_Fv.irem rfl (by omega) ?_
      refine pm_Fv.imul rfl ?_
      refine pm_Fv.go 1 (f' := (104, 25, [(1, _), (0, _)], [_, _, _])) rfl ?_
      refine pm_Fv.iadd rfl ?_
      refine pm_Fv.go 1 (f' := (104, 27, [(1, _), (0, _)], [_, _, _])) rfl ?_
      refine pm_Fv.gf rfl rfl H.m199 H.o199 rfl ?_
      refine pm_Fv.go 1 (f' := (104, 31, [(1, _), (0, _)], [_, _, _, _])) rfl ?_
      refine pm_Fv.fia H rfl (by decide) rfl rfl (by rw [l1]; omega) ?_
      refine pm_Fv.fis H rfl (by decide) rfl rfl (by rw [l2]; omega) (fun s1 H1 r1 => ?_)
      rw [Int.add_zero] at cs
      rw [cs] at H1
      refine pm_Fv.inc rfl rfl (Nat.le_of_ble_eq_true rfl) ?_
      refine pm_Fv.go 1 (f' := (104, 2, [(1, _), (0, _)], [])) rfl ?_
      exact (ih (j + 1) s1 H1 (by omega) (by omega)).mono (fun o s q => ⟨q.1, q.2.1, q.2.2.trans r1⟩)
theorem ev_stepL (hl : (ar 200).1 = 5600 ∧ (ar 201).1 = 341600 ∧ (ar 202).1 = 5600) (hz : 0 ≤ z 21 ∧ z 21 ≤ 100000) : ∀ (n : Nat) (j : Int) (σ : pm_S), Hp σ ad z (hq_cp ar 201 200 (5600 * (z 21 % 61)) (0) j) lr → 0 ≤ j → j + n = 5600 → pm_Fv (tq_P L xs) (105, 45, [(1, .int (zI j)), (0, .ref 199)], []) σ (fun o s => o = .inl none ∧ Hp s ad z (hq_cp ar 201 200 (5600 * (z 21 % 61)) (0) 5600) lr ∧ s.2 = σ.2) := by
  intro n
  induction n with
  | zero =>
    intro j σ H hj hn
    have e : j = 5600 := by omega
    subst e
    refine pm_Fv.go 1 (f' := (105, 46, [(1, _), (0, _)], [_])) rfl ?_
    refine pm_Fv.sp rfl rfl ?_
    refine pm_Fv.jge rfl (by omega) rfl (fun _ => ?_) (fun h => absurd h (by omega))
    exact pm_Fv.ret rfl rfl rfl rfl ⟨rfl, H, rfl⟩
  | succ n ih =>
    intro j σ H hj hn
    have l1 := hq_cp_len ar 201 200 (5600 * (z 21 % 61)) (0) j 200
    have l2 := hq_cp_len ar 201 200 (5600 * (z 21 % 61)) (0) j 201
    have cs := hq_cp_s ar (r := 201) (q := 200) (by decide) (b := 5600 * (z 21 % 61)) (c := 0) (j := j) (by omega) hj
    refine pm_Fv.go 1 (f' := (105, 46, [(1, _), (0, _)], [_])) rfl ?_
    refine pm_Fv.sp rfl rfl ?_
    refine pm_Fv.jge rfl (by omega) rfl (fun h1 => ?_) (fun h1 => ?_)
    · exact absurd h1 (by omega)
    · refine pm_Fv.go 1 (f' := (105, 53, [(1, _), (0, _)], [_])) rfl ?_
      refine pm_Fv.gf rfl rfl H.m199 H.o199 rfl ?_
      refine pm_Fv.sp rfl rfl ?_
      refine pm_Fv.go 1 (f' := (105, 60, [(1, _), (0, _)], [_, _, _])) rfl ?_
      refine pm_Fv.gf rfl rfl H.m199 H.o199 rfl ?_
      refine pm_Fv.bp rfl rfl ?_
      refine pm_Fv.irem rfl (by omega) ?_
      refine pm_Fv.imul rfl ?_
      refine pm_Fv.go 1 (f' := (105, 68, [(1, _), (0, _)], [_, _, _])) rfl ?_
      refine pm_Fv.iadd rfl ?_
      refine pm_Fv.go 1 (f' := (105, 70, [(1, _), (0, _)], [_, _, _])) rfl ?_
      refine pm_Fv.gf rfl rfl H.m199 H.o199 rfl ?_
      refine pm_Fv.go 1 (f' := (105, 74, [(1, _), (0, _)], [_, _, _, _])) rfl ?_
      refine pm_Fv.fia H rfl (by decide) rfl rfl (by rw [l1]; omega) ?_
      refine pm_Fv.fis H rfl (by decide) rfl rfl (by rw [l2]; omega) (fun s1 H1 r1 => ?_)
      rw [Int.add_zero] at cs
      rw [cs] at H1
      refine pm_Fv.inc rfl rfl (Nat.le_of_ble_eq_true rfl) ?_
      refine pm_Fv.go 1 (f' := (105, 45, [(1, _), (0, _)], [])) rfl ?_
      exact (ih (j + 1) s1 H1 (by omega) (by omega)).mono (fun o s q => ⟨q.1, q.2.1, q.2.2.trans r1⟩)
theorem ev_loadL (hl : (ar 200).1 = 5600 ∧ (ar 201).1 = 341600 ∧ (ar 202).1 = 5600) (hz : 0 ≤ z 21 ∧ z 21 ≤ 100000) : ∀ (n : Nat) (j : Int) (σ : pm_S), Hp σ ad z (hq_cp ar 200 201 (0) (5600 * (z 21 % 61)) j) lr → 0 ≤ j → j + n = 5600 → pm_Fv (tq_P L xs) (106, 2, [(1, .int (zI j)), (0, .ref 199)], []) σ (fun o s => o = .inl none ∧ Hp s ad z (hq_cp ar 200 201 (0) (5600 * (z 21 % 61)) 5600) lr ∧ s.2 = σ.2) := by
  intro n
  induction n with
  | zero =>
    intro j σ H hj hn
    have e : j = 5600 := by omega
    subst e
    refine pm_Fv.go 1 (f' := (106, 3, [(1, _), (0, _)], [_])) rfl ?_
    refine pm_Fv.sp rfl rfl ?_
    refine pm_Fv.jge rfl (by omega) rfl (fun _ => ?_) (fun h => absurd h (by omega))
    exact pm_Fv.ret rfl rfl rfl rfl ⟨rfl, H, rfl⟩
  | succ n ih =>
    intro j σ H hj hn
    have l1 := hq_cp_len ar 200 201 (0) (5600 * (z 21 % 61)) j 201
    have l2 := hq_cp_len ar 200 201 (0) (5600 * (z 21 % 61)) j 200
    have cs := hq_cp_s ar (r := 200) (q := 201) (by decide) (b := 0) (c := 5600 * (z 21 % 61)) (j := j) (by omega) hj
    refine pm_Fv.go 1 (f' := (106, 3, [(1, _), (0, _)], [_])) rfl ?_
    refine pm_Fv.sp rfl rfl ?_
    refine pm_Fv.jge rfl (by omega) rfl (fun h1 => ?_) (fun h1 => ?_)
    · exact absurd h1 (by omega)
    · refine pm_Fv.go 1 (f' := (106, 10, [(1, _), (0, _)], [_])) rfl ?_
      refine pm_Fv.gf rfl rfl H.m199 H.o199 rfl ?_
      refine pm_Fv.go 2 (f' := (106, 15, [(1, _), (0, _)], [_, _, _])) rfl ?_
      refine pm_Fv.gf rfl rfl H.m199 H.o199 rfl ?_
      refine pm_Fv.sp rfl rfl ?_
      refine pm_Fv.go 1 (f' := (106, 22, [(1, _), (0, _)], [_, _, _, _, _])) rfl ?_
      refine pm_Fv.gf rfl rfl H.m199 H.o199 rfl ?_
      refine pm_Fv.bp rfl rfl ?_
      refine pm_Fv.irem rfl (by omega) ?_
      refine pm_Fv.imul rfl ?_
      refine pm_Fv.go 1 (f' := (106, 30, [(1, _), (0, _)], [_, _, _, _, _])) rfl ?_
      refine pm_Fv.iadd rfl ?_
      refine pm_Fv.fia H rfl (by decide) rfl rfl (by rw [l1]; omega) ?_
      refine pm_Fv.fis H rfl (by decide) rfl rfl (by rw [l2]; omega) (fun s1 H1 r1 => ?_)
      rw [Int.zero_add, Int.add_comm j] at cs
      rw [cs] at H1
      refine pm_Fv.inc rfl rfl (Nat.le_of_ble_eq_true rfl) ?_
      refine pm_Fv.go 1 (f' := (106, 2, [(1, _), (0, _)], [])) rfl ?_
      exact (ih (j + 1) s1 H1 (by omega) (by omega)).mono (fun o s q => ⟨q.1, q.2.1, q.2.2.trans r1⟩)
theorem ev_keep (H : Hp σ ad z ar lr) (hl : (ar 200).1 = 5600 ∧ (ar 201).1 = 341600 ∧ (ar 202).1 = 5600) (hz : 0 ≤ z 21 ∧ z 21 ≤ 100000) : pm_Fv (tq_P L xs) (pm_enter 104 [.ref 199]) σ (fun o s => o = .inl none ∧ Hp s ad z (hq_cp ar 201 202 (5600 * (z 21 % 61)) 0 5600) lr ∧ s.2 = σ.2) := by
  show pm_Fv (tq_P L xs) (104, 0, [(0, .ref 199)], []) σ _
  refine pm_Fv.go 2 (f' := (104, 2, [(1, _), (0, _)], [])) rfl ?_
  exact ev_keepL L xs hl hz 5600 0 σ (by rw [hq_cp_0]; exact H) (by omega) (by omega)
theorem ev_load (H : Hp σ ad z ar lr) (hl : (ar 200).1 = 5600 ∧ (ar 201).1 = 341600 ∧ (ar 202).1 = 5600) (hz : 0 ≤ z 21 ∧ z 21 ≤ 100000) : pm_Fv (tq_P L xs) (pm_enter 106 [.ref 199]) σ (fun o s => o = .inl none ∧ Hp s ad z (hq_cp ar 200 201 0 (5600 * (z 21 % 61)) 5600) lr ∧ s.2 = σ.2) := by
  show pm_Fv (tq_P L xs) (106, 0, [(0, .ref 199)], []) σ _
  refine pm_Fv.go 2 (f' := (106, 2, [(1, _), (0, _)], [])) rfl ?_
  exact ev_loadL L xs hl hz 5600 0 σ (by rw [hq_cp_0]; exact H) (by omega) (by omega)
def mo_stz (z : Nat → Int) : Nat → Int := if z 21 + 1 - z 20 ≤ 60 then hq_u (hq_u z 21 (z 21 + 1)) 22 (z 21 + 1) else hq_u (hq_u (hq_u z 21 (z 21 + 1)) 22 (z 21 + 1)) 20 (z 21 + 1 - 60)
theorem mo_stz_21 (z : Nat → Int) : mo_stz z 21 = z 21 + 1 := by
  unfold mo_stz
  split <;> rfl
theorem ev_step (H : Hp σ ad z ar lr) (hl : (ar 200).1 = 5600 ∧ (ar 201).1 = 341600 ∧ (ar 202).1 = 5600) (hz : 0 ≤ z 21 ∧ z 21 < 100000 ∧ 0 ≤ z 20 ∧ z 20 ≤ z 21) : pm_Fv (tq_P L xs) (pm_enter 105 [.ref 199]) σ (fun o s => o = .inl none ∧ Hp s ad (mo_stz z) (hq_cp ar 201 200 (5600 * ((z 21 + 1) % 61)) 0 5600) lr ∧ s.2 = σ.2) := by
  show pm_Fv (tq_P L xs) (105, 0, [(0, .ref 199)], []) σ _
  refine pm_Fv.go 2 (f' := (105, 2, [(0, _)], [_, _])) rfl ?_
  refine pm_Fv.gf rfl rfl H.m199 H.o199 rfl ?_
  refine pm_Fv.go 1 (f' := (105, 6, [(0, _)], [_, _, _])) rfl ?_
  refine pm_Fv.iadd rfl ?_
  refine pm_Fv.pz H 21 rfl rfl rfl (by decide) rfl rfl (Nat.le_of_ble_eq_true rfl) rfl (by decide) rfl (fun s1 H1 r1 => ?_)
  refine pm_Fv.go 2 (f' := (105, 12, [(0, _)], [_, _])) rfl ?_
  refine pm_Fv.gf rfl rfl H1.m199 H1.o199 rfl ?_
  rw [show hq_u z 21 (z 21 + 1) 21 = z 21 + 1 from rfl]
  refine pm_Fv.pz H1 22 rfl rfl rfl (by decide) rfl rfl (Nat.le_of_ble_eq_true rfl) rfl (by decide) rfl (fun s2 H2 r2 => ?_)
  refine pm_Fv.go 1 (f' := (105, 19, [(0, _)], [_])) rfl ?_
  refine pm_Fv.gf rfl rfl H2.m199 H2.o199 rfl ?_
  refine pm_Fv.go 1 (f' := (105, 23, [(0, _)], [_, _])) rfl ?_
  refine pm_Fv.gf rfl rfl H2.m199 H2.o199 rfl ?_
  rw [show hq_u (hq_u z 21 (z 21 + 1)) 22 (z 21 + 1) 21 = z 21 + 1 from rfl, show hq_u (hq_u z 21 (z 21 + 1)) 22 (z 21 + 1) 20 = z 20 from rfl]
  refine pm_Fv.isub rfl ?_
  refine pm_Fv.bp rfl rfl ?_
  refine pm_Fv.jle rfl (by omega) rfl (fun h1 => ?_) (fun h1 => ?_)
  · have em : mo_stz z = hq_u (hq_u z 21 (z 21 + 1)) 22 (z 21 + 1) := if_pos h1
    have e21 := mo_stz_21 z
    have H3 := H2
    rw [← em] at H3
    refine pm_Fv.go 2 (f' := (105, 45, [(1, _), (0, _)], [])) rfl ?_
    refine (ev_stepL L xs (z := mo_stz z) hl (by rw [e21]; omega) 5600 0 s2 (by rw [hq_cp_0]; exact H3) (by omega) (by omega)).mono (fun o s q => ⟨q.1, ?_, q.2.2.trans (r2.trans r1)⟩)
    rw [← e21]
    exact q.2.1
  · have em : mo_stz z = hq_u (hq_u (hq_u z 21 (z 21 + 1)) 22 (z 21 + 1)) 20 (z 21 + 1 - 60) := if_neg h1
    have e21 := mo_stz_21 z
    refine pm_Fv.go 2 (f' := (105, 34, [(0, _)], [_, _])) rfl ?_
    refine pm_Fv.gf rfl rfl H2.m199 H2.o199 rfl ?_
    rw [show hq_u (hq_u z 21 (z 21 + 1)) 22 (z 21 + 1) 21 = z 21 + 1 from rfl]
    refine pm_Fv.bp rfl rfl ?_
    refine pm_Fv.isub rfl ?_
    refine pm_Fv.pz H2 20 rfl rfl rfl (by decide) rfl rfl (Nat.le_of_ble_eq_true rfl) rfl (by decide) rfl (fun s3 H3 r3 => ?_)
    have H4 : Hp s3 ad (mo_stz z) ar lr := em ▸ H3
    refine pm_Fv.go 2 (f' := (105, 45, [(1, _), (0, _)], [])) rfl ?_
    refine (ev_stepL L xs (z := mo_stz z) hl (by rw [e21]; omega) 5600 0 s3 (by rw [hq_cp_0]; exact H4) (by omega) (by omega)).mono (fun o s q => ⟨q.1, ?_, q.2.2.trans (r3.trans (r2.trans r1))⟩)
    rw [← e21]
    exact q.2.1
end MS
