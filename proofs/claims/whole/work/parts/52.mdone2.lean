/-! the reference: done -/
def mo_dn (z : Nat → Int) (ar : Nat → Nat × (Nat → Int32)) (z' : Nat → Int) (ar' : Nat → Nat × (Nat → Int32)) : Prop :=
  (mo_same ar 5600 ∧ z' = hq_u z 29 0 ∧ ar' = ar) ∨
  (¬ mo_same ar 5600 ∧ z 24 = 1 ∧ z' = hq_u (hq_u (hq_u z 29 0) 25 (z 25 + 1)) 22 (z 21) ∧ ar' = if z 25 = 0 then hq_cp ar 201 202 (5600 * (z 21 % 61)) 0 5600 else ar) ∨
  (¬ mo_same ar 5600 ∧ z 24 = 0 ∧ z' = mo_stz (hq_u z 29 0) ∧ ar' = hq_cp (hq_cp ar 201 202 (5600 * (z 21 % 61)) 0 5600) 201 200 (5600 * ((z 21 + 1) % 61)) 0 5600)
section MS
variable (L : Nat) (xs : Nat → Int32)
variable {σ : pm_S} {ad : Nat → Nat} {z : Nat → Int} {ar : Nat → Nat × (Nat → Int32)} {lr : Nat → Nat × (Nat → Int64)}
theorem ev_done (H : Hp σ ad z ar lr) (hl : (ar 200).1 = 5600 ∧ (ar 201).1 = 341600 ∧ (ar 202).1 = 5600) (hz : 0 ≤ z 21 ∧ z 21 < 90000 ∧ 0 ≤ z 20 ∧ z 20 ≤ z 21) (ho : z 24 = 0 ∨ z 24 = 1) (he : 0 ≤ z 25 ∧ z 25 ≤ 90000) : ∃ z' ar', mo_dn z ar z' ar' ∧ pm_Fv (tq_P L xs) (pm_enter 103 [.ref 199]) σ (fun o s => o = .inl none ∧ Hp s ad z' ar' lr ∧ s.2 = σ.2) := by
  show ∃ z' ar', mo_dn z ar z' ar' ∧ pm_Fv (tq_P L xs) (103, 0, [(0, .ref 199)], []) σ _
  have hlk : ((hq_cp ar 201 202 (5600 * (z 21 % 61)) 0 5600) 200).1 = 5600 ∧ ((hq_cp ar 201 202 (5600 * (z 21 % 61)) 0 5600) 201).1 = 341600 ∧ ((hq_cp ar 201 202 (5600 * (z 21 % 61)) 0 5600) 202).1 = 5600 := by
    rw [hq_cp_len, hq_cp_len, hq_cp_len]
    exact hl
  by_cases sm : mo_same ar 5600
  · refine ⟨_, _, Or.inl ⟨sm, rfl, rfl⟩, ?_⟩
    refine pm_Fv.go 2 (f' := (103, 2, [(0, _)], [_, _])) rfl ?_
    refine pm_Fv.pz H 29 rfl rfl rfl (by decide) rfl rfl (Nat.le_of_ble_eq_true rfl) rfl (by decide) rfl (fun s1 H1 r1 => ?_)
    refine pm_Fv.go 4 (f' := (103, 9, [(2, _), (1, _), (0, _)], [])) rfl ?_
    refine ev_doneL L xs H1 hl (fun t ht => ?_) 5600 0 1 (by omega) (by omega) (Or.inl ⟨rfl, fun k h1 h2 => absurd h1 (by omega)⟩)
    have t1 : t = 1 := ht.elim (fun q => q.1) (fun q => absurd sm q.2)
    subst t1
    refine pm_Fv.go 1 (f' := (103, 46, [(2, _), (1, _), (0, _)], [_])) rfl ?_
    refine pm_Fv.zeq rfl (by omega) rfl (fun h => absurd h (by omega)) (fun _ => ?_)
    exact pm_Fv.ret rfl rfl rfl rfl ⟨rfl, H1, r1⟩
  · rcases ho with o0 | o1
    · refine ⟨_, _, Or.inr (Or.inr ⟨sm, o0, rfl, rfl⟩), ?_⟩
      refine pm_Fv.go 2 (f' := (103, 2, [(0, _)], [_, _])) rfl ?_
      refine pm_Fv.pz H 29 rfl rfl rfl (by decide) rfl rfl (Nat.le_of_ble_eq_true rfl) rfl (by decide) rfl (fun s1 H1 r1 => ?_)
      refine pm_Fv.go 4 (f' := (103, 9, [(2, _), (1, _), (0, _)], [])) rfl ?_
      refine ev_doneL L xs H1 hl (fun t ht => ?_) 5600 0 1 (by omega) (by omega) (Or.inl ⟨rfl, fun k h1 h2 => absurd h1 (by omega)⟩)
      have t1 : t = 0 := ht.elim (fun q => absurd q.2 sm) (fun q => q.1)
      subst t1
      refine pm_Fv.go 1 (f' := (103, 46, [(2, _), (1, _), (0, _)], [_])) rfl ?_
      refine pm_Fv.zeq rfl (by omega) rfl (fun _ => ?_) (fun h => absurd rfl h)
      refine pm_Fv.go 1 (f' := (103, 51, [(2, _), (1, _), (0, _)], [_])) rfl ?_
      refine pm_Fv.gf rfl rfl H1.m199 H1.o199 rfl ?_
      rw [show hq_u z 29 0 24 = z 24 from rfl, o0]
      refine pm_Fv.zeq rfl (by omega) rfl (fun h1 => ?_) (fun h1 => ?_)
      · refine pm_Fv.go 1 (f' := (103, 88, [(2, _), (1, _), (0, _)], [_])) rfl ?_
        refine pm_Fv.cvF rfl rfl rfl rfl (by decide) (Nat.le_of_ble_eq_true rfl) (Nat.le_of_ble_eq_true rfl) H1.m199 H1.o199 (ev_keep L xs H1 hl (by show 0 ≤ z 21 ∧ z 21 ≤ 100000; omega)) (fun s2 q2 => ?_)
        obtain ⟨H2, r2⟩ := q2
        refine pm_Fv.go 1 (f' := (103, 92, [(2, _), (1, _), (0, _)], [_])) rfl ?_
        refine pm_Fv.cvF rfl rfl rfl rfl (by decide) (Nat.le_of_ble_eq_true rfl) (Nat.le_of_ble_eq_true rfl) H2.m199 H2.o199 (ev_step L xs H2 hlk (by show 0 ≤ z 21 ∧ z 21 < 100000 ∧ 0 ≤ z 20 ∧ z 20 ≤ z 21; omega)) (fun s3 q3 => ?_)
        obtain ⟨H3, r3⟩ := q3
        exact pm_Fv.ret rfl rfl rfl rfl ⟨rfl, H3, r3.trans (r2.trans r1)⟩
      · exact absurd rfl h1
    · by_cases e0 : z 25 = 0
      · refine ⟨_, _, Or.inr (Or.inl ⟨sm, o1, rfl, rfl⟩), ?_⟩
        rw [if_pos e0]
        refine pm_Fv.go 2 (f' := (103, 2, [(0, _)], [_, _])) rfl ?_
        refine pm_Fv.pz H 29 rfl rfl rfl (by decide) rfl rfl (Nat.le_of_ble_eq_true rfl) rfl (by decide) rfl (fun s1 H1 r1 => ?_)
        refine pm_Fv.go 4 (f' := (103, 9, [(2, _), (1, _), (0, _)], [])) rfl ?_
        refine ev_doneL L xs H1 hl (fun t ht => ?_) 5600 0 1 (by omega) (by omega) (Or.inl ⟨rfl, fun k h1 h2 => absurd h1 (by omega)⟩)
        have t1 : t = 0 := ht.elim (fun q => absurd q.2 sm) (fun q => q.1)
        subst t1
        refine pm_Fv.go 1 (f' := (103, 46, [(2, _), (1, _), (0, _)], [_])) rfl ?_
        refine pm_Fv.zeq rfl (by omega) rfl (fun _ => ?_) (fun h => absurd rfl h)
        refine pm_Fv.go 1 (f' := (103, 51, [(2, _), (1, _), (0, _)], [_])) rfl ?_
        refine pm_Fv.gf rfl rfl H1.m199 H1.o199 rfl ?_
        rw [show hq_u z 29 0 24 = z 24 from rfl, o1]
        refine pm_Fv.zeq rfl (by omega) rfl (fun h1 => ?_) (fun h1 => ?_)
        · exact absurd h1 (by omega)
        · refine pm_Fv.go 1 (f' := (103, 58, [(2, _), (1, _), (0, _)], [_])) rfl ?_
          refine pm_Fv.gf rfl rfl H1.m199 H1.o199 rfl ?_
          rw [show hq_u z 29 0 25 = z 25 from rfl]
          refine pm_Fv.zne rfl (by omega) rfl (fun h2 => ?_) (fun h2 => ?_)
          · exact absurd e0 h2
          · refine pm_Fv.go 1 (f' := (103, 65, [(2, _), (1, _), (0, _)], [_])) rfl ?_
            refine pm_Fv.cvF rfl rfl rfl rfl (by decide) (Nat.le_of_ble_eq_true rfl) (Nat.le_of_ble_eq_true rfl) H1.m199 H1.o199 (ev_keep L xs H1 hl (by show 0 ≤ z 21 ∧ z 21 ≤ 100000; omega)) (fun s2 q2 => ?_)
            obtain ⟨H2, r2⟩ := q2
            refine pm_Fv.go 2 (f' := (103, 70, [(2, _), (1, _), (0, _)], [_, _])) rfl ?_
            refine pm_Fv.gf rfl rfl H2.m199 H2.o199 rfl ?_
            rw [show hq_u z 29 0 25 = z 25 from rfl]
            refine pm_Fv.go 1 (f' := (103, 74, [(2, _), (1, _), (0, _)], [_, _, _])) rfl ?_
            refine pm_Fv.iadd rfl ?_
            refine pm_Fv.pz H2 25 rfl rfl rfl (by decide) rfl rfl (Nat.le_of_ble_eq_true rfl) rfl (by decide) rfl (fun s3 H3 r3 => ?_)
            refine pm_Fv.go 2 (f' := (103, 80, [(2, _), (1, _), (0, _)], [_, _])) rfl ?_
            refine pm_Fv.gf rfl rfl H3.m199 H3.o199 rfl ?_
            rw [show hq_u (hq_u z 29 0) 25 (z 25 + 1) 21 = z 21 from rfl]
            refine pm_Fv.pz H3 22 rfl rfl rfl (by decide) rfl rfl (Nat.le_of_ble_eq_true rfl) rfl (by decide) rfl (fun s4 H4 r4 => ?_)
            exact pm_Fv.ret rfl rfl rfl rfl ⟨rfl, H4, r4.trans (r3.trans (r2.trans r1))⟩
      · refine ⟨_, _, Or.inr (Or.inl ⟨sm, o1, rfl, rfl⟩), ?_⟩
        rw [if_neg e0]
        refine pm_Fv.go 2 (f' := (103, 2, [(0, _)], [_, _])) rfl ?_
        refine pm_Fv.pz H 29 rfl rfl rfl (by decide) rfl rfl (Nat.le_of_ble_eq_true rfl) rfl (by decide) rfl (fun s1 H1 r1 => ?_)
        refine pm_Fv.go 4 (f' := (103, 9, [(2, _), (1, _), (0, _)], [])) rfl ?_
        refine ev_doneL L xs H1 hl (fun t ht => ?_) 5600 0 1 (by omega) (by omega) (Or.inl ⟨rfl, fun k h1 h2 => absurd h1 (by omega)⟩)
        have t1 : t = 0 := ht.elim (fun q => absurd q.2 sm) (fun q => q.1)
        subst t1
        refine pm_Fv.go 1 (f' := (103, 46, [(2, _), (1, _), (0, _)], [_])) rfl ?_
        refine pm_Fv.zeq rfl (by omega) rfl (fun _ => ?_) (fun h => absurd rfl h)
        refine pm_Fv.go 1 (f' := (103, 51, [(2, _), (1, _), (0, _)], [_])) rfl ?_
        refine pm_Fv.gf rfl rfl H1.m199 H1.o199 rfl ?_
        rw [show hq_u z 29 0 24 = z 24 from rfl, o1]
        refine pm_Fv.zeq rfl (by omega) rfl (fun h1 => ?_) (fun h1 => ?_)
        · exact absurd h1 (by omega)
        · refine pm_Fv.go 1 (f' := (103, 58, [(2, _), (1, _), (0, _)], [_])) rfl ?_
          refine pm_Fv.gf rfl rfl H1.m199 H1.o199 rfl ?_
          rw [show hq_u z 29 0 25 = z 25 from rfl]
          refine pm_Fv.zne rfl (by omega) rfl (fun h2 => ?_) (fun h2 => ?_)
          · refine pm_Fv.go 2 (f' := (103, 70, [(2, _), (1, _), (0, _)], [_, _])) rfl ?_
            refine pm_Fv.gf rfl rfl H1.m199 H1.o199 rfl ?_
            rw [show hq_u z 29 0 25 = z 25 from rfl]
            refine pm_Fv.go 1 (f' := (103, 74, [(2, _), (1, _), (0, _)], [_, _, _])) rfl ?_
            refine pm_Fv.iadd rfl ?_
            refine pm_Fv.pz H1 25 rfl rfl rfl (by decide) rfl rfl (Nat.le_of_ble_eq_true rfl) rfl (by decide) rfl (fun s3 H3 r3 => ?_)
            refine pm_Fv.go 2 (f' := (103, 80, [(2, _), (1, _), (0, _)], [_, _])) rfl ?_
            refine pm_Fv.gf rfl rfl H3.m199 H3.o199 rfl ?_
            rw [show hq_u (hq_u z 29 0) 25 (z 25 + 1) 21 = z 21 from rfl]
            refine pm_Fv.pz H3 22 rfl rfl rfl (by decide) rfl rfl (Nat.le_of_ble_eq_true rfl) rfl (by decide) rfl (fun s4 H4 r4 => ?_)
            exact pm_Fv.ret rfl rfl rfl rfl ⟨rfl, H4, r4.trans (r3.trans r1)⟩
          · exact absurd h2 (fun q => q e0)
end MS
