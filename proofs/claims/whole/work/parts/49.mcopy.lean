/-! the reference: what is thrown; copies of the whole state -/
section MS
variable (L : Nat) (xs : Nat → Int32)
variable {σ : pm_S} {ad : Nat → Nat} {z : Nat → Int} {ar : Nat → Nat × (Nat → Int32)} {lr : Nat → Nat × (Nat → Int64)}
theorem ev_m_fails (H : Hp σ ad z ar lr) {t k : Int} (ht : t = 0 ∨ t = 1) : pm_Fv (tq_P L xs) (pm_enter 97 [.ref 199, .int (zI t), .int (zI k)]) σ (fun o s => o = .inl (some (.int (zI t))) ∧ Hp s ad (hq_u z 29 (if t = 0 then 0 else k)) ar lr ∧ s.2 = σ.2) := by
  show pm_Fv (tq_P L xs) (97, 0, [(0, .ref 199), (1, .int (zI t)), (2, .int (zI k))], []) σ _
  refine pm_Fv.go 2 (f' := (97, 2, [(0, _), (1, _), (2, _)], [_, _])) rfl ?_
  refine pm_Fv.zeq rfl (by omega) rfl (fun h1 => ?_) (fun h1 => ?_)
  · rw [if_pos h1]
    refine pm_Fv.go 1 (f' := (97, 10, [(0, _), (1, _), (2, _)], [_, _])) rfl ?_
    refine pm_Fv.pz H 29 rfl rfl rfl (by decide) rfl rfl (Nat.le_of_ble_eq_true rfl) rfl (by decide) rfl (fun s1 H1 r1 => ?_)
    refine pm_Fv.go 1 (f' := (97, 14, [(0, _), (1, _), (2, _)], [_])) rfl ?_
    exact pm_Fv.rb rfl rfl ht ⟨rfl, H1, r1⟩
  · rw [if_neg h1]
    refine pm_Fv.go 2 (f' := (97, 10, [(0, _), (1, _), (2, _)], [_, _])) rfl ?_
    refine pm_Fv.pz H 29 rfl rfl rfl (by decide) rfl rfl (Nat.le_of_ble_eq_true rfl) rfl (by decide) rfl (fun s1 H1 r1 => ?_)
    refine pm_Fv.go 1 (f' := (97, 14, [(0, _), (1, _), (2, _)], [_])) rfl ?_
    exact pm_Fv.rb rfl rfl ht ⟨rfl, H1, r1⟩
/-- the first j of an array are those of another -/
def hq_cp (ar : Nat → Nat × (Nat → Int32)) (r q : Nat) (b c : Int) (j : Int) : Nat → Nat × (Nat → Int32) := hq_u ar r ((ar r).1, fun i => if b ≤ i ∧ (i : Int) < b + j then (ar q).2 (i - b + c).toNat else (ar r).2 i)
theorem hq_cp_0 (ar : Nat → Nat × (Nat → Int32)) (r q : Nat) (b c : Int) : hq_cp ar r q b c 0 = ar := by
  unfold hq_cp hq_u
  funext s
  split
  · next h =>
    subst h
    refine Prod.ext rfl (funext fun i => ?_)
    exact if_neg (by omega)
  · rfl
theorem hq_cp_s (ar : Nat → Nat × (Nat → Int32)) {r q : Nat} (hq : q ≠ r) {b c j : Int} (hb : 0 ≤ b) (hj : 0 ≤ j) : hq_w (hq_cp ar r q b c j) r (b + j) (hq_g (hq_cp ar r q b c j) q (j + c)) = hq_cp ar r q b c (j + 1) := by
  unfold hq_w hq_g
  rw [zI_x]
  unfold hq_cp
  rw [hq_u_at, hq_u_ne hq]
  unfold hq_u
  funext s
  by_cases h : s = r
  · rw [if_pos h, if_pos h]
    refine Prod.ext rfl (funext fun i => ?_)
    show (if i = (b + j).toNat then (ar q).2 (j + c).toNat else if b ≤ i ∧ (i : Int) < b + j then (ar q).2 (i - b + c).toNat else (ar r).2 i) = _
    by_cases e : i = (b + j).toNat
    · rw [if_pos e]
      show _ = if b ≤ i ∧ (i : Int) < b + (j + 1) then (ar q).2 (i - b + c).toNat else (ar r).2 i
      rw [if_pos (by omega)]
      refine congrArg (ar q).2 ?_
      omega
    · rw [if_neg e]
      show (if b ≤ i ∧ (i : Int) < b + j then (ar q).2 (i - b + c).toNat else (ar r).2 i) = if b ≤ i ∧ (i : Int) < b + (j + 1) then (ar q).2 (i - b + c).toNat else (ar r).2 i
      by_cases e2 : b ≤ i ∧ (i : Int) < b + j
      · rw [if_pos e2, if_pos (by omega)]
      · rw [if_neg e2, if_neg (by omega)]
  · rw [if_neg h, if_neg h, if_neg h]
theorem hq_cp_len (ar : Nat → Nat × (Nat → Int32)) (r q : Nat) (b c j : Int) (s : Nat) : (hq_cp ar r q b c j s).1 = (ar s).1 := by
  unfold hq_cp hq_u
  split
  · next h => rw [h]
  · rfl
theorem ev_beginL (hl : (ar 200).1 = 5600) (hl2 : (ar 202).1 = 5600) : ∀ (n : Nat) (j : Int) (σ : pm_S), Hp σ ad z (hq_cp ar 202 200 0 0 j) lr → 0 ≤ j → j + n = 5600 → pm_Fv (tq_P L xs) (102, 2, [(1, .int (zI j)), (0, .ref 199)], []) σ (fun o s => o = .inl none ∧ Hp s ad z (hq_cp ar 202 200 0 0 5600) lr ∧ s.2 = σ.2) := by
  intro n
  induction n with
  | zero =>
    intro j σ H hj hn
    have e : j = 5600 := by omega
    subst e
    refine pm_Fv.go 1 (f' := (102, 3, [(1, _), (0, _)], [_])) rfl ?_
    refine pm_Fv.sp rfl rfl ?_
    refine pm_Fv.jge rfl (by omega) rfl (fun _ => ?_) (fun h => absurd h (by omega))
    exact pm_Fv.ret rfl rfl rfl rfl ⟨rfl, H, rfl⟩
  | succ n ih =>
    intro j σ H hj hn
    have l1 := hq_cp_len ar 202 200 0 0 j 200
    have l2 := hq_cp_len ar 202 200 0 0 j 202
    rw [hl] at l1
    rw [hl2] at l2
    refine pm_Fv.go 1 (f' := (102, 3, [(1, _), (0, _)], [_])) rfl ?_
    refine pm_Fv.sp rfl rfl ?_
    refine pm_Fv.jge rfl (by omega) rfl (fun h1 => ?_) (fun h1 => ?_)
    · exact absurd h1 (by omega)
    · refine pm_Fv.go 1 (f' := (102, 10, [(1, _), (0, _)], [_])) rfl ?_
      refine pm_Fv.gf rfl rfl H.m199 H.o199 rfl ?_
      refine pm_Fv.go 2 (f' := (102, 15, [(1, _), (0, _)], [_, _, _])) rfl ?_
      refine pm_Fv.gf rfl rfl H.m199 H.o199 rfl ?_
      refine pm_Fv.go 1 (f' := (102, 19, [(1, _), (0, _)], [_, _, _, _])) rfl ?_
      refine pm_Fv.fia H rfl (by decide) rfl rfl (by rw [l1]; omega) ?_
      refine pm_Fv.fis H rfl (by decide) rfl rfl (by rw [l2]; omega) (fun s1 H1 r1 => ?_)
      have cs := hq_cp_s ar (r := 202) (q := 200) (by decide) (b := 0) (c := 0) (j := j) (by omega) hj
      rw [Int.zero_add, Int.add_zero] at cs
      rw [cs] at H1
      refine pm_Fv.inc rfl rfl (Nat.le_of_ble_eq_true rfl) ?_
      refine pm_Fv.go 1 (f' := (102, 2, [(1, _), (0, _)], [])) rfl ?_
      exact (ih (j + 1) s1 H1 (by omega) (by omega)).mono (fun o s q => ⟨q.1, q.2.1, q.2.2.trans r1⟩)
theorem ev_begin (H : Hp σ ad z ar lr) (hl : (ar 200).1 = 5600) (hl2 : (ar 202).1 = 5600) : pm_Fv (tq_P L xs) (pm_enter 102 [.ref 199]) σ (fun o s => o = .inl none ∧ Hp s ad z (hq_cp ar 202 200 0 0 5600) lr ∧ s.2 = σ.2) := by
  show pm_Fv (tq_P L xs) (102, 0, [(0, .ref 199)], []) σ _
  refine pm_Fv.go 2 (f' := (102, 2, [(1, _), (0, _)], [])) rfl ?_
  exact ev_beginL L xs hl hl2 5600 0 σ (by rw [hq_cp_0]; exact H) (by omega) (by omega)
end MS
