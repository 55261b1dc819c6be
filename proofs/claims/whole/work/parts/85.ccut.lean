/-! the desk: a branch is cut out; an entry is born -/
section MS
variable (L : Nat) (xs : Nat → Int32)
variable {σ : pm_S} {ad : Nat → Nat} {z : Nat → Int} {ar : Nat → Nat × (Nat → Int32)} {lr : Nat → Nat × (Nat → Int64)}
variable {A C0 : Int → Int} {z0 : Nat → Int} {ar0 : Nat → Nat × (Nat → Int32)}
theorem ev_cutL {b e : Int} (b0 : 0 ≤ b) (be : b < e) (en : e ≤ C0 0) (n4 : C0 0 ≤ 400) (cr : ∀ i, 0 ≤ i → -2147483648 ≤ C0 i ∧ C0 i ≤ 2147483647) : ∀ (k : Nat) (p : Int) (ad : Nat → Nat) (z : Nat → Int) (ar : Nat → Nat × (Nat → Int32)) (σ : pm_S), Hp σ ad z ar lr → od_E A C0 z0 ar0 z ar → p + k = C0 0 → e ≤ p → (∀ i, 0 ≤ i → hq_g ar 190 i = if 1 + b ≤ i ∧ i < 1 + p - (e - b) then C0 (i + (e - b)) else C0 i) → pm_Fv (tq_P L xs) (78, 7, [(4, .int (zI p)), (3, .int (zI (e - b))), (0, .ref 188), (1, .int (zI b)), (2, .int (zI e))], []) σ (fun o s => o = .inl none ∧ ∃ ad' z' ar', Hp s ad' z' ar' lr ∧ od_E A C0 z0 ar0 z' ar' ∧ (∀ i, 0 ≤ i → hq_g ar' 190 i = if i = 0 then C0 0 - (e - b) else if 1 + b ≤ i ∧ i < 1 + C0 0 - (e - b) then C0 (i + (e - b)) else C0 i) ∧ hq_rm σ ar lr s ar' lr) := by
  intro k
  induction k with
  | zero =>
    intro p ad z ar σ H E pk ep hc
    have m0 := E.h.m0
    have mz := E.m
    have c00 : hq_g ar 190 0 = C0 0 := by rw [hc 0 (by omega), if_neg (by omega)]
    have e1 : p = C0 0 := by omega
    have ct := ev_count L xs H E.h.le m0.1
    rw [c00] at ct
    refine pm_Fv.go 2 (f' := (78, 10, [(4, _), (3, _), (0, _), (1, _), (2, _)], [_, _])) rfl ?_
    refine pm_Fv.cv rfl rfl rfl rfl (by decide) (Nat.le_of_ble_eq_true rfl) (Nat.le_of_ble_eq_true rfl) H.m188 H.o188 (ct) ?_
    refine pm_Fv.jge rfl (by omega) rfl (fun h1 => ?_) (fun h1 => ?_)
    · refine pm_Fv.go 1 (f' := (78, 42, [(4, _), (3, _), (0, _), (1, _), (2, _)], [_])) rfl ?_
      refine pm_Fv.gf rfl rfl H.m188 H.o188 rfl ?_
      refine pm_Fv.go 2 (f' := (78, 47, [(4, _), (3, _), (0, _), (1, _), (2, _)], [_, _, _])) rfl ?_
      refine pm_Fv.cv rfl rfl rfl rfl (by decide) (Nat.le_of_ble_eq_true rfl) (Nat.le_of_ble_eq_true rfl) H.m188 H.o188 (ct) ?_
      refine pm_Fv.go 1 (f' := (78, 51, [(4, _), (3, _), (0, _), (1, _), (2, _)], [_, _, _, _])) rfl ?_
      refine pm_Fv.isub rfl ?_
      refine pm_Fv.cvF rfl rfl rfl rfl (by decide) (Nat.le_of_ble_eq_true rfl) (Nat.le_of_ble_eq_true rfl) H.m1 H.o1 (ev_wE L xs H E (by omega) (by omega) (by omega) c00) (fun s1 q1 => ?_)
      obtain ⟨ad1, z1, ar1, H1, E1, g1, d1, m1⟩ := q1
      refine pm_Fv.ret rfl rfl rfl rfl ⟨rfl, ⟨ad1, z1, ar1, H1, E1, fun i i0 => ?_, m1⟩⟩
      rw [g1 i i0, hc i i0]
      by_cases x : i = 0
      · rw [if_pos x, if_pos x]
      · rw [if_neg x, if_neg x, e1]
    · exact absurd h1 (by omega)
  | succ k ih =>
    intro p ad z ar σ H E pk ep hc
    have m0 := E.h.m0
    have mz := E.m
    have c00 : hq_g ar 190 0 = C0 0 := by rw [hc 0 (by omega), if_neg (by omega)]
    have ct := ev_count L xs H E.h.le m0.1
    rw [c00] at ct
    have ea := ev_entryAt L xs H E.h.le m0.1 (p := p) (by omega)
    have ep1 : oI (hq_g ar 190) p = C0 (1 + p) := by
      unfold oI
      rw [hc (1 + p) (by omega), if_neg (by omega)]
    rw [ep1] at ea
    have cp := cr (1 + p) (by omega)
    refine pm_Fv.go 2 (f' := (78, 10, [(4, _), (3, _), (0, _), (1, _), (2, _)], [_, _])) rfl ?_
    refine pm_Fv.cv rfl rfl rfl rfl (by decide) (Nat.le_of_ble_eq_true rfl) (Nat.le_of_ble_eq_true rfl) H.m188 H.o188 (ct) ?_
    refine pm_Fv.jge rfl (by omega) rfl (fun h1 => ?_) (fun h1 => ?_)
    · exact absurd h1 (by omega)
    · refine pm_Fv.go 1 (f' := (78, 17, [(4, _), (3, _), (0, _), (1, _), (2, _)], [_])) rfl ?_
      refine pm_Fv.gf rfl rfl H.m188 H.o188 rfl ?_
      refine pm_Fv.go 2 (f' := (78, 23, [(4, _), (3, _), (0, _), (1, _), (2, _)], [_, _, _])) rfl ?_
      refine pm_Fv.iadd rfl ?_
      refine pm_Fv.go 1 (f' := (78, 25, [(4, _), (3, _), (0, _), (1, _), (2, _)], [_, _, _])) rfl ?_
      refine pm_Fv.isub rfl ?_
      refine pm_Fv.go 2 (f' := (78, 29, [(4, _), (3, _), (0, _), (1, _), (2, _)], [_, _, _, _])) rfl ?_
      refine pm_Fv.cv rfl rfl rfl rfl (by decide) (Nat.le_of_ble_eq_true rfl) (Nat.le_of_ble_eq_true rfl) H.m188 H.o188 (ea) ?_
      refine pm_Fv.cvF rfl rfl rfl rfl (by decide) (Nat.le_of_ble_eq_true rfl) (Nat.le_of_ble_eq_true rfl) H.m1 H.o1 (ev_wE L xs H E (c := 1 + p - (e - b)) (by omega) (by omega) cp (by rw [hc _ (by omega), if_neg (by omega)])) (fun s1 q1 => ?_)
      obtain ⟨ad1, z1, ar1, H1, E1, g1, d1, m1⟩ := q1
      refine pm_Fv.inc rfl rfl (Nat.le_of_ble_eq_true rfl) ?_
      refine pm_Fv.go 1 (f' := (78, 7, [(4, _), (3, _), (0, _), (1, _), (2, _)], [])) rfl ?_
      have kq := ih (p + 1) ad1 z1 ar1 s1 H1 E1 (by omega) (by omega) (fun i i0 => ?_)
      · refine pm_Fv.weak (kq.mono (fun o s q => ⟨q.1, ?_⟩)) rfl
        obtain ⟨ad', z', ar', H', E', c', m'⟩ := q.2
        exact ⟨ad', z', ar', H', E', c', hq_rm_tr m1 m'⟩
      · rw [g1 i i0, hc i i0]
        by_cases x : i = 1 + p - (e - b)
        · rw [if_pos x, if_pos (by omega), show i + (e - b) = 1 + p by omega]
        · rw [if_neg x]
          by_cases y : 1 + b ≤ i ∧ i < 1 + p - (e - b)
          · rw [if_pos y, if_pos (by omega)]
          · rw [if_neg y, if_neg (by omega)]
theorem ev_cut (H : Hp σ ad z ar lr) (E : od_E A C0 z0 ar0 z ar) (hc : ∀ i, 0 ≤ i → hq_g ar 190 i = C0 i) {b e : Int} (b0 : 0 ≤ b) (be : b < e) (en : e ≤ C0 0) (n4 : C0 0 ≤ 400) : pm_Fv (tq_P L xs) (pm_enter 78 [.ref 188, .int (zI b), .int (zI e)]) σ (fun o s => o = .inl none ∧ ∃ ad' z' ar', Hp s ad' z' ar' lr ∧ od_E A C0 z0 ar0 z' ar' ∧ (∀ i, 0 ≤ i → hq_g ar' 190 i = if i = 0 then C0 0 - (e - b) else if 1 + b ≤ i ∧ i < 1 + C0 0 - (e - b) then C0 (i + (e - b)) else C0 i) ∧ hq_rm σ ar lr s ar' lr) := by
  show pm_Fv (tq_P L xs) (78, 0, [(0, .ref 188), (1, .int (zI b)), (2, .int (zI e))], []) σ _
  refine pm_Fv.go 2 (f' := (78, 2, [(0, _), (1, _), (2, _)], [_, _])) rfl ?_
  refine pm_Fv.isub rfl ?_
  refine pm_Fv.go 3 (f' := (78, 7, [(4, _), (3, _), (0, _), (1, _), (2, _)], [])) rfl ?_
  exact ev_cutL L xs b0 be en n4 (fun i i0 => by rw [← hc i i0]; exact hq_g_r _ _ _) (C0 0 - e).toNat e ad z ar σ H E (by omega) (by omega) (fun i i0 => by rw [if_neg (by omega)]; exact hc i i0)
theorem ev_reach (H : Hp σ ad z ar lr) (ln : (ar 190).1 = (ar 191).1) (l4 : 401 ≤ (ar 190).1) (l5 : (ar 190).1 ≤ 13602) {k : Nat} (hk : k ≤ 6801) : pm_Fv (tq_P L xs) (pm_enter 47 [.ref 1, .int (zI (k : Int))]) σ (fun o s => o = .inl none ∧ ∃ ad' ar', Hp s ad' z ar' lr ∧ (∀ r, r ≠ 190 → r ≠ 191 → ar' r = ar r) ∧ (ar' 190).1 = (ar' 191).1 ∧ k ≤ (ar' 190).1 ∧ (ar 190).1 ≤ (ar' 190).1 ∧ (ar' 190).1 ≤ 13602 ∧ (∀ i, 0 ≤ i → i < ((ar 190).1 : Int) → hq_g ar' 190 i = hq_g ar 190 i ∧ hq_g ar' 191 i = hq_g ar 191 i) ∧ (∀ i, ((ar 190).1 : Int) ≤ i → i < ((ar' 190).1 : Int) → hq_g ar' 190 i = 0 ∧ hq_g ar' 191 i = 0) ∧ hq_rm σ ar lr s ar' lr) := by
  show pm_Fv (tq_P L xs) (47, 0, [(0, .ref 1), (1, .int (zI (k : Int)))], []) σ _
  by_cases c : k ≤ (ar 190).1
  · skip
    refine pm_Fv.go 2 (f' := (47, 2, [(0, _), (1, _)], [_, _])) rfl ?_
    refine pm_Fv.gf rfl rfl H.m1 H.o1 rfl ?_
    refine pm_Fv.dal H (r := 190) rfl (by decide) rfl ?_
    refine pm_Fv.jle rfl (by omega) rfl (fun h1 => ?_) (fun h1 => ?_)
    · exact pm_Fv.ret rfl rfl rfl rfl ⟨rfl, ⟨ad, ar, H, fun _ _ _ => rfl, ln, c, Nat.le_refl _, l5, fun _ _ _ => ⟨rfl, rfl⟩, fun i i0 i1 => absurd i1 (by omega), hq_rm_refl rfl⟩⟩
    · exact absurd h1 (by omega)
  · have em : (if ((k : Nat) : Int) < ((ar 190).1 : Int) * 2 then ((ar 190).1 : Int) * 2 else (k : Int)) = (((if k < (ar 190).1 * 2 then (ar 190).1 * 2 else k) : Nat) : Int) := by
      by_cases x : k < (ar 190).1 * 2
      · rw [if_pos x, if_pos (by omega)]
        omega
      · rw [if_neg x, if_neg (by omega)]
    have kl : (ar 190).1 < (if k < (ar 190).1 * 2 then (ar 190).1 * 2 else k) ∧ (if k < (ar 190).1 * 2 then (ar 190).1 * 2 else k) ≤ 13602 ∧ k ≤ (if k < (ar 190).1 * 2 then (ar 190).1 * 2 else k) ∧ 2 * (ar 190).1 ≤ (if k < (ar 190).1 * 2 then (ar 190).1 * 2 else k) := by split <;> omega
    generalize hK : (if k < (ar 190).1 * 2 then (ar 190).1 * 2 else k) = K at *
    have f0 : ∀ s, s < 209 → ad s ≠ σ.2.1 := fun s hs => Nat.ne_of_lt (H.lt hs)
    refine pm_Fv.go 2 (f' := (47, 2, [(0, _), (1, _)], [_, _])) rfl ?_
    refine pm_Fv.gf rfl rfl H.m1 H.o1 rfl ?_
    refine pm_Fv.dal H (r := 190) rfl (by decide) rfl ?_
    refine pm_Fv.jle rfl (by omega) rfl (fun h1 => ?_) (fun h1 => ?_)
    · exact absurd h1 (by omega)
    · refine pm_Fv.go 2 (f' := (47, 11, [(0, _), (1, _)], [_, _])) rfl ?_
      refine pm_Fv.gf rfl rfl H.m1 H.o1 rfl ?_
      refine pm_Fv.dal H (r := 190) rfl (by decide) rfl ?_
      refine pm_Fv.go 1 (f' := (47, 16, [(0, _), (1, _)], [_, _, _])) rfl ?_
      refine pm_Fv.imul rfl ?_
      refine pm_Fv.call rfl rfl rfl rfl rfl (ev_max L xs (by omega)) ?_
      rw [em]
      refine pm_Fv.go 3 (f' := (47, 23, [(2, _), (0, _), (1, _)], [_, _])) rfl ?_
      refine pm_Fv.gf rfl rfl H.m1 H.o1 rfl ?_
      refine pm_Fv.go 1 (f' := (47, 27, [(2, _), (0, _), (1, _)], [_, _, _])) rfl ?_
      refine pm_Fv.callF rfl rfl rfl rfl rfl (ev_copyOf L xs H (r := 190) (k := K) (by decide) rfl (by omega) (by omega)) (fun s1 q1 => ?_)
      obtain ⟨H1, r1, e1⟩ := q1
      refine pm_Fv.pmv H1 190 rfl rfl rfl (by decide) rfl rfl rfl (Nat.le_of_ble_eq_true rfl) rfl (by decide) rfl (f0) (by rw [r1]; exact Nat.lt_succ_self _) e1 (fun s2 H2 r2 => ?_)
      refine pm_Fv.go 2 (f' := (47, 35, [(2, _), (0, _), (1, _)], [_, _])) rfl ?_
      refine pm_Fv.gf rfl rfl H2.m1 H2.o1 rfl ?_
      refine pm_Fv.go 1 (f' := (47, 39, [(2, _), (0, _), (1, _)], [_, _, _])) rfl ?_
      refine pm_Fv.callF rfl rfl rfl rfl rfl (ev_copyOf L xs H2 (r := 191) (k := K) (by decide) rfl (by show (ar 191).1 < K; omega) (by omega)) (fun s3 q3 => ?_)
      obtain ⟨H3, r3, e3⟩ := q3
      refine pm_Fv.pmv H3 191 rfl rfl rfl (by decide) rfl rfl rfl (Nat.le_of_ble_eq_true rfl) rfl (by decide) rfl (fun s hs => Nat.ne_of_lt (H2.lt hs)) (by rw [r3]; exact Nat.lt_succ_self _) e3 (fun s4 H4 r4 => ?_)
      have q2 : ((hq_u ar 190 (K, hq_cpf (ar 190).1 (ar 190).2 0)) 191).1 = (ar 191).1 := rfl
      have po1 := hq_po_u (ar := ar) (lr := lr) (r := 190) (A := (K, hq_cpf (ar 190).1 (ar 190).2 0)) (by decide)
      have po2 := hq_po_u (ar := (hq_u ar 190 (K, hq_cpf (ar 190).1 (ar 190).2 0))) (lr := lr) (r := 191) (A := (K, hq_cpf ((hq_u ar 190 (K, hq_cpf (ar 190).1 (ar 190).2 0)) 191).1 ((hq_u ar 190 (K, hq_cpf (ar 190).1 (ar 190).2 0)) 191).2 0)) (by decide)
      dsimp only at po1 po2
      refine pm_Fv.ret rfl rfl rfl rfl ⟨rfl, ⟨_, (hq_u (hq_u ar 190 (K, hq_cpf (ar 190).1 (ar 190).2 0)) 191 (K, hq_cpf ((hq_u ar 190 (K, hq_cpf (ar 190).1 (ar 190).2 0)) 191).1 ((hq_u ar 190 (K, hq_cpf (ar 190).1 (ar 190).2 0)) 191).2 0)), H4, fun r r1 r2 => ?_, rfl, kl.2.2.1, Nat.le_of_lt kl.1, kl.2.1, fun i i0 i1 => ⟨?_, ?_⟩, fun i i0 i1 => ⟨?_, ?_⟩, ?_⟩⟩
      · rw [hq_u_ne r2, hq_u_ne r1]
      · show (if i.toNat < (ar 190).1 then (ar 190).2 i.toNat else 0).toInt = _
        rw [if_pos (by omega)]
        rfl
      · show (if i.toNat < (ar 191).1 then (ar 191).2 i.toNat else 0).toInt = _
        rw [if_pos (by omega)]
        rfl
      · show (if i.toNat < (ar 190).1 then (ar 190).2 i.toNat else 0).toInt = _
        rw [if_neg (by omega)]
        rfl
      · show (if i.toNat < (ar 191).1 then (ar 191).2 i.toNat else 0).toInt = _
        rw [if_neg (by omega)]
        rfl
      · have e6 : s4.2 = (σ.2.1 + 1 + 1, σ.2.2 + K + K) := by rw [r4, r3, r2, r1]
        unfold hq_rm
        rw [e6]
        show σ.2.2 + K + K + _ ≤ _ ∧ 4 * (σ.2.1 + 1 + 1) + _ ≤ _
        omega
end MS
