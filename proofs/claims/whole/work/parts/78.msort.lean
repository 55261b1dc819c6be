/-! the reference: sort -/
section MS
variable (L : Nat) (xs : Nat → Int32)
variable {σ : pm_S} {ad : Nat → Nat} {z : Nat → Int} {ar : Nat → Nat × (Nat → Int32)} {lr : Nat → Nat × (Nat → Int64)}
theorem ev_msort3 (h : mo_H z ar) {n : Int} {I D : Int → Int} (M : mo_R (mo_g ar) (z 23) n I D) {r y C : Int} {cp : Int → Int} (u0 : -1 ≤ r) (u1 : r < n ∨ r = -1) (hy : 0 ≤ y ∧ y ≤ 4) (hcp : fo_cp D n r cp) (hkr : ∀ x, 0 ≤ x → x < n → -2000000000 ≤ mo_ky (mo_g ar) I D n y x ∧ mo_ky (mo_g ar) I D n y x ≤ 2000000000) {Q : pm_O → pm_S → Prop} (kk : ∀ t E s, Hp t ad z (hq_sf ar 207 E) lr → so_S (fo_cc D n r) (fun k => (mo_ky (mo_g ar) I D n y (cp k) + C) * 400 + cp k) s → (∀ i, 0 ≤ i → i < fo_cc D n r → E i = I (s i % 400)) → t.2 = σ.2 → pm_Fv (tq_P L xs) (137, 175, [(3, .int (zI (fo_cc D n r))), (0, .ref 199), (1, .int (zI (fo_id I r))), (2, .int (zI y))], []) t Q) : ∀ (j : Nat) (k : Int) (E s : Int → Int) (t : pm_S), k + j = fo_cc D n r → 0 ≤ k → Hp t ad z (hq_sf ar 207 E) lr → so_S k (fun k => (mo_ky (mo_g ar) I D n y (cp k) + C) * 400 + cp k) s → (∀ i, 0 ≤ i → i < k → E i = I (s i % 400)) → (∀ i, k ≤ i → i < fo_cc D n r → E i = I (cp i)) → t.2 = σ.2 → pm_Fv (tq_P L xs) (137, 86, [(4, .int (zI k)), (3, .int (zI (fo_cc D n r))), (0, .ref 199), (1, .int (zI (fo_id I r))), (2, .int (zI y))], []) t Q := by
  intro j
  have cc := fo_cc_r M.W u0 u1
  have nm := M.nm
  have m4 := M.m4
  induction j with
  | zero =>
    intro k E s t kj k0 H S hE hF r0
    have e : k = fo_cc D n r := by omega
    rw [e] at S hE
    refine pm_Fv.go 2 (f' := (137, 89, [(4, _), (3, _), (0, _), (1, _), (2, _)], [_, _])) rfl ?_
    refine pm_Fv.jge rfl (by omega) rfl (fun h1 => ?_) (fun h1 => ?_)
    · exact pm_Fv.weak (kk t E s H S hE r0) rfl
    · exact absurd h1 (by omega)
  | succ j ih =>
    intro k E s t kj k0 H S hE hF r0
    have ck := hcp k k0 (by omega)
    have ek := hF k (Int.le_refl k) (by omega)
    have i0 := M.J.1 (cp k) ck.2.2.2.1 ck.2.2.2.2.1
    have i1 := M.lt (cp k) ck.2.2.2.1 ck.2.2.2.2.1
    have gk : hq_g (hq_sf ar 207 E) 207 k = I (cp k) := (hq_sf_g k0 (by rw [ek]; omega)).trans ek
    have ky : pm_Ev (tq_P L xs) (pm_enter 136 [.ref 199, .int (zI (I (cp k))), .int (zI y)]) t (.inl (some (.int (zI (mo_ky (mo_g ar) I D n y (cp k))))), t) := ev_mkey L xs H (show (ar 200).1 = 5600 from h.l0) M ck.2.2.2.1 ck.2.2.2.2.1 hy
    have mem : ∀ i, 0 ≤ i → i < k → ∃ j, 0 ≤ j ∧ j < k ∧ s i = (mo_ky (mo_g ar) I D n y (cp (j)) + C) * 400 + cp (j) := fun i i0 i1 => S.2.1 i i0 i1
    obtain ⟨p, p0, p1, p2, p3⟩ := so_pt (v := (mo_ky (mo_g ar) I D n y (cp (k)) + C) * 400 + cp (k)) S k0 (fun i i0 i1 => by
      obtain ⟨x, x0, x1, x2⟩ := mem i i0 i1
      have lt := fo_cp_lt M.W hcp x0 x1 (by omega)
      have cx := hcp x x0 (by omega)
      rw [x2]
      omega)
    have nx : ∀ t', Hp t' ad z (hq_sf ar 207 (so_in E p k (I (cp k)))) lr → t'.2 = σ.2 → pm_Fv (tq_P L xs) (137, 169, [(4, .int (zI k)), (3, .int (zI (fo_cc D n r))), (0, .ref 199), (1, .int (zI (fo_id I r))), (2, .int (zI y))], []) t' Q := by
      intro t' H' r'
      refine pm_Fv.inc rfl rfl (Nat.le_of_ble_eq_true rfl) ?_
      refine pm_Fv.go 1 (f' := (137, 86, [(4, _), (3, _), (0, _), (1, _), (2, _)], [])) rfl ?_
      have S' := so_S_in S k0 p0 p1 p2 p3
      refine ih (k + 1) (so_in E p k (I (cp k))) (so_in s p k ((mo_ky (mo_g ar) I D n y (cp (k)) + C) * 400 + cp (k))) t' (by omega) (by omega) H' ?_ (fun i i0 i1 => ?_) (fun i i0 i1 => ?_) r'
      · refine ⟨S'.1, fun i i0 i1 => ?_, fun i i0 i1 => ?_⟩
        · obtain ⟨x, x0, x1, x2⟩ := S'.2.1 i i0 i1
          refine ⟨x, x0, x1, x2.trans ?_⟩
          by_cases e : x = k
          · rw [e, iu_at]
          · rw [iu_ne e]
        · obtain ⟨x, x0, x1, x2⟩ := S'.2.2 i i0 i1
          refine ⟨x, x0, x1, x2.trans ?_⟩
          by_cases e : i = k
          · rw [e, iu_at]
          · rw [iu_ne e]
      · by_cases a : i < p
        · rw [so_in_lt a, so_in_lt a]
          exact hE i i0 (by omega)
        · by_cases b : i = p
          · rw [b, so_in_at, so_in_at, show ((mo_ky (mo_g ar) I D n y (cp (k)) + C) * 400 + cp (k)) % 400 = cp k by omega]
          · rw [so_in_gt (by omega) (by omega), so_in_gt (by omega) (by omega)]
            exact hE (i - 1) (by omega) (by omega)
      · unfold so_in
        rw [iu_ne (by omega)]
        unfold so_sh
        rw [if_neg (by omega)]
        exact hF i (by omega) i1
    refine pm_Fv.go 2 (f' := (137, 89, [(4, _), (3, _), (0, _), (1, _), (2, _)], [_, _])) rfl ?_
    refine pm_Fv.jge rfl (by omega) rfl (fun h1 => ?_) (fun h1 => ?_)
    · exact absurd h1 (by omega)
    · refine pm_Fv.go 1 (f' := (137, 93, [(4, _), (3, _), (0, _), (1, _), (2, _)], [_])) rfl ?_
      refine pm_Fv.gf rfl rfl H.m199 H.o199 rfl ?_
      refine pm_Fv.go 1 (f' := (137, 98, [(4, _), (3, _), (0, _), (1, _), (2, _)], [_, _])) rfl ?_
      refine pm_Fv.fia H rfl (by decide) rfl rfl (by show 0 ≤ k ∧ k < (ar 207).1 ∧ (ar 207).1 ≤ 2147483647; rw [h.l7]; omega) ?_
      rw [gk]
      refine pm_Fv.go 4 (f' := (137, 105, [(5, _), (4, _), (3, _), (0, _), (1, _), (2, _)], [_, _, _])) rfl ?_
      refine pm_Fv.cv rfl rfl rfl rfl (by decide) (Nat.le_of_ble_eq_true rfl) (Nat.le_of_ble_eq_true rfl) H.m199 H.o199 (ky) ?_
      refine pm_Fv.go 3 (f' := (137, 114, [(7, _), (6, _), (5, _), (4, _), (3, _), (0, _), (1, _), (2, _)], [])) rfl ?_
      exact ev_msort2 (σ := σ) L xs h M u0 u1 hy hcp hkr (E := E) (s := s) (k := k) (p := p) (by omega) p0 p1 (fun i i0 i1 => ⟨hE i i0 i1, mem i i0 i1⟩) p2 p3 nx (k - p).toNat k t (by omega) (by omega) (by rw [so_sh_c]; exact H) r0
theorem ev_msort4 (h : mo_H z ar) {I D E : Int → Int} {n r y m : Int} (hm : 0 ≤ m ∧ m ≤ 400) (hE : ∀ i, 0 ≤ i → i < m → 0 ≤ E i ∧ E i < 400) {Q : pm_O → pm_S → Prop} (g : Int → Int → Int) (kk : ∀ t, Hp t ad z (mo_w (hq_sf ar 207 E) (mo_so g E m.toNat)) lr → t.2 = σ.2 → pm_Fv (tq_P L xs) (137, 204, [(3, .int (zI m)), (0, .ref 199), (1, .int (zI (fo_id I r))), (2, .int (zI y))], []) t Q) : ∀ (j k : Nat) (t : pm_S), (k : Int) + j = m → Hp t ad z (mo_w (hq_sf ar 207 E) (mo_so g E k)) lr → t.2 = σ.2 → pm_Fv (tq_P L xs) (137, 178, [(4, .int (zI k)), (3, .int (zI m)), (0, .ref 199), (1, .int (zI (fo_id I r))), (2, .int (zI y))], []) t Q := by
  intro j
  induction j with
  | zero =>
    intro k t kj H r0
    have e : k = m.toNat := by omega
    rw [e] at H
    refine pm_Fv.go 2 (f' := (137, 181, [(4, _), (3, _), (0, _), (1, _), (2, _)], [_, _])) rfl ?_
    refine pm_Fv.jge rfl (by omega) rfl (fun h1 => ?_) (fun h1 => ?_)
    · exact pm_Fv.weak (kk t H r0) rfl
    · exact absurd h1 (by omega)
  | succ j ih =>
    intro k t kj H r0
    have ek := hE k (by omega) (by omega)
    have gk : hq_g (mo_w (hq_sf ar 207 E) (mo_so g E k)) 207 k = E k := hq_sf_g (ar := ar) (r := 207) (f := E) (j := k) (by omega) (by omega)
    refine pm_Fv.go 2 (f' := (137, 181, [(4, _), (3, _), (0, _), (1, _), (2, _)], [_, _])) rfl ?_
    refine pm_Fv.jge rfl (by omega) rfl (fun h1 => ?_) (fun h1 => ?_)
    · exact absurd h1 (by omega)
    · refine pm_Fv.go 2 (f' := (137, 186, [(4, _), (3, _), (0, _), (1, _), (2, _)], [_, _])) rfl ?_
      refine pm_Fv.gf rfl rfl H.m199 H.o199 rfl ?_
      refine pm_Fv.go 1 (f' := (137, 191, [(4, _), (3, _), (0, _), (1, _), (2, _)], [_, _, _])) rfl ?_
      refine pm_Fv.fia H rfl (by decide) rfl rfl (by show 0 ≤ (k : Int) ∧ (k : Int) < (ar 207).1 ∧ (ar 207).1 ≤ 2147483647; rw [h.l7]; omega) ?_
      rw [gk]
      refine pm_Fv.go 2 (f' := (137, 195, [(4, _), (3, _), (0, _), (1, _), (2, _)], [_, _, _, _])) rfl ?_
      refine pm_Fv.cvF rfl rfl rfl rfl (by decide) (Nat.le_of_ble_eq_true rfl) (Nat.le_of_ble_eq_true rfl) H.m199 H.o199 (ev_pw L xs H (show (ar 200).1 = 5600 from h.l0) (by omega)) (fun s1 q1 => ?_)
      obtain ⟨H1, r1⟩ := q1
      refine pm_Fv.inc rfl rfl (Nat.le_of_ble_eq_true rfl) ?_
      refine pm_Fv.go 1 (f' := (137, 178, [(4, _), (3, _), (0, _), (1, _), (2, _)], [])) rfl ?_
      have q := ih (k + 1) s1 (by omega) H1 (r1.trans r0)
      rw [show ((k + 1 : Nat) : Int) = (k : Int) + 1 by omega] at q
      exact pm_Fv.weak q rfl
theorem ev_msort_1 (H : Hp σ ad z ar lr) (h : mo_H z ar) {n : Int} {I D : Int → Int} (M : mo_R (mo_g ar) (z 23) n I D) {p y : Int} (hp : -2147483648 ≤ p ∧ p ≤ 2147483647) (n1 : p ≠ -1) (n2 : ∀ x, 0 ≤ x → x < n → I x ≠ p) : pm_Fv (tq_P L xs) (pm_enter 137 [.ref 199, .int (zI p), .int (zI y)]) σ (fun o s => o = .inl none ∧ Hp s ad (hq_u z 29 1) ar lr ∧ s.2 = σ.2) := by
  show pm_Fv (tq_P L xs) (137, 0, [(0, .ref 199), (1, .int (zI p)), (2, .int (zI y))], []) σ _
  have H0 : Hp σ ad (hq_u z 29 (z 29)) ar lr := by rw [hq_u_self]; exact H
  have hm : 0 ≤ z 23 ∧ z 23 ≤ 400 := ⟨M.m0, M.m4⟩
  refine pm_Fv.go 3 (f' := (137, 3, [(0, _), (1, _), (2, _)], [_, _, _])) rfl ?_
  refine pm_Fv.cv rfl rfl rfl rfl (by decide) (Nat.le_of_ble_eq_true rfl) (Nat.le_of_ble_eq_true rfl) H0.m199 H0.o199 (ev_noP L xs H0 h.l0 M hp n1 n2) ?_
  refine pm_Fv.zne rfl (by omega) rfl (fun h1 => ?_) (fun h1 => ?_)
  · exact absurd h1 (by omega)
  · refine pm_Fv.go 3 (f' := (137, 15, [(0, _), (1, _), (2, _)], [_, _, _])) rfl ?_
    refine pm_Fv.cvF rfl rfl rfl rfl (by decide) (Nat.le_of_ble_eq_true rfl) (Nat.le_of_ble_eq_true rfl) H0.m199 H0.o199 (ev_fo L xs H0) (fun s1 q1 => ?_)
    obtain ⟨H1, r1⟩ := q1
    refine pm_Fv.zne rfl (by omega) rfl (fun h2 => ?_) (fun h2 => ?_)
    · exact pm_Fv.ret rfl rfl rfl rfl ⟨rfl, H1, r1⟩
    · exact absurd h2 (by omega)
theorem ev_msort_2 (H : Hp σ ad z ar lr) (h : mo_H z ar) {n : Int} {I D : Int → Int} (M : mo_R (mo_g ar) (z 23) n I D) {r : Int} (u0 : -1 ≤ r) (u1 : r < n ∨ r = -1) {y : Int} (hy : -2147483648 ≤ y ∧ y ≤ 2147483647) (c : ¬ (0 ≤ y ∧ y ≤ 4)) : pm_Fv (tq_P L xs) (pm_enter 137 [.ref 199, .int (zI (fo_id I r)), .int (zI y)]) σ (fun o s => o = .inl none ∧ Hp s ad (hq_u z 29 2) ar lr ∧ s.2 = σ.2) := by
  show pm_Fv (tq_P L xs) (137, 0, [(0, .ref 199), (1, .int (zI (fo_id I r))), (2, .int (zI y))], []) σ _
  have H0 : Hp σ ad (hq_u z 29 (z 29)) ar lr := by rw [hq_u_self]; exact H
  have hm : 0 ≤ z 23 ∧ z 23 ≤ 400 := ⟨M.m0, M.m4⟩
  refine pm_Fv.go 3 (f' := (137, 3, [(0, _), (1, _), (2, _)], [_, _, _])) rfl ?_
  refine pm_Fv.cv rfl rfl rfl rfl (by decide) (Nat.le_of_ble_eq_true rfl) (Nat.le_of_ble_eq_true rfl) H0.m199 H0.o199 (ev_isP L xs H0 h.l0 M u0 u1) ?_
  refine pm_Fv.zne rfl (by omega) rfl (fun h1 => ?_) (fun h1 => ?_)
  · refine pm_Fv.go 2 (f' := (137, 15, [(0, _), (1, _), (2, _)], [_, _, _])) rfl ?_
    refine pm_Fv.cvF rfl rfl rfl rfl (by decide) (Nat.le_of_ble_eq_true rfl) (Nat.le_of_ble_eq_true rfl) H0.m199 H0.o199 (ev_fz L xs H0) (fun s1 q1 => ?_)
    obtain ⟨H1, r1⟩ := q1
    refine pm_Fv.zne rfl (by omega) rfl (fun h2 => ?_) (fun h2 => ?_)
    · exact absurd h2 (by omega)
    · refine pm_Fv.go 4 (f' := (137, 25, [(0, _), (1, _), (2, _)], [_, _, _, _])) rfl ?_
      refine pm_Fv.call rfl rfl rfl rfl rfl (ev_w0 L xs (by omega) c) ?_
      refine pm_Fv.zne rfl (by omega) rfl (fun h3 => ?_) (fun h3 => ?_)
      · exact absurd h3 (by omega)
      · refine pm_Fv.go 3 (f' := (137, 37, [(0, _), (1, _), (2, _)], [_, _, _])) rfl ?_
        refine pm_Fv.cvF rfl rfl rfl rfl (by decide) (Nat.le_of_ble_eq_true rfl) (Nat.le_of_ble_eq_true rfl) H1.m199 H1.o199 (ev_fo L xs H1) (fun s2 q2 => ?_)
        obtain ⟨H2, r2⟩ := q2
        refine pm_Fv.zeq rfl (by omega) rfl (fun h4 => ?_) (fun h4 => ?_)
        · exact absurd h4 (by omega)
        · exact pm_Fv.ret rfl rfl rfl rfl ⟨rfl, H2, (r2.trans r1)⟩
  · exact absurd h1 (by omega)
theorem ev_msort_0 (H : Hp σ ad z ar lr) (h : mo_H z ar) {n : Int} {I D : Int → Int} (M : mo_R (mo_g ar) (z 23) n I D) {r y C : Int} {cp : Int → Int} (u0 : -1 ≤ r) (u1 : r < n ∨ r = -1) (hy : 0 ≤ y ∧ y ≤ 4) (hcp : fo_cp D n r cp) (hkr : ∀ x, 0 ≤ x → x < n → -2000000000 ≤ mo_ky (mo_g ar) I D n y x ∧ mo_ky (mo_g ar) I D n y x ≤ 2000000000) : pm_Fv (tq_P L xs) (pm_enter 137 [.ref 199, .int (zI (fo_id I r)), .int (zI y)]) σ (fun o t => o = .inl none ∧ (∃ E s, so_S (fo_cc D n r) (fun k => (mo_ky (mo_g ar) I D n y (cp k) + C) * 400 + cp k) s ∧ (∀ i, 0 ≤ i → i < fo_cc D n r → E i = I (s i % 400)) ∧ ∃ z' ar', mo_ed (hq_u z 29 0) (hq_sf ar 207 E) (mo_so (mo_g ar) E (fo_cc D n r).toNat) z' ar' ∧ Hp t ad z' ar' lr) ∧ t.2 = σ.2) := by
  show pm_Fv (tq_P L xs) (137, 0, [(0, .ref 199), (1, .int (zI (fo_id I r))), (2, .int (zI y))], []) σ _
  have H0 : Hp σ ad (hq_u z 29 (z 29)) ar lr := by rw [hq_u_self]; exact H
  have cc := fo_cc_r M.W u0 u1
  have nm := M.nm
  have m4 := M.m4
  have hb : mo_H (hq_u z 29 0) (mo_bg ar) := mo_H.bg (z := hq_u z 29 0) h
  have Mb : mo_R (mo_g (mo_bg ar)) (hq_u z 29 0 23) n I D := M
  refine pm_Fv.go 3 (f' := (137, 3, [(0, _), (1, _), (2, _)], [_, _, _])) rfl ?_
  refine pm_Fv.cv rfl rfl rfl rfl (by decide) (Nat.le_of_ble_eq_true rfl) (Nat.le_of_ble_eq_true rfl) H0.m199 H0.o199 (ev_isP L xs H0 h.l0 M u0 u1) ?_
  refine pm_Fv.zne rfl (by omega) rfl (fun h1 => ?_) (fun h1 => ?_)
  · refine pm_Fv.go 2 (f' := (137, 15, [(0, _), (1, _), (2, _)], [_, _, _])) rfl ?_
    refine pm_Fv.cvF rfl rfl rfl rfl (by decide) (Nat.le_of_ble_eq_true rfl) (Nat.le_of_ble_eq_true rfl) H0.m199 H0.o199 (ev_fz L xs H0) (fun s1 q1 => ?_)
    obtain ⟨H1, r1⟩ := q1
    refine pm_Fv.zne rfl (by omega) rfl (fun h2 => ?_) (fun h2 => ?_)
    · exact absurd h2 (by omega)
    · refine pm_Fv.go 4 (f' := (137, 25, [(0, _), (1, _), (2, _)], [_, _, _, _])) rfl ?_
      refine pm_Fv.call rfl rfl rfl rfl rfl (ev_w1 L xs (by omega) hy) ?_
      refine pm_Fv.zne rfl (by omega) rfl (fun h3 => ?_) (fun h3 => ?_)
      · refine pm_Fv.go 2 (f' := (137, 37, [(0, _), (1, _), (2, _)], [_, _, _])) rfl ?_
        refine pm_Fv.cvF rfl rfl rfl rfl (by decide) (Nat.le_of_ble_eq_true rfl) (Nat.le_of_ble_eq_true rfl) H1.m199 H1.o199 (ev_fz L xs H1) (fun s2 q2 => ?_)
        obtain ⟨H2, r2⟩ := q2
        refine pm_Fv.zeq rfl (by omega) rfl (fun h4 => ?_) (fun h4 => ?_)
        · refine pm_Fv.go 1 (f' := (137, 45, [(0, _), (1, _), (2, _)], [_])) rfl ?_
          refine pm_Fv.cvF rfl rfl rfl rfl (by decide) (Nat.le_of_ble_eq_true rfl) (Nat.le_of_ble_eq_true rfl) H2.m199 H2.o199 (ev_begin L xs H2 h.l0 h.l2) (fun s3 q3 => ?_)
          obtain ⟨H3, r3⟩ := q3
          refine pm_Fv.go 2 (f' := (137, 50, [(0, _), (1, _), (2, _)], [_, _])) rfl ?_
          refine pm_Fv.cv rfl rfl rfl rfl (by decide) (Nat.le_of_ble_eq_true rfl) (Nat.le_of_ble_eq_true rfl) H3.m199 H3.o199 (ev_kids L xs H3 hb.l0 Mb u0 u1) ?_
          refine pm_Fv.go 3 (f' := (137, 57, [(4, _), (3, _), (0, _), (1, _), (2, _)], [])) rfl ?_
          refine ev_msort1 (σ := σ) L xs (C := C) hb Mb u0 u1 hy hcp hkr (fun t4 E4 H4 hE4 r4 => ?_) (fo_cc D n r).toNat 0 (hq_g (mo_bg ar) 207) s3 (by omega) (by omega) (by rw [hq_sf_self]; exact H3) (fun i i0 i1 => absurd i1 (by omega)) (r3.trans (r2.trans r1))
          refine pm_Fv.go 2 (f' := (137, 86, [(4, _), (3, _), (0, _), (1, _), (2, _)], [])) rfl ?_
          have k5 : ∀ t5 E s, Hp t5 ad (hq_u z 29 0) (hq_sf (mo_bg ar) 207 E) lr → so_S (fo_cc D n r) (fun k => (mo_ky (mo_g ar) I D n y (cp k) + C) * 400 + cp k) s → (∀ i, 0 ≤ i → i < fo_cc D n r → E i = I (s i % 400)) → t5.2 = σ.2 → pm_Fv (tq_P L xs) (137, 175, [(3, .int (zI (fo_cc D n r))), (0, .ref 199), (1, .int (zI (fo_id I r))), (2, .int (zI y))], []) t5 (fun o t => o = .inl none ∧ (∃ E s, so_S (fo_cc D n r) (fun k => (mo_ky (mo_g ar) I D n y (cp k) + C) * 400 + cp k) s ∧ (∀ i, 0 ≤ i → i < fo_cc D n r → E i = I (s i % 400)) ∧ ∃ z' ar', mo_ed (hq_u z 29 0) (hq_sf ar 207 E) (mo_so (mo_g ar) E (fo_cc D n r).toNat) z' ar' ∧ Hp t ad z' ar' lr) ∧ t.2 = σ.2) := by
            intro t5 E s H5 S hE r5
            refine pm_Fv.go 2 (f' := (137, 178, [(4, _), (3, _), (0, _), (1, _), (2, _)], [])) rfl ?_
            refine ev_msort4 (σ := σ) (ad := ad) (lr := lr) L xs hb (I := I) (D := D) (E := E) (n := n) (r := r) (y := y) (m := fo_cc D n r) (by omega) (fun i i0 i1 => ?_) (mo_g ar) (fun t6 H6 r6 => ?_) (fo_cc D n r).toNat 0 t5 (by omega) ?_ r5
            · obtain ⟨j, j0, j1, j2⟩ := S.2.1 i i0 i1
              have j3 : s i = (mo_ky (mo_g ar) I D n y (cp (j)) + C) * 400 + cp (j) := j2
              have cj := hcp j j0 j1
              rw [hE i i0 i1, show s i % 400 = cp j by omega]
              have := M.J.1 (cp j) cj.2.2.2.1 cj.2.2.2.2.1
              have := M.lt (cp j) cj.2.2.2.1 cj.2.2.2.2.1
              omega
            · refine pm_Fv.go 1 (f' := (137, 205, [(3, _), (0, _), (1, _), (2, _)], [_])) rfl ?_
              have H6' : Hp t6 ad (hq_u z 29 0) (mo_w (mo_bg (hq_sf ar 207 E)) (mo_so (mo_g ar) E (fo_cc D n r).toNat)) lr := by
                rw [← mo_bg_7]
                exact H6
              have hs : mo_H (hq_u z 29 0) (hq_sf ar 207 E) := mo_H.ln (z := z) h (hq_sf_len ar 207 E)
              refine pm_Fv.cvF rfl rfl rfl rfl (by decide) (Nat.le_of_ble_eq_true rfl) (Nat.le_of_ble_eq_true rfl) H6'.m199 H6'.o199 (ev_dne L xs H6' hs) (fun s7 q7 => ?_)
              obtain ⟨⟨z9, ar9, e9, H9⟩, r7⟩ := q7
              exact pm_Fv.ret rfl rfl rfl rfl ⟨rfl, ⟨E, s, S, hE, z9, ar9, e9, H9⟩, r7.trans r6⟩
            · show Hp t5 ad (hq_u z 29 0) (mo_w (hq_sf (mo_bg ar) 207 E) (mo_g (hq_sf (mo_bg ar) 207 E))) lr
              rw [mo_w_self]
              exact H5
          by_cases z0 : fo_cc D n r = 0
          · skip
            refine pm_Fv.go 2 (f' := (137, 89, [(4, _), (3, _), (0, _), (1, _), (2, _)], [_, _])) rfl ?_
            refine pm_Fv.jge rfl (by omega) rfl (fun h1 => ?_) (fun h1 => absurd h1 (by omega))
            refine pm_Fv.weak (k5 t4 E4 (fun _ => 0) H4 ?_ (fun i i0 i1 => absurd i1 (by omega)) r4) rfl
            rw [z0]
            exact so_S_0 _ _
          · have c0 := hcp 0 (by omega) (by omega)
            refine ev_msort3 (σ := σ) L xs hb Mb u0 u1 hy hcp hkr k5 (fo_cc D n r - 1).toNat 1 E4 (fun _ => (mo_ky (mo_g ar) I D n y (cp (0)) + C) * 400 + cp (0)) t4 (by omega) (by omega) H4 ?_ (fun i i0 i1 => ?_) (fun i i0 i1 => hE4 i (by omega) i1) r4
            · exact ⟨fun i j i0 ij jc => absurd jc (by omega), fun i i0 i1 => ⟨0, by omega, by omega, rfl⟩, fun j j0 j1 => ⟨0, by omega, by omega, by rw [show j = 0 by omega]; rfl⟩⟩
            · rw [show i = 0 by omega, hE4 0 (by omega) (by omega), show ((mo_ky (mo_g ar) I D n y (cp (0)) + C) * 400 + cp (0)) % 400 = cp 0 by omega]
        · exact absurd h4 (by omega)
      · exact absurd h3 (by omega)
  · exact absurd h1 (by omega)
end MS
