/-! the desk: agenda -/
theorem fd_c_cg {q q' : Int → Int} {k : Int} (h : ∀ u, 0 ≤ u → u < k → q u = q' u) : fd_c q k = fd_c q' k := by
  unfold fd_c
  exact fs_cg (fun u u0 u1 => by rw [h u u0 u1])
theorem fd_a_cg {q q' f f' A : Int → Int} : ∀ (k : Nat), (∀ u, 0 ≤ u → u < (k : Int) → q u = q' u ∧ f u = f' u) → fd_a q f A k = fd_a q' f' A k
  | 0, _ => rfl
  | k + 1, h => by
    have a := h k (by omega) (by omega)
    rw [fd_a, fd_a, fd_a_cg k (fun u u0 u1 => h u u0 (by omega)), a.1, a.2, fd_c_cg (q := q) (q' := q') (fun u u0 u1 => (h u u0 (by omega)).1)]
theorem fd_a_inj {q f A : Int → Int} : ∀ (k : Nat), (∀ u v, 0 ≤ u → u < (k : Int) → 0 ≤ v → v < (k : Int) → q u = 1 → q v = 1 → f u = f v → u = v) → ∀ i j, 0 ≤ i → i < fd_c q k → 0 ≤ j → j < fd_c q k → fd_a q f A k i = fd_a q f A k j → i = j
  | 0, _, i, j, i0, i1, _, _, _ => by
    rw [show ((0 : Nat) : Int) = 0 from rfl, fd_c_0] at i1
    omega
  | k + 1, h, i, j, i0, i1, j0, j1, e => by
    have hk := fd_a_inj (q := q) (f := f) (A := A) k (fun u v u0 u1 v0 v1 => h u v u0 (by omega) v0 (by omega))
    rw [show ((k + 1 : Nat) : Int) = (k : Int) + 1 by omega, fd_c_s q (by omega)] at i1 j1
    rw [fd_a] at e
    by_cases c : q k = 1
    · rw [if_pos c] at i1 j1 e
      by_cases x : i = fd_c q k
      · by_cases y : j = fd_c q k
        · omega
        · rw [x, iu_at, iu_ne y] at e
          obtain ⟨u, u0, u1, u2, u3⟩ := fd_a_ex q f A k j j0 (by omega)
          rw [u3] at e
          have := h k u (by omega) (by omega) u0 (by omega) c u2 e
          omega
      · by_cases y : j = fd_c q k
        · rw [y, iu_at, iu_ne x] at e
          obtain ⟨u, u0, u1, u2, u3⟩ := fd_a_ex q f A k i i0 (by omega)
          rw [u3] at e
          have := h u k u0 (by omega) (by omega) (by omega) u2 c e
          omega
        · rw [iu_ne x, iu_ne y] at e
          exact hk i j i0 (by omega) j0 (by omega) e
    · rw [if_neg c] at i1 j1 e
      exact hk i j i0 (by omega) j0 (by omega) e
section MS
variable (L : Nat) (xs : Nat → Int32)
variable {σ : pm_S} {ad : Nat → Nat} {z : Nat → Int} {ar : Nat → Nat × (Nat → Int32)} {lr : Nat → Nat × (Nat → Int64)}
def kg_i (σ : pm_S) (z : Nat → Int) (ar : Nat → Nat × (Nat → Int32)) (lr : Nat → Nat × (Nat → Int64)) (a b : Int) (s : pm_S) (u : Nat) : Prop := ∃ ad' lr', Hp s ad' (hq_u z 10 (fd_c (ag_q (fun p => oV (hq_g ar 190) ((oI (hq_g ar 190)) p) 4) (fun p v => oV (hq_g ar 190) ((oI (hq_g ar 190)) p) (10 + v)) (z 0) a b) u)) ar lr' ∧ lr' 1 = lr 1 ∧ (∀ i, 0 ≤ i → i < fd_c (ag_q (fun p => oV (hq_g ar 190) ((oI (hq_g ar 190)) p) 4) (fun p v => oV (hq_g ar 190) ((oI (hq_g ar 190)) p) (10 + v)) (z 0) a b) u → lq_g lr' i = fd_a (ag_q (fun p => oV (hq_g ar 190) ((oI (hq_g ar 190)) p) 4) (fun p v => oV (hq_g ar 190) ((oI (hq_g ar 190)) p) (10 + v)) (z 0) a b) (ag_k (fun p => oV (hq_g ar 190) ((oI (hq_g ar 190)) p) 5) (fun p v => oV (hq_g ar 190) ((oI (hq_g ar 190)) p) (10 + v)) (z 0)) (fun _ => 0) u i) ∧ 16 ≤ (lr' 0).1 ∧ (lr' 0).1 ≤ 1600 ∧ fd_c (ag_q (fun p => oV (hq_g ar 190) ((oI (hq_g ar 190)) p) 4) (fun p v => oV (hq_g ar 190) ((oI (hq_g ar 190)) p) (10 + v)) (z 0) a b) u ≤ ((lr' 0).1 : Int) ∧ hq_rm σ ar lr s ar lr'
theorem kg_no {a b : Int} {s : pm_S} {u : Nat} (h : kg_i σ z ar lr a b s u) (q0 : (ag_q (fun p => oV (hq_g ar 190) ((oI (hq_g ar 190)) p) 4) (fun p v => oV (hq_g ar 190) ((oI (hq_g ar 190)) p) (10 + v)) (z 0) a b) u ≠ 1) : kg_i σ z ar lr a b s (u + 1) := by
  obtain ⟨ad', lr', H, e1, hk, l1, l2, l3, rm⟩ := h
  have cs := fd_c_s (ag_q (fun p => oV (hq_g ar 190) ((oI (hq_g ar 190)) p) 4) (fun p v => oV (hq_g ar 190) ((oI (hq_g ar 190)) p) (10 + v)) (z 0) a b) (k := (u : Int)) (by omega)
  rw [if_neg q0, Int.add_zero] at cs
  refine ⟨ad', lr', ?_, e1, ?_, l1, l2, ?_, rm⟩
  · rw [show ((u + 1 : Nat) : Int) = (u : Int) + 1 by omega, cs]
    exact H
  · rw [show ((u + 1 : Nat) : Int) = (u : Int) + 1 by omega, cs, fd_a, if_neg q0]
    exact hk
  · rw [show ((u + 1 : Nat) : Int) = (u : Int) + 1 by omega, cs]
    exact l3
theorem ev_aak (hl : od_L z ar) (N : od_N (hq_g ar 190) (z 8)) {a b : Int} (ha : -2147483648 ≤ a ∧ a ≤ 2147483647) (hb : -2147483648 ≤ b ∧ b ≤ 2147483647) (ht : 0 ≤ z 0 ∧ z 0 ≤ 3652058) (hr : ∀ x, 0 ≤ x → x < (hq_g ar 190 0) → 0 ≤ oV (hq_g ar 190) ((oI (hq_g ar 190)) x) 5 ∧ oV (hq_g ar 190) ((oI (hq_g ar 190)) x) 5 ≤ 3) (hdy : ∀ x v, 0 ≤ x → x < (hq_g ar 190 0) → 0 ≤ v → v ≤ 1 → -1 ≤ oV (hq_g ar 190) ((oI (hq_g ar 190)) x) (10 + v) ∧ oV (hq_g ar 190) ((oI (hq_g ar 190)) x) (10 + v) ≤ 3652058) {k v : Nat} (kn : (k : Int) < (hq_g ar 190 0)) (hv : v ≤ 1) (s3 : oV (hq_g ar 190) ((oI (hq_g ar 190)) k) 4 < 3) {s : pm_S} (G : kg_i σ z ar lr a b s (2 * k + v)) : pm_Fv (tq_P L xs) (pm_enter 44 [.ref 0, .int (zI (k : Int)), .int (zI (v : Int)), .int (zI a), .int (zI b)]) s (fun o t => o = .inl none ∧ kg_i σ z ar lr a b t (2 * k + v + 1)) := by
  show pm_Fv (tq_P L xs) (44, 0, [(0, .ref 0), (1, .int (zI (k : Int))), (2, .int (zI (v : Int))), (3, .int (zI a)), (4, .int (zI b))], []) s _
  have nm := N.nm
  have m4 := N.m4
  have i0 := N.J.1 k (by omega) kn
  have i1 := N.lt k (by omega) kn
  have r5 := hr k (by omega) kn
  have rd := hdy k v (by omega) kn (by omega) (by omega)
  have u1 : ((2 * k + v : Nat) : Int) / 2 = k := by omega
  have u2 : ((2 * k + v : Nat) : Int) % 2 = v := by omega
  have ad1 : ag_d (fun p v => oV (hq_g ar 190) ((oI (hq_g ar 190)) p) (10 + v)) ((2 * k + v : Nat) : Int) = oV (hq_g ar 190) ((oI (hq_g ar 190)) k) (10 + v) := by
    unfold ag_d
    rw [u1, u2]
  have as1 : ag_s (z 0) (fun p v => oV (hq_g ar 190) ((oI (hq_g ar 190)) p) (10 + v)) ((2 * k + v : Nat) : Int) = if oV (hq_g ar 190) ((oI (hq_g ar 190)) k) (10 + v) < z 0 then z 0 else oV (hq_g ar 190) ((oI (hq_g ar 190)) k) (10 + v) := by
    unfold ag_s
    rw [ad1]
  have asr : 0 ≤ ag_s (z 0) (fun p v => oV (hq_g ar 190) ((oI (hq_g ar 190)) p) (10 + v)) ((2 * k + v : Nat) : Int) ∧ ag_s (z 0) (fun p v => oV (hq_g ar 190) ((oI (hq_g ar 190)) p) (10 + v)) ((2 * k + v : Nat) : Int) ≤ 3652058 := ag_s_r ht (by rw [ad1]; exact rd)
  have qe : (ag_q (fun p => oV (hq_g ar 190) ((oI (hq_g ar 190)) p) 4) (fun p v => oV (hq_g ar 190) ((oI (hq_g ar 190)) p) (10 + v)) (z 0) a b) ((2 * k + v : Nat) : Int) = if oV (hq_g ar 190) ((oI (hq_g ar 190)) k) 4 < 3 ∧ oV (hq_g ar 190) ((oI (hq_g ar 190)) k) (10 + v) ≠ -1 ∧ a ≤ ag_s (z 0) (fun p v => oV (hq_g ar 190) ((oI (hq_g ar 190)) p) (10 + v)) ((2 * k + v : Nat) : Int) ∧ ag_s (z 0) (fun p v => oV (hq_g ar 190) ((oI (hq_g ar 190)) p) (10 + v)) ((2 * k + v : Nat) : Int) ≤ b then 1 else 0 := by
    unfold ag_q
    rw [ad1, u1]
  have ke : (ag_k (fun p => oV (hq_g ar 190) ((oI (hq_g ar 190)) p) 5) (fun p v => oV (hq_g ar 190) ((oI (hq_g ar 190)) p) (10 + v)) (z 0)) ((2 * k + v : Nat) : Int) = ((ag_s (z 0) (fun p v => oV (hq_g ar 190) ((oI (hq_g ar 190)) p) (10 + v)) ((2 * k + v : Nat) : Int) * 2 + 1 - v) * 4 + 3 - oV (hq_g ar 190) ((oI (hq_g ar 190)) k) 5) * 400 + k := by
    unfold ag_k
    rw [u1, u2]
    show ((ag_s (z 0) (fun p v => oV (hq_g ar 190) ((oI (hq_g ar 190)) p) (10 + v)) ((2 * k + v : Nat) : Int) * 2 + (1 - (v : Int))) * 4 + (3 - oV (hq_g ar 190) ((oI (hq_g ar 190)) k) 5)) * 400 + (k : Int) = _
    omega
  have G0 := G
  obtain ⟨ad', lr', H, e1, hk, l1, l2, l3, rm⟩ := G
  have cr := fd_c_r (ag_q (fun p => oV (hq_g ar 190) ((oI (hq_g ar 190)) p) 4) (fun p v => oV (hq_g ar 190) ((oI (hq_g ar 190)) p) (10 + v)) (z 0) a b) (k := ((2 * k + v : Nat) : Int)) (by omega)
  have cs := fd_c_s (ag_q (fun p => oV (hq_g ar 190) ((oI (hq_g ar 190)) p) 4) (fun p v => oV (hq_g ar 190) ((oI (hq_g ar 190)) p) (10 + v)) (z 0) a b) (k := ((2 * k + v : Nat) : Int)) (by omega)
  have hl' : od_L (hq_u z 10 (fd_c (ag_q (fun p => oV (hq_g ar 190) ((oI (hq_g ar 190)) p) 4) (fun p v => oV (hq_g ar 190) ((oI (hq_g ar 190)) p) (10 + v)) (z 0) a b) ((2 * k + v : Nat) : Int))) ar := hl
  have mx := ev_max L xs (σ := s) (a := oV (hq_g ar 190) ((oI (hq_g ar 190)) k) (10 + v)) (b := z 0) (by omega)
  rw [← as1] at mx
  generalize ag_s (z 0) (fun p v => oV (hq_g ar 190) ((oI (hq_g ar 190)) p) (10 + v)) ((2 * k + v : Nat) : Int) = S at *
  by_cases c1 : oV (hq_g ar 190) ((oI (hq_g ar 190)) k) (10 + v) = -1
  · skip
    refine pm_Fv.go 1 (f' := (44, 1, [(0, _), (1, _), (2, _), (3, _), (4, _)], [_])) rfl ?_
    refine pm_Fv.gf rfl rfl H.m0 H.o0 rfl ?_
    refine pm_Fv.go 1 (f' := (44, 5, [(0, _), (1, _), (2, _), (3, _), (4, _)], [_, _])) rfl ?_
    refine pm_Fv.cv rfl rfl rfl rfl (by decide) (Nat.le_of_ble_eq_true rfl) (Nat.le_of_ble_eq_true rfl) H.m188 H.o188 (ev_entryAt L xs H hl' N.m0 (by omega)) ?_
    refine pm_Fv.go 2 (f' := (44, 11, [(5, _), (0, _), (1, _), (2, _), (3, _), (4, _)], [_])) rfl ?_
    refine pm_Fv.gf rfl rfl H.m0 H.o0 rfl ?_
    refine pm_Fv.go 1 (f' := (44, 16, [(5, _), (0, _), (1, _), (2, _), (3, _), (4, _)], [_, _])) rfl ?_
    refine pm_Fv.bp rfl rfl ?_
    refine pm_Fv.go 1 (f' := (44, 19, [(5, _), (0, _), (1, _), (2, _), (3, _), (4, _)], [_, _, _, _])) rfl ?_
    refine pm_Fv.iadd rfl ?_
    refine pm_Fv.cv rfl rfl rfl rfl (by decide) (Nat.le_of_ble_eq_true rfl) (Nat.le_of_ble_eq_true rfl) H.m188 H.o188 (ev_value L xs H hl' N.m0 (f := 10 + v) ⟨i0, i1, by omega, by omega⟩) ?_
    refine pm_Fv.go 3 (f' := (44, 28, [(6, _), (5, _), (0, _), (1, _), (2, _), (3, _), (4, _)], [_, _])) rfl ?_
    refine pm_Fv.gf rfl rfl H.m0 H.o0 rfl ?_
    rw [show hq_u z 10 (fd_c (ag_q (fun p => oV (hq_g ar 190) ((oI (hq_g ar 190)) p) 4) (fun p v => oV (hq_g ar 190) ((oI (hq_g ar 190)) p) (10 + v)) (z 0) a b) ((2 * k + v : Nat) : Int)) 0 = z 0 from rfl]
    refine pm_Fv.call rfl rfl rfl rfl rfl (mx) ?_
    refine pm_Fv.go 3 (f' := (44, 39, [(7, _), (6, _), (5, _), (0, _), (1, _), (2, _), (3, _), (4, _)], [_, _])) rfl ?_
    refine pm_Fv.jeq rfl (by omega) rfl (fun h1 => ?_) (fun h1 => ?_)
    · refine pm_Fv.ret rfl rfl rfl rfl ⟨rfl, kg_no G0 ?_⟩
      rw [qe, if_neg (by omega)]
      decide
    · exact absurd h1 (by omega)
  · by_cases c2 : a ≤ S ∧ S ≤ b
    · skip
      refine pm_Fv.go 1 (f' := (44, 1, [(0, _), (1, _), (2, _), (3, _), (4, _)], [_])) rfl ?_
      refine pm_Fv.gf rfl rfl H.m0 H.o0 rfl ?_
      refine pm_Fv.go 1 (f' := (44, 5, [(0, _), (1, _), (2, _), (3, _), (4, _)], [_, _])) rfl ?_
      refine pm_Fv.cv rfl rfl rfl rfl (by decide) (Nat.le_of_ble_eq_true rfl) (Nat.le_of_ble_eq_true rfl) H.m188 H.o188 (ev_entryAt L xs H hl' N.m0 (by omega)) ?_
      refine pm_Fv.go 2 (f' := (44, 11, [(5, _), (0, _), (1, _), (2, _), (3, _), (4, _)], [_])) rfl ?_
      refine pm_Fv.gf rfl rfl H.m0 H.o0 rfl ?_
      refine pm_Fv.go 1 (f' := (44, 16, [(5, _), (0, _), (1, _), (2, _), (3, _), (4, _)], [_, _])) rfl ?_
      refine pm_Fv.bp rfl rfl ?_
      refine pm_Fv.go 1 (f' := (44, 19, [(5, _), (0, _), (1, _), (2, _), (3, _), (4, _)], [_, _, _, _])) rfl ?_
      refine pm_Fv.iadd rfl ?_
      refine pm_Fv.cv rfl rfl rfl rfl (by decide) (Nat.le_of_ble_eq_true rfl) (Nat.le_of_ble_eq_true rfl) H.m188 H.o188 (ev_value L xs H hl' N.m0 (f := 10 + v) ⟨i0, i1, by omega, by omega⟩) ?_
      refine pm_Fv.go 3 (f' := (44, 28, [(6, _), (5, _), (0, _), (1, _), (2, _), (3, _), (4, _)], [_, _])) rfl ?_
      refine pm_Fv.gf rfl rfl H.m0 H.o0 rfl ?_
      rw [show hq_u z 10 (fd_c (ag_q (fun p => oV (hq_g ar 190) ((oI (hq_g ar 190)) p) 4) (fun p v => oV (hq_g ar 190) ((oI (hq_g ar 190)) p) (10 + v)) (z 0) a b) ((2 * k + v : Nat) : Int)) 0 = z 0 from rfl]
      refine pm_Fv.call rfl rfl rfl rfl rfl (mx) ?_
      refine pm_Fv.go 3 (f' := (44, 39, [(7, _), (6, _), (5, _), (0, _), (1, _), (2, _), (3, _), (4, _)], [_, _])) rfl ?_
      refine pm_Fv.jeq rfl (by omega) rfl (fun h1 => ?_) (fun h1 => ?_)
      · exact absurd h1 (by omega)
      · refine pm_Fv.go 3 (f' := (44, 47, [(7, _), (6, _), (5, _), (0, _), (1, _), (2, _), (3, _), (4, _)], [_, _, _])) rfl ?_
        refine pm_Fv.call rfl rfl rfl rfl rfl (ev_in1 L xs (by omega) c2) ?_
        refine pm_Fv.zeq rfl (by omega) rfl (fun h2 => ?_) (fun h2 => ?_)
        · exact absurd h2 (by omega)
        · refine pm_Fv.go 1 (f' := (44, 55, [(7, _), (6, _), (5, _), (0, _), (1, _), (2, _), (3, _), (4, _)], [_])) rfl ?_
          refine pm_Fv.i2l rfl (by omega) ?_
          refine pm_Fv.cc2 (2) rfl rfl rfl ?_
          refine pm_Fv.lmul rfl ?_
          refine pm_Fv.lc 1 rfl rfl ?_
          refine pm_Fv.ladd rfl ?_
          refine pm_Fv.go 1 (f' := (44, 63, [(7, _), (6, _), (5, _), (0, _), (1, _), (2, _), (3, _), (4, _)], [_, _])) rfl ?_
          refine pm_Fv.i2l rfl (by omega) ?_
          refine pm_Fv.lsub rfl ?_
          refine pm_Fv.go 2 (f' := (44, 69, [(8, _), (7, _), (6, _), (5, _), (0, _), (1, _), (2, _), (3, _), (4, _)], [_])) rfl ?_
          refine pm_Fv.cc2 (4) rfl rfl rfl ?_
          refine pm_Fv.lmul rfl ?_
          refine pm_Fv.cc2 (3) rfl rfl rfl ?_
          refine pm_Fv.ladd rfl ?_
          refine pm_Fv.go 1 (f' := (44, 78, [(8, _), (7, _), (6, _), (5, _), (0, _), (1, _), (2, _), (3, _), (4, _)], [_, _])) rfl ?_
          refine pm_Fv.gf rfl rfl H.m0 H.o0 rfl ?_
          refine pm_Fv.go 2 (f' := (44, 84, [(8, _), (7, _), (6, _), (5, _), (0, _), (1, _), (2, _), (3, _), (4, _)], [_, _, _, _])) rfl ?_
          refine pm_Fv.cv rfl rfl rfl rfl (by decide) (Nat.le_of_ble_eq_true rfl) (Nat.le_of_ble_eq_true rfl) H.m188 H.o188 (ev_value L xs H hl' N.m0 (f := 5) ⟨i0, i1, by decide, by decide⟩) ?_
          refine pm_Fv.i2l rfl (by omega) ?_
          refine pm_Fv.lsub rfl ?_
          refine pm_Fv.go 2 (f' := (44, 92, [(8, _), (7, _), (6, _), (5, _), (0, _), (1, _), (2, _), (3, _), (4, _)], [_])) rfl ?_
          refine pm_Fv.gf rfl rfl H.m0 H.o0 rfl ?_
          refine pm_Fv.go 1 (f' := (44, 97, [(8, _), (7, _), (6, _), (5, _), (0, _), (1, _), (2, _), (3, _), (4, _)], [_, _])) rfl ?_
          refine pm_Fv.cc2 (400) rfl rfl rfl ?_
          refine pm_Fv.lmul rfl ?_
          refine pm_Fv.go 1 (f' := (44, 102, [(8, _), (7, _), (6, _), (5, _), (0, _), (1, _), (2, _), (3, _), (4, _)], [_, _, _])) rfl ?_
          refine pm_Fv.i2l rfl (by omega) ?_
          refine pm_Fv.ladd rfl ?_
          refine pm_Fv.cvF rfl rfl rfl rfl (by decide) (Nat.le_of_ble_eq_true rfl) (Nat.le_of_ble_eq_true rfl) H.m196 H.o196 (ev_kadd L xs H (v := ((S * 2 + 1 - v) * 4 + 3 - oV (hq_g ar 190) ((oI (hq_g ar 190)) k) 5) * 400 + k) (by omega) cr.1 l3 (show fd_c (ag_q (fun p => oV (hq_g ar 190) ((oI (hq_g ar 190)) p) 4) (fun p v => oV (hq_g ar 190) ((oI (hq_g ar 190)) p) (10 + v)) (z 0) a b) ((2 * k + v : Nat) : Int) < 800 by omega) l1 l2) (fun s1 q1 => ?_)
          obtain ⟨ad1, lr1, H1, f1, g1, l4, l5, l6, m1⟩ := q1
          have q1 : (ag_q (fun p => oV (hq_g ar 190) ((oI (hq_g ar 190)) p) 4) (fun p v => oV (hq_g ar 190) ((oI (hq_g ar 190)) p) (10 + v)) (z 0) a b) ((2 * k + v : Nat) : Int) = 1 := by rw [qe, if_pos (by omega)]
          rw [if_pos q1] at cs
          rw [show hq_u (hq_u z 10 (fd_c (ag_q (fun p => oV (hq_g ar 190) ((oI (hq_g ar 190)) p) 4) (fun p v => oV (hq_g ar 190) ((oI (hq_g ar 190)) p) (10 + v)) (z 0) a b) ((2 * k + v : Nat) : Int))) 10 (hq_u z 10 (fd_c (ag_q (fun p => oV (hq_g ar 190) ((oI (hq_g ar 190)) p) 4) (fun p v => oV (hq_g ar 190) ((oI (hq_g ar 190)) p) (10 + v)) (z 0) a b) ((2 * k + v : Nat) : Int)) 10 + 1) = hq_u z 10 (fd_c (ag_q (fun p => oV (hq_g ar 190) ((oI (hq_g ar 190)) p) 4) (fun p v => oV (hq_g ar 190) ((oI (hq_g ar 190)) p) (10 + v)) (z 0) a b) ((2 * k + v : Nat) : Int) + 1) from by rw [hq_u_u]; rfl] at H1
          refine pm_Fv.ret rfl rfl rfl rfl ⟨rfl, ad1, lr1, ?_, f1.trans e1, ?_, l4, l5, ?_, hq_rm_tr rm m1⟩
          · rw [show ((2 * k + v + 1 : Nat) : Int) = ((2 * k + v : Nat) : Int) + 1 by omega, cs]
            exact H1
          · intro i i0 i1
            rw [show ((2 * k + v + 1 : Nat) : Int) = ((2 * k + v : Nat) : Int) + 1 by omega, cs] at i1
            rw [fd_a, if_pos q1, g1 i i0 (show i ≤ fd_c (ag_q (fun p => oV (hq_g ar 190) ((oI (hq_g ar 190)) p) 4) (fun p v => oV (hq_g ar 190) ((oI (hq_g ar 190)) p) (10 + v)) (z 0) a b) ((2 * k + v : Nat) : Int) by omega)]
            show (if i = fd_c (ag_q (fun p => oV (hq_g ar 190) ((oI (hq_g ar 190)) p) 4) (fun p v => oV (hq_g ar 190) ((oI (hq_g ar 190)) p) (10 + v)) (z 0) a b) ((2 * k + v : Nat) : Int) then _ else _) = _
            by_cases x : i = fd_c (ag_q (fun p => oV (hq_g ar 190) ((oI (hq_g ar 190)) p) 4) (fun p v => oV (hq_g ar 190) ((oI (hq_g ar 190)) p) (10 + v)) (z 0) a b) ((2 * k + v : Nat) : Int)
            · rw [if_pos x, x, iu_at, ke]
            · rw [if_neg x, iu_ne x]
              exact hk i i0 (by omega)
          · rw [show ((2 * k + v + 1 : Nat) : Int) = ((2 * k + v : Nat) : Int) + 1 by omega, cs]
            exact l6
    · skip
      refine pm_Fv.go 1 (f' := (44, 1, [(0, _), (1, _), (2, _), (3, _), (4, _)], [_])) rfl ?_
      refine pm_Fv.gf rfl rfl H.m0 H.o0 rfl ?_
      refine pm_Fv.go 1 (f' := (44, 5, [(0, _), (1, _), (2, _), (3, _), (4, _)], [_, _])) rfl ?_
      refine pm_Fv.cv rfl rfl rfl rfl (by decide) (Nat.le_of_ble_eq_true rfl) (Nat.le_of_ble_eq_true rfl) H.m188 H.o188 (ev_entryAt L xs H hl' N.m0 (by omega)) ?_
      refine pm_Fv.go 2 (f' := (44, 11, [(5, _), (0, _), (1, _), (2, _), (3, _), (4, _)], [_])) rfl ?_
      refine pm_Fv.gf rfl rfl H.m0 H.o0 rfl ?_
      refine pm_Fv.go 1 (f' := (44, 16, [(5, _), (0, _), (1, _), (2, _), (3, _), (4, _)], [_, _])) rfl ?_
      refine pm_Fv.bp rfl rfl ?_
      refine pm_Fv.go 1 (f' := (44, 19, [(5, _), (0, _), (1, _), (2, _), (3, _), (4, _)], [_, _, _, _])) rfl ?_
      refine pm_Fv.iadd rfl ?_
      refine pm_Fv.cv rfl rfl rfl rfl (by decide) (Nat.le_of_ble_eq_true rfl) (Nat.le_of_ble_eq_true rfl) H.m188 H.o188 (ev_value L xs H hl' N.m0 (f := 10 + v) ⟨i0, i1, by omega, by omega⟩) ?_
      refine pm_Fv.go 3 (f' := (44, 28, [(6, _), (5, _), (0, _), (1, _), (2, _), (3, _), (4, _)], [_, _])) rfl ?_
      refine pm_Fv.gf rfl rfl H.m0 H.o0 rfl ?_
      rw [show hq_u z 10 (fd_c (ag_q (fun p => oV (hq_g ar 190) ((oI (hq_g ar 190)) p) 4) (fun p v => oV (hq_g ar 190) ((oI (hq_g ar 190)) p) (10 + v)) (z 0) a b) ((2 * k + v : Nat) : Int)) 0 = z 0 from rfl]
      refine pm_Fv.call rfl rfl rfl rfl rfl (mx) ?_
      refine pm_Fv.go 3 (f' := (44, 39, [(7, _), (6, _), (5, _), (0, _), (1, _), (2, _), (3, _), (4, _)], [_, _])) rfl ?_
      refine pm_Fv.jeq rfl (by omega) rfl (fun h1 => ?_) (fun h1 => ?_)
      · exact absurd h1 (by omega)
      · refine pm_Fv.go 3 (f' := (44, 47, [(7, _), (6, _), (5, _), (0, _), (1, _), (2, _), (3, _), (4, _)], [_, _, _])) rfl ?_
        refine pm_Fv.call rfl rfl rfl rfl rfl (ev_in0 L xs (by omega) c2) ?_
        refine pm_Fv.zeq rfl (by omega) rfl (fun h2 => ?_) (fun h2 => ?_)
        · refine pm_Fv.ret rfl rfl rfl rfl ⟨rfl, kg_no G0 ?_⟩
          rw [qe, if_neg (by omega)]
          decide
        · exact absurd h2 (by omega)
theorem ev_dagL (hl : od_L z ar) (N : od_N (hq_g ar 190) (z 8)) {a b : Int} (ha : -2147483648 ≤ a ∧ a ≤ 2147483647) (hb : -2147483648 ≤ b ∧ b ≤ 2147483647) (ht : 0 ≤ z 0 ∧ z 0 ≤ 3652058) (hr : ∀ x, 0 ≤ x → x < (hq_g ar 190 0) → 0 ≤ oV (hq_g ar 190) ((oI (hq_g ar 190)) x) 5 ∧ oV (hq_g ar 190) ((oI (hq_g ar 190)) x) 5 ≤ 3) (hdy : ∀ x v, 0 ≤ x → x < (hq_g ar 190 0) → 0 ≤ v → v ≤ 1 → -1 ≤ oV (hq_g ar 190) ((oI (hq_g ar 190)) x) (10 + v) ∧ oV (hq_g ar 190) ((oI (hq_g ar 190)) x) (10 + v) ≤ 3652058) {Q : pm_O → pm_S → Prop} (kk : ∀ s, kg_i σ z ar lr a b s (2 * (hq_g ar 190 0).toNat) → pm_Fv (tq_P L xs) (25, 60, [(0, .ref 0), (1, .int (zI a)), (2, .int (zI b))], []) s Q) : ∀ (j k : Nat) (s : pm_S), (k : Int) + j = (hq_g ar 190 0) → kg_i σ z ar lr a b s (2 * k) → pm_Fv (tq_P L xs) (25, 9, [(3, .int (zI (k : Int))), (0, .ref 0), (1, .int (zI a)), (2, .int (zI b))], []) s Q := by
  intro j
  have nm := N.nm
  have m4 := N.m4
  induction j with
  | zero =>
    intro k s kj G
    have e : (hq_g ar 190 0).toNat = k := by omega
    have G0 := G
    obtain ⟨ad', lr', H, e1, hk, l1, l2, l3, rm⟩ := G
    have hl' : od_L (hq_u z 10 (fd_c (ag_q (fun p => oV (hq_g ar 190) ((oI (hq_g ar 190)) p) 4) (fun p v => oV (hq_g ar 190) ((oI (hq_g ar 190)) p) (10 + v)) (z 0) a b) ((2 * k : Nat) : Int))) ar := hl
    refine pm_Fv.go 2 (f' := (25, 11, [(3, _), (0, _), (1, _), (2, _)], [_, _])) rfl ?_
    refine pm_Fv.gf rfl rfl H.m0 H.o0 rfl ?_
    refine pm_Fv.cv rfl rfl rfl rfl (by decide) (Nat.le_of_ble_eq_true rfl) (Nat.le_of_ble_eq_true rfl) H.m188 H.o188 (ev_count L xs H hl' N.m0) ?_
    refine pm_Fv.jge rfl (by omega) rfl (fun h1 => ?_) (fun h1 => ?_)
    · exact pm_Fv.weak (kk s (by rw [e]; exact G0)) rfl
    · exact absurd h1 (by omega)
  | succ j ih =>
    intro k s kj G
    have kn : (k : Int) < (hq_g ar 190 0) := by omega
    have i0 := N.J.1 k (by omega) kn
    have i1 := N.lt k (by omega) kn
    have G0 := G
    obtain ⟨ad', lr', H, e1, hk, l1, l2, l3, rm⟩ := G
    have hl' : od_L (hq_u z 10 (fd_c (ag_q (fun p => oV (hq_g ar 190) ((oI (hq_g ar 190)) p) 4) (fun p v => oV (hq_g ar 190) ((oI (hq_g ar 190)) p) (10 + v)) (z 0) a b) ((2 * k : Nat) : Int))) ar := hl
    have ic := ev_isClosed L xs H hl' N.m0 (e := (oI (hq_g ar 190)) k) ⟨i0, i1⟩
    by_cases c : 3 ≤ oV (hq_g ar 190) ((oI (hq_g ar 190)) k) 4
    · rw [if_pos c] at ic
      have q0 : ∀ u : Nat, (u : Int) / 2 = k → (ag_q (fun p => oV (hq_g ar 190) ((oI (hq_g ar 190)) p) 4) (fun p v => oV (hq_g ar 190) ((oI (hq_g ar 190)) p) (10 + v)) (z 0) a b) u ≠ 1 := fun u hu => by
        unfold ag_q
        rw [hu, if_neg (fun h => absurd h.1 (show ¬ oV (hq_g ar 190) ((oI (hq_g ar 190)) k) 4 < 3 by omega))]
        decide
      refine pm_Fv.go 2 (f' := (25, 11, [(3, _), (0, _), (1, _), (2, _)], [_, _])) rfl ?_
      refine pm_Fv.gf rfl rfl H.m0 H.o0 rfl ?_
      refine pm_Fv.cv rfl rfl rfl rfl (by decide) (Nat.le_of_ble_eq_true rfl) (Nat.le_of_ble_eq_true rfl) H.m188 H.o188 (ev_count L xs H hl' N.m0) ?_
      refine pm_Fv.jge rfl (by omega) rfl (fun h1 => ?_) (fun h1 => ?_)
      · exact absurd h1 (by omega)
      · refine pm_Fv.go 1 (f' := (25, 21, [(3, _), (0, _), (1, _), (2, _)], [_])) rfl ?_
        refine pm_Fv.gf rfl rfl H.m0 H.o0 rfl ?_
        refine pm_Fv.go 1 (f' := (25, 25, [(3, _), (0, _), (1, _), (2, _)], [_, _])) rfl ?_
        refine pm_Fv.gf rfl rfl H.m0 H.o0 rfl ?_
        refine pm_Fv.go 1 (f' := (25, 29, [(3, _), (0, _), (1, _), (2, _)], [_, _, _])) rfl ?_
        refine pm_Fv.cv rfl rfl rfl rfl (by decide) (Nat.le_of_ble_eq_true rfl) (Nat.le_of_ble_eq_true rfl) H.m188 H.o188 (ev_entryAt L xs H hl' N.m0 (by omega)) ?_
        refine pm_Fv.cv rfl rfl rfl rfl (by decide) (Nat.le_of_ble_eq_true rfl) (Nat.le_of_ble_eq_true rfl) H.m188 H.o188 (ic) ?_
        refine pm_Fv.zne rfl (by omega) rfl (fun h2 => ?_) (fun h2 => ?_)
        · refine pm_Fv.inc rfl rfl (Nat.le_of_ble_eq_true rfl) ?_
          refine pm_Fv.go 1 (f' := (25, 9, [(3, _), (0, _), (1, _), (2, _)], [])) rfl ?_
          refine pm_Fv.weak (ih (k + 1) s (by omega) ?_) rfl
          exact kg_no (kg_no G0 (q0 (2 * k) (by omega))) (q0 (2 * k + 1) (by omega))
        · exact absurd h2 (by omega)
    · rw [if_neg c] at ic
      refine pm_Fv.go 2 (f' := (25, 11, [(3, _), (0, _), (1, _), (2, _)], [_, _])) rfl ?_
      refine pm_Fv.gf rfl rfl H.m0 H.o0 rfl ?_
      refine pm_Fv.cv rfl rfl rfl rfl (by decide) (Nat.le_of_ble_eq_true rfl) (Nat.le_of_ble_eq_true rfl) H.m188 H.o188 (ev_count L xs H hl' N.m0) ?_
      refine pm_Fv.jge rfl (by omega) rfl (fun h1 => ?_) (fun h1 => ?_)
      · exact absurd h1 (by omega)
      · refine pm_Fv.go 1 (f' := (25, 21, [(3, _), (0, _), (1, _), (2, _)], [_])) rfl ?_
        refine pm_Fv.gf rfl rfl H.m0 H.o0 rfl ?_
        refine pm_Fv.go 1 (f' := (25, 25, [(3, _), (0, _), (1, _), (2, _)], [_, _])) rfl ?_
        refine pm_Fv.gf rfl rfl H.m0 H.o0 rfl ?_
        refine pm_Fv.go 1 (f' := (25, 29, [(3, _), (0, _), (1, _), (2, _)], [_, _, _])) rfl ?_
        refine pm_Fv.cv rfl rfl rfl rfl (by decide) (Nat.le_of_ble_eq_true rfl) (Nat.le_of_ble_eq_true rfl) H.m188 H.o188 (ev_entryAt L xs H hl' N.m0 (by omega)) ?_
        refine pm_Fv.cv rfl rfl rfl rfl (by decide) (Nat.le_of_ble_eq_true rfl) (Nat.le_of_ble_eq_true rfl) H.m188 H.o188 (ic) ?_
        refine pm_Fv.zne rfl (by omega) rfl (fun h2 => ?_) (fun h2 => ?_)
        · exact absurd h2 (by omega)
        · refine pm_Fv.go 5 (f' := (25, 43, [(3, _), (0, _), (1, _), (2, _)], [_, _, _, _, _])) rfl ?_
          refine pm_Fv.cvF rfl rfl rfl rfl (by decide) (Nat.le_of_ble_eq_true rfl) (Nat.le_of_ble_eq_true rfl) H.m0 H.o0 (ev_aak L xs hl N ha hb ht hr hdy (k := k) (v := 0) kn (by decide) (by omega) G0) (fun s1 q1 => ?_)
          have G1 := q1
          obtain ⟨adx1, lrx1, Hx1, _⟩ := q1
          refine pm_Fv.go 5 (f' := (25, 51, [(3, _), (0, _), (1, _), (2, _)], [_, _, _, _, _])) rfl ?_
          refine pm_Fv.cvF rfl rfl rfl rfl (by decide) (Nat.le_of_ble_eq_true rfl) (Nat.le_of_ble_eq_true rfl) Hx1.m0 Hx1.o0 (ev_aak L xs hl N ha hb ht hr hdy (k := k) (v := 1) kn (by decide) (by omega) G1) (fun s2 q2 => ?_)
          refine pm_Fv.inc rfl rfl (Nat.le_of_ble_eq_true rfl) ?_
          refine pm_Fv.go 1 (f' := (25, 9, [(3, _), (0, _), (1, _), (2, _)], [])) rfl ?_
          exact pm_Fv.weak (ih (k + 1) s2 (by omega) q2) rfl
theorem ev_afd (H : Hp σ ad z ar lr) (hl : od_L z ar) (m0 : 0 ≤ z 8) {K : Int} (k0 : 0 ≤ K ∧ K ≤ 100000000000) (kd : K / 1600 / 2 ≤ 3652058) (s0 : 0 ≤ z 9) (s1 : z 9 ≤ ((ar 193).1 : Int)) (s2 : z 9 < 800) (l4 : (ar 194).1 = (ar 193).1) (l5 : (ar 195).1 = (ar 193).1) (h4 : 16 ≤ (ar 193).1) (hb : (ar 193).1 ≤ 1600) : pm_Fv (tq_P L xs) (pm_enter 45 [.ref 0, .long (zL K)]) σ (fun o s => o = .inl none ∧ ∃ ad' ar', Hp s ad' (hq_u z 9 (z 9 + 1)) ar' lr ∧ fn_k ((oI (hq_g ar 190)) (K % 400)) (K / 1600 / 2) (1 - K / 1600 % 2) z ar ar' ∧ hq_rm σ ar lr s ar' lr) := by
  show pm_Fv (tq_P L xs) (45, 0, [(0, .ref 0), (1, .long (zL K))], []) σ _
  have e1 : K / 400 / 4 = K / 1600 := by omega
  have ir : -2147483648 ≤ (oI (hq_g ar 190)) (K % 400) ∧ (oI (hq_g ar 190)) (K % 400) ≤ 2147483647 := hq_g_r _ _ _
  refine pm_Fv.go 1 (f' := (45, 1, [(0, _), (1, _)], [_])) rfl ?_
  refine pm_Fv.cc2 (400) rfl rfl rfl ?_
  refine pm_Fv.lrem rfl (by omega) ?_
  refine pm_Fv.l2i rfl ?_
  refine pm_Fv.go 2 (f' := (45, 8, [(3, _), (0, _), (1, _)], [_])) rfl ?_
  refine pm_Fv.cc2 (400) rfl rfl rfl ?_
  refine pm_Fv.ldiv rfl (by omega) ?_
  refine pm_Fv.cc2 (4) rfl rfl rfl ?_
  refine pm_Fv.ldiv rfl (by omega) ?_
  rw [e1]
  refine pm_Fv.go 2 (f' := (45, 19, [(4, _), (3, _), (0, _), (1, _)], [_])) rfl ?_
  refine pm_Fv.gf rfl rfl H.m0 H.o0 rfl ?_
  refine pm_Fv.go 1 (f' := (45, 23, [(4, _), (3, _), (0, _), (1, _)], [_, _])) rfl ?_
  refine pm_Fv.gf rfl rfl H.m0 H.o0 rfl ?_
  refine pm_Fv.go 1 (f' := (45, 27, [(4, _), (3, _), (0, _), (1, _)], [_, _, _])) rfl ?_
  refine pm_Fv.cv rfl rfl rfl rfl (by decide) (Nat.le_of_ble_eq_true rfl) (Nat.le_of_ble_eq_true rfl) H.m188 H.o188 (ev_entryAt L xs H hl m0 (by omega)) ?_
  refine pm_Fv.go 1 (f' := (45, 32, [(4, _), (3, _), (0, _), (1, _)], [_, _, _])) rfl ?_
  refine pm_Fv.cc2 (2) rfl rfl rfl ?_
  refine pm_Fv.ldiv rfl (by omega) ?_
  refine pm_Fv.l2i rfl ?_
  refine pm_Fv.go 2 (f' := (45, 40, [(4, _), (3, _), (0, _), (1, _)], [_, _, _, _, _])) rfl ?_
  refine pm_Fv.cc2 (2) rfl rfl rfl ?_
  refine pm_Fv.lrem rfl (by omega) ?_
  refine pm_Fv.l2i rfl ?_
  refine pm_Fv.isub rfl ?_
  refine pm_Fv.cvF rfl rfl rfl rfl (by decide) (Nat.le_of_ble_eq_true rfl) (Nat.le_of_ble_eq_true rfl) H.m192 H.o192 (ev_fadd L xs H (a := (oI (hq_g ar 190)) (K % 400)) (b := K / 1600 / 2) (c := 1 - K / 1600 % 2) ir (by omega) (by omega) s0 s1 s2 l4 l5 h4 hb) (fun s1 q1 => ?_)
  skip
  exact pm_Fv.ret rfl rfl rfl rfl ⟨rfl, q1⟩
theorem ev_dagF (hl : od_L z ar) (N : od_N (hq_g ar 190) (z 8)) {a b c : Int} {lr1 : Nat → Nat × (Nat → Int64)} (c8 : 0 ≤ c ∧ c ≤ 800) (lk : c ≤ ((lr1 0).1 : Int) ∧ (lr1 0).1 ≤ 1600) (ks : ∀ i, 0 ≤ i → i < c → (0 ≤ lq_g lr1 i ∧ lq_g lr1 i ≤ 100000000000) ∧ lq_g lr1 i / 1600 / 2 ≤ 3652058) : ∀ (j : Nat) (i : Int) (s : pm_S) (ad' : Nat → Nat) (ar' : Nat → Nat × (Nat → Int32)), i + j = c → 0 ≤ i → Hp s ad' (hq_u (hq_u z 10 c) 9 i) ar' lr1 → (∀ r, r ≠ 193 → r ≠ 194 → r ≠ 195 → ar' r = ar r) ∧ (∀ x, 0 ≤ x → x < i → hq_g ar' 193 x = (oI (hq_g ar 190)) (lq_g lr1 x % 400) ∧ hq_g ar' 194 x = lq_g lr1 x / 1600 / 2 ∧ hq_g ar' 195 x = 1 - lq_g lr1 x / 1600 % 2) ∧ (ar' 194).1 = (ar' 193).1 ∧ (ar' 195).1 = (ar' 193).1 ∧ 16 ≤ (ar' 193).1 ∧ (ar' 193).1 ≤ 1600 ∧ i ≤ ((ar' 193).1 : Int) ∧ hq_rm σ ar lr s ar' lr1 → pm_Fv (tq_P L xs) (25, 76, [(3, .int (zI i)), (0, .ref 0), (1, .int (zI a)), (2, .int (zI b))], []) s (fun o s => o = .inl (some (.int (zI c))) ∧ ∃ ad' ar', Hp s ad' (hq_u (hq_u z 10 c) 9 c) ar' lr1 ∧ (∀ r, r ≠ 193 → r ≠ 194 → r ≠ 195 → ar' r = ar r) ∧ (∀ x, 0 ≤ x → x < c → hq_g ar' 193 x = (oI (hq_g ar 190)) (lq_g lr1 x % 400) ∧ hq_g ar' 194 x = lq_g lr1 x / 1600 / 2 ∧ hq_g ar' 195 x = 1 - lq_g lr1 x / 1600 % 2) ∧ (ar' 194).1 = (ar' 193).1 ∧ (ar' 195).1 = (ar' 193).1 ∧ 16 ≤ (ar' 193).1 ∧ (ar' 193).1 ≤ 1600 ∧ c ≤ ((ar' 193).1 : Int) ∧ hq_rm σ ar lr s ar' lr1) := by
  intro j
  induction j with
  | zero =>
    intro i s ad' ar' ij i0 H iv
    have e : i = c := by omega
    subst e
    refine pm_Fv.go 2 (f' := (25, 78, [(3, _), (0, _), (1, _), (2, _)], [_, _])) rfl ?_
    refine pm_Fv.gf rfl rfl H.m0 H.o0 rfl ?_
    refine pm_Fv.gf rfl rfl H.m196 H.o196 rfl ?_
    rw [show hq_u (hq_u z 10 i) 9 i 10 = i from rfl]
    refine pm_Fv.jge rfl (by omega) rfl (fun h1 => ?_) (fun h1 => ?_)
    · refine pm_Fv.go 1 (f' := (25, 107, [(3, _), (0, _), (1, _), (2, _)], [_])) rfl ?_
      refine pm_Fv.gf rfl rfl H.m0 H.o0 rfl ?_
      refine pm_Fv.gf rfl rfl H.m192 H.o192 rfl ?_
      rw [show hq_u (hq_u z 10 i) 9 i 9 = i from rfl]
      exact pm_Fv.rv rfl rfl ⟨rfl, ad', ar', H, iv⟩
    · exact absurd h1 (by omega)
  | succ j ih =>
    intro i s ad' ar' ij i0 H iv
    obtain ⟨ho, hf, l4, l5, l6, l7, l8, rm⟩ := iv
    have g0 : hq_g ar' 190 = hq_g ar 190 := funext fun x => hq_g_ne (ho 190 (by decide) (by decide) (by decide)) x
    have hl' : od_L (hq_u (hq_u z 10 c) 9 i) ar' := by
      unfold od_L
      rw [ho 190 (by decide) (by decide) (by decide)]
      exact hl
    have ki := ks i i0 (by omega)
    have fd := ev_afd L xs H hl' N.m0 (K := lq_g lr1 i) ki.1 ki.2 i0 l8 (show i < 800 by omega) l4 l5 l6 l7
    rw [g0] at fd
    refine pm_Fv.go 2 (f' := (25, 78, [(3, _), (0, _), (1, _), (2, _)], [_, _])) rfl ?_
    refine pm_Fv.gf rfl rfl H.m0 H.o0 rfl ?_
    refine pm_Fv.gf rfl rfl H.m196 H.o196 rfl ?_
    rw [show hq_u (hq_u z 10 c) 9 i 10 = c from rfl]
    refine pm_Fv.jge rfl (by omega) rfl (fun h1 => ?_) (fun h1 => ?_)
    · exact absurd h1 (by omega)
    · refine pm_Fv.go 2 (f' := (25, 89, [(3, _), (0, _), (1, _), (2, _)], [_, _])) rfl ?_
      refine pm_Fv.gf rfl rfl H.m0 H.o0 rfl ?_
      refine pm_Fv.gf rfl rfl H.m196 H.o196 rfl ?_
      refine pm_Fv.go 1 (f' := (25, 96, [(3, _), (0, _), (1, _), (2, _)], [_, _, _])) rfl ?_
      refine pm_Fv.dla H rfl (by omega) ?_
      refine pm_Fv.cvF rfl rfl rfl rfl (by decide) (Nat.le_of_ble_eq_true rfl) (Nat.le_of_ble_eq_true rfl) H.m0 H.o0 (fd) (fun s1 q1 => ?_)
      obtain ⟨ad1, ar1, H1, K1, m1⟩ := q1
      refine pm_Fv.inc rfl rfl (Nat.le_of_ble_eq_true rfl) ?_
      refine pm_Fv.go 1 (f' := (25, 76, [(3, _), (0, _), (1, _), (2, _)], [])) rfl ?_
      obtain ⟨k1, k2, k3, k4, k5, k6, k7⟩ := K1
      rw [show hq_u (hq_u (hq_u z 10 c) 9 i) 9 (hq_u (hq_u z 10 c) 9 i 9 + 1) = hq_u (hq_u z 10 c) 9 (i + 1) from by rw [hq_u_u]; rfl] at H1
      refine pm_Fv.weak (ih (i + 1) s1 ad1 ar1 (by omega) (by omega) H1 ⟨fun r a1 a2 a3 => (k1 r a1 a2 a3).trans (ho r a1 a2 a3), fun x x0 x1 => ?_, k3, k4, k5, k6, k7, hq_rm_tr rm m1⟩) rfl
      have kk : hq_g ar1 193 x = (if x = i then _ else hq_g ar' 193 x) ∧ hq_g ar1 194 x = (if x = i then _ else hq_g ar' 194 x) ∧ hq_g ar1 195 x = (if x = i then _ else hq_g ar' 195 x) := k2 x x0 (show x ≤ i by omega)
      rw [kk.1, kk.2.1, kk.2.2]
      by_cases y : x = i
      · rw [if_pos y, if_pos y, if_pos y, y]
        exact ⟨rfl, rfl, rfl⟩
      · rw [if_neg y, if_neg y, if_neg y]
        exact hf x x0 (by omega)
theorem ev_dagenda (H : Hp σ ad z ar lr) (hl : od_L z ar) (N : od_N (hq_g ar 190) (z 8)) {a b : Int} (ha : -2147483648 ≤ a ∧ a ≤ 2147483647) (hb : -2147483648 ≤ b ∧ b ≤ 2147483647) (ht : 0 ≤ z 0 ∧ z 0 ≤ 3652058) (hr : ∀ x, 0 ≤ x → x < (hq_g ar 190 0) → 0 ≤ oV (hq_g ar 190) ((oI (hq_g ar 190)) x) 5 ∧ oV (hq_g ar 190) ((oI (hq_g ar 190)) x) 5 ≤ 3) (hdy : ∀ x v, 0 ≤ x → x < (hq_g ar 190 0) → 0 ≤ v → v ≤ 1 → -1 ≤ oV (hq_g ar 190) ((oI (hq_g ar 190)) x) (10 + v) ∧ oV (hq_g ar 190) ((oI (hq_g ar 190)) x) (10 + v) ≤ 3652058) (l4 : (ar 194).1 = (ar 193).1) (l5 : (ar 195).1 = (ar 193).1) (l6 : 16 ≤ (ar 193).1 ∧ (ar 193).1 ≤ 1600) (kl : 16 ≤ (lr 0).1 ∧ (lr 0).1 ≤ 1600) : pm_Fv (tq_P L xs) (pm_enter 25 [.ref 0, .int (zI a), .int (zI b)]) σ (fun o s => o = .inl (some (.int (zI (fd_c (ag_q (fun p => oV (hq_g ar 190) ((oI (hq_g ar 190)) p) 4) (fun p v => oV (hq_g ar 190) ((oI (hq_g ar 190)) p) (10 + v)) (z 0) a b) ((2 * (hq_g ar 190 0).toNat : Nat) : Int))))) ∧ ∃ ad' ar' lr1, Hp s ad' (hq_u (hq_u z 10 (fd_c (ag_q (fun p => oV (hq_g ar 190) ((oI (hq_g ar 190)) p) 4) (fun p v => oV (hq_g ar 190) ((oI (hq_g ar 190)) p) (10 + v)) (z 0) a b) ((2 * (hq_g ar 190 0).toNat : Nat) : Int))) 9 (fd_c (ag_q (fun p => oV (hq_g ar 190) ((oI (hq_g ar 190)) p) 4) (fun p v => oV (hq_g ar 190) ((oI (hq_g ar 190)) p) (10 + v)) (z 0) a b) ((2 * (hq_g ar 190 0).toNat : Nat) : Int))) ar' lr1 ∧ lr1 1 = lr 1 ∧ 16 ≤ (lr1 0).1 ∧ (lr1 0).1 ≤ 1600 ∧ so_S (fd_c (ag_q (fun p => oV (hq_g ar 190) ((oI (hq_g ar 190)) p) 4) (fun p v => oV (hq_g ar 190) ((oI (hq_g ar 190)) p) (10 + v)) (z 0) a b) ((2 * (hq_g ar 190 0).toNat : Nat) : Int)) (fd_a (ag_q (fun p => oV (hq_g ar 190) ((oI (hq_g ar 190)) p) 4) (fun p v => oV (hq_g ar 190) ((oI (hq_g ar 190)) p) (10 + v)) (z 0) a b) (ag_k (fun p => oV (hq_g ar 190) ((oI (hq_g ar 190)) p) 5) (fun p v => oV (hq_g ar 190) ((oI (hq_g ar 190)) p) (10 + v)) (z 0)) (fun _ => 0) (2 * (hq_g ar 190 0).toNat)) (lq_g lr1) ∧ (∀ r, r ≠ 193 → r ≠ 194 → r ≠ 195 → ar' r = ar r) ∧ (∀ x, 0 ≤ x → x < (fd_c (ag_q (fun p => oV (hq_g ar 190) ((oI (hq_g ar 190)) p) 4) (fun p v => oV (hq_g ar 190) ((oI (hq_g ar 190)) p) (10 + v)) (z 0) a b) ((2 * (hq_g ar 190 0).toNat : Nat) : Int)) → hq_g ar' 193 x = (oI (hq_g ar 190)) (lq_g lr1 x % 400) ∧ hq_g ar' 194 x = lq_g lr1 x / 1600 / 2 ∧ hq_g ar' 195 x = 1 - lq_g lr1 x / 1600 % 2) ∧ (ar' 194).1 = (ar' 193).1 ∧ (ar' 195).1 = (ar' 193).1 ∧ 16 ≤ (ar' 193).1 ∧ (ar' 193).1 ≤ 1600 ∧ (fd_c (ag_q (fun p => oV (hq_g ar 190) ((oI (hq_g ar 190)) p) 4) (fun p v => oV (hq_g ar 190) ((oI (hq_g ar 190)) p) (10 + v)) (z 0) a b) ((2 * (hq_g ar 190 0).toNat : Nat) : Int)) ≤ ((ar' 193).1 : Int) ∧ hq_rm σ ar lr s ar' lr1) := by
  show pm_Fv (tq_P L xs) (25, 0, [(0, .ref 0), (1, .int (zI a)), (2, .int (zI b))], []) σ _
  have nm := N.nm
  have m4 := N.m4
  have n0 := N.W.2.1
  have cr := fd_c_r (ag_q (fun p => oV (hq_g ar 190) ((oI (hq_g ar 190)) p) 4) (fun p v => oV (hq_g ar 190) ((oI (hq_g ar 190)) p) (10 + v)) (z 0) a b) (k := ((2 * (hq_g ar 190 0).toNat : Nat) : Int)) (by omega)
  have dec : ∀ u : Int, 0 ≤ u → u < ((2 * (hq_g ar 190 0).toNat : Nat) : Int) → (ag_k (fun p => oV (hq_g ar 190) ((oI (hq_g ar 190)) p) 5) (fun p v => oV (hq_g ar 190) ((oI (hq_g ar 190)) p) (10 + v)) (z 0)) u % 400 = u / 2 ∧ (ag_k (fun p => oV (hq_g ar 190) ((oI (hq_g ar 190)) p) 5) (fun p v => oV (hq_g ar 190) ((oI (hq_g ar 190)) p) (10 + v)) (z 0)) u / 1600 / 2 = ag_s (z 0) (fun p v => oV (hq_g ar 190) ((oI (hq_g ar 190)) p) (10 + v)) u ∧ 1 - (ag_k (fun p => oV (hq_g ar 190) ((oI (hq_g ar 190)) p) 5) (fun p v => oV (hq_g ar 190) ((oI (hq_g ar 190)) p) (10 + v)) (z 0)) u / 1600 % 2 = u % 2 ∧ 0 ≤ ag_s (z 0) (fun p v => oV (hq_g ar 190) ((oI (hq_g ar 190)) p) (10 + v)) u ∧ ag_s (z 0) (fun p v => oV (hq_g ar 190) ((oI (hq_g ar 190)) p) (10 + v)) u ≤ 3652058 ∧ 0 ≤ (ag_k (fun p => oV (hq_g ar 190) ((oI (hq_g ar 190)) p) 5) (fun p v => oV (hq_g ar 190) ((oI (hq_g ar 190)) p) (10 + v)) (z 0)) u ∧ (ag_k (fun p => oV (hq_g ar 190) ((oI (hq_g ar 190)) p) 5) (fun p v => oV (hq_g ar 190) ((oI (hq_g ar 190)) p) (10 + v)) (z 0)) u ≤ 100000000000 := by
    intro u u0 u1
    have r5 := hr (u / 2) (by omega) (by omega)
    have sr := ag_s_r (t := z 0) (Dy := (fun p v => oV (hq_g ar 190) ((oI (hq_g ar 190)) p) (10 + v))) (u := u) ht (hdy (u / 2) (u % 2) (by omega) (by omega) (by omega) (by omega))
    have e : (ag_k (fun p => oV (hq_g ar 190) ((oI (hq_g ar 190)) p) 5) (fun p v => oV (hq_g ar 190) ((oI (hq_g ar 190)) p) (10 + v)) (z 0)) u = ((ag_s (z 0) (fun p v => oV (hq_g ar 190) ((oI (hq_g ar 190)) p) (10 + v)) u * 2 + (1 - u % 2)) * 4 + (3 - oV (hq_g ar 190) ((oI (hq_g ar 190)) (u / 2)) 5)) * 400 + u / 2 := rfl
    have d := ag_dec e (by omega) r5 (by omega) sr.1
    exact ⟨d.1, d.2.1, d.2.2, sr.1, sr.2, by omega, by omega⟩
  have inj := fd_a_inj (q := (ag_q (fun p => oV (hq_g ar 190) ((oI (hq_g ar 190)) p) 4) (fun p v => oV (hq_g ar 190) ((oI (hq_g ar 190)) p) (10 + v)) (z 0) a b)) (f := (ag_k (fun p => oV (hq_g ar 190) ((oI (hq_g ar 190)) p) 5) (fun p v => oV (hq_g ar 190) ((oI (hq_g ar 190)) p) (10 + v)) (z 0))) (A := fun _ => 0) (2 * (hq_g ar 190 0).toNat) (fun u v u0 u1 v0 v1 _ _ e => by
    have a := dec u u0 u1
    have b := dec v v0 v1
    rw [e] at a
    omega)
  refine pm_Fv.go 1 (f' := (25, 1, [(0, _), (1, _), (2, _)], [_])) rfl ?_
  refine pm_Fv.gf rfl rfl H.m0 H.o0 rfl ?_
  refine pm_Fv.cvF rfl rfl rfl rfl (by decide) (Nat.le_of_ble_eq_true rfl) (Nat.le_of_ble_eq_true rfl) H.m196 H.o196 (ev_kclear L xs H) (fun s1 q1 => ?_)
  obtain ⟨H1, r1⟩ := q1
  refine pm_Fv.go 2 (f' := (25, 9, [(3, _), (0, _), (1, _), (2, _)], [])) rfl ?_
  refine pm_Fv.weak (ev_dagL (σ := σ) (lr := lr) L xs hl N ha hb ht hr hdy (fun s1 G1 => ?_) (hq_g ar 190 0).toNat 0 s1 (by omega) ⟨ad, lr, by rw [show ((2 * 0 : Nat) : Int) = 0 from rfl, fd_c_0]; exact H1, rfl, fun i i0 i1 => absurd i1 (by rw [show ((2 * 0 : Nat) : Int) = 0 from rfl, fd_c_0]; omega), kl.1, kl.2, by rw [show ((2 * 0 : Nat) : Int) = 0 from rfl, fd_c_0]; omega, hq_rm_refl r1⟩) rfl
  obtain ⟨ad1, lr1, H1, e1, hk, l1, l2, l3, rm⟩ := G1
  refine pm_Fv.go 1 (f' := (25, 61, [(0, _), (1, _), (2, _)], [_])) rfl ?_
  refine pm_Fv.gf rfl rfl H1.m0 H1.o0 rfl ?_
  refine pm_Fv.cvF rfl rfl rfl rfl (by decide) (Nat.le_of_ble_eq_true rfl) (Nat.le_of_ble_eq_true rfl) H1.m196 H1.o196 (ev_order L xs H1 (show 0 ≤ (fd_c (ag_q (fun p => oV (hq_g ar 190) ((oI (hq_g ar 190)) p) 4) (fun p v => oV (hq_g ar 190) ((oI (hq_g ar 190)) p) (10 + v)) (z 0) a b) ((2 * (hq_g ar 190 0).toNat : Nat) : Int)) ∧ (fd_c (ag_q (fun p => oV (hq_g ar 190) ((oI (hq_g ar 190)) p) 4) (fun p v => oV (hq_g ar 190) ((oI (hq_g ar 190)) p) (10 + v)) (z 0) a b) ((2 * (hq_g ar 190 0).toNat : Nat) : Int)) ≤ 800 by omega) (show (fd_c (ag_q (fun p => oV (hq_g ar 190) ((oI (hq_g ar 190)) p) 4) (fun p v => oV (hq_g ar 190) ((oI (hq_g ar 190)) p) (10 + v)) (z 0) a b) ((2 * (hq_g ar 190 0).toNat : Nat) : Int)) ≤ ((lr1 0).1 : Int) ∧ (lr1 0).1 ≤ 1600 from ⟨l3, l2⟩) (fun i j i0 i1 j0 j1 e => inj i j i0 i1 j0 j1 (by rw [← hk i i0 i1, ← hk j j0 j1]; exact e))) (fun s2 q2 => ?_)
  obtain ⟨⟨lr2, H2, f1, f2, so⟩, r2⟩ := q2
  have so2 : so_S (fd_c (ag_q (fun p => oV (hq_g ar 190) ((oI (hq_g ar 190)) p) 4) (fun p v => oV (hq_g ar 190) ((oI (hq_g ar 190)) p) (10 + v)) (z 0) a b) ((2 * (hq_g ar 190 0).toNat : Nat) : Int)) (fd_a (ag_q (fun p => oV (hq_g ar 190) ((oI (hq_g ar 190)) p) 4) (fun p v => oV (hq_g ar 190) ((oI (hq_g ar 190)) p) (10 + v)) (z 0) a b) (ag_k (fun p => oV (hq_g ar 190) ((oI (hq_g ar 190)) p) 5) (fun p v => oV (hq_g ar 190) ((oI (hq_g ar 190)) p) (10 + v)) (z 0)) (fun _ => 0) (2 * (hq_g ar 190 0).toNat)) (lq_g lr2) := so_S_cg so hk
  refine pm_Fv.go 1 (f' := (25, 68, [(0, _), (1, _), (2, _)], [_])) rfl ?_
  refine pm_Fv.gf rfl rfl H2.m0 H2.o0 rfl ?_
  refine pm_Fv.cvF rfl rfl rfl rfl (by decide) (Nat.le_of_ble_eq_true rfl) (Nat.le_of_ble_eq_true rfl) H2.m192 H2.o192 (ev_fclear L xs H2) (fun s3 q3 => ?_)
  obtain ⟨H3, r3⟩ := q3
  refine pm_Fv.go 2 (f' := (25, 76, [(3, _), (0, _), (1, _), (2, _)], [])) rfl ?_
  refine pm_Fv.weak (ev_dagF (σ := σ) L xs (z := z) (lr := lr) (ar := ar) hl N (a := a) (b := b) (c := (fd_c (ag_q (fun p => oV (hq_g ar 190) ((oI (hq_g ar 190)) p) 4) (fun p v => oV (hq_g ar 190) ((oI (hq_g ar 190)) p) (10 + v)) (z 0) a b) ((2 * (hq_g ar 190 0).toNat : Nat) : Int))) (lr1 := lr2) (by omega) (by omega) (fun i i0 i1 => ?_) (fd_c (ag_q (fun p => oV (hq_g ar 190) ((oI (hq_g ar 190)) p) 4) (fun p v => oV (hq_g ar 190) ((oI (hq_g ar 190)) p) (10 + v)) (z 0) a b) ((2 * (hq_g ar 190 0).toNat : Nat) : Int)).toNat 0 s3 ad1 ar (by omega) (by omega) H3 ⟨fun _ _ _ _ => rfl, fun i i0 i1 => absurd i1 (by omega), l4, l5, l6.1, l6.2, by omega, hq_rm_tr rm (hq_rm_len (r3.trans r2) (fun _ => rfl) f2)⟩ |>.mono (fun o s q => ?_)) rfl
  · obtain ⟨x, x0, x1, x2⟩ := so2.2.1 i i0 i1
    obtain ⟨u, u0, u1, u2, u3⟩ := fd_a_ex (ag_q (fun p => oV (hq_g ar 190) ((oI (hq_g ar 190)) p) 4) (fun p v => oV (hq_g ar 190) ((oI (hq_g ar 190)) p) (10 + v)) (z 0) a b) (ag_k (fun p => oV (hq_g ar 190) ((oI (hq_g ar 190)) p) 5) (fun p v => oV (hq_g ar 190) ((oI (hq_g ar 190)) p) (10 + v)) (z 0)) (fun _ => 0) (2 * (hq_g ar 190 0).toNat) x x0 x1
    have d := dec u u0 u1
    rw [x2, u3]
    omega
  · obtain ⟨q1, ad', ar', Hq, q2⟩ := q
    exact ⟨q1, ad', ar', lr2, Hq, f1.trans e1, by omega, by omega, so2, q2⟩
end MS
