/-! the desk: questions -/
theorem fo_anc {F D : Int → Int} {n y : Int} (W : fo_W D n) (y0 : 0 ≤ y) : ∀ (k : Nat) (x : Int), x < k → y < x → x < n → (∀ q, y < q → q ≤ x → D y < D q) → fo_sns F D x = 1 → F y ≠ 1 ∧ fo_sns F D y = 1 := by
  intro k
  induction k with
  | zero =>
    intro x xk yx
    omega
  | succ k ih =>
    intro x xk yx xn hq hs
    have P := fo_par_P W (p := x) (by omega) xn
    have py : y ≤ fo_par D x := by
      refine Int.not_lt.mp fun c => ?_
      have := P.2.2.2 y c yx
      have := hq x yx (Int.le_refl x)
      omega
    have p1 := P.2.1
    rw [fo_sns_s W (by omega) xn, if_neg (by omega)] at hs
    by_cases e : F (fo_par D x) = 1
    · rw [if_pos e] at hs
      exact absurd hs (by decide)
    · rw [if_neg e] at hs
      by_cases z : fo_par D x = y
      · rw [← z]
        exact ⟨e, hs⟩
      · exact ih (fo_par D x) (by omega) (by omega) (by omega) (fun q q0 q1 => hq q q0 (by omega)) hs
def ln_st (F D : Int → Int) (s k : Int) : Prop := (s = 12 ∧ (k = 0 ∨ (fo_sns F D (k - 1) = 1 ∧ F (k - 1) ≠ 1))) ∨ ∃ x, 0 ≤ x ∧ x < k ∧ fo_sns F D x = 1 ∧ F x = 1 ∧ s = D x ∧ ∀ q, x < q → q < k → D x < D q
theorem ln_seen {F D : Int → Int} {n s k : Int} (W : fo_W D n) (k0 : 0 ≤ k) (kn : k < n) (d12 : D k ≤ 12) (h : ln_st F D s k) : D k ≤ s ↔ fo_sns F D k = 1 := by
  have P := fo_par_P W k0 kn
  have p1 := P.2.1
  have s01 : fo_sns F D k = 0 ∨ fo_sns F D k = 1 := fo_sn_01 _ _ _ _
  have up : fo_par D k = -1 ∨ (F (fo_par D k) ≠ 1 ∧ fo_sns F D (fo_par D k) = 1) → fo_sns F D k = 1 := by
    intro q
    rw [fo_sns_s W k0 kn]
    rcases q with q | q
    · rw [if_pos (by omega)]
    · by_cases z : fo_par D k < 0
      · rw [if_pos z]
      · rw [if_neg z, if_neg q.1]
        exact q.2
  rcases h with ⟨rfl, h⟩ | ⟨x, x0, xk, xs, xf, rfl, hx⟩
  · refine ⟨fun _ => up ?_, fun _ => d12⟩
    by_cases z : fo_par D k = -1
    · exact Or.inl z
    · refine Or.inr ?_
      have pp : 0 ≤ fo_par D k := by have := P.1; omega
      rcases h with h | ⟨h1, h2⟩
      · omega
      · by_cases e : fo_par D k = k - 1
        · rw [e]
          exact ⟨h2, h1⟩
        · exact fo_anc W pp (k := k.toNat) (k - 1) (by omega) (by omega) (by omega) (fun q q0 q1 => by
            have := P.2.2.2 q q0 (by omega)
            have := P.2.2.1
            omega) h1
  · constructor
    · intro q
      refine up ?_
      by_cases z : fo_par D k = -1
      · exact Or.inl z
      · refine Or.inr ?_
        have pp : 0 ≤ fo_par D k := by have := P.1; omega
        have dp := P.2.2.1
        have yx : fo_par D k < x := by
          refine Int.not_le.mp fun c => ?_
          by_cases e : fo_par D k = x
          · rw [e] at dp
            omega
          · have := hx (fo_par D k) (by omega) p1
            omega
        exact fo_anc W pp (k := (x + 1).toNat) x (by omega) yx (by omega) (fun q q0 q1 => by
          have := P.2.2.2 q q0 (by omega)
          omega) xs
    · intro q
      refine Int.not_lt.mp fun c => ?_
      have := (fo_anc W x0 (k := (k + 1).toNat) k (by omega) xk kn (fun q q0 q1 => by
        by_cases e : q = k
        · rw [e]
          exact c
        · exact hx q q0 (by omega)) q).1
      exact this xf
section MS
variable (L : Nat) (xs : Nat → Int32)
variable {σ : pm_S} {ad : Nat → Nat} {z : Nat → Int} {ar : Nat → Nat × (Nat → Int32)} {lr : Nat → Nat × (Nat → Int64)}
theorem ev_dsteps00 (H : Hp σ ad z ar lr)  : pm_Ev (tq_P L xs) (pm_enter 20 [.ref 0, .int (zI 0)]) σ (.inl (some (.int (zI (z 3)))), σ) := by
  show pm_Ev (tq_P L xs) (20, 0, [(0, .ref 0), (1, .int (zI 0))], []) σ _
  refine pm_Ev.go 3 (f' := (20, 3, [(0, _), (1, _)], [_, _, _])) rfl ?_
  refine pm_Ev.call rfl rfl rfl rfl rfl (ev_in1 L xs (by omega) (by omega)) ?_
  refine pm_Ev.call rfl rfl rfl rfl rfl (ev_ckN1 L xs) ?_
  refine pm_Ev.go 3 (f' := (20, 37, [(0, _), (1, _)], [_])) rfl ?_
  refine pm_Ev.gf rfl rfl H.m0 H.o0 rfl ?_
  refine pm_Ev.gf rfl rfl H.m1 H.o1 rfl ?_
  exact pm_Ev.rv rfl rfl rfl
theorem ev_dsteps01 (H : Hp σ ad z ar lr)  : pm_Ev (tq_P L xs) (pm_enter 20 [.ref 0, .int (zI 1)]) σ (.inl (some (.int (zI (z 4)))), σ) := by
  show pm_Ev (tq_P L xs) (20, 0, [(0, .ref 0), (1, .int (zI 1))], []) σ _
  refine pm_Ev.go 3 (f' := (20, 3, [(0, _), (1, _)], [_, _, _])) rfl ?_
  refine pm_Ev.call rfl rfl rfl rfl rfl (ev_in1 L xs (by omega) (by omega)) ?_
  refine pm_Ev.call rfl rfl rfl rfl rfl (ev_ckN1 L xs) ?_
  refine pm_Ev.go 3 (f' := (20, 45, [(0, _), (1, _)], [_])) rfl ?_
  refine pm_Ev.gf rfl rfl H.m0 H.o0 rfl ?_
  refine pm_Ev.gf rfl rfl H.m1 H.o1 rfl ?_
  exact pm_Ev.rv rfl rfl rfl
theorem ev_dsteps02 (H : Hp σ ad z ar lr)  : pm_Ev (tq_P L xs) (pm_enter 20 [.ref 0, .int (zI 2)]) σ (.inl (some (.int (zI (z 6)))), σ) := by
  show pm_Ev (tq_P L xs) (20, 0, [(0, .ref 0), (1, .int (zI 2))], []) σ _
  refine pm_Ev.go 3 (f' := (20, 3, [(0, _), (1, _)], [_, _, _])) rfl ?_
  refine pm_Ev.call rfl rfl rfl rfl rfl (ev_in1 L xs (by omega) (by omega)) ?_
  refine pm_Ev.call rfl rfl rfl rfl rfl (ev_ckN1 L xs) ?_
  refine pm_Ev.go 3 (f' := (20, 53, [(0, _), (1, _)], [_])) rfl ?_
  refine pm_Ev.gf rfl rfl H.m0 H.o0 rfl ?_
  refine pm_Ev.gf rfl rfl H.m1 H.o1 rfl ?_
  exact pm_Ev.rv rfl rfl rfl
theorem ev_dtoday0 (H : Hp σ ad z ar lr) {v : Int} (hv : -2147483648 ≤ v ∧ v ≤ 2147483647) (c : 0 ≤ v ∧ v ≤ 3652058) : pm_Fv (tq_P L xs) (pm_enter 21 [.ref 0, .int (zI v)]) σ (fun o s => o = .inl (some (.int (zI (z 0)))) ∧ Hp s ad (hq_u z 0 v) ar lr ∧ s.2 = σ.2) := by
  show pm_Fv (tq_P L xs) (21, 0, [(0, .ref 0), (1, .int (zI v))], []) σ _
  refine pm_Fv.go 1 (f' := (21, 1, [(0, _), (1, _)], [_])) rfl ?_
  refine pm_Fv.call rfl rfl rfl rfl rfl (ev_day1 L xs hv c) ?_
  refine pm_Fv.call rfl rfl rfl rfl rfl (ev_ckN1 L xs) ?_
  refine pm_Fv.go 1 (f' := (21, 8, [(0, _), (1, _)], [_])) rfl ?_
  refine pm_Fv.gf rfl rfl H.m0 H.o0 rfl ?_
  refine pm_Fv.go 3 (f' := (21, 14, [(2, _), (0, _), (1, _)], [_, _])) rfl ?_
  refine pm_Fv.pz H 0 rfl rfl rfl (by decide) rfl rfl (Nat.le_of_ble_eq_true rfl) rfl (by decide) rfl (fun s1 H1 r1 => ?_)
  refine pm_Fv.go 1 (f' := (21, 18, [(2, _), (0, _), (1, _)], [_])) rfl ?_
  exact pm_Fv.rv rfl rfl ⟨rfl, H1, r1⟩
theorem ev_dday0 (H : Hp σ ad z ar lr) {y m v : Int} (hy : -2147483648 ≤ y ∧ y ≤ 2147483647) (hm : -2147483648 ≤ m ∧ m ≤ 2147483647) (hv : -2147483648 ≤ v ∧ v ≤ 2147483647) (c : 1 ≤ y ∧ y ≤ 9999) (d : 1 ≤ m ∧ m ≤ 12) (e : 1 ≤ v ∧ v ≤ cd_len ((y - 1) * 12 + m - 1)) : pm_Ev (tq_P L xs) (pm_enter 22 [.ref 0, .int (zI y), .int (zI m), .int (zI v)]) σ (.inl (some (.int (zI (cd_num ((y - 1) * 12 + m - 1) v)))), σ) := by
  show pm_Ev (tq_P L xs) (22, 0, [(0, .ref 0), (1, .int (zI y)), (2, .int (zI m)), (3, .int (zI v))], []) σ _
  have ln := cd_len_r ((y - 1) * 12 + m - 1)
  refine pm_Ev.go 2 (f' := (22, 2, [(0, _), (1, _), (2, _), (3, _)], [_, _])) rfl ?_
  refine pm_Ev.sp rfl rfl ?_
  refine pm_Ev.call rfl rfl rfl rfl rfl (ev_in1 L xs (by omega) c) ?_
  refine pm_Ev.zeq rfl (by omega) rfl (fun h1 => ?_) (fun h1 => ?_)
  · exact absurd h1 (by omega)
  · refine pm_Ev.go 2 (f' := (22, 13, [(0, _), (1, _), (2, _), (3, _)], [_, _])) rfl ?_
    refine pm_Ev.bp rfl rfl ?_
    refine pm_Ev.call rfl rfl rfl rfl rfl (ev_in1 L xs (by omega) d) ?_
    refine pm_Ev.zeq rfl (by omega) rfl (fun h2 => ?_) (fun h2 => ?_)
    · exact absurd h2 (by omega)
    · refine pm_Ev.go 2 (f' := (22, 26, [(0, _), (1, _), (2, _), (3, _)], [_])) rfl ?_
      refine pm_Ev.call rfl rfl rfl rfl rfl (ev_ckN1 L xs) ?_
      refine pm_Ev.go 2 (f' := (22, 31, [(0, _), (1, _), (2, _), (3, _)], [_, _])) rfl ?_
      refine pm_Ev.isub rfl ?_
      refine pm_Ev.bp rfl rfl ?_
      refine pm_Ev.imul rfl ?_
      refine pm_Ev.go 1 (f' := (22, 36, [(0, _), (1, _), (2, _), (3, _)], [_, _])) rfl ?_
      refine pm_Ev.iadd rfl ?_
      refine pm_Ev.go 1 (f' := (22, 38, [(0, _), (1, _), (2, _), (3, _)], [_, _])) rfl ?_
      refine pm_Ev.isub rfl ?_
      refine pm_Ev.go 4 (f' := (22, 45, [(4, _), (0, _), (1, _), (2, _), (3, _)], [_, _, _])) rfl ?_
      refine pm_Ev.call rfl rfl rfl rfl rfl (ev_lengthOf L xs _ (by omega)) ?_
      refine pm_Ev.call rfl rfl rfl rfl rfl (ev_in1 L xs (by omega) e) ?_
      refine pm_Ev.call rfl rfl rfl rfl rfl (ev_ckN1 L xs) ?_
      refine pm_Ev.go 2 (f' := (22, 57, [(4, _), (0, _), (1, _), (2, _), (3, _)], [_, _])) rfl ?_
      refine pm_Ev.call rfl rfl rfl rfl rfl (ev_number L xs _ (by omega)) ?_
      exact pm_Ev.rv rfl rfl rfl
theorem ev_dcal00 (H : Hp σ ad z ar lr) {d : Int} (c : 0 ≤ d ∧ d ≤ 3652058) : pm_Ev (tq_P L xs) (pm_enter 23 [.ref 0, .int (zI d), .int (zI 0)]) σ (.inl (some (.int (zI (cd_yr d)))), σ) := by
  show pm_Ev (tq_P L xs) (23, 0, [(0, .ref 0), (1, .int (zI d)), (2, .int (zI 0))], []) σ _
  have y1 := cd_yr_r c.1 (by omega : d ≤ 10000000)
  have mb := cd_mb_ok c.1
  refine pm_Ev.go 1 (f' := (23, 1, [(0, _), (1, _), (2, _)], [_])) rfl ?_
  refine pm_Ev.call rfl rfl rfl rfl rfl (ev_day1 L xs (by omega) c) ?_
  refine pm_Ev.zeq rfl (by omega) rfl (fun h1 => ?_) (fun h1 => ?_)
  · exact absurd h1 (by omega)
  · refine pm_Ev.go 3 (f' := (23, 10, [(0, _), (1, _), (2, _)], [_, _, _])) rfl ?_
    refine pm_Ev.call rfl rfl rfl rfl rfl (ev_in1 L xs (by omega) (by omega)) ?_
    refine pm_Ev.zeq rfl (by omega) rfl (fun h2 => ?_) (fun h2 => ?_)
    · exact absurd h2 (by omega)
    · refine pm_Ev.go 2 (f' := (23, 21, [(0, _), (1, _), (2, _)], [_])) rfl ?_
      refine pm_Ev.call rfl rfl rfl rfl rfl (ev_ckN1 L xs) ?_
      refine pm_Ev.go 3 (f' := (23, 53, [(0, _), (1, _), (2, _)], [_])) rfl ?_
      refine pm_Ev.call rfl rfl rfl rfl rfl (ev_yearOf L xs _ (by omega)) ?_
      exact pm_Ev.rv rfl rfl rfl
theorem ev_dcal01 (H : Hp σ ad z ar lr) {d : Int} (c : 0 ≤ d ∧ d ≤ 3652058) : pm_Ev (tq_P L xs) (pm_enter 23 [.ref 0, .int (zI d), .int (zI 1)]) σ (.inl (some (.int (zI (cd_mb d % 12 + 1)))), σ) := by
  show pm_Ev (tq_P L xs) (23, 0, [(0, .ref 0), (1, .int (zI d)), (2, .int (zI 1))], []) σ _
  have y1 := cd_yr_r c.1 (by omega : d ≤ 10000000)
  have mb := cd_mb_ok c.1
  refine pm_Ev.go 1 (f' := (23, 1, [(0, _), (1, _), (2, _)], [_])) rfl ?_
  refine pm_Ev.call rfl rfl rfl rfl rfl (ev_day1 L xs (by omega) c) ?_
  refine pm_Ev.zeq rfl (by omega) rfl (fun h1 => ?_) (fun h1 => ?_)
  · exact absurd h1 (by omega)
  · refine pm_Ev.go 3 (f' := (23, 10, [(0, _), (1, _), (2, _)], [_, _, _])) rfl ?_
    refine pm_Ev.call rfl rfl rfl rfl rfl (ev_in1 L xs (by omega) (by omega)) ?_
    refine pm_Ev.zeq rfl (by omega) rfl (fun h2 => ?_) (fun h2 => ?_)
    · exact absurd h2 (by omega)
    · refine pm_Ev.go 2 (f' := (23, 21, [(0, _), (1, _), (2, _)], [_])) rfl ?_
      refine pm_Ev.call rfl rfl rfl rfl rfl (ev_ckN1 L xs) ?_
      refine pm_Ev.go 3 (f' := (23, 58, [(0, _), (1, _), (2, _)], [_])) rfl ?_
      refine pm_Ev.call rfl rfl rfl rfl rfl (ev_monthsBefore L xs _ (by omega)) ?_
      refine pm_Ev.bp rfl rfl ?_
      refine pm_Ev.irem rfl (by omega) ?_
      refine pm_Ev.go 1 (f' := (23, 65, [(0, _), (1, _), (2, _)], [_, _])) rfl ?_
      refine pm_Ev.iadd rfl ?_
      exact pm_Ev.rv rfl rfl rfl
theorem ev_dcal02 (H : Hp σ ad z ar lr) {d : Int} (c : 0 ≤ d ∧ d ≤ 3652058) : pm_Ev (tq_P L xs) (pm_enter 23 [.ref 0, .int (zI d), .int (zI 2)]) σ (.inl (some (.int (zI (d - cd_num (cd_mb d) 1 + 1)))), σ) := by
  show pm_Ev (tq_P L xs) (23, 0, [(0, .ref 0), (1, .int (zI d)), (2, .int (zI 2))], []) σ _
  have y1 := cd_yr_r c.1 (by omega : d ≤ 10000000)
  have mb := cd_mb_ok c.1
  refine pm_Ev.go 1 (f' := (23, 1, [(0, _), (1, _), (2, _)], [_])) rfl ?_
  refine pm_Ev.call rfl rfl rfl rfl rfl (ev_day1 L xs (by omega) c) ?_
  refine pm_Ev.zeq rfl (by omega) rfl (fun h1 => ?_) (fun h1 => ?_)
  · exact absurd h1 (by omega)
  · refine pm_Ev.go 3 (f' := (23, 10, [(0, _), (1, _), (2, _)], [_, _, _])) rfl ?_
    refine pm_Ev.call rfl rfl rfl rfl rfl (ev_in1 L xs (by omega) (by omega)) ?_
    refine pm_Ev.zeq rfl (by omega) rfl (fun h2 => ?_) (fun h2 => ?_)
    · exact absurd h2 (by omega)
    · refine pm_Ev.go 2 (f' := (23, 21, [(0, _), (1, _), (2, _)], [_])) rfl ?_
      refine pm_Ev.call rfl rfl rfl rfl rfl (ev_ckN1 L xs) ?_
      refine pm_Ev.go 4 (f' := (23, 69, [(0, _), (1, _), (2, _)], [_, _])) rfl ?_
      refine pm_Ev.call rfl rfl rfl rfl rfl (ev_monthsBefore L xs _ (by omega)) ?_
      refine pm_Ev.call rfl rfl rfl rfl rfl (ev_dayInMonth L xs _ (by omega)) ?_
      exact pm_Ev.rv rfl rfl rfl
theorem ev_dcal03 (H : Hp σ ad z ar lr) {d : Int} (c : 0 ≤ d ∧ d ≤ 3652058) : pm_Ev (tq_P L xs) (pm_enter 23 [.ref 0, .int (zI d), .int (zI 3)]) σ (.inl (some (.int (zI (d % 7)))), σ) := by
  show pm_Ev (tq_P L xs) (23, 0, [(0, .ref 0), (1, .int (zI d)), (2, .int (zI 3))], []) σ _
  have y1 := cd_yr_r c.1 (by omega : d ≤ 10000000)
  have mb := cd_mb_ok c.1
  refine pm_Ev.go 1 (f' := (23, 1, [(0, _), (1, _), (2, _)], [_])) rfl ?_
  refine pm_Ev.call rfl rfl rfl rfl rfl (ev_day1 L xs (by omega) c) ?_
  refine pm_Ev.zeq rfl (by omega) rfl (fun h1 => ?_) (fun h1 => ?_)
  · exact absurd h1 (by omega)
  · refine pm_Ev.go 3 (f' := (23, 10, [(0, _), (1, _), (2, _)], [_, _, _])) rfl ?_
    refine pm_Ev.call rfl rfl rfl rfl rfl (ev_in1 L xs (by omega) (by omega)) ?_
    refine pm_Ev.zeq rfl (by omega) rfl (fun h2 => ?_) (fun h2 => ?_)
    · exact absurd h2 (by omega)
    · refine pm_Ev.go 2 (f' := (23, 21, [(0, _), (1, _), (2, _)], [_])) rfl ?_
      refine pm_Ev.call rfl rfl rfl rfl rfl (ev_ckN1 L xs) ?_
      refine pm_Ev.go 3 (f' := (23, 77, [(0, _), (1, _), (2, _)], [_])) rfl ?_
      refine pm_Ev.bp rfl rfl ?_
      refine pm_Ev.irem rfl (by omega) ?_
      exact pm_Ev.rv rfl rfl rfl
theorem ev_dfound00 (H : Hp σ ad z ar lr) {i : Int} (hi : -2147483648 ≤ i ∧ i ≤ 2147483647) (f0 : 0 ≤ z 9 ∧ z 9 ≤ 800) (c : 0 ≤ i ∧ i ≤ z 9 - 1) (fz : z 9 ≤ ((ar 193).1 : Int)) (l4 : (ar 194).1 = (ar 193).1) (l5 : (ar 195).1 = (ar 193).1) (l3 : (ar 193).1 ≤ 1600) : pm_Ev (tq_P L xs) (pm_enter 26 [.ref 0, .int (zI i), .int (zI 0)]) σ (.inl (some (.int (zI (hq_g ar 193 i)))), σ) := by
  show pm_Ev (tq_P L xs) (26, 0, [(0, .ref 0), (1, .int (zI i)), (2, .int (zI 0))], []) σ _
  refine pm_Ev.go 3 (f' := (26, 3, [(0, _), (1, _), (2, _)], [_, _, _])) rfl ?_
  refine pm_Ev.gf rfl rfl H.m0 H.o0 rfl ?_
  refine pm_Ev.gf rfl rfl H.m192 H.o192 rfl ?_
  refine pm_Ev.go 1 (f' := (26, 10, [(0, _), (1, _), (2, _)], [_, _, _, _])) rfl ?_
  refine pm_Ev.isub rfl ?_
  refine pm_Ev.call rfl rfl rfl rfl rfl (ev_in1 L xs (by omega) c) ?_
  refine pm_Ev.zne rfl (by omega) rfl (fun h1 => ?_) (fun h1 => ?_)
  · refine pm_Ev.go 3 (f' := (26, 28, [(0, _), (1, _), (2, _)], [_, _, _])) rfl ?_
    refine pm_Ev.call rfl rfl rfl rfl rfl (ev_in1 L xs (by omega) (by omega)) ?_
    refine pm_Ev.call rfl rfl rfl rfl rfl (ev_ckN1 L xs) ?_
    refine pm_Ev.go 3 (f' := (26, 61, [(0, _), (1, _), (2, _)], [_])) rfl ?_
    refine pm_Ev.gf rfl rfl H.m0 H.o0 rfl ?_
    refine pm_Ev.gf rfl rfl H.m192 H.o192 rfl ?_
    refine pm_Ev.go 1 (f' := (26, 68, [(0, _), (1, _), (2, _)], [_, _])) rfl ?_
    refine pm_Ev.dia H rfl (by decide) rfl (by omega) ?_
    exact pm_Ev.rv rfl rfl rfl
  · exact absurd h1 (by omega)
theorem ev_dfound01 (H : Hp σ ad z ar lr) {i : Int} (hi : -2147483648 ≤ i ∧ i ≤ 2147483647) (f0 : 0 ≤ z 9 ∧ z 9 ≤ 800) (c : 0 ≤ i ∧ i ≤ z 9 - 1) (fz : z 9 ≤ ((ar 193).1 : Int)) (l4 : (ar 194).1 = (ar 193).1) (l5 : (ar 195).1 = (ar 193).1) (l3 : (ar 193).1 ≤ 1600) : pm_Ev (tq_P L xs) (pm_enter 26 [.ref 0, .int (zI i), .int (zI 1)]) σ (.inl (some (.int (zI (hq_g ar 194 i)))), σ) := by
  show pm_Ev (tq_P L xs) (26, 0, [(0, .ref 0), (1, .int (zI i)), (2, .int (zI 1))], []) σ _
  refine pm_Ev.go 3 (f' := (26, 3, [(0, _), (1, _), (2, _)], [_, _, _])) rfl ?_
  refine pm_Ev.gf rfl rfl H.m0 H.o0 rfl ?_
  refine pm_Ev.gf rfl rfl H.m192 H.o192 rfl ?_
  refine pm_Ev.go 1 (f' := (26, 10, [(0, _), (1, _), (2, _)], [_, _, _, _])) rfl ?_
  refine pm_Ev.isub rfl ?_
  refine pm_Ev.call rfl rfl rfl rfl rfl (ev_in1 L xs (by omega) c) ?_
  refine pm_Ev.zne rfl (by omega) rfl (fun h1 => ?_) (fun h1 => ?_)
  · refine pm_Ev.go 3 (f' := (26, 28, [(0, _), (1, _), (2, _)], [_, _, _])) rfl ?_
    refine pm_Ev.call rfl rfl rfl rfl rfl (ev_in1 L xs (by omega) (by omega)) ?_
    refine pm_Ev.call rfl rfl rfl rfl rfl (ev_ckN1 L xs) ?_
    refine pm_Ev.go 3 (f' := (26, 71, [(0, _), (1, _), (2, _)], [_])) rfl ?_
    refine pm_Ev.gf rfl rfl H.m0 H.o0 rfl ?_
    refine pm_Ev.gf rfl rfl H.m192 H.o192 rfl ?_
    refine pm_Ev.go 1 (f' := (26, 78, [(0, _), (1, _), (2, _)], [_, _])) rfl ?_
    refine pm_Ev.dia H rfl (by decide) rfl (by omega) ?_
    exact pm_Ev.rv rfl rfl rfl
  · exact absurd h1 (by omega)
theorem ev_dfound02 (H : Hp σ ad z ar lr) {i : Int} (hi : -2147483648 ≤ i ∧ i ≤ 2147483647) (f0 : 0 ≤ z 9 ∧ z 9 ≤ 800) (c : 0 ≤ i ∧ i ≤ z 9 - 1) (fz : z 9 ≤ ((ar 193).1 : Int)) (l4 : (ar 194).1 = (ar 193).1) (l5 : (ar 195).1 = (ar 193).1) (l3 : (ar 193).1 ≤ 1600) : pm_Ev (tq_P L xs) (pm_enter 26 [.ref 0, .int (zI i), .int (zI 2)]) σ (.inl (some (.int (zI (hq_g ar 195 i)))), σ) := by
  show pm_Ev (tq_P L xs) (26, 0, [(0, .ref 0), (1, .int (zI i)), (2, .int (zI 2))], []) σ _
  refine pm_Ev.go 3 (f' := (26, 3, [(0, _), (1, _), (2, _)], [_, _, _])) rfl ?_
  refine pm_Ev.gf rfl rfl H.m0 H.o0 rfl ?_
  refine pm_Ev.gf rfl rfl H.m192 H.o192 rfl ?_
  refine pm_Ev.go 1 (f' := (26, 10, [(0, _), (1, _), (2, _)], [_, _, _, _])) rfl ?_
  refine pm_Ev.isub rfl ?_
  refine pm_Ev.call rfl rfl rfl rfl rfl (ev_in1 L xs (by omega) c) ?_
  refine pm_Ev.zne rfl (by omega) rfl (fun h1 => ?_) (fun h1 => ?_)
  · refine pm_Ev.go 3 (f' := (26, 28, [(0, _), (1, _), (2, _)], [_, _, _])) rfl ?_
    refine pm_Ev.call rfl rfl rfl rfl rfl (ev_in1 L xs (by omega) (by omega)) ?_
    refine pm_Ev.call rfl rfl rfl rfl rfl (ev_ckN1 L xs) ?_
    refine pm_Ev.go 3 (f' := (26, 81, [(0, _), (1, _), (2, _)], [_])) rfl ?_
    refine pm_Ev.gf rfl rfl H.m0 H.o0 rfl ?_
    refine pm_Ev.gf rfl rfl H.m192 H.o192 rfl ?_
    refine pm_Ev.go 1 (f' := (26, 88, [(0, _), (1, _), (2, _)], [_, _])) rfl ?_
    refine pm_Ev.dia H rfl (by decide) rfl (by omega) ?_
    exact pm_Ev.rv rfl rfl rfl
  · exact absurd h1 (by omega)
theorem ev_dchildN (H : Hp σ ad z ar lr) (hl : od_L z ar) (N : od_N (hq_g ar 190) (z 8)) {r : Int} (u0 : -1 ≤ r) (u1 : r < (hq_g ar 190 0) ∨ r = -1) {k : Int} (hk : -2147483648 ≤ k ∧ k ≤ 2147483647) (c : ¬ (0 ≤ k ∧ k ≤ fo_cc (oD (hq_g ar 190)) (hq_g ar 190 0) r - 1)) : pm_Ev (tq_P L xs) (pm_enter 28 [.ref 0, .int (zI (fo_id (oI (hq_g ar 190)) r)), .int (zI k)]) σ (.inl (some (.int (zI (-1)))), σ) := by
  show pm_Ev (tq_P L xs) (28, 0, [(0, .ref 0), (1, .int (zI (fo_id (oI (hq_g ar 190)) r))), (2, .int (zI k))], []) σ _
  have cc := fo_cc_r N.W u0 u1
  have nm := N.nm
  have m4 := N.m4
  have B := fo_end_B' N.W u0 u1
  refine pm_Ev.go 2 (f' := (28, 2, [(0, _), (1, _), (2, _)], [_, _])) rfl ?_
  refine pm_Ev.cv rfl rfl rfl rfl (by decide) (Nat.le_of_ble_eq_true rfl) (Nat.le_of_ble_eq_true rfl) H.m0 H.o0 (ev_por L xs H hl N u0 u1) ?_
  refine pm_Ev.go 4 (f' := (28, 9, [(3, _), (0, _), (1, _), (2, _)], [_, _, _])) rfl ?_
  refine pm_Ev.gf rfl rfl H.m0 H.o0 rfl ?_
  refine pm_Ev.go 1 (f' := (28, 13, [(3, _), (0, _), (1, _), (2, _)], [_, _, _, _])) rfl ?_
  refine pm_Ev.cv rfl rfl rfl rfl (by decide) (Nat.le_of_ble_eq_true rfl) (Nat.le_of_ble_eq_true rfl) H.m188 H.o188 (ev_childCount L xs H hl N u0 u1) ?_
  refine pm_Ev.go 1 (f' := (28, 17, [(3, _), (0, _), (1, _), (2, _)], [_, _, _, _])) rfl ?_
  refine pm_Ev.isub rfl ?_
  refine pm_Ev.call rfl rfl rfl rfl rfl (ev_in0 L xs (by omega) c) ?_
  refine pm_Ev.zne rfl (by omega) rfl (fun h1 => ?_) (fun h1 => ?_)
  · exact absurd h1 (by omega)
  · refine pm_Ev.go 1 (f' := (28, 25, [(3, _), (0, _), (1, _), (2, _)], [_])) rfl ?_
    exact pm_Ev.rv rfl rfl rfl
theorem od_cw_c {D : Int → Int} {r a b : Int} (ha : 0 ≤ a) : od_cw D r (-2) a b = fo_c D (D r + 1) a b := by
  refine fs_cg (fun q q0 q1 => ?_)
  by_cases c : D q = D r + 1
  · rw [if_pos c, if_pos ⟨c, by omega⟩]
  · rw [if_neg c, if_neg (fun x => c x.1)]
theorem ev_dchild0 (H : Hp σ ad z ar lr) (hl : od_L z ar) (N : od_N (hq_g ar 190) (z 8)) {r : Int} (u0 : -1 ≤ r) (u1 : r < (hq_g ar 190 0) ∨ r = -1) {k x : Int} (hk : -2147483648 ≤ k ∧ k ≤ 2147483647) (c : 0 ≤ k ∧ k ≤ fo_cc (oD (hq_g ar 190)) (hq_g ar 190 0) r - 1) (x0 : r < x) (x1 : x < fo_end (oD (hq_g ar 190)) (hq_g ar 190 0) r) (x2 : (oD (hq_g ar 190)) x = (oD (hq_g ar 190)) r + 1) (x3 : fo_c (oD (hq_g ar 190)) ((oD (hq_g ar 190)) r + 1) (r + 1) x = k) : pm_Ev (tq_P L xs) (pm_enter 28 [.ref 0, .int (zI (fo_id (oI (hq_g ar 190)) r)), .int (zI k)]) σ (.inl (some (.int (zI ((oI (hq_g ar 190)) x)))), σ) := by
  show pm_Ev (tq_P L xs) (28, 0, [(0, .ref 0), (1, .int (zI (fo_id (oI (hq_g ar 190)) r))), (2, .int (zI k))], []) σ _
  have cc := fo_cc_r N.W u0 u1
  have nm := N.nm
  have m4 := N.m4
  have B := fo_end_B' N.W u0 u1
  refine pm_Ev.go 2 (f' := (28, 2, [(0, _), (1, _), (2, _)], [_, _])) rfl ?_
  refine pm_Ev.cv rfl rfl rfl rfl (by decide) (Nat.le_of_ble_eq_true rfl) (Nat.le_of_ble_eq_true rfl) H.m0 H.o0 (ev_por L xs H hl N u0 u1) ?_
  refine pm_Ev.go 4 (f' := (28, 9, [(3, _), (0, _), (1, _), (2, _)], [_, _, _])) rfl ?_
  refine pm_Ev.gf rfl rfl H.m0 H.o0 rfl ?_
  refine pm_Ev.go 1 (f' := (28, 13, [(3, _), (0, _), (1, _), (2, _)], [_, _, _, _])) rfl ?_
  refine pm_Ev.cv rfl rfl rfl rfl (by decide) (Nat.le_of_ble_eq_true rfl) (Nat.le_of_ble_eq_true rfl) H.m188 H.o188 (ev_childCount L xs H hl N u0 u1) ?_
  refine pm_Ev.go 1 (f' := (28, 17, [(3, _), (0, _), (1, _), (2, _)], [_, _, _, _])) rfl ?_
  refine pm_Ev.isub rfl ?_
  refine pm_Ev.call rfl rfl rfl rfl rfl (ev_in1 L xs (by omega) c) ?_
  refine pm_Ev.zne rfl (by omega) rfl (fun h1 => ?_) (fun h1 => ?_)
  · refine pm_Ev.go 1 (f' := (28, 27, [(3, _), (0, _), (1, _), (2, _)], [_])) rfl ?_
    refine pm_Ev.gf rfl rfl H.m0 H.o0 rfl ?_
    refine pm_Ev.go 1 (f' := (28, 31, [(3, _), (0, _), (1, _), (2, _)], [_, _])) rfl ?_
    refine pm_Ev.gf rfl rfl H.m0 H.o0 rfl ?_
    refine pm_Ev.go 2 (f' := (28, 36, [(3, _), (0, _), (1, _), (2, _)], [_, _, _, _])) rfl ?_
    refine pm_Ev.cv rfl rfl rfl rfl (by decide) (Nat.le_of_ble_eq_true rfl) (Nat.le_of_ble_eq_true rfl) H.m188 H.o188 (ev_childPosition L xs H hl N u0 u1 hk x0 (by omega) (fun _ => ⟨x2, by rw [od_cw_c (by omega)]; exact x3⟩) (by rw [od_cw_c (by omega)]; omega)) ?_
    refine pm_Ev.cv rfl rfl rfl rfl (by decide) (Nat.le_of_ble_eq_true rfl) (Nat.le_of_ble_eq_true rfl) H.m188 H.o188 (ev_entryAt L xs H hl N.m0 (by omega)) ?_
    exact pm_Ev.rv rfl rfl rfl
  · exact absurd h1 (by omega)
theorem ev_dsum0 (H : Hp σ ad z ar lr) (hl : od_L z ar) (N : od_N (hq_g ar 190) (z 8)) {r : Int} (u0 : -1 ≤ r) (u1 : r < (hq_g ar 190 0) ∨ r = -1) {v : Int} (c : 0 ≤ v ∧ v ≤ 4) : pm_Ev (tq_P L xs) (pm_enter 29 [.ref 0, .int (zI (fo_id (oI (hq_g ar 190)) r)), .int (zI v)]) σ (.inl (some (.int (zI (fs (fun p => od_hv (hq_g ar 190) v ((oI (hq_g ar 190)) p)) (if r < 0 then 0 else r) (fo_end (oD (hq_g ar 190)) (hq_g ar 190 0) r))))), σ) := by
  show pm_Ev (tq_P L xs) (29, 0, [(0, .ref 0), (1, .int (zI (fo_id (oI (hq_g ar 190)) r))), (2, .int (zI v))], []) σ _
  refine pm_Ev.go 2 (f' := (29, 2, [(0, _), (1, _), (2, _)], [_, _])) rfl ?_
  refine pm_Ev.cv rfl rfl rfl rfl (by decide) (Nat.le_of_ble_eq_true rfl) (Nat.le_of_ble_eq_true rfl) H.m0 H.o0 (ev_por L xs H hl N u0 u1) ?_
  refine pm_Ev.go 4 (f' := (29, 9, [(3, _), (0, _), (1, _), (2, _)], [_, _, _])) rfl ?_
  refine pm_Ev.call rfl rfl rfl rfl rfl (ev_in1 L xs (by omega) c) ?_
  refine pm_Ev.call rfl rfl rfl rfl rfl (ev_ckN1 L xs) ?_
  refine pm_Ev.go 1 (f' := (29, 16, [(3, _), (0, _), (1, _), (2, _)], [_])) rfl ?_
  refine pm_Ev.gf rfl rfl H.m0 H.o0 rfl ?_
  refine pm_Ev.go 2 (f' := (29, 21, [(3, _), (0, _), (1, _), (2, _)], [_, _, _])) rfl ?_
  refine pm_Ev.cv rfl rfl rfl rfl (by decide) (Nat.le_of_ble_eq_true rfl) (Nat.le_of_ble_eq_true rfl) H.m188 H.o188 (ev_total L xs H hl N u0 u1 c) ?_
  exact pm_Ev.rv rfl rfl rfl
theorem ev_dtold0_0 (H : Hp σ ad z ar lr) (hl : od_L z ar) (N : od_N (hq_g ar 190) (z 8)) {b : Int} (b0 : 0 ≤ b) (b1 : b < (hq_g ar 190 0)) : pm_Ev (tq_P L xs) (pm_enter 30 [.ref 0, .int (zI ((oI (hq_g ar 190)) b)), .int (zI 0)]) σ (.inl (some (.int (zI (fo_id (oI (hq_g ar 190)) (fo_par (oD (hq_g ar 190)) b))))), σ) := by
  show pm_Ev (tq_P L xs) (30, 0, [(0, .ref 0), (1, .int (zI ((oI (hq_g ar 190)) b))), (2, .int (zI 0))], []) σ _
  have i0 := N.J.1 b b0 b1
  have i1 := N.lt b b0 b1
  refine pm_Ev.go 2 (f' := (30, 2, [(0, _), (1, _), (2, _)], [_, _])) rfl ?_
  refine pm_Ev.cv rfl rfl rfl rfl (by decide) (Nat.le_of_ble_eq_true rfl) (Nat.le_of_ble_eq_true rfl) H.m0 H.o0 (ev_pos L xs H hl N b0 b1) ?_
  refine pm_Ev.go 3 (f' := (30, 8, [(3, _), (0, _), (1, _), (2, _)], [_, _])) rfl ?_
  refine pm_Ev.bp rfl rfl ?_
  refine pm_Ev.call rfl rfl rfl rfl rfl (ev_in1 L xs (by omega) (by omega)) ?_
  refine pm_Ev.call rfl rfl rfl rfl rfl (ev_ckN1 L xs) ?_
  refine pm_Ev.go 3 (f' := (30, 69, [(3, _), (0, _), (1, _), (2, _)], [_])) rfl ?_
  refine pm_Ev.gf rfl rfl H.m0 H.o0 rfl ?_
  refine pm_Ev.go 1 (f' := (30, 73, [(3, _), (0, _), (1, _), (2, _)], [_, _])) rfl ?_
  refine pm_Ev.cv rfl rfl rfl rfl (by decide) (Nat.le_of_ble_eq_true rfl) (Nat.le_of_ble_eq_true rfl) H.m188 H.o188 (ev_parentAt L xs H hl N b0 b1) ?_
  exact pm_Ev.rv rfl rfl rfl
theorem ev_dtold0_1 (H : Hp σ ad z ar lr) (hl : od_L z ar) (N : od_N (hq_g ar 190) (z 8)) {b : Int} (b0 : 0 ≤ b) (b1 : b < (hq_g ar 190 0)) : pm_Ev (tq_P L xs) (pm_enter 30 [.ref 0, .int (zI ((oI (hq_g ar 190)) b)), .int (zI 1)]) σ (.inl (some (.int (zI (fo_pl (oD (hq_g ar 190)) b)))), σ) := by
  show pm_Ev (tq_P L xs) (30, 0, [(0, .ref 0), (1, .int (zI ((oI (hq_g ar 190)) b))), (2, .int (zI 1))], []) σ _
  have i0 := N.J.1 b b0 b1
  have i1 := N.lt b b0 b1
  refine pm_Ev.go 2 (f' := (30, 2, [(0, _), (1, _), (2, _)], [_, _])) rfl ?_
  refine pm_Ev.cv rfl rfl rfl rfl (by decide) (Nat.le_of_ble_eq_true rfl) (Nat.le_of_ble_eq_true rfl) H.m0 H.o0 (ev_pos L xs H hl N b0 b1) ?_
  refine pm_Ev.go 3 (f' := (30, 8, [(3, _), (0, _), (1, _), (2, _)], [_, _])) rfl ?_
  refine pm_Ev.bp rfl rfl ?_
  refine pm_Ev.call rfl rfl rfl rfl rfl (ev_in1 L xs (by omega) (by omega)) ?_
  refine pm_Ev.call rfl rfl rfl rfl rfl (ev_ckN1 L xs) ?_
  refine pm_Ev.go 3 (f' := (30, 78, [(3, _), (0, _), (1, _), (2, _)], [_])) rfl ?_
  refine pm_Ev.gf rfl rfl H.m0 H.o0 rfl ?_
  refine pm_Ev.go 1 (f' := (30, 82, [(3, _), (0, _), (1, _), (2, _)], [_, _])) rfl ?_
  refine pm_Ev.cv rfl rfl rfl rfl (by decide) (Nat.le_of_ble_eq_true rfl) (Nat.le_of_ble_eq_true rfl) H.m188 H.o188 (ev_placeAt L xs H hl N b0 b1) ?_
  exact pm_Ev.rv rfl rfl rfl
theorem ev_dtold0_2 (H : Hp σ ad z ar lr) (hl : od_L z ar) (N : od_N (hq_g ar 190) (z 8)) {b : Int} (b0 : 0 ≤ b) (b1 : b < (hq_g ar 190 0)) : pm_Ev (tq_P L xs) (pm_enter 30 [.ref 0, .int (zI ((oI (hq_g ar 190)) b)), .int (zI 2)]) σ (.inl (some (.int (zI (oV (hq_g ar 190) ((oI (hq_g ar 190)) b) 2)))), σ) := by
  show pm_Ev (tq_P L xs) (30, 0, [(0, .ref 0), (1, .int (zI ((oI (hq_g ar 190)) b))), (2, .int (zI 2))], []) σ _
  have i0 := N.J.1 b b0 b1
  have i1 := N.lt b b0 b1
  refine pm_Ev.go 2 (f' := (30, 2, [(0, _), (1, _), (2, _)], [_, _])) rfl ?_
  refine pm_Ev.cv rfl rfl rfl rfl (by decide) (Nat.le_of_ble_eq_true rfl) (Nat.le_of_ble_eq_true rfl) H.m0 H.o0 (ev_pos L xs H hl N b0 b1) ?_
  refine pm_Ev.go 3 (f' := (30, 8, [(3, _), (0, _), (1, _), (2, _)], [_, _])) rfl ?_
  refine pm_Ev.bp rfl rfl ?_
  refine pm_Ev.call rfl rfl rfl rfl rfl (ev_in1 L xs (by omega) (by omega)) ?_
  refine pm_Ev.call rfl rfl rfl rfl rfl (ev_ckN1 L xs) ?_
  refine pm_Ev.go 3 (f' := (30, 105, [(3, _), (0, _), (1, _), (2, _)], [_])) rfl ?_
  refine pm_Ev.gf rfl rfl H.m0 H.o0 rfl ?_
  refine pm_Ev.go 2 (f' := (30, 110, [(3, _), (0, _), (1, _), (2, _)], [_, _, _])) rfl ?_
  refine pm_Ev.cv rfl rfl rfl rfl (by decide) (Nat.le_of_ble_eq_true rfl) (Nat.le_of_ble_eq_true rfl) H.m188 H.o188 (ev_value L xs H hl N.m0 (by omega)) ?_
  exact pm_Ev.rv rfl rfl rfl
theorem ev_dtold0_3 (H : Hp σ ad z ar lr) (hl : od_L z ar) (N : od_N (hq_g ar 190) (z 8)) {b : Int} (b0 : 0 ≤ b) (b1 : b < (hq_g ar 190 0)) : pm_Ev (tq_P L xs) (pm_enter 30 [.ref 0, .int (zI ((oI (hq_g ar 190)) b)), .int (zI 3)]) σ (.inl (some (.int (zI (oV (hq_g ar 190) ((oI (hq_g ar 190)) b) 3)))), σ) := by
  show pm_Ev (tq_P L xs) (30, 0, [(0, .ref 0), (1, .int (zI ((oI (hq_g ar 190)) b))), (2, .int (zI 3))], []) σ _
  have i0 := N.J.1 b b0 b1
  have i1 := N.lt b b0 b1
  refine pm_Ev.go 2 (f' := (30, 2, [(0, _), (1, _), (2, _)], [_, _])) rfl ?_
  refine pm_Ev.cv rfl rfl rfl rfl (by decide) (Nat.le_of_ble_eq_true rfl) (Nat.le_of_ble_eq_true rfl) H.m0 H.o0 (ev_pos L xs H hl N b0 b1) ?_
  refine pm_Ev.go 3 (f' := (30, 8, [(3, _), (0, _), (1, _), (2, _)], [_, _])) rfl ?_
  refine pm_Ev.bp rfl rfl ?_
  refine pm_Ev.call rfl rfl rfl rfl rfl (ev_in1 L xs (by omega) (by omega)) ?_
  refine pm_Ev.call rfl rfl rfl rfl rfl (ev_ckN1 L xs) ?_
  refine pm_Ev.go 3 (f' := (30, 105, [(3, _), (0, _), (1, _), (2, _)], [_])) rfl ?_
  refine pm_Ev.gf rfl rfl H.m0 H.o0 rfl ?_
  refine pm_Ev.go 2 (f' := (30, 110, [(3, _), (0, _), (1, _), (2, _)], [_, _, _])) rfl ?_
  refine pm_Ev.cv rfl rfl rfl rfl (by decide) (Nat.le_of_ble_eq_true rfl) (Nat.le_of_ble_eq_true rfl) H.m188 H.o188 (ev_value L xs H hl N.m0 (by omega)) ?_
  exact pm_Ev.rv rfl rfl rfl
theorem ev_dtold0_4 (H : Hp σ ad z ar lr) (hl : od_L z ar) (N : od_N (hq_g ar 190) (z 8)) {b : Int} (b0 : 0 ≤ b) (b1 : b < (hq_g ar 190 0)) : pm_Ev (tq_P L xs) (pm_enter 30 [.ref 0, .int (zI ((oI (hq_g ar 190)) b)), .int (zI 4)]) σ (.inl (some (.int (zI (oV (hq_g ar 190) ((oI (hq_g ar 190)) b) 4)))), σ) := by
  show pm_Ev (tq_P L xs) (30, 0, [(0, .ref 0), (1, .int (zI ((oI (hq_g ar 190)) b))), (2, .int (zI 4))], []) σ _
  have i0 := N.J.1 b b0 b1
  have i1 := N.lt b b0 b1
  refine pm_Ev.go 2 (f' := (30, 2, [(0, _), (1, _), (2, _)], [_, _])) rfl ?_
  refine pm_Ev.cv rfl rfl rfl rfl (by decide) (Nat.le_of_ble_eq_true rfl) (Nat.le_of_ble_eq_true rfl) H.m0 H.o0 (ev_pos L xs H hl N b0 b1) ?_
  refine pm_Ev.go 3 (f' := (30, 8, [(3, _), (0, _), (1, _), (2, _)], [_, _])) rfl ?_
  refine pm_Ev.bp rfl rfl ?_
  refine pm_Ev.call rfl rfl rfl rfl rfl (ev_in1 L xs (by omega) (by omega)) ?_
  refine pm_Ev.call rfl rfl rfl rfl rfl (ev_ckN1 L xs) ?_
  refine pm_Ev.go 3 (f' := (30, 105, [(3, _), (0, _), (1, _), (2, _)], [_])) rfl ?_
  refine pm_Ev.gf rfl rfl H.m0 H.o0 rfl ?_
  refine pm_Ev.go 2 (f' := (30, 110, [(3, _), (0, _), (1, _), (2, _)], [_, _, _])) rfl ?_
  refine pm_Ev.cv rfl rfl rfl rfl (by decide) (Nat.le_of_ble_eq_true rfl) (Nat.le_of_ble_eq_true rfl) H.m188 H.o188 (ev_value L xs H hl N.m0 (by omega)) ?_
  exact pm_Ev.rv rfl rfl rfl
theorem ev_dtold0_5 (H : Hp σ ad z ar lr) (hl : od_L z ar) (N : od_N (hq_g ar 190) (z 8)) {b : Int} (b0 : 0 ≤ b) (b1 : b < (hq_g ar 190 0)) : pm_Ev (tq_P L xs) (pm_enter 30 [.ref 0, .int (zI ((oI (hq_g ar 190)) b)), .int (zI 5)]) σ (.inl (some (.int (zI (oV (hq_g ar 190) ((oI (hq_g ar 190)) b) 5)))), σ) := by
  show pm_Ev (tq_P L xs) (30, 0, [(0, .ref 0), (1, .int (zI ((oI (hq_g ar 190)) b))), (2, .int (zI 5))], []) σ _
  have i0 := N.J.1 b b0 b1
  have i1 := N.lt b b0 b1
  refine pm_Ev.go 2 (f' := (30, 2, [(0, _), (1, _), (2, _)], [_, _])) rfl ?_
  refine pm_Ev.cv rfl rfl rfl rfl (by decide) (Nat.le_of_ble_eq_true rfl) (Nat.le_of_ble_eq_true rfl) H.m0 H.o0 (ev_pos L xs H hl N b0 b1) ?_
  refine pm_Ev.go 3 (f' := (30, 8, [(3, _), (0, _), (1, _), (2, _)], [_, _])) rfl ?_
  refine pm_Ev.bp rfl rfl ?_
  refine pm_Ev.call rfl rfl rfl rfl rfl (ev_in1 L xs (by omega) (by omega)) ?_
  refine pm_Ev.call rfl rfl rfl rfl rfl (ev_ckN1 L xs) ?_
  refine pm_Ev.go 3 (f' := (30, 105, [(3, _), (0, _), (1, _), (2, _)], [_])) rfl ?_
  refine pm_Ev.gf rfl rfl H.m0 H.o0 rfl ?_
  refine pm_Ev.go 2 (f' := (30, 110, [(3, _), (0, _), (1, _), (2, _)], [_, _, _])) rfl ?_
  refine pm_Ev.cv rfl rfl rfl rfl (by decide) (Nat.le_of_ble_eq_true rfl) (Nat.le_of_ble_eq_true rfl) H.m188 H.o188 (ev_value L xs H hl N.m0 (by omega)) ?_
  exact pm_Ev.rv rfl rfl rfl
theorem ev_dtold0_6 (H : Hp σ ad z ar lr) (hl : od_L z ar) (N : od_N (hq_g ar 190) (z 8)) {b : Int} (b0 : 0 ≤ b) (b1 : b < (hq_g ar 190 0)) : pm_Ev (tq_P L xs) (pm_enter 30 [.ref 0, .int (zI ((oI (hq_g ar 190)) b)), .int (zI 6)]) σ (.inl (some (.int (zI (oV (hq_g ar 190) ((oI (hq_g ar 190)) b) 6)))), σ) := by
  show pm_Ev (tq_P L xs) (30, 0, [(0, .ref 0), (1, .int (zI ((oI (hq_g ar 190)) b))), (2, .int (zI 6))], []) σ _
  have i0 := N.J.1 b b0 b1
  have i1 := N.lt b b0 b1
  refine pm_Ev.go 2 (f' := (30, 2, [(0, _), (1, _), (2, _)], [_, _])) rfl ?_
  refine pm_Ev.cv rfl rfl rfl rfl (by decide) (Nat.le_of_ble_eq_true rfl) (Nat.le_of_ble_eq_true rfl) H.m0 H.o0 (ev_pos L xs H hl N b0 b1) ?_
  refine pm_Ev.go 3 (f' := (30, 8, [(3, _), (0, _), (1, _), (2, _)], [_, _])) rfl ?_
  refine pm_Ev.bp rfl rfl ?_
  refine pm_Ev.call rfl rfl rfl rfl rfl (ev_in1 L xs (by omega) (by omega)) ?_
  refine pm_Ev.call rfl rfl rfl rfl rfl (ev_ckN1 L xs) ?_
  refine pm_Ev.go 3 (f' := (30, 105, [(3, _), (0, _), (1, _), (2, _)], [_])) rfl ?_
  refine pm_Ev.gf rfl rfl H.m0 H.o0 rfl ?_
  refine pm_Ev.go 2 (f' := (30, 110, [(3, _), (0, _), (1, _), (2, _)], [_, _, _])) rfl ?_
  refine pm_Ev.cv rfl rfl rfl rfl (by decide) (Nat.le_of_ble_eq_true rfl) (Nat.le_of_ble_eq_true rfl) H.m188 H.o188 (ev_value L xs H hl N.m0 (by omega)) ?_
  exact pm_Ev.rv rfl rfl rfl
theorem ev_dtold0_7 (H : Hp σ ad z ar lr) (hl : od_L z ar) (N : od_N (hq_g ar 190) (z 8)) {b : Int} (b0 : 0 ≤ b) (b1 : b < (hq_g ar 190 0)) : pm_Ev (tq_P L xs) (pm_enter 30 [.ref 0, .int (zI ((oI (hq_g ar 190)) b)), .int (zI 7)]) σ (.inl (some (.int (zI (fo_tgs (fun p => oV (hq_g ar 190) ((oI (hq_g ar 190)) p) 6) (oD (hq_g ar 190)) b)))), σ) := by
  show pm_Ev (tq_P L xs) (30, 0, [(0, .ref 0), (1, .int (zI ((oI (hq_g ar 190)) b))), (2, .int (zI 7))], []) σ _
  have i0 := N.J.1 b b0 b1
  have i1 := N.lt b b0 b1
  refine pm_Ev.go 2 (f' := (30, 2, [(0, _), (1, _), (2, _)], [_, _])) rfl ?_
  refine pm_Ev.cv rfl rfl rfl rfl (by decide) (Nat.le_of_ble_eq_true rfl) (Nat.le_of_ble_eq_true rfl) H.m0 H.o0 (ev_pos L xs H hl N b0 b1) ?_
  refine pm_Ev.go 3 (f' := (30, 8, [(3, _), (0, _), (1, _), (2, _)], [_, _])) rfl ?_
  refine pm_Ev.bp rfl rfl ?_
  refine pm_Ev.call rfl rfl rfl rfl rfl (ev_in1 L xs (by omega) (by omega)) ?_
  refine pm_Ev.call rfl rfl rfl rfl rfl (ev_ckN1 L xs) ?_
  refine pm_Ev.go 3 (f' := (30, 87, [(3, _), (0, _), (1, _), (2, _)], [_])) rfl ?_
  refine pm_Ev.gf rfl rfl H.m0 H.o0 rfl ?_
  refine pm_Ev.go 1 (f' := (30, 91, [(3, _), (0, _), (1, _), (2, _)], [_, _])) rfl ?_
  refine pm_Ev.cv rfl rfl rfl rfl (by decide) (Nat.le_of_ble_eq_true rfl) (Nat.le_of_ble_eq_true rfl) H.m188 H.o188 (ev_allTagsAt L xs H hl N b0 b1) ?_
  exact pm_Ev.rv rfl rfl rfl
theorem ev_dtold0_8 (H : Hp σ ad z ar lr) (hl : od_L z ar) (N : od_N (hq_g ar 190) (z 8)) {b : Int} (b0 : 0 ≤ b) (b1 : b < (hq_g ar 190 0)) : pm_Ev (tq_P L xs) (pm_enter 30 [.ref 0, .int (zI ((oI (hq_g ar 190)) b)), .int (zI 8)]) σ (.inl (some (.int (zI (fo_cc (oD (hq_g ar 190)) (hq_g ar 190 0) b)))), σ) := by
  show pm_Ev (tq_P L xs) (30, 0, [(0, .ref 0), (1, .int (zI ((oI (hq_g ar 190)) b))), (2, .int (zI 8))], []) σ _
  have i0 := N.J.1 b b0 b1
  have i1 := N.lt b b0 b1
  refine pm_Ev.go 2 (f' := (30, 2, [(0, _), (1, _), (2, _)], [_, _])) rfl ?_
  refine pm_Ev.cv rfl rfl rfl rfl (by decide) (Nat.le_of_ble_eq_true rfl) (Nat.le_of_ble_eq_true rfl) H.m0 H.o0 (ev_pos L xs H hl N b0 b1) ?_
  refine pm_Ev.go 3 (f' := (30, 8, [(3, _), (0, _), (1, _), (2, _)], [_, _])) rfl ?_
  refine pm_Ev.bp rfl rfl ?_
  refine pm_Ev.call rfl rfl rfl rfl rfl (ev_in1 L xs (by omega) (by omega)) ?_
  refine pm_Ev.call rfl rfl rfl rfl rfl (ev_ckN1 L xs) ?_
  refine pm_Ev.go 3 (f' := (30, 96, [(3, _), (0, _), (1, _), (2, _)], [_])) rfl ?_
  refine pm_Ev.gf rfl rfl H.m0 H.o0 rfl ?_
  refine pm_Ev.go 1 (f' := (30, 100, [(3, _), (0, _), (1, _), (2, _)], [_, _])) rfl ?_
  refine pm_Ev.cv rfl rfl rfl rfl (by decide) (Nat.le_of_ble_eq_true rfl) (Nat.le_of_ble_eq_true rfl) H.m188 H.o188 (ev_childCount L xs H hl N (by omega) (Or.inl b1)) ?_
  exact pm_Ev.rv rfl rfl rfl
theorem ev_dtold0_9 (H : Hp σ ad z ar lr) (hl : od_L z ar) (N : od_N (hq_g ar 190) (z 8)) {b : Int} (b0 : 0 ≤ b) (b1 : b < (hq_g ar 190 0)) : pm_Ev (tq_P L xs) (pm_enter 30 [.ref 0, .int (zI ((oI (hq_g ar 190)) b)), .int (zI 9)]) σ (.inl (some (.int (zI (oV (hq_g ar 190) ((oI (hq_g ar 190)) b) 9)))), σ) := by
  show pm_Ev (tq_P L xs) (30, 0, [(0, .ref 0), (1, .int (zI ((oI (hq_g ar 190)) b))), (2, .int (zI 9))], []) σ _
  have i0 := N.J.1 b b0 b1
  have i1 := N.lt b b0 b1
  refine pm_Ev.go 2 (f' := (30, 2, [(0, _), (1, _), (2, _)], [_, _])) rfl ?_
  refine pm_Ev.cv rfl rfl rfl rfl (by decide) (Nat.le_of_ble_eq_true rfl) (Nat.le_of_ble_eq_true rfl) H.m0 H.o0 (ev_pos L xs H hl N b0 b1) ?_
  refine pm_Ev.go 3 (f' := (30, 8, [(3, _), (0, _), (1, _), (2, _)], [_, _])) rfl ?_
  refine pm_Ev.bp rfl rfl ?_
  refine pm_Ev.call rfl rfl rfl rfl rfl (ev_in1 L xs (by omega) (by omega)) ?_
  refine pm_Ev.call rfl rfl rfl rfl rfl (ev_ckN1 L xs) ?_
  refine pm_Ev.go 3 (f' := (30, 105, [(3, _), (0, _), (1, _), (2, _)], [_])) rfl ?_
  refine pm_Ev.gf rfl rfl H.m0 H.o0 rfl ?_
  refine pm_Ev.go 2 (f' := (30, 110, [(3, _), (0, _), (1, _), (2, _)], [_, _, _])) rfl ?_
  refine pm_Ev.cv rfl rfl rfl rfl (by decide) (Nat.le_of_ble_eq_true rfl) (Nat.le_of_ble_eq_true rfl) H.m188 H.o188 (ev_value L xs H hl N.m0 (by omega)) ?_
  exact pm_Ev.rv rfl rfl rfl
theorem ev_dtold0_10 (H : Hp σ ad z ar lr) (hl : od_L z ar) (N : od_N (hq_g ar 190) (z 8)) {b : Int} (b0 : 0 ≤ b) (b1 : b < (hq_g ar 190 0)) : pm_Ev (tq_P L xs) (pm_enter 30 [.ref 0, .int (zI ((oI (hq_g ar 190)) b)), .int (zI 10)]) σ (.inl (some (.int (zI (oV (hq_g ar 190) ((oI (hq_g ar 190)) b) 10)))), σ) := by
  show pm_Ev (tq_P L xs) (30, 0, [(0, .ref 0), (1, .int (zI ((oI (hq_g ar 190)) b))), (2, .int (zI 10))], []) σ _
  have i0 := N.J.1 b b0 b1
  have i1 := N.lt b b0 b1
  refine pm_Ev.go 2 (f' := (30, 2, [(0, _), (1, _), (2, _)], [_, _])) rfl ?_
  refine pm_Ev.cv rfl rfl rfl rfl (by decide) (Nat.le_of_ble_eq_true rfl) (Nat.le_of_ble_eq_true rfl) H.m0 H.o0 (ev_pos L xs H hl N b0 b1) ?_
  refine pm_Ev.go 3 (f' := (30, 8, [(3, _), (0, _), (1, _), (2, _)], [_, _])) rfl ?_
  refine pm_Ev.bp rfl rfl ?_
  refine pm_Ev.call rfl rfl rfl rfl rfl (ev_in1 L xs (by omega) (by omega)) ?_
  refine pm_Ev.call rfl rfl rfl rfl rfl (ev_ckN1 L xs) ?_
  refine pm_Ev.go 3 (f' := (30, 105, [(3, _), (0, _), (1, _), (2, _)], [_])) rfl ?_
  refine pm_Ev.gf rfl rfl H.m0 H.o0 rfl ?_
  refine pm_Ev.go 2 (f' := (30, 110, [(3, _), (0, _), (1, _), (2, _)], [_, _, _])) rfl ?_
  refine pm_Ev.cv rfl rfl rfl rfl (by decide) (Nat.le_of_ble_eq_true rfl) (Nat.le_of_ble_eq_true rfl) H.m188 H.o188 (ev_value L xs H hl N.m0 (by omega)) ?_
  exact pm_Ev.rv rfl rfl rfl
theorem ev_dtold0_11 (H : Hp σ ad z ar lr) (hl : od_L z ar) (N : od_N (hq_g ar 190) (z 8)) {b : Int} (b0 : 0 ≤ b) (b1 : b < (hq_g ar 190 0)) : pm_Ev (tq_P L xs) (pm_enter 30 [.ref 0, .int (zI ((oI (hq_g ar 190)) b)), .int (zI 11)]) σ (.inl (some (.int (zI (oV (hq_g ar 190) ((oI (hq_g ar 190)) b) 11)))), σ) := by
  show pm_Ev (tq_P L xs) (30, 0, [(0, .ref 0), (1, .int (zI ((oI (hq_g ar 190)) b))), (2, .int (zI 11))], []) σ _
  have i0 := N.J.1 b b0 b1
  have i1 := N.lt b b0 b1
  refine pm_Ev.go 2 (f' := (30, 2, [(0, _), (1, _), (2, _)], [_, _])) rfl ?_
  refine pm_Ev.cv rfl rfl rfl rfl (by decide) (Nat.le_of_ble_eq_true rfl) (Nat.le_of_ble_eq_true rfl) H.m0 H.o0 (ev_pos L xs H hl N b0 b1) ?_
  refine pm_Ev.go 3 (f' := (30, 8, [(3, _), (0, _), (1, _), (2, _)], [_, _])) rfl ?_
  refine pm_Ev.bp rfl rfl ?_
  refine pm_Ev.call rfl rfl rfl rfl rfl (ev_in1 L xs (by omega) (by omega)) ?_
  refine pm_Ev.call rfl rfl rfl rfl rfl (ev_ckN1 L xs) ?_
  refine pm_Ev.go 3 (f' := (30, 105, [(3, _), (0, _), (1, _), (2, _)], [_])) rfl ?_
  refine pm_Ev.gf rfl rfl H.m0 H.o0 rfl ?_
  refine pm_Ev.go 2 (f' := (30, 110, [(3, _), (0, _), (1, _), (2, _)], [_, _, _])) rfl ?_
  refine pm_Ev.cv rfl rfl rfl rfl (by decide) (Nat.le_of_ble_eq_true rfl) (Nat.le_of_ble_eq_true rfl) H.m188 H.o188 (ev_value L xs H hl N.m0 (by omega)) ?_
  exact pm_Ev.rv rfl rfl rfl
theorem ev_dtold0_12 (H : Hp σ ad z ar lr) (hl : od_L z ar) (N : od_N (hq_g ar 190) (z 8)) {b : Int} (b0 : 0 ≤ b) (b1 : b < (hq_g ar 190 0)) : pm_Ev (tq_P L xs) (pm_enter 30 [.ref 0, .int (zI ((oI (hq_g ar 190)) b)), .int (zI 12)]) σ (.inl (some (.int (zI (oV (hq_g ar 190) ((oI (hq_g ar 190)) b) 12)))), σ) := by
  show pm_Ev (tq_P L xs) (30, 0, [(0, .ref 0), (1, .int (zI ((oI (hq_g ar 190)) b))), (2, .int (zI 12))], []) σ _
  have i0 := N.J.1 b b0 b1
  have i1 := N.lt b b0 b1
  refine pm_Ev.go 2 (f' := (30, 2, [(0, _), (1, _), (2, _)], [_, _])) rfl ?_
  refine pm_Ev.cv rfl rfl rfl rfl (by decide) (Nat.le_of_ble_eq_true rfl) (Nat.le_of_ble_eq_true rfl) H.m0 H.o0 (ev_pos L xs H hl N b0 b1) ?_
  refine pm_Ev.go 3 (f' := (30, 8, [(3, _), (0, _), (1, _), (2, _)], [_, _])) rfl ?_
  refine pm_Ev.bp rfl rfl ?_
  refine pm_Ev.call rfl rfl rfl rfl rfl (ev_in1 L xs (by omega) (by omega)) ?_
  refine pm_Ev.call rfl rfl rfl rfl rfl (ev_ckN1 L xs) ?_
  refine pm_Ev.go 3 (f' := (30, 105, [(3, _), (0, _), (1, _), (2, _)], [_])) rfl ?_
  refine pm_Ev.gf rfl rfl H.m0 H.o0 rfl ?_
  refine pm_Ev.go 2 (f' := (30, 110, [(3, _), (0, _), (1, _), (2, _)], [_, _, _])) rfl ?_
  refine pm_Ev.cv rfl rfl rfl rfl (by decide) (Nat.le_of_ble_eq_true rfl) (Nat.le_of_ble_eq_true rfl) H.m188 H.o188 (ev_value L xs H hl N.m0 (by omega)) ?_
  exact pm_Ev.rv rfl rfl rfl
theorem ev_dtold0_13 (H : Hp σ ad z ar lr) (hl : od_L z ar) (N : od_N (hq_g ar 190) (z 8)) {b : Int} (b0 : 0 ≤ b) (b1 : b < (hq_g ar 190 0)) : pm_Ev (tq_P L xs) (pm_enter 30 [.ref 0, .int (zI ((oI (hq_g ar 190)) b)), .int (zI 13)]) σ (.inl (some (.int (zI (oV (hq_g ar 190) ((oI (hq_g ar 190)) b) 13)))), σ) := by
  show pm_Ev (tq_P L xs) (30, 0, [(0, .ref 0), (1, .int (zI ((oI (hq_g ar 190)) b))), (2, .int (zI 13))], []) σ _
  have i0 := N.J.1 b b0 b1
  have i1 := N.lt b b0 b1
  refine pm_Ev.go 2 (f' := (30, 2, [(0, _), (1, _), (2, _)], [_, _])) rfl ?_
  refine pm_Ev.cv rfl rfl rfl rfl (by decide) (Nat.le_of_ble_eq_true rfl) (Nat.le_of_ble_eq_true rfl) H.m0 H.o0 (ev_pos L xs H hl N b0 b1) ?_
  refine pm_Ev.go 3 (f' := (30, 8, [(3, _), (0, _), (1, _), (2, _)], [_, _])) rfl ?_
  refine pm_Ev.bp rfl rfl ?_
  refine pm_Ev.call rfl rfl rfl rfl rfl (ev_in1 L xs (by omega) (by omega)) ?_
  refine pm_Ev.call rfl rfl rfl rfl rfl (ev_ckN1 L xs) ?_
  refine pm_Ev.go 3 (f' := (30, 105, [(3, _), (0, _), (1, _), (2, _)], [_])) rfl ?_
  refine pm_Ev.gf rfl rfl H.m0 H.o0 rfl ?_
  refine pm_Ev.go 2 (f' := (30, 110, [(3, _), (0, _), (1, _), (2, _)], [_, _, _])) rfl ?_
  refine pm_Ev.cv rfl rfl rfl rfl (by decide) (Nat.le_of_ble_eq_true rfl) (Nat.le_of_ble_eq_true rfl) H.m188 H.o188 (ev_value L xs H hl N.m0 (by omega)) ?_
  exact pm_Ev.rv rfl rfl rfl
theorem ev_dtold0_14 (H : Hp σ ad z ar lr) (hl : od_L z ar) (N : od_N (hq_g ar 190) (z 8)) {b : Int} (b0 : 0 ≤ b) (b1 : b < (hq_g ar 190 0)) : pm_Ev (tq_P L xs) (pm_enter 30 [.ref 0, .int (zI ((oI (hq_g ar 190)) b)), .int (zI 14)]) σ (.inl (some (.int (zI (oV (hq_g ar 190) ((oI (hq_g ar 190)) b) 14)))), σ) := by
  show pm_Ev (tq_P L xs) (30, 0, [(0, .ref 0), (1, .int (zI ((oI (hq_g ar 190)) b))), (2, .int (zI 14))], []) σ _
  have i0 := N.J.1 b b0 b1
  have i1 := N.lt b b0 b1
  refine pm_Ev.go 2 (f' := (30, 2, [(0, _), (1, _), (2, _)], [_, _])) rfl ?_
  refine pm_Ev.cv rfl rfl rfl rfl (by decide) (Nat.le_of_ble_eq_true rfl) (Nat.le_of_ble_eq_true rfl) H.m0 H.o0 (ev_pos L xs H hl N b0 b1) ?_
  refine pm_Ev.go 3 (f' := (30, 8, [(3, _), (0, _), (1, _), (2, _)], [_, _])) rfl ?_
  refine pm_Ev.bp rfl rfl ?_
  refine pm_Ev.call rfl rfl rfl rfl rfl (ev_in1 L xs (by omega) (by omega)) ?_
  refine pm_Ev.call rfl rfl rfl rfl rfl (ev_ckN1 L xs) ?_
  refine pm_Ev.go 3 (f' := (30, 105, [(3, _), (0, _), (1, _), (2, _)], [_])) rfl ?_
  refine pm_Ev.gf rfl rfl H.m0 H.o0 rfl ?_
  refine pm_Ev.go 2 (f' := (30, 110, [(3, _), (0, _), (1, _), (2, _)], [_, _, _])) rfl ?_
  refine pm_Ev.cv rfl rfl rfl rfl (by decide) (Nat.le_of_ble_eq_true rfl) (Nat.le_of_ble_eq_true rfl) H.m188 H.o188 (ev_value L xs H hl N.m0 (by omega)) ?_
  exact pm_Ev.rv rfl rfl rfl
theorem ev_dtold0_15 (H : Hp σ ad z ar lr) (hl : od_L z ar) (N : od_N (hq_g ar 190) (z 8)) {b : Int} (b0 : 0 ≤ b) (b1 : b < (hq_g ar 190 0)) : pm_Ev (tq_P L xs) (pm_enter 30 [.ref 0, .int (zI ((oI (hq_g ar 190)) b)), .int (zI 15)]) σ (.inl (some (.int (zI (oV (hq_g ar 190) ((oI (hq_g ar 190)) b) 15)))), σ) := by
  show pm_Ev (tq_P L xs) (30, 0, [(0, .ref 0), (1, .int (zI ((oI (hq_g ar 190)) b))), (2, .int (zI 15))], []) σ _
  have i0 := N.J.1 b b0 b1
  have i1 := N.lt b b0 b1
  refine pm_Ev.go 2 (f' := (30, 2, [(0, _), (1, _), (2, _)], [_, _])) rfl ?_
  refine pm_Ev.cv rfl rfl rfl rfl (by decide) (Nat.le_of_ble_eq_true rfl) (Nat.le_of_ble_eq_true rfl) H.m0 H.o0 (ev_pos L xs H hl N b0 b1) ?_
  refine pm_Ev.go 3 (f' := (30, 8, [(3, _), (0, _), (1, _), (2, _)], [_, _])) rfl ?_
  refine pm_Ev.bp rfl rfl ?_
  refine pm_Ev.call rfl rfl rfl rfl rfl (ev_in1 L xs (by omega) (by omega)) ?_
  refine pm_Ev.call rfl rfl rfl rfl rfl (ev_ckN1 L xs) ?_
  refine pm_Ev.go 3 (f' := (30, 105, [(3, _), (0, _), (1, _), (2, _)], [_])) rfl ?_
  refine pm_Ev.gf rfl rfl H.m0 H.o0 rfl ?_
  refine pm_Ev.go 2 (f' := (30, 110, [(3, _), (0, _), (1, _), (2, _)], [_, _, _])) rfl ?_
  refine pm_Ev.cv rfl rfl rfl rfl (by decide) (Nat.le_of_ble_eq_true rfl) (Nat.le_of_ble_eq_true rfl) H.m188 H.o188 (ev_value L xs H hl N.m0 (by omega)) ?_
  exact pm_Ev.rv rfl rfl rfl
theorem ev_dabout00 (H : Hp σ ad z ar lr) (hl : od_L z ar) (N : od_N (hq_g ar 190) (z 8))  : pm_Ev (tq_P L xs) (pm_enter 31 [.ref 0, .int (zI 0)]) σ (.inl (some (.int (zI (hq_g ar 190 0)))), σ) := by
  show pm_Ev (tq_P L xs) (31, 0, [(0, .ref 0), (1, .int (zI 0))], []) σ _
  refine pm_Ev.go 3 (f' := (31, 3, [(0, _), (1, _)], [_, _, _])) rfl ?_
  refine pm_Ev.call rfl rfl rfl rfl rfl (ev_in1 L xs (by omega) (by omega)) ?_
  refine pm_Ev.call rfl rfl rfl rfl rfl (ev_ckN1 L xs) ?_
  refine pm_Ev.go 3 (f' := (31, 37, [(0, _), (1, _)], [_])) rfl ?_
  refine pm_Ev.gf rfl rfl H.m0 H.o0 rfl ?_
  refine pm_Ev.cv rfl rfl rfl rfl (by decide) (Nat.le_of_ble_eq_true rfl) (Nat.le_of_ble_eq_true rfl) H.m188 H.o188 (ev_count L xs H hl N.m0) ?_
  exact pm_Ev.rv rfl rfl rfl
theorem ev_dabout01 (H : Hp σ ad z ar lr) (hl : od_L z ar) (N : od_N (hq_g ar 190) (z 8))  : pm_Ev (tq_P L xs) (pm_enter 31 [.ref 0, .int (zI 1)]) σ (.inl (some (.int (zI (z 8)))), σ) := by
  show pm_Ev (tq_P L xs) (31, 0, [(0, .ref 0), (1, .int (zI 1))], []) σ _
  refine pm_Ev.go 3 (f' := (31, 3, [(0, _), (1, _)], [_, _, _])) rfl ?_
  refine pm_Ev.call rfl rfl rfl rfl rfl (ev_in1 L xs (by omega) (by omega)) ?_
  refine pm_Ev.call rfl rfl rfl rfl rfl (ev_ckN1 L xs) ?_
  refine pm_Ev.go 3 (f' := (31, 45, [(0, _), (1, _)], [_])) rfl ?_
  refine pm_Ev.gf rfl rfl H.m0 H.o0 rfl ?_
  refine pm_Ev.gf rfl rfl H.m188 H.o188 rfl ?_
  exact pm_Ev.rv rfl rfl rfl
theorem ev_dabout02 (H : Hp σ ad z ar lr) (hl : od_L z ar) (N : od_N (hq_g ar 190) (z 8))  : pm_Ev (tq_P L xs) (pm_enter 31 [.ref 0, .int (zI 2)]) σ (.inl (some (.int (zI (z 9)))), σ) := by
  show pm_Ev (tq_P L xs) (31, 0, [(0, .ref 0), (1, .int (zI 2))], []) σ _
  refine pm_Ev.go 3 (f' := (31, 3, [(0, _), (1, _)], [_, _, _])) rfl ?_
  refine pm_Ev.call rfl rfl rfl rfl rfl (ev_in1 L xs (by omega) (by omega)) ?_
  refine pm_Ev.call rfl rfl rfl rfl rfl (ev_ckN1 L xs) ?_
  refine pm_Ev.go 3 (f' := (31, 53, [(0, _), (1, _)], [_])) rfl ?_
  refine pm_Ev.gf rfl rfl H.m0 H.o0 rfl ?_
  refine pm_Ev.gf rfl rfl H.m192 H.o192 rfl ?_
  exact pm_Ev.rv rfl rfl rfl
theorem ev_dabout03 (H : Hp σ ad z ar lr) (hl : od_L z ar) (N : od_N (hq_g ar 190) (z 8))  : pm_Ev (tq_P L xs) (pm_enter 31 [.ref 0, .int (zI 3)]) σ (.inl (some (.int (zI (z 0)))), σ) := by
  show pm_Ev (tq_P L xs) (31, 0, [(0, .ref 0), (1, .int (zI 3))], []) σ _
  refine pm_Ev.go 3 (f' := (31, 3, [(0, _), (1, _)], [_, _, _])) rfl ?_
  refine pm_Ev.call rfl rfl rfl rfl rfl (ev_in1 L xs (by omega) (by omega)) ?_
  refine pm_Ev.call rfl rfl rfl rfl rfl (ev_ckN1 L xs) ?_
  refine pm_Ev.go 3 (f' := (31, 61, [(0, _), (1, _)], [_])) rfl ?_
  refine pm_Ev.gf rfl rfl H.m0 H.o0 rfl ?_
  exact pm_Ev.rv rfl rfl rfl
theorem ev_dlineL (H : Hp σ ad z ar lr) (hl : od_L z ar) (N : od_N (hq_g ar 190) (z 8)) {i : Int} (hi : -2147483648 ≤ i ∧ i ≤ 2147483647) : ∀ (j : Nat) (k c s : Int), 0 ≤ k → k + j = (hq_g ar 190 0) → 0 ≤ c → c ≤ k → ln_st (fun p => oV (hq_g ar 190) ((oI (hq_g ar 190)) p) 9) (oD (hq_g ar 190)) s k → pm_Ev (tq_P L xs) (27, 8, [(4, .int (zI k)), (3, .int (zI s)), (2, .int (zI c)), (0, .ref 0), (1, .int (zI i))], []) σ (.inl (some (.int (zI (fo_ln (fo_sns (fun p => oV (hq_g ar 190) ((oI (hq_g ar 190)) p) 9) (oD (hq_g ar 190))) (oI (hq_g ar 190)) i j k c)))), σ) := by
  intro j
  have nm := N.nm
  have m4 := N.m4
  induction j with
  | zero =>
    intro k c s k0 kj c0 c1 st
    rw [fo_ln]
    refine pm_Ev.go 2 (f' := (27, 11, [(4, _), (3, _), (2, _), (0, _), (1, _)], [_, _])) rfl ?_
    refine pm_Ev.gf rfl rfl H.m0 H.o0 rfl ?_
    refine pm_Ev.cv rfl rfl rfl rfl (by decide) (Nat.le_of_ble_eq_true rfl) (Nat.le_of_ble_eq_true rfl) H.m188 H.o188 (ev_count L xs H hl N.m0) ?_
    refine pm_Ev.jge rfl (by omega) rfl (fun h1 => ?_) (fun h1 => ?_)
    · refine pm_Ev.go 1 (f' := (27, 89, [(4, _), (3, _), (2, _), (0, _), (1, _)], [_])) rfl ?_
      exact pm_Ev.rv rfl rfl rfl
    · exact absurd h1 (by omega)
  | succ j ih =>
    intro k c s k0 kj c0 c1 st
    have i0 := N.J.1 k k0 (by omega)
    have i1 := N.lt k k0 (by omega)
    have dr := N.dr (p := k) (by omega) (by omega)
    have se := ln_seen N.W k0 (by omega) dr.2 st
    have s01 : fo_sns (fun p => oV (hq_g ar 190) ((oI (hq_g ar 190)) p) 9) (oD (hq_g ar 190)) k = 0 ∨ fo_sns (fun p => oV (hq_g ar 190) ((oI (hq_g ar 190)) p) 9) (oD (hq_g ar 190)) k = 1 := fo_sn_01 _ _ _ _
    have sr : 0 ≤ s ∧ s ≤ 12 := by
      rcases st with ⟨q, _⟩ | ⟨x, x0, x1, _, _, q, _⟩
      · omega
      · have := N.dr (p := x) (by omega) (by omega)
        omega
    have vr : -2147483648 ≤ oV (hq_g ar 190) ((oI (hq_g ar 190)) k) 9 ∧ oV (hq_g ar 190) ((oI (hq_g ar 190)) k) 9 ≤ 2147483647 := hq_g_r _ _ _
    rw [fo_ln]
    by_cases sk : fo_sns (fun p => oV (hq_g ar 190) ((oI (hq_g ar 190)) p) 9) (oD (hq_g ar 190)) k = 1
    · have dk := se.mpr sk
      rw [if_pos sk]
      by_cases d : c = i
      · rw [if_pos d]
        refine pm_Ev.go 2 (f' := (27, 11, [(4, _), (3, _), (2, _), (0, _), (1, _)], [_, _])) rfl ?_
        refine pm_Ev.gf rfl rfl H.m0 H.o0 rfl ?_
        refine pm_Ev.cv rfl rfl rfl rfl (by decide) (Nat.le_of_ble_eq_true rfl) (Nat.le_of_ble_eq_true rfl) H.m188 H.o188 (ev_count L xs H hl N.m0) ?_
        refine pm_Ev.jge rfl (by omega) rfl (fun h1 => ?_) (fun h1 => ?_)
        · exact absurd h1 (by omega)
        · refine pm_Ev.go 1 (f' := (27, 21, [(4, _), (3, _), (2, _), (0, _), (1, _)], [_])) rfl ?_
          refine pm_Ev.gf rfl rfl H.m0 H.o0 rfl ?_
          refine pm_Ev.go 1 (f' := (27, 26, [(4, _), (3, _), (2, _), (0, _), (1, _)], [_, _])) rfl ?_
          refine pm_Ev.cv rfl rfl rfl rfl (by decide) (Nat.le_of_ble_eq_true rfl) (Nat.le_of_ble_eq_true rfl) H.m188 H.o188 (ev_depthAt L xs H hl N (by omega) (by omega)) ?_
          refine pm_Ev.go 3 (f' := (27, 34, [(5, _), (4, _), (3, _), (2, _), (0, _), (1, _)], [_, _])) rfl ?_
          refine pm_Ev.jgt rfl (by omega) rfl (fun h2 => ?_) (fun h2 => ?_)
          · exact absurd h2 (by omega)
          · refine pm_Ev.go 1 (f' := (27, 38, [(5, _), (4, _), (3, _), (2, _), (0, _), (1, _)], [_])) rfl ?_
            refine pm_Ev.gf rfl rfl H.m0 H.o0 rfl ?_
            refine pm_Ev.go 1 (f' := (27, 43, [(5, _), (4, _), (3, _), (2, _), (0, _), (1, _)], [_, _])) rfl ?_
            refine pm_Ev.cv rfl rfl rfl rfl (by decide) (Nat.le_of_ble_eq_true rfl) (Nat.le_of_ble_eq_true rfl) H.m188 H.o188 (ev_entryAt L xs H hl N.m0 (by omega)) ?_
            refine pm_Ev.go 3 (f' := (27, 50, [(6, _), (5, _), (4, _), (3, _), (2, _), (0, _), (1, _)], [_, _])) rfl ?_
            refine pm_Ev.jne rfl (by omega) rfl (fun h3 => ?_) (fun h3 => ?_)
            · exact absurd h3 (by omega)
            · refine pm_Ev.go 1 (f' := (27, 55, [(6, _), (5, _), (4, _), (3, _), (2, _), (0, _), (1, _)], [_])) rfl ?_
              exact pm_Ev.rv rfl rfl rfl
      · rw [if_neg d]
        by_cases f : oV (hq_g ar 190) ((oI (hq_g ar 190)) k) 9 = 1
        · have q := ih (k + 1) (c + 1) ((oD (hq_g ar 190)) k) (by omega) (by omega) (by omega) (by omega) (Or.inr ⟨k, k0, by omega, sk, f, rfl, fun q q0 q1 => absurd q1 (by omega)⟩)
          refine pm_Ev.go 2 (f' := (27, 11, [(4, _), (3, _), (2, _), (0, _), (1, _)], [_, _])) rfl ?_
          refine pm_Ev.gf rfl rfl H.m0 H.o0 rfl ?_
          refine pm_Ev.cv rfl rfl rfl rfl (by decide) (Nat.le_of_ble_eq_true rfl) (Nat.le_of_ble_eq_true rfl) H.m188 H.o188 (ev_count L xs H hl N.m0) ?_
          refine pm_Ev.jge rfl (by omega) rfl (fun h1 => ?_) (fun h1 => ?_)
          · exact absurd h1 (by omega)
          · refine pm_Ev.go 1 (f' := (27, 21, [(4, _), (3, _), (2, _), (0, _), (1, _)], [_])) rfl ?_
            refine pm_Ev.gf rfl rfl H.m0 H.o0 rfl ?_
            refine pm_Ev.go 1 (f' := (27, 26, [(4, _), (3, _), (2, _), (0, _), (1, _)], [_, _])) rfl ?_
            refine pm_Ev.cv rfl rfl rfl rfl (by decide) (Nat.le_of_ble_eq_true rfl) (Nat.le_of_ble_eq_true rfl) H.m188 H.o188 (ev_depthAt L xs H hl N (by omega) (by omega)) ?_
            refine pm_Ev.go 3 (f' := (27, 34, [(5, _), (4, _), (3, _), (2, _), (0, _), (1, _)], [_, _])) rfl ?_
            refine pm_Ev.jgt rfl (by omega) rfl (fun h2 => ?_) (fun h2 => ?_)
            · exact absurd h2 (by omega)
            · refine pm_Ev.go 1 (f' := (27, 38, [(5, _), (4, _), (3, _), (2, _), (0, _), (1, _)], [_])) rfl ?_
              refine pm_Ev.gf rfl rfl H.m0 H.o0 rfl ?_
              refine pm_Ev.go 1 (f' := (27, 43, [(5, _), (4, _), (3, _), (2, _), (0, _), (1, _)], [_, _])) rfl ?_
              refine pm_Ev.cv rfl rfl rfl rfl (by decide) (Nat.le_of_ble_eq_true rfl) (Nat.le_of_ble_eq_true rfl) H.m188 H.o188 (ev_entryAt L xs H hl N.m0 (by omega)) ?_
              refine pm_Ev.go 3 (f' := (27, 50, [(6, _), (5, _), (4, _), (3, _), (2, _), (0, _), (1, _)], [_, _])) rfl ?_
              refine pm_Ev.jne rfl (by omega) rfl (fun h3 => ?_) (fun h3 => ?_)
              · refine pm_Ev.inc rfl rfl (Nat.le_of_ble_eq_true rfl) ?_
                refine pm_Ev.go 1 (f' := (27, 60, [(2, _), (6, _), (5, _), (4, _), (3, _), (0, _), (1, _)], [_])) rfl ?_
                refine pm_Ev.gf rfl rfl H.m0 H.o0 rfl ?_
                refine pm_Ev.go 1 (f' := (27, 65, [(2, _), (6, _), (5, _), (4, _), (3, _), (0, _), (1, _)], [_, _])) rfl ?_
                refine pm_Ev.bp rfl rfl ?_
                refine pm_Ev.cv rfl rfl rfl rfl (by decide) (Nat.le_of_ble_eq_true rfl) (Nat.le_of_ble_eq_true rfl) H.m188 H.o188 (ev_value L xs H hl N.m0 (by omega)) ?_
                refine pm_Ev.go 1 (f' := (27, 71, [(2, _), (6, _), (5, _), (4, _), (3, _), (0, _), (1, _)], [_, _])) rfl ?_
                refine pm_Ev.jne rfl (by omega) rfl (fun h4 => ?_) (fun h4 => ?_)
                · exact absurd h4 (by omega)
                · refine pm_Ev.go 3 (f' := (27, 82, [(3, _), (2, _), (6, _), (5, _), (4, _), (0, _), (1, _)], [])) rfl ?_
                  refine pm_Ev.inc rfl rfl (Nat.le_of_ble_eq_true rfl) ?_
                  refine pm_Ev.go 1 (f' := (27, 8, [(4, _), (3, _), (2, _), (6, _), (5, _), (0, _), (1, _)], [])) rfl ?_
                  exact pm_Ev.weak q rfl
              · exact absurd h3 (by omega)
        · have q := ih (k + 1) (c + 1) 12 (by omega) (by omega) (by omega) (by omega) (Or.inl ⟨rfl, Or.inr ⟨by rw [show k + 1 - 1 = k by omega]; exact sk, by rw [show k + 1 - 1 = k by omega]; exact f⟩⟩)
          refine pm_Ev.go 2 (f' := (27, 11, [(4, _), (3, _), (2, _), (0, _), (1, _)], [_, _])) rfl ?_
          refine pm_Ev.gf rfl rfl H.m0 H.o0 rfl ?_
          refine pm_Ev.cv rfl rfl rfl rfl (by decide) (Nat.le_of_ble_eq_true rfl) (Nat.le_of_ble_eq_true rfl) H.m188 H.o188 (ev_count L xs H hl N.m0) ?_
          refine pm_Ev.jge rfl (by omega) rfl (fun h1 => ?_) (fun h1 => ?_)
          · exact absurd h1 (by omega)
          · refine pm_Ev.go 1 (f' := (27, 21, [(4, _), (3, _), (2, _), (0, _), (1, _)], [_])) rfl ?_
            refine pm_Ev.gf rfl rfl H.m0 H.o0 rfl ?_
            refine pm_Ev.go 1 (f' := (27, 26, [(4, _), (3, _), (2, _), (0, _), (1, _)], [_, _])) rfl ?_
            refine pm_Ev.cv rfl rfl rfl rfl (by decide) (Nat.le_of_ble_eq_true rfl) (Nat.le_of_ble_eq_true rfl) H.m188 H.o188 (ev_depthAt L xs H hl N (by omega) (by omega)) ?_
            refine pm_Ev.go 3 (f' := (27, 34, [(5, _), (4, _), (3, _), (2, _), (0, _), (1, _)], [_, _])) rfl ?_
            refine pm_Ev.jgt rfl (by omega) rfl (fun h2 => ?_) (fun h2 => ?_)
            · exact absurd h2 (by omega)
            · refine pm_Ev.go 1 (f' := (27, 38, [(5, _), (4, _), (3, _), (2, _), (0, _), (1, _)], [_])) rfl ?_
              refine pm_Ev.gf rfl rfl H.m0 H.o0 rfl ?_
              refine pm_Ev.go 1 (f' := (27, 43, [(5, _), (4, _), (3, _), (2, _), (0, _), (1, _)], [_, _])) rfl ?_
              refine pm_Ev.cv rfl rfl rfl rfl (by decide) (Nat.le_of_ble_eq_true rfl) (Nat.le_of_ble_eq_true rfl) H.m188 H.o188 (ev_entryAt L xs H hl N.m0 (by omega)) ?_
              refine pm_Ev.go 3 (f' := (27, 50, [(6, _), (5, _), (4, _), (3, _), (2, _), (0, _), (1, _)], [_, _])) rfl ?_
              refine pm_Ev.jne rfl (by omega) rfl (fun h3 => ?_) (fun h3 => ?_)
              · refine pm_Ev.inc rfl rfl (Nat.le_of_ble_eq_true rfl) ?_
                refine pm_Ev.go 1 (f' := (27, 60, [(2, _), (6, _), (5, _), (4, _), (3, _), (0, _), (1, _)], [_])) rfl ?_
                refine pm_Ev.gf rfl rfl H.m0 H.o0 rfl ?_
                refine pm_Ev.go 1 (f' := (27, 65, [(2, _), (6, _), (5, _), (4, _), (3, _), (0, _), (1, _)], [_, _])) rfl ?_
                refine pm_Ev.bp rfl rfl ?_
                refine pm_Ev.cv rfl rfl rfl rfl (by decide) (Nat.le_of_ble_eq_true rfl) (Nat.le_of_ble_eq_true rfl) H.m188 H.o188 (ev_value L xs H hl N.m0 (by omega)) ?_
                refine pm_Ev.go 1 (f' := (27, 71, [(2, _), (6, _), (5, _), (4, _), (3, _), (0, _), (1, _)], [_, _])) rfl ?_
                refine pm_Ev.jne rfl (by omega) rfl (fun h4 => ?_) (fun h4 => ?_)
                · refine pm_Ev.bp rfl rfl ?_
                  refine pm_Ev.go 1 (f' := (27, 82, [(3, _), (2, _), (6, _), (5, _), (4, _), (0, _), (1, _)], [])) rfl ?_
                  refine pm_Ev.inc rfl rfl (Nat.le_of_ble_eq_true rfl) ?_
                  refine pm_Ev.go 1 (f' := (27, 8, [(4, _), (3, _), (2, _), (6, _), (5, _), (0, _), (1, _)], [])) rfl ?_
                  exact pm_Ev.weak q rfl
                · exact absurd h4 (by omega)
              · exact absurd h3 (by omega)
    · have dk : ¬ (oD (hq_g ar 190)) k ≤ s := fun q => sk (se.mp q)
      rw [if_neg sk]
      have q := ih (k + 1) c s (by omega) (by omega) (by omega) (by omega) (by
        rcases st with ⟨q, _⟩ | ⟨x, x0, x1, x2, x3, x4, x5⟩
        · omega
        · refine Or.inr ⟨x, x0, by omega, x2, x3, x4, fun y y0 y1 => ?_⟩
          by_cases e : y = k
          · rw [e]
            omega
          · exact x5 y y0 (by omega))
      refine pm_Ev.go 2 (f' := (27, 11, [(4, _), (3, _), (2, _), (0, _), (1, _)], [_, _])) rfl ?_
      refine pm_Ev.gf rfl rfl H.m0 H.o0 rfl ?_
      refine pm_Ev.cv rfl rfl rfl rfl (by decide) (Nat.le_of_ble_eq_true rfl) (Nat.le_of_ble_eq_true rfl) H.m188 H.o188 (ev_count L xs H hl N.m0) ?_
      refine pm_Ev.jge rfl (by omega) rfl (fun h1 => ?_) (fun h1 => ?_)
      · exact absurd h1 (by omega)
      · refine pm_Ev.go 1 (f' := (27, 21, [(4, _), (3, _), (2, _), (0, _), (1, _)], [_])) rfl ?_
        refine pm_Ev.gf rfl rfl H.m0 H.o0 rfl ?_
        refine pm_Ev.go 1 (f' := (27, 26, [(4, _), (3, _), (2, _), (0, _), (1, _)], [_, _])) rfl ?_
        refine pm_Ev.cv rfl rfl rfl rfl (by decide) (Nat.le_of_ble_eq_true rfl) (Nat.le_of_ble_eq_true rfl) H.m188 H.o188 (ev_depthAt L xs H hl N (by omega) (by omega)) ?_
        refine pm_Ev.go 3 (f' := (27, 34, [(5, _), (4, _), (3, _), (2, _), (0, _), (1, _)], [_, _])) rfl ?_
        refine pm_Ev.jgt rfl (by omega) rfl (fun h2 => ?_) (fun h2 => ?_)
        · refine pm_Ev.inc rfl rfl (Nat.le_of_ble_eq_true rfl) ?_
          refine pm_Ev.go 1 (f' := (27, 8, [(4, _), (5, _), (3, _), (2, _), (0, _), (1, _)], [])) rfl ?_
          exact pm_Ev.weak q rfl
        · exact absurd h2 (by omega)
theorem ev_dline (H : Hp σ ad z ar lr) (hl : od_L z ar) (N : od_N (hq_g ar 190) (z 8)) {i : Int} (hi : -2147483648 ≤ i ∧ i ≤ 2147483647) : pm_Ev (tq_P L xs) (pm_enter 27 [.ref 0, .int (zI i)]) σ (.inl (some (.int (zI (fo_ln (fo_sns (fun p => oV (hq_g ar 190) ((oI (hq_g ar 190)) p) 9) (oD (hq_g ar 190))) (oI (hq_g ar 190)) i (hq_g ar 190 0).toNat 0 0)))), σ) := by
  show pm_Ev (tq_P L xs) (27, 0, [(0, .ref 0), (1, .int (zI i))], []) σ _
  have n0 := N.W.2.1
  refine pm_Ev.go 2 (f' := (27, 2, [(2, _), (0, _), (1, _)], [])) rfl ?_
  refine pm_Ev.bp rfl rfl ?_
  refine pm_Ev.go 3 (f' := (27, 8, [(4, _), (3, _), (2, _), (0, _), (1, _)], [])) rfl ?_
  exact ev_dlineL L xs H hl N hi (hq_g ar 190 0).toNat 0 0 12 (by omega) (by omega) (by omega) (by omega) (Or.inl ⟨rfl, Or.inl rfl⟩)
end MS
