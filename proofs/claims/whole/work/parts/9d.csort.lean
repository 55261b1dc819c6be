/-! the desk: sort -/
theorem fo_sz {D : Int → Int} {n r : Int} (W : fo_W D n) (r0 : -1 ≤ r) (r1 : r < n ∨ r = -1) : ∀ (k : Nat) (p : Int), p + k = fo_end D n r → r < p → (p < fo_end D n r → D p = D r + 1) → fs (fun q => if r < q ∧ q < fo_end D n r ∧ D q = D r + 1 then fo_end D n q - q else 0) p (fo_end D n r) = fo_end D n r - p := by
  have B' := fo_end_B' W r0 r1
  intro k
  induction k using Nat.strongRecOn with
  | ind k ih =>
    intro p hp rp hd
    by_cases c : p < fo_end D n r
    · have dp := hd c
      have B := fo_end_B (D := D) (n := n) (p := p) (by omega)
      have P : fo_P D p r := (fo_child W r0 r1 (by omega) (by omega)).2 ⟨rp, c, dp⟩
      have le : fo_end D n p ≤ fo_end D n r := by
        rcases r1 with r1 | r1
        · exact (fo_B_sub P B (fo_end_B r1)).2
        · rw [r1, fo_end_root W]
          exact B.2.1
      have b1 := B.1
      rw [fs_sp (b := fo_end D n p) (by omega) le, fs_l B.1, if_pos ⟨rp, c, dp⟩, fs_z (a := p + 1), ih (fo_end D n r - fo_end D n p).toNat (by omega) (fo_end D n p) (by omega) (by omega)]
      · omega
      · intro h
        have h1 := B'.2.2.1 (fo_end D n p) (by omega) h
        have h2 := B.2.2.2 (by omega)
        omega
      · intro q q1 q2
        have := B.2.2.1 q (by omega) q2
        rw [if_neg (by omega)]
    · rw [fs_0 (by omega)]
      omega
def fo_ss (D : Int → Int) (n r : Int) (s : Int → Int) (i : Int) : Int := r + 1 + fs (fun j => fo_end D n (s j % 400) - s j % 400) 0 i
theorem fo_sort {D : Int → Int} {n r : Int} {cp sk s : Int → Int} (W : fo_W D n) (n4 : n ≤ 400) (r0 : -1 ≤ r) (r1 : r < n ∨ r = -1) (hcp : fo_cp D n r cp) (hsk : ∀ p, 0 ≤ p → p < n → 0 ≤ sk p) (hs : so_S (fo_cc D n r) (fun k => sk (cp k) * 400 + cp k) s) :
    (∀ i, 0 ≤ i → i < fo_cc D n r → 0 ≤ s i ∧ r < s i % 400 ∧ s i % 400 < fo_end D n r ∧ D (s i % 400) = D r + 1 ∧ 0 ≤ s i % 400 ∧ s i % 400 < n) ∧ (∀ i j, 0 ≤ i → i < fo_cc D n r → 0 ≤ j → j < fo_cc D n r → s i % 400 = s j % 400 → i = j) ∧ (∀ x, 0 ≤ x → x < n → fo_par D x = r → ∃ i, 0 ≤ i ∧ i < fo_cc D n r ∧ s i % 400 = x) ∧ fo_ss D n r s (fo_cc D n r) = fo_end D n r ∧ (∀ i, 0 ≤ i → i < fo_cc D n r → fo_ss D n r s (i + 1) = fo_ss D n r s i + (fo_end D n (s i % 400) - s i % 400) ∧ r + 1 ≤ fo_ss D n r s i ∧ fo_ss D n r s (i + 1) ≤ fo_end D n r) := by
  have B' := fo_end_B' W r0 r1
  have cc := fo_cc_r W r0 r1
  have key : ∀ i, 0 ≤ i → i < fo_cc D n r → ∃ j, 0 ≤ j ∧ j < fo_cc D n r ∧ s i = sk (cp j) * 400 + cp j ∧ s i % 400 = cp j ∧ 0 ≤ s i := by
    intro i i0 i1
    obtain ⟨j, j0, j1, e⟩ := hs.2.1 i i0 i1
    have h := hcp j j0 j1
    have := hsk (cp j) h.2.2.2.1 h.2.2.2.2.1
    have e : s i = sk (cp j) * 400 + cp j := e
    exact ⟨j, j0, j1, e, by omega, by omega⟩
  have fa : ∀ i, 0 ≤ i → i < fo_cc D n r → 0 ≤ s i ∧ r < s i % 400 ∧ s i % 400 < fo_end D n r ∧ D (s i % 400) = D r + 1 ∧ 0 ≤ s i % 400 ∧ s i % 400 < n := by
    intro i i0 i1
    obtain ⟨j, j0, j1, e, e2, e3⟩ := key i i0 i1
    have h := hcp j j0 j1
    rw [e2]
    exact ⟨e3, h.1, h.2.1, h.2.2.1, h.2.2.2.1, h.2.2.2.2.1⟩
  have fb : ∀ i j, 0 ≤ i → i < fo_cc D n r → 0 ≤ j → j < fo_cc D n r → s i % 400 = s j % 400 → i = j := by
    intro i j i0 i1 j0 j1 h
    obtain ⟨a, a0, a1, e1, e2, e3⟩ := key i i0 i1
    obtain ⟨b, b0, b1, f1, f2, f3⟩ := key j j0 j1
    have ab : a = b := by
      rcases Int.lt_trichotomy a b with x | x | x
      · have := fo_cp_lt W hcp a0 x b1
        omega
      · exact x
      · have := fo_cp_lt W hcp b0 x a1
        omega
    have : s i = s j := by rw [e1, f1, ab]
    rcases Int.lt_trichotomy i j with x | x | x
    · have := hs.1 i j i0 x j1
      omega
    · exact x
    · have := hs.1 j i j0 x i1
      omega
  have fc : ∀ x, 0 ≤ x → x < n → fo_par D x = r → ∃ i, 0 ≤ i ∧ i < fo_cc D n r ∧ s i % 400 = x := by
    intro x x0 x1 hx
    have P : fo_P D x r := by rw [← hx]; exact fo_par_P W x0 x1
    have ch := (fo_child W r0 r1 x0 x1).1 P
    have pl : fo_pl D x = fo_c D (D r + 1) (r + 1) x := by
      unfold fo_pl
      rw [hx, ch.2.2]
    have k0 : 0 ≤ fo_pl D x := by rw [pl]; exact fo_c_nn _ _ _ _
    have k1 : fo_pl D x < fo_cc D n r := by
      rw [pl]
      unfold fo_cc
      rw [fo_c_sp (b := x) (c := fo_end D n r) (by omega) (by omega), fo_c_l ch.2.1, if_pos ch.2.2]
      have := fo_c_nn D (D r + 1) (x + 1) (fo_end D n r)
      omega
    obtain ⟨i, i0, i1, e⟩ := hs.2.2 (fo_pl D x) k0 k1
    have h := hcp (fo_pl D x) k0 k1
    have e2 : cp (fo_pl D x) = x := fo_pl_inj W h.2.2.2.1 h.2.2.2.2.1 x0 x1 (by rw [h.2.2.2.2.2.1, hx]) h.2.2.2.2.2.2
    refine ⟨i, i0, i1, ?_⟩
    have e3 : s i = sk (cp (fo_pl D x)) * 400 + cp (fo_pl D x) := e
    rw [e2] at e3
    omega
  have sum : fs (fun q => if r < q ∧ q < fo_end D n r ∧ D q = D r + 1 then fo_end D n q - q else 0) 0 n = fs (fun i => (fun q => if r < q ∧ q < fo_end D n r ∧ D q = D r + 1 then fo_end D n q - q else 0) (s i % 400)) 0 (fo_cc D n r) := by
    refine fs_ri (I := fun i => s i % 400) (m := n) (fo_cc D n r) cc.1 _ (fun i i0 i1 => ?_) fb (fun e e0 e1 he => ?_)
    · have := fa i i0 i1
      exact ⟨this.2.2.2.2.1, this.2.2.2.2.2⟩
    · show (if r < e ∧ e < fo_end D n r ∧ D e = D r + 1 then fo_end D n e - e else 0) = 0
      by_cases c : r < e ∧ e < fo_end D n r ∧ D e = D r + 1
      · exfalso
        have P := (fo_child W r0 r1 e0 e1).2 c
        obtain ⟨i, i0, i1, e⟩ := fc e e0 e1 (fo_par_eq W e0 e1 P)
        exact he i i0 i1 e
      · rw [if_neg c]
  have tot : fs (fun q => if r < q ∧ q < fo_end D n r ∧ D q = D r + 1 then fo_end D n q - q else 0) 0 n = fo_end D n r - (r + 1) := by
    rw [fs_sp (b := r + 1) (by omega) (by omega), fs_z (a := 0) (b := r + 1) (fun q q0 q1 => if_neg (by omega)), fs_sp (b := fo_end D n r) (c := n) (by omega) (by omega), fs_z (a := fo_end D n r) (b := n) (fun q q0 q1 => if_neg (by omega)), fo_sz W r0 r1 (fo_end D n r - (r + 1)).toNat (r + 1) (by omega) (by omega)]
    · omega
    · intro h
      have h1 := B'.2.2.1 (r + 1) (by omega) h
      have h2 := (W.2.2 (r + 1) (by omega) (by omega)).2
      rw [show r + 1 - 1 = r by omega] at h2
      omega
  have sz : ∀ i, 0 ≤ i → i < fo_cc D n r → (fun q => if r < q ∧ q < fo_end D n r ∧ D q = D r + 1 then fo_end D n q - q else 0) (s i % 400) = fo_end D n (s i % 400) - s i % 400 := by
    intro i i0 i1
    have := fa i i0 i1
    exact if_pos ⟨this.2.1, this.2.2.1, this.2.2.2.1⟩
  have fd : fo_ss D n r s (fo_cc D n r) = fo_end D n r := by
    unfold fo_ss
    rw [← fs_cg sz, ← sum, tot]
    omega
  have pos : ∀ i, 0 ≤ i → i < fo_cc D n r → 0 ≤ fo_end D n (s i % 400) - s i % 400 := by
    intro i i0 i1
    have h := fa i i0 i1
    have := (fo_end_B (D := D) (n := n) (p := s i % 400) h.2.2.2.2.2).1
    omega
  refine ⟨fa, fb, fc, fd, fun i i0 i1 => ⟨?_, ?_, ?_⟩⟩
  · unfold fo_ss
    rw [fs_r i0]
    omega
  · unfold fo_ss
    have := fs_nn (f := fun j => fo_end D n (s j % 400) - s j % 400) (a := 0) (b := i) (fun q q0 q1 => pos q q0 (by omega))
    omega
  · rw [← fd]
    unfold fo_ss
    rw [fs_sp (b := i + 1) (c := fo_cc D n r) (by omega) (by omega)]
    have := fs_nn (f := fun j => fo_end D n (s j % 400) - s j % 400) (a := i + 1) (b := fo_cc D n r) (fun q q0 q1 => pos q (by omega) q1)
    omega
def od_sk (C : Int → Int) (y p : Int) : Int := if y = 0 then oV C (oI C p) 3 else if y = 1 then oV C (oI C p) 4 else if y = 2 then 3 - oV C (oI C p) 5 else if y = 3 then (if oV C (oI C p) 11 = -1 then 3652059 else oV C (oI C p) 11) else 400000000 - fs (fun q => od_hv C 1 (oI C q)) p (fo_end (oD C) (C 0) p)
section MS
variable (L : Nat) (xs : Nat → Int32)
variable {σ : pm_S} {ad : Nat → Nat} {z : Nat → Int} {ar : Nat → Nat × (Nat → Int32)} {lr : Nat → Nat × (Nat → Int64)}
variable {A C0 : Int → Int} {z0 : Nat → Int} {ar0 : Nat → Nat × (Nat → Int32)}
theorem ev_dueKey {v : Int} (hv : -2147483648 ≤ v ∧ v ≤ 2147483647) : pm_Ev (tq_P L xs) (pm_enter 43 [.int (zI v)]) σ (.inl (some (.int (zI (if v = -1 then 3652059 else v)))), σ) := by
  show pm_Ev (tq_P L xs) (43, 0, [(0, .int (zI v))], []) σ _
  by_cases c : v = -1
  · rw [if_pos c]
    refine pm_Ev.go 2 (f' := (43, 2, [(0, _)], [_, _])) rfl ?_
    refine pm_Ev.jne rfl (by omega) rfl (fun h1 => ?_) (fun h1 => ?_)
    · exact absurd h1 (by omega)
    · refine pm_Ev.ccw (3652059) rfl rfl rfl ?_
      refine pm_Ev.go 1 (f' := (43, 12, [(0, _)], [_])) rfl ?_
      exact pm_Ev.rv rfl rfl rfl
  · rw [if_neg c]
    refine pm_Ev.go 2 (f' := (43, 2, [(0, _)], [_, _])) rfl ?_
    refine pm_Ev.jne rfl (by omega) rfl (fun h1 => ?_) (fun h1 => ?_)
    · refine pm_Ev.go 1 (f' := (43, 12, [(0, _)], [_])) rfl ?_
      exact pm_Ev.rv rfl rfl rfl
    · exact absurd h1 (by omega)
theorem ev_sortKey (H : Hp σ ad z ar lr) (hl : od_L z ar) (N : od_N (hq_g ar 190) (z 8)) {b : Int} (b0 : 0 ≤ b) (b1 : b < (hq_g ar 190 0)) {y : Int} (hy : 0 ≤ y ∧ y ≤ 4) : pm_Ev (tq_P L xs) (pm_enter 42 [.ref 0, .int (zI b), .int (zI y)]) σ (.inl (some (.int (zI (od_sk (hq_g ar 190) y b)))), σ) := by
  show pm_Ev (tq_P L xs) (42, 0, [(0, .ref 0), (1, .int (zI b)), (2, .int (zI y))], []) σ _
  have i0 := N.J.1 b b0 b1
  have i1 := N.lt b b0 b1
  have nm := N.nm
  have m4 := N.m4
  have vr : -2147483648 ≤ oV (hq_g ar 190) ((oI (hq_g ar 190)) b) 11 ∧ oV (hq_g ar 190) ((oI (hq_g ar 190)) b) 11 ≤ 2147483647 := hq_g_r _ _ _
  have tt := ev_total L xs H hl N (b := b) (v := 1) (by omega) (Or.inl b1) (by decide)
  rw [if_neg (show ¬ b < 0 by omega)] at tt
  rcases (show y = 0 ∨ y = 1 ∨ y = 2 ∨ y = 3 ∨ y = 4 by omega) with x | x | x | x | x
  · subst x
    show pm_Ev (tq_P L xs) (42, 0, [(0, .ref 0), (1, .int (zI b)), (2, .int (zI 0))], []) σ _
    refine pm_Ev.go 1 (f' := (42, 1, [(0, _), (1, _), (2, _)], [_])) rfl ?_
    refine pm_Ev.gf rfl rfl H.m0 H.o0 rfl ?_
    refine pm_Ev.go 1 (f' := (42, 5, [(0, _), (1, _), (2, _)], [_, _])) rfl ?_
    refine pm_Ev.cv rfl rfl rfl rfl (by decide) (Nat.le_of_ble_eq_true rfl) (Nat.le_of_ble_eq_true rfl) H.m188 H.o188 (ev_entryAt L xs H hl N.m0 (by omega)) ?_
    refine pm_Ev.go 4 (f' := (42, 41, [(3, _), (0, _), (1, _), (2, _)], [_])) rfl ?_
    refine pm_Ev.gf rfl rfl H.m0 H.o0 rfl ?_
    refine pm_Ev.go 2 (f' := (42, 46, [(3, _), (0, _), (1, _), (2, _)], [_, _, _])) rfl ?_
    refine pm_Ev.cv rfl rfl rfl rfl (by decide) (Nat.le_of_ble_eq_true rfl) (Nat.le_of_ble_eq_true rfl) H.m188 H.o188 (ev_value L xs H hl N.m0 (by omega)) ?_
    exact pm_Ev.rv rfl rfl rfl
  · subst x
    show pm_Ev (tq_P L xs) (42, 0, [(0, .ref 0), (1, .int (zI b)), (2, .int (zI 1))], []) σ _
    refine pm_Ev.go 1 (f' := (42, 1, [(0, _), (1, _), (2, _)], [_])) rfl ?_
    refine pm_Ev.gf rfl rfl H.m0 H.o0 rfl ?_
    refine pm_Ev.go 1 (f' := (42, 5, [(0, _), (1, _), (2, _)], [_, _])) rfl ?_
    refine pm_Ev.cv rfl rfl rfl rfl (by decide) (Nat.le_of_ble_eq_true rfl) (Nat.le_of_ble_eq_true rfl) H.m188 H.o188 (ev_entryAt L xs H hl N.m0 (by omega)) ?_
    refine pm_Ev.go 4 (f' := (42, 51, [(3, _), (0, _), (1, _), (2, _)], [_])) rfl ?_
    refine pm_Ev.gf rfl rfl H.m0 H.o0 rfl ?_
    refine pm_Ev.go 2 (f' := (42, 56, [(3, _), (0, _), (1, _), (2, _)], [_, _, _])) rfl ?_
    refine pm_Ev.cv rfl rfl rfl rfl (by decide) (Nat.le_of_ble_eq_true rfl) (Nat.le_of_ble_eq_true rfl) H.m188 H.o188 (ev_value L xs H hl N.m0 (by omega)) ?_
    exact pm_Ev.rv rfl rfl rfl
  · subst x
    show pm_Ev (tq_P L xs) (42, 0, [(0, .ref 0), (1, .int (zI b)), (2, .int (zI 2))], []) σ _
    refine pm_Ev.go 1 (f' := (42, 1, [(0, _), (1, _), (2, _)], [_])) rfl ?_
    refine pm_Ev.gf rfl rfl H.m0 H.o0 rfl ?_
    refine pm_Ev.go 1 (f' := (42, 5, [(0, _), (1, _), (2, _)], [_, _])) rfl ?_
    refine pm_Ev.cv rfl rfl rfl rfl (by decide) (Nat.le_of_ble_eq_true rfl) (Nat.le_of_ble_eq_true rfl) H.m188 H.o188 (ev_entryAt L xs H hl N.m0 (by omega)) ?_
    refine pm_Ev.go 5 (f' := (42, 62, [(3, _), (0, _), (1, _), (2, _)], [_, _])) rfl ?_
    refine pm_Ev.gf rfl rfl H.m0 H.o0 rfl ?_
    refine pm_Ev.go 2 (f' := (42, 67, [(3, _), (0, _), (1, _), (2, _)], [_, _, _, _])) rfl ?_
    refine pm_Ev.cv rfl rfl rfl rfl (by decide) (Nat.le_of_ble_eq_true rfl) (Nat.le_of_ble_eq_true rfl) H.m188 H.o188 (ev_value L xs H hl N.m0 (by omega)) ?_
    refine pm_Ev.isub rfl ?_
    exact pm_Ev.rv rfl rfl rfl
  · subst x
    show pm_Ev (tq_P L xs) (42, 0, [(0, .ref 0), (1, .int (zI b)), (2, .int (zI 3))], []) σ _
    refine pm_Ev.go 1 (f' := (42, 1, [(0, _), (1, _), (2, _)], [_])) rfl ?_
    refine pm_Ev.gf rfl rfl H.m0 H.o0 rfl ?_
    refine pm_Ev.go 1 (f' := (42, 5, [(0, _), (1, _), (2, _)], [_, _])) rfl ?_
    refine pm_Ev.cv rfl rfl rfl rfl (by decide) (Nat.le_of_ble_eq_true rfl) (Nat.le_of_ble_eq_true rfl) H.m188 H.o188 (ev_entryAt L xs H hl N.m0 (by omega)) ?_
    refine pm_Ev.go 4 (f' := (42, 73, [(3, _), (0, _), (1, _), (2, _)], [_])) rfl ?_
    refine pm_Ev.gf rfl rfl H.m0 H.o0 rfl ?_
    refine pm_Ev.go 1 (f' := (42, 77, [(3, _), (0, _), (1, _), (2, _)], [_, _])) rfl ?_
    refine pm_Ev.bp rfl rfl ?_
    refine pm_Ev.cv rfl rfl rfl rfl (by decide) (Nat.le_of_ble_eq_true rfl) (Nat.le_of_ble_eq_true rfl) H.m188 H.o188 (ev_value L xs H hl N.m0 (by omega)) ?_
    refine pm_Ev.call rfl rfl rfl rfl rfl (ev_dueKey L xs vr) ?_
    exact pm_Ev.rv rfl rfl rfl
  · subst x
    show pm_Ev (tq_P L xs) (42, 0, [(0, .ref 0), (1, .int (zI b)), (2, .int (zI 4))], []) σ _
    refine pm_Ev.go 1 (f' := (42, 1, [(0, _), (1, _), (2, _)], [_])) rfl ?_
    refine pm_Ev.gf rfl rfl H.m0 H.o0 rfl ?_
    refine pm_Ev.go 1 (f' := (42, 5, [(0, _), (1, _), (2, _)], [_, _])) rfl ?_
    refine pm_Ev.cv rfl rfl rfl rfl (by decide) (Nat.le_of_ble_eq_true rfl) (Nat.le_of_ble_eq_true rfl) H.m188 H.o188 (ev_entryAt L xs H hl N.m0 (by omega)) ?_
    refine pm_Ev.go 3 (f' := (42, 86, [(3, _), (0, _), (1, _), (2, _)], [])) rfl ?_
    refine pm_Ev.ccw (400000000) rfl rfl rfl ?_
    refine pm_Ev.go 1 (f' := (42, 90, [(3, _), (0, _), (1, _), (2, _)], [_, _])) rfl ?_
    refine pm_Ev.gf rfl rfl H.m0 H.o0 rfl ?_
    refine pm_Ev.go 2 (f' := (42, 95, [(3, _), (0, _), (1, _), (2, _)], [_, _, _, _])) rfl ?_
    refine pm_Ev.cv rfl rfl rfl rfl (by decide) (Nat.le_of_ble_eq_true rfl) (Nat.le_of_ble_eq_true rfl) H.m188 H.o188 (tt) ?_
    refine pm_Ev.isub rfl ?_
    exact pm_Ev.rv rfl rfl rfl
theorem ev_arrC (H : Hp σ ad z ar lr) (E : od_E A (hq_g ar 190) z ar z ar) (N : od_N (hq_g ar 190) (z 8)) (l9 : (ar 189).1 = 400) (lk : z 10 ≤ ((lr 0).1 : Int) ∧ (lr 0).1 ≤ 1600) {r : Int} (u0 : -1 ≤ r) (u1 : r < (hq_g ar 190 0) ∨ r = -1) {cp sk : Int → Int} (hcp : fo_cp (oD (hq_g ar 190)) (hq_g ar 190 0) r cp) (hsk : ∀ p, 0 ≤ p → p < (hq_g ar 190 0) → 0 ≤ sk p) (hz : z 10 = fo_cc (oD (hq_g ar 190)) (hq_g ar 190 0) r) (hs : so_S (fo_cc (oD (hq_g ar 190)) (hq_g ar 190 0) r) (fun k => sk (cp k) * 400 + cp k) (lq_g lr)) : pm_Fv (tq_P L xs) (pm_enter 80 [.ref 188, .int (zI r), .ref 196]) σ (fun o s => o = .inl none ∧ ∃ ad' z' ar', Hp s ad' z' ar' lr ∧ od_E A (hq_g ar 190) z ar z' ar' ∧ (∀ i y, 0 ≤ i → i < fo_cc (oD (hq_g ar 190)) (hq_g ar 190 0) r → 0 ≤ y → y < fo_end (oD (hq_g ar 190)) (hq_g ar 190 0) (lq_g lr i % 400) - (lq_g lr i % 400) → hq_g ar' 190 (1 + (fo_ss (oD (hq_g ar 190)) (hq_g ar 190 0) r (lq_g lr) i + y)) = hq_g ar 190 (1 + ((lq_g lr i % 400) + y))) ∧ (∀ i, 0 ≤ i → (i < r + 2 ∨ 1 + fo_end (oD (hq_g ar 190)) (hq_g ar 190 0) r ≤ i) → hq_g ar' 190 i = hq_g ar 190 i) ∧ hq_rm σ ar lr s ar' lr) := by
  show pm_Fv (tq_P L xs) (80, 0, [(0, .ref 188), (1, .int (zI r)), (2, .ref 196)], []) σ _
  have nm := N.nm
  have m4 := N.m4
  have hl := E.h.le
  have cc := fo_cc_r N.W u0 u1
  have B' := fo_end_B' N.W u0 u1
  obtain ⟨fa, fb, fc, fd, fe⟩ := fo_sort N.W (by omega) u0 u1 hcp hsk hs
  have S0 : fo_ss (oD (hq_g ar 190)) (hq_g ar 190 0) r (lq_g lr) 0 = r + 1 := by
    unfold fo_ss
    rw [fs_0 (by omega)]
    omega
  have e0 : fo_ss (oD (hq_g ar 190)) (hq_g ar 190 0) r (lq_g lr) 0 - (r + 1) = 0 := by omega
  refine pm_Fv.go 4 (f' := (80, 5, [(4, _), (3, _), (0, _), (1, _), (2, _)], [])) rfl ?_
  refine pm_Fv.weak (lv := [(4, .int (zI 0)), (3, .int (zI (fo_ss (oD (hq_g ar 190)) (hq_g ar 190 0) r (lq_g lr) 0 - (r + 1)))), (0, .ref 188), (1, .int (zI r)), (2, .ref 196)]) ?_ (by rw [e0]; rfl)
  refine ev_arrCL (σ := σ) L xs (z := z) (lr := lr) (ar := ar) (ad := ad) (by omega) lk hl N (r := r) (e := fo_end (oD (hq_g ar 190)) (hq_g ar 190 0) r) (bs := fun i => lq_g lr i % 400) (S := fo_ss (oD (hq_g ar 190)) (hq_g ar 190 0) r (lq_g lr)) (fun i i0 i1 => ⟨(fa i i0 (by omega)).1, rfl⟩) u0 S0 (by rw [hz]; exact fd) (by omega) (fun i i0 i1 => ⟨(fa i i0 (by omega)).2.2.2.2.1, (fa i i0 (by omega)).2.2.2.2.2, (fe i i0 (by omega)).1, (fe i i0 (by omega)).2.1, (fe i i0 (by omega)).2.2⟩) (fun s ar' H' ho h9 hd rs => ?_) (z 10).toNat 0 ar σ (by omega) (by omega) H (fun _ _ => rfl) rfl l9 (fun j y j0 j1 => absurd j1 (by omega)) (fun j j0 j1 => absurd j1 (by omega)) rfl
  refine pm_Fv.go 3 (f' := (80, 51, [(3, _), (0, _), (1, _), (2, _)], [_, _, _])) rfl ?_
  refine pm_Fv.iadd rfl ?_
  refine pm_Fv.go 1 (f' := (80, 53, [(3, _), (0, _), (1, _), (2, _)], [_, _, _])) rfl ?_
  have E1 : od_E A (hq_g ar 190) z ar z ar' := E.dr ho h9
  have g190 : hq_g ar' 190 = hq_g ar 190 := funext fun x => hq_g_ne (ho 190 (by decide)) x
  have wd := ev_wD L xs H' E1 (h9.trans l9) (p := r + 1) (k := fo_end (oD (hq_g ar 190)) (hq_g ar 190 0) r - (r + 1)) (by omega) (by omega) (by omega) (fun i _ _ => by rw [g190])
  refine pm_Fv.cvF rfl rfl rfl rfl (by decide) (Nat.le_of_ble_eq_true rfl) (Nat.le_of_ble_eq_true rfl) H'.m188 H'.o188 wd (fun s2 q2 => ?_)
  obtain ⟨ad2, z2, ar2, H2, E2, g2, m2⟩ := q2
  refine pm_Fv.ret rfl rfl rfl rfl ⟨rfl, ad2, z2, ar2, H2, E2, fun i y i0 i1 y0 y1 => ?_, fun i i0 hi => ?_, hq_rm_tr (hq_rm_len rs (fun x => by
    by_cases c : x = 189
    · rw [c]
      exact h9
    · rw [ho x c]) rfl) m2⟩
  · have f := fe i i0 i1
    rw [g2 _ (by omega), if_pos (by omega), show 1 + (fo_ss (oD (hq_g ar 190)) (hq_g ar 190 0) r (lq_g lr) i + y) - 1 - (r + 1) = fo_ss (oD (hq_g ar 190)) (hq_g ar 190 0) r (lq_g lr) i - (r + 1) + y by omega]
    exact hd i y i0 (by omega) y0 y1
  · rw [g2 i i0, if_neg (by omega), g190]
theorem ev_dsortL (hl : od_L z ar) (N : od_N (hq_g ar 190) (z 8)) {r : Int} (u0 : -1 ≤ r) (u1 : r < (hq_g ar 190 0) ∨ r = -1) {y : Int} (hy : 0 ≤ y ∧ y ≤ 4) {cp : Int → Int} (hcp : fo_cp (oD (hq_g ar 190)) (hq_g ar 190 0) r cp) (hsk : ∀ p, 0 ≤ p → p < (hq_g ar 190 0) → 0 ≤ od_sk (hq_g ar 190) y p ∧ od_sk (hq_g ar 190) y p ≤ 400000000) {Q : pm_O → pm_S → Prop} (kk : ∀ s ad' lr', Hp s ad' (hq_u z 10 (fo_cc (oD (hq_g ar 190)) (hq_g ar 190 0) r)) ar lr' → lr' 1 = lr 1 → (∀ i, 0 ≤ i → i < fo_cc (oD (hq_g ar 190)) (hq_g ar 190 0) r → lq_g lr' i = od_sk (hq_g ar 190) y (cp i) * 400 + cp i) → 16 ≤ (lr' 0).1 → (lr' 0).1 ≤ 1600 → fo_cc (oD (hq_g ar 190)) (hq_g ar 190 0) r ≤ ((lr' 0).1 : Int) → hq_rm σ ar lr s ar lr' → pm_Fv (tq_P L xs) (15, 95, [(4, .int (zI (fo_end (oD (hq_g ar 190)) (hq_g ar 190 0) r))), (3, .int (zI r)), (0, .ref 0), (1, .int (zI (fo_id (oI (hq_g ar 190)) r))), (2, .int (zI y))], []) s Q) : ∀ (k : Nat) (p : Int) (s : pm_S) (ad' : Nat → Nat) (lr' : Nat → Nat × (Nat → Int64)), p + k = fo_end (oD (hq_g ar 190)) (hq_g ar 190 0) r → r < p → Hp s ad' (hq_u z 10 (fo_c (oD (hq_g ar 190)) ((oD (hq_g ar 190)) r + 1) (r + 1) p)) ar lr' → lr' 1 = lr 1 → (∀ i, 0 ≤ i → i < fo_c (oD (hq_g ar 190)) ((oD (hq_g ar 190)) r + 1) (r + 1) p → lq_g lr' i = od_sk (hq_g ar 190) y (cp i) * 400 + cp i) → 16 ≤ (lr' 0).1 → (lr' 0).1 ≤ 1600 → fo_c (oD (hq_g ar 190)) ((oD (hq_g ar 190)) r + 1) (r + 1) p ≤ ((lr' 0).1 : Int) → hq_rm σ ar lr s ar lr' → pm_Fv (tq_P L xs) (15, 37, [(5, .int (zI p)), (4, .int (zI (fo_end (oD (hq_g ar 190)) (hq_g ar 190 0) r))), (3, .int (zI r)), (0, .ref 0), (1, .int (zI (fo_id (oI (hq_g ar 190)) r))), (2, .int (zI y))], []) s Q := by
  intro k
  have nm := N.nm
  have m4 := N.m4
  have B' := fo_end_B' N.W u0 u1
  have dr := N.dr u0 u1
  have cc := fo_cc_r N.W u0 u1
  have hl' : ∀ c, od_L (hq_u z 10 c) ar := fun c => hl
  have N' : ∀ c, od_N (hq_g ar 190) (hq_u z 10 c 8) := fun c => N
  induction k with
  | zero =>
    intro p s ad' lr' pk rp H e1 hk l1 l2 l3 rm
    have e : p = fo_end (oD (hq_g ar 190)) (hq_g ar 190 0) r := by omega
    rw [e] at H hk l3
    refine pm_Fv.go 2 (f' := (15, 41, [(5, _), (4, _), (3, _), (0, _), (1, _), (2, _)], [_, _])) rfl ?_
    refine pm_Fv.jge rfl (by omega) rfl (fun h1 => ?_) (fun h1 => ?_)
    · exact pm_Fv.weak (kk s ad' lr' H e1 hk l1 l2 l3 rm) rfl
    · exact absurd h1 (by omega)
  | succ k ih =>
    intro p s ad' lr' pk rp H e1 hk l1 l2 l3 rm
    have dp := N.dr (p := p) (by omega) (by omega)
    have c0 := fo_c_nn (oD (hq_g ar 190)) ((oD (hq_g ar 190)) r + 1) (r + 1) p
    have c1 := fo_c_le (D := (oD (hq_g ar 190))) (v := (oD (hq_g ar 190)) r + 1) (a := r + 1) (b := p) (by omega)
    have cr := fo_c_r (D := (oD (hq_g ar 190))) (v := (oD (hq_g ar 190)) r + 1) (a := r + 1) (b := p) (by omega)
    by_cases c : (oD (hq_g ar 190)) p = (oD (hq_g ar 190)) r + 1
    · rw [if_pos c] at cr
      have P : fo_P (oD (hq_g ar 190)) p r := (fo_child N.W u0 u1 (by omega) (by omega)).2 ⟨rp, by omega, c⟩
      have pp := fo_par_eq N.W (by omega) (by omega) P
      have pl : fo_pl (oD (hq_g ar 190)) p = fo_c (oD (hq_g ar 190)) ((oD (hq_g ar 190)) r + 1) (r + 1) p := by
        unfold fo_pl
        rw [pp, c]
      have kc : fo_c (oD (hq_g ar 190)) ((oD (hq_g ar 190)) r + 1) (r + 1) p < fo_cc (oD (hq_g ar 190)) (hq_g ar 190 0) r := by
        unfold fo_cc
        rw [fo_c_sp (b := p) (c := fo_end (oD (hq_g ar 190)) (hq_g ar 190 0) r) (by omega) (by omega), fo_c_l (a := p) (by omega), if_pos c]
        have := fo_c_nn (oD (hq_g ar 190)) ((oD (hq_g ar 190)) r + 1) (p + 1) (fo_end (oD (hq_g ar 190)) (hq_g ar 190 0) r)
        omega
      have h := hcp (fo_c (oD (hq_g ar 190)) ((oD (hq_g ar 190)) r + 1) (r + 1) p) c0 kc
      have ecp : cp (fo_c (oD (hq_g ar 190)) ((oD (hq_g ar 190)) r + 1) (r + 1) p) = p := fo_pl_inj N.W h.2.2.2.1 h.2.2.2.2.1 (by omega) (by omega) (by rw [h.2.2.2.2.2.1, pp]) (by rw [h.2.2.2.2.2.2, pl])
      have sr := hsk p (by omega) (by omega)
      refine pm_Fv.go 2 (f' := (15, 41, [(5, _), (4, _), (3, _), (0, _), (1, _), (2, _)], [_, _])) rfl ?_
      refine pm_Fv.jge rfl (by omega) rfl (fun h1 => ?_) (fun h1 => ?_)
      · exact absurd h1 (by omega)
      · refine pm_Fv.go 1 (f' := (15, 45, [(5, _), (4, _), (3, _), (0, _), (1, _), (2, _)], [_])) rfl ?_
        refine pm_Fv.gf rfl rfl H.m0 H.o0 rfl ?_
        refine pm_Fv.go 1 (f' := (15, 50, [(5, _), (4, _), (3, _), (0, _), (1, _), (2, _)], [_, _])) rfl ?_
        refine pm_Fv.cv rfl rfl rfl rfl (by decide) (Nat.le_of_ble_eq_true rfl) (Nat.le_of_ble_eq_true rfl) H.m188 H.o188 (ev_depthAt L xs H (hl' _) (N' _) (p := p) (by omega) (by omega)) ?_
        refine pm_Fv.go 1 (f' := (15, 54, [(5, _), (4, _), (3, _), (0, _), (1, _), (2, _)], [_, _])) rfl ?_
        refine pm_Fv.gf rfl rfl H.m0 H.o0 rfl ?_
        refine pm_Fv.go 1 (f' := (15, 58, [(5, _), (4, _), (3, _), (0, _), (1, _), (2, _)], [_, _, _])) rfl ?_
        refine pm_Fv.cv rfl rfl rfl rfl (by decide) (Nat.le_of_ble_eq_true rfl) (Nat.le_of_ble_eq_true rfl) H.m188 H.o188 (ev_depthAt L xs H (hl' _) (N' _) (p := r) (by omega) (by omega)) ?_
        refine pm_Fv.go 1 (f' := (15, 62, [(5, _), (4, _), (3, _), (0, _), (1, _), (2, _)], [_, _, _])) rfl ?_
        refine pm_Fv.iadd rfl ?_
        refine pm_Fv.jne rfl (by omega) rfl (fun h2 => ?_) (fun h2 => ?_)
        · exact absurd h2 (by omega)
        · refine pm_Fv.go 1 (f' := (15, 67, [(5, _), (4, _), (3, _), (0, _), (1, _), (2, _)], [_])) rfl ?_
          refine pm_Fv.gf rfl rfl H.m0 H.o0 rfl ?_
          refine pm_Fv.go 3 (f' := (15, 74, [(5, _), (4, _), (3, _), (0, _), (1, _), (2, _)], [_, _, _, _])) rfl ?_
          refine pm_Fv.cv rfl rfl rfl rfl (by decide) (Nat.le_of_ble_eq_true rfl) (Nat.le_of_ble_eq_true rfl) H.m0 H.o0 (ev_sortKey L xs H (hl' _) (N' _) (by omega) (by omega) hy) ?_
          refine pm_Fv.i2l rfl (by omega) ?_
          refine pm_Fv.cc2 (400) rfl rfl rfl ?_
          refine pm_Fv.lmul rfl ?_
          refine pm_Fv.go 1 (f' := (15, 84, [(5, _), (4, _), (3, _), (0, _), (1, _), (2, _)], [_, _, _])) rfl ?_
          refine pm_Fv.i2l rfl (by omega) ?_
          refine pm_Fv.ladd rfl ?_
          refine pm_Fv.cvF rfl rfl rfl rfl (by decide) (Nat.le_of_ble_eq_true rfl) (Nat.le_of_ble_eq_true rfl) H.m196 H.o196 (ev_kadd L xs H (v := od_sk (hq_g ar 190) y p * 400 + p) (by omega) c0 l3 (show (fo_c (oD (hq_g ar 190)) ((oD (hq_g ar 190)) r + 1) (r + 1) p) < 800 by omega) l1 l2) (fun s1 q1 => ?_)
          obtain ⟨ad1, lr1, H1, f1, g1, l4, l5, l6, m1⟩ := q1
          refine pm_Fv.inc rfl rfl (Nat.le_of_ble_eq_true rfl) ?_
          refine pm_Fv.go 1 (f' := (15, 37, [(5, _), (4, _), (3, _), (0, _), (1, _), (2, _)], [])) rfl ?_
          rw [show hq_u (hq_u z 10 (fo_c (oD (hq_g ar 190)) ((oD (hq_g ar 190)) r + 1) (r + 1) p)) 10 (hq_u z 10 (fo_c (oD (hq_g ar 190)) ((oD (hq_g ar 190)) r + 1) (r + 1) p) 10 + 1) = hq_u z 10 (fo_c (oD (hq_g ar 190)) ((oD (hq_g ar 190)) r + 1) (r + 1) (p + 1)) by rw [hq_u_u, cr]; rfl] at H1
          refine pm_Fv.weak (ih (p + 1) s1 ad1 lr1 (by omega) (by omega) H1 (f1.trans e1) (fun i i0 i1 => ?_) l4 l5 (by rw [cr]; exact l6) (hq_rm_tr rm m1)) rfl
          rw [g1 i i0 (show i ≤ (fo_c (oD (hq_g ar 190)) ((oD (hq_g ar 190)) r + 1) (r + 1) p) by omega)]
          show (if i = fo_c (oD (hq_g ar 190)) ((oD (hq_g ar 190)) r + 1) (r + 1) p then _ else _) = _
          by_cases x : i = fo_c (oD (hq_g ar 190)) ((oD (hq_g ar 190)) r + 1) (r + 1) p
          · rw [if_pos x, x, ecp]
          · rw [if_neg x]
            exact hk i i0 (by omega)
    · rw [if_neg c, Int.add_zero] at cr
      refine pm_Fv.go 2 (f' := (15, 41, [(5, _), (4, _), (3, _), (0, _), (1, _), (2, _)], [_, _])) rfl ?_
      refine pm_Fv.jge rfl (by omega) rfl (fun h1 => ?_) (fun h1 => ?_)
      · exact absurd h1 (by omega)
      · refine pm_Fv.go 1 (f' := (15, 45, [(5, _), (4, _), (3, _), (0, _), (1, _), (2, _)], [_])) rfl ?_
        refine pm_Fv.gf rfl rfl H.m0 H.o0 rfl ?_
        refine pm_Fv.go 1 (f' := (15, 50, [(5, _), (4, _), (3, _), (0, _), (1, _), (2, _)], [_, _])) rfl ?_
        refine pm_Fv.cv rfl rfl rfl rfl (by decide) (Nat.le_of_ble_eq_true rfl) (Nat.le_of_ble_eq_true rfl) H.m188 H.o188 (ev_depthAt L xs H (hl' _) (N' _) (p := p) (by omega) (by omega)) ?_
        refine pm_Fv.go 1 (f' := (15, 54, [(5, _), (4, _), (3, _), (0, _), (1, _), (2, _)], [_, _])) rfl ?_
        refine pm_Fv.gf rfl rfl H.m0 H.o0 rfl ?_
        refine pm_Fv.go 1 (f' := (15, 58, [(5, _), (4, _), (3, _), (0, _), (1, _), (2, _)], [_, _, _])) rfl ?_
        refine pm_Fv.cv rfl rfl rfl rfl (by decide) (Nat.le_of_ble_eq_true rfl) (Nat.le_of_ble_eq_true rfl) H.m188 H.o188 (ev_depthAt L xs H (hl' _) (N' _) (p := r) (by omega) (by omega)) ?_
        refine pm_Fv.go 1 (f' := (15, 62, [(5, _), (4, _), (3, _), (0, _), (1, _), (2, _)], [_, _, _])) rfl ?_
        refine pm_Fv.iadd rfl ?_
        refine pm_Fv.jne rfl (by omega) rfl (fun h2 => ?_) (fun h2 => ?_)
        · refine pm_Fv.inc rfl rfl (Nat.le_of_ble_eq_true rfl) ?_
          refine pm_Fv.go 1 (f' := (15, 37, [(5, _), (4, _), (3, _), (0, _), (1, _), (2, _)], [])) rfl ?_
          refine pm_Fv.weak (ih (p + 1) s ad' lr' (by omega) (by omega) (by rw [cr]; exact H) e1 (by rw [cr]; exact hk) l1 l2 (by rw [cr]; exact l3) rm) rfl
        · exact absurd h2 (by omega)
theorem so_S_cg {c : Int} {G G' s : Int → Int} (h : so_S c G s) (e : ∀ i, 0 ≤ i → i < c → G i = G' i) : so_S c G' s := by
  refine ⟨h.1, fun i i0 i1 => ?_, fun j j0 j1 => ?_⟩
  · obtain ⟨j, j0, j1, k⟩ := h.2.1 i i0 i1
    exact ⟨j, j0, j1, k.trans (e j j0 j1)⟩
  · obtain ⟨i, i0, i1, k⟩ := h.2.2 j j0 j1
    exact ⟨i, i0, i1, k.trans (e j j0 j1)⟩
theorem ev_dsort0 (H : Hp σ ad z ar lr) (h : hw A z ar) (h7 : z 7 = 0) (hz1 : z 1 < 99999) (h5 : z 5 = 0 ∨ z 5 = 1) (N : od_N (hq_g ar 190) (z 8)) {r : Int} (u0 : -1 ≤ r) (u1 : r < (hq_g ar 190 0) ∨ r = -1) {y : Int} (hy : 0 ≤ y ∧ y ≤ 4) (l9 : (ar 189).1 = 400) (kl : 16 ≤ (lr 0).1 ∧ (lr 0).1 ≤ 1600) {cp : Int → Int} (hcp : fo_cp (oD (hq_g ar 190)) (hq_g ar 190 0) r cp) (hsk : ∀ p, 0 ≤ p → p < (hq_g ar 190 0) → 0 ≤ od_sk (hq_g ar 190) y p ∧ od_sk (hq_g ar 190) y p ≤ 400000000) : pm_Fv (tq_P L xs) (pm_enter 15 [.ref 0, .int (zI (fo_id (oI (hq_g ar 190)) r)), .int (zI y)]) σ (fun o s => o = .inl none ∧ ∃ ad' z' ar' lr', Hp s ad' (hw_ee z') ar' lr' ∧ od_E A (hq_g ar 190) (hq_u z 10 (fo_cc (oD (hq_g ar 190)) (hq_g ar 190 0) r)) ar z' ar' ∧ lr' 1 = lr 1 ∧ 16 ≤ (lr' 0).1 ∧ (lr' 0).1 ≤ 1600 ∧ so_S (fo_cc (oD (hq_g ar 190)) (hq_g ar 190 0) r) (fun k => od_sk (hq_g ar 190) y (cp k) * 400 + cp k) (lq_g lr') ∧ (∀ i y, 0 ≤ i → i < fo_cc (oD (hq_g ar 190)) (hq_g ar 190 0) r → 0 ≤ y → y < fo_end (oD (hq_g ar 190)) (hq_g ar 190 0) (lq_g lr' i % 400) - (lq_g lr' i % 400) → hq_g ar' 190 (1 + (fo_ss (oD (hq_g ar 190)) (hq_g ar 190 0) r (lq_g lr') i + y)) = hq_g ar 190 (1 + (lq_g lr' i % 400 + y))) ∧ (∀ i, 0 ≤ i → (i < r + 2 ∨ 1 + fo_end (oD (hq_g ar 190)) (hq_g ar 190 0) r ≤ i) → hq_g ar' 190 i = hq_g ar 190 i) ∧ hq_rm σ ar lr s ar' lr') := by
  show pm_Fv (tq_P L xs) (15, 0, [(0, .ref 0), (1, .int (zI (fo_id (oI (hq_g ar 190)) r))), (2, .int (zI y))], []) σ _
  have hl := h.le
  have nm := N.nm
  have m4 := N.m4
  have B' := fo_end_B' N.W u0 u1
  have cc := fo_cc_r N.W u0 u1
  have z0 : fo_c (oD (hq_g ar 190)) ((oD (hq_g ar 190)) r + 1) (r + 1) (r + 1) = 0 := fo_c_0 (by omega)
  have h' : hw A (hq_u z 10 (fo_cc (oD (hq_g ar 190)) (hq_g ar 190 0) r)) ar := h.cg (fun k hk => hq_u_ne (by omega)) (fun _ _ => rfl)
  have E : od_E A (hq_g ar 190) (hq_u z 10 (fo_cc (oD (hq_g ar 190)) (hq_g ar 190 0) r)) ar (hq_u z 10 (fo_cc (oD (hq_g ar 190)) (hq_g ar 190 0) r)) ar := od_E.ini h' h7 hz1
  have inj : ∀ i j, 0 ≤ i → i < fo_cc (oD (hq_g ar 190)) (hq_g ar 190 0) r → 0 ≤ j → j < fo_cc (oD (hq_g ar 190)) (hq_g ar 190 0) r → od_sk (hq_g ar 190) y (cp i) * 400 + cp i = od_sk (hq_g ar 190) y (cp j) * 400 + cp j → i = j := by
    intro i j i0 i1 j0 j1 e
    have a := hcp i i0 i1
    have b := hcp j j0 j1
    have e2 : cp i = cp j := by omega
    rw [← a.2.2.2.2.2.2, ← b.2.2.2.2.2.2, e2]
  refine pm_Fv.go 2 (f' := (15, 2, [(0, _), (1, _), (2, _)], [_, _])) rfl ?_
  refine pm_Fv.cv rfl rfl rfl rfl (by decide) (Nat.le_of_ble_eq_true rfl) (Nat.le_of_ble_eq_true rfl) H.m0 H.o0 (ev_por L xs H hl N u0 u1) ?_
  refine pm_Fv.go 4 (f' := (15, 9, [(3, _), (0, _), (1, _), (2, _)], [_, _, _])) rfl ?_
  refine pm_Fv.call rfl rfl rfl rfl rfl (ev_in1 L xs (by omega) hy) ?_
  refine pm_Fv.call rfl rfl rfl rfl rfl (ev_ckN1 L xs) ?_
  refine pm_Fv.go 1 (f' := (15, 16, [(3, _), (0, _), (1, _), (2, _)], [_])) rfl ?_
  refine pm_Fv.gf rfl rfl H.m0 H.o0 rfl ?_
  refine pm_Fv.go 1 (f' := (15, 20, [(3, _), (0, _), (1, _), (2, _)], [_, _])) rfl ?_
  refine pm_Fv.cv rfl rfl rfl rfl (by decide) (Nat.le_of_ble_eq_true rfl) (Nat.le_of_ble_eq_true rfl) H.m188 H.o188 (ev_branchEnd L xs H hl N u0 u1) ?_
  refine pm_Fv.go 2 (f' := (15, 26, [(4, _), (3, _), (0, _), (1, _), (2, _)], [_])) rfl ?_
  refine pm_Fv.gf rfl rfl H.m0 H.o0 rfl ?_
  refine pm_Fv.cvF rfl rfl rfl rfl (by decide) (Nat.le_of_ble_eq_true rfl) (Nat.le_of_ble_eq_true rfl) H.m196 H.o196 (ev_kclear L xs H) (fun s1 q1 => ?_)
  obtain ⟨H1, r1⟩ := q1
  refine pm_Fv.go 2 (f' := (15, 34, [(4, _), (3, _), (0, _), (1, _), (2, _)], [_, _])) rfl ?_
  refine pm_Fv.iadd rfl ?_
  refine pm_Fv.go 1 (f' := (15, 37, [(5, _), (4, _), (3, _), (0, _), (1, _), (2, _)], [])) rfl ?_
  refine pm_Fv.weak (ev_dsortL (σ := σ) (z := z) (lr := lr) L xs hl N u0 u1 hy hcp hsk (fun s1 ad1 lr1 H1 e1 hk l1 l2 l3 rm => ?_) (fo_end (oD (hq_g ar 190)) (hq_g ar 190 0) r - (r + 1)).toNat (r + 1) s1 ad lr (by omega) (by omega) (by rw [z0]; exact H1) rfl (fun i i0 i1 => absurd i1 (by omega)) kl.1 kl.2 (by omega) (hq_rm_refl r1)) rfl
  refine pm_Fv.go 1 (f' := (15, 96, [(4, _), (3, _), (0, _), (1, _), (2, _)], [_])) rfl ?_
  refine pm_Fv.gf rfl rfl H1.m0 H1.o0 rfl ?_
  refine pm_Fv.cvF rfl rfl rfl rfl (by decide) (Nat.le_of_ble_eq_true rfl) (Nat.le_of_ble_eq_true rfl) H1.m196 H1.o196 (ev_order L xs H1 (show 0 ≤ fo_cc (oD (hq_g ar 190)) (hq_g ar 190 0) r ∧ fo_cc (oD (hq_g ar 190)) (hq_g ar 190 0) r ≤ 800 by omega) (show fo_cc (oD (hq_g ar 190)) (hq_g ar 190 0) r ≤ ((lr1 0).1 : Int) ∧ (lr1 0).1 ≤ 1600 from ⟨l3, l2⟩) (fun i j i0 i1 j0 j1 e => inj i j i0 i1 j0 j1 (by rw [← hk i i0 i1, ← hk j j0 j1]; exact e))) (fun s2 q2 => ?_)
  obtain ⟨⟨lr2, H2, f1, f2, so⟩, r2⟩ := q2
  refine pm_Fv.go 1 (f' := (15, 103, [(4, _), (3, _), (0, _), (1, _), (2, _)], [_])) rfl ?_
  refine pm_Fv.gf rfl rfl H2.m0 H2.o0 rfl ?_
  refine pm_Fv.go 2 (f' := (15, 108, [(4, _), (3, _), (0, _), (1, _), (2, _)], [_, _, _])) rfl ?_
  refine pm_Fv.gf rfl rfl H2.m0 H2.o0 rfl ?_
  have so2 : so_S (fo_cc (oD (hq_g ar 190)) (hq_g ar 190 0) r) (fun k => od_sk (hq_g ar 190) y (cp k) * 400 + cp k) (lq_g lr2) := so_S_cg so hk
  refine pm_Fv.cvF rfl rfl rfl rfl (by decide) (Nat.le_of_ble_eq_true rfl) (Nat.le_of_ble_eq_true rfl) H2.m188 H2.o188 (ev_arrC L xs H2 E N l9 (show fo_cc (oD (hq_g ar 190)) (hq_g ar 190 0) r ≤ ((lr2 0).1 : Int) ∧ (lr2 0).1 ≤ 1600 by omega) u0 u1 hcp (fun p p0 p1 => (hsk p p0 p1).1) rfl so2) (fun s3 q3 => ?_)
  obtain ⟨ad3, z3, ar3, H3, E3, g3, g4, m3⟩ := q3
  refine pm_Fv.go 1 (f' := (15, 115, [(4, _), (3, _), (0, _), (1, _), (2, _)], [_])) rfl ?_
  refine pm_Fv.gf rfl rfl H3.m0 H3.o0 rfl ?_
  refine pm_Fv.cvF rfl rfl rfl rfl (by decide) (Nat.le_of_ble_eq_true rfl) (Nat.le_of_ble_eq_true rfl) H3.m1 H3.o1 (ev_endE L xs H3 E3 h5) (fun s4 q4 => ?_)
  obtain ⟨H4, r4⟩ := q4
  exact pm_Fv.ret rfl rfl rfl rfl ⟨rfl, ad3, z3, ar3, lr2, H4, E3, f1.trans e1, by omega, by omega, so2, g3, g4, hq_rm_tr (hq_rm_tr rm (hq_rm_len r2 (fun _ => rfl) f2)) (hq_rm_tr m3 (hq_rm_refl r4))⟩
end MS
