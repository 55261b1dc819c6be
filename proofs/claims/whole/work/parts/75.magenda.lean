/-! the reference: agenda -/
def ag_d (Dy : Int → Int → Int) (u : Int) : Int := Dy (u / 2) (u % 2)
def ag_s (t : Int) (Dy : Int → Int → Int) (u : Int) : Int := if ag_d Dy u < t then t else ag_d Dy u
def ag_q (St : Int → Int) (Dy : Int → Int → Int) (t a b : Int) (u : Int) : Int := if St (u / 2) < 3 ∧ ag_d Dy u ≠ -1 ∧ a ≤ ag_s t Dy u ∧ ag_s t Dy u ≤ b then 1 else 0
def ag_k (Rk : Int → Int) (Dy : Int → Int → Int) (t : Int) (u : Int) : Int := ((ag_s t Dy u * 2 + (1 - u % 2)) * 4 + (3 - Rk (u / 2))) * 400 + u / 2
/-- where a new one stands -/
theorem so_pt {c v : Int} {G s : Int → Int} (h : so_S c G s) (c0 : 0 ≤ c) (hv : ∀ i, 0 ≤ i → i < c → s i ≠ v) : ∃ p, 0 ≤ p ∧ p ≤ c ∧ (∀ i, 0 ≤ i → i < p → s i < v) ∧ (∀ i, p ≤ i → i < c → v < s i) := by
  have key : ∀ (n : Nat) (p : Int), p + n = c → 0 ≤ p → (∀ i, 0 ≤ i → i < p → s i < v) → ∃ p, 0 ≤ p ∧ p ≤ c ∧ (∀ i, 0 ≤ i → i < p → s i < v) ∧ (∀ i, p ≤ i → i < c → v < s i) := by
    intro n
    induction n with
    | zero =>
      intro p pc p0 hp
      exact ⟨p, p0, by omega, hp, fun i i0 i1 => absurd i1 (by omega)⟩
    | succ n ih =>
      intro p pc p0 hp
      by_cases q : s p < v
      · refine ih (p + 1) (by omega) (by omega) (fun i i0 i1 => ?_)
        by_cases e : i = p
        · rw [e]
          exact q
        · exact hp i i0 (by omega)
      · refine ⟨p, p0, by omega, hp, fun i i0 i1 => ?_⟩
        have := so_S_le h p0 i0 i1
        have := hv p p0 (by omega)
        omega
  exact key c.toNat 0 (by omega) (by omega) (fun i i0 i1 => absurd i1 (by omega))
section MS
variable (L : Nat) (xs : Nat → Int32)
variable {σ : pm_S} {ad : Nat → Nat} {z : Nat → Int} {ar : Nat → Nat × (Nat → Int32)} {lr : Nat → Nat × (Nat → Int64)}
theorem ev_isBefore (H : Hp σ ad z ar lr) (h : mo_H z ar) {e y w i e2 y2 w2 : Int} (he : 0 ≤ e ∧ e < 400) (he2 : 0 ≤ e2 ∧ e2 < 400) (hy : 0 ≤ y ∧ y ≤ 3652058) (hw : 0 ≤ w ∧ w ≤ 1) (hi : 0 ≤ i ∧ i < 800) (h1 : hq_g ar 204 i = e2) (h2 : hq_g ar 205 i = y2) (h3 : hq_g ar 206 i = w2) : pm_Ev (tq_P L xs) (pm_enter 151 [.ref 199, .int (zI e), .int (zI y), .int (zI w), .int (zI i)]) σ (.inl (some (.int (zI (if y < y2 ∨ (y = y2 ∧ (w2 < w ∨ (w = w2 ∧ mo_g ar e2 5 < mo_g ar e 5))) then 1 else 0)))), σ) := by
  show pm_Ev (tq_P L xs) (151, 0, [(0, .ref 199), (1, .int (zI e)), (2, .int (zI y)), (3, .int (zI w)), (4, .int (zI i))], []) σ _
  have ry := hq_g_r ar 205 i
  have rw_ := hq_g_r ar 206 i
  rw [h2] at ry
  rw [h3] at rw_
  have g1 := mo_g_r ar e 5
  have g2 := mo_g_r ar e2 5
  refine pm_Ev.go 2 (f' := (151, 2, [(0, _), (1, _), (2, _), (3, _), (4, _)], [_, _])) rfl ?_
  refine pm_Ev.gf rfl rfl H.m199 H.o199 rfl ?_
  refine pm_Ev.go 1 (f' := (151, 7, [(0, _), (1, _), (2, _), (3, _), (4, _)], [_, _, _])) rfl ?_
  refine pm_Ev.fia H rfl (by decide) rfl rfl (by rw [h.l5]; omega) ?_
  rw [h2]
  refine pm_Ev.jeq rfl (by omega) rfl (fun k1 => ?_) (fun k1 => ?_)
  · refine pm_Ev.go 2 (f' := (151, 30, [(0, _), (1, _), (2, _), (3, _), (4, _)], [_, _])) rfl ?_
    refine pm_Ev.gf rfl rfl H.m199 H.o199 rfl ?_
    refine pm_Ev.go 1 (f' := (151, 35, [(0, _), (1, _), (2, _), (3, _), (4, _)], [_, _, _])) rfl ?_
    refine pm_Ev.fia H rfl (by decide) rfl rfl (by rw [h.l6]; omega) ?_
    rw [h3]
    refine pm_Ev.jeq rfl (by omega) rfl (fun k2 => ?_) (fun k2 => ?_)
    · refine pm_Ev.go 3 (f' := (151, 59, [(0, _), (1, _), (2, _), (3, _), (4, _)], [_, _, _])) rfl ?_
      refine pm_Ev.cv rfl rfl rfl rfl (by decide) (Nat.le_of_ble_eq_true rfl) (Nat.le_of_ble_eq_true rfl) H.m199 H.o199 (ev_g L xs H h.l0 (by omega)) ?_
      refine pm_Ev.go 2 (f' := (151, 64, [(0, _), (1, _), (2, _), (3, _), (4, _)], [_, _, _])) rfl ?_
      refine pm_Ev.gf rfl rfl H.m199 H.o199 rfl ?_
      refine pm_Ev.go 1 (f' := (151, 69, [(0, _), (1, _), (2, _), (3, _), (4, _)], [_, _, _, _])) rfl ?_
      refine pm_Ev.fia H rfl (by decide) rfl rfl (by rw [h.l4]; omega) ?_
      rw [h1]
      refine pm_Ev.go 1 (f' := (151, 71, [(0, _), (1, _), (2, _), (3, _), (4, _)], [_, _, _, _])) rfl ?_
      refine pm_Ev.cv rfl rfl rfl rfl (by decide) (Nat.le_of_ble_eq_true rfl) (Nat.le_of_ble_eq_true rfl) H.m199 H.o199 (ev_g L xs H h.l0 (by omega)) ?_
      refine pm_Ev.jle rfl (by omega) rfl (fun k3 => ?_) (fun k3 => ?_)
      · refine pm_Ev.go 1 (f' := (151, 82, [(0, _), (1, _), (2, _), (3, _), (4, _)], [_])) rfl ?_
        exact pm_Ev.rb rfl rfl (by first | (rw [if_pos (by omega)]; done) | (rw [if_neg (by omega)]; done)) (by decide)
      · refine pm_Ev.go 2 (f' := (151, 82, [(0, _), (1, _), (2, _), (3, _), (4, _)], [_])) rfl ?_
        exact pm_Ev.rb rfl rfl (by first | (rw [if_pos (by omega)]; done) | (rw [if_neg (by omega)]; done)) (by decide)
    · refine pm_Ev.go 2 (f' := (151, 41, [(0, _), (1, _), (2, _), (3, _), (4, _)], [_, _])) rfl ?_
      refine pm_Ev.gf rfl rfl H.m199 H.o199 rfl ?_
      refine pm_Ev.go 1 (f' := (151, 46, [(0, _), (1, _), (2, _), (3, _), (4, _)], [_, _, _])) rfl ?_
      refine pm_Ev.fia H rfl (by decide) rfl rfl (by rw [h.l6]; omega) ?_
      rw [h3]
      refine pm_Ev.jle rfl (by omega) rfl (fun k4 => ?_) (fun k4 => ?_)
      · refine pm_Ev.go 1 (f' := (151, 55, [(0, _), (1, _), (2, _), (3, _), (4, _)], [_])) rfl ?_
        exact pm_Ev.rb rfl rfl (by first | (rw [if_pos (by omega)]; done) | (rw [if_neg (by omega)]; done)) (by decide)
      · refine pm_Ev.go 2 (f' := (151, 55, [(0, _), (1, _), (2, _), (3, _), (4, _)], [_])) rfl ?_
        exact pm_Ev.rb rfl rfl (by first | (rw [if_pos (by omega)]; done) | (rw [if_neg (by omega)]; done)) (by decide)
  · refine pm_Ev.go 2 (f' := (151, 13, [(0, _), (1, _), (2, _), (3, _), (4, _)], [_, _])) rfl ?_
    refine pm_Ev.gf rfl rfl H.m199 H.o199 rfl ?_
    refine pm_Ev.go 1 (f' := (151, 18, [(0, _), (1, _), (2, _), (3, _), (4, _)], [_, _, _])) rfl ?_
    refine pm_Ev.fia H rfl (by decide) rfl rfl (by rw [h.l5]; omega) ?_
    rw [h2]
    refine pm_Ev.jge rfl (by omega) rfl (fun k5 => ?_) (fun k5 => ?_)
    · refine pm_Ev.go 1 (f' := (151, 27, [(0, _), (1, _), (2, _), (3, _), (4, _)], [_])) rfl ?_
      exact pm_Ev.rb rfl rfl (by first | (rw [if_pos (by omega)]; done) | (rw [if_neg (by omega)]; done)) (by decide)
    · refine pm_Ev.go 2 (f' := (151, 27, [(0, _), (1, _), (2, _), (3, _), (4, _)], [_])) rfl ?_
      exact pm_Ev.rb rfl rfl (by first | (rw [if_pos (by omega)]; done) | (rw [if_neg (by omega)]; done)) (by decide)
theorem ev_maddL (h : mo_H z ar) {I E Y T s : Int → Int} {c k y w p n : Int} (M0 : ∀ x, 0 ≤ x → x < n → 0 ≤ I x ∧ I x < 400 ∧ 0 ≤ mo_g ar (I x) 5 ∧ mo_g ar (I x) 5 ≤ 3) (hc : 0 ≤ c ∧ c < 800) (hk : 0 ≤ k ∧ k < n) (hn : n ≤ 400) (hy : 0 ≤ y ∧ y ≤ 3652058) (hw : 0 ≤ w ∧ w ≤ 1) (p0 : 0 ≤ p) (p1 : p ≤ c) (hs1 : ∀ i, 0 ≤ i → i < p → s i < ((y * 2 + (1 - w)) * 4 + (3 - mo_g ar (I k) 5)) * 400 + k) (hs2 : ∀ i, p ≤ i → i < c → ((y * 2 + (1 - w)) * 4 + (3 - mo_g ar (I k) 5)) * 400 + k < s i)
    (hd : ∀ i, 0 ≤ i → i < c → ∃ k2 y2 w2, 0 ≤ k2 ∧ k2 < n ∧ 0 ≤ y2 ∧ y2 ≤ 3652058 ∧ 0 ≤ w2 ∧ w2 ≤ 1 ∧ E i = I k2 ∧ Y i = y2 ∧ T i = w2 ∧ s i = ((y2 * 2 + (1 - w2)) * 4 + (3 - mo_g ar (I k2) 5)) * 400 + k2 ∧ (k2 < k ∨ (k2 = k ∧ w2 < w))) : ∀ (j : Nat) (q : Int) (σ : pm_S), p + j = q → q ≤ c → Hp σ ad (hq_u z 28 c) (mo_f3 ar (so_sh E q c) (so_sh Y q c) (so_sh T q c)) lr → pm_Fv (tq_P L xs) (152, 6, [(4, .int (zI q)), (0, .ref 199), (1, .int (zI (I k))), (2, .int (zI y)), (3, .int (zI w))], []) σ (fun o s => o = .inl none ∧ Hp s ad (hq_u z 28 (c + 1)) (mo_f3 ar (so_in E p c (I k)) (so_in Y p c y) (so_in T p c w)) lr ∧ s.2 = σ.2) := by
  intro j
  have mk := M0 k hk.1 hk.2
  have bf : ∀ (q : Int) (σ : pm_S), 0 < q → q ≤ c → Hp σ ad (hq_u z 28 c) (mo_f3 ar (so_sh E q c) (so_sh Y q c) (so_sh T q c)) lr → pm_Ev (tq_P L xs) (pm_enter 151 [.ref 199, .int (zI (I k)), .int (zI y), .int (zI w), .int (zI (q - 1))]) σ (.inl (some (.int (zI (if ((y * 2 + (1 - w)) * 4 + (3 - mo_g ar (I k) 5)) * 400 + k < s (q - 1) then 1 else 0)))), σ) := by
    intro q σ q0 q1 H
    obtain ⟨k2, y2, w2, a1, a2, a3, a4, a5, a6, a7, a8, a9, b1, b2⟩ := hd (q - 1) (by omega) (by omega)
    have m2 := M0 k2 a1 a2
    have e1 : so_sh E q c (q - 1) = I k2 := (if_neg (by omega)).trans a7
    have e2 : so_sh Y q c (q - 1) = y2 := (if_neg (by omega)).trans a8
    have e3 : so_sh T q c (q - 1) = w2 := (if_neg (by omega)).trans a9
    have f1 : hq_g (mo_f3 ar (so_sh E q c) (so_sh Y q c) (so_sh T q c)) 204 (q - 1) = I k2 := (hq_sf_g (ar := ar) (r := 204) (by omega) (by rw [e1]; omega)).trans e1
    have f2 : hq_g (mo_f3 ar (so_sh E q c) (so_sh Y q c) (so_sh T q c)) 205 (q - 1) = y2 := (hq_sf_g (ar := ar) (r := 205) (by omega) (by rw [e2]; omega)).trans e2
    have f3 : hq_g (mo_f3 ar (so_sh E q c) (so_sh Y q c) (so_sh T q c)) 206 (q - 1) = w2 := (hq_sf_g (ar := ar) (r := 206) (by omega) (by rw [e3]; omega)).trans e3
    have r := ev_isBefore L xs H (show mo_H (hq_u z 28 c) (mo_f3 ar (so_sh E q c) (so_sh Y q c) (so_sh T q c)) from h) (e := I k) (y := y) (w := w) (by omega) (by omega : 0 ≤ I k2 ∧ I k2 < 400) hy hw (by omega) f1 f2 f3
    have r2 : pm_Ev (tq_P L xs) (pm_enter 151 [.ref 199, .int (zI (I k)), .int (zI y), .int (zI w), .int (zI (q - 1))]) σ (.inl (some (.int (zI (if y < y2 ∨ (y = y2 ∧ (w2 < w ∨ (w = w2 ∧ mo_g ar (I k2) 5 < mo_g ar (I k) 5))) then 1 else 0)))), σ) := r
    have eq : (if y < y2 ∨ (y = y2 ∧ (w2 < w ∨ (w = w2 ∧ mo_g ar (I k2) 5 < mo_g ar (I k) 5))) then (1 : Int) else 0) = if ((y * 2 + (1 - w)) * 4 + (3 - mo_g ar (I k) 5)) * 400 + k < s (q - 1) then 1 else 0 := by
      rw [b1]
      by_cases t : y < y2 ∨ (y = y2 ∧ (w2 < w ∨ (w = w2 ∧ mo_g ar (I k2) 5 < mo_g ar (I k) 5)))
      · rw [if_pos t, if_pos (by omega)]
      · rw [if_neg t, if_neg (by omega)]
    rw [eq] at r2
    exact r2
  induction j with
  | zero =>
    intro q σ pq qc H
    have e : q = p := by omega
    subst e
    have fin : ∀ s, Hp s ad (hq_u (hq_u z 28 c) 28 (c + 1)) (hq_w (hq_w (hq_w (mo_f3 ar (so_sh E q c) (so_sh Y q c) (so_sh T q c)) 204 q (I k)) 205 q y) 206 q w) lr → Hp s ad (hq_u z 28 (c + 1)) (mo_f3 ar (so_in E q c (I k)) (so_in Y q c y) (so_in T q c w)) lr := by
      intro s Hs
      rw [hq_u_u, mo_f3_4 _ _ _ _ p0, mo_f3_5 _ _ _ _ p0, mo_f3_6 _ _ _ _ p0] at Hs
      exact Hs
    by_cases z0 : q = 0
    · skip
      refine pm_Fv.go 1 (f' := (152, 8, [(4, _), (0, _), (1, _), (2, _), (3, _)], [_])) rfl ?_
      refine pm_Fv.zle rfl (by omega) rfl (fun h1 => ?_) (fun h1 => ?_)
      · refine pm_Fv.go 1 (f' := (152, 80, [(4, _), (0, _), (1, _), (2, _), (3, _)], [_])) rfl ?_
        refine pm_Fv.gf rfl rfl H.m199 H.o199 rfl ?_
        refine pm_Fv.go 2 (f' := (152, 86, [(4, _), (0, _), (1, _), (2, _), (3, _)], [_, _, _])) rfl ?_
        refine pm_Fv.fis H rfl (by decide) rfl rfl (by show 0 ≤ q ∧ q < (ar 204).1 ∧ (ar 204).1 ≤ 2147483647; rw [h.l4]; omega) (fun s1 H1 r1 => ?_)
        refine pm_Fv.go 1 (f' := (152, 88, [(4, _), (0, _), (1, _), (2, _), (3, _)], [_])) rfl ?_
        refine pm_Fv.gf rfl rfl H1.m199 H1.o199 rfl ?_
        refine pm_Fv.go 2 (f' := (152, 94, [(4, _), (0, _), (1, _), (2, _), (3, _)], [_, _, _])) rfl ?_
        refine pm_Fv.fis H1 rfl (by decide) rfl rfl (by show 0 ≤ q ∧ q < (ar 205).1 ∧ (ar 205).1 ≤ 2147483647; rw [h.l5]; omega) (fun s2 H2 r2 => ?_)
        refine pm_Fv.go 1 (f' := (152, 96, [(4, _), (0, _), (1, _), (2, _), (3, _)], [_])) rfl ?_
        refine pm_Fv.gf rfl rfl H2.m199 H2.o199 rfl ?_
        refine pm_Fv.go 2 (f' := (152, 102, [(4, _), (0, _), (1, _), (2, _), (3, _)], [_, _, _])) rfl ?_
        refine pm_Fv.fis H2 rfl (by decide) rfl rfl (by show 0 ≤ q ∧ q < (ar 206).1 ∧ (ar 206).1 ≤ 2147483647; rw [h.l6]; omega) (fun s3 H3 r3 => ?_)
        refine pm_Fv.go 2 (f' := (152, 105, [(4, _), (0, _), (1, _), (2, _), (3, _)], [_, _])) rfl ?_
        refine pm_Fv.gf rfl rfl H3.m199 H3.o199 rfl ?_
        rw [hq_u_at]
        refine pm_Fv.go 1 (f' := (152, 109, [(4, _), (0, _), (1, _), (2, _), (3, _)], [_, _, _])) rfl ?_
        refine pm_Fv.iadd rfl ?_
        refine pm_Fv.pz H3 28 rfl rfl rfl (by decide) rfl rfl (Nat.le_of_ble_eq_true rfl) rfl (by decide) rfl (fun s4 H4 r4 => ?_)
        exact pm_Fv.ret rfl rfl rfl rfl ⟨rfl, fin _ H4, (r4.trans (r3.trans (r2.trans r1)))⟩
      · exact absurd h1 (by omega)
    · have b1 := bf q σ (by omega) qc H
      have s1 := hs1 (q - 1) (by omega) (by omega)
      rw [if_neg (by omega)] at b1
      refine pm_Fv.go 1 (f' := (152, 8, [(4, _), (0, _), (1, _), (2, _), (3, _)], [_])) rfl ?_
      refine pm_Fv.zle rfl (by omega) rfl (fun h1 => ?_) (fun h1 => ?_)
      · exact absurd h1 (by omega)
      · refine pm_Fv.go 6 (f' := (152, 18, [(4, _), (0, _), (1, _), (2, _), (3, _)], [_, _, _, _, _, _])) rfl ?_
        refine pm_Fv.isub rfl ?_
        refine pm_Fv.cv rfl rfl rfl rfl (by decide) (Nat.le_of_ble_eq_true rfl) (Nat.le_of_ble_eq_true rfl) H.m199 H.o199 (b1) ?_
        refine pm_Fv.zeq rfl (by omega) rfl (fun h2 => ?_) (fun h2 => ?_)
        · refine pm_Fv.go 1 (f' := (152, 80, [(4, _), (0, _), (1, _), (2, _), (3, _)], [_])) rfl ?_
          refine pm_Fv.gf rfl rfl H.m199 H.o199 rfl ?_
          refine pm_Fv.go 2 (f' := (152, 86, [(4, _), (0, _), (1, _), (2, _), (3, _)], [_, _, _])) rfl ?_
          refine pm_Fv.fis H rfl (by decide) rfl rfl (by show 0 ≤ q ∧ q < (ar 204).1 ∧ (ar 204).1 ≤ 2147483647; rw [h.l4]; omega) (fun s1 H1 r1 => ?_)
          refine pm_Fv.go 1 (f' := (152, 88, [(4, _), (0, _), (1, _), (2, _), (3, _)], [_])) rfl ?_
          refine pm_Fv.gf rfl rfl H1.m199 H1.o199 rfl ?_
          refine pm_Fv.go 2 (f' := (152, 94, [(4, _), (0, _), (1, _), (2, _), (3, _)], [_, _, _])) rfl ?_
          refine pm_Fv.fis H1 rfl (by decide) rfl rfl (by show 0 ≤ q ∧ q < (ar 205).1 ∧ (ar 205).1 ≤ 2147483647; rw [h.l5]; omega) (fun s2 H2 r2 => ?_)
          refine pm_Fv.go 1 (f' := (152, 96, [(4, _), (0, _), (1, _), (2, _), (3, _)], [_])) rfl ?_
          refine pm_Fv.gf rfl rfl H2.m199 H2.o199 rfl ?_
          refine pm_Fv.go 2 (f' := (152, 102, [(4, _), (0, _), (1, _), (2, _), (3, _)], [_, _, _])) rfl ?_
          refine pm_Fv.fis H2 rfl (by decide) rfl rfl (by show 0 ≤ q ∧ q < (ar 206).1 ∧ (ar 206).1 ≤ 2147483647; rw [h.l6]; omega) (fun s3 H3 r3 => ?_)
          refine pm_Fv.go 2 (f' := (152, 105, [(4, _), (0, _), (1, _), (2, _), (3, _)], [_, _])) rfl ?_
          refine pm_Fv.gf rfl rfl H3.m199 H3.o199 rfl ?_
          rw [hq_u_at]
          refine pm_Fv.go 1 (f' := (152, 109, [(4, _), (0, _), (1, _), (2, _), (3, _)], [_, _, _])) rfl ?_
          refine pm_Fv.iadd rfl ?_
          refine pm_Fv.pz H3 28 rfl rfl rfl (by decide) rfl rfl (Nat.le_of_ble_eq_true rfl) rfl (by decide) rfl (fun s4 H4 r4 => ?_)
          exact pm_Fv.ret rfl rfl rfl rfl ⟨rfl, fin _ H4, (r4.trans (r3.trans (r2.trans r1)))⟩
        · exact absurd h2 (by omega)
  | succ j ih =>
    intro q σ pq qc H
    have b1 := bf q σ (by omega) qc H
    have s1 := hs2 (q - 1) (by omega) (by omega)
    rw [if_pos s1] at b1
    have q0 : 0 ≤ q := by omega
    have sh : ∀ s, Hp s ad (hq_u z 28 c) (hq_w (hq_w (hq_w (mo_f3 ar (so_sh E q c) (so_sh Y q c) (so_sh T q c)) 204 q (hq_g (mo_f3 ar (so_sh E q c) (so_sh Y q c) (so_sh T q c)) 204 (q - 1))) 205 q (hq_g (mo_f3 ar (so_sh E q c) (so_sh Y q c) (so_sh T q c)) 205 (q - 1))) 206 q (hq_g (mo_f3 ar (so_sh E q c) (so_sh Y q c) (so_sh T q c)) 206 (q - 1))) lr → Hp s ad (hq_u z 28 c) (mo_f3 ar (so_sh E (q - 1) c) (so_sh Y (q - 1) c) (so_sh T (q - 1) c)) lr := by
      intro s Hs
      obtain ⟨k2, y2, w2, a1, a2, a3, a4, a5, a6, a7, a8, a9, b1, b2⟩ := hd (q - 1) (by omega) (by omega)
      have m2 := M0 k2 a1 a2
      have e1 : so_sh E q c (q - 1) = I k2 := (if_neg (by omega)).trans a7
      have e2 : so_sh Y q c (q - 1) = y2 := (if_neg (by omega)).trans a8
      have e3 : so_sh T q c (q - 1) = w2 := (if_neg (by omega)).trans a9
      have f1 : hq_g (mo_f3 ar (so_sh E q c) (so_sh Y q c) (so_sh T q c)) 204 (q - 1) = so_sh E q c (q - 1) := (hq_sf_g (ar := ar) (r := 204) (by omega) (by rw [e1]; omega))
      have f2 : hq_g (mo_f3 ar (so_sh E q c) (so_sh Y q c) (so_sh T q c)) 205 (q - 1) = so_sh Y q c (q - 1) := (hq_sf_g (ar := ar) (r := 205) (by omega) (by rw [e2]; omega))
      have f3 : hq_g (mo_f3 ar (so_sh E q c) (so_sh Y q c) (so_sh T q c)) 206 (q - 1) = so_sh T q c (q - 1) := (hq_sf_g (ar := ar) (r := 206) (by omega) (by rw [e3]; omega))
      rw [f1, f2, f3, mo_f3_4 _ _ _ _ q0, mo_f3_5 _ _ _ _ q0, mo_f3_6 _ _ _ _ q0, so_sh_s E qc, so_sh_s Y qc, so_sh_s T qc] at Hs
      exact Hs
    refine pm_Fv.go 1 (f' := (152, 8, [(4, _), (0, _), (1, _), (2, _), (3, _)], [_])) rfl ?_
    refine pm_Fv.zle rfl (by omega) rfl (fun h1 => ?_) (fun h1 => ?_)
    · exact absurd h1 (by omega)
    · refine pm_Fv.go 6 (f' := (152, 18, [(4, _), (0, _), (1, _), (2, _), (3, _)], [_, _, _, _, _, _])) rfl ?_
      refine pm_Fv.isub rfl ?_
      refine pm_Fv.cv rfl rfl rfl rfl (by decide) (Nat.le_of_ble_eq_true rfl) (Nat.le_of_ble_eq_true rfl) H.m199 H.o199 (b1) ?_
      refine pm_Fv.zeq rfl (by omega) rfl (fun h2 => ?_) (fun h2 => ?_)
      · exact absurd h2 (by omega)
      · refine pm_Fv.go 1 (f' := (152, 26, [(4, _), (0, _), (1, _), (2, _), (3, _)], [_])) rfl ?_
        refine pm_Fv.gf rfl rfl H.m199 H.o199 rfl ?_
        refine pm_Fv.go 2 (f' := (152, 32, [(4, _), (0, _), (1, _), (2, _), (3, _)], [_, _, _])) rfl ?_
        refine pm_Fv.gf rfl rfl H.m199 H.o199 rfl ?_
        refine pm_Fv.go 2 (f' := (152, 38, [(4, _), (0, _), (1, _), (2, _), (3, _)], [_, _, _, _, _])) rfl ?_
        refine pm_Fv.isub rfl ?_
        refine pm_Fv.fia H rfl (by decide) rfl rfl (by show 0 ≤ q - 1 ∧ q - 1 < (ar 204).1 ∧ (ar 204).1 ≤ 2147483647; rw [h.l4]; omega) ?_
        refine pm_Fv.fis H rfl (by decide) rfl rfl (by show 0 ≤ q ∧ q < (ar 204).1 ∧ (ar 204).1 ≤ 2147483647; rw [h.l4]; omega) (fun s1 H1 r1 => ?_)
        refine pm_Fv.go 1 (f' := (152, 42, [(4, _), (0, _), (1, _), (2, _), (3, _)], [_])) rfl ?_
        refine pm_Fv.gf rfl rfl H1.m199 H1.o199 rfl ?_
        refine pm_Fv.go 2 (f' := (152, 48, [(4, _), (0, _), (1, _), (2, _), (3, _)], [_, _, _])) rfl ?_
        refine pm_Fv.gf rfl rfl H1.m199 H1.o199 rfl ?_
        refine pm_Fv.go 2 (f' := (152, 54, [(4, _), (0, _), (1, _), (2, _), (3, _)], [_, _, _, _, _])) rfl ?_
        refine pm_Fv.isub rfl ?_
        refine pm_Fv.fia H1 rfl (by decide) rfl rfl (by show 0 ≤ q - 1 ∧ q - 1 < (ar 205).1 ∧ (ar 205).1 ≤ 2147483647; rw [h.l5]; omega) ?_
        refine pm_Fv.fis H1 rfl (by decide) rfl rfl (by show 0 ≤ q ∧ q < (ar 205).1 ∧ (ar 205).1 ≤ 2147483647; rw [h.l5]; omega) (fun s2 H2 r2 => ?_)
        refine pm_Fv.go 1 (f' := (152, 58, [(4, _), (0, _), (1, _), (2, _), (3, _)], [_])) rfl ?_
        refine pm_Fv.gf rfl rfl H2.m199 H2.o199 rfl ?_
        refine pm_Fv.go 2 (f' := (152, 64, [(4, _), (0, _), (1, _), (2, _), (3, _)], [_, _, _])) rfl ?_
        refine pm_Fv.gf rfl rfl H2.m199 H2.o199 rfl ?_
        refine pm_Fv.go 2 (f' := (152, 70, [(4, _), (0, _), (1, _), (2, _), (3, _)], [_, _, _, _, _])) rfl ?_
        refine pm_Fv.isub rfl ?_
        refine pm_Fv.fia H2 rfl (by decide) rfl rfl (by show 0 ≤ q - 1 ∧ q - 1 < (ar 206).1 ∧ (ar 206).1 ≤ 2147483647; rw [h.l6]; omega) ?_
        refine pm_Fv.fis H2 rfl (by decide) rfl rfl (by show 0 ≤ q ∧ q < (ar 206).1 ∧ (ar 206).1 ≤ 2147483647; rw [h.l6]; omega) (fun s3 H3 r3 => ?_)
        refine pm_Fv.inc rfl rfl (Nat.le_of_ble_eq_true rfl) ?_
        refine pm_Fv.go 1 (f' := (152, 6, [(4, _), (0, _), (1, _), (2, _), (3, _)], [])) rfl ?_
        exact pm_Fv.weak ((ih (q - 1) s3 (by omega) (by omega) (sh s3 H3)).mono (fun o s q => ⟨q.1, q.2.1, q.2.2.trans (r3.trans (r2.trans r1))⟩)) rfl
end MS
