/-! the reference: edits -/
def mo_H (z : Nat → Int) (ar : Nat → Nat × (Nat → Int32)) : Prop :=
  ((ar 200).1 = 5600) ∧
  ((ar 201).1 = 341600) ∧
  ((ar 202).1 = 5600) ∧
  ((ar 203).1 = 400) ∧
  ((ar 204).1 = 800) ∧
  ((ar 205).1 = 800) ∧
  ((ar 206).1 = 800) ∧
  ((ar 207).1 = 400) ∧
  (0 ≤ z 21) ∧
  (z 21 < 90000) ∧
  (0 ≤ z 20) ∧
  (z 20 ≤ z 21) ∧
  (z 24 = 0 ∨ z 24 = 1) ∧
  (0 ≤ z 25) ∧
  (z 25 ≤ 90000)
theorem mo_H.l0 {z : Nat → Int} {ar : Nat → Nat × (Nat → Int32)} (h : mo_H z ar) : (ar 200).1 = 5600 := h.1
theorem mo_H.l1 {z : Nat → Int} {ar : Nat → Nat × (Nat → Int32)} (h : mo_H z ar) : (ar 201).1 = 341600 := h.2.1
theorem mo_H.l2 {z : Nat → Int} {ar : Nat → Nat × (Nat → Int32)} (h : mo_H z ar) : (ar 202).1 = 5600 := h.2.2.1
theorem mo_H.l3 {z : Nat → Int} {ar : Nat → Nat × (Nat → Int32)} (h : mo_H z ar) : (ar 203).1 = 400 := h.2.2.2.1
theorem mo_H.l4 {z : Nat → Int} {ar : Nat → Nat × (Nat → Int32)} (h : mo_H z ar) : (ar 204).1 = 800 := h.2.2.2.2.1
theorem mo_H.l5 {z : Nat → Int} {ar : Nat → Nat × (Nat → Int32)} (h : mo_H z ar) : (ar 205).1 = 800 := h.2.2.2.2.2.1
theorem mo_H.l6 {z : Nat → Int} {ar : Nat → Nat × (Nat → Int32)} (h : mo_H z ar) : (ar 206).1 = 800 := h.2.2.2.2.2.2.1
theorem mo_H.l7 {z : Nat → Int} {ar : Nat → Nat × (Nat → Int32)} (h : mo_H z ar) : (ar 207).1 = 400 := h.2.2.2.2.2.2.2.1
theorem mo_H.n0 {z : Nat → Int} {ar : Nat → Nat × (Nat → Int32)} (h : mo_H z ar) : 0 ≤ z 21 := h.2.2.2.2.2.2.2.2.1
theorem mo_H.n1 {z : Nat → Int} {ar : Nat → Nat × (Nat → Int32)} (h : mo_H z ar) : z 21 < 90000 := h.2.2.2.2.2.2.2.2.2.1
theorem mo_H.o0 {z : Nat → Int} {ar : Nat → Nat × (Nat → Int32)} (h : mo_H z ar) : 0 ≤ z 20 := h.2.2.2.2.2.2.2.2.2.2.1
theorem mo_H.o1 {z : Nat → Int} {ar : Nat → Nat × (Nat → Int32)} (h : mo_H z ar) : z 20 ≤ z 21 := h.2.2.2.2.2.2.2.2.2.2.2.1
theorem mo_H.op {z : Nat → Int} {ar : Nat → Nat × (Nat → Int32)} (h : mo_H z ar) : z 24 = 0 ∨ z 24 = 1 := h.2.2.2.2.2.2.2.2.2.2.2.2.1
theorem mo_H.e0 {z : Nat → Int} {ar : Nat → Nat × (Nat → Int32)} (h : mo_H z ar) : 0 ≤ z 25 := h.2.2.2.2.2.2.2.2.2.2.2.2.2.1
theorem mo_H.e1 {z : Nat → Int} {ar : Nat → Nat × (Nat → Int32)} (h : mo_H z ar) : z 25 ≤ 90000 := h.2.2.2.2.2.2.2.2.2.2.2.2.2.2
theorem mo_H.mk {z : Nat → Int} {ar : Nat → Nat × (Nat → Int32)} (h_l0 : (ar 200).1 = 5600) (h_l1 : (ar 201).1 = 341600) (h_l2 : (ar 202).1 = 5600) (h_l3 : (ar 203).1 = 400) (h_l4 : (ar 204).1 = 800) (h_l5 : (ar 205).1 = 800) (h_l6 : (ar 206).1 = 800) (h_l7 : (ar 207).1 = 400) (h_n0 : 0 ≤ z 21) (h_n1 : z 21 < 90000) (h_o0 : 0 ≤ z 20) (h_o1 : z 20 ≤ z 21) (h_op : z 24 = 0 ∨ z 24 = 1) (h_e0 : 0 ≤ z 25) (h_e1 : z 25 ≤ 90000) : mo_H z ar := ⟨h_l0, h_l1, h_l2, h_l3, h_l4, h_l5, h_l6, h_l7, h_n0, h_n1, h_o0, h_o1, h_op, h_e0, h_e1⟩
def mo_bg (ar : Nat → Nat × (Nat → Int32)) : Nat → Nat × (Nat → Int32) := hq_cp ar 202 200 0 0 5600
def mo_ed (z : Nat → Int) (ar : Nat → Nat × (Nat → Int32)) (g : Int → Int → Int) (z' : Nat → Int) (ar' : Nat → Nat × (Nat → Int32)) : Prop := mo_dn z (mo_w (mo_bg ar) g) z' ar'
theorem mo_bg_w (ar : Nat → Nat × (Nat → Int32)) : mo_w (mo_bg ar) (mo_g ar) = mo_bg ar := mo_w_self (mo_bg ar)
theorem mo_bg_ne {ar : Nat → Nat × (Nat → Int32)} {r : Nat} (h : r ≠ 202) : mo_bg ar r = ar r := hq_u_ne h
theorem mo_w_len (ar : Nat → Nat × (Nat → Int32)) (g : Int → Int → Int) (r : Nat) : (mo_w ar g r).1 = (ar r).1 := by
  unfold mo_w hq_u
  split
  · next h => rw [h]
  · rfl
theorem mo_bg_len (ar : Nat → Nat × (Nat → Int32)) (r : Nat) : (mo_bg ar r).1 = (ar r).1 := hq_cp_len _ _ _ _ _ _ _
theorem mo_H.ln {z : Nat → Int} {ar ar' : Nat → Nat × (Nat → Int32)} (h : mo_H z ar) (e : ∀ r, (ar' r).1 = (ar r).1) : mo_H z ar' :=
  mo_H.mk ((e _).trans h.l0) ((e _).trans h.l1) ((e _).trans h.l2) ((e _).trans h.l3) ((e _).trans h.l4) ((e _).trans h.l5) ((e _).trans h.l6) ((e _).trans h.l7) h.n0 h.n1 h.o0 h.o1 h.op h.e0 h.e1
theorem mo_H.w {z : Nat → Int} {ar : Nat → Nat × (Nat → Int32)} (h : mo_H z ar) (g : Int → Int → Int) : mo_H z (mo_w ar g) := h.ln (mo_w_len ar g)
theorem mo_H.bg {z : Nat → Int} {ar : Nat → Nat × (Nat → Int32)} (h : mo_H z ar) : mo_H z (mo_bg ar) := h.ln (mo_bg_len ar)
section MS
variable (L : Nat) (xs : Nat → Int32)
variable {σ : pm_S} {ad : Nat → Nat} {z : Nat → Int} {ar : Nat → Nat × (Nat → Int32)} {lr : Nat → Nat × (Nat → Int64)}
theorem ev_beg (H : Hp σ ad z ar lr) (h : mo_H z ar) : pm_Fv (tq_P L xs) (pm_enter 102 [.ref 199]) σ (fun o s => o = .inl none ∧ Hp s ad z (mo_w (mo_bg ar) (mo_g ar)) lr ∧ s.2 = σ.2) := by
  rw [mo_bg_w]
  exact ev_begin L xs H h.l0 h.l2
theorem ev_dne {g : Int → Int → Int} (H : Hp σ ad z (mo_w (mo_bg ar) g) lr) (h : mo_H z ar) : pm_Fv (tq_P L xs) (pm_enter 103 [.ref 199]) σ (fun o s => o = .inl none ∧ (∃ z' ar', mo_ed z ar g z' ar' ∧ Hp s ad z' ar' lr) ∧ s.2 = σ.2) := by
  have k := h.bg.w g
  obtain ⟨z', ar', hd, kd⟩ := ev_done L xs H ⟨k.l0, k.l1, k.l2⟩ ⟨k.n0, k.n1, k.o0, k.o1⟩ k.op ⟨k.e0, k.e1⟩
  exact kd.mono (fun o s q => ⟨q.1, ⟨z', ar', hd, q.2.1⟩, q.2.2⟩)
theorem ev_mset (H : Hp σ ad z ar lr) (h : mo_H z ar) {e f v : Int} (hb : 0 ≤ e ∧ e < 400 ∧ 0 ≤ f ∧ f < 14) : pm_Fv (tq_P L xs) (pm_enter 127 [.ref 199, .int (zI e), .int (zI f), .int (zI v)]) σ (fun o s => o = .inl none ∧ (∃ z' ar', mo_ed z ar (mo_pt (mo_g ar) e f v) z' ar' ∧ Hp s ad z' ar' lr) ∧ s.2 = σ.2) := by
  show pm_Fv (tq_P L xs) (127, 0, [(0, .ref 199), (1, .int (zI e)), (2, .int (zI f)), (3, .int (zI v))], []) σ _
  have hl : (mo_bg ar 200).1 = 5600 := h.l0
  refine pm_Fv.go 1 (f' := (127, 1, [(0, _), (1, _), (2, _), (3, _)], [_])) rfl ?_
  refine pm_Fv.cvF rfl rfl rfl rfl (by decide) (Nat.le_of_ble_eq_true rfl) (Nat.le_of_ble_eq_true rfl) H.m199 H.o199 (ev_beg L xs H h) (fun s1 q1 => ?_)
  obtain ⟨H1, r1⟩ := q1
  refine pm_Fv.go 4 (f' := (127, 8, [(0, _), (1, _), (2, _), (3, _)], [_, _, _, _])) rfl ?_
  refine pm_Fv.cvF rfl rfl rfl rfl (by decide) (Nat.le_of_ble_eq_true rfl) (Nat.le_of_ble_eq_true rfl) H1.m199 H1.o199 (ev_pw L xs H1 hl hb) (fun s2 q2 => ?_)
  obtain ⟨H2, r2⟩ := q2
  refine pm_Fv.go 1 (f' := (127, 12, [(0, _), (1, _), (2, _), (3, _)], [_])) rfl ?_
  refine pm_Fv.cvF rfl rfl rfl rfl (by decide) (Nat.le_of_ble_eq_true rfl) (Nat.le_of_ble_eq_true rfl) H2.m199 H2.o199 (ev_dne L xs H2 h) (fun s3 q3 => ?_)
  obtain ⟨H3, r3⟩ := q3
  exact pm_Fv.ret rfl rfl rfl rfl ⟨rfl, H3, (r3.trans (r2.trans r1))⟩
theorem mo_pt_L {g : Int → Int → Int} (S : mo_L g) {x v : Int} : mo_L (mo_pt g x 1 v) := by
  intro e he
  rw [mo_pt_f (by decide)] at he ⊢
  exact S e he
theorem mo_sh_L {g : Int → Int → Int} {m p k y u : Int} (S : ∀ e, g e 0 = 1 → -u ≤ g e 2 ∧ g e 2 ≤ u) (hu : u ≤ 999000) (hy : -2 ≤ y ∧ y ≤ 2) : ∀ e, mo_sh g m p k y e 0 = 1 → -(u + 2) ≤ mo_sh g m p k y e 2 ∧ mo_sh g m p k y e 2 ≤ u + 2 := by
  intro e he
  rw [mo_sh_f (by decide)] at he
  have := S e he
  unfold mo_sh
  split <;> omega
theorem ev_mcarry (H : Hp σ ad z ar lr) (h : mo_H z ar) (hm : 0 ≤ z 23 ∧ z 23 ≤ 400) (S : ∀ e, mo_g ar e 0 = 1 → -1000 ≤ mo_g ar e 2 ∧ mo_g ar e 2 ≤ 1000) {e p k : Int} (he : 0 ≤ e ∧ e < 400) (h2 : -1000 ≤ mo_g ar e 2 ∧ mo_g ar e 2 ≤ 1000) (hp : -2147483648 ≤ p ∧ p ≤ 2147483647) (hk : -2147483648 ≤ k ∧ k ≤ 2147483647) : pm_Fv (tq_P L xs) (pm_enter 123 [.ref 199, .int (zI e), .int (zI p), .int (zI k)]) σ (fun o s => o = .inl none ∧ (∃ z' ar', mo_ed z ar (mo_cy (mo_g ar) (z 23) e p k) z' ar' ∧ Hp s ad z' ar' lr) ∧ s.2 = σ.2) := by
  show pm_Fv (tq_P L xs) (123, 0, [(0, .ref 199), (1, .int (zI e)), (2, .int (zI p)), (3, .int (zI k))], []) σ _
  have hl : (mo_bg ar 200).1 = 5600 := h.l0
  have K := mo_g_K ar
  have S0 : mo_L (mo_g ar) := fun x hx => by have := S x hx; omega
  have S1 := mo_sh_L (m := z 23) (p := mo_g ar e 1) (k := mo_g ar e 2 + 1) (y := -1) S (by omega) (by omega)
  have L1 : mo_L (mo_sh (mo_g ar) (z 23) (mo_g ar e 1) (mo_g ar e 2 + 1) (-1)) := fun x hx => by have := S1 x hx; omega
  have K1 := mo_sh_K K S0 (m := z 23) (p := mo_g ar e 1) (k := mo_g ar e 2 + 1) (y := -1) (by omega)
  have K2 := mo_pt_K K1 (x := e) (y := 1) (v := -2) (by omega)
  have g1 := mo_g_r ar e 1
  refine pm_Fv.go 1 (f' := (123, 1, [(0, _), (1, _), (2, _), (3, _)], [_])) rfl ?_
  refine pm_Fv.cvF rfl rfl rfl rfl (by decide) (Nat.le_of_ble_eq_true rfl) (Nat.le_of_ble_eq_true rfl) H.m199 H.o199 (ev_beg L xs H h) (fun s1 q1 => ?_)
  obtain ⟨H1, r1⟩ := q1
  refine pm_Fv.go 4 (f' := (123, 8, [(0, _), (1, _), (2, _), (3, _)], [_, _, _, _])) rfl ?_
  refine pm_Fv.cv rfl rfl rfl rfl (by decide) (Nat.le_of_ble_eq_true rfl) (Nat.le_of_ble_eq_true rfl) H1.m199 H1.o199 (ev_gw L xs H1 hl K (by omega)) ?_
  refine pm_Fv.go 3 (f' := (123, 14, [(0, _), (1, _), (2, _), (3, _)], [_, _, _, _, _])) rfl ?_
  refine pm_Fv.cv rfl rfl rfl rfl (by decide) (Nat.le_of_ble_eq_true rfl) (Nat.le_of_ble_eq_true rfl) H1.m199 H1.o199 (ev_gw L xs H1 hl K (by omega)) ?_
  refine pm_Fv.go 1 (f' := (123, 18, [(0, _), (1, _), (2, _), (3, _)], [_, _, _, _])) rfl ?_
  refine pm_Fv.iadd rfl ?_
  refine pm_Fv.go 1 (f' := (123, 20, [(0, _), (1, _), (2, _), (3, _)], [_, _, _, _])) rfl ?_
  refine pm_Fv.cvF rfl rfl rfl rfl (by decide) (Nat.le_of_ble_eq_true rfl) (Nat.le_of_ble_eq_true rfl) H1.m199 H1.o199 (ev_shift L xs H1 hl hm K S0 g1 (by omega) (by omega)) (fun s2 q2 => ?_)
  obtain ⟨H2, r2⟩ := q2
  refine pm_Fv.go 3 (f' := (123, 26, [(0, _), (1, _), (2, _), (3, _)], [_, _, _])) rfl ?_
  refine pm_Fv.bp rfl rfl ?_
  refine pm_Fv.cvF rfl rfl rfl rfl (by decide) (Nat.le_of_ble_eq_true rfl) (Nat.le_of_ble_eq_true rfl) H2.m199 H2.o199 (ev_pw L xs H2 hl (by omega)) (fun s3 q3 => ?_)
  obtain ⟨H3, r3⟩ := q3
  refine pm_Fv.go 4 (f' := (123, 35, [(0, _), (1, _), (2, _), (3, _)], [_, _, _, _])) rfl ?_
  refine pm_Fv.cvF rfl rfl rfl rfl (by decide) (Nat.le_of_ble_eq_true rfl) (Nat.le_of_ble_eq_true rfl) H3.m199 H3.o199 (ev_shift L xs H3 hl hm K2 (mo_pt_L L1) hp hk (by omega)) (fun s4 q4 => ?_)
  obtain ⟨H4, r4⟩ := q4
  refine pm_Fv.go 4 (f' := (123, 42, [(0, _), (1, _), (2, _), (3, _)], [_, _, _, _])) rfl ?_
  refine pm_Fv.cvF rfl rfl rfl rfl (by decide) (Nat.le_of_ble_eq_true rfl) (Nat.le_of_ble_eq_true rfl) H4.m199 H4.o199 (ev_pw L xs H4 hl (by omega)) (fun s5 q5 => ?_)
  obtain ⟨H5, r5⟩ := q5
  refine pm_Fv.go 4 (f' := (123, 49, [(0, _), (1, _), (2, _), (3, _)], [_, _, _, _])) rfl ?_
  refine pm_Fv.cvF rfl rfl rfl rfl (by decide) (Nat.le_of_ble_eq_true rfl) (Nat.le_of_ble_eq_true rfl) H5.m199 H5.o199 (ev_pw L xs H5 hl (by omega)) (fun s6 q6 => ?_)
  obtain ⟨H6, r6⟩ := q6
  refine pm_Fv.go 1 (f' := (123, 53, [(0, _), (1, _), (2, _), (3, _)], [_])) rfl ?_
  refine pm_Fv.cvF rfl rfl rfl rfl (by decide) (Nat.le_of_ble_eq_true rfl) (Nat.le_of_ble_eq_true rfl) H6.m199 H6.o199 (ev_dne L xs H6 h) (fun s7 q7 => ?_)
  obtain ⟨H7, r7⟩ := q7
  exact pm_Fv.ret rfl rfl rfl rfl ⟨rfl, H7, (r7.trans (r6.trans (r5.trans (r4.trans (r3.trans (r2.trans r1))))))⟩
def mo_zr (g : Int → Int → Int) (x j : Int) (e f : Int) : Int := if e = x ∧ 0 ≤ f ∧ f < j then 0 else g e f
theorem mo_zr_0 (g : Int → Int → Int) (x : Int) : mo_zr g x 0 = g := by
  funext e f
  exact if_neg (by omega)
theorem mo_zr_s (g : Int → Int → Int) {x j : Int} (h : 0 ≤ j) : mo_pt (mo_zr g x j) x j 0 = mo_zr g x (j + 1) := by
  funext e f
  unfold mo_pt mo_zr
  by_cases a : e = x ∧ f = j
  · rw [if_pos a, if_pos (by omega)]
  · rw [if_neg a]
    by_cases b : e = x ∧ 0 ≤ f ∧ f < j
    · rw [if_pos b, if_pos (by omega)]
    · rw [if_neg b, if_neg (by omega)]
def mo_in (g : Int → Int → Int) (m p k t : Int) : Int → Int → Int := mo_pt (mo_pt (mo_pt (mo_pt (mo_pt (mo_pt (mo_zr (mo_sh g m p k 1) m 14) m 0 1) m 1 p) m 2 k) m 3 t) m 8 (-1)) m 9 (-1)
theorem ev_minsL (hl : (ar 200).1 = 5600) {g : Int → Int → Int} {m p k t : Int} (hm : 0 ≤ m ∧ m < 400) {Q : pm_O → pm_S → Prop} (kk : ∀ s, Hp s ad z (mo_w ar (mo_zr g m 14)) lr → s.2 = σ.2 → pm_Fv (tq_P L xs) (120, 149, [(4, .int (zI m)), (0, .ref 199), (1, .int (zI p)), (2, .int (zI k)), (3, .int (zI t))], []) s Q) : ∀ (n : Nat) (j : Int) (s : pm_S), Hp s ad z (mo_w ar (mo_zr g m j)) lr → s.2 = σ.2 → 0 ≤ j → j + n = 14 → pm_Fv (tq_P L xs) (120, 127, [(5, .int (zI j)), (4, .int (zI m)), (0, .ref 199), (1, .int (zI p)), (2, .int (zI k)), (3, .int (zI t))], []) s Q := by
  intro n
  induction n with
  | zero =>
    intro j s H r j0 jn
    have e : j = 14 := by omega
    subst e
    refine pm_Fv.go 1 (f' := (120, 129, [(5, _), (4, _), (0, _), (1, _), (2, _), (3, _)], [_])) rfl ?_
    refine pm_Fv.bp rfl rfl ?_
    refine pm_Fv.jge rfl (by omega) rfl (fun h1 => ?_) (fun h1 => ?_)
    · exact pm_Fv.weak (kk s H r) rfl
    · exact absurd h1 (by omega)
  | succ n ih =>
    intro j s H r j0 jn
    refine pm_Fv.go 1 (f' := (120, 129, [(5, _), (4, _), (0, _), (1, _), (2, _), (3, _)], [_])) rfl ?_
    refine pm_Fv.bp rfl rfl ?_
    refine pm_Fv.jge rfl (by omega) rfl (fun h1 => ?_) (fun h1 => ?_)
    · exact absurd h1 (by omega)
    · refine pm_Fv.go 4 (f' := (120, 140, [(5, _), (4, _), (0, _), (1, _), (2, _), (3, _)], [_, _, _, _])) rfl ?_
      refine pm_Fv.cvF rfl rfl rfl rfl (by decide) (Nat.le_of_ble_eq_true rfl) (Nat.le_of_ble_eq_true rfl) H.m199 H.o199 (ev_pw L xs H hl (by omega)) (fun s1 q1 => ?_)
      obtain ⟨H1, r1⟩ := q1
      refine pm_Fv.inc rfl rfl (Nat.le_of_ble_eq_true rfl) ?_
      refine pm_Fv.go 1 (f' := (120, 127, [(5, _), (4, _), (0, _), (1, _), (2, _), (3, _)], [])) rfl ?_
      rw [mo_zr_s g j0] at H1
      exact pm_Fv.weak (ih (j + 1) s1 H1 (r1.trans r) (by omega) (by omega)) rfl
theorem mo_R.pl {n : Int} {I D : Int → Int} (M : mo_R (mo_g ar) (z 23) n I D) {p : Int} (p0 : 0 ≤ p) (p1 : p < n) : 0 ≤ mo_g ar (I p) 2 ∧ mo_g ar (I p) 2 ≤ 400 := by
  have P := fo_par_P M.W p0 p1
  have c0 := fo_c_nn D (D p) (fo_par D p + 1) p
  have c1 := fo_c_le (D := D) (v := D p) (a := fo_par D p + 1) (b := p) (by have := P.2.1; omega)
  have nm := M.nm
  have m4 := M.m4
  have := P.1
  rw [(M.R p p0 p1).2]
  unfold fo_pl
  omega
theorem ev_minsT (H : Hp σ ad z ar lr) (h : mo_H z ar) (hm : 0 ≤ z 23 ∧ z 23 < 400) (S : ∀ e, mo_g ar e 0 = 1 → -1000 ≤ mo_g ar e 2 ∧ mo_g ar e 2 ≤ 1000) {p k t : Int} (hp : -2147483648 ≤ p ∧ p ≤ 2147483647) (hk : -2147483648 ≤ k ∧ k ≤ 2147483647) : pm_Fv (tq_P L xs) (120, 97, [(0, .ref 199), (1, .int (zI p)), (2, .int (zI k)), (3, .int (zI t))], []) σ (fun o s => o = .inl (some (.int (zI (z 23)))) ∧ (∃ z' ar', mo_ed (hq_u z 23 (z 23 + 1)) ar (mo_in (mo_g ar) (z 23) p k t) z' ar' ∧ Hp s ad z' ar' lr) ∧ s.2 = σ.2) := by
  have hl : (mo_bg ar 200).1 = 5600 := h.l0
  have K := mo_g_K ar
  have S0 : mo_L (mo_g ar) := fun x hx => by have := S x hx; omega
  refine pm_Fv.go 1 (f' := (120, 98, [(0, _), (1, _), (2, _), (3, _)], [_])) rfl ?_
  refine pm_Fv.cvF rfl rfl rfl rfl (by decide) (Nat.le_of_ble_eq_true rfl) (Nat.le_of_ble_eq_true rfl) H.m199 H.o199 (ev_beg L xs H h) (fun s1 q1 => ?_)
  obtain ⟨H1, r1⟩ := q1
  refine pm_Fv.go 4 (f' := (120, 105, [(0, _), (1, _), (2, _), (3, _)], [_, _, _, _])) rfl ?_
  refine pm_Fv.cvF rfl rfl rfl rfl (by decide) (Nat.le_of_ble_eq_true rfl) (Nat.le_of_ble_eq_true rfl) H1.m199 H1.o199 (ev_shift L xs H1 hl (by omega) K S0 hp hk (by omega)) (fun s2 q2 => ?_)
  obtain ⟨H2, r2⟩ := q2
  refine pm_Fv.go 1 (f' := (120, 109, [(0, _), (1, _), (2, _), (3, _)], [_])) rfl ?_
  refine pm_Fv.gf rfl rfl H2.m199 H2.o199 rfl ?_
  refine pm_Fv.go 3 (f' := (120, 116, [(4, _), (0, _), (1, _), (2, _), (3, _)], [_, _])) rfl ?_
  refine pm_Fv.gf rfl rfl H2.m199 H2.o199 rfl ?_
  refine pm_Fv.go 1 (f' := (120, 120, [(4, _), (0, _), (1, _), (2, _), (3, _)], [_, _, _])) rfl ?_
  refine pm_Fv.iadd rfl ?_
  refine pm_Fv.pz H2 23 rfl rfl rfl (by decide) rfl rfl (Nat.le_of_ble_eq_true rfl) rfl (by decide) rfl (fun s3 H3 r3 => ?_)
  refine pm_Fv.go 2 (f' := (120, 127, [(5, _), (4, _), (0, _), (1, _), (2, _), (3, _)], [])) rfl ?_
  refine ev_minsL (σ := σ) L xs hl hm (fun sa Ha ra => ?_) 14 0 s3 (by rw [mo_zr_0]; exact H3) (r3.trans (r2.trans r1)) (by omega) (by omega)
  refine pm_Fv.go 4 (f' := (120, 154, [(4, _), (0, _), (1, _), (2, _), (3, _)], [_, _, _, _])) rfl ?_
  refine pm_Fv.cvF rfl rfl rfl rfl (by decide) (Nat.le_of_ble_eq_true rfl) (Nat.le_of_ble_eq_true rfl) Ha.m199 Ha.o199 (ev_pw L xs Ha hl (by omega)) (fun s1 q1 => ?_)
  obtain ⟨H1, r1⟩ := q1
  refine pm_Fv.go 4 (f' := (120, 162, [(4, _), (0, _), (1, _), (2, _), (3, _)], [_, _, _, _])) rfl ?_
  refine pm_Fv.cvF rfl rfl rfl rfl (by decide) (Nat.le_of_ble_eq_true rfl) (Nat.le_of_ble_eq_true rfl) H1.m199 H1.o199 (ev_pw L xs H1 hl (by omega)) (fun s2 q2 => ?_)
  obtain ⟨H2, r2⟩ := q2
  refine pm_Fv.go 4 (f' := (120, 170, [(4, _), (0, _), (1, _), (2, _), (3, _)], [_, _, _, _])) rfl ?_
  refine pm_Fv.cvF rfl rfl rfl rfl (by decide) (Nat.le_of_ble_eq_true rfl) (Nat.le_of_ble_eq_true rfl) H2.m199 H2.o199 (ev_pw L xs H2 hl (by omega)) (fun s3 q3 => ?_)
  obtain ⟨H3, r3⟩ := q3
  refine pm_Fv.go 4 (f' := (120, 178, [(4, _), (0, _), (1, _), (2, _), (3, _)], [_, _, _, _])) rfl ?_
  refine pm_Fv.cvF rfl rfl rfl rfl (by decide) (Nat.le_of_ble_eq_true rfl) (Nat.le_of_ble_eq_true rfl) H3.m199 H3.o199 (ev_pw L xs H3 hl (by omega)) (fun s4 q4 => ?_)
  obtain ⟨H4, r4⟩ := q4
  refine pm_Fv.go 2 (f' := (120, 184, [(4, _), (0, _), (1, _), (2, _), (3, _)], [_, _])) rfl ?_
  refine pm_Fv.bp rfl rfl ?_
  refine pm_Fv.go 1 (f' := (120, 187, [(4, _), (0, _), (1, _), (2, _), (3, _)], [_, _, _, _])) rfl ?_
  refine pm_Fv.cvF rfl rfl rfl rfl (by decide) (Nat.le_of_ble_eq_true rfl) (Nat.le_of_ble_eq_true rfl) H4.m199 H4.o199 (ev_pw L xs H4 hl (by omega)) (fun s5 q5 => ?_)
  obtain ⟨H5, r5⟩ := q5
  refine pm_Fv.go 2 (f' := (120, 193, [(4, _), (0, _), (1, _), (2, _), (3, _)], [_, _])) rfl ?_
  refine pm_Fv.bp rfl rfl ?_
  refine pm_Fv.go 1 (f' := (120, 196, [(4, _), (0, _), (1, _), (2, _), (3, _)], [_, _, _, _])) rfl ?_
  refine pm_Fv.cvF rfl rfl rfl rfl (by decide) (Nat.le_of_ble_eq_true rfl) (Nat.le_of_ble_eq_true rfl) H5.m199 H5.o199 (ev_pw L xs H5 hl (by omega)) (fun s6 q6 => ?_)
  obtain ⟨H6, r6⟩ := q6
  refine pm_Fv.go 1 (f' := (120, 200, [(4, _), (0, _), (1, _), (2, _), (3, _)], [_])) rfl ?_
  refine pm_Fv.cvF rfl rfl rfl rfl (by decide) (Nat.le_of_ble_eq_true rfl) (Nat.le_of_ble_eq_true rfl) H6.m199 H6.o199 (ev_dne L xs H6 (z := hq_u z 23 (z 23 + 1)) h) (fun s7 q7 => ?_)
  obtain ⟨H7, r7⟩ := q7
  refine pm_Fv.go 1 (f' := (120, 205, [(4, _), (0, _), (1, _), (2, _), (3, _)], [_])) rfl ?_
  exact pm_Fv.rv rfl rfl ⟨rfl, H7, (r7.trans (r6.trans (r5.trans (r4.trans (r3.trans (r2.trans (r1.trans ra)))))))⟩
end MS
