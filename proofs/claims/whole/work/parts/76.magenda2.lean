/-! the reference: agenda, the loops -/
def mo_ag (σ : pm_S) (ad : Nat → Nat) (z : Nat → Int) (ar : Nat → Nat × (Nat → Int32)) (lr : Nat → Nat × (Nat → Int64)) (n : Int) (I : Int → Int) (a b : Int) (u : Nat) : Prop := ∃ E Y T s : Int → Int, Hp σ ad (hq_u (hq_u z 27 n) 28 (fd_c (ag_q (fun p => mo_g ar (I p) 4) (fun p v => mo_g ar (I p) (8 + v)) (z 26) a b) u)) (mo_f3 (mo_or ar I n) E Y T) lr ∧ so_S (fd_c (ag_q (fun p => mo_g ar (I p) 4) (fun p v => mo_g ar (I p) (8 + v)) (z 26) a b) u) (fd_a (ag_q (fun p => mo_g ar (I p) 4) (fun p v => mo_g ar (I p) (8 + v)) (z 26) a b) (ag_k (fun p => mo_g ar (I p) 5) (fun p v => mo_g ar (I p) (8 + v)) (z 26)) (fun _ => 0) u) s ∧ ∀ i, 0 ≤ i → i < fd_c (ag_q (fun p => mo_g ar (I p) 4) (fun p v => mo_g ar (I p) (8 + v)) (z 26) a b) u → E i = I (s i % 400) ∧ Y i = s i / 1600 / 2 ∧ T i = 1 - s i / 1600 % 2
section MS
variable (L : Nat) (xs : Nat → Int32)
variable {σ : pm_S} {ad : Nat → Nat} {z : Nat → Int} {ar : Nat → Nat × (Nat → Int32)} {lr : Nat → Nat × (Nat → Int64)}
theorem ag_s_r {t : Int} {Dy : Int → Int → Int} {u : Int} (ht : 0 ≤ t ∧ t ≤ 3652058) (hd : -1 ≤ ag_d Dy u ∧ ag_d Dy u ≤ 3652058) : 0 ≤ ag_s t Dy u ∧ ag_s t Dy u ≤ 3652058 := by
  unfold ag_s
  split <;> omega
theorem ag_dec {y w r k S : Int} (hS : S = ((y * 2 + (1 - w)) * 4 + (3 - r)) * 400 + k) (hw : 0 ≤ w ∧ w ≤ 1) (hr : 0 ≤ r ∧ r ≤ 3) (hk : 0 ≤ k ∧ k < 400) (hy : 0 ≤ y) : S % 400 = k ∧ S / 1600 / 2 = y ∧ 1 - S / 1600 % 2 = w := by
  have e : S / 1600 = y * 2 + (1 - w) := by omega
  rw [e]
  omega
theorem mo_ag_no {n : Int} {I : Int → Int} {a b : Int} {u : Nat} (A : mo_ag σ ad z ar lr n I a b u) (q0 : (ag_q (fun p => mo_g ar (I p) 4) (fun p v => mo_g ar (I p) (8 + v)) (z 26) a b) u ≠ 1) : mo_ag σ ad z ar lr n I a b (u + 1) := by
  obtain ⟨E, Y, T, s, H, S, d⟩ := A
  have kc : ((u + 1 : Nat) : Int) = (u : Int) + 1 := by omega
  have e1 : fd_c (ag_q (fun p => mo_g ar (I p) 4) (fun p v => mo_g ar (I p) (8 + v)) (z 26) a b) ((u + 1 : Nat) : Int) = fd_c (ag_q (fun p => mo_g ar (I p) 4) (fun p v => mo_g ar (I p) (8 + v)) (z 26) a b) u := by rw [kc, fd_c_s _ (by omega), if_neg q0, Int.add_zero]
  have e2 : fd_a (ag_q (fun p => mo_g ar (I p) 4) (fun p v => mo_g ar (I p) (8 + v)) (z 26) a b) (ag_k (fun p => mo_g ar (I p) 5) (fun p v => mo_g ar (I p) (8 + v)) (z 26)) (fun _ => 0) (u + 1) = fd_a (ag_q (fun p => mo_g ar (I p) 4) (fun p v => mo_g ar (I p) (8 + v)) (z 26) a b) (ag_k (fun p => mo_g ar (I p) 5) (fun p v => mo_g ar (I p) (8 + v)) (z 26)) (fun _ => 0) u := by rw [fd_a, if_neg q0]
  refine ⟨E, Y, T, s, ?_, ?_, ?_⟩
  · rw [e1]
    exact H
  · rw [e1, e2]
    exact S
  · rw [e1]
    exact d
theorem ev_magS (h : mo_H z ar) {n : Int} {I D : Int → Int} (M : mo_R (mo_g ar) (z 23) n I D) {a b : Int} (ha : -2147483648 ≤ a ∧ a ≤ 2147483647) (hb : -2147483648 ≤ b ∧ b ≤ 2147483647) (ht : 0 ≤ z 26 ∧ z 26 ≤ 3652058) (hr : ∀ x, 0 ≤ x → x < n → 0 ≤ mo_g ar (I x) 5 ∧ mo_g ar (I x) 5 ≤ 3) (hdy : ∀ x v, 0 ≤ x → x < n → 0 ≤ v → v ≤ 1 → -1 ≤ mo_g ar (I x) (8 + v) ∧ mo_g ar (I x) (8 + v) ≤ 3652058) {Q : pm_O → pm_S → Prop} {k v : Nat} (kn : (k : Int) < n) (hv : v ≤ 1) (s3 : mo_g ar (I k) 4 < 3) (A : mo_ag σ ad z ar lr n I a b (2 * k + v)) (kk : ∀ s, mo_ag s ad z ar lr n I a b (2 * k + v + 1) → s.2 = σ.2 → pm_Fv (tq_P L xs) (153, 35, [(5, .int (zI ((v : Int) + 1))), (4, .int (zI (I k))), (3, .int (zI k)), (0, .ref 199), (1, .int (zI a)), (2, .int (zI b))], []) s Q) : pm_Fv (tq_P L xs) (153, 35, [(5, .int (zI (v : Int))), (4, .int (zI (I k))), (3, .int (zI k)), (0, .ref 199), (1, .int (zI a)), (2, .int (zI b))], []) σ Q := by
  have nm := M.nm
  have m4 := M.m4
  have i0 := M.J.1 k (by omega) kn
  have i1 := M.lt k (by omega) kn
  have u1 : ((2 * k + v : Nat) : Int) / 2 = k := by omega
  have u2 : ((2 * k + v : Nat) : Int) % 2 = v := by omega
  have dr := hdy k v (by omega) kn (by omega) (by omega)
  have rr := hr k (by omega) kn
  have g4r := mo_g_r ar (I k) 4
  have ed : ag_d (fun p v => mo_g ar (I p) (8 + v)) ((2 * k + v : Nat) : Int) = mo_g ar (I k) (8 + v) := by
    unfold ag_d
    rw [u1, u2]
  have es : ag_s (z 26) (fun p v => mo_g ar (I p) (8 + v)) ((2 * k + v : Nat) : Int) = if mo_g ar (I k) (8 + v) < z 26 then z 26 else mo_g ar (I k) (8 + v) := by
    unfold ag_s
    rw [ed]
  have sr := ag_s_r (u := ((2 * k + v : Nat) : Int)) ht (by rw [ed]; exact dr : -1 ≤ ag_d (fun p v => mo_g ar (I p) (8 + v)) ((2 * k + v : Nat) : Int) ∧ ag_d (fun p v => mo_g ar (I p) (8 + v)) ((2 * k + v : Nat) : Int) ≤ 3652058)
  have eq : (ag_q (fun p => mo_g ar (I p) 4) (fun p v => mo_g ar (I p) (8 + v)) (z 26) a b) ((2 * k + v : Nat) : Int) = if mo_g ar (I k) 4 < 3 ∧ mo_g ar (I k) (8 + v) ≠ -1 ∧ a ≤ ag_s (z 26) (fun p v => mo_g ar (I p) (8 + v)) ((2 * k + v : Nat) : Int) ∧ ag_s (z 26) (fun p v => mo_g ar (I p) (8 + v)) ((2 * k + v : Nat) : Int) ≤ b then 1 else 0 := by
    unfold ag_q
    rw [ed, u1]
  have A0 := A
  obtain ⟨E, Y, T, s, H, S, d⟩ := A
  have G4 : pm_Ev (tq_P L xs) (pm_enter 98 [.ref 199, .int (zI (I k)), .int (zI 4)]) σ (.inl (some (.int (zI (mo_g ar (I k) 4)))), σ) := ev_g L xs H (show (ar 200).1 = 5600 from h.l0) (by omega)
  have G8 : pm_Ev (tq_P L xs) (pm_enter 98 [.ref 199, .int (zI (I k)), .int (zI (8 + v))]) σ (.inl (some (.int (zI (mo_g ar (I k) (8 + v))))), σ) := ev_g L xs H (show (ar 200).1 = 5600 from h.l0) (by omega)
  by_cases c1 : mo_g ar (I k) (8 + v) = -1
  · have A1 := mo_ag_no A0 (by rw [eq, if_neg (fun q => q.2.1 c1)]; decide)
    refine pm_Fv.go 2 (f' := (153, 38, [(5, _), (4, _), (3, _), (0, _), (1, _), (2, _)], [_, _])) rfl ?_
    refine pm_Fv.jge rfl (by omega) rfl (fun h1 => ?_) (fun h1 => ?_)
    · exact absurd h1 (by omega)
    · refine pm_Fv.go 3 (f' := (153, 45, [(5, _), (4, _), (3, _), (0, _), (1, _), (2, _)], [_, _, _])) rfl ?_
      refine pm_Fv.cv rfl rfl rfl rfl (by decide) (Nat.le_of_ble_eq_true rfl) (Nat.le_of_ble_eq_true rfl) H.m199 H.o199 (G4) ?_
      refine pm_Fv.go 1 (f' := (153, 49, [(5, _), (4, _), (3, _), (0, _), (1, _), (2, _)], [_, _])) rfl ?_
      refine pm_Fv.jge rfl (by omega) rfl (fun h2 => ?_) (fun h2 => ?_)
      · exact absurd h2 (by omega)
      · refine pm_Fv.go 2 (f' := (153, 55, [(5, _), (4, _), (3, _), (0, _), (1, _), (2, _)], [_, _])) rfl ?_
        refine pm_Fv.bp rfl rfl ?_
        refine pm_Fv.go 1 (f' := (153, 59, [(5, _), (4, _), (3, _), (0, _), (1, _), (2, _)], [_, _, _, _])) rfl ?_
        refine pm_Fv.iadd rfl ?_
        refine pm_Fv.cv rfl rfl rfl rfl (by decide) (Nat.le_of_ble_eq_true rfl) (Nat.le_of_ble_eq_true rfl) H.m199 H.o199 (G8) ?_
        refine pm_Fv.go 3 (f' := (153, 68, [(6, _), (5, _), (4, _), (3, _), (0, _), (1, _), (2, _)], [_, _])) rfl ?_
        refine pm_Fv.jne rfl (by omega) rfl (fun h3 => ?_) (fun h3 => ?_)
        · exact absurd h3 (by omega)
        · refine pm_Fv.go 1 (f' := (153, 116, [(6, _), (5, _), (4, _), (3, _), (0, _), (1, _), (2, _)], [])) rfl ?_
          refine pm_Fv.inc rfl rfl (Nat.le_of_ble_eq_true rfl) ?_
          refine pm_Fv.go 1 (f' := (153, 35, [(5, _), (6, _), (4, _), (3, _), (0, _), (1, _), (2, _)], [])) rfl ?_
          exact pm_Fv.weak (kk σ A1 rfl) rfl
  · by_cases c4 : mo_g ar (I k) (8 + v) < z 26
    · rw [if_pos c4] at es
      rw [es] at eq sr
      by_cases c2 : a ≤ z 26
      · by_cases c3 : z 26 ≤ b
        · have q1 : (ag_q (fun p => mo_g ar (I p) 4) (fun p v => mo_g ar (I p) (8 + v)) (z 26) a b) ((2 * k + v : Nat) : Int) = 1 := by rw [eq, if_pos ⟨s3, c1, c2, c3⟩]
          have cr := fd_c_r (ag_q (fun p => mo_g ar (I p) 4) (fun p v => mo_g ar (I p) (8 + v)) (z 26) a b) (k := ((2 * k + v : Nat) : Int)) (by omega)
          have kd : (ag_k (fun p => mo_g ar (I p) 5) (fun p v => mo_g ar (I p) (8 + v)) (z 26)) ((2 * k + v : Nat) : Int) = ((z 26 * 2 + (1 - (v : Int))) * 4 + (3 - mo_g ar (I k) 5)) * 400 + k := by
            unfold ag_k
            rw [es, u1, u2]
          have hd : ∀ i, 0 ≤ i → i < fd_c (ag_q (fun p => mo_g ar (I p) 4) (fun p v => mo_g ar (I p) (8 + v)) (z 26) a b) ((2 * k + v : Nat) : Int) → ∃ k2 y2 w2, 0 ≤ k2 ∧ k2 < n ∧ 0 ≤ y2 ∧ y2 ≤ 3652058 ∧ 0 ≤ w2 ∧ w2 ≤ 1 ∧ E i = I k2 ∧ Y i = y2 ∧ T i = w2 ∧ s i = ((y2 * 2 + (1 - w2)) * 4 + (3 - mo_g ar (I k2) 5)) * 400 + k2 ∧ (k2 < (k : Int) ∨ (k2 = (k : Int) ∧ w2 < (v : Int))) := by
            intro i i0 i1
            obtain ⟨j, j0, j1, j2⟩ := S.2.1 i i0 i1
            obtain ⟨x, x0, x1, x2, x3⟩ := fd_a_ex (ag_q (fun p => mo_g ar (I p) 4) (fun p v => mo_g ar (I p) (8 + v)) (z 26) a b) (ag_k (fun p => mo_g ar (I p) 5) (fun p v => mo_g ar (I p) (8 + v)) (z 26)) (fun _ => 0) (2 * k + v) j j0 j1
            have sx : s i = (ag_k (fun p => mo_g ar (I p) 5) (fun p v => mo_g ar (I p) (8 + v)) (z 26)) x := j2.trans x3
            have rx := hr (x / 2) (by omega) (by omega)
            have dx := hdy (x / 2) (x % 2) (by omega) (by omega) (by omega) (by omega)
            have yx := ag_s_r (t := z 26) (Dy := (fun p v => mo_g ar (I p) (8 + v))) (u := x) ht dx
            have kx : (ag_k (fun p => mo_g ar (I p) 5) (fun p v => mo_g ar (I p) (8 + v)) (z 26)) x = ((ag_s (z 26) (fun p v => mo_g ar (I p) (8 + v)) x * 2 + (1 - x % 2)) * 4 + (3 - mo_g ar (I (x / 2)) 5)) * 400 + x / 2 := rfl
            have dd := d i i0 i1
            have dc := ag_dec (sx.trans kx) (by omega) rx (by omega) yx.1
            refine ⟨x / 2, ag_s (z 26) (fun p v => mo_g ar (I p) (8 + v)) x, x % 2, by omega, by omega, yx.1, yx.2, by omega, by omega, ?_, ?_, ?_, sx.trans kx, by omega⟩
            · rw [dd.1, dc.1]
            · rw [dd.2.1, dc.2.1]
            · rw [dd.2.2, dc.2.2]
          obtain ⟨p, p0, p1, p2, p3⟩ := so_pt (v := (ag_k (fun p => mo_g ar (I p) 5) (fun p v => mo_g ar (I p) (8 + v)) (z 26)) ((2 * k + v : Nat) : Int)) S cr.1 (fun i i0 i1 => by
            obtain ⟨k2, y2, w2, a1, a2, a3, a4, a5, a6, a7, a8, a9, b1, b2⟩ := hd i i0 i1
            have r2 := hr k2 a1 a2
            rw [b1, kd]
            omega)
          have kc : ((2 * k + v + 1 : Nat) : Int) = ((2 * k + v : Nat) : Int) + 1 := by omega
          have AD : pm_Fv (tq_P L xs) (pm_enter 152 [.ref 199, .int (zI (I k)), .int (zI (z 26)), .int (zI (v : Int))]) σ (fun o t => o = .inl none ∧ mo_ag t ad z ar lr n I a b (2 * k + v + 1) ∧ t.2 = σ.2) := by
            show pm_Fv (tq_P L xs) (152, 0, [(0, .ref 199), (1, .int (zI (I k))), (2, .int (zI (z 26))), (3, .int (zI (v : Int)))], []) σ _
            refine pm_Fv.go 1 (f' := (152, 1, [(0, _), (1, _), (2, _), (3, _)], [_])) rfl ?_
            refine pm_Fv.gf rfl rfl H.m199 H.o199 rfl ?_
            rw [hq_u_at]
            refine pm_Fv.go 1 (f' := (152, 6, [(4, _), (0, _), (1, _), (2, _), (3, _)], [])) rfl ?_
            refine (ev_maddL L xs (show mo_H (hq_u z 27 n) (mo_or ar I n) from h) (I := I) (E := E) (Y := Y) (T := T) (s := s) (c := fd_c (ag_q (fun p => mo_g ar (I p) 4) (fun p v => mo_g ar (I p) (8 + v)) (z 26) a b) ((2 * k + v : Nat) : Int)) (k := k) (y := z 26) (w := v) (p := p) (n := n) (fun x x0 x1 => ⟨M.J.1 x x0 x1, by have := M.lt x x0 x1; omega, hr x x0 x1⟩) (by omega) (by omega) (by omega) sr (by omega) p0 p1 (fun i i0 i1 => by have := p2 i i0 i1; rw [kd] at this; exact this) (fun i i0 i1 => by have := p3 i i0 i1; rw [kd] at this; exact this) hd (fd_c (ag_q (fun p => mo_g ar (I p) 4) (fun p v => mo_g ar (I p) (8 + v)) (z 26) a b) ((2 * k + v : Nat) : Int) - p).toNat (fd_c (ag_q (fun p => mo_g ar (I p) 4) (fun p v => mo_g ar (I p) (8 + v)) (z 26) a b) ((2 * k + v : Nat) : Int)) σ (by omega) (by omega) (by rw [so_sh_c, so_sh_c, so_sh_c]; exact H)).mono (fun o t q => ⟨q.1, ?_, q.2.2⟩)
            refine ⟨so_in E p (fd_c (ag_q (fun p => mo_g ar (I p) 4) (fun p v => mo_g ar (I p) (8 + v)) (z 26) a b) ((2 * k + v : Nat) : Int)) (I k), so_in Y p (fd_c (ag_q (fun p => mo_g ar (I p) 4) (fun p v => mo_g ar (I p) (8 + v)) (z 26) a b) ((2 * k + v : Nat) : Int)) (z 26), so_in T p (fd_c (ag_q (fun p => mo_g ar (I p) 4) (fun p v => mo_g ar (I p) (8 + v)) (z 26) a b) ((2 * k + v : Nat) : Int)) v, so_in s p (fd_c (ag_q (fun p => mo_g ar (I p) 4) (fun p v => mo_g ar (I p) (8 + v)) (z 26) a b) ((2 * k + v : Nat) : Int)) ((ag_k (fun p => mo_g ar (I p) 5) (fun p v => mo_g ar (I p) (8 + v)) (z 26)) ((2 * k + v : Nat) : Int)), ?_, ?_, ?_⟩
            · rw [kc, fd_c_s _ (by omega), if_pos q1]
              exact q.2.1
            · rw [kc, fd_c_s _ (by omega), if_pos q1, fd_a, if_pos q1]
              exact so_S_in S cr.1 p0 p1 p2 p3
            · intro i i0 i1
              rw [kc, fd_c_s _ (by omega), if_pos q1] at i1
              by_cases x1 : i < p
              · rw [so_in_lt x1, so_in_lt x1, so_in_lt x1, so_in_lt x1]
                exact d i i0 (by omega)
              · by_cases x2 : i = p
                · rw [x2, so_in_at, so_in_at, so_in_at, so_in_at, kd]
                  have dc := ag_dec (S := ((z 26 * 2 + (1 - (v : Int))) * 4 + (3 - mo_g ar (I k) 5)) * 400 + k) rfl (by omega) rr (by omega) sr.1
                  rw [dc.1, dc.2.1, dc.2.2]
                  exact ⟨rfl, rfl, rfl⟩
                · rw [so_in_gt (by omega) (by omega), so_in_gt (by omega) (by omega), so_in_gt (by omega) (by omega), so_in_gt (by omega) (by omega)]
                  exact d (i - 1) (by omega) (by omega)
          refine pm_Fv.go 2 (f' := (153, 38, [(5, _), (4, _), (3, _), (0, _), (1, _), (2, _)], [_, _])) rfl ?_
          refine pm_Fv.jge rfl (by omega) rfl (fun h1 => ?_) (fun h1 => ?_)
          · exact absurd h1 (by omega)
          · refine pm_Fv.go 3 (f' := (153, 45, [(5, _), (4, _), (3, _), (0, _), (1, _), (2, _)], [_, _, _])) rfl ?_
            refine pm_Fv.cv rfl rfl rfl rfl (by decide) (Nat.le_of_ble_eq_true rfl) (Nat.le_of_ble_eq_true rfl) H.m199 H.o199 (G4) ?_
            refine pm_Fv.go 1 (f' := (153, 49, [(5, _), (4, _), (3, _), (0, _), (1, _), (2, _)], [_, _])) rfl ?_
            refine pm_Fv.jge rfl (by omega) rfl (fun h2 => ?_) (fun h2 => ?_)
            · exact absurd h2 (by omega)
            · refine pm_Fv.go 2 (f' := (153, 55, [(5, _), (4, _), (3, _), (0, _), (1, _), (2, _)], [_, _])) rfl ?_
              refine pm_Fv.bp rfl rfl ?_
              refine pm_Fv.go 1 (f' := (153, 59, [(5, _), (4, _), (3, _), (0, _), (1, _), (2, _)], [_, _, _, _])) rfl ?_
              refine pm_Fv.iadd rfl ?_
              refine pm_Fv.cv rfl rfl rfl rfl (by decide) (Nat.le_of_ble_eq_true rfl) (Nat.le_of_ble_eq_true rfl) H.m199 H.o199 (G8) ?_
              refine pm_Fv.go 3 (f' := (153, 68, [(6, _), (5, _), (4, _), (3, _), (0, _), (1, _), (2, _)], [_, _])) rfl ?_
              refine pm_Fv.jne rfl (by omega) rfl (fun h3 => ?_) (fun h3 => ?_)
              · refine pm_Fv.go 2 (f' := (153, 77, [(6, _), (5, _), (4, _), (3, _), (0, _), (1, _), (2, _)], [_, _])) rfl ?_
                refine pm_Fv.gf rfl rfl H.m199 H.o199 rfl ?_
                rw [show hq_u (hq_u z 27 n) 28 (fd_c (ag_q (fun p => mo_g ar (I p) 4) (fun p v => mo_g ar (I p) (8 + v)) (z 26) a b) ((2 * k + v : Nat) : Int)) 26 = z 26 from rfl]
                refine pm_Fv.jge rfl (by omega) rfl (fun h4 => ?_) (fun h4 => ?_)
                · exact absurd h4 (by omega)
                · refine pm_Fv.go 1 (f' := (153, 84, [(6, _), (5, _), (4, _), (3, _), (0, _), (1, _), (2, _)], [_])) rfl ?_
                  refine pm_Fv.gf rfl rfl H.m199 H.o199 rfl ?_
                  rw [show hq_u (hq_u z 27 n) 28 (fd_c (ag_q (fun p => mo_g ar (I p) 4) (fun p v => mo_g ar (I p) (8 + v)) (z 26) a b) ((2 * k + v : Nat) : Int)) 26 = z 26 from rfl]
                  refine pm_Fv.go 4 (f' := (153, 97, [(6, _), (5, _), (4, _), (3, _), (0, _), (1, _), (2, _)], [_, _])) rfl ?_
                  refine pm_Fv.jlt rfl (by omega) rfl (fun h5 => ?_) (fun h5 => ?_)
                  · exact absurd h5 (by omega)
                  · refine pm_Fv.go 2 (f' := (153, 103, [(6, _), (5, _), (4, _), (3, _), (0, _), (1, _), (2, _)], [_, _])) rfl ?_
                    refine pm_Fv.jgt rfl (by omega) rfl (fun h6 => ?_) (fun h6 => ?_)
                    · exact absurd h6 (by omega)
                    · refine pm_Fv.go 4 (f' := (153, 113, [(6, _), (5, _), (4, _), (3, _), (0, _), (1, _), (2, _)], [_, _, _, _])) rfl ?_
                      refine pm_Fv.cvF rfl rfl rfl rfl (by decide) (Nat.le_of_ble_eq_true rfl) (Nat.le_of_ble_eq_true rfl) H.m199 H.o199 (AD) (fun s1 q1 => ?_)
                      obtain ⟨A1, r1⟩ := q1
                      refine pm_Fv.inc rfl rfl (Nat.le_of_ble_eq_true rfl) ?_
                      refine pm_Fv.go 1 (f' := (153, 35, [(5, _), (6, _), (4, _), (3, _), (0, _), (1, _), (2, _)], [])) rfl ?_
                      exact pm_Fv.weak (kk s1 A1 r1) rfl
              · exact absurd h3 (by omega)
        · have A1 := mo_ag_no A0 (by rw [eq, if_neg (fun q => c3 q.2.2.2)]; decide)
          refine pm_Fv.go 2 (f' := (153, 38, [(5, _), (4, _), (3, _), (0, _), (1, _), (2, _)], [_, _])) rfl ?_
          refine pm_Fv.jge rfl (by omega) rfl (fun h1 => ?_) (fun h1 => ?_)
          · exact absurd h1 (by omega)
          · refine pm_Fv.go 3 (f' := (153, 45, [(5, _), (4, _), (3, _), (0, _), (1, _), (2, _)], [_, _, _])) rfl ?_
            refine pm_Fv.cv rfl rfl rfl rfl (by decide) (Nat.le_of_ble_eq_true rfl) (Nat.le_of_ble_eq_true rfl) H.m199 H.o199 (G4) ?_
            refine pm_Fv.go 1 (f' := (153, 49, [(5, _), (4, _), (3, _), (0, _), (1, _), (2, _)], [_, _])) rfl ?_
            refine pm_Fv.jge rfl (by omega) rfl (fun h2 => ?_) (fun h2 => ?_)
            · exact absurd h2 (by omega)
            · refine pm_Fv.go 2 (f' := (153, 55, [(5, _), (4, _), (3, _), (0, _), (1, _), (2, _)], [_, _])) rfl ?_
              refine pm_Fv.bp rfl rfl ?_
              refine pm_Fv.go 1 (f' := (153, 59, [(5, _), (4, _), (3, _), (0, _), (1, _), (2, _)], [_, _, _, _])) rfl ?_
              refine pm_Fv.iadd rfl ?_
              refine pm_Fv.cv rfl rfl rfl rfl (by decide) (Nat.le_of_ble_eq_true rfl) (Nat.le_of_ble_eq_true rfl) H.m199 H.o199 (G8) ?_
              refine pm_Fv.go 3 (f' := (153, 68, [(6, _), (5, _), (4, _), (3, _), (0, _), (1, _), (2, _)], [_, _])) rfl ?_
              refine pm_Fv.jne rfl (by omega) rfl (fun h3 => ?_) (fun h3 => ?_)
              · refine pm_Fv.go 2 (f' := (153, 77, [(6, _), (5, _), (4, _), (3, _), (0, _), (1, _), (2, _)], [_, _])) rfl ?_
                refine pm_Fv.gf rfl rfl H.m199 H.o199 rfl ?_
                rw [show hq_u (hq_u z 27 n) 28 (fd_c (ag_q (fun p => mo_g ar (I p) 4) (fun p v => mo_g ar (I p) (8 + v)) (z 26) a b) ((2 * k + v : Nat) : Int)) 26 = z 26 from rfl]
                refine pm_Fv.jge rfl (by omega) rfl (fun h4 => ?_) (fun h4 => ?_)
                · exact absurd h4 (by omega)
                · refine pm_Fv.go 1 (f' := (153, 84, [(6, _), (5, _), (4, _), (3, _), (0, _), (1, _), (2, _)], [_])) rfl ?_
                  refine pm_Fv.gf rfl rfl H.m199 H.o199 rfl ?_
                  rw [show hq_u (hq_u z 27 n) 28 (fd_c (ag_q (fun p => mo_g ar (I p) 4) (fun p v => mo_g ar (I p) (8 + v)) (z 26) a b) ((2 * k + v : Nat) : Int)) 26 = z 26 from rfl]
                  refine pm_Fv.go 4 (f' := (153, 97, [(6, _), (5, _), (4, _), (3, _), (0, _), (1, _), (2, _)], [_, _])) rfl ?_
                  refine pm_Fv.jlt rfl (by omega) rfl (fun h5 => ?_) (fun h5 => ?_)
                  · exact absurd h5 (by omega)
                  · refine pm_Fv.go 2 (f' := (153, 103, [(6, _), (5, _), (4, _), (3, _), (0, _), (1, _), (2, _)], [_, _])) rfl ?_
                    refine pm_Fv.jgt rfl (by omega) rfl (fun h6 => ?_) (fun h6 => ?_)
                    · refine pm_Fv.inc rfl rfl (Nat.le_of_ble_eq_true rfl) ?_
                      refine pm_Fv.go 1 (f' := (153, 35, [(5, _), (6, _), (4, _), (3, _), (0, _), (1, _), (2, _)], [])) rfl ?_
                      exact pm_Fv.weak (kk σ A1 rfl) rfl
                    · exact absurd h6 (by omega)
              · exact absurd h3 (by omega)
      · have A1 := mo_ag_no A0 (by rw [eq, if_neg (fun q => c2 q.2.2.1)]; decide)
        refine pm_Fv.go 2 (f' := (153, 38, [(5, _), (4, _), (3, _), (0, _), (1, _), (2, _)], [_, _])) rfl ?_
        refine pm_Fv.jge rfl (by omega) rfl (fun h1 => ?_) (fun h1 => ?_)
        · exact absurd h1 (by omega)
        · refine pm_Fv.go 3 (f' := (153, 45, [(5, _), (4, _), (3, _), (0, _), (1, _), (2, _)], [_, _, _])) rfl ?_
          refine pm_Fv.cv rfl rfl rfl rfl (by decide) (Nat.le_of_ble_eq_true rfl) (Nat.le_of_ble_eq_true rfl) H.m199 H.o199 (G4) ?_
          refine pm_Fv.go 1 (f' := (153, 49, [(5, _), (4, _), (3, _), (0, _), (1, _), (2, _)], [_, _])) rfl ?_
          refine pm_Fv.jge rfl (by omega) rfl (fun h2 => ?_) (fun h2 => ?_)
          · exact absurd h2 (by omega)
          · refine pm_Fv.go 2 (f' := (153, 55, [(5, _), (4, _), (3, _), (0, _), (1, _), (2, _)], [_, _])) rfl ?_
            refine pm_Fv.bp rfl rfl ?_
            refine pm_Fv.go 1 (f' := (153, 59, [(5, _), (4, _), (3, _), (0, _), (1, _), (2, _)], [_, _, _, _])) rfl ?_
            refine pm_Fv.iadd rfl ?_
            refine pm_Fv.cv rfl rfl rfl rfl (by decide) (Nat.le_of_ble_eq_true rfl) (Nat.le_of_ble_eq_true rfl) H.m199 H.o199 (G8) ?_
            refine pm_Fv.go 3 (f' := (153, 68, [(6, _), (5, _), (4, _), (3, _), (0, _), (1, _), (2, _)], [_, _])) rfl ?_
            refine pm_Fv.jne rfl (by omega) rfl (fun h3 => ?_) (fun h3 => ?_)
            · refine pm_Fv.go 2 (f' := (153, 77, [(6, _), (5, _), (4, _), (3, _), (0, _), (1, _), (2, _)], [_, _])) rfl ?_
              refine pm_Fv.gf rfl rfl H.m199 H.o199 rfl ?_
              rw [show hq_u (hq_u z 27 n) 28 (fd_c (ag_q (fun p => mo_g ar (I p) 4) (fun p v => mo_g ar (I p) (8 + v)) (z 26) a b) ((2 * k + v : Nat) : Int)) 26 = z 26 from rfl]
              refine pm_Fv.jge rfl (by omega) rfl (fun h4 => ?_) (fun h4 => ?_)
              · exact absurd h4 (by omega)
              · refine pm_Fv.go 1 (f' := (153, 84, [(6, _), (5, _), (4, _), (3, _), (0, _), (1, _), (2, _)], [_])) rfl ?_
                refine pm_Fv.gf rfl rfl H.m199 H.o199 rfl ?_
                rw [show hq_u (hq_u z 27 n) 28 (fd_c (ag_q (fun p => mo_g ar (I p) 4) (fun p v => mo_g ar (I p) (8 + v)) (z 26) a b) ((2 * k + v : Nat) : Int)) 26 = z 26 from rfl]
                refine pm_Fv.go 4 (f' := (153, 97, [(6, _), (5, _), (4, _), (3, _), (0, _), (1, _), (2, _)], [_, _])) rfl ?_
                refine pm_Fv.jlt rfl (by omega) rfl (fun h5 => ?_) (fun h5 => ?_)
                · refine pm_Fv.inc rfl rfl (Nat.le_of_ble_eq_true rfl) ?_
                  refine pm_Fv.go 1 (f' := (153, 35, [(5, _), (6, _), (4, _), (3, _), (0, _), (1, _), (2, _)], [])) rfl ?_
                  exact pm_Fv.weak (kk σ A1 rfl) rfl
                · exact absurd h5 (by omega)
            · exact absurd h3 (by omega)
    · rw [if_neg c4] at es
      rw [es] at eq sr
      by_cases c2 : a ≤ mo_g ar (I k) (8 + v)
      · by_cases c3 : mo_g ar (I k) (8 + v) ≤ b
        · have q1 : (ag_q (fun p => mo_g ar (I p) 4) (fun p v => mo_g ar (I p) (8 + v)) (z 26) a b) ((2 * k + v : Nat) : Int) = 1 := by rw [eq, if_pos ⟨s3, c1, c2, c3⟩]
          have cr := fd_c_r (ag_q (fun p => mo_g ar (I p) 4) (fun p v => mo_g ar (I p) (8 + v)) (z 26) a b) (k := ((2 * k + v : Nat) : Int)) (by omega)
          have kd : (ag_k (fun p => mo_g ar (I p) 5) (fun p v => mo_g ar (I p) (8 + v)) (z 26)) ((2 * k + v : Nat) : Int) = ((mo_g ar (I k) (8 + v) * 2 + (1 - (v : Int))) * 4 + (3 - mo_g ar (I k) 5)) * 400 + k := by
            unfold ag_k
            rw [es, u1, u2]
          have hd : ∀ i, 0 ≤ i → i < fd_c (ag_q (fun p => mo_g ar (I p) 4) (fun p v => mo_g ar (I p) (8 + v)) (z 26) a b) ((2 * k + v : Nat) : Int) → ∃ k2 y2 w2, 0 ≤ k2 ∧ k2 < n ∧ 0 ≤ y2 ∧ y2 ≤ 3652058 ∧ 0 ≤ w2 ∧ w2 ≤ 1 ∧ E i = I k2 ∧ Y i = y2 ∧ T i = w2 ∧ s i = ((y2 * 2 + (1 - w2)) * 4 + (3 - mo_g ar (I k2) 5)) * 400 + k2 ∧ (k2 < (k : Int) ∨ (k2 = (k : Int) ∧ w2 < (v : Int))) := by
            intro i i0 i1
            obtain ⟨j, j0, j1, j2⟩ := S.2.1 i i0 i1
            obtain ⟨x, x0, x1, x2, x3⟩ := fd_a_ex (ag_q (fun p => mo_g ar (I p) 4) (fun p v => mo_g ar (I p) (8 + v)) (z 26) a b) (ag_k (fun p => mo_g ar (I p) 5) (fun p v => mo_g ar (I p) (8 + v)) (z 26)) (fun _ => 0) (2 * k + v) j j0 j1
            have sx : s i = (ag_k (fun p => mo_g ar (I p) 5) (fun p v => mo_g ar (I p) (8 + v)) (z 26)) x := j2.trans x3
            have rx := hr (x / 2) (by omega) (by omega)
            have dx := hdy (x / 2) (x % 2) (by omega) (by omega) (by omega) (by omega)
            have yx := ag_s_r (t := z 26) (Dy := (fun p v => mo_g ar (I p) (8 + v))) (u := x) ht dx
            have kx : (ag_k (fun p => mo_g ar (I p) 5) (fun p v => mo_g ar (I p) (8 + v)) (z 26)) x = ((ag_s (z 26) (fun p v => mo_g ar (I p) (8 + v)) x * 2 + (1 - x % 2)) * 4 + (3 - mo_g ar (I (x / 2)) 5)) * 400 + x / 2 := rfl
            have dd := d i i0 i1
            have dc := ag_dec (sx.trans kx) (by omega) rx (by omega) yx.1
            refine ⟨x / 2, ag_s (z 26) (fun p v => mo_g ar (I p) (8 + v)) x, x % 2, by omega, by omega, yx.1, yx.2, by omega, by omega, ?_, ?_, ?_, sx.trans kx, by omega⟩
            · rw [dd.1, dc.1]
            · rw [dd.2.1, dc.2.1]
            · rw [dd.2.2, dc.2.2]
          obtain ⟨p, p0, p1, p2, p3⟩ := so_pt (v := (ag_k (fun p => mo_g ar (I p) 5) (fun p v => mo_g ar (I p) (8 + v)) (z 26)) ((2 * k + v : Nat) : Int)) S cr.1 (fun i i0 i1 => by
            obtain ⟨k2, y2, w2, a1, a2, a3, a4, a5, a6, a7, a8, a9, b1, b2⟩ := hd i i0 i1
            have r2 := hr k2 a1 a2
            rw [b1, kd]
            omega)
          have kc : ((2 * k + v + 1 : Nat) : Int) = ((2 * k + v : Nat) : Int) + 1 := by omega
          have AD : pm_Fv (tq_P L xs) (pm_enter 152 [.ref 199, .int (zI (I k)), .int (zI (mo_g ar (I k) (8 + v))), .int (zI (v : Int))]) σ (fun o t => o = .inl none ∧ mo_ag t ad z ar lr n I a b (2 * k + v + 1) ∧ t.2 = σ.2) := by
            show pm_Fv (tq_P L xs) (152, 0, [(0, .ref 199), (1, .int (zI (I k))), (2, .int (zI (mo_g ar (I k) (8 + v)))), (3, .int (zI (v : Int)))], []) σ _
            refine pm_Fv.go 1 (f' := (152, 1, [(0, _), (1, _), (2, _), (3, _)], [_])) rfl ?_
            refine pm_Fv.gf rfl rfl H.m199 H.o199 rfl ?_
            rw [hq_u_at]
            refine pm_Fv.go 1 (f' := (152, 6, [(4, _), (0, _), (1, _), (2, _), (3, _)], [])) rfl ?_
            refine (ev_maddL L xs (show mo_H (hq_u z 27 n) (mo_or ar I n) from h) (I := I) (E := E) (Y := Y) (T := T) (s := s) (c := fd_c (ag_q (fun p => mo_g ar (I p) 4) (fun p v => mo_g ar (I p) (8 + v)) (z 26) a b) ((2 * k + v : Nat) : Int)) (k := k) (y := mo_g ar (I k) (8 + v)) (w := v) (p := p) (n := n) (fun x x0 x1 => ⟨M.J.1 x x0 x1, by have := M.lt x x0 x1; omega, hr x x0 x1⟩) (by omega) (by omega) (by omega) sr (by omega) p0 p1 (fun i i0 i1 => by have := p2 i i0 i1; rw [kd] at this; exact this) (fun i i0 i1 => by have := p3 i i0 i1; rw [kd] at this; exact this) hd (fd_c (ag_q (fun p => mo_g ar (I p) 4) (fun p v => mo_g ar (I p) (8 + v)) (z 26) a b) ((2 * k + v : Nat) : Int) - p).toNat (fd_c (ag_q (fun p => mo_g ar (I p) 4) (fun p v => mo_g ar (I p) (8 + v)) (z 26) a b) ((2 * k + v : Nat) : Int)) σ (by omega) (by omega) (by rw [so_sh_c, so_sh_c, so_sh_c]; exact H)).mono (fun o t q => ⟨q.1, ?_, q.2.2⟩)
            refine ⟨so_in E p (fd_c (ag_q (fun p => mo_g ar (I p) 4) (fun p v => mo_g ar (I p) (8 + v)) (z 26) a b) ((2 * k + v : Nat) : Int)) (I k), so_in Y p (fd_c (ag_q (fun p => mo_g ar (I p) 4) (fun p v => mo_g ar (I p) (8 + v)) (z 26) a b) ((2 * k + v : Nat) : Int)) (mo_g ar (I k) (8 + v)), so_in T p (fd_c (ag_q (fun p => mo_g ar (I p) 4) (fun p v => mo_g ar (I p) (8 + v)) (z 26) a b) ((2 * k + v : Nat) : Int)) v, so_in s p (fd_c (ag_q (fun p => mo_g ar (I p) 4) (fun p v => mo_g ar (I p) (8 + v)) (z 26) a b) ((2 * k + v : Nat) : Int)) ((ag_k (fun p => mo_g ar (I p) 5) (fun p v => mo_g ar (I p) (8 + v)) (z 26)) ((2 * k + v : Nat) : Int)), ?_, ?_, ?_⟩
            · rw [kc, fd_c_s _ (by omega), if_pos q1]
              exact q.2.1
            · rw [kc, fd_c_s _ (by omega), if_pos q1, fd_a, if_pos q1]
              exact so_S_in S cr.1 p0 p1 p2 p3
            · intro i i0 i1
              rw [kc, fd_c_s _ (by omega), if_pos q1] at i1
              by_cases x1 : i < p
              · rw [so_in_lt x1, so_in_lt x1, so_in_lt x1, so_in_lt x1]
                exact d i i0 (by omega)
              · by_cases x2 : i = p
                · rw [x2, so_in_at, so_in_at, so_in_at, so_in_at, kd]
                  have dc := ag_dec (S := ((mo_g ar (I k) (8 + v) * 2 + (1 - (v : Int))) * 4 + (3 - mo_g ar (I k) 5)) * 400 + k) rfl (by omega) rr (by omega) sr.1
                  rw [dc.1, dc.2.1, dc.2.2]
                  exact ⟨rfl, rfl, rfl⟩
                · rw [so_in_gt (by omega) (by omega), so_in_gt (by omega) (by omega), so_in_gt (by omega) (by omega), so_in_gt (by omega) (by omega)]
                  exact d (i - 1) (by omega) (by omega)
          refine pm_Fv.go 2 (f' := (153, 38, [(5, _), (4, _), (3, _), (0, _), (1, _), (2, _)], [_, _])) rfl ?_
          refine pm_Fv.jge rfl (by omega) rfl (fun h1 => ?_) (fun h1 => ?_)
          · exact absurd h1 (by omega)
          · refine pm_Fv.go 3 (f' := (153, 45, [(5, _), (4, _), (3, _), (0, _), (1, _), (2, _)], [_, _, _])) rfl ?_
            refine pm_Fv.cv rfl rfl rfl rfl (by decide) (Nat.le_of_ble_eq_true rfl) (Nat.le_of_ble_eq_true rfl) H.m199 H.o199 (G4) ?_
            refine pm_Fv.go 1 (f' := (153, 49, [(5, _), (4, _), (3, _), (0, _), (1, _), (2, _)], [_, _])) rfl ?_
            refine pm_Fv.jge rfl (by omega) rfl (fun h2 => ?_) (fun h2 => ?_)
            · exact absurd h2 (by omega)
            · refine pm_Fv.go 2 (f' := (153, 55, [(5, _), (4, _), (3, _), (0, _), (1, _), (2, _)], [_, _])) rfl ?_
              refine pm_Fv.bp rfl rfl ?_
              refine pm_Fv.go 1 (f' := (153, 59, [(5, _), (4, _), (3, _), (0, _), (1, _), (2, _)], [_, _, _, _])) rfl ?_
              refine pm_Fv.iadd rfl ?_
              refine pm_Fv.cv rfl rfl rfl rfl (by decide) (Nat.le_of_ble_eq_true rfl) (Nat.le_of_ble_eq_true rfl) H.m199 H.o199 (G8) ?_
              refine pm_Fv.go 3 (f' := (153, 68, [(6, _), (5, _), (4, _), (3, _), (0, _), (1, _), (2, _)], [_, _])) rfl ?_
              refine pm_Fv.jne rfl (by omega) rfl (fun h3 => ?_) (fun h3 => ?_)
              · refine pm_Fv.go 2 (f' := (153, 77, [(6, _), (5, _), (4, _), (3, _), (0, _), (1, _), (2, _)], [_, _])) rfl ?_
                refine pm_Fv.gf rfl rfl H.m199 H.o199 rfl ?_
                rw [show hq_u (hq_u z 27 n) 28 (fd_c (ag_q (fun p => mo_g ar (I p) 4) (fun p v => mo_g ar (I p) (8 + v)) (z 26) a b) ((2 * k + v : Nat) : Int)) 26 = z 26 from rfl]
                refine pm_Fv.jge rfl (by omega) rfl (fun h4 => ?_) (fun h4 => ?_)
                · refine pm_Fv.go 4 (f' := (153, 97, [(6, _), (5, _), (4, _), (3, _), (0, _), (1, _), (2, _)], [_, _])) rfl ?_
                  refine pm_Fv.jlt rfl (by omega) rfl (fun h5 => ?_) (fun h5 => ?_)
                  · exact absurd h5 (by omega)
                  · refine pm_Fv.go 2 (f' := (153, 103, [(6, _), (5, _), (4, _), (3, _), (0, _), (1, _), (2, _)], [_, _])) rfl ?_
                    refine pm_Fv.jgt rfl (by omega) rfl (fun h6 => ?_) (fun h6 => ?_)
                    · exact absurd h6 (by omega)
                    · refine pm_Fv.go 4 (f' := (153, 113, [(6, _), (5, _), (4, _), (3, _), (0, _), (1, _), (2, _)], [_, _, _, _])) rfl ?_
                      refine pm_Fv.cvF rfl rfl rfl rfl (by decide) (Nat.le_of_ble_eq_true rfl) (Nat.le_of_ble_eq_true rfl) H.m199 H.o199 (AD) (fun s1 q1 => ?_)
                      obtain ⟨A1, r1⟩ := q1
                      refine pm_Fv.inc rfl rfl (Nat.le_of_ble_eq_true rfl) ?_
                      refine pm_Fv.go 1 (f' := (153, 35, [(5, _), (6, _), (4, _), (3, _), (0, _), (1, _), (2, _)], [])) rfl ?_
                      exact pm_Fv.weak (kk s1 A1 r1) rfl
                · exact absurd h4 (by omega)
              · exact absurd h3 (by omega)
        · have A1 := mo_ag_no A0 (by rw [eq, if_neg (fun q => c3 q.2.2.2)]; decide)
          refine pm_Fv.go 2 (f' := (153, 38, [(5, _), (4, _), (3, _), (0, _), (1, _), (2, _)], [_, _])) rfl ?_
          refine pm_Fv.jge rfl (by omega) rfl (fun h1 => ?_) (fun h1 => ?_)
          · exact absurd h1 (by omega)
          · refine pm_Fv.go 3 (f' := (153, 45, [(5, _), (4, _), (3, _), (0, _), (1, _), (2, _)], [_, _, _])) rfl ?_
            refine pm_Fv.cv rfl rfl rfl rfl (by decide) (Nat.le_of_ble_eq_true rfl) (Nat.le_of_ble_eq_true rfl) H.m199 H.o199 (G4) ?_
            refine pm_Fv.go 1 (f' := (153, 49, [(5, _), (4, _), (3, _), (0, _), (1, _), (2, _)], [_, _])) rfl ?_
            refine pm_Fv.jge rfl (by omega) rfl (fun h2 => ?_) (fun h2 => ?_)
            · exact absurd h2 (by omega)
            · refine pm_Fv.go 2 (f' := (153, 55, [(5, _), (4, _), (3, _), (0, _), (1, _), (2, _)], [_, _])) rfl ?_
              refine pm_Fv.bp rfl rfl ?_
              refine pm_Fv.go 1 (f' := (153, 59, [(5, _), (4, _), (3, _), (0, _), (1, _), (2, _)], [_, _, _, _])) rfl ?_
              refine pm_Fv.iadd rfl ?_
              refine pm_Fv.cv rfl rfl rfl rfl (by decide) (Nat.le_of_ble_eq_true rfl) (Nat.le_of_ble_eq_true rfl) H.m199 H.o199 (G8) ?_
              refine pm_Fv.go 3 (f' := (153, 68, [(6, _), (5, _), (4, _), (3, _), (0, _), (1, _), (2, _)], [_, _])) rfl ?_
              refine pm_Fv.jne rfl (by omega) rfl (fun h3 => ?_) (fun h3 => ?_)
              · refine pm_Fv.go 2 (f' := (153, 77, [(6, _), (5, _), (4, _), (3, _), (0, _), (1, _), (2, _)], [_, _])) rfl ?_
                refine pm_Fv.gf rfl rfl H.m199 H.o199 rfl ?_
                rw [show hq_u (hq_u z 27 n) 28 (fd_c (ag_q (fun p => mo_g ar (I p) 4) (fun p v => mo_g ar (I p) (8 + v)) (z 26) a b) ((2 * k + v : Nat) : Int)) 26 = z 26 from rfl]
                refine pm_Fv.jge rfl (by omega) rfl (fun h4 => ?_) (fun h4 => ?_)
                · refine pm_Fv.go 4 (f' := (153, 97, [(6, _), (5, _), (4, _), (3, _), (0, _), (1, _), (2, _)], [_, _])) rfl ?_
                  refine pm_Fv.jlt rfl (by omega) rfl (fun h5 => ?_) (fun h5 => ?_)
                  · exact absurd h5 (by omega)
                  · refine pm_Fv.go 2 (f' := (153, 103, [(6, _), (5, _), (4, _), (3, _), (0, _), (1, _), (2, _)], [_, _])) rfl ?_
                    refine pm_Fv.jgt rfl (by omega) rfl (fun h6 => ?_) (fun h6 => ?_)
                    · refine pm_Fv.inc rfl rfl (Nat.le_of_ble_eq_true rfl) ?_
                      refine pm_Fv.go 1 (f' := (153, 35, [(5, _), (6, _), (4, _), (3, _), (0, _), (1, _), (2, _)], [])) rfl ?_
                      exact pm_Fv.weak (kk σ A1 rfl) rfl
                    · exact absurd h6 (by omega)
                · exact absurd h4 (by omega)
              · exact absurd h3 (by omega)
      · have A1 := mo_ag_no A0 (by rw [eq, if_neg (fun q => c2 q.2.2.1)]; decide)
        refine pm_Fv.go 2 (f' := (153, 38, [(5, _), (4, _), (3, _), (0, _), (1, _), (2, _)], [_, _])) rfl ?_
        refine pm_Fv.jge rfl (by omega) rfl (fun h1 => ?_) (fun h1 => ?_)
        · exact absurd h1 (by omega)
        · refine pm_Fv.go 3 (f' := (153, 45, [(5, _), (4, _), (3, _), (0, _), (1, _), (2, _)], [_, _, _])) rfl ?_
          refine pm_Fv.cv rfl rfl rfl rfl (by decide) (Nat.le_of_ble_eq_true rfl) (Nat.le_of_ble_eq_true rfl) H.m199 H.o199 (G4) ?_
          refine pm_Fv.go 1 (f' := (153, 49, [(5, _), (4, _), (3, _), (0, _), (1, _), (2, _)], [_, _])) rfl ?_
          refine pm_Fv.jge rfl (by omega) rfl (fun h2 => ?_) (fun h2 => ?_)
          · exact absurd h2 (by omega)
          · refine pm_Fv.go 2 (f' := (153, 55, [(5, _), (4, _), (3, _), (0, _), (1, _), (2, _)], [_, _])) rfl ?_
            refine pm_Fv.bp rfl rfl ?_
            refine pm_Fv.go 1 (f' := (153, 59, [(5, _), (4, _), (3, _), (0, _), (1, _), (2, _)], [_, _, _, _])) rfl ?_
            refine pm_Fv.iadd rfl ?_
            refine pm_Fv.cv rfl rfl rfl rfl (by decide) (Nat.le_of_ble_eq_true rfl) (Nat.le_of_ble_eq_true rfl) H.m199 H.o199 (G8) ?_
            refine pm_Fv.go 3 (f' := (153, 68, [(6, _), (5, _), (4, _), (3, _), (0, _), (1, _), (2, _)], [_, _])) rfl ?_
            refine pm_Fv.jne rfl (by omega) rfl (fun h3 => ?_) (fun h3 => ?_)
            · refine pm_Fv.go 2 (f' := (153, 77, [(6, _), (5, _), (4, _), (3, _), (0, _), (1, _), (2, _)], [_, _])) rfl ?_
              refine pm_Fv.gf rfl rfl H.m199 H.o199 rfl ?_
              rw [show hq_u (hq_u z 27 n) 28 (fd_c (ag_q (fun p => mo_g ar (I p) 4) (fun p v => mo_g ar (I p) (8 + v)) (z 26) a b) ((2 * k + v : Nat) : Int)) 26 = z 26 from rfl]
              refine pm_Fv.jge rfl (by omega) rfl (fun h4 => ?_) (fun h4 => ?_)
              · refine pm_Fv.go 4 (f' := (153, 97, [(6, _), (5, _), (4, _), (3, _), (0, _), (1, _), (2, _)], [_, _])) rfl ?_
                refine pm_Fv.jlt rfl (by omega) rfl (fun h5 => ?_) (fun h5 => ?_)
                · refine pm_Fv.inc rfl rfl (Nat.le_of_ble_eq_true rfl) ?_
                  refine pm_Fv.go 1 (f' := (153, 35, [(5, _), (6, _), (4, _), (3, _), (0, _), (1, _), (2, _)], [])) rfl ?_
                  exact pm_Fv.weak (kk σ A1 rfl) rfl
                · exact absurd h5 (by omega)
              · exact absurd h4 (by omega)
            · exact absurd h3 (by omega)
theorem ev_magL (h : mo_H z ar) {n : Int} {I D : Int → Int} (M : mo_R (mo_g ar) (z 23) n I D) {a b : Int} (ha : -2147483648 ≤ a ∧ a ≤ 2147483647) (hb : -2147483648 ≤ b ∧ b ≤ 2147483647) (ht : 0 ≤ z 26 ∧ z 26 ≤ 3652058) (hr : ∀ x, 0 ≤ x → x < n → 0 ≤ mo_g ar (I x) 5 ∧ mo_g ar (I x) 5 ≤ 3) (hdy : ∀ x v, 0 ≤ x → x < n → 0 ≤ v → v ≤ 1 → -1 ≤ mo_g ar (I x) (8 + v) ∧ mo_g ar (I x) (8 + v) ≤ 3652058) : ∀ (j k : Nat) (σ : pm_S), (k : Int) + j = n → mo_ag σ ad z ar lr n I a b (2 * k) → pm_Fv (tq_P L xs) (153, 16, [(3, .int (zI k)), (0, .ref 199), (1, .int (zI a)), (2, .int (zI b))], []) σ (fun o s => o = .inl (some (.int (zI (fd_c (ag_q (fun p => mo_g ar (I p) 4) (fun p v => mo_g ar (I p) (8 + v)) (z 26) a b) ((2 * n.toNat : Nat) : Int))))) ∧ mo_ag s ad z ar lr n I a b (2 * n.toNat) ∧ s.2 = σ.2) := by
  intro j
  have nm := M.nm
  have m4 := M.m4
  induction j with
  | zero =>
    intro k σ kj A
    have e2 : k = n.toNat := by omega
    subst e2
    have A0 := A
    obtain ⟨E, Y, T, s, H, S, d⟩ := A
    refine pm_Fv.go 2 (f' := (153, 18, [(3, _), (0, _), (1, _), (2, _)], [_, _])) rfl ?_
    refine pm_Fv.gf rfl rfl H.m199 H.o199 rfl ?_
    rw [hq_u_ne (by decide), hq_u_at]
    refine pm_Fv.jge rfl (by omega) rfl (fun h1 => ?_) (fun h1 => ?_)
    · refine pm_Fv.go 1 (f' := (153, 129, [(3, _), (0, _), (1, _), (2, _)], [_])) rfl ?_
      refine pm_Fv.gf rfl rfl H.m199 H.o199 rfl ?_
      rw [hq_u_at]
      exact pm_Fv.rv rfl rfl ⟨rfl, A0, rfl⟩
    · exact absurd h1 (by omega)
  | succ j ih =>
    intro k σ kj A
    have i0 := M.J.1 k (by omega) (by omega)
    have i1 := M.lt k (by omega) (by omega)
    have A0 := A
    have g4r := mo_g_r ar (I k) 4
    obtain ⟨E, Y, T, s, H, S, d⟩ := A
    have og : hq_g (mo_f3 (mo_or ar I n) E Y T) 203 k = I k := mo_or_g ar I (x := k) (k := n) (by omega) (by omega) (by omega)
    have G4 : pm_Ev (tq_P L xs) (pm_enter 98 [.ref 199, .int (zI (I k)), .int (zI 4)]) σ (.inl (some (.int (zI (mo_g ar (I k) 4)))), σ) := ev_g L xs H (show (ar 200).1 = 5600 from h.l0) (by omega)
    have kc : ((k + 1 : Nat) : Int) = (k : Int) + 1 := by omega
    by_cases s3 : mo_g ar (I k) 4 < 3
    · skip
      refine pm_Fv.go 2 (f' := (153, 18, [(3, _), (0, _), (1, _), (2, _)], [_, _])) rfl ?_
      refine pm_Fv.gf rfl rfl H.m199 H.o199 rfl ?_
      rw [hq_u_ne (by decide), hq_u_at]
      refine pm_Fv.jge rfl (by omega) rfl (fun h1 => ?_) (fun h1 => ?_)
      · exact absurd h1 (by omega)
      · refine pm_Fv.go 1 (f' := (153, 25, [(3, _), (0, _), (1, _), (2, _)], [_])) rfl ?_
        refine pm_Fv.gf rfl rfl H.m199 H.o199 rfl ?_
        refine pm_Fv.go 1 (f' := (153, 29, [(3, _), (0, _), (1, _), (2, _)], [_, _])) rfl ?_
        refine pm_Fv.fia H rfl (by decide) rfl rfl (by show 0 ≤ (k : Int) ∧ (k : Int) < (ar 203).1 ∧ (ar 203).1 ≤ 2147483647; rw [h.l3]; omega) ?_
        rw [og]
        refine pm_Fv.go 3 (f' := (153, 35, [(5, _), (4, _), (3, _), (0, _), (1, _), (2, _)], [])) rfl ?_
        refine pm_Fv.weak (lv := [(5, .int (zI ((0 : Nat) : Int))), (4, .int (zI (I k))), (3, .int (zI k)), (0, .ref 199), (1, .int (zI a)), (2, .int (zI b))]) ?_ rfl
        refine ev_magS L xs h M ha hb ht hr hdy (k := k) (v := 0) (by omega) (by omega) s3 A0 (fun s1 A1 r1 => ?_)
        refine pm_Fv.weak (lv := [(5, .int (zI ((1 : Nat) : Int))), (4, .int (zI (I k))), (3, .int (zI k)), (0, .ref 199), (1, .int (zI a)), (2, .int (zI b))]) ?_ rfl
        refine ev_magS L xs h M ha hb ht hr hdy (k := k) (v := 1) (by omega) (by omega) s3 A1 (fun s2 A2 r2 => ?_)
        refine pm_Fv.go 2 (f' := (153, 38, [(5, _), (4, _), (3, _), (0, _), (1, _), (2, _)], [_, _])) rfl ?_
        refine pm_Fv.jge rfl (by omega) rfl (fun h1 => ?_) (fun h1 => ?_)
        · refine pm_Fv.inc rfl rfl (Nat.le_of_ble_eq_true rfl) ?_
          refine pm_Fv.go 1 (f' := (153, 16, [(3, _), (5, _), (4, _), (0, _), (1, _), (2, _)], [])) rfl ?_
          have A3 : mo_ag s2 ad z ar lr n I a b (2 * (k + 1)) := A2
          have q := ih (k + 1) s2 (by omega) A3
          rw [kc] at q
          exact pm_Fv.weak (q.mono (fun o s q => ⟨q.1, q.2.1, q.2.2.trans (r2.trans r1)⟩)) rfl
        · exact absurd h1 (by omega)
    · have A1 := mo_ag_no A0 (by
        unfold ag_q
        rw [if_neg (fun q => s3 ?_)]
        · decide
        · have := q.1
          rw [show ((2 * k : Nat) : Int) / 2 = (k : Int) by omega] at this
          exact this)
      have A2 := mo_ag_no A1 (by
        unfold ag_q
        rw [if_neg (fun q => s3 ?_)]
        · decide
        · have := q.1
          rw [show ((2 * k + 1 : Nat) : Int) / 2 = (k : Int) by omega] at this
          exact this)
      have q := ih (k + 1) σ (by omega) A2
      rw [kc] at q
      refine pm_Fv.go 2 (f' := (153, 18, [(3, _), (0, _), (1, _), (2, _)], [_, _])) rfl ?_
      refine pm_Fv.gf rfl rfl H.m199 H.o199 rfl ?_
      rw [hq_u_ne (by decide), hq_u_at]
      refine pm_Fv.jge rfl (by omega) rfl (fun h1 => ?_) (fun h1 => ?_)
      · exact absurd h1 (by omega)
      · refine pm_Fv.go 1 (f' := (153, 25, [(3, _), (0, _), (1, _), (2, _)], [_])) rfl ?_
        refine pm_Fv.gf rfl rfl H.m199 H.o199 rfl ?_
        refine pm_Fv.go 1 (f' := (153, 29, [(3, _), (0, _), (1, _), (2, _)], [_, _])) rfl ?_
        refine pm_Fv.fia H rfl (by decide) rfl rfl (by show 0 ≤ (k : Int) ∧ (k : Int) < (ar 203).1 ∧ (ar 203).1 ≤ 2147483647; rw [h.l3]; omega) ?_
        rw [og]
        refine pm_Fv.go 5 (f' := (153, 38, [(5, _), (4, _), (3, _), (0, _), (1, _), (2, _)], [_, _])) rfl ?_
        refine pm_Fv.jge rfl (by omega) rfl (fun h2 => ?_) (fun h2 => ?_)
        · exact absurd h2 (by omega)
        · refine pm_Fv.go 3 (f' := (153, 45, [(5, _), (4, _), (3, _), (0, _), (1, _), (2, _)], [_, _, _])) rfl ?_
          refine pm_Fv.cv rfl rfl rfl rfl (by decide) (Nat.le_of_ble_eq_true rfl) (Nat.le_of_ble_eq_true rfl) H.m199 H.o199 (G4) ?_
          refine pm_Fv.go 1 (f' := (153, 49, [(5, _), (4, _), (3, _), (0, _), (1, _), (2, _)], [_, _])) rfl ?_
          refine pm_Fv.jge rfl (by omega) rfl (fun h3 => ?_) (fun h3 => ?_)
          · refine pm_Fv.inc rfl rfl (Nat.le_of_ble_eq_true rfl) ?_
            refine pm_Fv.go 1 (f' := (153, 16, [(3, _), (5, _), (4, _), (0, _), (1, _), (2, _)], [])) rfl ?_
            exact pm_Fv.weak q rfl
          · exact absurd h3 (by omega)
theorem ev_magenda (H : Hp σ ad z ar lr) (h : mo_H z ar) {n : Int} {I D : Int → Int} (M : mo_R (mo_g ar) (z 23) n I D) {a b : Int} (ha : -2147483648 ≤ a ∧ a ≤ 2147483647) (hb : -2147483648 ≤ b ∧ b ≤ 2147483647) (ht : 0 ≤ z 26 ∧ z 26 ≤ 3652058) (hr : ∀ x, 0 ≤ x → x < n → 0 ≤ mo_g ar (I x) 5 ∧ mo_g ar (I x) 5 ≤ 3) (hdy : ∀ x v, 0 ≤ x → x < n → 0 ≤ v → v ≤ 1 → -1 ≤ mo_g ar (I x) (8 + v) ∧ mo_g ar (I x) (8 + v) ≤ 3652058) : pm_Fv (tq_P L xs) (pm_enter 153 [.ref 199, .int (zI a), .int (zI b)]) σ (fun o s => o = .inl (some (.int (zI (fd_c (ag_q (fun p => mo_g ar (I p) 4) (fun p v => mo_g ar (I p) (8 + v)) (z 26) a b) ((2 * n.toNat : Nat) : Int))))) ∧ mo_ag s ad (hq_u z 29 0) ar lr n I a b (2 * n.toNat) ∧ s.2 = σ.2) := by
  have n0 := M.W.2.1
  show pm_Fv (tq_P L xs) (153, 0, [(0, .ref 199), (1, .int (zI a)), (2, .int (zI b))], []) σ _
  refine pm_Fv.go 2 (f' := (153, 2, [(0, _), (1, _), (2, _)], [_, _])) rfl ?_
  refine pm_Fv.pz H 29 rfl rfl rfl (by decide) rfl rfl (Nat.le_of_ble_eq_true rfl) rfl (by decide) rfl (fun s1 H1 r1 => ?_)
  refine pm_Fv.go 1 (f' := (153, 6, [(0, _), (1, _), (2, _)], [_])) rfl ?_
  refine pm_Fv.cvF rfl rfl rfl rfl (by decide) (Nat.le_of_ble_eq_true rfl) (Nat.le_of_ble_eq_true rfl) H1.m199 H1.o199 (ev_arrange L xs H1 h.l0 M h.l3) (fun s2 q2 => ?_)
  obtain ⟨H2, r2⟩ := q2
  refine pm_Fv.go 2 (f' := (153, 11, [(0, _), (1, _), (2, _)], [_, _])) rfl ?_
  refine pm_Fv.pz H2 28 rfl rfl rfl (by decide) rfl rfl (Nat.le_of_ble_eq_true rfl) rfl (by decide) rfl (fun s3 H3 r3 => ?_)
  refine pm_Fv.go 2 (f' := (153, 16, [(3, _), (0, _), (1, _), (2, _)], [])) rfl ?_
  have s0 : mo_f3 (mo_or ar I n) (hq_g ar 204) (hq_g ar 205) (hq_g ar 206) = mo_or ar I n := mo_f3_self (mo_or ar I n)
  refine (ev_magL L xs (z := hq_u z 29 0) h M ha hb ht hr hdy n.toNat 0 s3 (by omega) ⟨hq_g ar 204, hq_g ar 205, hq_g ar 206, fun _ => 0, ?_, ?_, ?_⟩).mono (fun o s q => ⟨q.1, q.2.1, q.2.2.trans (r3.trans (r2.trans r1))⟩)
  · show Hp s3 ad (hq_u (hq_u (hq_u z 29 0) 27 n) 28 (fd_c _ ((0 : Nat) : Int))) _ lr
    rw [show ((0 : Nat) : Int) = 0 from rfl, fd_c_0, s0]
    exact H3
  · show so_S (fd_c _ ((0 : Nat) : Int)) _ _
    rw [show ((0 : Nat) : Int) = 0 from rfl, fd_c_0]
    exact so_S_0 _ _
  · intro i i0 i1
    have : i < fd_c _ ((0 : Nat) : Int) := i1
    rw [show ((0 : Nat) : Int) = 0 from rfl, fd_c_0] at this
    omega
end MS
