/-! move, promote and demote of both -/
theorem fo_hi_ex {D : Int → Int} {b : Int} : ∀ e, b < e → ∃ v, fo_hi D b e v := by
  have h := fs_ind (P := fun e => ∃ v, fo_hi D b e v) (a := b + 1) ⟨D b, fun x x0 x1 => by rw [show x = b by omega]; exact Int.le_refl _, b, Int.le_refl _, by omega, rfl⟩ (fun e be ⟨v, h1, x, x0, x1, x2⟩ => by
    by_cases c : D e ≤ v
    · refine ⟨v, fun y y0 y1 => ?_, x, x0, by omega, x2⟩
      by_cases d : y = e
      · rw [d]
        exact c
      · exact h1 y y0 (by omega)
    · refine ⟨D e, fun y y0 y1 => ?_, e, by omega, by omega, rfl⟩
      by_cases d : y = e
      · rw [d]
        exact Int.le_refl _
      · have := h1 y y0 (by omega)
        omega)
  intro e be
  exact h e (by omega)
theorem fo_next {D : Int → Int} {n y b : Int} (W : fo_W D n) (y0 : 0 ≤ y) (y1 : y < n) (b0 : 0 ≤ b) (b1 : b < n) (hp : fo_par D y = fo_par D b) (hl : fo_pl D y + 1 = fo_pl D b) : fo_end D n y = b ∧ y < b ∧ D y = D b := by
  have Pb := fo_par_P W b0 b1
  have db := fo_P_d W b0 b1 Pb
  have Py := fo_par_P W y0 y1
  have dy := fo_P_d W y0 y1 Py
  rw [hp] at dy Py
  have yb : y < b := by
    rcases Int.lt_trichotomy y b with c | c | c
    · exact c
    · rw [c] at hl
      omega
    · have := fo_pl_lt W b0 c y1 hp.symm
      omega
  have B := fo_end_B (D := D) (n := n) (p := y) y1
  have le : fo_end D n y ≤ b := by
    by_cases c : fo_end D n y ≤ b
    · exact c
    · have := B.2.2.1 b yb (by omega)
      omega
  refine ⟨?_, yb, by omega⟩
  by_cases c : fo_end D n y < b
  · exfalso
    have d1 := B.2.2.2 (by omega)
    have bb := B.1
    have pr := Pb.2.1
    have d2 := Pb.2.2.2 (fo_end D n y) (by have := Py.2.1; omega) c
    have P : fo_P D (fo_end D n y) (fo_par D b) := ⟨Pb.1, by have := Py.2.1; omega, by omega, fun q q1 q2 => by
      have := Pb.2.2.2 q q1 (by omega)
      omega⟩
    have pe := fo_par_eq W (p := fo_end D n y) (by omega) (by omega) P
    have l1 := fo_pl_lt W y0 bb (by omega) (by rw [hp, pe])
    have l2 := fo_pl_lt W (p := fo_end D n y) (q := b) (by omega) c b1 pe
    omega
  · omega
/-- where a branch goes when it is moved under r -/
theorem mv_pos {D : Int → Int} {n b e r k : Int} (W : fo_W D n) (b0 : 0 ≤ b) (B : fo_B D n b e) (r0 : -1 ≤ r) (r1 : r < n ∨ r = -1) (hr : r < b ∨ e ≤ r) (k0 : 0 ≤ k) (k1 : k ≤ fo_cc D n r - (if fo_par D b = r then 1 else 0)) :
    ∃ t c rr, r < t ∧ t ≤ fo_end D n r ∧ (t < fo_end D n r → D t = D r + 1 ∧ t ≠ b ∧ od_cw D r b (r + 1) t = k) ∧ od_cw D r b (r + 1) t ≤ k ∧ (t < b ∨ t = b ∨ e ≤ t) ∧ rr = (if r < b then r else r - (e - b)) ∧ ((t ≤ b ∧ c = t) ∨ (e ≤ t ∧ c = t - (e - b))) ∧ fo_A (fo_cut D b (e - b)) (n - (e - b)) rr c ∧ k = fo_c (fo_cut D b (e - b)) (fo_cut D b (e - b) rr + 1) (rr + 1) c ∧ fo_cut D b (e - b) rr = D r := by
  have be := B.1
  have en := B.2.1
  have Br := fo_end_B' W r0 r1
  have Pb := fo_par_P W b0 (by omega)
  have tot : od_cw D r b (r + 1) (fo_end D n r) = fo_cc D n r - (if fo_par D b = r then 1 else 0) := by
    unfold od_cw fo_cc fo_c
    by_cases c : r < b ∧ b < fo_end D n r ∧ D b = D r + 1
    · have P := (fo_child W r0 r1 b0 (by omega)).2 c
      rw [if_pos (fo_par_eq W b0 (by omega) P), fs_pt (f := fun q => if D q = D r + 1 then 1 else 0) (x := b) (by omega) c.2.1, if_pos c.2.2]
      rw [fs_cg (g := fun q => if q = b then 0 else if D q = D r + 1 then 1 else 0) (fun q q0 q1 => by
        by_cases x : q = b
        · rw [if_neg (by omega), if_pos x]
        · rw [if_neg x]
          by_cases y : D q = D r + 1
          · rw [if_pos y, if_pos ⟨y, x⟩]
          · rw [if_neg y, if_neg (by omega)])]
      omega
    · have np : fo_par D b ≠ r := fun q => c ((fo_child W r0 r1 b0 (by omega)).1 (by rw [← q]; exact Pb))
      rw [if_neg np, Int.sub_zero]
      refine fs_cg (fun q q0 q1 => ?_)
      by_cases y : D q = D r + 1
      · rw [if_pos y, if_pos ⟨y, fun x => c ⟨by omega, by omega, by rw [← x]; exact y⟩⟩]
      · rw [if_neg y, if_neg (by omega)]
  have ht : ∃ t, r < t ∧ t ≤ fo_end D n r ∧ (t < fo_end D n r → D t = D r + 1 ∧ t ≠ b) ∧ od_cw D r b (r + 1) t = k := by
    by_cases c : k < fo_cc D n r - (if fo_par D b = r then 1 else 0)
    · have e1 : ∀ x y, od_cw D r b x y = fo_c (fun q => if q = b then D r else D q) (D r + 1) x y := by
        intro x y
        unfold od_cw fo_c
        refine fs_cg (fun q _ _ => ?_)
        show (if D q = D r + 1 ∧ q ≠ b then (1 : Int) else 0) = if (if q = b then D r else D q) = D r + 1 then 1 else 0
        by_cases u : q = b
        · rw [if_neg (by omega), if_pos u, if_neg (by omega)]
        · rw [if_neg u]
          by_cases v : D q = D r + 1
          · rw [if_pos v, if_pos ⟨v, u⟩]
          · rw [if_neg v, if_neg (by omega)]
      rw [← tot, e1] at c
      obtain ⟨p, p0, p1, p2, p3⟩ := fo_kth (fo_end D n r) (by omega) k k0 c
      rw [← e1] at p3
      have p2 : (if p = b then D r else D p) = D r + 1 := p2
      have pb : p ≠ b := fun u => by
        rw [if_pos u] at p2
        omega
      rw [if_neg pb] at p2
      exact ⟨p, by omega, by omega, fun _ => ⟨p2, pb⟩, p3⟩
    · exact ⟨fo_end D n r, Br.1, Int.le_refl _, fun q => absurd q (by omega), by rw [tot]; omega⟩
  obtain ⟨t, t0, t1, t2, t3⟩ := ht
  have tin : t < b ∨ t = b ∨ e ≤ t := by
    by_cases c : b < t ∧ t < e
    · exfalso
      have rb : r < b := by omega
      have db := Br.2.2.1 b rb (by omega)
      have dt := B.2.2.1 t c.1 c.2
      by_cases d : t < fo_end D n r
      · have := t2 d
        omega
      · have q : t = fo_end D n r := by omega
        have := Br.2.2.2 (by omega)
        rw [q] at dt
        omega
    · omega
  have rcut : ∀ rr, rr = (if r < b then r else r - (e - b)) → fo_cut D b (e - b) rr = D r := by
    intro rr hrr
    by_cases c : r < b
    · rw [hrr, if_pos c, fo_cut_lt c]
    · rw [hrr, if_neg c, fo_cut_ge (by omega), show r - (e - b) + (e - b) = r by omega]
  have W1 := fo_cut_W W b0 B
  -- t <= b
  by_cases tb : t ≤ b
  · have rb : r < b := by omega
    refine ⟨t, t, r, t0, t1, fun q => ⟨(t2 q).1, (t2 q).2, t3⟩, by omega, tin, by rw [if_pos rb], Or.inl ⟨tb, rfl⟩, ⟨r0, by omega, t0, ?_, fun q => ?_⟩, ?_, fo_cut_lt rb⟩
    · refine fo_end_ge W1 r0 (by omega) (by omega) (fun q q0 q1 => ?_)
      rw [fo_cut_lt rb, fo_cut_lt (by omega)]
      exact Br.2.2.1 q q0 (by omega)
    · rw [fo_cut_lt rb]
      by_cases x : t < b
      · rw [fo_cut_lt x]
        by_cases y : t < fo_end D n r
        · have := (t2 y).1
          omega
        · have y2 : t = fo_end D n r := by omega
          have := Br.2.2.2 (by omega)
          rw [y2]
          omega
      · have x2 : t = b := by omega
        have y2 : t = fo_end D n r := by
          by_cases y : t < fo_end D n r
          · exact absurd x2 (t2 y).2
          · omega
        rw [x2, fo_cut_ge (Int.le_refl b), show b + (e - b) = e by omega]
        have z1 := B.2.2.2 (by omega)
        have z2 := Br.2.2.2 (by omega)
        rw [← y2, x2] at z2
        omega
    · rw [fo_cut_lt rb, ← t3]
      unfold od_cw fo_c
      refine fs_cg (fun q q0 q1 => ?_)
      rw [fo_cut_lt (by omega)]
      by_cases v : D q = D r + 1
      · rw [if_pos v, if_pos ⟨v, by omega⟩]
      · rw [if_neg v, if_neg (by omega)]
  · have te : e ≤ t := by omega
    have dlast : t - (e - b) < n - (e - b) → D t ≤ D r + 1 := fun q => by
      by_cases y : t < fo_end D n r
      · have := (t2 y).1
        omega
      · have y2 : t = fo_end D n r := by omega
        have := Br.2.2.2 (by omega)
        rw [y2]
        omega
    by_cases rb : r < b
    · have db := Br.2.2.1 b rb (by omega)
      refine ⟨t, t - (e - b), r, t0, t1, fun q => ⟨(t2 q).1, (t2 q).2, t3⟩, by omega, tin, by rw [if_pos rb], Or.inr ⟨te, rfl⟩, ⟨r0, by omega, by omega, ?_, fun q => ?_⟩, ?_, fo_cut_lt rb⟩
      · refine fo_end_ge W1 r0 (by omega) (by omega) (fun q q0 q1 => ?_)
        rw [fo_cut_lt rb]
        by_cases x : q < b
        · rw [fo_cut_lt x]
          exact Br.2.2.1 q q0 (by omega)
        · rw [fo_cut_ge (by omega)]
          exact Br.2.2.1 _ (by omega) (by omega)
      · rw [fo_cut_lt rb, fo_cut_ge (by omega), show t - (e - b) + (e - b) = t by omega]
        exact dlast q
      · rw [fo_cut_lt rb, ← t3]
        have s1 : od_cw D r b (r + 1) t = od_cw D r b (r + 1) b + (od_cw D r b b e + od_cw D r b e t) := by
          unfold od_cw
          rw [fs_sp (b := b) (c := t) (by omega) (by omega), fs_sp (a := b) (b := e) (c := t) (by omega) (by omega)]
        have s2 : od_cw D r b b e = 0 := by
          unfold od_cw
          refine fs_z (fun q q0 q1 => ?_)
          by_cases x : q = b
          · rw [if_neg (by omega)]
          · have := B.2.2.1 q (by omega) q1
            rw [if_neg (by omega)]
        have s3 : od_cw D r b (r + 1) b = fo_c (fo_cut D b (e - b)) (D r + 1) (r + 1) b := by
          unfold od_cw fo_c
          refine fs_cg (fun q q0 q1 => ?_)
          rw [fo_cut_lt q1]
          by_cases v : D q = D r + 1
          · rw [if_pos v, if_pos ⟨v, by omega⟩]
          · rw [if_neg v, if_neg (by omega)]
        have s4 : od_cw D r b e t = fo_c (fo_cut D b (e - b)) (D r + 1) b (t - (e - b)) := by
          have q := fo_c_sh (D := fo_cut D b (e - b)) (E := D) (v := D r + 1) (w := D r + 1) (a := b) (b := t - (e - b)) (k := e - b) (fun q q0 q1 => by rw [fo_cut_ge q0])
          rw [q, show b + (e - b) = e by omega, show t - (e - b) + (e - b) = t by omega]
          unfold od_cw fo_c
          refine fs_cg (fun q q0 q1 => ?_)
          by_cases v : D q = D r + 1
          · rw [if_pos v, if_pos ⟨v, by omega⟩]
          · rw [if_neg v, if_neg (by omega)]
        rw [s1, s2, s3, s4, fo_c_sp (a := r + 1) (b := b) (c := t - (e - b)) (by omega) (by omega)]
        omega
    · refine ⟨t, t - (e - b), r - (e - b), t0, t1, fun q => ⟨(t2 q).1, (t2 q).2, t3⟩, by omega, tin, by rw [if_neg rb], Or.inr ⟨te, rfl⟩, ⟨by omega, by omega, by omega, ?_, fun q => ?_⟩, ?_, rcut (r - (e - b)) (by rw [if_neg rb])⟩
      · refine fo_end_ge W1 (by omega) (by omega) (by omega) (fun q q0 q1 => ?_)
        rw [rcut (r - (e - b)) (by rw [if_neg rb]), fo_cut_ge (by omega)]
        exact Br.2.2.1 _ (by omega) (by omega)
      · rw [rcut (r - (e - b)) (by rw [if_neg rb]), fo_cut_ge (by omega), show t - (e - b) + (e - b) = t by omega]
        exact dlast q
      · rw [rcut (r - (e - b)) (by rw [if_neg rb]), ← t3]
        have q := fo_c_sh (D := fo_cut D b (e - b)) (E := D) (v := D r + 1) (w := D r + 1) (a := r - (e - b) + 1) (b := t - (e - b)) (k := e - b) (fun q q0 q1 => by rw [fo_cut_ge (by omega)])
        rw [q, show r - (e - b) + 1 + (e - b) = r + 1 by omega, show t - (e - b) + (e - b) = t by omega]
        unfold od_cw fo_c
        refine fs_cg (fun q q0 q1 => ?_)
        by_cases v : D q = D r + 1
        · rw [if_pos v, if_pos ⟨v, by omega⟩]
        · rw [if_neg v, if_neg (by omega)]
theorem mo_cy_K {g : Int → Int → Int} {m e p k : Int} (K : mo_K g) (S : ∀ e, g e 0 = 1 → -1000 ≤ g e 2 ∧ g e 2 ≤ 1000) (hp : -2147483648 ≤ p ∧ p ≤ 2147483647) (hk : -2147483648 ≤ k ∧ k ≤ 2147483647) : mo_K (mo_cy g m e p k) := by
  have S0 : mo_L g := fun e h => by
    have := S e h
    omega
  have L1 : mo_L (mo_sh g m (g e 1) (g e 2 + 1) (-1)) := fun a h => by
    have := mo_sh_L (u := 1000) S (by omega) (by omega) a h
    omega
  exact mo_pt_K (mo_pt_K (mo_sh_K (mo_pt_K (mo_sh_K K S0 (by omega)) (by decide)) (mo_pt_L L1) (by omega)) hp) hk
theorem mo_cy_f {g : Int → Int → Int} {m x p k e f : Int} (h1 : f ≠ 1) (h2 : f ≠ 2) : mo_cy g m x p k e f = g e f := by
  unfold mo_cy
  rw [mo_pt_f h2, mo_pt_f h1, mo_sh_f h2, mo_pt_f h1, mo_sh_f h2]
theorem mo_cy_n {g : Int → Int → Int} {m x p k e f : Int} (hx : e ≠ x) (h : g e 0 ≠ 1 ∨ m ≤ e) : mo_cy g m x p k e f = g e f := by
  have e0 : mo_pt (mo_sh g m (g x 1) (g x 2 + 1) (-1)) x 1 (-2) e 0 = g e 0 := by rw [mo_pt_f (by decide), mo_sh_f (by decide)]
  unfold mo_cy
  rw [mo_pt_e hx, mo_pt_e hx]
  generalize hy : mo_pt (mo_sh g m (g x 1) (g x 2 + 1) (-1)) x 1 (-2) = y at e0
  unfold mo_sh
  rw [if_neg (by rw [e0]; omega), ← hy, mo_pt_e hx]
  unfold mo_sh
  rw [if_neg (by omega)]
section JJ
variable (L : Nat) (xs : Nat → Int32)
variable {N : Nat} {σ s t : pm_S} {ad : Nat → Nat} {z z' : Nat → Int} {ar ar' : Nat → Nat × (Nat → Int32)} {lr lr' : Nat → Nat × (Nat → Int64)} {Cs : Int → Int → Int} {k0 : Int} {l0 : Int64}
theorem car_fin {z2 : Nat → Int} {ar2 : Nat → Nat × (Nat → Int32)} {ad2 : Nat → Nat} {b e r r1 c u x kk : Int} (n5 : N ≤ 600) (X : HX Cs z ar) (F : FX z ar lr) (cn : z 1 ≤ N ∧ z 21 ≤ N ∧ z 6 ≤ N) (rm : σ.2.2 + 357479 ≤ 6 * N + 2 * hq_po ar lr ∧ 4 * σ.2.1 + 356931 ≤ 4 * N + hq_po ar lr) (E : od_E (Cs (z 21)) (hq_g ar 190) z ar z' ar') (b0 : 0 ≤ b) (B : fo_B (oD (hq_g ar 190)) (hq_g ar 190 0) b e) (hr0 : -1 ≤ r) (hrn : r < (hq_g ar 190 0) ∨ r = -1) (hr : r < b ∨ e ≤ r) (hr1 : r1 = if r < b then r else r - (e - b)) (A : fo_A (fo_cut (oD (hq_g ar 190)) b (e - b)) ((hq_g ar 190 0) - (e - b)) r1 c) (ht : (u ≤ b ∧ c = u) ∨ (e ≤ u ∧ c = u - (e - b))) (hu : 0 ≤ u ∧ u ≤ (hq_g ar 190 0)) (hx : x = fo_cut (oD (hq_g ar 190)) b (e - b) r1 + 1 - (oD (hq_g ar 190)) b) (h12 : ∀ q, b ≤ q → q < e → (oD (hq_g ar 190)) q + x ≤ 12)
    (c1 : ∀ q, 0 ≤ q → q < 400 → hq_g ar' 190 (1 + q) = hq_g ar 190 (1 + od_ps b e u q)) (c2 : hq_g ar' 190 0 = hq_g ar 190 0) (c3 : ∀ q, b ≤ q → q < e → hq_g ar' 190 (401 + (oI (hq_g ar 190)) q * 16 + 2) = oV (hq_g ar 190) ((oI (hq_g ar 190)) q) 2 + x) (c4 : ∀ i, 401 ≤ i → (∀ q, b ≤ q → q < e → i ≠ 401 + (oI (hq_g ar 190)) q * 16 + 2) → hq_g ar' 190 i = hq_g ar 190 i)
    (hk : kk = fo_c (fo_cut (oD (hq_g ar 190)) b (e - b)) (fo_cut (oD (hq_g ar 190)) b (e - b) r1 + 1) (r1 + 1) c) (kr : -2147483648 ≤ kk ∧ kk ≤ 2147483647) (hd : mo_ed (hq_u (hw_ee z') 29 0) ar' (mo_cy (mo_g ar) (z 8) ((oI (hq_g ar 190)) b) (fo_id (oI (hq_g ar 190)) r) kk) z2 ar2) (Ht : Hp t ad2 z2 ar2 lr') (k0 : 16 ≤ (lr' 0).1 ∧ (lr' 0).1 ≤ 1600) (k1 : (lr' 1).1 = 1) (ke : (lr' 0).1 = (lr 0).1) (m : hq_rm σ ar lr s ar' lr) (rt : t.2 = s.2) : JX (N + 1) t 0 ((lr' 1).2 0) := by
  have be := B.1
  have en := B.2.1
  have i0 := X.rr.N.J.1 b b0 (by omega)
  have i1 := X.rr.N.lt b b0 (by omega)
  have m4 := X.rr.N.m4
  have nm := X.rr.N.nm
  have md := X.mid E
  have idr := X.mr.idr hr0 hrn
  have R' := X.rr.car b0 B hr0 hrn hr hr1 A ht hx h12 c1 c2 c3 c4
  rw [← hk] at R'
  have t1 : mo_g ar ((oI (hq_g ar 190)) b) 0 = 1 := X.mr.t1 b0 (by omega)
  have chg := row_chg X.rr R' c2 (fun i i0 hne => by
    by_cases x1 : i = 0
    · rw [x1] at hne
      exact absurd c2 hne
    · by_cases x2 : i < 401
      · by_cases x3 : i - 1 < (hq_g ar 190 0)
        · exact Or.inl ⟨i - 1, by omega, x3, by omega⟩
        · exfalso
          have q := c1 (i - 1) (by omega) (by omega)
          have ps : od_ps b e u (i - 1) = i - 1 := by
            unfold od_ps
            by_cases y : u < b
            · rw [if_pos y, if_neg (by omega), if_neg (by omega)]
            · rw [if_neg y, if_neg (by omega), if_neg (by omega)]
          rw [ps, show 1 + (i - 1) = i by omega] at q
          exact hne q
      · refine Classical.byContradiction fun h => hne (c4 i (by omega) (fun q q0 q1 e => h (Or.inr ⟨q, by omega, by omega, e⟩)))) (fun e f f1 f2 => mo_cy_f f1 f2) (fun e e0 e4 he f => mo_cy_n (fun q => he (by rw [q]; exact t1)) (Or.inl he))
  exact ed_fin n5 X F cn rm E (fun k _ _ h29 => hq_u_ne h29) md.2.2.1 (fun _ _ => rfl) (fun _ => rfl) hd (mo_cy_K (mo_g_K ar) X.sml (by omega) kr) (fun e f e4 _ _ => mo_cy_n (by omega) (Or.inr (by omega))) R' chg Ht k0 k1 ke m rt
theorem st_promote (J : JX N σ k0 l0) (n5 : N ≤ 600) {p : Int} (hp : -2147483648 ≤ p ∧ p ≤ 2147483647) : SV L xs N σ 176 [.ref 0, .int (zI p)] 125 [.ref 199, .int (zI p)] := by
  obtain ⟨ad, z, ar, lr, Cs, H, X, F, cn, e29, el, rm⟩ := J
  have hl := X.w.le
  have Nn := X.rr.N
  have M := X.mr
  have mh := X.mh
  rcases cs_T (oI (hq_g ar 190)) (hq_g ar 190 0) p with ⟨b, b0, b1, rfl⟩ | n2
  · have B := fo_end_B (D := (oD (hq_g ar 190))) b1
    have bb := B.1
    have be := B.2.1
    have nm := Nn.nm
    have m4 := Nn.m4
    have c1 := cn.1
    have i0 := Nn.J.1 b b0 b1
    have i1 := Nn.lt b b0 b1
    have P := fo_par_P Nn.W b0 b1
    have pd := fo_P_d Nn.W b0 b1 P
    have p0 := P.1
    have p1 := P.2.1
    obtain ⟨v, hv⟩ := fo_hi_ex (D := (oD (hq_g ar 190))) (b := b) (fo_end (oD (hq_g ar 190)) (hq_g ar 190 0) b) bb
    have hb := hv.1 b (Int.le_refl b) bb
    have vv : v ≤ 12 := by
      obtain ⟨y, y0, y1, y2⟩ := hv.2
      have := Nn.dp y (by omega) (by omega)
      omega
    have db := Nn.dr (p := b) (by omega) (Or.inl b1)
    by_cases c : (fo_par (oD (hq_g ar 190)) b) = -1
    · exact SV.ref L xs H X F cn rm (by decide) (wr_promote2 L xs H (ev_dpromote2 L xs H hl Nn b0 b1 c)) (fun s Hs => ev_mpromote2 L xs Hs mh M b0 b1 c)
    · have q0 : 0 ≤ (fo_par (oD (hq_g ar 190)) b) := by omega
      have q1 : (fo_par (oD (hq_g ar 190)) b) < (hq_g ar 190 0) := by omega
      have Q := fo_par_P Nn.W q0 q1
      have qd := fo_P_d Nn.W q0 q1 Q
      have r0 := Q.1
      have r1 := Q.2.1
      have BP := fo_end_B (D := (oD (hq_g ar 190))) (n := (hq_g ar 190 0)) (p := (fo_par (oD (hq_g ar 190)) b)) q1
      have sub := fo_B_sub P B BP
      have bp2 := BP.2.1
      have pl := fo_plcc Nn.W r0 (Or.inl (show (fo_par (oD (hq_g ar 190)) (fo_par (oD (hq_g ar 190)) b)) < (hq_g ar 190 0) by omega)) q0 q1 rfl
      have Br := fo_end_B' Nn.W r0 (Or.inl (show (fo_par (oD (hq_g ar 190)) (fo_par (oD (hq_g ar 190)) b)) < (hq_g ar 190 0) by omega))
      have bpr := (fo_B_sub Q BP (fo_end_B (D := (oD (hq_g ar 190))) (n := (hq_g ar 190 0)) (p := (fo_par (oD (hq_g ar 190)) (fo_par (oD (hq_g ar 190)) b))) (by omega))).2
      have W1 := fo_cut_W Nn.W b0 B
      have rl : fo_cut (oD (hq_g ar 190)) b ((fo_end (oD (hq_g ar 190)) (hq_g ar 190 0) b) - b) (fo_par (oD (hq_g ar 190)) (fo_par (oD (hq_g ar 190)) b)) = (oD (hq_g ar 190)) (fo_par (oD (hq_g ar 190)) (fo_par (oD (hq_g ar 190)) b)) := fo_cut_lt (by omega)
      have AA : fo_A (fo_cut (oD (hq_g ar 190)) b ((fo_end (oD (hq_g ar 190)) (hq_g ar 190 0) b) - b)) ((hq_g ar 190 0) - ((fo_end (oD (hq_g ar 190)) (hq_g ar 190 0) b) - b)) (fo_par (oD (hq_g ar 190)) (fo_par (oD (hq_g ar 190)) b)) (fo_end (oD (hq_g ar 190)) (hq_g ar 190 0) (fo_par (oD (hq_g ar 190)) b) - ((fo_end (oD (hq_g ar 190)) (hq_g ar 190 0) b) - b)) := by
        refine ⟨r0, by omega, by omega, ?_, fun q => ?_⟩
        · refine fo_end_ge W1 r0 (by omega) (by omega) (fun q q0 q1 => ?_)
          rw [rl]
          by_cases x : q < b
          · rw [fo_cut_lt x]
            exact Br.2.2.1 q q0 (by omega)
          · rw [fo_cut_ge (by omega)]
            exact Br.2.2.1 _ (by omega) (by omega)
        · rw [rl, fo_cut_ge (by omega), show fo_end (oD (hq_g ar 190)) (hq_g ar 190 0) (fo_par (oD (hq_g ar 190)) b) - ((fo_end (oD (hq_g ar 190)) (hq_g ar 190 0) b) - b) + ((fo_end (oD (hq_g ar 190)) (hq_g ar 190 0) b) - b) = fo_end (oD (hq_g ar 190)) (hq_g ar 190 0) (fo_par (oD (hq_g ar 190)) b) by omega]
          have := BP.2.2.2 (by omega)
          omega
      have kk : fo_pl (oD (hq_g ar 190)) (fo_par (oD (hq_g ar 190)) b) + 1 = fo_c (fo_cut (oD (hq_g ar 190)) b ((fo_end (oD (hq_g ar 190)) (hq_g ar 190 0) b) - b)) (fo_cut (oD (hq_g ar 190)) b ((fo_end (oD (hq_g ar 190)) (hq_g ar 190 0) b) - b) (fo_par (oD (hq_g ar 190)) (fo_par (oD (hq_g ar 190)) b)) + 1) ((fo_par (oD (hq_g ar 190)) (fo_par (oD (hq_g ar 190)) b)) + 1) (fo_end (oD (hq_g ar 190)) (hq_g ar 190 0) (fo_par (oD (hq_g ar 190)) b) - ((fo_end (oD (hq_g ar 190)) (hq_g ar 190 0) b) - b)) := by
        rw [rl, fo_c_sp (b := (fo_par (oD (hq_g ar 190)) b)) (by omega) (by omega), fo_c_l (a := (fo_par (oD (hq_g ar 190)) b)) (by omega), if_pos (by rw [fo_cut_lt p1]; omega), pl.2.1, fo_c_z (a := (fo_par (oD (hq_g ar 190)) b) + 1) (fun q q0 q1 => ?_)]
        · rw [fo_c_cg (D := fo_cut (oD (hq_g ar 190)) b ((fo_end (oD (hq_g ar 190)) (hq_g ar 190 0) b) - b)) (E := (oD (hq_g ar 190))) (v := (oD (hq_g ar 190)) (fo_par (oD (hq_g ar 190)) (fo_par (oD (hq_g ar 190)) b)) + 1) (w := (oD (hq_g ar 190)) (fo_par (oD (hq_g ar 190)) (fo_par (oD (hq_g ar 190)) b)) + 1) (a := (fo_par (oD (hq_g ar 190)) (fo_par (oD (hq_g ar 190)) b)) + 1) (b := (fo_par (oD (hq_g ar 190)) b)) (fun q q0 q1 => by rw [fo_cut_lt (by omega)])]
          omega
        · by_cases x : q < b
          · rw [fo_cut_lt x]
            have := BP.2.2.1 q (by omega) (by omega)
            omega
          · rw [fo_cut_ge (by omega)]
            have := BP.2.2.1 (q + ((fo_end (oD (hq_g ar 190)) (hq_g ar 190 0) b) - b)) (by omega) (by omega)
            omega
      have g2 : mo_g ar (fo_id (oI (hq_g ar 190)) (fo_par (oD (hq_g ar 190)) b)) 2 = fo_pl (oD (hq_g ar 190)) (fo_par (oD (hq_g ar 190)) b) := by
        rw [fo_id_at q0]
        exact (M.R (fo_par (oD (hq_g ar 190)) b) q0 q1).2
      have plr := M.pl q0 q1
      rw [(M.R (fo_par (oD (hq_g ar 190)) b) q0 q1).2] at plr
      refine (wr_promoteV L xs H (ev_dpromote0 L xs H X.w X.h7 (by omega) X.h5 Nn b0 b1 F.l9 c)).mono ?_
      rintro o s ⟨rfl, ad1, z1, ar1, H1, E1, g1, gz2, g3, g4, m1⟩
      obtain ⟨mh1, gg, e23, M1, S1, e26⟩ := X.mid E1
      refine ⟨0, by decide, rfl, ⟨_, _, _, _, H1⟩, (ev_mpromote0 L xs H1 mh1 M1 b0 b1 S1 c).mono ?_⟩
      rintro o t9 ⟨rfl, ⟨z2, ar2, hd, Ht⟩, rt⟩
      rw [gg, e23, g2] at hd
      exact ⟨rfl, _, car_fin n5 X F cn rm E1 b0 B r0 (Or.inl (show (fo_par (oD (hq_g ar 190)) (fo_par (oD (hq_g ar 190)) b)) < (hq_g ar 190 0) by omega)) (Or.inl (by omega)) (by rw [if_pos (by omega)]) AA (Or.inr ⟨sub.2, rfl⟩) (by omega) (by rw [rl]; omega) (fun q q0 q1 => by have := hv.1 q q0 q1; omega) g1 gz2 g3 g4 kk (by omega) hd Ht F.kl F.o1 rfl m1 rt⟩
  · exact SV.ref L xs H X F cn rm (by decide) (wr_promote1 L xs H (ev_dpromote1 L xs H hl Nn hp n2)) (fun s Hs => ev_mpromote1 L xs Hs mh M hp n2)
theorem st_demote (J : JX N σ k0 l0) (n5 : N ≤ 600) {p : Int} (hp : -2147483648 ≤ p ∧ p ≤ 2147483647) : SV L xs N σ 177 [.ref 0, .int (zI p)] 126 [.ref 199, .int (zI p)] := by
  obtain ⟨ad, z, ar, lr, Cs, H, X, F, cn, e29, el, rm⟩ := J
  have hl := X.w.le
  have Nn := X.rr.N
  have M := X.mr
  have mh := X.mh
  rcases cs_T (oI (hq_g ar 190)) (hq_g ar 190 0) p with ⟨b, b0, b1, rfl⟩ | n2
  · have B := fo_end_B (D := (oD (hq_g ar 190))) b1
    have bb := B.1
    have be := B.2.1
    have nm := Nn.nm
    have m4 := Nn.m4
    have c1 := cn.1
    have i0 := Nn.J.1 b b0 b1
    have i1 := Nn.lt b b0 b1
    have P := fo_par_P Nn.W b0 b1
    have pd := fo_P_d Nn.W b0 b1 P
    have p0 := P.1
    have p1 := P.2.1
    obtain ⟨v, hv⟩ := fo_hi_ex (D := (oD (hq_g ar 190))) (b := b) (fo_end (oD (hq_g ar 190)) (hq_g ar 190 0) b) bb
    have hb := hv.1 b (Int.le_refl b) bb
    have vv : v ≤ 12 := by
      obtain ⟨y, y0, y1, y2⟩ := hv.2
      have := Nn.dp y (by omega) (by omega)
      omega
    have db := Nn.dr (p := b) (by omega) (Or.inl b1)
    by_cases c : fo_pl (oD (hq_g ar 190)) b = 0
    · exact SV.ref L xs H X F cn rm (by decide) (wr_demote2 L xs H (ev_ddemote2 L xs H hl Nn b0 b1 c)) (fun s Hs => ev_mdemote2 L xs Hs mh M b0 b1 c)
    · by_cases d : v + 1 ≤ 12
      · have pl := fo_plcc Nn.W p0 (show (fo_par (oD (hq_g ar 190)) b) < (hq_g ar 190 0) ∨ (fo_par (oD (hq_g ar 190)) b) = -1 by omega) b0 b1 rfl
        obtain ⟨cp, hcp⟩ := fo_cp_ex Nn.W p0 (show (fo_par (oD (hq_g ar 190)) b) < (hq_g ar 190 0) ∨ (fo_par (oD (hq_g ar 190)) b) = -1 by omega)
        have hy := hcp (fo_pl (oD (hq_g ar 190)) b - 1) (by omega) (by omega)
        generalize cp (fo_pl (oD (hq_g ar 190)) b - 1) = y at hy
        obtain ⟨_, _, _, y0, y1, yp, yl⟩ := hy
        have nx := fo_next Nn.W y0 y1 b0 b1 yp (by omega)
        have By := fo_end_B (D := (oD (hq_g ar 190))) (n := (hq_g ar 190 0)) (p := y) y1
        have W1 := fo_cut_W Nn.W b0 B
        have rl : fo_cut (oD (hq_g ar 190)) b ((fo_end (oD (hq_g ar 190)) (hq_g ar 190 0) b) - b) y = (oD (hq_g ar 190)) y := fo_cut_lt nx.2.1
        have cy := fo_cc_r Nn.W (show -1 ≤ y by omega) (Or.inl y1)
        have AA : fo_A (fo_cut (oD (hq_g ar 190)) b ((fo_end (oD (hq_g ar 190)) (hq_g ar 190 0) b) - b)) ((hq_g ar 190 0) - ((fo_end (oD (hq_g ar 190)) (hq_g ar 190 0) b) - b)) y b := by
          refine ⟨by omega, by omega, nx.2.1, ?_, fun q => ?_⟩
          · refine fo_end_ge W1 (by omega) (by omega) (by omega) (fun q q0 q1 => ?_)
            rw [rl, fo_cut_lt q1]
            exact By.2.2.1 q q0 (by omega)
          · rw [rl, fo_cut_ge (Int.le_refl b), show b + ((fo_end (oD (hq_g ar 190)) (hq_g ar 190 0) b) - b) = (fo_end (oD (hq_g ar 190)) (hq_g ar 190 0) b) by omega]
            have := B.2.2.2 (by omega)
            omega
        have kk : fo_cc (oD (hq_g ar 190)) (hq_g ar 190 0) y = fo_c (fo_cut (oD (hq_g ar 190)) b ((fo_end (oD (hq_g ar 190)) (hq_g ar 190 0) b) - b)) (fo_cut (oD (hq_g ar 190)) b ((fo_end (oD (hq_g ar 190)) (hq_g ar 190 0) b) - b) y + 1) (y + 1) b := by
          unfold fo_cc
          rw [rl, nx.1]
          exact fo_c_cg (fun q q0 q1 => by rw [fo_cut_lt q1])
        have iy : (oI (hq_g ar 190)) y = fo_id (oI (hq_g ar 190)) y := (fo_id_at y0).symm
        refine (wr_demoteV L xs H (ev_ddemote0 L xs H X.w X.h7 (by omega) X.h5 Nn b0 b1 F.l9 hv c d)).mono ?_
        rintro o s ⟨rfl, ad1, z1, ar1, H1, E1, g1, g2, g3, g4, m1⟩
        obtain ⟨mh1, gg, e23, M1, S1, e26⟩ := X.mid E1
        refine ⟨0, by decide, rfl, ⟨_, _, _, _, H1⟩, (ev_mdemote0 L xs H1 mh1 M1 b0 b1 S1 hv y0 y1 yp yl c d).mono ?_⟩
        rintro o t9 ⟨rfl, ⟨z2, ar2, hd, Ht⟩, rt⟩
        rw [gg, e23, iy] at hd
        exact ⟨rfl, _, car_fin n5 X F cn rm E1 b0 B (show -1 ≤ y by omega) (Or.inl y1) (Or.inl nx.2.1) (by rw [if_pos nx.2.1]) AA (Or.inl ⟨Int.le_refl b, rfl⟩) (by omega) (by rw [rl]; omega) (fun q q0 q1 => by have := hv.1 q q0 q1; omega) g1 g2 g3 g4 kk (by omega) hd Ht F.kl F.o1 rfl m1 rt⟩
      · exact SV.ref L xs H X F cn rm (by decide) (wr_demote3 L xs H (ev_ddemote3 L xs H hl Nn b0 b1 hv c (by omega))) (fun s Hs => ev_mdemote3 L xs Hs mh M b0 b1 hv c (by omega))
  · exact SV.ref L xs H X F cn rm (by decide) (wr_demote1 L xs H (ev_ddemote1 L xs H hl Nn hp n2)) (fun s Hs => ev_mdemote1 L xs Hs mh M hp n2)
theorem st_move (J : JX N σ k0 l0) (n5 : N ≤ 600) {p : Int} (hp : -2147483648 ≤ p ∧ p ≤ 2147483647) {q : Int} (hq : -2147483648 ≤ q ∧ q ≤ 2147483647) {k : Int} (hk : -2147483648 ≤ k ∧ k ≤ 2147483647) : SV L xs N σ 175 [.ref 0, .int (zI p), .int (zI q), .int (zI k)] 124 [.ref 199, .int (zI p), .int (zI q), .int (zI k)] := by
  obtain ⟨ad, z, ar, lr, Cs, H, X, F, cn, e29, el, rm⟩ := J
  have hl := X.w.le
  have Nn := X.rr.N
  have M := X.mr
  have mh := X.mh
  rcases cs_T (oI (hq_g ar 190)) (hq_g ar 190 0) p with ⟨b, b0, b1, rfl⟩ | n2
  · have B := fo_end_B (D := (oD (hq_g ar 190))) b1
    have bb := B.1
    have be := B.2.1
    have nm := Nn.nm
    have m4 := Nn.m4
    have c1 := cn.1
    have i0 := Nn.J.1 b b0 b1
    have i1 := Nn.lt b b0 b1
    have P := fo_par_P Nn.W b0 b1
    have pd := fo_P_d Nn.W b0 b1 P
    have p0 := P.1
    have p1 := P.2.1
    obtain ⟨v, hv⟩ := fo_hi_ex (D := (oD (hq_g ar 190))) (b := b) (fo_end (oD (hq_g ar 190)) (hq_g ar 190 0) b) bb
    have hb := hv.1 b (Int.le_refl b) bb
    have vv : v ≤ 12 := by
      obtain ⟨y, y0, y1, y2⟩ := hv.2
      have := Nn.dp y (by omega) (by omega)
      omega
    have db := Nn.dr (p := b) (by omega) (Or.inl b1)
    rcases cs_P (oI (hq_g ar 190)) (hq_g ar 190 0) q with ⟨r, u0, u1, rfl⟩ | ⟨m1, m2⟩
    · by_cases c : b ≤ r ∧ r < (fo_end (oD (hq_g ar 190)) (hq_g ar 190 0) b)
      · exact SV.ref L xs H X F cn rm (by decide) (wr_move2 L xs H (ev_dmove2 L xs H hl Nn b0 b1 u0 u1 c)) (fun s Hs => ev_mmove2 L xs Hs mh M b0 b1 u0 u1 c)
      · by_cases d : 0 ≤ k ∧ k ≤ (fo_cc (oD (hq_g ar 190)) (hq_g ar 190 0) r - (if fo_par (oD (hq_g ar 190)) b = r then 1 else 0))
        · by_cases e : (oD (hq_g ar 190)) r + (v - (oD (hq_g ar 190)) b + 1) ≤ 12
          · have cc := fo_cc_r Nn.W u0 u1
            have Br := fo_end_B' Nn.W u0 u1
            have kr : k ≤ fo_cc (oD (hq_g ar 190)) (hq_g ar 190 0) r := by
              have : (0 : Int) ≤ (if fo_par (oD (hq_g ar 190)) b = r then 1 else 0) := by
                split <;> decide
              omega
            obtain ⟨u, w, rr, t0, t1, t2, t3, t4, hr1, ht, AA, kk, rc⟩ := mv_pos Nn.W b0 B u0 u1 (by omega) d.1 d.2
            refine (wr_moveV L xs H (ev_dmove0 L xs H X.w X.h7 (by omega) X.h5 Nn b0 b1 u0 u1 hk F.l9 c hv d e t0 t1 t2 t3 t4)).mono ?_
            rintro o s ⟨rfl, ad1, z1, ar1, H1, E1, g1, g2, g3, g4, m1⟩
            obtain ⟨mh1, gg, e23, M1, S1, e26⟩ := X.mid E1
            refine ⟨0, by decide, rfl, ⟨_, _, _, _, H1⟩, (ev_mmove0 L xs H1 mh1 M1 b0 b1 u0 u1 hk c S1 hv d e).mono ?_⟩
            rintro o t9 ⟨rfl, ⟨z2, ar2, hd, Ht⟩, rt⟩
            rw [gg, e23] at hd
            exact ⟨rfl, _, car_fin n5 X F cn rm E1 b0 B u0 u1 (by omega) hr1 AA ht (by omega) (by rw [rc]) (fun q q0 q1 => by have := hv.1 q q0 q1; omega) g1 g2 g3 g4 kk (by omega) hd Ht F.kl F.o1 rfl m1 rt⟩
          · exact SV.ref L xs H X F cn rm (by decide) (wr_move4 L xs H (ev_dmove4 L xs H hl Nn b0 b1 u0 u1 hk c hv d (by omega))) (fun s Hs => ev_mmove4 L xs Hs mh M b0 b1 u0 u1 hk c hv d (by omega))
        · exact SV.ref L xs H X F cn rm (by decide) (wr_move3 L xs H (ev_dmove3 L xs H hl Nn b0 b1 u0 u1 hk c d)) (fun s Hs => ev_mmove3 L xs Hs mh M b0 b1 u0 u1 hk c d)
    · exact SV.ref L xs H X F cn rm (by decide) (wr_move1 L xs H (ev_dmove1b L xs H hl Nn b0 b1 hq m1 m2)) (fun s Hs => ev_mmove1b L xs Hs mh M b0 b1 hq m1 m2)
  · exact SV.ref L xs H X F cn rm (by decide) (wr_move1 L xs H (ev_dmove1a L xs H hl Nn hp n2)) (fun s Hs => ev_mmove1a L xs Hs mh M hp n2)
end JJ
