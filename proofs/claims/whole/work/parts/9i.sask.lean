/-! questions of both -/
theorem fo_plcc {D : Int → Int} {n r x : Int} (W : fo_W D n) (r0 : -1 ≤ r) (r1 : r < n ∨ r = -1) (x0 : 0 ≤ x) (x1 : x < n) (hx : fo_par D x = r) : fo_pl D x < fo_cc D n r ∧ fo_pl D x = fo_c D (D r + 1) (r + 1) x ∧ 0 ≤ fo_pl D x ∧ r < x ∧ x < fo_end D n r ∧ D x = D r + 1 := by
  have P : fo_P D x r := by rw [← hx]; exact fo_par_P W x0 x1
  have ch := (fo_child W r0 r1 x0 x1).1 P
  have pl : fo_pl D x = fo_c D (D r + 1) (r + 1) x := by
    unfold fo_pl
    rw [hx, ch.2.2]
  have k0 : 0 ≤ fo_pl D x := by rw [pl]; exact fo_c_nn _ _ _ _
  refine ⟨?_, pl, k0, ch⟩
  rw [pl]
  unfold fo_cc
  rw [fo_c_sp (b := x) (c := fo_end D n r) (by omega) (by omega), fo_c_l (a := x) ch.2.1, if_pos ch.2.2]
  have := fo_c_nn D (D r + 1) (x + 1) (fo_end D n r)
  omega
theorem fo_tg_cg {T T' D : Int → Int} {n : Int} (W : fo_W D n) (h : ∀ p, 0 ≤ p → p < n → T p = T' p) : ∀ (k : Nat) (x : Int), x < n → fo_tg T D k x = fo_tg T' D k x
  | 0, _, _ => rfl
  | k + 1, x, hx => by
    rw [fo_tg, fo_tg]
    by_cases c : x < 0
    · rw [if_pos c, if_pos c]
    · have P := fo_par_P W (p := x) (by omega) hx
      have := P.2.1
      rw [if_neg c, if_neg c, fo_tg_cg W h k (fo_par D x) (by omega), h x (by omega) hx]
theorem fo_sn_cg {F F' D : Int → Int} {n : Int} (W : fo_W D n) (h : ∀ p, 0 ≤ p → p < n → F p = F' p) : ∀ (k : Nat) (x : Int), 0 ≤ x → x < n → fo_sn F D k x = fo_sn F' D k x
  | 0, _, _, _ => rfl
  | k + 1, x, x0, hx => by
    have P := fo_par_P W x0 hx
    have := P.2.1
    rw [fo_sn, fo_sn]
    by_cases c : fo_par D x < 0
    · rw [if_pos c, if_pos c]
    · rw [if_neg c, if_neg c, fo_sn_cg W h k (fo_par D x) (by omega) (by omega), h (fo_par D x) (by omega) (by omega)]
theorem fo_ln_cg {S S' I : Int → Int} {i n : Int} (h : ∀ p, 0 ≤ p → p < n → S p = S' p) : ∀ (j : Nat) (k c : Int), 0 ≤ k → k + j = n → fo_ln S I i j k c = fo_ln S' I i j k c
  | 0, _, _, _, _ => rfl
  | j + 1, k, c, k0, kn => by
    rw [fo_ln, fo_ln, h k k0 (by omega), fo_ln_cg h j (k + 1) (c + 1) (by omega) (by omega), fo_ln_cg h j (k + 1) c (by omega) (by omega)]
section JJ
variable (L : Nat) (xs : Nat → Int32)
variable {N : Nat} {σ s t : pm_S} {ad : Nat → Nat} {z z' : Nat → Int} {ar ar' : Nat → Nat × (Nat → Int32)} {lr lr' : Nat → Nat × (Nat → Int64)} {Cs : Int → Int → Int} {k0 : Int} {l0 : Int64}
theorem SI.askE (H : Hp σ ad z ar lr) (X : HX Cs z ar) (F : FX z ar lr) (cn : z 1 ≤ N ∧ z 21 ≤ N ∧ z 6 ≤ N) (rm : σ.2.2 + 357479 ≤ 6 * N + 2 * hq_po ar lr ∧ 4 * σ.2.1 + 356931 ≤ 4 * N + hq_po ar lr) {w : Int} {wi mi di : Nat} {wa ma da : List Value} (Wf : ∀ v, (-2147483648 ≤ v ∧ v ≤ 2147483647) → pm_Fv (tq_P L xs) (pm_enter di da) σ (fun o s => o = .inl (some (.int (zI v))) ∧ s = σ) → pm_Fv (tq_P L xs) (pm_enter wi wa) σ (fun o t => o = .inl (some (.int (zI 0))) ∧ ∃ s, s = σ ∧ t.2 = s.2 ∧ ∀ ad z ar lr, Hp s ad z ar lr → Hp t ad z ar (ol_w lr v))) (D : pm_Ev (tq_P L xs) (pm_enter di da) σ (.inl (some (.int (zI w))), σ)) (M : ∀ s lr', Hp s ad z ar lr' → pm_Fv (tq_P L xs) (pm_enter mi ma) s (fun o t => o = .inl (some (.int (zI w))) ∧ Hp t ad (hq_u z 29 0) ar lr' ∧ t.2 = s.2)) : SI L xs N σ wi wa mi ma := by
  have e : zI (zI w).toInt = zI w := zI_x _
  have lo := zI_lo (zI w)
  have hi := zI_hi (zI w)
  refine SI.ask L xs H X F cn rm (v := (zI w).toInt) ⟨lo, hi⟩ (Wf _ ⟨lo, hi⟩ (pm_Fv.of D ⟨by rw [e], rfl⟩)) (fun s Hs => ?_)
  rw [e]
  exact M s _ Hs
theorem jx_q {z2 : Nat → Int} {ar2 : Nat → Nat × (Nat → Int32)} {lr2 : Nat → Nat × (Nat → Int64)} {ad2 : Nat → Nat} (X : HX Cs z ar) (cn : z 1 ≤ N ∧ z 21 ≤ N ∧ z 6 ≤ N) (rm : σ.2.2 + 357479 ≤ 6 * N + 2 * hq_po ar lr ∧ 4 * σ.2.1 + 356931 ≤ 4 * N + hq_po ar lr) (Ht : Hp t ad2 z2 ar2 lr2) (hz : ∀ k, (1 ≤ k ∧ k ≤ 8) ∨ (20 ≤ k ∧ k ≤ 25) ∨ 105 ≤ k → z2 k = z k) (ha : ∀ r, r = 190 ∨ r = 191 ∨ (5 ≤ r ∧ r < 188) ∨ r = 200 ∨ r = 201 → ar2 r = ar r) (hl : ∀ r, 202 ≤ r → r ≤ 207 → (ar2 r).1 = (ar r).1) (F2 : FX z2 ar2 lr2) (m : hq_rm σ ar lr t ar2 lr2) : JX (N + 1) t (z2 29) ((lr2 1).2 0) := by
  have c1 := cn.1
  have c2 := cn.2.1
  have c3 := cn.2.2
  obtain ⟨m1, m2⟩ := m
  exact ⟨ad2, z2, ar2, lr2, Cs, Ht, X.cg hz ha hl, F2, ⟨by rw [hz 1 (by omega)]; omega, by rw [hz 21 (by omega)]; omega, by rw [hz 6 (by omega)]; omega⟩, rfl, rfl, by omega, by omega⟩
theorem st_steps (J : JX N σ k0 l0) (n5 : N ≤ 600) {v : Int} (hv : -2147483648 ≤ v ∧ v ≤ 2147483647) : SI L xs N σ 190 [.ref 0, .int (zI v), .ref 208] 111 [.ref 199, .int (zI v)] := by
  obtain ⟨ad, z, ar, lr, Cs, H, X, F, cn, e29, el, rm⟩ := J
  have hl := X.w.le
  have Nn := X.rr.N
  have M := X.mr
  have mh := X.mh
  rcases (show v < 0 ∨ 2 < v ∨ v = 0 ∨ v = 1 ∨ v = 2 by omega) with c | c | c | c | c
  · exact SI.ref L xs H X F cn rm (v := 0) (by decide) (by decide) (wr_steps1 L xs H (ev_dsteps1 L xs H hv (by omega))) (fun s Hs => ev_msteps1a L xs Hs mh hv c)
  · exact SI.ref L xs H X F cn rm (v := 0) (by decide) (by decide) (wr_steps1 L xs H (ev_dsteps1 L xs H hv (by omega))) (fun s Hs => ev_msteps1b L xs Hs mh hv c)
  · subst c
    exact SI.askE L xs H X F cn rm (fun v vr k => wr_stepsN L xs H vr (R := fun s => s = σ) k (fun s e => ⟨ad, z, ar, lr, by rw [e]; exact H, F.o1⟩)) (ev_dsteps00 L xs H) (fun s lr2 Hs => by rw [X.ud]; exact ev_msteps00 L xs Hs mh)
  · subst c
    exact SI.askE L xs H X F cn rm (fun v vr k => wr_stepsN L xs H vr (R := fun s => s = σ) k (fun s e => ⟨ad, z, ar, lr, by rw [e]; exact H, F.o1⟩)) (ev_dsteps01 L xs H) (fun s lr2 Hs => by rw [X.rd]; exact ev_msteps01 L xs Hs mh)
  · subst c
    exact SI.askE L xs H X F cn rm (fun v vr k => wr_stepsN L xs H vr (R := fun s => s = σ) k (fun s e => ⟨ad, z, ar, lr, by rw [e]; exact H, F.o1⟩)) (ev_dsteps02 L xs H) (fun s lr2 Hs => by rw [← X.ed]; exact ev_msteps02 L xs Hs mh)
theorem st_today (J : JX N σ k0 l0) (n5 : N ≤ 600) {v : Int} (hv : -2147483648 ≤ v ∧ v ≤ 2147483647) : SI L xs N σ 191 [.ref 0, .int (zI v), .ref 208] 146 [.ref 199, .int (zI v)] := by
  obtain ⟨ad, z, ar, lr, Cs, H, X, F, cn, e29, el, rm⟩ := J
  have hl := X.w.le
  have Nn := X.rr.N
  have M := X.mr
  have mh := X.mh
  by_cases c : 0 ≤ v ∧ v ≤ 3652058
  · skip
    have tr := F.tr
    refine (wr_todayN L xs H (v := z 0) (by omega) (R := fun s => Hp s ad (hq_u z 0 v) ar lr ∧ s.2 = σ.2) (ev_dtoday0 L xs H hv c) (fun s q => ⟨_, _, _, _, q.1, F.o1⟩)).mono ?_
    rintro o s ⟨rfl, s0, ⟨H0, r0⟩, rs, hs⟩
    have Hs := hs _ _ _ _ H0
    refine ⟨0, by decide, rfl, ⟨_, _, _, _, Hs⟩, (ev_mtoday0 L xs Hs (mh.cg (fun _ _ _ => rfl) mh.n0 mh.n1 mh.o0 mh.o1 mh.op mh.e0 mh.e1) hv c).mono ?_⟩
    rintro o t ⟨rfl, Ht, rt⟩
    refine ⟨z 0, by omega, by rw [show hq_u z 0 v 26 = z 26 from rfl, F.td], _, jx_q X cn rm Ht (fun k hk => by rw [hq_u_ne (by omega), hq_u_ne (by omega), hq_u_ne (by omega)]) (fun _ _ => rfl) (fun _ _ _ => rfl) (FX.mk rfl c F.fn F.f0 F.fz F.fc F.l4 F.l5 F.l3 F.kl F.o1 F.l9 F.t8 F.t0 F.ob F.pl) (hq_rm_len (rt.trans (rs.trans r0)) (fun _ => rfl) rfl), fun _ => ol_w_v lr _⟩
  · exact SI.ref L xs H X F cn rm (v := 0) (by decide) (by decide) (wr_today1 L xs H (ev_dtoday1 L xs H hv c)) (fun s Hs => ev_mtoday1 L xs Hs mh hv c)
theorem st_day (J : JX N σ k0 l0) (n5 : N ≤ 600) {y : Int} (hy : -2147483648 ≤ y ∧ y ≤ 2147483647) {m : Int} (hm : -2147483648 ≤ m ∧ m ≤ 2147483647) {v : Int} (hv : -2147483648 ≤ v ∧ v ≤ 2147483647) : SI L xs N σ 192 [.ref 0, .int (zI y), .int (zI m), .int (zI v), .ref 208] 147 [.ref 199, .int (zI y), .int (zI m), .int (zI v)] := by
  obtain ⟨ad, z, ar, lr, Cs, H, X, F, cn, e29, el, rm⟩ := J
  have hl := X.w.le
  have Nn := X.rr.N
  have M := X.mr
  have mh := X.mh
  by_cases c : 1 ≤ y ∧ y ≤ 9999
  · by_cases d : 1 ≤ m ∧ m ≤ 12
    · by_cases e : 1 ≤ v ∧ v ≤ cd_len ((y - 1) * 12 + m - 1)
      · exact SI.askE L xs H X F cn rm (fun v vr k => wr_dayN L xs H vr (R := fun s => s = σ) k (fun s e => ⟨ad, z, ar, lr, by rw [e]; exact H, F.o1⟩)) (ev_dday0 L xs H hy hm hv c d e) (fun s lr2 Hs => ev_mday0 L xs Hs mh hy hm hv c d e)
      · exact SI.ref L xs H X F cn rm (v := 0) (by decide) (by decide) (wr_day1 L xs H (ev_dday1c L xs H hy hm hv c d e)) (fun s Hs => ev_mday1c L xs Hs mh hy hm hv c d e)
    · exact SI.ref L xs H X F cn rm (v := 0) (by decide) (by decide) (wr_day1 L xs H (ev_dday1b L xs H hy hm hv c d)) (fun s Hs => ev_mday1b L xs Hs mh hy hm hv c d)
  · exact SI.ref L xs H X F cn rm (v := 0) (by decide) (by decide) (wr_day1 L xs H (ev_dday1a L xs H hy hm hv c)) (fun s Hs => ev_mday1a L xs Hs mh hy hm hv c)
theorem st_calendar (J : JX N σ k0 l0) (n5 : N ≤ 600) {d : Int} (hd : -2147483648 ≤ d ∧ d ≤ 2147483647) {v : Int} (hv : -2147483648 ≤ v ∧ v ≤ 2147483647) : SI L xs N σ 193 [.ref 0, .int (zI d), .int (zI v), .ref 208] 148 [.ref 199, .int (zI d), .int (zI v)] := by
  obtain ⟨ad, z, ar, lr, Cs, H, X, F, cn, e29, el, rm⟩ := J
  have hl := X.w.le
  have Nn := X.rr.N
  have M := X.mr
  have mh := X.mh
  by_cases c : 0 ≤ d ∧ d ≤ 3652058
  · have mb := cd_mb_ok c.1
    rcases (show ¬ (0 ≤ v ∧ v ≤ 3) ∨ v = 0 ∨ v = 1 ∨ v = 2 ∨ v = 3 by omega) with e | e | e | e | e
    · exact SI.ref L xs H X F cn rm (v := 0) (by decide) (by decide) (wr_calendar1 L xs H (ev_dcal1b L xs H hd hv c e)) (fun s Hs => ev_mcal1b L xs Hs mh hd hv c e)
    · subst e
      exact SI.askE L xs H X F cn rm (fun v vr k => wr_calendarN L xs H vr (R := fun s => s = σ) k (fun s e => ⟨ad, z, ar, lr, by rw [e]; exact H, F.o1⟩)) (ev_dcal00 L xs H c) (fun s lr2 Hs => ev_mcal00 L xs Hs mh c)
    · subst e
      exact SI.askE L xs H X F cn rm (fun v vr k => wr_calendarN L xs H vr (R := fun s => s = σ) k (fun s e => ⟨ad, z, ar, lr, by rw [e]; exact H, F.o1⟩)) (ev_dcal01 L xs H c) (fun s lr2 Hs => by rw [show cd_mb d % 12 + 1 = cd_mb d - (cd_yr d - 1) * 12 + 1 by omega]; exact ev_mcal01 L xs Hs mh c)
    · subst e
      exact SI.askE L xs H X F cn rm (fun v vr k => wr_calendarN L xs H vr (R := fun s => s = σ) k (fun s e => ⟨ad, z, ar, lr, by rw [e]; exact H, F.o1⟩)) (ev_dcal02 L xs H c) (fun s lr2 Hs => by have q := ev_mcal02 L xs Hs mh c; rw [show (cd_yr d - 1) * 12 + (cd_mb d - (cd_yr d - 1) * 12 + 1) - 1 = cd_mb d by omega] at q; exact q)
    · subst e
      exact SI.askE L xs H X F cn rm (fun v vr k => wr_calendarN L xs H vr (R := fun s => s = σ) k (fun s e => ⟨ad, z, ar, lr, by rw [e]; exact H, F.o1⟩)) (ev_dcal03 L xs H c) (fun s lr2 Hs => ev_mcal03 L xs Hs mh c)
  · exact SI.ref L xs H X F cn rm (v := 0) (by decide) (by decide) (wr_calendar1 L xs H (ev_dcal1a L xs H hd hv c)) (fun s Hs => ev_mcal1a L xs Hs mh hd hv c)
theorem st_found (J : JX N σ k0 l0) (n5 : N ≤ 600) {i : Int} (hi : -2147483648 ≤ i ∧ i ≤ 2147483647) {v : Int} (hv : -2147483648 ≤ v ∧ v ≤ 2147483647) : SI L xs N σ 194 [.ref 0, .int (zI i), .int (zI v), .ref 208] 154 [.ref 199, .int (zI i), .int (zI v)] := by
  obtain ⟨ad, z, ar, lr, Cs, H, X, F, cn, e29, el, rm⟩ := J
  have hl := X.w.le
  have Nn := X.rr.N
  have M := X.mr
  have mh := X.mh
  have f0 := F.f0
  have zf : 0 ≤ z 28 ∧ z 28 ≤ 800 := by rw [F.fn]; exact f0
  have fn := F.fn
  by_cases c : 0 ≤ i ∧ i ≤ z 9 - 1
  · have fc := F.fc i (by omega) (by omega)
    rcases (show ¬ (0 ≤ v ∧ v ≤ 2) ∨ v = 0 ∨ v = 1 ∨ v = 2 by omega) with e | e | e | e
    · exact SI.ref L xs H X F cn rm (v := 0) (by decide) (by decide) (wr_found2 L xs H (ev_dfound2 L xs H hi hv f0 c e)) (fun s Hs => ev_mfound2 L xs Hs mh hi hv zf (by omega) (by omega) e)
    · subst e
      exact SI.askE L xs H X F cn rm (fun v vr k => wr_foundN L xs H vr (R := fun s => s = σ) k (fun s e => ⟨ad, z, ar, lr, by rw [e]; exact H, F.o1⟩)) (ev_dfound00 L xs H hi F.f0 c F.fz F.l4 F.l5 F.l3.2) (fun s lr2 Hs => by rw [fc.1]; exact ev_mfound00 L xs Hs mh hi zf (by omega) (by omega))
    · subst e
      exact SI.askE L xs H X F cn rm (fun v vr k => wr_foundN L xs H vr (R := fun s => s = σ) k (fun s e => ⟨ad, z, ar, lr, by rw [e]; exact H, F.o1⟩)) (ev_dfound01 L xs H hi F.f0 c F.fz F.l4 F.l5 F.l3.2) (fun s lr2 Hs => by rw [fc.2.1]; exact ev_mfound01 L xs Hs mh hi zf (by omega) (by omega))
    · subst e
      exact SI.askE L xs H X F cn rm (fun v vr k => wr_foundN L xs H vr (R := fun s => s = σ) k (fun s e => ⟨ad, z, ar, lr, by rw [e]; exact H, F.o1⟩)) (ev_dfound02 L xs H hi F.f0 c F.fz F.l4 F.l5 F.l3.2) (fun s lr2 Hs => by rw [fc.2.2]; exact ev_mfound02 L xs Hs mh hi zf (by omega) (by omega))
  · by_cases d : i < 0
    · exact SI.ref L xs H X F cn rm (v := 0) (by decide) (by decide) (wr_found1 L xs H (ev_dfound1 L xs H hi hv f0 c)) (fun s Hs => ev_mfound1a L xs Hs mh hi hv d)
    · exact SI.ref L xs H X F cn rm (v := 0) (by decide) (by decide) (wr_found1 L xs H (ev_dfound1 L xs H hi hv f0 c)) (fun s Hs => ev_mfound1b L xs Hs mh hi hv zf (by omega) (by omega))
theorem st_child (J : JX N σ k0 l0) (n5 : N ≤ 600) {p : Int} (hp : -2147483648 ≤ p ∧ p ≤ 2147483647) {k : Int} (hk : -2147483648 ≤ k ∧ k ≤ 2147483647) : SI L xs N σ 195 [.ref 0, .int (zI p), .int (zI k), .ref 208] 157 [.ref 199, .int (zI p), .int (zI k)] := by
  obtain ⟨ad, z, ar, lr, Cs, H, X, F, cn, e29, el, rm⟩ := J
  have hl := X.w.le
  have Nn := X.rr.N
  have M := X.mr
  have mh := X.mh
  rcases cs_P (oI (hq_g ar 190)) (hq_g ar 190 0) p with ⟨r, u0, u1, rfl⟩ | ⟨n1, n2⟩
  · have cc := fo_cc_r Nn.W u0 u1
    by_cases c : k < 0
    · exact SI.askE L xs H X F cn rm (fun v vr k => wr_childN L xs H vr (R := fun s => s = σ) k (fun s e => ⟨ad, z, ar, lr, by rw [e]; exact H, F.o1⟩)) (ev_dchildN L xs H hl Nn u0 u1 hk (by omega)) (fun s lr2 Hs => ev_mchildN L xs Hs mh M u0 u1 hk c)
    · by_cases d : k < fo_cc (oD (hq_g ar 190)) (hq_g ar 190 0) r
      · obtain ⟨cp, hcp⟩ := fo_cp_ex Nn.W u0 u1
        have h := hcp k (by omega) d
        have pc := fo_plcc Nn.W u0 u1 h.2.2.2.1 h.2.2.2.2.1 h.2.2.2.2.2.1
        exact SI.askE L xs H X F cn rm (fun v vr k => wr_childN L xs H vr (R := fun s => s = σ) k (fun s e => ⟨ad, z, ar, lr, by rw [e]; exact H, F.o1⟩)) (ev_dchild0 L xs H hl Nn u0 u1 hk (x := cp k) (by omega) h.1 h.2.1 h.2.2.1 (by rw [← pc.2.1]; exact h.2.2.2.2.2.2)) (fun s lr2 Hs => ev_mchild0 L xs Hs mh M u0 u1 hk (by omega) (M.kid h.2.2.2.1 h.2.2.2.2.1 h.2.2.2.2.2.1 h.2.2.2.2.2.2))
      · exact SI.askE L xs H X F cn rm (fun v vr k => wr_childN L xs H vr (R := fun s => s = σ) k (fun s e => ⟨ad, z, ar, lr, by rw [e]; exact H, F.o1⟩)) (ev_dchildN L xs H hl Nn u0 u1 hk (by omega)) (fun s lr2 Hs => ev_mchild0 L xs Hs mh M u0 u1 hk (by omega) (M.nokid u0 u1 (fun y y0 y1 yp => by
          have := (fo_plcc Nn.W u0 u1 y0 y1 yp).1
          omega)))
  · exact SI.ref L xs H X F cn rm (v := 0) (by decide) (by decide) (wr_child1 L xs H (ev_dchild1 L xs H hl Nn hp n1 n2)) (fun s Hs => ev_mchild1 L xs Hs mh M hp n1 n2)
theorem hv_eq (R : RR (hq_g ar 190) (mo_g ar) (z 8)) {v p : Int} (p0 : 0 ≤ p) (p1 : p < hq_g ar 190 0) : od_hv (hq_g ar 190) v (oI (hq_g ar 190) p) = mo_hv (mo_g ar) v (oI (hq_g ar 190) p) := by
  have f := R.F p p0 p1
  have g := R.G p p0 p1
  unfold od_hv mo_hv
  rw [f.f12, f.f13, f.f4]
  have r4 := g.r4
  by_cases a : v = 0
  · rw [if_pos a, if_pos a]
  rw [if_neg a, if_neg a]
  by_cases b : v = 1
  · rw [if_pos b, if_pos b]
  rw [if_neg b, if_neg b]
  by_cases c : v = 2
  · rw [if_pos c, if_pos c]
  rw [if_neg c, if_neg c]
  by_cases d : v = 3
  · rw [if_pos d, if_pos d]
    by_cases e : 3 ≤ oV (hq_g ar 190) (oI (hq_g ar 190) p) 4
    · rw [if_pos e, if_pos (by omega)]
    · rw [if_neg e, if_neg (by omega)]
  · rw [if_neg d, if_neg d]
    by_cases e : oV (hq_g ar 190) (oI (hq_g ar 190) p) 4 = 0
    · rw [if_pos e, if_neg (by omega)]
    · rw [if_neg e, if_pos (by omega)]
theorem st_sum (J : JX N σ k0 l0) (n5 : N ≤ 600) {p : Int} (hp : -2147483648 ≤ p ∧ p ≤ 2147483647) {v : Int} (hv : -2147483648 ≤ v ∧ v ≤ 2147483647) : SI L xs N σ 196 [.ref 0, .int (zI p), .int (zI v), .ref 208] 158 [.ref 199, .int (zI p), .int (zI v)] := by
  obtain ⟨ad, z, ar, lr, Cs, H, X, F, cn, e29, el, rm⟩ := J
  have hl := X.w.le
  have Nn := X.rr.N
  have M := X.mr
  have mh := X.mh
  rcases cs_P (oI (hq_g ar 190)) (hq_g ar 190 0) p with ⟨r, u0, u1, rfl⟩ | ⟨n1, n2⟩
  · skip
    rcases (show ¬ (0 ≤ v ∧ v ≤ 4) ∨ v = 0 ∨ v = 1 ∨ v = 2 ∨ v = 3 ∨ v = 4 by omega) with c | c | c | c | c | c
    · exact SI.ref L xs H X F cn rm (v := 0) (by decide) (by decide) (wr_sum2 L xs H (ev_dsum2 L xs H hl Nn u0 u1 hv c)) (fun s Hs => ev_msum2 L xs Hs mh M u0 u1 hv c)
    · subst c
      by_cases r1 : r = -1
      · subst r1
        have q := ev_dsum0 L xs H hl Nn u0 u1 (v := 0) (by decide)
        rw [if_pos (show (-1 : Int) < 0 by decide), fo_end_root Nn.W, fs_cg (fun p p0 p1 => hv_eq X.rr (v := 0) p0 p1)] at q
        exact SI.askE L xs H X F cn rm (fun v vr k => wr_sumN L xs H vr (R := fun s => s = σ) k (fun s e => ⟨ad, z, ar, lr, by rw [e]; exact H, F.o1⟩)) (q) (fun s lr2 Hs => ev_msum00r L xs Hs mh M)
      · have b0 : 0 ≤ r := by omega
        have b1 : r < hq_g ar 190 0 := by omega
        have en := (fo_end_B (D := oD (hq_g ar 190)) b1).2.1
        have q := ev_dsum0 L xs H hl Nn u0 u1 (v := 0) (by decide)
        rw [if_neg (show ¬ r < 0 by omega), fs_cg (fun p p0 p1 => hv_eq X.rr (v := 0) (p := p) (by omega) (by omega))] at q
        exact SI.askE L xs H X F cn rm (fun v vr k => wr_sumN L xs H vr (R := fun s => s = σ) k (fun s e => ⟨ad, z, ar, lr, by rw [e]; exact H, F.o1⟩)) (q) (fun s lr2 Hs => ev_msum00b L xs Hs mh M b0 b1)
    · subst c
      by_cases r1 : r = -1
      · subst r1
        have q := ev_dsum0 L xs H hl Nn u0 u1 (v := 1) (by decide)
        rw [if_pos (show (-1 : Int) < 0 by decide), fo_end_root Nn.W, fs_cg (fun p p0 p1 => hv_eq X.rr (v := 1) p0 p1)] at q
        exact SI.askE L xs H X F cn rm (fun v vr k => wr_sumN L xs H vr (R := fun s => s = σ) k (fun s e => ⟨ad, z, ar, lr, by rw [e]; exact H, F.o1⟩)) (q) (fun s lr2 Hs => ev_msum01r L xs Hs mh M)
      · have b0 : 0 ≤ r := by omega
        have b1 : r < hq_g ar 190 0 := by omega
        have en := (fo_end_B (D := oD (hq_g ar 190)) b1).2.1
        have q := ev_dsum0 L xs H hl Nn u0 u1 (v := 1) (by decide)
        rw [if_neg (show ¬ r < 0 by omega), fs_cg (fun p p0 p1 => hv_eq X.rr (v := 1) (p := p) (by omega) (by omega))] at q
        exact SI.askE L xs H X F cn rm (fun v vr k => wr_sumN L xs H vr (R := fun s => s = σ) k (fun s e => ⟨ad, z, ar, lr, by rw [e]; exact H, F.o1⟩)) (q) (fun s lr2 Hs => ev_msum01b L xs Hs mh M b0 b1)
    · subst c
      by_cases r1 : r = -1
      · subst r1
        have q := ev_dsum0 L xs H hl Nn u0 u1 (v := 2) (by decide)
        rw [if_pos (show (-1 : Int) < 0 by decide), fo_end_root Nn.W, fs_cg (fun p p0 p1 => hv_eq X.rr (v := 2) p0 p1)] at q
        exact SI.askE L xs H X F cn rm (fun v vr k => wr_sumN L xs H vr (R := fun s => s = σ) k (fun s e => ⟨ad, z, ar, lr, by rw [e]; exact H, F.o1⟩)) (q) (fun s lr2 Hs => ev_msum02r L xs Hs mh M)
      · have b0 : 0 ≤ r := by omega
        have b1 : r < hq_g ar 190 0 := by omega
        have en := (fo_end_B (D := oD (hq_g ar 190)) b1).2.1
        have q := ev_dsum0 L xs H hl Nn u0 u1 (v := 2) (by decide)
        rw [if_neg (show ¬ r < 0 by omega), fs_cg (fun p p0 p1 => hv_eq X.rr (v := 2) (p := p) (by omega) (by omega))] at q
        exact SI.askE L xs H X F cn rm (fun v vr k => wr_sumN L xs H vr (R := fun s => s = σ) k (fun s e => ⟨ad, z, ar, lr, by rw [e]; exact H, F.o1⟩)) (q) (fun s lr2 Hs => ev_msum02b L xs Hs mh M b0 b1)
    · subst c
      by_cases r1 : r = -1
      · subst r1
        have q := ev_dsum0 L xs H hl Nn u0 u1 (v := 3) (by decide)
        rw [if_pos (show (-1 : Int) < 0 by decide), fo_end_root Nn.W, fs_cg (fun p p0 p1 => hv_eq X.rr (v := 3) p0 p1)] at q
        exact SI.askE L xs H X F cn rm (fun v vr k => wr_sumN L xs H vr (R := fun s => s = σ) k (fun s e => ⟨ad, z, ar, lr, by rw [e]; exact H, F.o1⟩)) (q) (fun s lr2 Hs => ev_msum03r L xs Hs mh M)
      · have b0 : 0 ≤ r := by omega
        have b1 : r < hq_g ar 190 0 := by omega
        have en := (fo_end_B (D := oD (hq_g ar 190)) b1).2.1
        have q := ev_dsum0 L xs H hl Nn u0 u1 (v := 3) (by decide)
        rw [if_neg (show ¬ r < 0 by omega), fs_cg (fun p p0 p1 => hv_eq X.rr (v := 3) (p := p) (by omega) (by omega))] at q
        exact SI.askE L xs H X F cn rm (fun v vr k => wr_sumN L xs H vr (R := fun s => s = σ) k (fun s e => ⟨ad, z, ar, lr, by rw [e]; exact H, F.o1⟩)) (q) (fun s lr2 Hs => ev_msum03b L xs Hs mh M b0 b1)
    · subst c
      by_cases r1 : r = -1
      · subst r1
        have q := ev_dsum0 L xs H hl Nn u0 u1 (v := 4) (by decide)
        rw [if_pos (show (-1 : Int) < 0 by decide), fo_end_root Nn.W, fs_cg (fun p p0 p1 => hv_eq X.rr (v := 4) p0 p1)] at q
        exact SI.askE L xs H X F cn rm (fun v vr k => wr_sumN L xs H vr (R := fun s => s = σ) k (fun s e => ⟨ad, z, ar, lr, by rw [e]; exact H, F.o1⟩)) (q) (fun s lr2 Hs => ev_msum04r L xs Hs mh M)
      · have b0 : 0 ≤ r := by omega
        have b1 : r < hq_g ar 190 0 := by omega
        have en := (fo_end_B (D := oD (hq_g ar 190)) b1).2.1
        have q := ev_dsum0 L xs H hl Nn u0 u1 (v := 4) (by decide)
        rw [if_neg (show ¬ r < 0 by omega), fs_cg (fun p p0 p1 => hv_eq X.rr (v := 4) (p := p) (by omega) (by omega))] at q
        exact SI.askE L xs H X F cn rm (fun v vr k => wr_sumN L xs H vr (R := fun s => s = σ) k (fun s e => ⟨ad, z, ar, lr, by rw [e]; exact H, F.o1⟩)) (q) (fun s lr2 Hs => ev_msum04b L xs Hs mh M b0 b1)
  · exact SI.ref L xs H X F cn rm (v := 0) (by decide) (by decide) (wr_sum1 L xs H (ev_dsum1 L xs H hl Nn hp n1 n2)) (fun s Hs => ev_msum1 L xs Hs mh M hp n1 n2)
theorem st_told (J : JX N σ k0 l0) (n5 : N ≤ 600) {p : Int} (hp : -2147483648 ≤ p ∧ p ≤ 2147483647) {v : Int} (hv : -2147483648 ≤ v ∧ v ≤ 2147483647) : SI L xs N σ 197 [.ref 0, .int (zI p), .int (zI v), .ref 208] 159 [.ref 199, .int (zI p), .int (zI v)] := by
  obtain ⟨ad, z, ar, lr, Cs, H, X, F, cn, e29, el, rm⟩ := J
  have hl := X.w.le
  have Nn := X.rr.N
  have M := X.mr
  have mh := X.mh
  rcases cs_T (oI (hq_g ar 190)) (hq_g ar 190 0) p with ⟨b, b0, b1, rfl⟩ | n2
  · have f := X.rr.F b b0 b1
    have tg : fo_tgs (fun p => oV (hq_g ar 190) (oI (hq_g ar 190) p) 6) (oD (hq_g ar 190)) b = fo_tgs (fun p => mo_g ar (oI (hq_g ar 190) p) 6) (oD (hq_g ar 190)) b := fo_tg_cg Nn.W (fun p p0 p1 => (X.rr.F p p0 p1).f6.symm) _ b b1
    rcases (show ¬ (0 ≤ v ∧ v ≤ 15) ∨ v = 0 ∨ v = 1 ∨ v = 2 ∨ v = 3 ∨ v = 4 ∨ v = 5 ∨ v = 6 ∨ v = 7 ∨ v = 8 ∨ v = 9 ∨ v = 10 ∨ v = 11 ∨ v = 12 ∨ v = 13 ∨ v = 14 ∨ v = 15 by omega) with c | c | c | c | c | c | c | c | c | c | c | c | c | c | c | c | c
    · exact SI.ref L xs H X F cn rm (v := 0) (by decide) (by decide) (wr_told2 L xs H (ev_dtold2 L xs H hl Nn b0 b1 hv c)) (fun s Hs => ev_mtold2 L xs Hs mh M b0 b1 hv c)
    · subst c
      exact SI.askE L xs H X F cn rm (fun v vr k => wr_toldN L xs H vr (R := fun s => s = σ) k (fun s e => ⟨ad, z, ar, lr, by rw [e]; exact H, F.o1⟩)) (ev_dtold0_0 L xs H hl Nn b0 b1) (fun s lr2 Hs => ev_mtold0_0 L xs Hs mh M b0 b1)
    · subst c
      exact SI.askE L xs H X F cn rm (fun v vr k => wr_toldN L xs H vr (R := fun s => s = σ) k (fun s e => ⟨ad, z, ar, lr, by rw [e]; exact H, F.o1⟩)) (ev_dtold0_1 L xs H hl Nn b0 b1) (fun s lr2 Hs => ev_mtold0_1 L xs Hs mh M b0 b1)
    · subst c
      exact SI.askE L xs H X F cn rm (fun v vr k => wr_toldN L xs H vr (R := fun s => s = σ) k (fun s e => ⟨ad, z, ar, lr, by rw [e]; exact H, F.o1⟩)) (ev_dtold0_2 L xs H hl Nn b0 b1) (fun s lr2 Hs => by rw [← oD_at b0]; exact ev_mtold0_2 L xs Hs mh M b0 b1)
    · subst c
      exact SI.askE L xs H X F cn rm (fun v vr k => wr_toldN L xs H vr (R := fun s => s = σ) k (fun s e => ⟨ad, z, ar, lr, by rw [e]; exact H, F.o1⟩)) (ev_dtold0_3 L xs H hl Nn b0 b1) (fun s lr2 Hs => by rw [← f.f3]; exact ev_mtold0_3 L xs Hs mh M b0 b1)
    · subst c
      exact SI.askE L xs H X F cn rm (fun v vr k => wr_toldN L xs H vr (R := fun s => s = σ) k (fun s e => ⟨ad, z, ar, lr, by rw [e]; exact H, F.o1⟩)) (ev_dtold0_4 L xs H hl Nn b0 b1) (fun s lr2 Hs => by rw [← f.f4]; exact ev_mtold0_4 L xs Hs mh M b0 b1)
    · subst c
      exact SI.askE L xs H X F cn rm (fun v vr k => wr_toldN L xs H vr (R := fun s => s = σ) k (fun s e => ⟨ad, z, ar, lr, by rw [e]; exact H, F.o1⟩)) (ev_dtold0_5 L xs H hl Nn b0 b1) (fun s lr2 Hs => by rw [← f.f5]; exact ev_mtold0_5 L xs Hs mh M b0 b1)
    · subst c
      exact SI.askE L xs H X F cn rm (fun v vr k => wr_toldN L xs H vr (R := fun s => s = σ) k (fun s e => ⟨ad, z, ar, lr, by rw [e]; exact H, F.o1⟩)) (ev_dtold0_6 L xs H hl Nn b0 b1) (fun s lr2 Hs => by rw [← f.f6]; exact ev_mtold0_6 L xs Hs mh M b0 b1)
    · subst c
      exact SI.askE L xs H X F cn rm (fun v vr k => wr_toldN L xs H vr (R := fun s => s = σ) k (fun s e => ⟨ad, z, ar, lr, by rw [e]; exact H, F.o1⟩)) (ev_dtold0_7 L xs H hl Nn b0 b1) (fun s lr2 Hs => by rw [tg]; exact ev_mtold0_7 L xs Hs mh M b0 b1)
    · subst c
      exact SI.askE L xs H X F cn rm (fun v vr k => wr_toldN L xs H vr (R := fun s => s = σ) k (fun s e => ⟨ad, z, ar, lr, by rw [e]; exact H, F.o1⟩)) (ev_dtold0_8 L xs H hl Nn b0 b1) (fun s lr2 Hs => ev_mtold0_8 L xs Hs mh M b0 b1)
    · subst c
      exact SI.askE L xs H X F cn rm (fun v vr k => wr_toldN L xs H vr (R := fun s => s = σ) k (fun s e => ⟨ad, z, ar, lr, by rw [e]; exact H, F.o1⟩)) (ev_dtold0_9 L xs H hl Nn b0 b1) (fun s lr2 Hs => by rw [← f.f7]; exact ev_mtold0_9 L xs Hs mh M b0 b1)
    · subst c
      exact SI.askE L xs H X F cn rm (fun v vr k => wr_toldN L xs H vr (R := fun s => s = σ) k (fun s e => ⟨ad, z, ar, lr, by rw [e]; exact H, F.o1⟩)) (ev_dtold0_10 L xs H hl Nn b0 b1) (fun s lr2 Hs => by rw [← f.f8]; exact ev_mtold0_10 L xs Hs mh M b0 b1)
    · subst c
      exact SI.askE L xs H X F cn rm (fun v vr k => wr_toldN L xs H vr (R := fun s => s = σ) k (fun s e => ⟨ad, z, ar, lr, by rw [e]; exact H, F.o1⟩)) (ev_dtold0_11 L xs H hl Nn b0 b1) (fun s lr2 Hs => by rw [← f.f9]; exact ev_mtold0_11 L xs Hs mh M b0 b1)
    · subst c
      exact SI.askE L xs H X F cn rm (fun v vr k => wr_toldN L xs H vr (R := fun s => s = σ) k (fun s e => ⟨ad, z, ar, lr, by rw [e]; exact H, F.o1⟩)) (ev_dtold0_12 L xs H hl Nn b0 b1) (fun s lr2 Hs => by rw [← f.f12]; exact ev_mtold0_12 L xs Hs mh M b0 b1)
    · subst c
      exact SI.askE L xs H X F cn rm (fun v vr k => wr_toldN L xs H vr (R := fun s => s = σ) k (fun s e => ⟨ad, z, ar, lr, by rw [e]; exact H, F.o1⟩)) (ev_dtold0_13 L xs H hl Nn b0 b1) (fun s lr2 Hs => by rw [← f.f13]; exact ev_mtold0_13 L xs Hs mh M b0 b1)
    · subst c
      exact SI.askE L xs H X F cn rm (fun v vr k => wr_toldN L xs H vr (R := fun s => s = σ) k (fun s e => ⟨ad, z, ar, lr, by rw [e]; exact H, F.o1⟩)) (ev_dtold0_14 L xs H hl Nn b0 b1) (fun s lr2 Hs => by rw [← f.f10]; exact ev_mtold0_14 L xs Hs mh M b0 b1)
    · subst c
      exact SI.askE L xs H X F cn rm (fun v vr k => wr_toldN L xs H vr (R := fun s => s = σ) k (fun s e => ⟨ad, z, ar, lr, by rw [e]; exact H, F.o1⟩)) (ev_dtold0_15 L xs H hl Nn b0 b1) (fun s lr2 Hs => by rw [← f.f11]; exact ev_mtold0_15 L xs Hs mh M b0 b1)
  · exact SI.ref L xs H X F cn rm (v := 0) (by decide) (by decide) (wr_told1 L xs H (ev_dtold1 L xs H hl Nn hp n2)) (fun s Hs => ev_mtold1 L xs Hs mh M hp n2)
theorem st_about (J : JX N σ k0 l0) (n5 : N ≤ 600) {v : Int} (hv : -2147483648 ≤ v ∧ v ≤ 2147483647) : SI L xs N σ 198 [.ref 0, .int (zI v), .ref 208] 160 [.ref 199, .int (zI v)] := by
  obtain ⟨ad, z, ar, lr, Cs, H, X, F, cn, e29, el, rm⟩ := J
  have hl := X.w.le
  have Nn := X.rr.N
  have M := X.mr
  have mh := X.mh
  have ct : fs (fun p => mo_hv (mo_g ar) 0 (oI (hq_g ar 190) p)) 0 (hq_g ar 190 0) = hq_g ar 190 0 := by
    have n0 := Nn.W.2.1
    have q := fs_bd (f := fun p => mo_hv (mo_g ar) 0 (oI (hq_g ar 190) p)) (a := 0) (b := hq_g ar 190 0) (lo := 1) (hi := 1) (fun q _ _ => Int.le_refl 1) (fun q _ _ => Int.le_refl 1) n0
    omega
  rcases (show ¬ (0 ≤ v ∧ v ≤ 3) ∨ v = 0 ∨ v = 1 ∨ v = 2 ∨ v = 3 by omega) with c | c | c | c | c
  · exact SI.ref L xs H X F cn rm (v := 0) (by decide) (by decide) (wr_about1 L xs H (ev_dabout1 L xs H hv c)) (fun s Hs => ev_mabout1 L xs Hs mh hv c)
  · subst c
    exact SI.askE L xs H X F cn rm (fun v vr k => wr_aboutN L xs H vr (R := fun s => s = σ) k (fun s e => ⟨ad, z, ar, lr, by rw [e]; exact H, F.o1⟩)) (ev_dabout00 L xs H hl Nn) (fun s lr2 Hs => by have q := ev_mabout00 L xs Hs mh M; rw [ct] at q; exact q)
  · subst c
    exact SI.askE L xs H X F cn rm (fun v vr k => wr_aboutN L xs H vr (R := fun s => s = σ) k (fun s e => ⟨ad, z, ar, lr, by rw [e]; exact H, F.o1⟩)) (ev_dabout01 L xs H hl Nn) (fun s lr2 Hs => by rw [← X.m8]; exact ev_mabout01 L xs Hs mh)
  · subst c
    exact SI.askE L xs H X F cn rm (fun v vr k => wr_aboutN L xs H vr (R := fun s => s = σ) k (fun s e => ⟨ad, z, ar, lr, by rw [e]; exact H, F.o1⟩)) (ev_dabout02 L xs H hl Nn) (fun s lr2 Hs => by rw [← F.fn]; exact ev_mabout02 L xs Hs mh)
  · subst c
    exact SI.askE L xs H X F cn rm (fun v vr k => wr_aboutN L xs H vr (R := fun s => s = σ) k (fun s e => ⟨ad, z, ar, lr, by rw [e]; exact H, F.o1⟩)) (ev_dabout03 L xs H hl Nn) (fun s lr2 Hs => by rw [← F.td]; exact ev_mabout03 L xs Hs mh)
theorem mo_or_ne {I : Int → Int} {n : Int} {r : Nat} (h : r ≠ 203) : mo_or ar I n r = ar r := hq_u_ne h
theorem mo_or_len {I : Int → Int} {n : Int} (r : Nat) : (mo_or ar I n r).1 = (ar r).1 := by
  by_cases c : r = 203
  · rw [c]
    rfl
  · rw [mo_or_ne c]
theorem st_line (J : JX N σ k0 l0) (n5 : N ≤ 600) {i : Int} (hi : -2147483648 ≤ i ∧ i ≤ 2147483647) : SD L xs N σ 27 [.ref 0, .int (zI i)] 156 [.ref 199, .int (zI i)] := by
  obtain ⟨ad, z, ar, lr, Cs, H, X, F, cn, e29, el, rm⟩ := J
  have hl := X.w.le
  have Nn := X.rr.N
  have M := X.mr
  have mh := X.mh
  have e : fo_ln (fo_sns (fun p => oV (hq_g ar 190) (oI (hq_g ar 190) p) 9) (oD (hq_g ar 190))) (oI (hq_g ar 190)) i (hq_g ar 190 0).toNat 0 0 = fo_ln (fo_sns (fun p => mo_g ar (oI (hq_g ar 190) p) 7) (oD (hq_g ar 190))) (oI (hq_g ar 190)) i (hq_g ar 190 0).toNat 0 0 := by
    have n0 := Nn.W.2.1
    exact fo_ln_cg (fun p p0 p1 => fo_sn_cg Nn.W (fun q q0 q1 => (X.rr.F q q0 q1).f7.symm) _ p p0 p1) _ 0 0 (by omega) (by omega)
  have D := ev_dline L xs H hl Nn hi
  rw [e] at D
  have e2 := zI_x (zI (fo_ln (fo_sns (fun p => mo_g ar (oI (hq_g ar 190) p) 7) (oD (hq_g ar 190))) (oI (hq_g ar 190)) i (hq_g ar 190 0).toNat 0 0))
  refine pm_Fv.of D ⟨(zI (fo_ln (fo_sns (fun p => mo_g ar (oI (hq_g ar 190) p) 7) (oD (hq_g ar 190))) (oI (hq_g ar 190)) i (hq_g ar 190 0).toNat 0 0)).toInt, ⟨zI_lo _, zI_hi _⟩, by rw [e2], ⟨ad, z, ar, lr, H⟩, (ev_mline L xs H mh M hi).mono ?_⟩
  rintro o t ⟨rfl, Ht, rt⟩
  refine ⟨by rw [e2], _, _, jx_q X cn rm Ht (fun k hk => by rw [hq_u_ne (by omega), hq_u_ne (by omega)]) (fun r hr => mo_or_ne (by omega)) (fun r _ _ => mo_or_len r) (F.cg rfl rfl rfl rfl rfl rfl rfl rfl rfl rfl rfl rfl rfl (fun r hr => mo_or_len r)) (hq_rm_len rt (fun r => mo_or_len r) rfl)⟩
end JJ
