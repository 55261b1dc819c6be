/-! insert and remove of both -/
section JJ
variable (L : Nat) (xs : Nat → Int32)
variable {N : Nat} {σ s t : pm_S} {ad : Nat → Nat} {z z' : Nat → Int} {ar ar' : Nat → Nat × (Nat → Int32)} {lr lr' : Nat → Nat × (Nat → Int64)} {Cs : Int → Int → Int} {k0 : Int} {l0 : Int64}
theorem hw_ee_23 {v : Int} {k : Nat} (h : k ≠ 23) : hw_ee (hq_u z 23 v) k = hw_ee z k := by
  have e : ∀ (f : Nat → Int) (g : Nat → Int) (j : Nat) (x : Int), f k = g k → hq_u f j x k = hq_u g j x k := by
    intro f g j x q
    unfold hq_u
    by_cases c : k = j
    · rw [if_pos c, if_pos c]
    · rw [if_neg c, if_neg c]
      exact q
  have e0 : hq_u z 23 v k = z k := hq_u_ne h
  unfold hw_ee
  rw [show hq_u z 23 v 7 = z 7 from rfl, show hq_u z 23 v 5 = z 5 from rfl, show hq_u z 23 v 6 = z 6 from rfl]
  by_cases a : z 7 = 0
  · rw [if_pos a, if_pos a]
    exact e0
  · rw [if_neg a, if_neg a]
    by_cases b : z 5 = 0
    · rw [if_pos b, if_pos b]
      unfold hw_es
      rw [show hq_u (hq_u (hq_u z 23 v) 7 0) 6 (z 6 + 1) 3 = z 3 from rfl, show hq_u (hq_u z 7 0) 6 (z 6 + 1) 3 = z 3 from rfl, show hq_u (hq_u (hq_u z 23 v) 7 0) 6 (z 6 + 1) 2 = z 2 from rfl, show hq_u (hq_u z 7 0) 6 (z 6 + 1) 2 = z 2 from rfl]
      by_cases c : z 3 < 60
      · rw [if_pos c, if_pos c]
        exact e _ _ _ _ (e _ _ _ _ (e _ _ _ _ (e _ _ _ _ e0)))
      · rw [if_neg c, if_neg c]
        exact e _ _ _ _ (e _ _ _ _ (e _ _ _ _ (e _ _ _ _ e0)))
    · rw [if_neg b, if_neg b]
      exact e _ _ _ _ (e _ _ _ _ e0)
theorem od_E.z23 {A C0 : Int → Int} {z0 : Nat → Int} {ar0 : Nat → Nat × (Nat → Int32)} (E : od_E A C0 z0 ar0 z ar) (v : Int) : od_E A C0 (hq_u z0 23 v) ar0 (hq_u z 23 v) ar := by
  have ej : hw_j (hq_u z0 23 v) = hw_j z0 := hw_j_cg rfl rfl
  refine od_E.mk (E.h.cg (fun k hk => hq_u_ne (by omega)) (fun _ _ => rfl)) E.i0 E.s1 (fun k k1 k4 k7 ks => ?_) (fun r a b c d e => ?_) E.la E.l9 E.z1 (fun h => ⟨fun k => ?_, (E.nc h).2⟩) E.ch
  · rw [ej] at ks
    by_cases c : k = 23
    · rw [c]
      rfl
    · rw [hq_u_ne c, hq_u_ne c]
      exact E.zo k k1 k4 k7 ks
  · rw [ej] at d e
    exact E.ao r a b c d e
  · by_cases c : k = 23
    · rw [c]
      rfl
    · rw [hq_u_ne c, hq_u_ne c]
      exact (E.nc h).1 k
theorem mo_zr_K {g : Int → Int → Int} (K : mo_K g) (x j : Int) : mo_K (mo_zr g x j) := by
  intro e f e0 f0 f1
  unfold mo_zr
  split
  · decide
  · exact K e f e0 f0 f1
theorem mo_in_K {g : Int → Int → Int} {m p k v : Int} (K : mo_K g) (S : ∀ e, g e 0 = 1 → -1000 ≤ g e 2 ∧ g e 2 ≤ 1000) (hp : -2147483648 ≤ p ∧ p ≤ 2147483647) (hk : -2147483648 ≤ k ∧ k ≤ 2147483647) (hv : -2147483648 ≤ v ∧ v ≤ 2147483647) : mo_K (mo_in g m p k v) := by
  have S0 : mo_L g := fun e h => by
    have := S e h
    omega
  exact mo_pt_K (mo_pt_K (mo_pt_K (mo_pt_K (mo_pt_K (mo_pt_K (mo_zr_K (mo_sh_K K S0 (by omega)) _ _) (by decide)) hp) hk) hv) (by decide)) (by decide)
theorem mo_in_o {g : Int → Int → Int} {m p k v e f : Int} (h : e > m) : mo_in g m p k v e f = g e f := by
  unfold mo_in
  rw [mo_pt_e (by omega), mo_pt_e (by omega), mo_pt_e (by omega), mo_pt_e (by omega), mo_pt_e (by omega), mo_pt_e (by omega)]
  unfold mo_zr
  rw [if_neg (by omega)]
  unfold mo_sh
  rw [if_neg (by omega)]
theorem mo_in_m {g : Int → Int → Int} {m p k v : Int} : mo_in g m p k v m 0 = 1 := by
  unfold mo_in
  rw [mo_pt_f (by decide), mo_pt_f (by decide), mo_pt_f (by decide), mo_pt_f (by decide), mo_pt_f (by decide), mo_pt_at]
theorem mo_rm_K {g : Int → Int → Int} {I : Int → Int} {m b s : Int} (K : mo_K g) (S : ∀ e, g e 0 = 1 → -1000 ≤ g e 2 ∧ g e 2 ≤ 1000) : mo_K (mo_rm g I m b s) := by
  unfold mo_rm
  refine mo_sh_K (mo_cl_K K I b _) (fun e h => ?_) (by omega)
  have := S e (mo_cl_1 _ h)
  rw [mo_cl_f g I b (by decide)]
  omega
theorem fo_end_ge {D : Int → Int} {n r c : Int} (W : fo_W D n) (r0 : -1 ≤ r) (r1 : r < n ∨ r = -1) (cn : c ≤ n) (h : ∀ q, r < q → q < c → D r < D q) : c ≤ fo_end D n r := by
  have B := fo_end_B' W r0 r1
  by_cases x : c ≤ fo_end D n r
  · exact x
  · have a := B.2.2.2 (by omega)
    have b := h (fo_end D n r) (by omega) (by omega)
    omega
theorem st_insert (J : JX N σ k0 l0) (n5 : N ≤ 600) {p : Int} (hp : -2147483648 ≤ p ∧ p ≤ 2147483647) {k : Int} (hk : -2147483648 ≤ k ∧ k ≤ 2147483647) {t : Int} (ht : -2147483648 ≤ t ∧ t ≤ 2147483647) : SI L xs N σ 173 [.ref 0, .int (zI p), .int (zI k), .int (zI t), .ref 208] 120 [.ref 199, .int (zI p), .int (zI k), .int (zI t)] := by
  obtain ⟨ad, z, ar, lr, Cs, H, X, F, cn, e29, el, rm⟩ := J
  have hl := X.w.le
  have Nn := X.rr.N
  have M := X.mr
  have mh := X.mh
  rcases cs_P (oI (hq_g ar 190)) (hq_g ar 190 0) p with ⟨r, u0, u1, rfl⟩ | ⟨n1, n2⟩
  · have cc := fo_cc_r Nn.W u0 u1
    have Br := fo_end_B' Nn.W u0 u1
    have dr := Nn.dr u0 u1
    have m4 := Nn.m4
    have m0 := Nn.m0
    have c1 := cn.1
    have e8 := X.m8
    by_cases c : 0 ≤ k ∧ k ≤ fo_cc (oD (hq_g ar 190)) (hq_g ar 190 0) r
    · by_cases d : 0 ≤ t ∧ t ≤ 999999
      · by_cases g : (oD (hq_g ar 190)) r < 12
        · by_cases e : z 8 < 400
          · have hx : ∃ x, r < x ∧ x ≤ fo_end (oD (hq_g ar 190)) (hq_g ar 190 0) r ∧ (x < fo_end (oD (hq_g ar 190)) (hq_g ar 190 0) r → (oD (hq_g ar 190)) x = (oD (hq_g ar 190)) r + 1) ∧ fo_c (oD (hq_g ar 190)) ((oD (hq_g ar 190)) r + 1) (r + 1) x = k := by
              by_cases q : k < fo_cc (oD (hq_g ar 190)) (hq_g ar 190 0) r
              · obtain ⟨cp, hcp⟩ := fo_cp_ex Nn.W u0 u1
                have h := hcp k c.1 q
                have pc := fo_plcc Nn.W u0 u1 h.2.2.2.1 h.2.2.2.2.1 h.2.2.2.2.2.1
                exact ⟨cp k, h.1, by omega, fun _ => h.2.2.1, by rw [← pc.2.1]; exact h.2.2.2.2.2.2⟩
              · refine ⟨fo_end (oD (hq_g ar 190)) (hq_g ar 190 0) r, Br.1, Int.le_refl _, fun q => absurd q (by omega), ?_⟩
                have : fo_cc (oD (hq_g ar 190)) (hq_g ar 190 0) r = fo_c (oD (hq_g ar 190)) ((oD (hq_g ar 190)) r + 1) (r + 1) (fo_end (oD (hq_g ar 190)) (hq_g ar 190 0) r) := rfl
                omega
            obtain ⟨x, x0, x1, x2, x3⟩ := hx
            by_cases r1 : r = -1
            · skip
              refine (wr_insertN L xs H (v := z 8) (by omega) (ev_dinsert0 L xs H X.w X.h7 (by omega) X.h5 Nn hk ht u0 u1 c d g e x0 x1 x2 x3) (fun s q => by
                obtain ⟨_, _, _, _, _, H9, _⟩ := q
                exact ⟨_, _, _, _, H9, F.o1⟩)).mono ?_
              rintro o s ⟨rfl, s0, ⟨ad1, z1, ar1, A1, ar0, H0, w1, E1, bo, a1, a2, oo, cl, m1⟩, rs, hs⟩
              have H1 := hs _ _ _ _ H0
              have X1 := X.born e w1 bo a1 a2 oo
              have hj : hw_j (hq_u z 8 (z 8 + 1)) < 61 := w1.jj.1
              have a0 : ∀ r, 192 ≤ r → ar1 r = ar r := fun r hr => (E1.a2 hj hr).trans (oo r (by omega) (by omega))
              have gg : mo_g ar1 = mo_g ar := by
                funext e f
                unfold mo_g
                exact hq_g_ne (a0 200 (by decide)) _
              have gg0 : mo_g ar0 = mo_g ar := by
                funext e f
                unfold mo_g
                exact hq_g_ne (oo 200 (by decide) (by decide)) _
              have zz : ∀ k, 20 ≤ k → k < 100 → hw_ee z1 k = z k := fun k k0 k1 => (E1.eo (by omega)).trans (hq_u_ne (by omega))
              have e23 : hw_ee z1 23 = z 8 := (zz 23 (by decide) (by decide)).trans X.m8
              have mh1 : mo_H (hw_ee z1) ar1 := mh.cg (fun r r0 _ => by rw [a0 r (by omega)]) (by rw [zz 21 (by decide) (by decide)]; exact mh.n0) (by rw [zz 21 (by decide) (by decide)]; exact mh.n1) (by rw [zz 20 (by decide) (by decide)]; exact mh.o0) (by rw [zz 20 (by decide) (by decide), zz 21 (by decide) (by decide)]; exact mh.o1) (by rw [zz 24 (by decide) (by decide)]; exact mh.op) (by rw [zz 25 (by decide) (by decide)]; exact mh.e0) (by rw [zz 25 (by decide) (by decide)]; exact mh.e1)
              have M1 : mo_R (mo_g ar1) (hw_ee z1 23) (hq_g ar 190 0) (oI (hq_g ar 190)) (oD (hq_g ar 190)) := by
                rw [gg, e23]
                exact X.rr.M
              have S1 : ∀ e, mo_g ar1 e 0 = 1 → -1000 ≤ mo_g ar1 e 2 ∧ mo_g ar1 e 2 ≤ 1000 := by
                rw [gg]
                exact X.sml
              have eA : A1 = (fun k i => if i < 401 + 16 * z 8 then Cs k i else hq_g ar0 190 i) (z 21) := by
                funext i
                show A1 i = if i < 401 + 16 * z 8 then Cs (z 21) i else hq_g ar0 190 i
                by_cases q : i < 401 + 16 * z 8
                · rw [if_pos q]
                  exact a1 i q
                · rw [if_neg q]
                  exact a2 i (by omega)
              have E2 := E1.z23 (z 8 + 1)
              rw [eA] at E2
              refine ⟨0, by decide, rfl, ⟨_, _, _, _, H1⟩, (ev_minsert0a L xs H1 mh1 M1 hk ht u0 u1 c d S1 (by rw [e23]; exact e) r1).mono ?_⟩
              rintro o t9 ⟨rfl, ⟨z2, ar2, hd, Ht⟩, rt⟩
              rw [gg, e23] at hd
              have idr := M.idr u0 u1
              have AA : fo_A (oD (hq_g ar 190)) (hq_g ar 190 0) r x := ⟨u0, u1, x0, x1, fun q => by
                by_cases y : x < fo_end (oD (hq_g ar 190)) (hq_g ar 190 0) r
                · have := x2 y
                  omega
                · have y2 : x = fo_end (oD (hq_g ar 190)) (hq_g ar 190 0) r := by omega
                  have := Br.2.2.2 (by omega)
                  rw [y2]
                  omega⟩
              have RR1 := X.rr.ins e AA rfl (by omega) x3.symm d bo cl
              have F1 : FX (hq_u (hq_u z 8 (z 8 + 1)) 23 (z 8 + 1)) ar0 lr := F.cg rfl rfl rfl rfl (oo 193 (by decide) (by decide)) (oo 194 (by decide) (by decide)) (oo 195 (by decide) (by decide)) (oo 198 (by decide) (by decide)) (oo 204 (by decide) (by decide)) (oo 205 (by decide) (by decide)) (oo 206 (by decide) (by decide)) (by rw [oo 189 (by decide) (by decide)]) (by rw [oo 207 (by decide) (by decide)]) (fun q hq => by
                by_cases y : q = 190 ∨ q = 191
                · rcases y with y | y <;> (rw [y] at hq; exact absurd hq (by decide))
                · rw [oo q (by omega) (by omega)])
              refine ⟨z 8, by omega, by rw [e23], _, ed_fin (ar0 := ar) n5 X1 F1 cn rm E2 (fun k k23 _ k29 => ?_) rfl (fun _ _ => rfl) (fun _ => rfl) hd (mo_in_K (mo_g_K ar) X.sml (by omega) hk ht) (fun e f e4 _ _ => by rw [gg0]; exact mo_in_o (by omega)) RR1 ⟨fun _ h => ?_, fun _ => ⟨0, by omega, ?_⟩⟩ Ht F.kl F.o1 rfl m1 (rt.trans rs), fun _ => ol_w_v lr _⟩
              · rw [hw_ee_23 k23]
                show hq_u (hq_u (hw_ee z1) 29 0) 23 (z 8 + 1) k = _
                rw [hq_u_ne k23, hq_u_ne k29]
              · have q := h (z 8) 0 (by omega) (by omega) (by omega) (by omega)
                rw [mo_in_m, gg0] at q
                rcases X.rr.M.th (z 8) (by omega) (by omega) with ⟨_, y, y0, y1, y2⟩ | ⟨y, _⟩
                · have := Nn.lt y y0 y1
                  omega
                · omega
              · rw [cl 0 (by omega), if_pos rfl]
                omega
            · skip
              refine (wr_insertN L xs H (v := z 8) (by omega) (ev_dinsert0 L xs H X.w X.h7 (by omega) X.h5 Nn hk ht u0 u1 c d g e x0 x1 x2 x3) (fun s q => by
                obtain ⟨_, _, _, _, _, H9, _⟩ := q
                exact ⟨_, _, _, _, H9, F.o1⟩)).mono ?_
              rintro o s ⟨rfl, s0, ⟨ad1, z1, ar1, A1, ar0, H0, w1, E1, bo, a1, a2, oo, cl, m1⟩, rs, hs⟩
              have H1 := hs _ _ _ _ H0
              have X1 := X.born e w1 bo a1 a2 oo
              have hj : hw_j (hq_u z 8 (z 8 + 1)) < 61 := w1.jj.1
              have a0 : ∀ r, 192 ≤ r → ar1 r = ar r := fun r hr => (E1.a2 hj hr).trans (oo r (by omega) (by omega))
              have gg : mo_g ar1 = mo_g ar := by
                funext e f
                unfold mo_g
                exact hq_g_ne (a0 200 (by decide)) _
              have gg0 : mo_g ar0 = mo_g ar := by
                funext e f
                unfold mo_g
                exact hq_g_ne (oo 200 (by decide) (by decide)) _
              have zz : ∀ k, 20 ≤ k → k < 100 → hw_ee z1 k = z k := fun k k0 k1 => (E1.eo (by omega)).trans (hq_u_ne (by omega))
              have e23 : hw_ee z1 23 = z 8 := (zz 23 (by decide) (by decide)).trans X.m8
              have mh1 : mo_H (hw_ee z1) ar1 := mh.cg (fun r r0 _ => by rw [a0 r (by omega)]) (by rw [zz 21 (by decide) (by decide)]; exact mh.n0) (by rw [zz 21 (by decide) (by decide)]; exact mh.n1) (by rw [zz 20 (by decide) (by decide)]; exact mh.o0) (by rw [zz 20 (by decide) (by decide), zz 21 (by decide) (by decide)]; exact mh.o1) (by rw [zz 24 (by decide) (by decide)]; exact mh.op) (by rw [zz 25 (by decide) (by decide)]; exact mh.e0) (by rw [zz 25 (by decide) (by decide)]; exact mh.e1)
              have M1 : mo_R (mo_g ar1) (hw_ee z1 23) (hq_g ar 190 0) (oI (hq_g ar 190)) (oD (hq_g ar 190)) := by
                rw [gg, e23]
                exact X.rr.M
              have S1 : ∀ e, mo_g ar1 e 0 = 1 → -1000 ≤ mo_g ar1 e 2 ∧ mo_g ar1 e 2 ≤ 1000 := by
                rw [gg]
                exact X.sml
              have eA : A1 = (fun k i => if i < 401 + 16 * z 8 then Cs k i else hq_g ar0 190 i) (z 21) := by
                funext i
                show A1 i = if i < 401 + 16 * z 8 then Cs (z 21) i else hq_g ar0 190 i
                by_cases q : i < 401 + 16 * z 8
                · rw [if_pos q]
                  exact a1 i q
                · rw [if_neg q]
                  exact a2 i (by omega)
              have E2 := E1.z23 (z 8 + 1)
              rw [eA] at E2
              refine ⟨0, by decide, rfl, ⟨_, _, _, _, H1⟩, (ev_minsert0b L xs H1 mh1 M1 hk ht u0 u1 c d S1 (by rw [e23]; exact e) r1 g).mono ?_⟩
              rintro o t9 ⟨rfl, ⟨z2, ar2, hd, Ht⟩, rt⟩
              rw [gg, e23] at hd
              have idr := M.idr u0 u1
              have AA : fo_A (oD (hq_g ar 190)) (hq_g ar 190 0) r x := ⟨u0, u1, x0, x1, fun q => by
                by_cases y : x < fo_end (oD (hq_g ar 190)) (hq_g ar 190 0) r
                · have := x2 y
                  omega
                · have y2 : x = fo_end (oD (hq_g ar 190)) (hq_g ar 190 0) r := by omega
                  have := Br.2.2.2 (by omega)
                  rw [y2]
                  omega⟩
              have RR1 := X.rr.ins e AA rfl (by omega) x3.symm d bo cl
              have F1 : FX (hq_u (hq_u z 8 (z 8 + 1)) 23 (z 8 + 1)) ar0 lr := F.cg rfl rfl rfl rfl (oo 193 (by decide) (by decide)) (oo 194 (by decide) (by decide)) (oo 195 (by decide) (by decide)) (oo 198 (by decide) (by decide)) (oo 204 (by decide) (by decide)) (oo 205 (by decide) (by decide)) (oo 206 (by decide) (by decide)) (by rw [oo 189 (by decide) (by decide)]) (by rw [oo 207 (by decide) (by decide)]) (fun q hq => by
                by_cases y : q = 190 ∨ q = 191
                · rcases y with y | y <;> (rw [y] at hq; exact absurd hq (by decide))
                · rw [oo q (by omega) (by omega)])
              refine ⟨z 8, by omega, by rw [e23], _, ed_fin (ar0 := ar) n5 X1 F1 cn rm E2 (fun k k23 _ k29 => ?_) rfl (fun _ _ => rfl) (fun _ => rfl) hd (mo_in_K (mo_g_K ar) X.sml (by omega) hk ht) (fun e f e4 _ _ => by rw [gg0]; exact mo_in_o (by omega)) RR1 ⟨fun _ h => ?_, fun _ => ⟨0, by omega, ?_⟩⟩ Ht F.kl F.o1 rfl m1 (rt.trans rs), fun _ => ol_w_v lr _⟩
              · rw [hw_ee_23 k23]
                show hq_u (hq_u (hw_ee z1) 29 0) 23 (z 8 + 1) k = _
                rw [hq_u_ne k23, hq_u_ne k29]
              · have q := h (z 8) 0 (by omega) (by omega) (by omega) (by omega)
                rw [mo_in_m, gg0] at q
                rcases X.rr.M.th (z 8) (by omega) (by omega) with ⟨_, y, y0, y1, y2⟩ | ⟨y, _⟩
                · have := Nn.lt y y0 y1
                  omega
                · omega
              · rw [cl 0 (by omega), if_pos rfl]
                omega
          · exact SI.ref L xs H X F cn rm (v := 0) (by decide) (by decide) (wr_insert3 L xs H (ev_dinsert3a L xs H hl Nn hk ht u0 u1 c d g (by omega))) (fun s Hs => ev_minsert3a L xs Hs mh M hk ht u0 u1 c d (by omega))
        · have r1 : r ≠ -1 := fun q => by
            rw [q, Nn.W.1] at g
            omega
          by_cases e : z 8 < 400
          · exact SI.ref L xs H X F cn rm (v := 0) (by decide) (by decide) (wr_insert3 L xs H (ev_dinsert3b L xs H hl Nn hk ht u0 u1 c d (by omega))) (fun s Hs => ev_minsert3b L xs Hs mh M hk ht u0 u1 c d (by omega) r1 (by omega))
          · exact SI.ref L xs H X F cn rm (v := 0) (by decide) (by decide) (wr_insert3 L xs H (ev_dinsert3b L xs H hl Nn hk ht u0 u1 c d (by omega))) (fun s Hs => ev_minsert3a L xs Hs mh M hk ht u0 u1 c d (by omega))
      · exact SI.ref L xs H X F cn rm (v := 0) (by decide) (by decide) (wr_insert2 L xs H (ev_dinsert2b L xs H hl Nn hk ht u0 u1 c d)) (fun s Hs => ev_minsert2b L xs Hs mh M hk ht u0 u1 c d)
    · exact SI.ref L xs H X F cn rm (v := 0) (by decide) (by decide) (wr_insert2 L xs H (ev_dinsert2a L xs H hl Nn hk ht u0 u1 c)) (fun s Hs => ev_minsert2a L xs Hs mh M hk ht u0 u1 c)
  · exact SI.ref L xs H X F cn rm (v := 0) (by decide) (by decide) (wr_insert1 L xs H (ev_dinsert1 L xs H hl Nn hp n1 n2)) (fun s Hs => ev_minsert1 L xs Hs mh M hp n1 n2)
theorem mo_rw_ne {b e k : Int} {r : Nat} (h : r ≠ 207) : mo_rw ar b e k r = ar r := hq_u_ne h
theorem mo_rw_len {b e k : Int} (r : Nat) : (mo_rw ar b e k r).1 = (ar r).1 := by
  by_cases c : r = 207
  · rw [c]
    rfl
  · rw [mo_rw_ne c]
theorem st_remove (J : JX N σ k0 l0) (n5 : N ≤ 600) {p : Int} (hp : -2147483648 ≤ p ∧ p ≤ 2147483647) : SI L xs N σ 174 [.ref 0, .int (zI p), .ref 208] 122 [.ref 199, .int (zI p)] := by
  obtain ⟨ad, z, ar, lr, Cs, H, X, F, cn, e29, el, rm⟩ := J
  have hl := X.w.le
  have Nn := X.rr.N
  have M := X.mr
  have mh := X.mh
  rcases cs_T (oI (hq_g ar 190)) (hq_g ar 190 0) p with ⟨b, b0, b1, rfl⟩ | n2
  · have B := fo_end_B (D := (oD (hq_g ar 190))) b1
    have bb := B.1
    have be := B.2.1
    have nm := Nn.nm
    have m4 := Nn.m4
    have c1 := cn.1
    have i0 := Nn.J.1 b b0 b1
    have i1 := Nn.lt b b0 b1
    refine (wr_removeN L xs H (v := fo_end (oD (hq_g ar 190)) (hq_g ar 190 0) b - b) (by omega) (ev_dremove0 L xs H X.w X.h7 (by omega) X.h5 Nn b0 b1) (fun s q => by
      obtain ⟨_, _, _, H9, _⟩ := q
      exact ⟨_, _, _, _, H9, F.o1⟩)).mono ?_
    rintro o s ⟨rfl, s0, ⟨ad1, z1, ar1, H0, E1, cl, m1⟩, rs, hs⟩
    have H1 := hs _ _ _ _ H0
    obtain ⟨mh1, gg, e23, M1, S1, e26⟩ := X.mid E1
    refine ⟨0, by decide, rfl, ⟨_, _, _, _, H1⟩, (ev_mremove0 L xs H1 mh1 M1 b0 b1 S1).mono ?_⟩
    rintro o t ⟨rfl, ⟨z2, ar2, hd, Ht⟩, rt⟩
    rw [gg, e23] at hd
    have RR1 := X.rr.rem b0 B cl
    refine ⟨fo_end (oD (hq_g ar 190)) (hq_g ar 190 0) b - b, by omega, rfl, _, ed_fin (ar0 := ar) (zr := hq_u (hq_u (hw_ee z1) 29 0) 27 (hq_g ar 190 0)) (arr := mo_rw (mo_or ar1 (oI (hq_g ar 190)) (hq_g ar 190 0)) b (fo_end (oD (hq_g ar 190)) (hq_g ar 190 0) b) (hq_g ar 190 0)) n5 X F cn rm E1 (fun k k23 k27 k29 => by rw [hq_u_ne k27, hq_u_ne k29]) e23 (fun r hr => by rw [mo_rw_ne (by omega), mo_or_ne (by omega)]) (fun r => (mo_rw_len r).trans (mo_or_len r)) hd (mo_rm_K (mo_g_K ar) X.sml) (fun e f e4 _ _ => ?_) RR1 ⟨fun _ h => ?_, fun _ => ⟨0, by omega, ?_⟩⟩ Ht F.kl F.o1 rfl m1 (rt.trans rs), fun _ => ol_w_v lr _⟩
    · unfold mo_rm mo_sh
      rw [if_neg (by omega)]
      exact mo_cl_o _ _ _ _ (fun i j0 j1 q => by
        have := Nn.lt i (by omega) (by omega)
        omega)
    · have q := h ((oI (hq_g ar 190)) b) 0 i0 (by omega) (by omega) (by omega)
      have g1 := M.t1 b0 b1
      unfold mo_rm at q
      rw [mo_sh_f (by decide), mo_cl_i _ _ _ _ (Int.le_refl b) (by omega)] at q
      omega
    · rw [cl 0 (by omega), if_pos rfl]
      omega
  · exact SI.ref L xs H X F cn rm (v := 0) (by decide) (by decide) (wr_remove1 L xs H (ev_dremove1 L xs H hl Nn hp n2)) (fun s Hs => ev_mremove1 L xs Hs mh M hp n2)
end JJ
