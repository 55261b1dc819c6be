/-! state of both -/
section JJ
variable (L : Nat) (xs : Nat → Int32)
variable {N : Nat} {σ s t : pm_S} {ad : Nat → Nat} {z z' : Nat → Int} {ar ar' : Nat → Nat × (Nat → Int32)} {lr lr' : Nat → Nat × (Nat → Int64)} {Cs : Int → Int → Int} {k0 : Int} {l0 : Int64}
theorem rp_ok_d {r d y : Int} (h : rp_ok r d) (hy : 0 ≤ y) : rp_ok r y := by
  rcases h with h | h
  · exact Or.inl h
  · exact Or.inr ⟨h.1, h.2.1, h.2.2.1, h.2.2.2.1, h.2.2.2.2.1, hy⟩
theorem rp_ok_p {r d : Int} (h : rp_ok r d) (h0 : r ≠ 0) : 0 < r := by
  rcases h with h | h
  · exact absurd h h0
  · have := h.1
    omega
theorem st_state (J : JX N σ k0 l0) (n5 : N ≤ 600) {p : Int} (hp : -2147483648 ≤ p ∧ p ≤ 2147483647) {v : Int} (hv : -2147483648 ≤ v ∧ v ≤ 2147483647) : SI L xs N σ 179 [.ref 0, .int (zI p), .int (zI v), .ref 208] 129 [.ref 199, .int (zI p), .int (zI v)] := by
  obtain ⟨ad, z, ar, lr, Cs, H, X, F, cn, e29, el, rm⟩ := J
  have hl := X.w.le
  have Nn := X.rr.N
  have M := X.mr
  have mh := X.mh
  rcases cs_T (oI (hq_g ar 190)) (hq_g ar 190 0) p with ⟨b, b0, b1, rfl⟩ | n2
  · have f := X.rr.F b b0 b1
    have g := X.rr.G b b0 b1
    have i0 := Nn.J.1 b b0 b1
    have i1 := Nn.lt b b0 b1
    have m4 := Nn.m4
    have c1 := cn.1
    have td : z 26 = z 0 := F.td
    have g10 := g.r10
    have g11 := g.r11
    by_cases c : 0 ≤ v ∧ v ≤ 4
    · by_cases d : v = 3
      · subst d
        by_cases a0 : oV (hq_g ar 190) (oI (hq_g ar 190) b) 14 = 0
        · by_cases a1 : oV (hq_g ar 190) (oI (hq_g ar 190) b) 15 = 0
          · skip
            refine (wr_stateN L xs H (v := 3) (by omega) (ev_dstate0b L xs H X.w X.h7 (by omega) X.h5 Nn b0 b1 ⟨a0, a1⟩) (fun s q => by
              obtain ⟨_, _, _, H9, _⟩ := q
              exact ⟨_, _, _, _, H9, F.o1⟩)).mono ?_
            rintro o s ⟨rfl, s0, ⟨ad1, z1, ar1, H0, E1, cl, m1⟩, rs, hs⟩
            have H1 := hs _ _ _ _ H0
            obtain ⟨mh1, gg, e23, M1, S1, e26⟩ := X.mid E1
            refine ⟨0, by decide, rfl, ⟨_, _, _, _, H1⟩, (ev_mstate0b L xs H1 mh1 M1 b0 b1 (by rw [gg, f.f10, a0]; decide) (by rw [gg, f.f11, a1]; decide)).mono ?_⟩
            rintro o t ⟨rfl, ⟨z2, ar2, hd, Ht⟩, rt⟩
            rw [gg] at hd
            generalize hg1 : mo_pt (mo_g ar) (oI (hq_g ar 190) b) (4) (3) = g1 at hd
            have o3 : oV (hq_g ar1 190) (oI (hq_g ar 190) b) 3 = oV (hq_g ar 190) (oI (hq_g ar 190) b) 3 := (cl _ (by omega)).trans (by rw [if_neg (by omega)]; first | done | rfl)
            have o4 : oV (hq_g ar1 190) (oI (hq_g ar 190) b) 4 = 3 := (cl _ (by omega)).trans (by rw [if_pos (by omega)])
            have o5 : oV (hq_g ar1 190) (oI (hq_g ar 190) b) 5 = oV (hq_g ar 190) (oI (hq_g ar 190) b) 5 := (cl _ (by omega)).trans (by rw [if_neg (by omega)]; first | done | rfl)
            have o6 : oV (hq_g ar1 190) (oI (hq_g ar 190) b) 6 = oV (hq_g ar 190) (oI (hq_g ar 190) b) 6 := (cl _ (by omega)).trans (by rw [if_neg (by omega)]; first | done | rfl)
            have o7 : oV (hq_g ar1 190) (oI (hq_g ar 190) b) 7 = oV (hq_g ar 190) (oI (hq_g ar 190) b) 7 := (cl _ (by omega)).trans (by rw [if_neg (by omega)]; first | done | rfl)
            have o8 : oV (hq_g ar1 190) (oI (hq_g ar 190) b) 8 = oV (hq_g ar 190) (oI (hq_g ar 190) b) 8 := (cl _ (by omega)).trans (by rw [if_neg (by omega)]; first | done | rfl)
            have o9 : oV (hq_g ar1 190) (oI (hq_g ar 190) b) 9 = oV (hq_g ar 190) (oI (hq_g ar 190) b) 9 := (cl _ (by omega)).trans (by rw [if_neg (by omega)]; first | done | rfl)
            have o10 : oV (hq_g ar1 190) (oI (hq_g ar 190) b) 10 = oV (hq_g ar 190) (oI (hq_g ar 190) b) 10 := (cl _ (by omega)).trans (by rw [if_neg (by omega)]; first | done | rfl)
            have o11 : oV (hq_g ar1 190) (oI (hq_g ar 190) b) 11 = oV (hq_g ar 190) (oI (hq_g ar 190) b) 11 := (cl _ (by omega)).trans (by rw [if_neg (by omega)]; first | done | rfl)
            have o12 : oV (hq_g ar1 190) (oI (hq_g ar 190) b) 12 = oV (hq_g ar 190) (oI (hq_g ar 190) b) 12 := (cl _ (by omega)).trans (by rw [if_neg (by omega)]; first | done | rfl)
            have o13 : oV (hq_g ar1 190) (oI (hq_g ar 190) b) 13 = oV (hq_g ar 190) (oI (hq_g ar 190) b) 13 := (cl _ (by omega)).trans (by rw [if_neg (by omega)]; first | done | rfl)
            have o14 : oV (hq_g ar1 190) (oI (hq_g ar 190) b) 14 = oV (hq_g ar 190) (oI (hq_g ar 190) b) 14 := (cl _ (by omega)).trans (by rw [if_neg (by omega)]; first | done | rfl)
            have o15 : oV (hq_g ar1 190) (oI (hq_g ar 190) b) 15 = oV (hq_g ar 190) (oI (hq_g ar 190) b) 15 := (cl _ (by omega)).trans (by rw [if_neg (by omega)]; first | done | rfl)
            have F1 : rr_f (hq_g ar1 190) g1 (oI (hq_g ar 190) b) := by
              rw [← hg1]
              exact rr_f.mk (by rw [mo_pt_f (by decide), o3]; exact f.f3) (by show _ = _; rw [mo_pt_at, o4]) (by rw [mo_pt_f (by decide), o5]; exact f.f5) (by rw [mo_pt_f (by decide), o6]; exact f.f6) (by rw [mo_pt_f (by decide), o9]; exact f.f7) (by rw [mo_pt_f (by decide), o10]; exact f.f8) (by rw [mo_pt_f (by decide), o11]; exact f.f9) (by rw [mo_pt_f (by decide), o14]; exact f.f10) (by rw [mo_pt_f (by decide), o15]; exact f.f11) (by rw [mo_pt_f (by decide), o12]; exact f.f12) (by rw [mo_pt_f (by decide), o13]; exact f.f13)
            have G1 : rr_r (hq_g ar1 190) (oI (hq_g ar 190) b) := rr_r.mk (by rw [o3]; exact g.r3) (by rw [o4]; exact (by decide)) (by rw [o5]; exact g.r5) (by rw [o9]; exact g.r9) (by rw [o10]; exact g.r10) (by rw [o11]; exact g.r11) (by rw [o12]; exact g.r12) (by rw [o13]; exact g.r13) (by rw [o14, o10]; exact g.r14) (by rw [o15, o11]; exact g.r15)
            have hg : ∀ a f, (a ≠ (oI (hq_g ar 190) b) ∨ f < 3) → g1 a f = mo_g ar a f := by
              rw [← hg1]
              intro a f h
              rcases h with h | h
              · rw [mo_pt_e h]
              · rw [mo_pt_f (by omega)]
            have hc : ∀ i, 0 ≤ i → (i ≤ 401 + (oI (hq_g ar 190) b) * 16 + 2 ∨ 401 + (oI (hq_g ar 190) b) * 16 + 16 ≤ i) → hq_g ar1 190 i = hq_g ar 190 i := fun i i0 h => by rw [cl i i0, if_neg (by omega)]
            have K1 : mo_K g1 := by
              rw [← hg1]
              exact mo_pt_K (mo_g_K ar) (by decide)
            exact ⟨3, by omega, rfl, _, fld_fin n5 X F cn rm E1 b0 b1 hc o7 o8 hg F1 G1 K1 hd Ht F.kl F.o1 rfl m1 (rt.trans rs), fun _ => ol_w_v lr _⟩
          · skip
            obtain ⟨y1, v1, yr1, yp1, vr1, eq1, ne1, mD1, mM1⟩ := mvd L xs g.r15 a1 g.r11.2 F.tr
            by_cases n1 : y1 ≤ 3652058
            · skip
              refine (wr_stateN L xs H (v := 1) (by omega) (ev_dstate0c L xs H X.w X.h7 (by omega) X.h5 Nn b0 b1 (fun h => a1 h.2) (y0 := oV (hq_g ar 190) (oI (hq_g ar 190) b) 10) (y1 := y1) (fun s => by rw [a0]; exact ev_moved0 L xs s) (by omega) mD1 yr1 (by omega) (by omega)) (fun s q => by
                obtain ⟨_, _, _, H9, _⟩ := q
                exact ⟨_, _, _, _, H9, F.o1⟩)).mono ?_
              rintro o s ⟨rfl, s0, ⟨ad1, z1, ar1, H0, E1, cl, m1⟩, rs, hs⟩
              have H1 := hs _ _ _ _ H0
              obtain ⟨mh1, gg, e23, M1, S1, e26⟩ := X.mid E1
              refine ⟨0, by decide, rfl, ⟨_, _, _, _, H1⟩, (ev_mstate0zo L xs H1 mh1 M1 b0 b1 (by rw [gg, f.f10, a0]; decide) (by rw [gg, f.f11]; exact rp_ok_p g.r15 a1) (y1 := v1) (fun s z9 ar9 ad9 Hs e => by rw [gg, f.f9, f.f11]; exact mM1 s z9 ar9 ad9 _ Hs (e.trans (e26.trans td))) vr1 (by rw [eq1 n1]; exact n1)).mono ?_⟩
              rintro o t ⟨rfl, ⟨z2, ar2, hd, Ht⟩, rt⟩
              rw [gg, eq1 n1] at hd
              generalize hg1 : mo_pt (mo_pt (mo_g ar) (oI (hq_g ar 190) b) (9) (y1)) (oI (hq_g ar 190) b) (4) (1) = g1 at hd
              have o3 : oV (hq_g ar1 190) (oI (hq_g ar 190) b) 3 = oV (hq_g ar 190) (oI (hq_g ar 190) b) 3 := (cl _ (by omega)).trans (by rw [if_neg (by omega), if_neg (by omega), if_neg (by omega)]; first | done | rfl)
              have o4 : oV (hq_g ar1 190) (oI (hq_g ar 190) b) 4 = 1 := (cl _ (by omega)).trans (by rw [if_pos (by omega)])
              have o5 : oV (hq_g ar1 190) (oI (hq_g ar 190) b) 5 = oV (hq_g ar 190) (oI (hq_g ar 190) b) 5 := (cl _ (by omega)).trans (by rw [if_neg (by omega), if_neg (by omega), if_neg (by omega)]; first | done | rfl)
              have o6 : oV (hq_g ar1 190) (oI (hq_g ar 190) b) 6 = oV (hq_g ar 190) (oI (hq_g ar 190) b) 6 := (cl _ (by omega)).trans (by rw [if_neg (by omega), if_neg (by omega), if_neg (by omega)]; first | done | rfl)
              have o7 : oV (hq_g ar1 190) (oI (hq_g ar 190) b) 7 = oV (hq_g ar 190) (oI (hq_g ar 190) b) 7 := (cl _ (by omega)).trans (by rw [if_neg (by omega), if_neg (by omega), if_neg (by omega)]; first | done | rfl)
              have o8 : oV (hq_g ar1 190) (oI (hq_g ar 190) b) 8 = oV (hq_g ar 190) (oI (hq_g ar 190) b) 8 := (cl _ (by omega)).trans (by rw [if_neg (by omega), if_neg (by omega), if_neg (by omega)]; first | done | rfl)
              have o9 : oV (hq_g ar1 190) (oI (hq_g ar 190) b) 9 = oV (hq_g ar 190) (oI (hq_g ar 190) b) 9 := (cl _ (by omega)).trans (by rw [if_neg (by omega), if_neg (by omega), if_neg (by omega)]; first | done | rfl)
              have o10 : oV (hq_g ar1 190) (oI (hq_g ar 190) b) 10 = oV (hq_g ar 190) (oI (hq_g ar 190) b) 10 := (cl _ (by omega)).trans (by rw [if_neg (by omega), if_neg (by omega), if_pos (by omega)])
              have o11 : oV (hq_g ar1 190) (oI (hq_g ar 190) b) 11 = y1 := (cl _ (by omega)).trans (by rw [if_neg (by omega), if_pos (by omega)])
              have o12 : oV (hq_g ar1 190) (oI (hq_g ar 190) b) 12 = oV (hq_g ar 190) (oI (hq_g ar 190) b) 12 := (cl _ (by omega)).trans (by rw [if_neg (by omega), if_neg (by omega), if_neg (by omega)]; first | done | rfl)
              have o13 : oV (hq_g ar1 190) (oI (hq_g ar 190) b) 13 = oV (hq_g ar 190) (oI (hq_g ar 190) b) 13 := (cl _ (by omega)).trans (by rw [if_neg (by omega), if_neg (by omega), if_neg (by omega)]; first | done | rfl)
              have o14 : oV (hq_g ar1 190) (oI (hq_g ar 190) b) 14 = oV (hq_g ar 190) (oI (hq_g ar 190) b) 14 := (cl _ (by omega)).trans (by rw [if_neg (by omega), if_neg (by omega), if_neg (by omega)]; first | done | rfl)
              have o15 : oV (hq_g ar1 190) (oI (hq_g ar 190) b) 15 = oV (hq_g ar 190) (oI (hq_g ar 190) b) 15 := (cl _ (by omega)).trans (by rw [if_neg (by omega), if_neg (by omega), if_neg (by omega)]; first | done | rfl)
              have F1 : rr_f (hq_g ar1 190) g1 (oI (hq_g ar 190) b) := by
                rw [← hg1]
                exact rr_f.mk (by rw [mo_pt_f (by decide), mo_pt_f (by decide), o3]; exact f.f3) (by show _ = _; rw [mo_pt_at, o4]) (by rw [mo_pt_f (by decide), mo_pt_f (by decide), o5]; exact f.f5) (by rw [mo_pt_f (by decide), mo_pt_f (by decide), o6]; exact f.f6) (by rw [mo_pt_f (by decide), mo_pt_f (by decide), o9]; exact f.f7) (by rw [mo_pt_f (by decide), mo_pt_f (by decide), o10]; exact f.f8) (by show _ = _; rw [mo_pt_f (by decide), mo_pt_at, o11]) (by rw [mo_pt_f (by decide), mo_pt_f (by decide), o14]; exact f.f10) (by rw [mo_pt_f (by decide), mo_pt_f (by decide), o15]; exact f.f11) (by rw [mo_pt_f (by decide), mo_pt_f (by decide), o12]; exact f.f12) (by rw [mo_pt_f (by decide), mo_pt_f (by decide), o13]; exact f.f13)
              have G1 : rr_r (hq_g ar1 190) (oI (hq_g ar 190) b) := rr_r.mk (by rw [o3]; exact g.r3) (by rw [o4]; exact (by decide)) (by rw [o5]; exact g.r5) (by rw [o9]; exact g.r9) (by rw [o10]; exact g.r10) (by rw [o11]; exact (by omega)) (by rw [o12]; exact g.r12) (by rw [o13]; exact g.r13) (by rw [o14, o10]; exact g.r14) (by rw [o15, o11]; exact rp_ok_d g.r15 yp1)
              have hg : ∀ a f, (a ≠ (oI (hq_g ar 190) b) ∨ f < 3) → g1 a f = mo_g ar a f := by
                rw [← hg1]
                intro a f h
                rcases h with h | h
                · rw [mo_pt_e h, mo_pt_e h]
                · rw [mo_pt_f (by omega), mo_pt_f (by omega)]
              have hc : ∀ i, 0 ≤ i → (i ≤ 401 + (oI (hq_g ar 190) b) * 16 + 2 ∨ 401 + (oI (hq_g ar 190) b) * 16 + 16 ≤ i) → hq_g ar1 190 i = hq_g ar 190 i := fun i i0 h => by rw [cl i i0, if_neg (by omega), if_neg (by omega), if_neg (by omega)]
              have K1 : mo_K g1 := by
                rw [← hg1]
                exact mo_pt_K (mo_pt_K (mo_g_K ar) yr1) (by decide)
              exact ⟨1, by omega, rfl, _, fld_fin n5 X F cn rm E1 b0 b1 hc o7 o8 hg F1 G1 K1 hd Ht F.kl F.o1 rfl m1 (rt.trans rs), fun _ => ol_w_v lr _⟩
            · exact SI.ref L xs H X F cn rm (v := 0) (by decide) (by decide) (wr_state3 L xs H (ev_dstate3 L xs H hl Nn b0 b1 (fun h => a1 h.2) (y0 := oV (hq_g ar 190) (oI (hq_g ar 190) b) 10) (y1 := y1) (fun s => by rw [a0]; exact ev_moved0 L xs s) (by omega) mD1 yr1 (by omega))) (fun s Hs => ev_mstate3zx L xs Hs mh M b0 b1 (by rw [f.f10, a0]; decide) (by rw [f.f11]; exact rp_ok_p g.r15 a1) (y1 := v1) (fun s z9 ar9 ad9 Hs e => by rw [f.f9, f.f11]; exact mM1 s z9 ar9 ad9 _ Hs (e.trans td)) vr1 (ne1 n1))
        · by_cases a1 : oV (hq_g ar 190) (oI (hq_g ar 190) b) 15 = 0
          · skip
            obtain ⟨y0, v0, yr0, yp0, vr0, eq0, ne0, mD0, mM0⟩ := mvd L xs g.r14 a0 g.r10.2 F.tr
            by_cases n0 : y0 ≤ 3652058
            · skip
              refine (wr_stateN L xs H (v := 1) (by omega) (ev_dstate0c L xs H X.w X.h7 (by omega) X.h5 Nn b0 b1 (fun h => a0 h.1) (y0 := y0) (y1 := oV (hq_g ar 190) (oI (hq_g ar 190) b) 11) mD0 yr0 (fun s => by rw [a1]; exact ev_moved0 L xs s) (by omega) (by omega) (by omega)) (fun s q => by
                obtain ⟨_, _, _, H9, _⟩ := q
                exact ⟨_, _, _, _, H9, F.o1⟩)).mono ?_
              rintro o s ⟨rfl, s0, ⟨ad1, z1, ar1, H0, E1, cl, m1⟩, rs, hs⟩
              have H1 := hs _ _ _ _ H0
              obtain ⟨mh1, gg, e23, M1, S1, e26⟩ := X.mid E1
              refine ⟨0, by decide, rfl, ⟨_, _, _, _, H1⟩, (ev_mstate0oz L xs H1 mh1 M1 b0 b1 (by rw [gg, f.f10]; exact rp_ok_p g.r14 a0) (y0 := v0) (fun s z9 ar9 ad9 Hs e => by rw [gg, f.f8, f.f10]; exact mM0 s z9 ar9 ad9 _ Hs (e.trans (e26.trans td))) vr0 (by rw [eq0 n0]; exact n0) (by rw [gg, f.f11, a1]; decide)).mono ?_⟩
              rintro o t ⟨rfl, ⟨z2, ar2, hd, Ht⟩, rt⟩
              rw [gg, eq0 n0] at hd
              generalize hg1 : mo_pt (mo_pt (mo_g ar) (oI (hq_g ar 190) b) (8) (y0)) (oI (hq_g ar 190) b) (4) (1) = g1 at hd
              have o3 : oV (hq_g ar1 190) (oI (hq_g ar 190) b) 3 = oV (hq_g ar 190) (oI (hq_g ar 190) b) 3 := (cl _ (by omega)).trans (by rw [if_neg (by omega), if_neg (by omega), if_neg (by omega)]; first | done | rfl)
              have o4 : oV (hq_g ar1 190) (oI (hq_g ar 190) b) 4 = 1 := (cl _ (by omega)).trans (by rw [if_pos (by omega)])
              have o5 : oV (hq_g ar1 190) (oI (hq_g ar 190) b) 5 = oV (hq_g ar 190) (oI (hq_g ar 190) b) 5 := (cl _ (by omega)).trans (by rw [if_neg (by omega), if_neg (by omega), if_neg (by omega)]; first | done | rfl)
              have o6 : oV (hq_g ar1 190) (oI (hq_g ar 190) b) 6 = oV (hq_g ar 190) (oI (hq_g ar 190) b) 6 := (cl _ (by omega)).trans (by rw [if_neg (by omega), if_neg (by omega), if_neg (by omega)]; first | done | rfl)
              have o7 : oV (hq_g ar1 190) (oI (hq_g ar 190) b) 7 = oV (hq_g ar 190) (oI (hq_g ar 190) b) 7 := (cl _ (by omega)).trans (by rw [if_neg (by omega), if_neg (by omega), if_neg (by omega)]; first | done | rfl)
              have o8 : oV (hq_g ar1 190) (oI (hq_g ar 190) b) 8 = oV (hq_g ar 190) (oI (hq_g ar 190) b) 8 := (cl _ (by omega)).trans (by rw [if_neg (by omega), if_neg (by omega), if_neg (by omega)]; first | done | rfl)
              have o9 : oV (hq_g ar1 190) (oI (hq_g ar 190) b) 9 = oV (hq_g ar 190) (oI (hq_g ar 190) b) 9 := (cl _ (by omega)).trans (by rw [if_neg (by omega), if_neg (by omega), if_neg (by omega)]; first | done | rfl)
              have o10 : oV (hq_g ar1 190) (oI (hq_g ar 190) b) 10 = y0 := (cl _ (by omega)).trans (by rw [if_neg (by omega), if_neg (by omega), if_pos (by omega)])
              have o11 : oV (hq_g ar1 190) (oI (hq_g ar 190) b) 11 = oV (hq_g ar 190) (oI (hq_g ar 190) b) 11 := (cl _ (by omega)).trans (by rw [if_neg (by omega), if_pos (by omega)])
              have o12 : oV (hq_g ar1 190) (oI (hq_g ar 190) b) 12 = oV (hq_g ar 190) (oI (hq_g ar 190) b) 12 := (cl _ (by omega)).trans (by rw [if_neg (by omega), if_neg (by omega), if_neg (by omega)]; first | done | rfl)
              have o13 : oV (hq_g ar1 190) (oI (hq_g ar 190) b) 13 = oV (hq_g ar 190) (oI (hq_g ar 190) b) 13 := (cl _ (by omega)).trans (by rw [if_neg (by omega), if_neg (by omega), if_neg (by omega)]; first | done | rfl)
              have o14 : oV (hq_g ar1 190) (oI (hq_g ar 190) b) 14 = oV (hq_g ar 190) (oI (hq_g ar 190) b) 14 := (cl _ (by omega)).trans (by rw [if_neg (by omega), if_neg (by omega), if_neg (by omega)]; first | done | rfl)
              have o15 : oV (hq_g ar1 190) (oI (hq_g ar 190) b) 15 = oV (hq_g ar 190) (oI (hq_g ar 190) b) 15 := (cl _ (by omega)).trans (by rw [if_neg (by omega), if_neg (by omega), if_neg (by omega)]; first | done | rfl)
              have F1 : rr_f (hq_g ar1 190) g1 (oI (hq_g ar 190) b) := by
                rw [← hg1]
                exact rr_f.mk (by rw [mo_pt_f (by decide), mo_pt_f (by decide), o3]; exact f.f3) (by show _ = _; rw [mo_pt_at, o4]) (by rw [mo_pt_f (by decide), mo_pt_f (by decide), o5]; exact f.f5) (by rw [mo_pt_f (by decide), mo_pt_f (by decide), o6]; exact f.f6) (by rw [mo_pt_f (by decide), mo_pt_f (by decide), o9]; exact f.f7) (by show _ = _; rw [mo_pt_f (by decide), mo_pt_at, o10]) (by rw [mo_pt_f (by decide), mo_pt_f (by decide), o11]; exact f.f9) (by rw [mo_pt_f (by decide), mo_pt_f (by decide), o14]; exact f.f10) (by rw [mo_pt_f (by decide), mo_pt_f (by decide), o15]; exact f.f11) (by rw [mo_pt_f (by decide), mo_pt_f (by decide), o12]; exact f.f12) (by rw [mo_pt_f (by decide), mo_pt_f (by decide), o13]; exact f.f13)
              have G1 : rr_r (hq_g ar1 190) (oI (hq_g ar 190) b) := rr_r.mk (by rw [o3]; exact g.r3) (by rw [o4]; exact (by decide)) (by rw [o5]; exact g.r5) (by rw [o9]; exact g.r9) (by rw [o10]; exact (by omega)) (by rw [o11]; exact g.r11) (by rw [o12]; exact g.r12) (by rw [o13]; exact g.r13) (by rw [o14, o10]; exact rp_ok_d g.r14 yp0) (by rw [o15, o11]; exact g.r15)
              have hg : ∀ a f, (a ≠ (oI (hq_g ar 190) b) ∨ f < 3) → g1 a f = mo_g ar a f := by
                rw [← hg1]
                intro a f h
                rcases h with h | h
                · rw [mo_pt_e h, mo_pt_e h]
                · rw [mo_pt_f (by omega), mo_pt_f (by omega)]
              have hc : ∀ i, 0 ≤ i → (i ≤ 401 + (oI (hq_g ar 190) b) * 16 + 2 ∨ 401 + (oI (hq_g ar 190) b) * 16 + 16 ≤ i) → hq_g ar1 190 i = hq_g ar 190 i := fun i i0 h => by rw [cl i i0, if_neg (by omega), if_neg (by omega), if_neg (by omega)]
              have K1 : mo_K g1 := by
                rw [← hg1]
                exact mo_pt_K (mo_pt_K (mo_g_K ar) yr0) (by decide)
              exact ⟨1, by omega, rfl, _, fld_fin n5 X F cn rm E1 b0 b1 hc o7 o8 hg F1 G1 K1 hd Ht F.kl F.o1 rfl m1 (rt.trans rs), fun _ => ol_w_v lr _⟩
            · exact SI.ref L xs H X F cn rm (v := 0) (by decide) (by decide) (wr_state3 L xs H (ev_dstate3 L xs H hl Nn b0 b1 (fun h => a0 h.1) (y0 := y0) (y1 := oV (hq_g ar 190) (oI (hq_g ar 190) b) 11) mD0 yr0 (fun s => by rw [a1]; exact ev_moved0 L xs s) (by omega) (by omega))) (fun s Hs => ev_mstate3xz L xs Hs mh M b0 b1 (by rw [f.f10]; exact rp_ok_p g.r14 a0) (y0 := v0) (fun s z9 ar9 ad9 Hs e => by rw [f.f8, f.f10]; exact mM0 s z9 ar9 ad9 _ Hs (e.trans td)) vr0 (ne0 n0) (by rw [f.f11, a1]; decide))
          · skip
            obtain ⟨y0, v0, yr0, yp0, vr0, eq0, ne0, mD0, mM0⟩ := mvd L xs g.r14 a0 g.r10.2 F.tr
            obtain ⟨y1, v1, yr1, yp1, vr1, eq1, ne1, mD1, mM1⟩ := mvd L xs g.r15 a1 g.r11.2 F.tr
            by_cases n0 : y0 ≤ 3652058
            · by_cases n1 : y1 ≤ 3652058
              · skip
                refine (wr_stateN L xs H (v := 1) (by omega) (ev_dstate0c L xs H X.w X.h7 (by omega) X.h5 Nn b0 b1 (fun h => a0 h.1) (y0 := y0) (y1 := y1) mD0 yr0 mD1 yr1 (by omega) (by omega)) (fun s q => by
                  obtain ⟨_, _, _, H9, _⟩ := q
                  exact ⟨_, _, _, _, H9, F.o1⟩)).mono ?_
                rintro o s ⟨rfl, s0, ⟨ad1, z1, ar1, H0, E1, cl, m1⟩, rs, hs⟩
                have H1 := hs _ _ _ _ H0
                obtain ⟨mh1, gg, e23, M1, S1, e26⟩ := X.mid E1
                refine ⟨0, by decide, rfl, ⟨_, _, _, _, H1⟩, (ev_mstate0oo L xs H1 mh1 M1 b0 b1 (by rw [gg, f.f10]; exact rp_ok_p g.r14 a0) (y0 := v0) (fun s z9 ar9 ad9 Hs e => by rw [gg, f.f8, f.f10]; exact mM0 s z9 ar9 ad9 _ Hs (e.trans (e26.trans td))) vr0 (by rw [eq0 n0]; exact n0) (by rw [gg, f.f11]; exact rp_ok_p g.r15 a1) (y1 := v1) (fun s z9 ar9 ad9 Hs e => by rw [gg, f.f9, f.f11]; exact mM1 s z9 ar9 ad9 _ Hs (e.trans (e26.trans td))) vr1 (by rw [eq1 n1]; exact n1)).mono ?_⟩
                rintro o t ⟨rfl, ⟨z2, ar2, hd, Ht⟩, rt⟩
                rw [gg, eq0 n0, eq1 n1] at hd
                generalize hg1 : mo_pt (mo_pt (mo_pt (mo_g ar) (oI (hq_g ar 190) b) (8) (y0)) (oI (hq_g ar 190) b) (9) (y1)) (oI (hq_g ar 190) b) (4) (1) = g1 at hd
                have o3 : oV (hq_g ar1 190) (oI (hq_g ar 190) b) 3 = oV (hq_g ar 190) (oI (hq_g ar 190) b) 3 := (cl _ (by omega)).trans (by rw [if_neg (by omega), if_neg (by omega), if_neg (by omega)]; first | done | rfl)
                have o4 : oV (hq_g ar1 190) (oI (hq_g ar 190) b) 4 = 1 := (cl _ (by omega)).trans (by rw [if_pos (by omega)])
                have o5 : oV (hq_g ar1 190) (oI (hq_g ar 190) b) 5 = oV (hq_g ar 190) (oI (hq_g ar 190) b) 5 := (cl _ (by omega)).trans (by rw [if_neg (by omega), if_neg (by omega), if_neg (by omega)]; first | done | rfl)
                have o6 : oV (hq_g ar1 190) (oI (hq_g ar 190) b) 6 = oV (hq_g ar 190) (oI (hq_g ar 190) b) 6 := (cl _ (by omega)).trans (by rw [if_neg (by omega), if_neg (by omega), if_neg (by omega)]; first | done | rfl)
                have o7 : oV (hq_g ar1 190) (oI (hq_g ar 190) b) 7 = oV (hq_g ar 190) (oI (hq_g ar 190) b) 7 := (cl _ (by omega)).trans (by rw [if_neg (by omega), if_neg (by omega), if_neg (by omega)]; first | done | rfl)
                have o8 : oV (hq_g ar1 190) (oI (hq_g ar 190) b) 8 = oV (hq_g ar 190) (oI (hq_g ar 190) b) 8 := (cl _ (by omega)).trans (by rw [if_neg (by omega), if_neg (by omega), if_neg (by omega)]; first | done | rfl)
                have o9 : oV (hq_g ar1 190) (oI (hq_g ar 190) b) 9 = oV (hq_g ar 190) (oI (hq_g ar 190) b) 9 := (cl _ (by omega)).trans (by rw [if_neg (by omega), if_neg (by omega), if_neg (by omega)]; first | done | rfl)
                have o10 : oV (hq_g ar1 190) (oI (hq_g ar 190) b) 10 = y0 := (cl _ (by omega)).trans (by rw [if_neg (by omega), if_neg (by omega), if_pos (by omega)])
                have o11 : oV (hq_g ar1 190) (oI (hq_g ar 190) b) 11 = y1 := (cl _ (by omega)).trans (by rw [if_neg (by omega), if_pos (by omega)])
                have o12 : oV (hq_g ar1 190) (oI (hq_g ar 190) b) 12 = oV (hq_g ar 190) (oI (hq_g ar 190) b) 12 := (cl _ (by omega)).trans (by rw [if_neg (by omega), if_neg (by omega), if_neg (by omega)]; first | done | rfl)
                have o13 : oV (hq_g ar1 190) (oI (hq_g ar 190) b) 13 = oV (hq_g ar 190) (oI (hq_g ar 190) b) 13 := (cl _ (by omega)).trans (by rw [if_neg (by omega), if_neg (by omega), if_neg (by omega)]; first | done | rfl)
                have o14 : oV (hq_g ar1 190) (oI (hq_g ar 190) b) 14 = oV (hq_g ar 190) (oI (hq_g ar 190) b) 14 := (cl _ (by omega)).trans (by rw [if_neg (by omega), if_neg (by omega), if_neg (by omega)]; first | done | rfl)
                have o15 : oV (hq_g ar1 190) (oI (hq_g ar 190) b) 15 = oV (hq_g ar 190) (oI (hq_g ar 190) b) 15 := (cl _ (by omega)).trans (by rw [if_neg (by omega), if_neg (by omega), if_neg (by omega)]; first | done | rfl)
                have F1 : rr_f (hq_g ar1 190) g1 (oI (hq_g ar 190) b) := by
                  rw [← hg1]
                  exact rr_f.mk (by rw [mo_pt_f (by decide), mo_pt_f (by decide), mo_pt_f (by decide), o3]; exact f.f3) (by show _ = _; rw [mo_pt_at, o4]) (by rw [mo_pt_f (by decide), mo_pt_f (by decide), mo_pt_f (by decide), o5]; exact f.f5) (by rw [mo_pt_f (by decide), mo_pt_f (by decide), mo_pt_f (by decide), o6]; exact f.f6) (by rw [mo_pt_f (by decide), mo_pt_f (by decide), mo_pt_f (by decide), o9]; exact f.f7) (by show _ = _; rw [mo_pt_f (by decide), mo_pt_f (by decide), mo_pt_at, o10]) (by show _ = _; rw [mo_pt_f (by decide), mo_pt_at, o11]) (by rw [mo_pt_f (by decide), mo_pt_f (by decide), mo_pt_f (by decide), o14]; exact f.f10) (by rw [mo_pt_f (by decide), mo_pt_f (by decide), mo_pt_f (by decide), o15]; exact f.f11) (by rw [mo_pt_f (by decide), mo_pt_f (by decide), mo_pt_f (by decide), o12]; exact f.f12) (by rw [mo_pt_f (by decide), mo_pt_f (by decide), mo_pt_f (by decide), o13]; exact f.f13)
                have G1 : rr_r (hq_g ar1 190) (oI (hq_g ar 190) b) := rr_r.mk (by rw [o3]; exact g.r3) (by rw [o4]; exact (by decide)) (by rw [o5]; exact g.r5) (by rw [o9]; exact g.r9) (by rw [o10]; exact (by omega)) (by rw [o11]; exact (by omega)) (by rw [o12]; exact g.r12) (by rw [o13]; exact g.r13) (by rw [o14, o10]; exact rp_ok_d g.r14 yp0) (by rw [o15, o11]; exact rp_ok_d g.r15 yp1)
                have hg : ∀ a f, (a ≠ (oI (hq_g ar 190) b) ∨ f < 3) → g1 a f = mo_g ar a f := by
                  rw [← hg1]
                  intro a f h
                  rcases h with h | h
                  · rw [mo_pt_e h, mo_pt_e h, mo_pt_e h]
                  · rw [mo_pt_f (by omega), mo_pt_f (by omega), mo_pt_f (by omega)]
                have hc : ∀ i, 0 ≤ i → (i ≤ 401 + (oI (hq_g ar 190) b) * 16 + 2 ∨ 401 + (oI (hq_g ar 190) b) * 16 + 16 ≤ i) → hq_g ar1 190 i = hq_g ar 190 i := fun i i0 h => by rw [cl i i0, if_neg (by omega), if_neg (by omega), if_neg (by omega)]
                have K1 : mo_K g1 := by
                  rw [← hg1]
                  exact mo_pt_K (mo_pt_K (mo_pt_K (mo_g_K ar) yr0) yr1) (by decide)
                exact ⟨1, by omega, rfl, _, fld_fin n5 X F cn rm E1 b0 b1 hc o7 o8 hg F1 G1 K1 hd Ht F.kl F.o1 rfl m1 (rt.trans rs), fun _ => ol_w_v lr _⟩
              · exact SI.ref L xs H X F cn rm (v := 0) (by decide) (by decide) (wr_state3 L xs H (ev_dstate3 L xs H hl Nn b0 b1 (fun h => a0 h.1) (y0 := y0) (y1 := y1) mD0 yr0 mD1 yr1 (by omega))) (fun s Hs => ev_mstate3ox L xs Hs mh M b0 b1 (by rw [f.f10]; exact rp_ok_p g.r14 a0) (y0 := v0) (fun s z9 ar9 ad9 Hs e => by rw [f.f8, f.f10]; exact mM0 s z9 ar9 ad9 _ Hs (e.trans td)) vr0 (by rw [eq0 n0]; exact n0) (by rw [f.f11]; exact rp_ok_p g.r15 a1) (y1 := v1) (fun s z9 ar9 ad9 Hs e => by rw [f.f9, f.f11]; exact mM1 s z9 ar9 ad9 _ Hs (e.trans td)) vr1 (ne1 n1))
            · by_cases n1 : y1 ≤ 3652058
              · exact SI.ref L xs H X F cn rm (v := 0) (by decide) (by decide) (wr_state3 L xs H (ev_dstate3 L xs H hl Nn b0 b1 (fun h => a0 h.1) (y0 := y0) (y1 := y1) mD0 yr0 mD1 yr1 (by omega))) (fun s Hs => ev_mstate3xo L xs Hs mh M b0 b1 (by rw [f.f10]; exact rp_ok_p g.r14 a0) (y0 := v0) (fun s z9 ar9 ad9 Hs e => by rw [f.f8, f.f10]; exact mM0 s z9 ar9 ad9 _ Hs (e.trans td)) vr0 (ne0 n0) (by rw [f.f11]; exact rp_ok_p g.r15 a1) (y1 := v1) (fun s z9 ar9 ad9 Hs e => by rw [f.f9, f.f11]; exact mM1 s z9 ar9 ad9 _ Hs (e.trans td)) vr1 (by rw [eq1 n1]; exact n1))
              · exact SI.ref L xs H X F cn rm (v := 0) (by decide) (by decide) (wr_state3 L xs H (ev_dstate3 L xs H hl Nn b0 b1 (fun h => a0 h.1) (y0 := y0) (y1 := y1) mD0 yr0 mD1 yr1 (by omega))) (fun s Hs => ev_mstate3xx L xs Hs mh M b0 b1 (by rw [f.f10]; exact rp_ok_p g.r14 a0) (y0 := v0) (fun s z9 ar9 ad9 Hs e => by rw [f.f8, f.f10]; exact mM0 s z9 ar9 ad9 _ Hs (e.trans td)) vr0 (ne0 n0) (by rw [f.f11]; exact rp_ok_p g.r15 a1) (y1 := v1) (fun s z9 ar9 ad9 Hs e => by rw [f.f9, f.f11]; exact mM1 s z9 ar9 ad9 _ Hs (e.trans td)) vr1 (ne1 n1))
      · skip
        refine (wr_stateN L xs H (v := v) (by omega) (ev_dstate0a L xs H X.w X.h7 (by omega) X.h5 Nn b0 b1 hv c d) (fun s q => by
          obtain ⟨_, _, _, H9, _⟩ := q
          exact ⟨_, _, _, _, H9, F.o1⟩)).mono ?_
        rintro o s ⟨rfl, s0, ⟨ad1, z1, ar1, H0, E1, cl, m1⟩, rs, hs⟩
        have H1 := hs _ _ _ _ H0
        obtain ⟨mh1, gg, e23, M1, S1, e26⟩ := X.mid E1
        refine ⟨0, by decide, rfl, ⟨_, _, _, _, H1⟩, (ev_mstate0a L xs H1 mh1 M1 b0 b1 hv c d).mono ?_⟩
        rintro o t ⟨rfl, ⟨z2, ar2, hd, Ht⟩, rt⟩
        rw [gg] at hd
        generalize hg1 : mo_pt (mo_g ar) (oI (hq_g ar 190) b) (4) (v) = g1 at hd
        have o3 : oV (hq_g ar1 190) (oI (hq_g ar 190) b) 3 = oV (hq_g ar 190) (oI (hq_g ar 190) b) 3 := (cl _ (by omega)).trans (by rw [if_neg (by omega)]; first | done | rfl)
        have o4 : oV (hq_g ar1 190) (oI (hq_g ar 190) b) 4 = v := (cl _ (by omega)).trans (by rw [if_pos (by omega)])
        have o5 : oV (hq_g ar1 190) (oI (hq_g ar 190) b) 5 = oV (hq_g ar 190) (oI (hq_g ar 190) b) 5 := (cl _ (by omega)).trans (by rw [if_neg (by omega)]; first | done | rfl)
        have o6 : oV (hq_g ar1 190) (oI (hq_g ar 190) b) 6 = oV (hq_g ar 190) (oI (hq_g ar 190) b) 6 := (cl _ (by omega)).trans (by rw [if_neg (by omega)]; first | done | rfl)
        have o7 : oV (hq_g ar1 190) (oI (hq_g ar 190) b) 7 = oV (hq_g ar 190) (oI (hq_g ar 190) b) 7 := (cl _ (by omega)).trans (by rw [if_neg (by omega)]; first | done | rfl)
        have o8 : oV (hq_g ar1 190) (oI (hq_g ar 190) b) 8 = oV (hq_g ar 190) (oI (hq_g ar 190) b) 8 := (cl _ (by omega)).trans (by rw [if_neg (by omega)]; first | done | rfl)
        have o9 : oV (hq_g ar1 190) (oI (hq_g ar 190) b) 9 = oV (hq_g ar 190) (oI (hq_g ar 190) b) 9 := (cl _ (by omega)).trans (by rw [if_neg (by omega)]; first | done | rfl)
        have o10 : oV (hq_g ar1 190) (oI (hq_g ar 190) b) 10 = oV (hq_g ar 190) (oI (hq_g ar 190) b) 10 := (cl _ (by omega)).trans (by rw [if_neg (by omega)]; first | done | rfl)
        have o11 : oV (hq_g ar1 190) (oI (hq_g ar 190) b) 11 = oV (hq_g ar 190) (oI (hq_g ar 190) b) 11 := (cl _ (by omega)).trans (by rw [if_neg (by omega)]; first | done | rfl)
        have o12 : oV (hq_g ar1 190) (oI (hq_g ar 190) b) 12 = oV (hq_g ar 190) (oI (hq_g ar 190) b) 12 := (cl _ (by omega)).trans (by rw [if_neg (by omega)]; first | done | rfl)
        have o13 : oV (hq_g ar1 190) (oI (hq_g ar 190) b) 13 = oV (hq_g ar 190) (oI (hq_g ar 190) b) 13 := (cl _ (by omega)).trans (by rw [if_neg (by omega)]; first | done | rfl)
        have o14 : oV (hq_g ar1 190) (oI (hq_g ar 190) b) 14 = oV (hq_g ar 190) (oI (hq_g ar 190) b) 14 := (cl _ (by omega)).trans (by rw [if_neg (by omega)]; first | done | rfl)
        have o15 : oV (hq_g ar1 190) (oI (hq_g ar 190) b) 15 = oV (hq_g ar 190) (oI (hq_g ar 190) b) 15 := (cl _ (by omega)).trans (by rw [if_neg (by omega)]; first | done | rfl)
        have F1 : rr_f (hq_g ar1 190) g1 (oI (hq_g ar 190) b) := by
          rw [← hg1]
          exact rr_f.mk (by rw [mo_pt_f (by decide), o3]; exact f.f3) (by show _ = _; rw [mo_pt_at, o4]) (by rw [mo_pt_f (by decide), o5]; exact f.f5) (by rw [mo_pt_f (by decide), o6]; exact f.f6) (by rw [mo_pt_f (by decide), o9]; exact f.f7) (by rw [mo_pt_f (by decide), o10]; exact f.f8) (by rw [mo_pt_f (by decide), o11]; exact f.f9) (by rw [mo_pt_f (by decide), o14]; exact f.f10) (by rw [mo_pt_f (by decide), o15]; exact f.f11) (by rw [mo_pt_f (by decide), o12]; exact f.f12) (by rw [mo_pt_f (by decide), o13]; exact f.f13)
        have G1 : rr_r (hq_g ar1 190) (oI (hq_g ar 190) b) := rr_r.mk (by rw [o3]; exact g.r3) (by rw [o4]; exact c) (by rw [o5]; exact g.r5) (by rw [o9]; exact g.r9) (by rw [o10]; exact g.r10) (by rw [o11]; exact g.r11) (by rw [o12]; exact g.r12) (by rw [o13]; exact g.r13) (by rw [o14, o10]; exact g.r14) (by rw [o15, o11]; exact g.r15)
        have hg : ∀ a f, (a ≠ (oI (hq_g ar 190) b) ∨ f < 3) → g1 a f = mo_g ar a f := by
          rw [← hg1]
          intro a f h
          rcases h with h | h
          · rw [mo_pt_e h]
          · rw [mo_pt_f (by omega)]
        have hc : ∀ i, 0 ≤ i → (i ≤ 401 + (oI (hq_g ar 190) b) * 16 + 2 ∨ 401 + (oI (hq_g ar 190) b) * 16 + 16 ≤ i) → hq_g ar1 190 i = hq_g ar 190 i := fun i i0 h => by rw [cl i i0, if_neg (by omega)]
        have K1 : mo_K g1 := by
          rw [← hg1]
          exact mo_pt_K (mo_g_K ar) (hv)
        exact ⟨v, by omega, rfl, _, fld_fin n5 X F cn rm E1 b0 b1 hc o7 o8 hg F1 G1 K1 hd Ht F.kl F.o1 rfl m1 (rt.trans rs), fun _ => ol_w_v lr _⟩
    · exact SI.ref L xs H X F cn rm (v := 0) (by decide) (by decide) (wr_state2 L xs H (ev_dstate2 L xs H hl Nn b0 b1 hv c)) (fun s Hs => ev_mstate2 L xs Hs mh M b0 b1 hv c)
  · exact SI.ref L xs H X F cn rm (v := 0) (by decide) (by decide) (wr_state1 L xs H (ev_dstate1 L xs H hl Nn hp n2)) (fun s Hs => ev_mstate1 L xs Hs mh M hp n2)
end JJ
