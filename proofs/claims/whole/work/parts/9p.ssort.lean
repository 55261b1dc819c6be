/-! sort of both -/
def sk_c (y : Int) : Int := if y = 2 then 3 else if y = 4 then 400000000 else 0
theorem sort_rel {C C' S E cp : Int → Int} {g : Int → Int → Int} {m r y : Int} (R : RR C g m) (u0 : -1 ≤ r) (u1 : r < C 0 ∨ r = -1) (hcp : fo_cp (oD C) (C 0) r cp) (hsk : ∀ p, 0 ≤ p → p < C 0 → 0 ≤ od_sk C y p) (so : so_S (fo_cc (oD C) (C 0) r) (fun k => od_sk C y (cp k) * 400 + cp k) S) (g3 : ∀ i x, 0 ≤ i → i < fo_cc (oD C) (C 0) r → 0 ≤ x → x < fo_end (oD C) (C 0) (S i % 400) - S i % 400 → C' (1 + (fo_ss (oD C) (C 0) r S i + x)) = C (1 + (S i % 400 + x))) (g4 : ∀ i, 0 ≤ i → (i < r + 2 ∨ 1 + fo_end (oD C) (C 0) r ≤ i) → C' i = C i) (hE : ∀ i, 0 ≤ i → i < fo_cc (oD C) (C 0) r → E i = oI C (S i % 400)) : RR C' (mo_so g E (fo_cc (oD C) (C 0) r).toNat) m ∧ ((∃ c, 0 ≤ c ∧ C' c ≠ C c) ↔ ¬ ∀ e f, 0 ≤ e → e < 400 → 0 ≤ f → f < 14 → mo_so g E (fo_cc (oD C) (C 0) r).toNat e f = g e f) ∧ (∀ e f, 400 ≤ e → mo_so g E (fo_cc (oD C) (C 0) r).toNat e f = g e f) := by
  have Nn := R.N
  have cc := fo_cc_r Nn.W u0 u1
  have Br := fo_end_B' Nn.W u0 u1
  have nm := Nn.nm
  have m4 := Nn.m4
  have n0 := Nn.W.2.1
  obtain ⟨fa, fb, fc, fd, fe⟩ := fo_sort Nn.W (by omega) u0 u1 hcp hsk so
  have hi : ∀ i, 401 ≤ i → C' i = C i := fun i i0 => g4 i (by omega) (Or.inr (by omega))
  have c0 : C' 0 = C 0 := g4 0 (by omega) (Or.inl (by omega))
  have oIo : ∀ q, -1 ≤ q → (q ≤ r ∨ fo_end (oD C) (C 0) r ≤ q) → oI C' q = oI C q := fun q q0 hq => g4 (1 + q) (by omega) (by omega)
  have oDe : ∀ q x, 0 ≤ q → 0 ≤ x → x < C 0 → oI C' q = oI C x → oD C' q = oD C x := by
    intro q x q0 x0 x1 e
    have ix := Nn.J.1 x x0 x1
    rw [oD_at q0, oD_at x0, e]
    exact hi _ (by omega)
  have FS : fo_S (oD C) (oD C') (oI C) (oI C') (fun i => S i % 400) (fo_ss (oD C) (C 0) r S) (C 0) (fo_cc (oD C) (C 0) r) r := by
    refine fo_S.mk u0 u1 cc.1 ?_ fd (fun i i0 i1 => (fe i i0 i1).1) (fun i i0 i1 => ⟨(fa i i0 i1).2.1, (fa i i0 i1).2.2.1, (fa i i0 i1).2.2.2.1⟩) (fun i x i0 i1 x0 x1 => ?_) (fun q q0 q1 hq => ⟨?_, oIo q q0 hq⟩) rfl
    · unfold fo_ss
      rw [fs_0 (by omega)]
      omega
    · have a := fa i i0 i1
      have b := fe i i0 i1
      have bB := fo_end_B (D := oD C) (n := C 0) (p := S i % 400) a.2.2.2.2.2
      have b2 := bB.2.1
      have x1 : x < fo_end (oD C) (C 0) (S i % 400) - S i % 400 := x1
      have e : oI C' (fo_ss (oD C) (C 0) r S i + x) = oI C (S i % 400 + x) := g3 i x i0 i1 x0 x1
      exact ⟨oDe _ _ (by omega) (by omega) (by omega) e, e⟩
    · by_cases y0 : q = -1
      · rw [y0]
        rfl
      · exact oDe q q (by omega) (by omega) q1 (oIo q q0 hq)
  have R' := R.sor FS (by omega) c0 (E := E) hE fb fc hi
  refine ⟨R', row_chg R R' c0 (fun i i0 hne => ?_) (fun e f f1 f2 => mo_so_f _ _ f2 _) (fun e e0 e4 he f => mo_so_o _ _ _ (fun i i0 i1 q => ?_)), fun e f e4 => mo_so_o _ _ _ (fun i i0 i1 q => ?_)⟩
  · by_cases x : i < r + 2 ∨ 1 + fo_end (oD C) (C 0) r ≤ i
    · exact absurd (g4 i i0 x) hne
    · exact Or.inl ⟨i - 1, by omega, by omega, by omega⟩
  · have a := fa i i0 (by omega)
    rw [hE i i0 (by omega)] at q
    exact he (by rw [← q]; exact R.M.t1 a.2.2.2.2.1 a.2.2.2.2.2)
  · have a := fa i i0 (by omega)
    have b := Nn.lt _ a.2.2.2.2.1 a.2.2.2.2.2
    rw [hE i i0 (by omega)] at q
    omega
section JJ
variable (L : Nat) (xs : Nat → Int32)
variable {N : Nat} {σ s t : pm_S} {ad : Nat → Nat} {z z' : Nat → Int} {ar ar' : Nat → Nat × (Nat → Int32)} {lr lr' : Nat → Nat × (Nat → Int64)} {Cs : Int → Int → Int} {k0 : Int} {l0 : Int64}
theorem sk_eq (R : RR (hq_g ar 190) (mo_g ar) (z 8)) {y p : Int} (hy : 0 ≤ y ∧ y ≤ 4) (p0 : 0 ≤ p) (p1 : p < (hq_g ar 190 0)) : od_sk (hq_g ar 190) y p = mo_ky (mo_g ar) (oI (hq_g ar 190)) (oD (hq_g ar 190)) (hq_g ar 190 0) y p + sk_c y ∧ 0 ≤ od_sk (hq_g ar 190) y p ∧ od_sk (hq_g ar 190) y p ≤ 400000000 := by
  have f := R.F p p0 p1
  have g := R.G p p0 p1
  have r3 := g.r3
  have r4 := g.r4
  have r5 := g.r5
  have r11 := g.r11
  have nm := R.N.nm
  have m4 := R.N.m4
  rcases (show y = 0 ∨ y = 1 ∨ y = 2 ∨ y = 3 ∨ y = 4 by omega) with c | c | c | c | c
  · subst c
    have a : od_sk (hq_g ar 190) 0 p = oV (hq_g ar 190) ((oI (hq_g ar 190)) p) 3 := rfl
    have b : mo_ky (mo_g ar) (oI (hq_g ar 190)) (oD (hq_g ar 190)) (hq_g ar 190 0) 0 p = mo_g ar ((oI (hq_g ar 190)) p) 3 := rfl
    rw [a, b, f.f3, show sk_c 0 = 0 from rfl]
    omega
  · subst c
    have a : od_sk (hq_g ar 190) 1 p = oV (hq_g ar 190) ((oI (hq_g ar 190)) p) 4 := rfl
    have b : mo_ky (mo_g ar) (oI (hq_g ar 190)) (oD (hq_g ar 190)) (hq_g ar 190 0) 1 p = mo_g ar ((oI (hq_g ar 190)) p) 4 := rfl
    rw [a, b, f.f4, show sk_c 1 = 0 from rfl]
    omega
  · subst c
    have a : od_sk (hq_g ar 190) 2 p = 3 - oV (hq_g ar 190) ((oI (hq_g ar 190)) p) 5 := rfl
    have b : mo_ky (mo_g ar) (oI (hq_g ar 190)) (oD (hq_g ar 190)) (hq_g ar 190 0) 2 p = - mo_g ar ((oI (hq_g ar 190)) p) 5 := rfl
    rw [a, b, f.f5, show sk_c 2 = 3 from rfl]
    omega
  · subst c
    have a : od_sk (hq_g ar 190) 3 p = if oV (hq_g ar 190) ((oI (hq_g ar 190)) p) 11 = -1 then 3652059 else oV (hq_g ar 190) ((oI (hq_g ar 190)) p) 11 := rfl
    have b : mo_ky (mo_g ar) (oI (hq_g ar 190)) (oD (hq_g ar 190)) (hq_g ar 190 0) 3 p = if mo_g ar ((oI (hq_g ar 190)) p) 9 = -1 then 3652059 else mo_g ar ((oI (hq_g ar 190)) p) 9 := rfl
    rw [a, b, f.f9, show sk_c 3 = 0 from rfl]
    by_cases d : oV (hq_g ar 190) ((oI (hq_g ar 190)) p) 11 = -1
    · rw [if_pos d]
      omega
    · rw [if_neg d]
      omega
  · subst c
    have B := fo_end_B (D := (oD (hq_g ar 190))) p1
    have b1 := B.1
    have b2 := B.2.1
    have e : fs (fun q => od_hv (hq_g ar 190) 1 ((oI (hq_g ar 190)) q)) p (fo_end (oD (hq_g ar 190)) (hq_g ar 190 0) p) = fs (fun q => mo_g ar ((oI (hq_g ar 190)) q) 12) p (fo_end (oD (hq_g ar 190)) (hq_g ar 190 0) p) := fs_cg (fun q q0 q1 => by
      show oV (hq_g ar 190) ((oI (hq_g ar 190)) q) 12 = mo_g ar ((oI (hq_g ar 190)) q) 12
      exact (R.F q (by omega) (by omega)).f12.symm)
    have bd := fs_bd (f := fun q => mo_g ar ((oI (hq_g ar 190)) q) 12) (a := p) (b := fo_end (oD (hq_g ar 190)) (hq_g ar 190 0) p) (lo := 0) (hi := 1000000) (fun q q0 q1 => by
      show 0 ≤ mo_g ar ((oI (hq_g ar 190)) q) 12
      rw [(R.F q (by omega) (by omega)).f12]
      exact (R.G q (by omega) (by omega)).r12.1) (fun q q0 q1 => by
      show mo_g ar ((oI (hq_g ar 190)) q) 12 ≤ 1000000
      rw [(R.F q (by omega) (by omega)).f12]
      exact (R.G q (by omega) (by omega)).r12.2) (by omega)
    have a : od_sk (hq_g ar 190) 4 p = 400000000 - fs (fun q => od_hv (hq_g ar 190) 1 ((oI (hq_g ar 190)) q)) p (fo_end (oD (hq_g ar 190)) (hq_g ar 190 0) p) := rfl
    have b : mo_ky (mo_g ar) (oI (hq_g ar 190)) (oD (hq_g ar 190)) (hq_g ar 190 0) 4 p = - fs (fun q => mo_g ar ((oI (hq_g ar 190)) q) 12) p (fo_end (oD (hq_g ar 190)) (hq_g ar 190 0) p) := rfl
    rw [a, b, e, show sk_c 4 = 400000000 from rfl]
    omega
theorem st_sort (J : JX N σ k0 l0) (n5 : N ≤ 600) {p : Int} (hp : -2147483648 ≤ p ∧ p ≤ 2147483647) {y : Int} (hy : -2147483648 ≤ y ∧ y ≤ 2147483647) : SV L xs N σ 185 [.ref 0, .int (zI p), .int (zI y)] 137 [.ref 199, .int (zI p), .int (zI y)] := by
  obtain ⟨ad, z, ar, lr, Cs, H, X, F, cn, e29, el, rm⟩ := J
  have hl := X.w.le
  have Nn := X.rr.N
  have M := X.mr
  have mh := X.mh
  rcases cs_P (oI (hq_g ar 190)) (hq_g ar 190 0) p with ⟨r, u0, u1, rfl⟩ | ⟨n1, n2⟩
  · by_cases c : 0 ≤ y ∧ y ≤ 4
    · have cc := fo_cc_r Nn.W u0 u1
      have Br := fo_end_B' Nn.W u0 u1
      have nm := Nn.nm
      have m4 := Nn.m4
      have c1 := cn.1
      have n0 := Nn.W.2.1
      obtain ⟨cp, hcp⟩ := fo_cp_ex Nn.W u0 u1
      have sk := fun (q : Int) (q0 : 0 ≤ q) (q1 : q < (hq_g ar 190 0)) => sk_eq (z := z) X.rr c q0 q1
      refine (wr_sortV L xs H (ev_dsort0 L xs H X.w X.h7 (by omega) X.h5 Nn u0 u1 c F.l9 F.kl hcp (fun q q0 q1 => (sk q q0 q1).2))).mono ?_
      rintro o s ⟨rfl, ad1, z1, ar1, lr1, H1, E1, e1, k1, k2, so, g3, g4, m1⟩
      have X1 : HX Cs (hq_u z 10 (fo_cc (oD (hq_g ar 190)) (hq_g ar 190 0) r)) ar := X.cg (fun k hk => hq_u_ne (by omega)) (fun _ _ => rfl) (fun _ _ _ => rfl)
      have F1 : FX (hq_u z 10 (fo_cc (oD (hq_g ar 190)) (hq_g ar 190 0) r)) ar lr := F.cg rfl rfl rfl rfl rfl rfl rfl rfl rfl rfl rfl rfl rfl (fun _ _ => rfl)
      obtain ⟨mh1, gg, e23, M1, S1, e26⟩ := X1.mid E1
      have kyr : ∀ x, 0 ≤ x → x < (hq_g ar 190 0) → -2000000000 ≤ mo_ky (mo_g ar1) (oI (hq_g ar 190)) (oD (hq_g ar 190)) (hq_g ar 190 0) y x ∧ mo_ky (mo_g ar1) (oI (hq_g ar 190)) (oD (hq_g ar 190)) (hq_g ar 190 0) y x ≤ 2000000000 := by
        intro x x0 x1
        rw [gg]
        have := sk x x0 x1
        have cr : 0 ≤ sk_c y ∧ sk_c y ≤ 400000000 := by
          unfold sk_c
          split
          · omega
          · split <;> omega
        omega
      refine ⟨0, by decide, rfl, ⟨_, _, _, _, H1⟩, (ev_msort_0 L xs H1 mh1 M1 (C := sk_c y) u0 u1 c hcp kyr).mono ?_⟩
      rintro o t ⟨rfl, ⟨Ee, s2, so2, hE, z2, ar2, hd, Ht⟩, rt⟩
      rw [gg] at hd so2
      have so3 : so_S (fo_cc (oD (hq_g ar 190)) (hq_g ar 190 0) r) (fun k => od_sk (hq_g ar 190) y (cp k) * 400 + cp k) s2 := so_S_cg so2 (fun i i0 i1 => by
        have h := hcp i i0 i1
        show (mo_ky (mo_g ar) (oI (hq_g ar 190)) (oD (hq_g ar 190)) (hq_g ar 190 0) y (cp i) + sk_c y) * 400 + cp i = od_sk (hq_g ar 190) y (cp i) * 400 + cp i
        rw [(sk (cp i) h.2.2.2.1 h.2.2.2.2.1).1])
      have se := so_S_u so so3
      have rel := sort_rel X.rr u0 u1 hcp (fun q q0 q1 => (sk q q0 q1).2.1) so g3 g4 (E := Ee) (fun i i0 i1 => by
        rw [hE i i0 i1, ← se i i0 i1])
      exact ⟨rfl, _, ed_fin (ar0 := ar) (lr0 := lr1) (arr := hq_sf ar1 207 Ee) (zr := hq_u (hw_ee z1) 29 0) n5 X1 F1 cn rm E1 (fun k _ _ h29 => hq_u_ne h29) e23 (fun q hq => hq_u_ne (by omega)) (fun q => hq_sf_len _ _ _ q) hd (mo_so_K (mo_g_K ar) Ee _ (by omega)) (fun e f e4 _ _ => rel.2.2 e f e4) rel.1 rel.2.1 Ht ⟨k1, k2⟩ (by rw [e1]; exact F.o1) rfl m1 rt⟩
    · exact SV.ref L xs H X F cn rm (by decide) (wr_sort2 L xs H (ev_dsort2 L xs H hl Nn u0 u1 hy c)) (fun s Hs => ev_msort_2 L xs Hs mh M u0 u1 hy c)
  · exact SV.ref L xs H X F cn rm (by decide) (wr_sort1 L xs H (ev_dsort1 L xs H hl Nn hp n1 n2)) (fun s Hs => ev_msort_1 L xs Hs mh M hp n1 n2)
end JJ
