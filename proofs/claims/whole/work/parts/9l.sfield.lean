/-! edits of fields, of both -/
section JJ
variable (L : Nat) (xs : Nat → Int32)
variable {N : Nat} {σ s t : pm_S} {ad : Nat → Nat} {z z' : Nat → Int} {ar ar' : Nat → Nat × (Nat → Int32)} {lr lr' : Nat → Nat × (Nat → Int64)} {Cs : Int → Int → Int} {k0 : Int} {l0 : Int64}
theorem fld_fin {z2 : Nat → Int} {ar2 : Nat → Nat × (Nat → Int32)} {ad2 : Nat → Nat} {g' : Int → Int → Int} {b : Int} (n5 : N ≤ 600) (X : HX Cs z ar) (F : FX z ar lr) (cn : z 1 ≤ N ∧ z 21 ≤ N ∧ z 6 ≤ N) (rm : σ.2.2 + 357479 ≤ 6 * N + 2 * hq_po ar lr ∧ 4 * σ.2.1 + 356931 ≤ 4 * N + hq_po ar lr) (E : od_E (Cs (z 21)) (hq_g ar 190) z ar z' ar') (b0 : 0 ≤ b) (b1 : b < hq_g ar 190 0) (hc : ∀ i, 0 ≤ i → (i ≤ 401 + (oI (hq_g ar 190) b) * 16 + 2 ∨ 401 + (oI (hq_g ar 190) b) * 16 + 16 ≤ i) → hq_g ar' 190 i = hq_g ar 190 i) (h7 : oV (hq_g ar' 190) (oI (hq_g ar 190) b) 7 = oV (hq_g ar 190) (oI (hq_g ar 190) b) 7) (h8 : oV (hq_g ar' 190) (oI (hq_g ar 190) b) 8 = oV (hq_g ar 190) (oI (hq_g ar 190) b) 8) (hg : ∀ a f, (a ≠ (oI (hq_g ar 190) b) ∨ f < 3) → g' a f = mo_g ar a f) (F' : rr_f (hq_g ar' 190) g' (oI (hq_g ar 190) b)) (G' : rr_r (hq_g ar' 190) (oI (hq_g ar 190) b)) (K : mo_K g') (hd : mo_ed (hq_u (hw_ee z') 29 0) ar' g' z2 ar2) (Ht : Hp t ad2 z2 ar2 lr') (k0 : 16 ≤ (lr' 0).1 ∧ (lr' 0).1 ≤ 1600) (k1 : (lr' 1).1 = 1) (ke : (lr' 0).1 = (lr 0).1) (m : hq_rm σ ar lr s ar' lr) (rt : t.2 = s.2) : JX (N + 1) t 0 ((lr' 1).2 0) := by
  have i0 := X.rr.N.J.1 b b0 b1
  have i1 := X.rr.N.lt b b0 b1
  have m4 := X.rr.N.m4
  have md := X.mid E
  exact ed_fin n5 X F cn rm E (fun k _ _ h29 => hq_u_ne h29) md.2.2.1 (fun _ _ => rfl) (fun _ => rfl) hd K (fun e f e4 _ _ => hg e f (Or.inl (by omega))) (X.rr.fld b0 b1 (fun i i0 _ h => hc i i0 h) (fun e f _ _ _ _ h => hg e f h) F' G') (fld_chg i0 (by omega) hc h7 h8 hg (X.rr.F b b0 b1) F') Ht k0 k1 ke m rt
theorem rp_tr {f u c b : Int} {n : Nat} (hf : 0 ≤ f ∧ f ≤ 3652058) (hc : 1 ≤ c ∧ c ≤ 99) (hb : -1 ≤ b ∧ b ≤ 3652058) (hn : rp_n f u c b n) : -2147483648 ≤ rp_t f u c n ∧ rp_t f u c n ≤ 2147483647 := by
  have kr := rp_c_r (u := u) hc
  by_cases c2 : u < 2
  · have h0 : ∀ i : Nat, rp_t f u c i = f + rp_c u c + i * rp_c u c := fun i => by
      unfold rp_t
      rw [if_pos c2]
    rcases n with _ | j
    · rw [h0 0]
      have : ((0 : Nat) : Int) * rp_c u c = 0 := by
        rw [show ((0 : Nat) : Int) = 0 from rfl, Int.zero_mul]
      omega
    · have q := hn.2 j (Nat.lt_succ_self j)
      rw [h0 j] at q
      rw [h0 (j + 1), show ((j + 1 : Nat) : Int) = (j : Int) + 1 by omega, Int.add_mul, Int.one_mul]
      have p : 0 ≤ (j : Int) * rp_c u c := Int.mul_nonneg (by omega) (by omega)
      omega
  · have h0 : ∀ i : Nat, rp_t f u c i = sq_t (cd_mb f + rp_c u c) (if cd_dim f ≤ cd_len (cd_mb f + rp_c u c) then cd_dim f else cd_len (cd_mb f + rp_c u c)) (rp_c u c) i := fun i => by
      unfold rp_t
      rw [if_neg c2]
    have q1 := cd_mb_ok hf.1
    have q2 := (cd_yr_ok hf.1).1
    have q3 := cd_num_28 (m := cd_mb f) (by omega)
    have hx := rp_x (c := rp_c u c) hf.1
    have mb := sq_m_b (b := b) (n := n) (x := (if cd_dim f ≤ cd_len (cd_mb f + rp_c u c) then cd_dim f else cd_len (cd_mb f + rp_c u c))) (mo := cd_mb f + rp_c u c) (c := rp_c u c) (by omega) hx (by omega) hb (fun i hi => by rw [← h0 i]; exact hn.2 i hi) n (Nat.le_refl n)
    have xr := sq_x_r hx (c := rp_c u c) n
    have lr := cd_len_r (sq_m (cd_mb f + rp_c u c) (rp_c u c) n)
    rw [h0 n]
    unfold sq_t
    have := cd_num_r mb.1 (by omega) (d := sq_x (cd_mb f + rp_c u c) (if cd_dim f ≤ cd_len (cd_mb f + rp_c u c) then cd_dim f else cd_len (cd_mb f + rp_c u c)) (rp_c u c) n) (by omega) (by omega)
    omega
/-- a date that has a repeat, on both sides -/
theorem mvd {d r b : Int} (hr : rp_ok r d) (r0 : r ≠ 0) (hd : d ≤ 3652058) (hb : 0 ≤ b ∧ b ≤ 3652058) : ∃ y v : Int, (-2147483648 ≤ y ∧ y ≤ 2147483647) ∧ 0 ≤ y ∧ (-2147483648 ≤ v ∧ v ≤ 2147483647) ∧ (y ≤ 3652058 → v = y) ∧ (¬ y ≤ 3652058 → 3652058 < v) ∧ (∀ s, pm_Ev (tq_P L xs) (pm_enter 163 [.int (zI d), .int (zI r), .int (zI b)]) s (.inl (some (.int (zI y))), s)) ∧ (∀ s z' ar' ad' lr', Hp s ad' z' ar' lr' → z' 26 = b → pm_Ev (tq_P L xs) (pm_enter 145 [.ref 199, .int (zI d), .int (zI r)]) s (.inl (some (.int (zI v))), s)) := by
  rcases hr with hr | ⟨h1, h2, h3, h4, h5, h6⟩
  · exact absurd hr r0
  · have fr := rp_f_r (r := r) ⟨h6, hd⟩ hb
    have br := rp_b_r (r := r) hb
    obtain ⟨n, hn⟩ := rp_first (f := rp_f d r b) (u := r / 10 % 10) (c := r / 100) fr.1 ⟨h4, h5⟩ (rp_b r b)
    have tr := rp_tr fr ⟨h4, h5⟩ br hn
    refine ⟨rp_t (rp_f d r b) (r / 10 % 10) (r / 100) n, rp_cap (r / 10 % 10) (rp_t (rp_f d r b) (r / 10 % 10) (r / 100) n), tr, (rp_stpS fr.1 ⟨by omega, h3⟩ ⟨h4, h5⟩ n).1, ?_, ?_, ?_, fun s => ev_moved L xs s ⟨h6, hd⟩ hb ⟨h1, h2⟩ ⟨by omega, h3⟩ ⟨h4, h5⟩ hn, fun s z' ar' ad' lr' Hs e => ?_⟩
    · unfold rp_cap
      by_cases q : r / 10 % 10 < 2
      · rw [if_pos q]
        exact tr
      · rw [if_neg q]
        split <;> omega
    · intro h
      unfold rp_cap
      by_cases q : r / 10 % 10 < 2
      · rw [if_pos q]
      · rw [if_neg q, if_pos h]
    · intro h
      unfold rp_cap
      by_cases q : r / 10 % 10 < 2
      · rw [if_pos q]
        omega
      · rw [if_neg q, if_neg h]
        omega
    · exact ev_mmoved L xs s Hs.m199 Hs.o199 (by rw [← e]; rfl) ⟨h6, hd⟩ hb ⟨h1, h2⟩ ⟨by omega, h3⟩ ⟨h4, h5⟩ hn
theorem st_title (J : JX N σ k0 l0) (n5 : N ≤ 600) {p : Int} (hp : -2147483648 ≤ p ∧ p ≤ 2147483647) {v : Int} (hv : -2147483648 ≤ v ∧ v ≤ 2147483647) : SV L xs N σ 178 [.ref 0, .int (zI p), .int (zI v)] 128 [.ref 199, .int (zI p), .int (zI v)] := by
  obtain ⟨ad, z, ar, lr, Cs, H, X, F, cn, e29, el, rm⟩ := J
  have hl := X.w.le
  have Nn := X.rr.N
  have M := X.mr
  have mh := X.mh
  rcases cs_T (oI (hq_g ar 190)) (hq_g ar 190 0) p with ⟨b, b0, b1, rfl⟩ | n2
  · have f := X.rr.F b b0 b1
    have g := X.rr.G b b0 b1
    have i0 := Nn.J.1 b b0 b1
    have i1 := Nn.lt b b0 b1
    have m4 := Nn.m4
    have c1 := cn.1
    by_cases c : 0 ≤ v ∧ v ≤ 999999
    · refine (wr_titleV L xs H (ev_dtitle0 L xs H X.w X.h7 (by omega) X.h5 Nn b0 b1 hv c)).mono ?_
      rintro o s ⟨rfl, ad1, z1, ar1, H1, E1, cl, m1⟩
      obtain ⟨mh1, gg, e23, M1, S1, e26⟩ := X.mid E1
      refine ⟨0, by decide, rfl, ⟨_, _, _, _, H1⟩, (ev_mtitle0 L xs H1 mh1 M1 b0 b1 hv c).mono ?_⟩
      rintro o t ⟨rfl, ⟨z2, ar2, hd, Ht⟩, rt⟩
      rw [gg] at hd
      generalize hg1 : mo_pt (mo_g ar) (oI (hq_g ar 190) b) (3) (v) = g1 at hd
      have o3 : oV (hq_g ar1 190) (oI (hq_g ar 190) b) 3 = v := (cl _ (by omega)).trans (by rw [if_pos (by omega)])
      have o4 : oV (hq_g ar1 190) (oI (hq_g ar 190) b) 4 = oV (hq_g ar 190) (oI (hq_g ar 190) b) 4 := (cl _ (by omega)).trans (by rw [if_neg (by omega)]; first | done | rfl)
      have o5 : oV (hq_g ar1 190) (oI (hq_g ar 190) b) 5 = oV (hq_g ar 190) (oI (hq_g ar 190) b) 5 := (cl _ (by omega)).trans (by rw [if_neg (by omega)]; first | done | rfl)
      have o6 : oV (hq_g ar1 190) (oI (hq_g ar 190) b) 6 = oV (hq_g ar 190) (oI (hq_g ar 190) b) 6 := (cl _ (by omega)).trans (by rw [if_neg (by omega)]; first | done | rfl)
      have o7 : oV (hq_g ar1 190) (oI (hq_g ar 190) b) 7 = oV (hq_g ar 190) (oI (hq_g ar 190) b) 7 := (cl _ (by omega)).trans (by rw [if_neg (by omega)]; first | done | rfl)
      have o8 : oV (hq_g ar1 190) (oI (hq_g ar 190) b) 8 = oV (hq_g ar 190) (oI (hq_g ar 190) b) 8 := (cl _ (by omega)).trans (by rw [if_neg (by omega)]; first | done | rfl)
      have o9 : oV (hq_g ar1 190) (oI (hq_g ar 190) b) 9 = oV (hq_g ar 190) (oI (hq_g ar 190) b) 9 := (cl _ (by omega)).trans (by rw [if_neg (by omega)]; first | done | rfl)
      have o10 : oV (hq_g ar1 190) (oI (hq_g ar 190) b) 10 = oV (hq_g ar 190) (oI (hq_g ar 190) b) 10 := (cl _ (by omega)).trans (by rw [if_neg (by omega)]; first | done | rfl)
      have o11 : oV (hq_g ar1 190) (oI (hq_g ar 190) b) 11 = oV (hq_g ar 190) (oI (hq_g ar 190) b) 11 := (cl _ (by omega)).trans (by rw [if_neg (by omega)]; first | done | rfl)
      have o12 : oV (hq_g ar1 190) (oI (hq_g ar 190) b) 12 = oV (hq_g ar 190) (oI (hq_g ar 190) b) 12 := (cl _ (by omega)).trans (by rw [if_neg (by omega)]; first | done | rfl)
      have o13 : oV (hq_g ar1 190) (oI (hq_g ar 190) b) 13 = oV (hq_g ar 190) (oI (hq_g ar 190) b) 13 := (cl _ (by omega)).trans (by rw [if_neg (by omega)]; first | done | rfl)
      have o14 : oV (hq_g ar1 190) (oI (hq_g ar 190) b) 14 = oV (hq_g ar 190) (oI (hq_g ar 190) b) 14 := (cl _ (by omega)).trans (by rw [if_neg (by omega)]; first | done | rfl)
      have o15 : oV (hq_g ar1 190) (oI (hq_g ar 190) b) 15 = oV (hq_g ar 190) (oI (hq_g ar 190) b) 15 := (cl _ (by omega)).trans (by rw [if_neg (by omega)]; first | done | rfl)
      have F1 : rr_f (hq_g ar1 190) g1 (oI (hq_g ar 190) b) := by
        rw [← hg1]
        exact rr_f.mk (by show _ = _; rw [mo_pt_at, o3]) (by rw [mo_pt_f (by decide), o4]; exact f.f4) (by rw [mo_pt_f (by decide), o5]; exact f.f5) (by rw [mo_pt_f (by decide), o6]; exact f.f6) (by rw [mo_pt_f (by decide), o9]; exact f.f7) (by rw [mo_pt_f (by decide), o10]; exact f.f8) (by rw [mo_pt_f (by decide), o11]; exact f.f9) (by rw [mo_pt_f (by decide), o14]; exact f.f10) (by rw [mo_pt_f (by decide), o15]; exact f.f11) (by rw [mo_pt_f (by decide), o12]; exact f.f12) (by rw [mo_pt_f (by decide), o13]; exact f.f13)
      have G1 : rr_r (hq_g ar1 190) (oI (hq_g ar 190) b) := rr_r.mk (by rw [o3]; exact c) (by rw [o4]; exact g.r4) (by rw [o5]; exact g.r5) (by rw [o9]; exact g.r9) (by rw [o10]; exact g.r10) (by rw [o11]; exact g.r11) (by rw [o12]; exact g.r12) (by rw [o13]; exact g.r13) (by rw [o14, o10]; exact g.r14) (by rw [o15, o11]; exact g.r15)
      have hg : ∀ a f, (a ≠ (oI (hq_g ar 190) b) ∨ f < 3) → g1 a f = mo_g ar a f := by
        rw [← hg1]
        intro a f h
        rcases h with h | h
        · rw [mo_pt_e h]
        · rw [mo_pt_f (by omega)]
      have hc : ∀ i, 0 ≤ i → (i ≤ 401 + (oI (hq_g ar 190) b) * 16 + 2 ∨ 401 + (oI (hq_g ar 190) b) * 16 + 16 ≤ i) → hq_g ar1 190 i = hq_g ar 190 i := fun i i0 h => by rw [cl i i0, if_neg (by omega)]
      have K1 : mo_K g1 := by
        rw [← hg1]
        exact mo_pt_K (mo_g_K ar) (hv)
      exact ⟨rfl, _, fld_fin n5 X F cn rm E1 b0 b1 hc o7 o8 hg F1 G1 K1 hd Ht F.kl F.o1 rfl m1 rt⟩
    · exact SV.ref L xs H X F cn rm (by decide) (wr_title2 L xs H (ev_dtitle2 L xs H hl Nn b0 b1 hv c)) (fun s Hs => ev_mtitle2 L xs Hs mh M b0 b1 hv c)
  · exact SV.ref L xs H X F cn rm (by decide) (wr_title1 L xs H (ev_dtitle1 L xs H hl Nn hp n2)) (fun s Hs => ev_mtitle1 L xs Hs mh M hp n2)
theorem st_rank (J : JX N σ k0 l0) (n5 : N ≤ 600) {p : Int} (hp : -2147483648 ≤ p ∧ p ≤ 2147483647) {v : Int} (hv : -2147483648 ≤ v ∧ v ≤ 2147483647) : SV L xs N σ 180 [.ref 0, .int (zI p), .int (zI v)] 130 [.ref 199, .int (zI p), .int (zI v)] := by
  obtain ⟨ad, z, ar, lr, Cs, H, X, F, cn, e29, el, rm⟩ := J
  have hl := X.w.le
  have Nn := X.rr.N
  have M := X.mr
  have mh := X.mh
  rcases cs_T (oI (hq_g ar 190)) (hq_g ar 190 0) p with ⟨b, b0, b1, rfl⟩ | n2
  · have f := X.rr.F b b0 b1
    have g := X.rr.G b b0 b1
    have i0 := Nn.J.1 b b0 b1
    have i1 := Nn.lt b b0 b1
    have m4 := Nn.m4
    have c1 := cn.1
    by_cases c : 0 ≤ v ∧ v ≤ 3
    · refine (wr_rankV L xs H (ev_drank0 L xs H X.w X.h7 (by omega) X.h5 Nn b0 b1 hv c)).mono ?_
      rintro o s ⟨rfl, ad1, z1, ar1, H1, E1, cl, m1⟩
      obtain ⟨mh1, gg, e23, M1, S1, e26⟩ := X.mid E1
      refine ⟨0, by decide, rfl, ⟨_, _, _, _, H1⟩, (ev_mrank0 L xs H1 mh1 M1 b0 b1 hv c).mono ?_⟩
      rintro o t ⟨rfl, ⟨z2, ar2, hd, Ht⟩, rt⟩
      rw [gg] at hd
      generalize hg1 : mo_pt (mo_g ar) (oI (hq_g ar 190) b) (5) (v) = g1 at hd
      have o3 : oV (hq_g ar1 190) (oI (hq_g ar 190) b) 3 = oV (hq_g ar 190) (oI (hq_g ar 190) b) 3 := (cl _ (by omega)).trans (by rw [if_neg (by omega)]; first | done | rfl)
      have o4 : oV (hq_g ar1 190) (oI (hq_g ar 190) b) 4 = oV (hq_g ar 190) (oI (hq_g ar 190) b) 4 := (cl _ (by omega)).trans (by rw [if_neg (by omega)]; first | done | rfl)
      have o5 : oV (hq_g ar1 190) (oI (hq_g ar 190) b) 5 = v := (cl _ (by omega)).trans (by rw [if_pos (by omega)])
      have o6 : oV (hq_g ar1 190) (oI (hq_g ar 190) b) 6 = oV (hq_g ar 190) (oI (hq_g ar 190) b) 6 := (cl _ (by omega)).trans (by rw [if_neg (by omega)]; first | done | rfl)
      have o7 : oV (hq_g ar1 190) (oI (hq_g ar 190) b) 7 = oV (hq_g ar 190) (oI (hq_g ar 190) b) 7 := (cl _ (by omega)).trans (by rw [if_neg (by omega)]; first | done | rfl)
      have o8 : oV (hq_g ar1 190) (oI (hq_g ar 190) b) 8 = oV (hq_g ar 190) (oI (hq_g ar 190) b) 8 := (cl _ (by omega)).trans (by rw [if_neg (by omega)]; first | done | rfl)
      have o9 : oV (hq_g ar1 190) (oI (hq_g ar 190) b) 9 = oV (hq_g ar 190) (oI (hq_g ar 190) b) 9 := (cl _ (by omega)).trans (by rw [if_neg (by omega)]; first | done | rfl)
      have o10 : oV (hq_g ar1 190) (oI (hq_g ar 190) b) 10 = oV (hq_g ar 190) (oI (hq_g ar 190) b) 10 := (cl _ (by omega)).trans (by rw [if_neg (by omega)]; first | done | rfl)
      have o11 : oV (hq_g ar1 190) (oI (hq_g ar 190) b) 11 = oV (hq_g ar 190) (oI (hq_g ar 190) b) 11 := (cl _ (by omega)).trans (by rw [if_neg (by omega)]; first | done | rfl)
      have o12 : oV (hq_g ar1 190) (oI (hq_g ar 190) b) 12 = oV (hq_g ar 190) (oI (hq_g ar 190) b) 12 := (cl _ (by omega)).trans (by rw [if_neg (by omega)]; first | done | rfl)
      have o13 : oV (hq_g ar1 190) (oI (hq_g ar 190) b) 13 = oV (hq_g ar 190) (oI (hq_g ar 190) b) 13 := (cl _ (by omega)).trans (by rw [if_neg (by omega)]; first | done | rfl)
      have o14 : oV (hq_g ar1 190) (oI (hq_g ar 190) b) 14 = oV (hq_g ar 190) (oI (hq_g ar 190) b) 14 := (cl _ (by omega)).trans (by rw [if_neg (by omega)]; first | done | rfl)
      have o15 : oV (hq_g ar1 190) (oI (hq_g ar 190) b) 15 = oV (hq_g ar 190) (oI (hq_g ar 190) b) 15 := (cl _ (by omega)).trans (by rw [if_neg (by omega)]; first | done | rfl)
      have F1 : rr_f (hq_g ar1 190) g1 (oI (hq_g ar 190) b) := by
        rw [← hg1]
        exact rr_f.mk (by rw [mo_pt_f (by decide), o3]; exact f.f3) (by rw [mo_pt_f (by decide), o4]; exact f.f4) (by show _ = _; rw [mo_pt_at, o5]) (by rw [mo_pt_f (by decide), o6]; exact f.f6) (by rw [mo_pt_f (by decide), o9]; exact f.f7) (by rw [mo_pt_f (by decide), o10]; exact f.f8) (by rw [mo_pt_f (by decide), o11]; exact f.f9) (by rw [mo_pt_f (by decide), o14]; exact f.f10) (by rw [mo_pt_f (by decide), o15]; exact f.f11) (by rw [mo_pt_f (by decide), o12]; exact f.f12) (by rw [mo_pt_f (by decide), o13]; exact f.f13)
      have G1 : rr_r (hq_g ar1 190) (oI (hq_g ar 190) b) := rr_r.mk (by rw [o3]; exact g.r3) (by rw [o4]; exact g.r4) (by rw [o5]; exact c) (by rw [o9]; exact g.r9) (by rw [o10]; exact g.r10) (by rw [o11]; exact g.r11) (by rw [o12]; exact g.r12) (by rw [o13]; exact g.r13) (by rw [o14, o10]; exact g.r14) (by rw [o15, o11]; exact g.r15)
      have hg : ∀ a f, (a ≠ (oI (hq_g ar 190) b) ∨ f < 3) → g1 a f = mo_g ar a f := by
        rw [← hg1]
        intro a f h
        rcases h with h | h
        · rw [mo_pt_e h]
        · rw [mo_pt_f (by omega)]
      have hc : ∀ i, 0 ≤ i → (i ≤ 401 + (oI (hq_g ar 190) b) * 16 + 2 ∨ 401 + (oI (hq_g ar 190) b) * 16 + 16 ≤ i) → hq_g ar1 190 i = hq_g ar 190 i := fun i i0 h => by rw [cl i i0, if_neg (by omega)]
      have K1 : mo_K g1 := by
        rw [← hg1]
        exact mo_pt_K (mo_g_K ar) (hv)
      exact ⟨rfl, _, fld_fin n5 X F cn rm E1 b0 b1 hc o7 o8 hg F1 G1 K1 hd Ht F.kl F.o1 rfl m1 rt⟩
    · exact SV.ref L xs H X F cn rm (by decide) (wr_rank2 L xs H (ev_drank2 L xs H hl Nn b0 b1 hv c)) (fun s Hs => ev_mrank2 L xs Hs mh M b0 b1 hv c)
  · exact SV.ref L xs H X F cn rm (by decide) (wr_rank1 L xs H (ev_drank1 L xs H hl Nn hp n2)) (fun s Hs => ev_mrank1 L xs Hs mh M hp n2)
theorem st_minutes (J : JX N σ k0 l0) (n5 : N ≤ 600) {p : Int} (hp : -2147483648 ≤ p ∧ p ≤ 2147483647) {q : Int} (hq : -2147483648 ≤ q ∧ q ≤ 2147483647) {v : Int} (hv : -2147483648 ≤ v ∧ v ≤ 2147483647) : SV L xs N σ 183 [.ref 0, .int (zI p), .int (zI q), .int (zI v)] 133 [.ref 199, .int (zI p), .int (zI q), .int (zI v)] := by
  obtain ⟨ad, z, ar, lr, Cs, H, X, F, cn, e29, el, rm⟩ := J
  have hl := X.w.le
  have Nn := X.rr.N
  have M := X.mr
  have mh := X.mh
  rcases cs_T (oI (hq_g ar 190)) (hq_g ar 190 0) p with ⟨b, b0, b1, rfl⟩ | n2
  · have f := X.rr.F b b0 b1
    have g := X.rr.G b b0 b1
    have i0 := Nn.J.1 b b0 b1
    have i1 := Nn.lt b b0 b1
    have m4 := Nn.m4
    have c1 := cn.1
    by_cases c : 0 ≤ q ∧ q ≤ 1
    · by_cases d : 0 ≤ v ∧ v ≤ 1000000
      · rcases (show q = 0 ∨ q = 1 by omega) with e | e
        · subst e
          refine (wr_minutesV L xs H (ev_dminutes0 L xs H X.w X.h7 (by omega) X.h5 Nn b0 b1 hq hv c d)).mono ?_
          rintro o s ⟨rfl, ad1, z1, ar1, H1, E1, cl, m1⟩
          obtain ⟨mh1, gg, e23, M1, S1, e26⟩ := X.mid E1
          refine ⟨0, by decide, rfl, ⟨_, _, _, _, H1⟩, (ev_mminutes0 L xs H1 mh1 M1 b0 b1 hq hv c d).mono ?_⟩
          rintro o t ⟨rfl, ⟨z2, ar2, hd, Ht⟩, rt⟩
          rw [gg, show (12 : Int) + 0 = 12 from rfl] at hd
          generalize hg1 : mo_pt (mo_g ar) (oI (hq_g ar 190) b) (12) (v) = g1 at hd
          have o3 : oV (hq_g ar1 190) (oI (hq_g ar 190) b) 3 = oV (hq_g ar 190) (oI (hq_g ar 190) b) 3 := (cl _ (by omega)).trans (by rw [if_neg (by omega)]; first | done | rfl)
          have o4 : oV (hq_g ar1 190) (oI (hq_g ar 190) b) 4 = oV (hq_g ar 190) (oI (hq_g ar 190) b) 4 := (cl _ (by omega)).trans (by rw [if_neg (by omega)]; first | done | rfl)
          have o5 : oV (hq_g ar1 190) (oI (hq_g ar 190) b) 5 = oV (hq_g ar 190) (oI (hq_g ar 190) b) 5 := (cl _ (by omega)).trans (by rw [if_neg (by omega)]; first | done | rfl)
          have o6 : oV (hq_g ar1 190) (oI (hq_g ar 190) b) 6 = oV (hq_g ar 190) (oI (hq_g ar 190) b) 6 := (cl _ (by omega)).trans (by rw [if_neg (by omega)]; first | done | rfl)
          have o7 : oV (hq_g ar1 190) (oI (hq_g ar 190) b) 7 = oV (hq_g ar 190) (oI (hq_g ar 190) b) 7 := (cl _ (by omega)).trans (by rw [if_neg (by omega)]; first | done | rfl)
          have o8 : oV (hq_g ar1 190) (oI (hq_g ar 190) b) 8 = oV (hq_g ar 190) (oI (hq_g ar 190) b) 8 := (cl _ (by omega)).trans (by rw [if_neg (by omega)]; first | done | rfl)
          have o9 : oV (hq_g ar1 190) (oI (hq_g ar 190) b) 9 = oV (hq_g ar 190) (oI (hq_g ar 190) b) 9 := (cl _ (by omega)).trans (by rw [if_neg (by omega)]; first | done | rfl)
          have o10 : oV (hq_g ar1 190) (oI (hq_g ar 190) b) 10 = oV (hq_g ar 190) (oI (hq_g ar 190) b) 10 := (cl _ (by omega)).trans (by rw [if_neg (by omega)]; first | done | rfl)
          have o11 : oV (hq_g ar1 190) (oI (hq_g ar 190) b) 11 = oV (hq_g ar 190) (oI (hq_g ar 190) b) 11 := (cl _ (by omega)).trans (by rw [if_neg (by omega)]; first | done | rfl)
          have o12 : oV (hq_g ar1 190) (oI (hq_g ar 190) b) 12 = v := (cl _ (by omega)).trans (by rw [if_pos (by omega)])
          have o13 : oV (hq_g ar1 190) (oI (hq_g ar 190) b) 13 = oV (hq_g ar 190) (oI (hq_g ar 190) b) 13 := (cl _ (by omega)).trans (by rw [if_neg (by omega)]; first | done | rfl)
          have o14 : oV (hq_g ar1 190) (oI (hq_g ar 190) b) 14 = oV (hq_g ar 190) (oI (hq_g ar 190) b) 14 := (cl _ (by omega)).trans (by rw [if_neg (by omega)]; first | done | rfl)
          have o15 : oV (hq_g ar1 190) (oI (hq_g ar 190) b) 15 = oV (hq_g ar 190) (oI (hq_g ar 190) b) 15 := (cl _ (by omega)).trans (by rw [if_neg (by omega)]; first | done | rfl)
          have F1 : rr_f (hq_g ar1 190) g1 (oI (hq_g ar 190) b) := by
            rw [← hg1]
            exact rr_f.mk (by rw [mo_pt_f (by decide), o3]; exact f.f3) (by rw [mo_pt_f (by decide), o4]; exact f.f4) (by rw [mo_pt_f (by decide), o5]; exact f.f5) (by rw [mo_pt_f (by decide), o6]; exact f.f6) (by rw [mo_pt_f (by decide), o9]; exact f.f7) (by rw [mo_pt_f (by decide), o10]; exact f.f8) (by rw [mo_pt_f (by decide), o11]; exact f.f9) (by rw [mo_pt_f (by decide), o14]; exact f.f10) (by rw [mo_pt_f (by decide), o15]; exact f.f11) (by show _ = _; rw [mo_pt_at, o12]) (by rw [mo_pt_f (by decide), o13]; exact f.f13)
          have G1 : rr_r (hq_g ar1 190) (oI (hq_g ar 190) b) := rr_r.mk (by rw [o3]; exact g.r3) (by rw [o4]; exact g.r4) (by rw [o5]; exact g.r5) (by rw [o9]; exact g.r9) (by rw [o10]; exact g.r10) (by rw [o11]; exact g.r11) (by rw [o12]; exact d) (by rw [o13]; exact g.r13) (by rw [o14, o10]; exact g.r14) (by rw [o15, o11]; exact g.r15)
          have hg : ∀ a f, (a ≠ (oI (hq_g ar 190) b) ∨ f < 3) → g1 a f = mo_g ar a f := by
            rw [← hg1]
            intro a f h
            rcases h with h | h
            · rw [mo_pt_e h]
            · rw [mo_pt_f (by omega)]
          have hc : ∀ i, 0 ≤ i → (i ≤ 401 + (oI (hq_g ar 190) b) * 16 + 2 ∨ 401 + (oI (hq_g ar 190) b) * 16 + 16 ≤ i) → hq_g ar1 190 i = hq_g ar 190 i := fun i i0 h => by rw [cl i i0, if_neg (by omega)]
          have K1 : mo_K g1 := by
            rw [← hg1]
            exact mo_pt_K (mo_g_K ar) (hv)
          exact ⟨rfl, _, fld_fin n5 X F cn rm E1 b0 b1 hc o7 o8 hg F1 G1 K1 hd Ht F.kl F.o1 rfl m1 rt⟩
        · subst e
          refine (wr_minutesV L xs H (ev_dminutes0 L xs H X.w X.h7 (by omega) X.h5 Nn b0 b1 hq hv c d)).mono ?_
          rintro o s ⟨rfl, ad1, z1, ar1, H1, E1, cl, m1⟩
          obtain ⟨mh1, gg, e23, M1, S1, e26⟩ := X.mid E1
          refine ⟨0, by decide, rfl, ⟨_, _, _, _, H1⟩, (ev_mminutes0 L xs H1 mh1 M1 b0 b1 hq hv c d).mono ?_⟩
          rintro o t ⟨rfl, ⟨z2, ar2, hd, Ht⟩, rt⟩
          rw [gg, show (12 : Int) + 1 = 13 from rfl] at hd
          generalize hg1 : mo_pt (mo_g ar) (oI (hq_g ar 190) b) (13) (v) = g1 at hd
          have o3 : oV (hq_g ar1 190) (oI (hq_g ar 190) b) 3 = oV (hq_g ar 190) (oI (hq_g ar 190) b) 3 := (cl _ (by omega)).trans (by rw [if_neg (by omega)]; first | done | rfl)
          have o4 : oV (hq_g ar1 190) (oI (hq_g ar 190) b) 4 = oV (hq_g ar 190) (oI (hq_g ar 190) b) 4 := (cl _ (by omega)).trans (by rw [if_neg (by omega)]; first | done | rfl)
          have o5 : oV (hq_g ar1 190) (oI (hq_g ar 190) b) 5 = oV (hq_g ar 190) (oI (hq_g ar 190) b) 5 := (cl _ (by omega)).trans (by rw [if_neg (by omega)]; first | done | rfl)
          have o6 : oV (hq_g ar1 190) (oI (hq_g ar 190) b) 6 = oV (hq_g ar 190) (oI (hq_g ar 190) b) 6 := (cl _ (by omega)).trans (by rw [if_neg (by omega)]; first | done | rfl)
          have o7 : oV (hq_g ar1 190) (oI (hq_g ar 190) b) 7 = oV (hq_g ar 190) (oI (hq_g ar 190) b) 7 := (cl _ (by omega)).trans (by rw [if_neg (by omega)]; first | done | rfl)
          have o8 : oV (hq_g ar1 190) (oI (hq_g ar 190) b) 8 = oV (hq_g ar 190) (oI (hq_g ar 190) b) 8 := (cl _ (by omega)).trans (by rw [if_neg (by omega)]; first | done | rfl)
          have o9 : oV (hq_g ar1 190) (oI (hq_g ar 190) b) 9 = oV (hq_g ar 190) (oI (hq_g ar 190) b) 9 := (cl _ (by omega)).trans (by rw [if_neg (by omega)]; first | done | rfl)
          have o10 : oV (hq_g ar1 190) (oI (hq_g ar 190) b) 10 = oV (hq_g ar 190) (oI (hq_g ar 190) b) 10 := (cl _ (by omega)).trans (by rw [if_neg (by omega)]; first | done | rfl)
          have o11 : oV (hq_g ar1 190) (oI (hq_g ar 190) b) 11 = oV (hq_g ar 190) (oI (hq_g ar 190) b) 11 := (cl _ (by omega)).trans (by rw [if_neg (by omega)]; first | done | rfl)
          have o12 : oV (hq_g ar1 190) (oI (hq_g ar 190) b) 12 = oV (hq_g ar 190) (oI (hq_g ar 190) b) 12 := (cl _ (by omega)).trans (by rw [if_neg (by omega)]; first | done | rfl)
          have o13 : oV (hq_g ar1 190) (oI (hq_g ar 190) b) 13 = v := (cl _ (by omega)).trans (by rw [if_pos (by omega)])
          have o14 : oV (hq_g ar1 190) (oI (hq_g ar 190) b) 14 = oV (hq_g ar 190) (oI (hq_g ar 190) b) 14 := (cl _ (by omega)).trans (by rw [if_neg (by omega)]; first | done | rfl)
          have o15 : oV (hq_g ar1 190) (oI (hq_g ar 190) b) 15 = oV (hq_g ar 190) (oI (hq_g ar 190) b) 15 := (cl _ (by omega)).trans (by rw [if_neg (by omega)]; first | done | rfl)
          have F1 : rr_f (hq_g ar1 190) g1 (oI (hq_g ar 190) b) := by
            rw [← hg1]
            exact rr_f.mk (by rw [mo_pt_f (by decide), o3]; exact f.f3) (by rw [mo_pt_f (by decide), o4]; exact f.f4) (by rw [mo_pt_f (by decide), o5]; exact f.f5) (by rw [mo_pt_f (by decide), o6]; exact f.f6) (by rw [mo_pt_f (by decide), o9]; exact f.f7) (by rw [mo_pt_f (by decide), o10]; exact f.f8) (by rw [mo_pt_f (by decide), o11]; exact f.f9) (by rw [mo_pt_f (by decide), o14]; exact f.f10) (by rw [mo_pt_f (by decide), o15]; exact f.f11) (by rw [mo_pt_f (by decide), o12]; exact f.f12) (by show _ = _; rw [mo_pt_at, o13])
          have G1 : rr_r (hq_g ar1 190) (oI (hq_g ar 190) b) := rr_r.mk (by rw [o3]; exact g.r3) (by rw [o4]; exact g.r4) (by rw [o5]; exact g.r5) (by rw [o9]; exact g.r9) (by rw [o10]; exact g.r10) (by rw [o11]; exact g.r11) (by rw [o12]; exact g.r12) (by rw [o13]; exact d) (by rw [o14, o10]; exact g.r14) (by rw [o15, o11]; exact g.r15)
          have hg : ∀ a f, (a ≠ (oI (hq_g ar 190) b) ∨ f < 3) → g1 a f = mo_g ar a f := by
            rw [← hg1]
            intro a f h
            rcases h with h | h
            · rw [mo_pt_e h]
            · rw [mo_pt_f (by omega)]
          have hc : ∀ i, 0 ≤ i → (i ≤ 401 + (oI (hq_g ar 190) b) * 16 + 2 ∨ 401 + (oI (hq_g ar 190) b) * 16 + 16 ≤ i) → hq_g ar1 190 i = hq_g ar 190 i := fun i i0 h => by rw [cl i i0, if_neg (by omega)]
          have K1 : mo_K g1 := by
            rw [← hg1]
            exact mo_pt_K (mo_g_K ar) (hv)
          exact ⟨rfl, _, fld_fin n5 X F cn rm E1 b0 b1 hc o7 o8 hg F1 G1 K1 hd Ht F.kl F.o1 rfl m1 rt⟩
      · exact SV.ref L xs H X F cn rm (by decide) (wr_minutes2 L xs H (ev_dminutes2b L xs H hl Nn b0 b1 hq hv c d)) (fun s Hs => ev_mminutes2b L xs Hs mh M b0 b1 hq hv c d)
    · exact SV.ref L xs H X F cn rm (by decide) (wr_minutes2 L xs H (ev_dminutes2a L xs H hl Nn b0 b1 hq hv c)) (fun s Hs => ev_mminutes2a L xs Hs mh M b0 b1 hq hv c)
  · exact SV.ref L xs H X F cn rm (by decide) (wr_minutes1 L xs H (ev_dminutes1 L xs H hl Nn hp n2)) (fun s Hs => ev_mminutes1 L xs Hs mh M hp n2)
theorem st_fold (J : JX N σ k0 l0) (n5 : N ≤ 600) {p : Int} (hp : -2147483648 ≤ p ∧ p ≤ 2147483647) {v : Int} (hv : v = 0 ∨ v = 1) : SV L xs N σ 184 [.ref 0, .int (zI p), .int (zI v)] 134 [.ref 199, .int (zI p), .int (zI v)] := by
  obtain ⟨ad, z, ar, lr, Cs, H, X, F, cn, e29, el, rm⟩ := J
  have hl := X.w.le
  have Nn := X.rr.N
  have M := X.mr
  have mh := X.mh
  rcases cs_T (oI (hq_g ar 190)) (hq_g ar 190 0) p with ⟨b, b0, b1, rfl⟩ | n2
  · have f := X.rr.F b b0 b1
    have g := X.rr.G b b0 b1
    have i0 := Nn.J.1 b b0 b1
    have i1 := Nn.lt b b0 b1
    have m4 := Nn.m4
    have c1 := cn.1
    rcases hv with e | e
    · subst e
      refine (wr_foldV L xs H (ev_dfold00 L xs H X.w X.h7 (by omega) X.h5 Nn b0 b1)).mono ?_
      rintro o s ⟨rfl, ad1, z1, ar1, H1, E1, cl, m1⟩
      obtain ⟨mh1, gg, e23, M1, S1, e26⟩ := X.mid E1
      refine ⟨0, by decide, rfl, ⟨_, _, _, _, H1⟩, (ev_mfold0 L xs H1 mh1 M1 b0 b1).mono ?_⟩
      rintro o t ⟨rfl, ⟨z2, ar2, hd, Ht⟩, rt⟩
      rw [gg] at hd
      generalize hg1 : mo_pt (mo_g ar) (oI (hq_g ar 190) b) (7) (0) = g1 at hd
      have o3 : oV (hq_g ar1 190) (oI (hq_g ar 190) b) 3 = oV (hq_g ar 190) (oI (hq_g ar 190) b) 3 := (cl _ (by omega)).trans (by rw [if_neg (by omega)]; first | done | rfl)
      have o4 : oV (hq_g ar1 190) (oI (hq_g ar 190) b) 4 = oV (hq_g ar 190) (oI (hq_g ar 190) b) 4 := (cl _ (by omega)).trans (by rw [if_neg (by omega)]; first | done | rfl)
      have o5 : oV (hq_g ar1 190) (oI (hq_g ar 190) b) 5 = oV (hq_g ar 190) (oI (hq_g ar 190) b) 5 := (cl _ (by omega)).trans (by rw [if_neg (by omega)]; first | done | rfl)
      have o6 : oV (hq_g ar1 190) (oI (hq_g ar 190) b) 6 = oV (hq_g ar 190) (oI (hq_g ar 190) b) 6 := (cl _ (by omega)).trans (by rw [if_neg (by omega)]; first | done | rfl)
      have o7 : oV (hq_g ar1 190) (oI (hq_g ar 190) b) 7 = oV (hq_g ar 190) (oI (hq_g ar 190) b) 7 := (cl _ (by omega)).trans (by rw [if_neg (by omega)]; first | done | rfl)
      have o8 : oV (hq_g ar1 190) (oI (hq_g ar 190) b) 8 = oV (hq_g ar 190) (oI (hq_g ar 190) b) 8 := (cl _ (by omega)).trans (by rw [if_neg (by omega)]; first | done | rfl)
      have o9 : oV (hq_g ar1 190) (oI (hq_g ar 190) b) 9 = 0 := (cl _ (by omega)).trans (by rw [if_pos (by omega)])
      have o10 : oV (hq_g ar1 190) (oI (hq_g ar 190) b) 10 = oV (hq_g ar 190) (oI (hq_g ar 190) b) 10 := (cl _ (by omega)).trans (by rw [if_neg (by omega)]; first | done | rfl)
      have o11 : oV (hq_g ar1 190) (oI (hq_g ar 190) b) 11 = oV (hq_g ar 190) (oI (hq_g ar 190) b) 11 := (cl _ (by omega)).trans (by rw [if_neg (by omega)]; first | done | rfl)
      have o12 : oV (hq_g ar1 190) (oI (hq_g ar 190) b) 12 = oV (hq_g ar 190) (oI (hq_g ar 190) b) 12 := (cl _ (by omega)).trans (by rw [if_neg (by omega)]; first | done | rfl)
      have o13 : oV (hq_g ar1 190) (oI (hq_g ar 190) b) 13 = oV (hq_g ar 190) (oI (hq_g ar 190) b) 13 := (cl _ (by omega)).trans (by rw [if_neg (by omega)]; first | done | rfl)
      have o14 : oV (hq_g ar1 190) (oI (hq_g ar 190) b) 14 = oV (hq_g ar 190) (oI (hq_g ar 190) b) 14 := (cl _ (by omega)).trans (by rw [if_neg (by omega)]; first | done | rfl)
      have o15 : oV (hq_g ar1 190) (oI (hq_g ar 190) b) 15 = oV (hq_g ar 190) (oI (hq_g ar 190) b) 15 := (cl _ (by omega)).trans (by rw [if_neg (by omega)]; first | done | rfl)
      have F1 : rr_f (hq_g ar1 190) g1 (oI (hq_g ar 190) b) := by
        rw [← hg1]
        exact rr_f.mk (by rw [mo_pt_f (by decide), o3]; exact f.f3) (by rw [mo_pt_f (by decide), o4]; exact f.f4) (by rw [mo_pt_f (by decide), o5]; exact f.f5) (by rw [mo_pt_f (by decide), o6]; exact f.f6) (by show _ = _; rw [mo_pt_at, o9]) (by rw [mo_pt_f (by decide), o10]; exact f.f8) (by rw [mo_pt_f (by decide), o11]; exact f.f9) (by rw [mo_pt_f (by decide), o14]; exact f.f10) (by rw [mo_pt_f (by decide), o15]; exact f.f11) (by rw [mo_pt_f (by decide), o12]; exact f.f12) (by rw [mo_pt_f (by decide), o13]; exact f.f13)
      have G1 : rr_r (hq_g ar1 190) (oI (hq_g ar 190) b) := rr_r.mk (by rw [o3]; exact g.r3) (by rw [o4]; exact g.r4) (by rw [o5]; exact g.r5) (by rw [o9]; exact (by decide)) (by rw [o10]; exact g.r10) (by rw [o11]; exact g.r11) (by rw [o12]; exact g.r12) (by rw [o13]; exact g.r13) (by rw [o14, o10]; exact g.r14) (by rw [o15, o11]; exact g.r15)
      have hg : ∀ a f, (a ≠ (oI (hq_g ar 190) b) ∨ f < 3) → g1 a f = mo_g ar a f := by
        rw [← hg1]
        intro a f h
        rcases h with h | h
        · rw [mo_pt_e h]
        · rw [mo_pt_f (by omega)]
      have hc : ∀ i, 0 ≤ i → (i ≤ 401 + (oI (hq_g ar 190) b) * 16 + 2 ∨ 401 + (oI (hq_g ar 190) b) * 16 + 16 ≤ i) → hq_g ar1 190 i = hq_g ar 190 i := fun i i0 h => by rw [cl i i0, if_neg (by omega)]
      have K1 : mo_K g1 := by
        rw [← hg1]
        exact mo_pt_K (mo_g_K ar) (by decide)
      exact ⟨rfl, _, fld_fin n5 X F cn rm E1 b0 b1 hc o7 o8 hg F1 G1 K1 hd Ht F.kl F.o1 rfl m1 rt⟩
    · subst e
      refine (wr_foldV L xs H (ev_dfold01 L xs H X.w X.h7 (by omega) X.h5 Nn b0 b1)).mono ?_
      rintro o s ⟨rfl, ad1, z1, ar1, H1, E1, cl, m1⟩
      obtain ⟨mh1, gg, e23, M1, S1, e26⟩ := X.mid E1
      refine ⟨0, by decide, rfl, ⟨_, _, _, _, H1⟩, (ev_mfoldT L xs H1 mh1 M1 b0 b1).mono ?_⟩
      rintro o t ⟨rfl, ⟨z2, ar2, hd, Ht⟩, rt⟩
      rw [gg] at hd
      generalize hg1 : mo_pt (mo_g ar) (oI (hq_g ar 190) b) (7) (1) = g1 at hd
      have o3 : oV (hq_g ar1 190) (oI (hq_g ar 190) b) 3 = oV (hq_g ar 190) (oI (hq_g ar 190) b) 3 := (cl _ (by omega)).trans (by rw [if_neg (by omega)]; first | done | rfl)
      have o4 : oV (hq_g ar1 190) (oI (hq_g ar 190) b) 4 = oV (hq_g ar 190) (oI (hq_g ar 190) b) 4 := (cl _ (by omega)).trans (by rw [if_neg (by omega)]; first | done | rfl)
      have o5 : oV (hq_g ar1 190) (oI (hq_g ar 190) b) 5 = oV (hq_g ar 190) (oI (hq_g ar 190) b) 5 := (cl _ (by omega)).trans (by rw [if_neg (by omega)]; first | done | rfl)
      have o6 : oV (hq_g ar1 190) (oI (hq_g ar 190) b) 6 = oV (hq_g ar 190) (oI (hq_g ar 190) b) 6 := (cl _ (by omega)).trans (by rw [if_neg (by omega)]; first | done | rfl)
      have o7 : oV (hq_g ar1 190) (oI (hq_g ar 190) b) 7 = oV (hq_g ar 190) (oI (hq_g ar 190) b) 7 := (cl _ (by omega)).trans (by rw [if_neg (by omega)]; first | done | rfl)
      have o8 : oV (hq_g ar1 190) (oI (hq_g ar 190) b) 8 = oV (hq_g ar 190) (oI (hq_g ar 190) b) 8 := (cl _ (by omega)).trans (by rw [if_neg (by omega)]; first | done | rfl)
      have o9 : oV (hq_g ar1 190) (oI (hq_g ar 190) b) 9 = 1 := (cl _ (by omega)).trans (by rw [if_pos (by omega)])
      have o10 : oV (hq_g ar1 190) (oI (hq_g ar 190) b) 10 = oV (hq_g ar 190) (oI (hq_g ar 190) b) 10 := (cl _ (by omega)).trans (by rw [if_neg (by omega)]; first | done | rfl)
      have o11 : oV (hq_g ar1 190) (oI (hq_g ar 190) b) 11 = oV (hq_g ar 190) (oI (hq_g ar 190) b) 11 := (cl _ (by omega)).trans (by rw [if_neg (by omega)]; first | done | rfl)
      have o12 : oV (hq_g ar1 190) (oI (hq_g ar 190) b) 12 = oV (hq_g ar 190) (oI (hq_g ar 190) b) 12 := (cl _ (by omega)).trans (by rw [if_neg (by omega)]; first | done | rfl)
      have o13 : oV (hq_g ar1 190) (oI (hq_g ar 190) b) 13 = oV (hq_g ar 190) (oI (hq_g ar 190) b) 13 := (cl _ (by omega)).trans (by rw [if_neg (by omega)]; first | done | rfl)
      have o14 : oV (hq_g ar1 190) (oI (hq_g ar 190) b) 14 = oV (hq_g ar 190) (oI (hq_g ar 190) b) 14 := (cl _ (by omega)).trans (by rw [if_neg (by omega)]; first | done | rfl)
      have o15 : oV (hq_g ar1 190) (oI (hq_g ar 190) b) 15 = oV (hq_g ar 190) (oI (hq_g ar 190) b) 15 := (cl _ (by omega)).trans (by rw [if_neg (by omega)]; first | done | rfl)
      have F1 : rr_f (hq_g ar1 190) g1 (oI (hq_g ar 190) b) := by
        rw [← hg1]
        exact rr_f.mk (by rw [mo_pt_f (by decide), o3]; exact f.f3) (by rw [mo_pt_f (by decide), o4]; exact f.f4) (by rw [mo_pt_f (by decide), o5]; exact f.f5) (by rw [mo_pt_f (by decide), o6]; exact f.f6) (by show _ = _; rw [mo_pt_at, o9]) (by rw [mo_pt_f (by decide), o10]; exact f.f8) (by rw [mo_pt_f (by decide), o11]; exact f.f9) (by rw [mo_pt_f (by decide), o14]; exact f.f10) (by rw [mo_pt_f (by decide), o15]; exact f.f11) (by rw [mo_pt_f (by decide), o12]; exact f.f12) (by rw [mo_pt_f (by decide), o13]; exact f.f13)
      have G1 : rr_r (hq_g ar1 190) (oI (hq_g ar 190) b) := rr_r.mk (by rw [o3]; exact g.r3) (by rw [o4]; exact g.r4) (by rw [o5]; exact g.r5) (by rw [o9]; exact (by decide)) (by rw [o10]; exact g.r10) (by rw [o11]; exact g.r11) (by rw [o12]; exact g.r12) (by rw [o13]; exact g.r13) (by rw [o14, o10]; exact g.r14) (by rw [o15, o11]; exact g.r15)
      have hg : ∀ a f, (a ≠ (oI (hq_g ar 190) b) ∨ f < 3) → g1 a f = mo_g ar a f := by
        rw [← hg1]
        intro a f h
        rcases h with h | h
        · rw [mo_pt_e h]
        · rw [mo_pt_f (by omega)]
      have hc : ∀ i, 0 ≤ i → (i ≤ 401 + (oI (hq_g ar 190) b) * 16 + 2 ∨ 401 + (oI (hq_g ar 190) b) * 16 + 16 ≤ i) → hq_g ar1 190 i = hq_g ar 190 i := fun i i0 h => by rw [cl i i0, if_neg (by omega)]
      have K1 : mo_K g1 := by
        rw [← hg1]
        exact mo_pt_K (mo_g_K ar) (by decide)
      exact ⟨rfl, _, fld_fin n5 X F cn rm E1 b0 b1 hc o7 o8 hg F1 G1 K1 hd Ht F.kl F.o1 rfl m1 rt⟩
  · exact SV.ref L xs H X F cn rm (by decide) (wr_fold1 L xs H (ev_dfold1 L xs H hl Nn hp n2)) (fun s Hs => ev_mfold1 L xs Hs mh M hp n2)
theorem st_tag (J : JX N σ k0 l0) (n5 : N ≤ 600) {p : Int} (hp : -2147483648 ≤ p ∧ p ≤ 2147483647) {q : Int} (hq : -2147483648 ≤ q ∧ q ≤ 2147483647) {v : Int} (hv : v = 0 ∨ v = 1) : SV L xs N σ 181 [.ref 0, .int (zI p), .int (zI q), .int (zI v)] 131 [.ref 199, .int (zI p), .int (zI q), .int (zI v)] := by
  obtain ⟨ad, z, ar, lr, Cs, H, X, F, cn, e29, el, rm⟩ := J
  have hl := X.w.le
  have Nn := X.rr.N
  have M := X.mr
  have mh := X.mh
  rcases cs_T (oI (hq_g ar 190)) (hq_g ar 190 0) p with ⟨b, b0, b1, rfl⟩ | n2
  · have f := X.rr.F b b0 b1
    have g := X.rr.G b b0 b1
    have i0 := Nn.J.1 b b0 b1
    have i1 := Nn.lt b b0 b1
    have m4 := Nn.m4
    have c1 := cn.1
    by_cases c : 0 ≤ q ∧ q ≤ 23
    · rcases hv with e | e
      · subst e
        refine (wr_tagV L xs H (ev_dtag0 L xs H X.w X.h7 (by omega) X.h5 Nn b0 b1 hq c)).mono ?_
        rintro o s ⟨rfl, ad1, z1, ar1, H1, E1, cl, m1⟩
        obtain ⟨mh1, gg, e23, M1, S1, e26⟩ := X.mid E1
        refine ⟨0, by decide, rfl, ⟨_, _, _, _, H1⟩, (ev_mtag0 L xs H1 mh1 M1 b0 b1 hq c).mono ?_⟩
        rintro o t ⟨rfl, ⟨z2, ar2, hd, Ht⟩, rt⟩
        rw [gg, f.f6] at hd
        generalize hg1 : mo_pt (mo_g ar) (oI (hq_g ar 190) b) (6) (zand (oV (hq_g ar 190) (oI (hq_g ar 190) b) 6) (zxor (zshl 1 q) (-1))) = g1 at hd
        have o3 : oV (hq_g ar1 190) (oI (hq_g ar 190) b) 3 = oV (hq_g ar 190) (oI (hq_g ar 190) b) 3 := (cl _ (by omega)).trans (by rw [if_neg (by omega)]; first | done | rfl)
        have o4 : oV (hq_g ar1 190) (oI (hq_g ar 190) b) 4 = oV (hq_g ar 190) (oI (hq_g ar 190) b) 4 := (cl _ (by omega)).trans (by rw [if_neg (by omega)]; first | done | rfl)
        have o5 : oV (hq_g ar1 190) (oI (hq_g ar 190) b) 5 = oV (hq_g ar 190) (oI (hq_g ar 190) b) 5 := (cl _ (by omega)).trans (by rw [if_neg (by omega)]; first | done | rfl)
        have o6 : oV (hq_g ar1 190) (oI (hq_g ar 190) b) 6 = zand (oV (hq_g ar 190) (oI (hq_g ar 190) b) 6) (zxor (zshl 1 q) (-1)) := (cl _ (by omega)).trans (by rw [if_pos (by omega)])
        have o7 : oV (hq_g ar1 190) (oI (hq_g ar 190) b) 7 = oV (hq_g ar 190) (oI (hq_g ar 190) b) 7 := (cl _ (by omega)).trans (by rw [if_neg (by omega)]; first | done | rfl)
        have o8 : oV (hq_g ar1 190) (oI (hq_g ar 190) b) 8 = oV (hq_g ar 190) (oI (hq_g ar 190) b) 8 := (cl _ (by omega)).trans (by rw [if_neg (by omega)]; first | done | rfl)
        have o9 : oV (hq_g ar1 190) (oI (hq_g ar 190) b) 9 = oV (hq_g ar 190) (oI (hq_g ar 190) b) 9 := (cl _ (by omega)).trans (by rw [if_neg (by omega)]; first | done | rfl)
        have o10 : oV (hq_g ar1 190) (oI (hq_g ar 190) b) 10 = oV (hq_g ar 190) (oI (hq_g ar 190) b) 10 := (cl _ (by omega)).trans (by rw [if_neg (by omega)]; first | done | rfl)
        have o11 : oV (hq_g ar1 190) (oI (hq_g ar 190) b) 11 = oV (hq_g ar 190) (oI (hq_g ar 190) b) 11 := (cl _ (by omega)).trans (by rw [if_neg (by omega)]; first | done | rfl)
        have o12 : oV (hq_g ar1 190) (oI (hq_g ar 190) b) 12 = oV (hq_g ar 190) (oI (hq_g ar 190) b) 12 := (cl _ (by omega)).trans (by rw [if_neg (by omega)]; first | done | rfl)
        have o13 : oV (hq_g ar1 190) (oI (hq_g ar 190) b) 13 = oV (hq_g ar 190) (oI (hq_g ar 190) b) 13 := (cl _ (by omega)).trans (by rw [if_neg (by omega)]; first | done | rfl)
        have o14 : oV (hq_g ar1 190) (oI (hq_g ar 190) b) 14 = oV (hq_g ar 190) (oI (hq_g ar 190) b) 14 := (cl _ (by omega)).trans (by rw [if_neg (by omega)]; first | done | rfl)
        have o15 : oV (hq_g ar1 190) (oI (hq_g ar 190) b) 15 = oV (hq_g ar 190) (oI (hq_g ar 190) b) 15 := (cl _ (by omega)).trans (by rw [if_neg (by omega)]; first | done | rfl)
        have F1 : rr_f (hq_g ar1 190) g1 (oI (hq_g ar 190) b) := by
          rw [← hg1]
          exact rr_f.mk (by rw [mo_pt_f (by decide), o3]; exact f.f3) (by rw [mo_pt_f (by decide), o4]; exact f.f4) (by rw [mo_pt_f (by decide), o5]; exact f.f5) (by show _ = _; rw [mo_pt_at, o6]) (by rw [mo_pt_f (by decide), o9]; exact f.f7) (by rw [mo_pt_f (by decide), o10]; exact f.f8) (by rw [mo_pt_f (by decide), o11]; exact f.f9) (by rw [mo_pt_f (by decide), o14]; exact f.f10) (by rw [mo_pt_f (by decide), o15]; exact f.f11) (by rw [mo_pt_f (by decide), o12]; exact f.f12) (by rw [mo_pt_f (by decide), o13]; exact f.f13)
        have G1 : rr_r (hq_g ar1 190) (oI (hq_g ar 190) b) := rr_r.mk (by rw [o3]; exact g.r3) (by rw [o4]; exact g.r4) (by rw [o5]; exact g.r5) (by rw [o9]; exact g.r9) (by rw [o10]; exact g.r10) (by rw [o11]; exact g.r11) (by rw [o12]; exact g.r12) (by rw [o13]; exact g.r13) (by rw [o14, o10]; exact g.r14) (by rw [o15, o11]; exact g.r15)
        have hg : ∀ a f, (a ≠ (oI (hq_g ar 190) b) ∨ f < 3) → g1 a f = mo_g ar a f := by
          rw [← hg1]
          intro a f h
          rcases h with h | h
          · rw [mo_pt_e h]
          · rw [mo_pt_f (by omega)]
        have hc : ∀ i, 0 ≤ i → (i ≤ 401 + (oI (hq_g ar 190) b) * 16 + 2 ∨ 401 + (oI (hq_g ar 190) b) * 16 + 16 ≤ i) → hq_g ar1 190 i = hq_g ar 190 i := fun i i0 h => by rw [cl i i0, if_neg (by omega)]
        have K1 : mo_K g1 := by
          rw [← hg1]
          exact mo_pt_K (mo_g_K ar) (zand_r _ _)
        exact ⟨rfl, _, fld_fin n5 X F cn rm E1 b0 b1 hc o7 o8 hg F1 G1 K1 hd Ht F.kl F.o1 rfl m1 rt⟩
      · subst e
        refine (wr_tagV L xs H (ev_dtagT L xs H X.w X.h7 (by omega) X.h5 Nn b0 b1 hq c)).mono ?_
        rintro o s ⟨rfl, ad1, z1, ar1, H1, E1, cl, m1⟩
        obtain ⟨mh1, gg, e23, M1, S1, e26⟩ := X.mid E1
        refine ⟨0, by decide, rfl, ⟨_, _, _, _, H1⟩, (ev_mtagT L xs H1 mh1 M1 b0 b1 hq c).mono ?_⟩
        rintro o t ⟨rfl, ⟨z2, ar2, hd, Ht⟩, rt⟩
        rw [gg, f.f6] at hd
        generalize hg1 : mo_pt (mo_g ar) (oI (hq_g ar 190) b) (6) (zor (oV (hq_g ar 190) (oI (hq_g ar 190) b) 6) (zshl 1 q)) = g1 at hd
        have o3 : oV (hq_g ar1 190) (oI (hq_g ar 190) b) 3 = oV (hq_g ar 190) (oI (hq_g ar 190) b) 3 := (cl _ (by omega)).trans (by rw [if_neg (by omega)]; first | done | rfl)
        have o4 : oV (hq_g ar1 190) (oI (hq_g ar 190) b) 4 = oV (hq_g ar 190) (oI (hq_g ar 190) b) 4 := (cl _ (by omega)).trans (by rw [if_neg (by omega)]; first | done | rfl)
        have o5 : oV (hq_g ar1 190) (oI (hq_g ar 190) b) 5 = oV (hq_g ar 190) (oI (hq_g ar 190) b) 5 := (cl _ (by omega)).trans (by rw [if_neg (by omega)]; first | done | rfl)
        have o6 : oV (hq_g ar1 190) (oI (hq_g ar 190) b) 6 = zor (oV (hq_g ar 190) (oI (hq_g ar 190) b) 6) (zshl 1 q) := (cl _ (by omega)).trans (by rw [if_pos (by omega)])
        have o7 : oV (hq_g ar1 190) (oI (hq_g ar 190) b) 7 = oV (hq_g ar 190) (oI (hq_g ar 190) b) 7 := (cl _ (by omega)).trans (by rw [if_neg (by omega)]; first | done | rfl)
        have o8 : oV (hq_g ar1 190) (oI (hq_g ar 190) b) 8 = oV (hq_g ar 190) (oI (hq_g ar 190) b) 8 := (cl _ (by omega)).trans (by rw [if_neg (by omega)]; first | done | rfl)
        have o9 : oV (hq_g ar1 190) (oI (hq_g ar 190) b) 9 = oV (hq_g ar 190) (oI (hq_g ar 190) b) 9 := (cl _ (by omega)).trans (by rw [if_neg (by omega)]; first | done | rfl)
        have o10 : oV (hq_g ar1 190) (oI (hq_g ar 190) b) 10 = oV (hq_g ar 190) (oI (hq_g ar 190) b) 10 := (cl _ (by omega)).trans (by rw [if_neg (by omega)]; first | done | rfl)
        have o11 : oV (hq_g ar1 190) (oI (hq_g ar 190) b) 11 = oV (hq_g ar 190) (oI (hq_g ar 190) b) 11 := (cl _ (by omega)).trans (by rw [if_neg (by omega)]; first | done | rfl)
        have o12 : oV (hq_g ar1 190) (oI (hq_g ar 190) b) 12 = oV (hq_g ar 190) (oI (hq_g ar 190) b) 12 := (cl _ (by omega)).trans (by rw [if_neg (by omega)]; first | done | rfl)
        have o13 : oV (hq_g ar1 190) (oI (hq_g ar 190) b) 13 = oV (hq_g ar 190) (oI (hq_g ar 190) b) 13 := (cl _ (by omega)).trans (by rw [if_neg (by omega)]; first | done | rfl)
        have o14 : oV (hq_g ar1 190) (oI (hq_g ar 190) b) 14 = oV (hq_g ar 190) (oI (hq_g ar 190) b) 14 := (cl _ (by omega)).trans (by rw [if_neg (by omega)]; first | done | rfl)
        have o15 : oV (hq_g ar1 190) (oI (hq_g ar 190) b) 15 = oV (hq_g ar 190) (oI (hq_g ar 190) b) 15 := (cl _ (by omega)).trans (by rw [if_neg (by omega)]; first | done | rfl)
        have F1 : rr_f (hq_g ar1 190) g1 (oI (hq_g ar 190) b) := by
          rw [← hg1]
          exact rr_f.mk (by rw [mo_pt_f (by decide), o3]; exact f.f3) (by rw [mo_pt_f (by decide), o4]; exact f.f4) (by rw [mo_pt_f (by decide), o5]; exact f.f5) (by show _ = _; rw [mo_pt_at, o6]) (by rw [mo_pt_f (by decide), o9]; exact f.f7) (by rw [mo_pt_f (by decide), o10]; exact f.f8) (by rw [mo_pt_f (by decide), o11]; exact f.f9) (by rw [mo_pt_f (by decide), o14]; exact f.f10) (by rw [mo_pt_f (by decide), o15]; exact f.f11) (by rw [mo_pt_f (by decide), o12]; exact f.f12) (by rw [mo_pt_f (by decide), o13]; exact f.f13)
        have G1 : rr_r (hq_g ar1 190) (oI (hq_g ar 190) b) := rr_r.mk (by rw [o3]; exact g.r3) (by rw [o4]; exact g.r4) (by rw [o5]; exact g.r5) (by rw [o9]; exact g.r9) (by rw [o10]; exact g.r10) (by rw [o11]; exact g.r11) (by rw [o12]; exact g.r12) (by rw [o13]; exact g.r13) (by rw [o14, o10]; exact g.r14) (by rw [o15, o11]; exact g.r15)
        have hg : ∀ a f, (a ≠ (oI (hq_g ar 190) b) ∨ f < 3) → g1 a f = mo_g ar a f := by
          rw [← hg1]
          intro a f h
          rcases h with h | h
          · rw [mo_pt_e h]
          · rw [mo_pt_f (by omega)]
        have hc : ∀ i, 0 ≤ i → (i ≤ 401 + (oI (hq_g ar 190) b) * 16 + 2 ∨ 401 + (oI (hq_g ar 190) b) * 16 + 16 ≤ i) → hq_g ar1 190 i = hq_g ar 190 i := fun i i0 h => by rw [cl i i0, if_neg (by omega)]
        have K1 : mo_K g1 := by
          rw [← hg1]
          exact mo_pt_K (mo_g_K ar) (zor_r _ _)
        exact ⟨rfl, _, fld_fin n5 X F cn rm E1 b0 b1 hc o7 o8 hg F1 G1 K1 hd Ht F.kl F.o1 rfl m1 rt⟩
    · exact SV.ref L xs H X F cn rm (by decide) (wr_tag2 L xs H (ev_dtag2 L xs H hl Nn b0 b1 hq c)) (fun s Hs => ev_mtag2 L xs Hs mh M b0 b1 hq c)
  · exact SV.ref L xs H X F cn rm (by decide) (wr_tag1 L xs H (ev_dtag1 L xs H hl Nn hp n2)) (fun s Hs => ev_mtag1 L xs Hs mh M hp n2)
theorem st_date (J : JX N σ k0 l0) (n5 : N ≤ 600) {p : Int} (hp : -2147483648 ≤ p ∧ p ≤ 2147483647) {q : Int} (hq : -2147483648 ≤ q ∧ q ≤ 2147483647) {d : Int} (hd : -2147483648 ≤ d ∧ d ≤ 2147483647) {k : Int} (hk : -2147483648 ≤ k ∧ k ≤ 2147483647) {u : Int} (hu : -2147483648 ≤ u ∧ u ≤ 2147483647) {c : Int} (hc : -2147483648 ≤ c ∧ c ≤ 2147483647) : SV L xs N σ 182 [.ref 0, .int (zI p), .int (zI q), .int (zI d), .int (zI k), .int (zI u), .int (zI c)] 132 [.ref 199, .int (zI p), .int (zI q), .int (zI d), .int (zI k), .int (zI u), .int (zI c)] := by
  obtain ⟨ad, z, ar, lr, Cs, H, X, F, cn, e29, el, rm⟩ := J
  have hl := X.w.le
  have Nn := X.rr.N
  have M := X.mr
  have mh := X.mh
  rcases cs_T (oI (hq_g ar 190)) (hq_g ar 190 0) p with ⟨b, b0, b1, rfl⟩ | n2
  · have f := X.rr.F b b0 b1
    have g := X.rr.G b b0 b1
    have i0 := Nn.J.1 b b0 b1
    have i1 := Nn.lt b b0 b1
    have m4 := Nn.m4
    have c1 := cn.1
    by_cases x : 0 ≤ q ∧ q ≤ 1
    · by_cases y : d = -1
      · have ok : ((0 ≤ q ∧ q ≤ 1) ∧ (d = -1 ∨ (0 ≤ d ∧ d ≤ 3652058) ∧ (0 ≤ k ∧ k ≤ 3) ∧ (k = 0 ∨ (0 ≤ u ∧ u ≤ 3) ∧ (1 ≤ c ∧ c ≤ 99)))) := ⟨x, Or.inl y⟩
        rcases (show q = 0 ∨ q = 1 by omega) with e | e
        · subst e
          refine (wr_dateV L xs H (ev_ddate0a L xs H X.w X.h7 (by omega) X.h5 Nn b0 b1 hq hd hk hu hc x y)).mono ?_
          rintro o s ⟨rfl, ad1, z1, ar1, H1, E1, cl, m1⟩
          obtain ⟨mh1, gg, e23, M1, S1, e26⟩ := X.mid E1
          refine ⟨0, by decide, rfl, ⟨_, _, _, _, H1⟩, (ev_mdate0a L xs H1 mh1 M1 b0 b1 hq hd hk hu hc ok y).mono ?_⟩
          rintro o t ⟨rfl, ⟨z2, ar2, hdd, Ht⟩, rt⟩
          rw [gg, if_pos (Or.inl y), show (10 : Int) + 0 = 10 from rfl, show (8 : Int) + 0 = 8 from rfl] at hdd
          generalize hg1 : mo_pt (mo_pt (mo_g ar) (oI (hq_g ar 190) b) (8) (d)) (oI (hq_g ar 190) b) (10) (0) = g1 at hdd
          have o3 : oV (hq_g ar1 190) (oI (hq_g ar 190) b) 3 = oV (hq_g ar 190) (oI (hq_g ar 190) b) 3 := (cl _ (by omega)).trans (by rw [if_neg (by omega), if_neg (by omega)]; first | done | rfl)
          have o4 : oV (hq_g ar1 190) (oI (hq_g ar 190) b) 4 = oV (hq_g ar 190) (oI (hq_g ar 190) b) 4 := (cl _ (by omega)).trans (by rw [if_neg (by omega), if_neg (by omega)]; first | done | rfl)
          have o5 : oV (hq_g ar1 190) (oI (hq_g ar 190) b) 5 = oV (hq_g ar 190) (oI (hq_g ar 190) b) 5 := (cl _ (by omega)).trans (by rw [if_neg (by omega), if_neg (by omega)]; first | done | rfl)
          have o6 : oV (hq_g ar1 190) (oI (hq_g ar 190) b) 6 = oV (hq_g ar 190) (oI (hq_g ar 190) b) 6 := (cl _ (by omega)).trans (by rw [if_neg (by omega), if_neg (by omega)]; first | done | rfl)
          have o7 : oV (hq_g ar1 190) (oI (hq_g ar 190) b) 7 = oV (hq_g ar 190) (oI (hq_g ar 190) b) 7 := (cl _ (by omega)).trans (by rw [if_neg (by omega), if_neg (by omega)]; first | done | rfl)
          have o8 : oV (hq_g ar1 190) (oI (hq_g ar 190) b) 8 = oV (hq_g ar 190) (oI (hq_g ar 190) b) 8 := (cl _ (by omega)).trans (by rw [if_neg (by omega), if_neg (by omega)]; first | done | rfl)
          have o9 : oV (hq_g ar1 190) (oI (hq_g ar 190) b) 9 = oV (hq_g ar 190) (oI (hq_g ar 190) b) 9 := (cl _ (by omega)).trans (by rw [if_neg (by omega), if_neg (by omega)]; first | done | rfl)
          have o10 : oV (hq_g ar1 190) (oI (hq_g ar 190) b) 10 = d := (cl _ (by omega)).trans (by rw [if_neg (by omega), if_pos (by omega)])
          have o11 : oV (hq_g ar1 190) (oI (hq_g ar 190) b) 11 = oV (hq_g ar 190) (oI (hq_g ar 190) b) 11 := (cl _ (by omega)).trans (by rw [if_neg (by omega), if_neg (by omega)]; first | done | rfl)
          have o12 : oV (hq_g ar1 190) (oI (hq_g ar 190) b) 12 = oV (hq_g ar 190) (oI (hq_g ar 190) b) 12 := (cl _ (by omega)).trans (by rw [if_neg (by omega), if_neg (by omega)]; first | done | rfl)
          have o13 : oV (hq_g ar1 190) (oI (hq_g ar 190) b) 13 = oV (hq_g ar 190) (oI (hq_g ar 190) b) 13 := (cl _ (by omega)).trans (by rw [if_neg (by omega), if_neg (by omega)]; first | done | rfl)
          have o14 : oV (hq_g ar1 190) (oI (hq_g ar 190) b) 14 = 0 := (cl _ (by omega)).trans (by rw [if_pos (by omega)])
          have o15 : oV (hq_g ar1 190) (oI (hq_g ar 190) b) 15 = oV (hq_g ar 190) (oI (hq_g ar 190) b) 15 := (cl _ (by omega)).trans (by rw [if_neg (by omega), if_neg (by omega)]; first | done | rfl)
          have F1 : rr_f (hq_g ar1 190) g1 (oI (hq_g ar 190) b) := by
            rw [← hg1]
            exact rr_f.mk (by rw [mo_pt_f (by decide), mo_pt_f (by decide), o3]; exact f.f3) (by rw [mo_pt_f (by decide), mo_pt_f (by decide), o4]; exact f.f4) (by rw [mo_pt_f (by decide), mo_pt_f (by decide), o5]; exact f.f5) (by rw [mo_pt_f (by decide), mo_pt_f (by decide), o6]; exact f.f6) (by rw [mo_pt_f (by decide), mo_pt_f (by decide), o9]; exact f.f7) (by show _ = _; rw [mo_pt_f (by decide), mo_pt_at, o10]) (by rw [mo_pt_f (by decide), mo_pt_f (by decide), o11]; exact f.f9) (by show _ = _; rw [mo_pt_at, o14]) (by rw [mo_pt_f (by decide), mo_pt_f (by decide), o15]; exact f.f11) (by rw [mo_pt_f (by decide), mo_pt_f (by decide), o12]; exact f.f12) (by rw [mo_pt_f (by decide), mo_pt_f (by decide), o13]; exact f.f13)
          have G1 : rr_r (hq_g ar1 190) (oI (hq_g ar 190) b) := rr_r.mk (by rw [o3]; exact g.r3) (by rw [o4]; exact g.r4) (by rw [o5]; exact g.r5) (by rw [o9]; exact g.r9) (by rw [o10]; exact (by omega)) (by rw [o11]; exact g.r11) (by rw [o12]; exact g.r12) (by rw [o13]; exact g.r13) (by rw [o14, o10]; exact Or.inl rfl) (by rw [o15, o11]; exact g.r15)
          have hg : ∀ a f, (a ≠ (oI (hq_g ar 190) b) ∨ f < 3) → g1 a f = mo_g ar a f := by
            rw [← hg1]
            intro a f h
            rcases h with h | h
            · rw [mo_pt_e h, mo_pt_e h]
            · rw [mo_pt_f (by omega), mo_pt_f (by omega)]
          have hcc : ∀ i, 0 ≤ i → (i ≤ 401 + (oI (hq_g ar 190) b) * 16 + 2 ∨ 401 + (oI (hq_g ar 190) b) * 16 + 16 ≤ i) → hq_g ar1 190 i = hq_g ar 190 i := fun i i0 h => by rw [cl i i0, if_neg (by omega), if_neg (by omega)]
          have K1 : mo_K g1 := by
            rw [← hg1]
            exact mo_pt_K (mo_pt_K (mo_g_K ar) hd) (by omega)
          exact ⟨rfl, _, fld_fin n5 X F cn rm E1 b0 b1 hcc o7 o8 hg F1 G1 K1 hdd Ht F.kl F.o1 rfl m1 rt⟩
        · subst e
          refine (wr_dateV L xs H (ev_ddate0a L xs H X.w X.h7 (by omega) X.h5 Nn b0 b1 hq hd hk hu hc x y)).mono ?_
          rintro o s ⟨rfl, ad1, z1, ar1, H1, E1, cl, m1⟩
          obtain ⟨mh1, gg, e23, M1, S1, e26⟩ := X.mid E1
          refine ⟨0, by decide, rfl, ⟨_, _, _, _, H1⟩, (ev_mdate0a L xs H1 mh1 M1 b0 b1 hq hd hk hu hc ok y).mono ?_⟩
          rintro o t ⟨rfl, ⟨z2, ar2, hdd, Ht⟩, rt⟩
          rw [gg, if_pos (Or.inl y), show (10 : Int) + 1 = 11 from rfl, show (8 : Int) + 1 = 9 from rfl] at hdd
          generalize hg1 : mo_pt (mo_pt (mo_g ar) (oI (hq_g ar 190) b) (9) (d)) (oI (hq_g ar 190) b) (11) (0) = g1 at hdd
          have o3 : oV (hq_g ar1 190) (oI (hq_g ar 190) b) 3 = oV (hq_g ar 190) (oI (hq_g ar 190) b) 3 := (cl _ (by omega)).trans (by rw [if_neg (by omega), if_neg (by omega)]; first | done | rfl)
          have o4 : oV (hq_g ar1 190) (oI (hq_g ar 190) b) 4 = oV (hq_g ar 190) (oI (hq_g ar 190) b) 4 := (cl _ (by omega)).trans (by rw [if_neg (by omega), if_neg (by omega)]; first | done | rfl)
          have o5 : oV (hq_g ar1 190) (oI (hq_g ar 190) b) 5 = oV (hq_g ar 190) (oI (hq_g ar 190) b) 5 := (cl _ (by omega)).trans (by rw [if_neg (by omega), if_neg (by omega)]; first | done | rfl)
          have o6 : oV (hq_g ar1 190) (oI (hq_g ar 190) b) 6 = oV (hq_g ar 190) (oI (hq_g ar 190) b) 6 := (cl _ (by omega)).trans (by rw [if_neg (by omega), if_neg (by omega)]; first | done | rfl)
          have o7 : oV (hq_g ar1 190) (oI (hq_g ar 190) b) 7 = oV (hq_g ar 190) (oI (hq_g ar 190) b) 7 := (cl _ (by omega)).trans (by rw [if_neg (by omega), if_neg (by omega)]; first | done | rfl)
          have o8 : oV (hq_g ar1 190) (oI (hq_g ar 190) b) 8 = oV (hq_g ar 190) (oI (hq_g ar 190) b) 8 := (cl _ (by omega)).trans (by rw [if_neg (by omega), if_neg (by omega)]; first | done | rfl)
          have o9 : oV (hq_g ar1 190) (oI (hq_g ar 190) b) 9 = oV (hq_g ar 190) (oI (hq_g ar 190) b) 9 := (cl _ (by omega)).trans (by rw [if_neg (by omega), if_neg (by omega)]; first | done | rfl)
          have o10 : oV (hq_g ar1 190) (oI (hq_g ar 190) b) 10 = oV (hq_g ar 190) (oI (hq_g ar 190) b) 10 := (cl _ (by omega)).trans (by rw [if_neg (by omega), if_neg (by omega)]; first | done | rfl)
          have o11 : oV (hq_g ar1 190) (oI (hq_g ar 190) b) 11 = d := (cl _ (by omega)).trans (by rw [if_neg (by omega), if_pos (by omega)])
          have o12 : oV (hq_g ar1 190) (oI (hq_g ar 190) b) 12 = oV (hq_g ar 190) (oI (hq_g ar 190) b) 12 := (cl _ (by omega)).trans (by rw [if_neg (by omega), if_neg (by omega)]; first | done | rfl)
          have o13 : oV (hq_g ar1 190) (oI (hq_g ar 190) b) 13 = oV (hq_g ar 190) (oI (hq_g ar 190) b) 13 := (cl _ (by omega)).trans (by rw [if_neg (by omega), if_neg (by omega)]; first | done | rfl)
          have o14 : oV (hq_g ar1 190) (oI (hq_g ar 190) b) 14 = oV (hq_g ar 190) (oI (hq_g ar 190) b) 14 := (cl _ (by omega)).trans (by rw [if_neg (by omega), if_neg (by omega)]; first | done | rfl)
          have o15 : oV (hq_g ar1 190) (oI (hq_g ar 190) b) 15 = 0 := (cl _ (by omega)).trans (by rw [if_pos (by omega)])
          have F1 : rr_f (hq_g ar1 190) g1 (oI (hq_g ar 190) b) := by
            rw [← hg1]
            exact rr_f.mk (by rw [mo_pt_f (by decide), mo_pt_f (by decide), o3]; exact f.f3) (by rw [mo_pt_f (by decide), mo_pt_f (by decide), o4]; exact f.f4) (by rw [mo_pt_f (by decide), mo_pt_f (by decide), o5]; exact f.f5) (by rw [mo_pt_f (by decide), mo_pt_f (by decide), o6]; exact f.f6) (by rw [mo_pt_f (by decide), mo_pt_f (by decide), o9]; exact f.f7) (by rw [mo_pt_f (by decide), mo_pt_f (by decide), o10]; exact f.f8) (by show _ = _; rw [mo_pt_f (by decide), mo_pt_at, o11]) (by rw [mo_pt_f (by decide), mo_pt_f (by decide), o14]; exact f.f10) (by show _ = _; rw [mo_pt_at, o15]) (by rw [mo_pt_f (by decide), mo_pt_f (by decide), o12]; exact f.f12) (by rw [mo_pt_f (by decide), mo_pt_f (by decide), o13]; exact f.f13)
          have G1 : rr_r (hq_g ar1 190) (oI (hq_g ar 190) b) := rr_r.mk (by rw [o3]; exact g.r3) (by rw [o4]; exact g.r4) (by rw [o5]; exact g.r5) (by rw [o9]; exact g.r9) (by rw [o10]; exact g.r10) (by rw [o11]; exact (by omega)) (by rw [o12]; exact g.r12) (by rw [o13]; exact g.r13) (by rw [o14, o10]; exact g.r14) (by rw [o15, o11]; exact Or.inl rfl)
          have hg : ∀ a f, (a ≠ (oI (hq_g ar 190) b) ∨ f < 3) → g1 a f = mo_g ar a f := by
            rw [← hg1]
            intro a f h
            rcases h with h | h
            · rw [mo_pt_e h, mo_pt_e h]
            · rw [mo_pt_f (by omega), mo_pt_f (by omega)]
          have hcc : ∀ i, 0 ≤ i → (i ≤ 401 + (oI (hq_g ar 190) b) * 16 + 2 ∨ 401 + (oI (hq_g ar 190) b) * 16 + 16 ≤ i) → hq_g ar1 190 i = hq_g ar 190 i := fun i i0 h => by rw [cl i i0, if_neg (by omega), if_neg (by omega)]
          have K1 : mo_K g1 := by
            rw [← hg1]
            exact mo_pt_K (mo_pt_K (mo_g_K ar) hd) (by omega)
          exact ⟨rfl, _, fld_fin n5 X F cn rm E1 b0 b1 hcc o7 o8 hg F1 G1 K1 hdd Ht F.kl F.o1 rfl m1 rt⟩
      · by_cases w : 0 ≤ d ∧ d ≤ 3652058
        · by_cases v : (k = 0 ∨ (1 ≤ k ∧ k ≤ 3) ∧ (0 ≤ u ∧ u ≤ 3) ∧ (1 ≤ c ∧ c ≤ 99))
          · have ok : ((0 ≤ q ∧ q ≤ 1) ∧ (d = -1 ∨ (0 ≤ d ∧ d ≤ 3652058) ∧ (0 ≤ k ∧ k ≤ 3) ∧ (k = 0 ∨ (0 ≤ u ∧ u ≤ 3) ∧ (1 ≤ c ∧ c ≤ 99)))) := by omega
            by_cases kz : k = 0
            · skip
              rcases (show q = 0 ∨ q = 1 by omega) with e | e
              · subst e
                refine (wr_dateV L xs H (ev_ddate0b L xs H X.w X.h7 (by omega) X.h5 Nn b0 b1 hq hd hk hu hc x y w v)).mono ?_
                rintro o s ⟨rfl, ad1, z1, ar1, H1, E1, cl, m1⟩
                rw [if_pos kz] at cl
                obtain ⟨mh1, gg, e23, M1, S1, e26⟩ := X.mid E1
                refine ⟨0, by decide, rfl, ⟨_, _, _, _, H1⟩, (ev_mdate0b L xs H1 mh1 M1 b0 b1 hq hd hk hu hc ok y kz).mono ?_⟩
                rintro o t ⟨rfl, ⟨z2, ar2, hdd, Ht⟩, rt⟩
                rw [gg, if_pos (Or.inr kz), show (10 : Int) + 0 = 10 from rfl, show (8 : Int) + 0 = 8 from rfl] at hdd
                generalize hg1 : mo_pt (mo_pt (mo_g ar) (oI (hq_g ar 190) b) (8) (d)) (oI (hq_g ar 190) b) (10) (0) = g1 at hdd
                have o3 : oV (hq_g ar1 190) (oI (hq_g ar 190) b) 3 = oV (hq_g ar 190) (oI (hq_g ar 190) b) 3 := (cl _ (by omega)).trans (by rw [if_neg (by omega), if_neg (by omega)]; first | done | rfl)
                have o4 : oV (hq_g ar1 190) (oI (hq_g ar 190) b) 4 = oV (hq_g ar 190) (oI (hq_g ar 190) b) 4 := (cl _ (by omega)).trans (by rw [if_neg (by omega), if_neg (by omega)]; first | done | rfl)
                have o5 : oV (hq_g ar1 190) (oI (hq_g ar 190) b) 5 = oV (hq_g ar 190) (oI (hq_g ar 190) b) 5 := (cl _ (by omega)).trans (by rw [if_neg (by omega), if_neg (by omega)]; first | done | rfl)
                have o6 : oV (hq_g ar1 190) (oI (hq_g ar 190) b) 6 = oV (hq_g ar 190) (oI (hq_g ar 190) b) 6 := (cl _ (by omega)).trans (by rw [if_neg (by omega), if_neg (by omega)]; first | done | rfl)
                have o7 : oV (hq_g ar1 190) (oI (hq_g ar 190) b) 7 = oV (hq_g ar 190) (oI (hq_g ar 190) b) 7 := (cl _ (by omega)).trans (by rw [if_neg (by omega), if_neg (by omega)]; first | done | rfl)
                have o8 : oV (hq_g ar1 190) (oI (hq_g ar 190) b) 8 = oV (hq_g ar 190) (oI (hq_g ar 190) b) 8 := (cl _ (by omega)).trans (by rw [if_neg (by omega), if_neg (by omega)]; first | done | rfl)
                have o9 : oV (hq_g ar1 190) (oI (hq_g ar 190) b) 9 = oV (hq_g ar 190) (oI (hq_g ar 190) b) 9 := (cl _ (by omega)).trans (by rw [if_neg (by omega), if_neg (by omega)]; first | done | rfl)
                have o10 : oV (hq_g ar1 190) (oI (hq_g ar 190) b) 10 = d := (cl _ (by omega)).trans (by rw [if_neg (by omega), if_pos (by omega)])
                have o11 : oV (hq_g ar1 190) (oI (hq_g ar 190) b) 11 = oV (hq_g ar 190) (oI (hq_g ar 190) b) 11 := (cl _ (by omega)).trans (by rw [if_neg (by omega), if_neg (by omega)]; first | done | rfl)
                have o12 : oV (hq_g ar1 190) (oI (hq_g ar 190) b) 12 = oV (hq_g ar 190) (oI (hq_g ar 190) b) 12 := (cl _ (by omega)).trans (by rw [if_neg (by omega), if_neg (by omega)]; first | done | rfl)
                have o13 : oV (hq_g ar1 190) (oI (hq_g ar 190) b) 13 = oV (hq_g ar 190) (oI (hq_g ar 190) b) 13 := (cl _ (by omega)).trans (by rw [if_neg (by omega), if_neg (by omega)]; first | done | rfl)
                have o14 : oV (hq_g ar1 190) (oI (hq_g ar 190) b) 14 = 0 := (cl _ (by omega)).trans (by rw [if_pos (by omega)])
                have o15 : oV (hq_g ar1 190) (oI (hq_g ar 190) b) 15 = oV (hq_g ar 190) (oI (hq_g ar 190) b) 15 := (cl _ (by omega)).trans (by rw [if_neg (by omega), if_neg (by omega)]; first | done | rfl)
                have F1 : rr_f (hq_g ar1 190) g1 (oI (hq_g ar 190) b) := by
                  rw [← hg1]
                  exact rr_f.mk (by rw [mo_pt_f (by decide), mo_pt_f (by decide), o3]; exact f.f3) (by rw [mo_pt_f (by decide), mo_pt_f (by decide), o4]; exact f.f4) (by rw [mo_pt_f (by decide), mo_pt_f (by decide), o5]; exact f.f5) (by rw [mo_pt_f (by decide), mo_pt_f (by decide), o6]; exact f.f6) (by rw [mo_pt_f (by decide), mo_pt_f (by decide), o9]; exact f.f7) (by show _ = _; rw [mo_pt_f (by decide), mo_pt_at, o10]) (by rw [mo_pt_f (by decide), mo_pt_f (by decide), o11]; exact f.f9) (by show _ = _; rw [mo_pt_at, o14]) (by rw [mo_pt_f (by decide), mo_pt_f (by decide), o15]; exact f.f11) (by rw [mo_pt_f (by decide), mo_pt_f (by decide), o12]; exact f.f12) (by rw [mo_pt_f (by decide), mo_pt_f (by decide), o13]; exact f.f13)
                have G1 : rr_r (hq_g ar1 190) (oI (hq_g ar 190) b) := rr_r.mk (by rw [o3]; exact g.r3) (by rw [o4]; exact g.r4) (by rw [o5]; exact g.r5) (by rw [o9]; exact g.r9) (by rw [o10]; exact (by omega)) (by rw [o11]; exact g.r11) (by rw [o12]; exact g.r12) (by rw [o13]; exact g.r13) (by rw [o14, o10]; exact Or.inl rfl) (by rw [o15, o11]; exact g.r15)
                have hg : ∀ a f, (a ≠ (oI (hq_g ar 190) b) ∨ f < 3) → g1 a f = mo_g ar a f := by
                  rw [← hg1]
                  intro a f h
                  rcases h with h | h
                  · rw [mo_pt_e h, mo_pt_e h]
                  · rw [mo_pt_f (by omega), mo_pt_f (by omega)]
                have hcc : ∀ i, 0 ≤ i → (i ≤ 401 + (oI (hq_g ar 190) b) * 16 + 2 ∨ 401 + (oI (hq_g ar 190) b) * 16 + 16 ≤ i) → hq_g ar1 190 i = hq_g ar 190 i := fun i i0 h => by rw [cl i i0, if_neg (by omega), if_neg (by omega)]
                have K1 : mo_K g1 := by
                  rw [← hg1]
                  exact mo_pt_K (mo_pt_K (mo_g_K ar) hd) (by omega)
                exact ⟨rfl, _, fld_fin n5 X F cn rm E1 b0 b1 hcc o7 o8 hg F1 G1 K1 hdd Ht F.kl F.o1 rfl m1 rt⟩
              · subst e
                refine (wr_dateV L xs H (ev_ddate0b L xs H X.w X.h7 (by omega) X.h5 Nn b0 b1 hq hd hk hu hc x y w v)).mono ?_
                rintro o s ⟨rfl, ad1, z1, ar1, H1, E1, cl, m1⟩
                rw [if_pos kz] at cl
                obtain ⟨mh1, gg, e23, M1, S1, e26⟩ := X.mid E1
                refine ⟨0, by decide, rfl, ⟨_, _, _, _, H1⟩, (ev_mdate0b L xs H1 mh1 M1 b0 b1 hq hd hk hu hc ok y kz).mono ?_⟩
                rintro o t ⟨rfl, ⟨z2, ar2, hdd, Ht⟩, rt⟩
                rw [gg, if_pos (Or.inr kz), show (10 : Int) + 1 = 11 from rfl, show (8 : Int) + 1 = 9 from rfl] at hdd
                generalize hg1 : mo_pt (mo_pt (mo_g ar) (oI (hq_g ar 190) b) (9) (d)) (oI (hq_g ar 190) b) (11) (0) = g1 at hdd
                have o3 : oV (hq_g ar1 190) (oI (hq_g ar 190) b) 3 = oV (hq_g ar 190) (oI (hq_g ar 190) b) 3 := (cl _ (by omega)).trans (by rw [if_neg (by omega), if_neg (by omega)]; first | done | rfl)
                have o4 : oV (hq_g ar1 190) (oI (hq_g ar 190) b) 4 = oV (hq_g ar 190) (oI (hq_g ar 190) b) 4 := (cl _ (by omega)).trans (by rw [if_neg (by omega), if_neg (by omega)]; first | done | rfl)
                have o5 : oV (hq_g ar1 190) (oI (hq_g ar 190) b) 5 = oV (hq_g ar 190) (oI (hq_g ar 190) b) 5 := (cl _ (by omega)).trans (by rw [if_neg (by omega), if_neg (by omega)]; first | done | rfl)
                have o6 : oV (hq_g ar1 190) (oI (hq_g ar 190) b) 6 = oV (hq_g ar 190) (oI (hq_g ar 190) b) 6 := (cl _ (by omega)).trans (by rw [if_neg (by omega), if_neg (by omega)]; first | done | rfl)
                have o7 : oV (hq_g ar1 190) (oI (hq_g ar 190) b) 7 = oV (hq_g ar 190) (oI (hq_g ar 190) b) 7 := (cl _ (by omega)).trans (by rw [if_neg (by omega), if_neg (by omega)]; first | done | rfl)
                have o8 : oV (hq_g ar1 190) (oI (hq_g ar 190) b) 8 = oV (hq_g ar 190) (oI (hq_g ar 190) b) 8 := (cl _ (by omega)).trans (by rw [if_neg (by omega), if_neg (by omega)]; first | done | rfl)
                have o9 : oV (hq_g ar1 190) (oI (hq_g ar 190) b) 9 = oV (hq_g ar 190) (oI (hq_g ar 190) b) 9 := (cl _ (by omega)).trans (by rw [if_neg (by omega), if_neg (by omega)]; first | done | rfl)
                have o10 : oV (hq_g ar1 190) (oI (hq_g ar 190) b) 10 = oV (hq_g ar 190) (oI (hq_g ar 190) b) 10 := (cl _ (by omega)).trans (by rw [if_neg (by omega), if_neg (by omega)]; first | done | rfl)
                have o11 : oV (hq_g ar1 190) (oI (hq_g ar 190) b) 11 = d := (cl _ (by omega)).trans (by rw [if_neg (by omega), if_pos (by omega)])
                have o12 : oV (hq_g ar1 190) (oI (hq_g ar 190) b) 12 = oV (hq_g ar 190) (oI (hq_g ar 190) b) 12 := (cl _ (by omega)).trans (by rw [if_neg (by omega), if_neg (by omega)]; first | done | rfl)
                have o13 : oV (hq_g ar1 190) (oI (hq_g ar 190) b) 13 = oV (hq_g ar 190) (oI (hq_g ar 190) b) 13 := (cl _ (by omega)).trans (by rw [if_neg (by omega), if_neg (by omega)]; first | done | rfl)
                have o14 : oV (hq_g ar1 190) (oI (hq_g ar 190) b) 14 = oV (hq_g ar 190) (oI (hq_g ar 190) b) 14 := (cl _ (by omega)).trans (by rw [if_neg (by omega), if_neg (by omega)]; first | done | rfl)
                have o15 : oV (hq_g ar1 190) (oI (hq_g ar 190) b) 15 = 0 := (cl _ (by omega)).trans (by rw [if_pos (by omega)])
                have F1 : rr_f (hq_g ar1 190) g1 (oI (hq_g ar 190) b) := by
                  rw [← hg1]
                  exact rr_f.mk (by rw [mo_pt_f (by decide), mo_pt_f (by decide), o3]; exact f.f3) (by rw [mo_pt_f (by decide), mo_pt_f (by decide), o4]; exact f.f4) (by rw [mo_pt_f (by decide), mo_pt_f (by decide), o5]; exact f.f5) (by rw [mo_pt_f (by decide), mo_pt_f (by decide), o6]; exact f.f6) (by rw [mo_pt_f (by decide), mo_pt_f (by decide), o9]; exact f.f7) (by rw [mo_pt_f (by decide), mo_pt_f (by decide), o10]; exact f.f8) (by show _ = _; rw [mo_pt_f (by decide), mo_pt_at, o11]) (by rw [mo_pt_f (by decide), mo_pt_f (by decide), o14]; exact f.f10) (by show _ = _; rw [mo_pt_at, o15]) (by rw [mo_pt_f (by decide), mo_pt_f (by decide), o12]; exact f.f12) (by rw [mo_pt_f (by decide), mo_pt_f (by decide), o13]; exact f.f13)
                have G1 : rr_r (hq_g ar1 190) (oI (hq_g ar 190) b) := rr_r.mk (by rw [o3]; exact g.r3) (by rw [o4]; exact g.r4) (by rw [o5]; exact g.r5) (by rw [o9]; exact g.r9) (by rw [o10]; exact g.r10) (by rw [o11]; exact (by omega)) (by rw [o12]; exact g.r12) (by rw [o13]; exact g.r13) (by rw [o14, o10]; exact g.r14) (by rw [o15, o11]; exact Or.inl rfl)
                have hg : ∀ a f, (a ≠ (oI (hq_g ar 190) b) ∨ f < 3) → g1 a f = mo_g ar a f := by
                  rw [← hg1]
                  intro a f h
                  rcases h with h | h
                  · rw [mo_pt_e h, mo_pt_e h]
                  · rw [mo_pt_f (by omega), mo_pt_f (by omega)]
                have hcc : ∀ i, 0 ≤ i → (i ≤ 401 + (oI (hq_g ar 190) b) * 16 + 2 ∨ 401 + (oI (hq_g ar 190) b) * 16 + 16 ≤ i) → hq_g ar1 190 i = hq_g ar 190 i := fun i i0 h => by rw [cl i i0, if_neg (by omega), if_neg (by omega)]
                have K1 : mo_K g1 := by
                  rw [← hg1]
                  exact mo_pt_K (mo_pt_K (mo_g_K ar) hd) (by omega)
                exact ⟨rfl, _, fld_fin n5 X F cn rm E1 b0 b1 hcc o7 o8 hg F1 G1 K1 hdd Ht F.kl F.o1 rfl m1 rt⟩
            · skip
              rcases (show q = 0 ∨ q = 1 by omega) with e | e
              · subst e
                refine (wr_dateV L xs H (ev_ddate0b L xs H X.w X.h7 (by omega) X.h5 Nn b0 b1 hq hd hk hu hc x y w v)).mono ?_
                rintro o s ⟨rfl, ad1, z1, ar1, H1, E1, cl, m1⟩
                rw [if_neg kz] at cl
                obtain ⟨mh1, gg, e23, M1, S1, e26⟩ := X.mid E1
                refine ⟨0, by decide, rfl, ⟨_, _, _, _, H1⟩, (ev_mdate0c L xs H1 mh1 M1 b0 b1 hq hd hk hu hc ok y kz).mono ?_⟩
                rintro o t ⟨rfl, ⟨z2, ar2, hdd, Ht⟩, rt⟩
                rw [gg, if_neg (fun h => h.elim y kz), show (10 : Int) + 0 = 10 from rfl, show (8 : Int) + 0 = 8 from rfl] at hdd
                generalize hg1 : mo_pt (mo_pt (mo_g ar) (oI (hq_g ar 190) b) (8) (d)) (oI (hq_g ar 190) b) (10) (k + 10 * u + 100 * c) = g1 at hdd
                have o3 : oV (hq_g ar1 190) (oI (hq_g ar 190) b) 3 = oV (hq_g ar 190) (oI (hq_g ar 190) b) 3 := (cl _ (by omega)).trans (by rw [if_neg (by omega), if_neg (by omega)]; first | done | rfl)
                have o4 : oV (hq_g ar1 190) (oI (hq_g ar 190) b) 4 = oV (hq_g ar 190) (oI (hq_g ar 190) b) 4 := (cl _ (by omega)).trans (by rw [if_neg (by omega), if_neg (by omega)]; first | done | rfl)
                have o5 : oV (hq_g ar1 190) (oI (hq_g ar 190) b) 5 = oV (hq_g ar 190) (oI (hq_g ar 190) b) 5 := (cl _ (by omega)).trans (by rw [if_neg (by omega), if_neg (by omega)]; first | done | rfl)
                have o6 : oV (hq_g ar1 190) (oI (hq_g ar 190) b) 6 = oV (hq_g ar 190) (oI (hq_g ar 190) b) 6 := (cl _ (by omega)).trans (by rw [if_neg (by omega), if_neg (by omega)]; first | done | rfl)
                have o7 : oV (hq_g ar1 190) (oI (hq_g ar 190) b) 7 = oV (hq_g ar 190) (oI (hq_g ar 190) b) 7 := (cl _ (by omega)).trans (by rw [if_neg (by omega), if_neg (by omega)]; first | done | rfl)
                have o8 : oV (hq_g ar1 190) (oI (hq_g ar 190) b) 8 = oV (hq_g ar 190) (oI (hq_g ar 190) b) 8 := (cl _ (by omega)).trans (by rw [if_neg (by omega), if_neg (by omega)]; first | done | rfl)
                have o9 : oV (hq_g ar1 190) (oI (hq_g ar 190) b) 9 = oV (hq_g ar 190) (oI (hq_g ar 190) b) 9 := (cl _ (by omega)).trans (by rw [if_neg (by omega), if_neg (by omega)]; first | done | rfl)
                have o10 : oV (hq_g ar1 190) (oI (hq_g ar 190) b) 10 = d := (cl _ (by omega)).trans (by rw [if_neg (by omega), if_pos (by omega)])
                have o11 : oV (hq_g ar1 190) (oI (hq_g ar 190) b) 11 = oV (hq_g ar 190) (oI (hq_g ar 190) b) 11 := (cl _ (by omega)).trans (by rw [if_neg (by omega), if_neg (by omega)]; first | done | rfl)
                have o12 : oV (hq_g ar1 190) (oI (hq_g ar 190) b) 12 = oV (hq_g ar 190) (oI (hq_g ar 190) b) 12 := (cl _ (by omega)).trans (by rw [if_neg (by omega), if_neg (by omega)]; first | done | rfl)
                have o13 : oV (hq_g ar1 190) (oI (hq_g ar 190) b) 13 = oV (hq_g ar 190) (oI (hq_g ar 190) b) 13 := (cl _ (by omega)).trans (by rw [if_neg (by omega), if_neg (by omega)]; first | done | rfl)
                have o14 : oV (hq_g ar1 190) (oI (hq_g ar 190) b) 14 = k + 10 * u + 100 * c := (cl _ (by omega)).trans (by rw [if_pos (by omega)])
                have o15 : oV (hq_g ar1 190) (oI (hq_g ar 190) b) 15 = oV (hq_g ar 190) (oI (hq_g ar 190) b) 15 := (cl _ (by omega)).trans (by rw [if_neg (by omega), if_neg (by omega)]; first | done | rfl)
                have F1 : rr_f (hq_g ar1 190) g1 (oI (hq_g ar 190) b) := by
                  rw [← hg1]
                  exact rr_f.mk (by rw [mo_pt_f (by decide), mo_pt_f (by decide), o3]; exact f.f3) (by rw [mo_pt_f (by decide), mo_pt_f (by decide), o4]; exact f.f4) (by rw [mo_pt_f (by decide), mo_pt_f (by decide), o5]; exact f.f5) (by rw [mo_pt_f (by decide), mo_pt_f (by decide), o6]; exact f.f6) (by rw [mo_pt_f (by decide), mo_pt_f (by decide), o9]; exact f.f7) (by show _ = _; rw [mo_pt_f (by decide), mo_pt_at, o10]) (by rw [mo_pt_f (by decide), mo_pt_f (by decide), o11]; exact f.f9) (by show _ = _; rw [mo_pt_at, o14]) (by rw [mo_pt_f (by decide), mo_pt_f (by decide), o15]; exact f.f11) (by rw [mo_pt_f (by decide), mo_pt_f (by decide), o12]; exact f.f12) (by rw [mo_pt_f (by decide), mo_pt_f (by decide), o13]; exact f.f13)
                have G1 : rr_r (hq_g ar1 190) (oI (hq_g ar 190) b) := rr_r.mk (by rw [o3]; exact g.r3) (by rw [o4]; exact g.r4) (by rw [o5]; exact g.r5) (by rw [o9]; exact g.r9) (by rw [o10]; exact (by omega)) (by rw [o11]; exact g.r11) (by rw [o12]; exact g.r12) (by rw [o13]; exact g.r13) (by rw [o14, o10]; exact Or.inr (by omega)) (by rw [o15, o11]; exact g.r15)
                have hg : ∀ a f, (a ≠ (oI (hq_g ar 190) b) ∨ f < 3) → g1 a f = mo_g ar a f := by
                  rw [← hg1]
                  intro a f h
                  rcases h with h | h
                  · rw [mo_pt_e h, mo_pt_e h]
                  · rw [mo_pt_f (by omega), mo_pt_f (by omega)]
                have hcc : ∀ i, 0 ≤ i → (i ≤ 401 + (oI (hq_g ar 190) b) * 16 + 2 ∨ 401 + (oI (hq_g ar 190) b) * 16 + 16 ≤ i) → hq_g ar1 190 i = hq_g ar 190 i := fun i i0 h => by rw [cl i i0, if_neg (by omega), if_neg (by omega)]
                have K1 : mo_K g1 := by
                  rw [← hg1]
                  exact mo_pt_K (mo_pt_K (mo_g_K ar) hd) (by omega)
                exact ⟨rfl, _, fld_fin n5 X F cn rm E1 b0 b1 hcc o7 o8 hg F1 G1 K1 hdd Ht F.kl F.o1 rfl m1 rt⟩
              · subst e
                refine (wr_dateV L xs H (ev_ddate0b L xs H X.w X.h7 (by omega) X.h5 Nn b0 b1 hq hd hk hu hc x y w v)).mono ?_
                rintro o s ⟨rfl, ad1, z1, ar1, H1, E1, cl, m1⟩
                rw [if_neg kz] at cl
                obtain ⟨mh1, gg, e23, M1, S1, e26⟩ := X.mid E1
                refine ⟨0, by decide, rfl, ⟨_, _, _, _, H1⟩, (ev_mdate0c L xs H1 mh1 M1 b0 b1 hq hd hk hu hc ok y kz).mono ?_⟩
                rintro o t ⟨rfl, ⟨z2, ar2, hdd, Ht⟩, rt⟩
                rw [gg, if_neg (fun h => h.elim y kz), show (10 : Int) + 1 = 11 from rfl, show (8 : Int) + 1 = 9 from rfl] at hdd
                generalize hg1 : mo_pt (mo_pt (mo_g ar) (oI (hq_g ar 190) b) (9) (d)) (oI (hq_g ar 190) b) (11) (k + 10 * u + 100 * c) = g1 at hdd
                have o3 : oV (hq_g ar1 190) (oI (hq_g ar 190) b) 3 = oV (hq_g ar 190) (oI (hq_g ar 190) b) 3 := (cl _ (by omega)).trans (by rw [if_neg (by omega), if_neg (by omega)]; first | done | rfl)
                have o4 : oV (hq_g ar1 190) (oI (hq_g ar 190) b) 4 = oV (hq_g ar 190) (oI (hq_g ar 190) b) 4 := (cl _ (by omega)).trans (by rw [if_neg (by omega), if_neg (by omega)]; first | done | rfl)
                have o5 : oV (hq_g ar1 190) (oI (hq_g ar 190) b) 5 = oV (hq_g ar 190) (oI (hq_g ar 190) b) 5 := (cl _ (by omega)).trans (by rw [if_neg (by omega), if_neg (by omega)]; first | done | rfl)
                have o6 : oV (hq_g ar1 190) (oI (hq_g ar 190) b) 6 = oV (hq_g ar 190) (oI (hq_g ar 190) b) 6 := (cl _ (by omega)).trans (by rw [if_neg (by omega), if_neg (by omega)]; first | done | rfl)
                have o7 : oV (hq_g ar1 190) (oI (hq_g ar 190) b) 7 = oV (hq_g ar 190) (oI (hq_g ar 190) b) 7 := (cl _ (by omega)).trans (by rw [if_neg (by omega), if_neg (by omega)]; first | done | rfl)
                have o8 : oV (hq_g ar1 190) (oI (hq_g ar 190) b) 8 = oV (hq_g ar 190) (oI (hq_g ar 190) b) 8 := (cl _ (by omega)).trans (by rw [if_neg (by omega), if_neg (by omega)]; first | done | rfl)
                have o9 : oV (hq_g ar1 190) (oI (hq_g ar 190) b) 9 = oV (hq_g ar 190) (oI (hq_g ar 190) b) 9 := (cl _ (by omega)).trans (by rw [if_neg (by omega), if_neg (by omega)]; first | done | rfl)
                have o10 : oV (hq_g ar1 190) (oI (hq_g ar 190) b) 10 = oV (hq_g ar 190) (oI (hq_g ar 190) b) 10 := (cl _ (by omega)).trans (by rw [if_neg (by omega), if_neg (by omega)]; first | done | rfl)
                have o11 : oV (hq_g ar1 190) (oI (hq_g ar 190) b) 11 = d := (cl _ (by omega)).trans (by rw [if_neg (by omega), if_pos (by omega)])
                have o12 : oV (hq_g ar1 190) (oI (hq_g ar 190) b) 12 = oV (hq_g ar 190) (oI (hq_g ar 190) b) 12 := (cl _ (by omega)).trans (by rw [if_neg (by omega), if_neg (by omega)]; first | done | rfl)
                have o13 : oV (hq_g ar1 190) (oI (hq_g ar 190) b) 13 = oV (hq_g ar 190) (oI (hq_g ar 190) b) 13 := (cl _ (by omega)).trans (by rw [if_neg (by omega), if_neg (by omega)]; first | done | rfl)
                have o14 : oV (hq_g ar1 190) (oI (hq_g ar 190) b) 14 = oV (hq_g ar 190) (oI (hq_g ar 190) b) 14 := (cl _ (by omega)).trans (by rw [if_neg (by omega), if_neg (by omega)]; first | done | rfl)
                have o15 : oV (hq_g ar1 190) (oI (hq_g ar 190) b) 15 = k + 10 * u + 100 * c := (cl _ (by omega)).trans (by rw [if_pos (by omega)])
                have F1 : rr_f (hq_g ar1 190) g1 (oI (hq_g ar 190) b) := by
                  rw [← hg1]
                  exact rr_f.mk (by rw [mo_pt_f (by decide), mo_pt_f (by decide), o3]; exact f.f3) (by rw [mo_pt_f (by decide), mo_pt_f (by decide), o4]; exact f.f4) (by rw [mo_pt_f (by decide), mo_pt_f (by decide), o5]; exact f.f5) (by rw [mo_pt_f (by decide), mo_pt_f (by decide), o6]; exact f.f6) (by rw [mo_pt_f (by decide), mo_pt_f (by decide), o9]; exact f.f7) (by rw [mo_pt_f (by decide), mo_pt_f (by decide), o10]; exact f.f8) (by show _ = _; rw [mo_pt_f (by decide), mo_pt_at, o11]) (by rw [mo_pt_f (by decide), mo_pt_f (by decide), o14]; exact f.f10) (by show _ = _; rw [mo_pt_at, o15]) (by rw [mo_pt_f (by decide), mo_pt_f (by decide), o12]; exact f.f12) (by rw [mo_pt_f (by decide), mo_pt_f (by decide), o13]; exact f.f13)
                have G1 : rr_r (hq_g ar1 190) (oI (hq_g ar 190) b) := rr_r.mk (by rw [o3]; exact g.r3) (by rw [o4]; exact g.r4) (by rw [o5]; exact g.r5) (by rw [o9]; exact g.r9) (by rw [o10]; exact g.r10) (by rw [o11]; exact (by omega)) (by rw [o12]; exact g.r12) (by rw [o13]; exact g.r13) (by rw [o14, o10]; exact g.r14) (by rw [o15, o11]; exact Or.inr (by omega))
                have hg : ∀ a f, (a ≠ (oI (hq_g ar 190) b) ∨ f < 3) → g1 a f = mo_g ar a f := by
                  rw [← hg1]
                  intro a f h
                  rcases h with h | h
                  · rw [mo_pt_e h, mo_pt_e h]
                  · rw [mo_pt_f (by omega), mo_pt_f (by omega)]
                have hcc : ∀ i, 0 ≤ i → (i ≤ 401 + (oI (hq_g ar 190) b) * 16 + 2 ∨ 401 + (oI (hq_g ar 190) b) * 16 + 16 ≤ i) → hq_g ar1 190 i = hq_g ar 190 i := fun i i0 h => by rw [cl i i0, if_neg (by omega), if_neg (by omega)]
                have K1 : mo_K g1 := by
                  rw [← hg1]
                  exact mo_pt_K (mo_pt_K (mo_g_K ar) hd) (by omega)
                exact ⟨rfl, _, fld_fin n5 X F cn rm E1 b0 b1 hcc o7 o8 hg F1 G1 K1 hdd Ht F.kl F.o1 rfl m1 rt⟩
          · exact SV.ref L xs H X F cn rm (by decide) (wr_date2 L xs H (ev_ddate2c L xs H hl Nn b0 b1 hq hd hk hu hc x y w v)) (fun s Hs => ev_mdate2 L xs Hs mh M b0 b1 hq hd hk hu hc (by omega))
        · exact SV.ref L xs H X F cn rm (by decide) (wr_date2 L xs H (ev_ddate2b L xs H hl Nn b0 b1 hq hd hk hu hc x y w)) (fun s Hs => ev_mdate2 L xs Hs mh M b0 b1 hq hd hk hu hc (by omega))
    · exact SV.ref L xs H X F cn rm (by decide) (wr_date2 L xs H (ev_ddate2a L xs H hl Nn b0 b1 hq hd hk hu hc x)) (fun s Hs => ev_mdate2 L xs Hs mh M b0 b1 hq hd hk hu hc (by omega))
  · exact SV.ref L xs H X F cn rm (by decide) (wr_date1 L xs H (ev_ddate1 L xs H hl Nn hp n2)) (fun s Hs => ev_mdate1 L xs Hs mh M hp hq hd hk hu hc n2)
end JJ
