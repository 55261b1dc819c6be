/-! match and agenda of both -/
theorem mo_f3_ne {ar : Nat → Nat × (Nat → Int32)} {E Y T : Int → Int} {r : Nat} (h4 : r ≠ 204) (h5 : r ≠ 205) (h6 : r ≠ 206) : mo_f3 ar E Y T r = ar r := (hq_u_ne h6).trans ((hq_u_ne h5).trans (hq_u_ne h4))
theorem mo_f3_len {ar : Nat → Nat × (Nat → Int32)} {E Y T : Int → Int} (r : Nat) : (mo_f3 ar E Y T r).1 = (ar r).1 := (hq_sf_len _ _ _ r).trans ((hq_sf_len _ _ _ r).trans (hq_sf_len _ _ _ r))
theorem mo_f3_g4 {ar : Nat → Nat × (Nat → Int32)} {E Y T : Int → Int} {i : Int} (i0 : 0 ≤ i) (h : -2147483648 ≤ E i ∧ E i ≤ 2147483647) : hq_g (mo_f3 ar E Y T) 204 i = E i := by
  have e : mo_f3 ar E Y T 204 = hq_sf ar 204 E 204 := rfl
  exact (hq_g_ne e i).trans (hq_sf_g i0 h)
theorem mo_f3_g5 {ar : Nat → Nat × (Nat → Int32)} {E Y T : Int → Int} {i : Int} (i0 : 0 ≤ i) (h : -2147483648 ≤ Y i ∧ Y i ≤ 2147483647) : hq_g (mo_f3 ar E Y T) 205 i = Y i := by
  have e : mo_f3 ar E Y T 205 = hq_sf (hq_sf ar 204 E) 205 Y 205 := rfl
  exact (hq_g_ne e i).trans (hq_sf_g i0 h)
theorem mo_f3_g6 {ar : Nat → Nat × (Nat → Int32)} {E Y T : Int → Int} {i : Int} (i0 : 0 ≤ i) (h : -2147483648 ≤ T i ∧ T i ≤ 2147483647) : hq_g (mo_f3 ar E Y T) 206 i = T i := by
  unfold mo_f3
  exact hq_sf_g i0 h
section JJ
variable (L : Nat) (xs : Nat → Int32)
variable {N : Nat} {σ s t : pm_S} {ad : Nat → Nat} {z z' : Nat → Int} {ar ar' : Nat → Nat × (Nat → Int32)} {lr lr' : Nat → Nat × (Nat → Int64)} {Cs : Int → Int → Int} {k0 : Int} {l0 : Int64}
theorem mq_eq (R : RR (hq_g ar 190) (mo_g ar) (z 8)) {a b c d k : Int} (k0 : 0 ≤ k) (k1 : k < (hq_g ar 190 0)) : mo_mq ar (oI (hq_g ar 190)) (oD (hq_g ar 190)) a b c d k = od_mq (hq_g ar 190) a b c d k := by
  have f := R.F k k0 k1
  have tg : fo_tgs (fun p => mo_g ar ((oI (hq_g ar 190)) p) 6) (oD (hq_g ar 190)) k = fo_tgs (fun p => oV (hq_g ar 190) ((oI (hq_g ar 190)) p) 6) (oD (hq_g ar 190)) k := fo_tg_cg R.N.W (fun p p0 p1 => (R.F p p0 p1).f6) _ k k1
  have z1 := zand_1 (zshr c (oV (hq_g ar 190) ((oI (hq_g ar 190)) k) 4))
  unfold mo_mq od_mq
  rw [tg, f.f4, f.f5]
  by_cases x : zand (zshr c (oV (hq_g ar 190) ((oI (hq_g ar 190)) k) 4)) 1 = 1
  · rw [x]
    simp only [ne_eq, Int.one_ne_zero, not_false_eq_true]
  · have x0 : zand (zshr c (oV (hq_g ar 190) ((oI (hq_g ar 190)) k) 4)) 1 = 0 := by omega
    rw [x0]
    rw [if_neg (fun h => h.2.2.1 rfl), if_neg (fun h => absurd h.2.2.1 (by decide))]
theorem st_match (J : JX N σ k0 l0) (n5 : N ≤ 600) {a : Int} (ha : -2147483648 ≤ a ∧ a ≤ 2147483647) {b : Int} (hb : -2147483648 ≤ b ∧ b ≤ 2147483647) {c : Int} (hc : -2147483648 ≤ c ∧ c ≤ 2147483647) {d : Int} (hd : -2147483648 ≤ d ∧ d ≤ 2147483647) : SD L xs N σ 24 [.ref 0, .int (zI a), .int (zI b), .int (zI c), .int (zI d)] 150 [.ref 199, .int (zI a), .int (zI b), .int (zI c), .int (zI d)] := by
  obtain ⟨ad, z, ar, lr, Cs, H, X, F, cn, e29, el, rm⟩ := J
  have hl := X.w.le
  have Nn := X.rr.N
  have M := X.mr
  have mh := X.mh
  have nm := Nn.nm
  have m4 := Nn.m4
  have n0 := Nn.W.2.1
  have cr := fd_c_r (od_mq (hq_g ar 190) a b c d) (k := (hq_g ar 190 0)) n0
  refine (ev_dmatch L xs H hl Nn (a := a) (b := b) (c := c) (d := d) ha hd F.t8 F.t0 F.l4 F.l5 F.l3).mono ?_
  rintro o s ⟨rfl, ad1, ar1, H1, ho, t8, t0, hf, l4, l5, l6, l7, l8, m1⟩
  have oo : ∀ r, 199 ≤ r → ar1 r = ar r := fun r hr => ho r (by omega) (by omega) (by omega) (by omega)
  have gg : mo_g ar1 = mo_g ar := by
    funext e f
    unfold mo_g
    exact hq_g_ne (oo 200 (by decide)) _
  have mh1 : mo_H (hq_u z 9 (fd_c (od_mq (hq_g ar 190) a b c d) (hq_g ar 190 0))) ar1 := mh.cg (fun r r0 _ => by rw [oo r (by omega)]) mh.n0 mh.n1 mh.o0 mh.o1 mh.op mh.e0 mh.e1
  have M1 : mo_R (mo_g ar1) (hq_u z 9 (fd_c (od_mq (hq_g ar 190) a b c d) (hq_g ar 190 0)) 23) (hq_g ar 190 0) (oI (hq_g ar 190)) (oD (hq_g ar 190)) := by
    rw [gg]
    exact M
  have qe : ∀ u, 0 ≤ u → u < (hq_g ar 190 0) → mo_mq ar1 (oI (hq_g ar 190)) (oD (hq_g ar 190)) a b c d u = od_mq (hq_g ar 190) a b c d u := fun u u0 u1 => by
    rw [← mq_eq X.rr u0 u1]
    unfold mo_mq
    rw [gg]
  have ce : fd_c (mo_mq ar1 (oI (hq_g ar 190)) (oD (hq_g ar 190)) a b c d) (hq_g ar 190 0) = fd_c (od_mq (hq_g ar 190) a b c d) (hq_g ar 190 0) := fd_c_cg qe
  refine ⟨fd_c (od_mq (hq_g ar 190) a b c d) (hq_g ar 190 0), by omega, rfl, ⟨_, _, _, _, H1⟩, (ev_mmatch L xs H1 mh1 M1 (a := a) (b := b) (c := c) (d := d) ha hd).mono ?_⟩
  rintro o t ⟨rfl, Ht, rt⟩
  rw [ce] at Ht ⊢
  have nt : (((hq_g ar 190 0).toNat : Nat) : Int) = (hq_g ar 190 0) := by omega
  have len : ∀ r, (mo_f3 (mo_or ar1 (oI (hq_g ar 190)) (hq_g ar 190 0)) (fd_a (mo_mq ar1 (oI (hq_g ar 190)) (oD (hq_g ar 190)) a b c d) (oI (hq_g ar 190)) (hq_g ar1 204) (hq_g ar 190 0).toNat) (fd_a (mo_mq ar1 (oI (hq_g ar 190)) (oD (hq_g ar 190)) a b c d) (fun _ => -1) (hq_g ar1 205) (hq_g ar 190 0).toNat) (fd_a (mo_mq ar1 (oI (hq_g ar 190)) (oD (hq_g ar 190)) a b c d) (fun _ => -1) (hq_g ar1 206) (hq_g ar 190 0).toNat) r).1 = (ar1 r).1 := fun r => (mo_f3_len r).trans (mo_or_len r)
  have ee : ∀ r, r ≠ 203 → r ≠ 204 → r ≠ 205 → r ≠ 206 → mo_f3 (mo_or ar1 (oI (hq_g ar 190)) (hq_g ar 190 0)) (fd_a (mo_mq ar1 (oI (hq_g ar 190)) (oD (hq_g ar 190)) a b c d) (oI (hq_g ar 190)) (hq_g ar1 204) (hq_g ar 190 0).toNat) (fd_a (mo_mq ar1 (oI (hq_g ar 190)) (oD (hq_g ar 190)) a b c d) (fun _ => -1) (hq_g ar1 205) (hq_g ar 190 0).toNat) (fd_a (mo_mq ar1 (oI (hq_g ar 190)) (oD (hq_g ar 190)) a b c d) (fun _ => -1) (hq_g ar1 206) (hq_g ar 190 0).toNat) r = ar1 r := fun r h3 h4 h5 h6 => (mo_f3_ne h4 h5 h6).trans (mo_or_ne h3)
  refine ⟨rfl, _, _, jx_q X cn rm Ht (fun k hk => by rw [hq_u_ne (by omega), hq_u_ne (by omega), hq_u_ne (by omega), hq_u_ne (by omega)]) (fun r hr => (ee r (by omega) (by omega) (by omega) (by omega)).trans (ho r (by omega) (by omega) (by omega) (by omega))) (fun r r0 r1 => by rw [len r, oo r (by omega)]) (FX.mk F.td F.tr rfl (show 0 ≤ fd_c (od_mq (hq_g ar 190) a b c d) (hq_g ar 190 0) ∧ fd_c (od_mq (hq_g ar 190) a b c d) (hq_g ar 190 0) ≤ 800 by omega) (by rw [len]; exact l8) (fun i i0 i1 => ?_) (by rw [len, len]; exact l4) (by rw [len, len]; exact l5) (by rw [len]; exact ⟨l6, l7⟩) F.kl F.o1 (by rw [len, ho 189 (by decide) (by decide) (by decide) (by decide)]; exact F.l9) (by rw [len]; exact t8) (by rw [hq_g_ne (ee 198 (by decide) (by decide) (by decide) (by decide))]; exact t0) (fun r hr => ?_) (by rw [len, oo 207 (by decide)]; exact F.pl)) (hq_rm_tr m1 (hq_rm_len rt len rfl))⟩
  · have i1 : i < fd_c (od_mq (hq_g ar 190) a b c d) (hq_g ar 190 0) := i1
    have h := hf i i0 i1
    have i2 : i < fd_c (mo_mq ar1 (oI (hq_g ar 190)) (oD (hq_g ar 190)) a b c d) ((hq_g ar 190 0).toNat : Nat) := by rw [nt, ce]; exact i1
    obtain ⟨u, u0, u1, u2, u3⟩ := fd_a_ex (mo_mq ar1 (oI (hq_g ar 190)) (oD (hq_g ar 190)) a b c d) (oI (hq_g ar 190)) (hq_g ar1 204) (hq_g ar 190 0).toNat i i0 i2
    obtain ⟨x, x0, x1, x2, x3⟩ := fd_a_ex (mo_mq ar1 (oI (hq_g ar 190)) (oD (hq_g ar 190)) a b c d) (fun _ => -1) (hq_g ar1 205) (hq_g ar 190 0).toNat i i0 i2
    obtain ⟨y, y0, y1, y2, y3⟩ := fd_a_ex (mo_mq ar1 (oI (hq_g ar 190)) (oD (hq_g ar 190)) a b c d) (fun _ => -1) (hq_g ar1 206) (hq_g ar 190 0).toNat i i0 i2
    have ir := Nn.J.1 u u0 (by omega)
    have il := Nn.lt u u0 (by omega)
    rw [hq_g_ne (ee 193 (by decide) (by decide) (by decide) (by decide)), hq_g_ne (ee 194 (by decide) (by decide) (by decide) (by decide)), hq_g_ne (ee 195 (by decide) (by decide) (by decide) (by decide)), mo_f3_g4 i0 (by rw [u3]; omega), mo_f3_g5 i0 (by rw [x3]; decide), mo_f3_g6 i0 (by rw [y3]; decide), h.1, h.2.1, h.2.2, x3, y3]
    refine ⟨?_, rfl, rfl⟩
    rw [← fd_a_cg (q := mo_mq ar1 (oI (hq_g ar 190)) (oD (hq_g ar 190)) a b c d) (f := (oI (hq_g ar 190))) (hq_g ar 190 0).toNat (fun u u0 u1 => ⟨qe u u0 (by omega), rfl⟩)]
    exact fd_a_eq _ _ _ _ _ i i0 i2
  · rw [len r]
    by_cases x : r = 193 ∨ r = 194 ∨ r = 195 ∨ r = 198
    · rcases x with x | x | x | x <;> (rw [x] at hr; exact absurd hr (by decide))
    · rw [ho r (by omega) (by omega) (by omega) (by omega)]
      exact F.ob r hr
theorem st_agenda (J : JX N σ k0 l0) (n5 : N ≤ 600) {a : Int} (ha : -2147483648 ≤ a ∧ a ≤ 2147483647) {b : Int} (hb : -2147483648 ≤ b ∧ b ≤ 2147483647) : SD L xs N σ 25 [.ref 0, .int (zI a), .int (zI b)] 153 [.ref 199, .int (zI a), .int (zI b)] := by
  obtain ⟨ad, z, ar, lr, Cs, H, X, F, cn, e29, el, rm⟩ := J
  have hl := X.w.le
  have Nn := X.rr.N
  have M := X.mr
  have mh := X.mh
  have nm := Nn.nm
  have m4 := Nn.m4
  have n0 := Nn.W.2.1
  have cr := fd_c_r (ag_q (fun p => oV (hq_g ar 190) ((oI (hq_g ar 190)) p) 4) (fun p v => oV (hq_g ar 190) ((oI (hq_g ar 190)) p) (10 + v)) (z 0) a b) (k := ((2 * (hq_g ar 190 0).toNat : Nat) : Int)) (by omega)
  have hr : ∀ x, 0 ≤ x → x < (hq_g ar 190 0) → 0 ≤ oV (hq_g ar 190) ((oI (hq_g ar 190)) x) 5 ∧ oV (hq_g ar 190) ((oI (hq_g ar 190)) x) 5 ≤ 3 := fun x x0 x1 => (X.rr.G x x0 x1).r5
  have hdy : ∀ x v, 0 ≤ x → x < (hq_g ar 190 0) → 0 ≤ v → v ≤ 1 → -1 ≤ oV (hq_g ar 190) ((oI (hq_g ar 190)) x) (10 + v) ∧ oV (hq_g ar 190) ((oI (hq_g ar 190)) x) (10 + v) ≤ 3652058 := by
    intro x v x0 x1 v0 v1
    rcases (show v = 0 ∨ v = 1 by omega) with e | e
    · rw [e]
      exact (X.rr.G x x0 x1).r10
    · rw [e]
      exact (X.rr.G x x0 x1).r11
  refine (ev_dagenda L xs H hl Nn (a := a) (b := b) ha hb F.tr hr hdy F.l4 F.l5 F.l3 F.kl).mono ?_
  rintro o s ⟨rfl, ad1, ar1, lr1, H1, e1, k1, k2, so, ho, hf, l4, l5, l6, l7, l8, m1⟩
  have oo : ∀ r, 196 ≤ r → ar1 r = ar r := fun r hr => ho r (by omega) (by omega) (by omega)
  have gg : mo_g ar1 = mo_g ar := by
    funext e f
    unfold mo_g
    exact hq_g_ne (oo 200 (by decide)) _
  have mh1 : mo_H (hq_u (hq_u z 10 (fd_c (ag_q (fun p => oV (hq_g ar 190) ((oI (hq_g ar 190)) p) 4) (fun p v => oV (hq_g ar 190) ((oI (hq_g ar 190)) p) (10 + v)) (z 0) a b) ((2 * (hq_g ar 190 0).toNat : Nat) : Int))) 9 (fd_c (ag_q (fun p => oV (hq_g ar 190) ((oI (hq_g ar 190)) p) 4) (fun p v => oV (hq_g ar 190) ((oI (hq_g ar 190)) p) (10 + v)) (z 0) a b) ((2 * (hq_g ar 190 0).toNat : Nat) : Int))) ar1 := mh.cg (fun r r0 _ => by rw [oo r (by omega)]) mh.n0 mh.n1 mh.o0 mh.o1 mh.op mh.e0 mh.e1
  have M1 : mo_R (mo_g ar1) (hq_u (hq_u z 10 (fd_c (ag_q (fun p => oV (hq_g ar 190) ((oI (hq_g ar 190)) p) 4) (fun p v => oV (hq_g ar 190) ((oI (hq_g ar 190)) p) (10 + v)) (z 0) a b) ((2 * (hq_g ar 190 0).toNat : Nat) : Int))) 9 (fd_c (ag_q (fun p => oV (hq_g ar 190) ((oI (hq_g ar 190)) p) 4) (fun p v => oV (hq_g ar 190) ((oI (hq_g ar 190)) p) (10 + v)) (z 0) a b) ((2 * (hq_g ar 190 0).toNat : Nat) : Int)) 23) (hq_g ar 190 0) (oI (hq_g ar 190)) (oD (hq_g ar 190)) := by
    rw [gg]
    exact M
  have dy : ∀ x v, 0 ≤ x → x < (hq_g ar 190 0) → 0 ≤ v → v ≤ 1 → mo_g ar1 ((oI (hq_g ar 190)) x) (8 + v) = oV (hq_g ar 190) ((oI (hq_g ar 190)) x) (10 + v) := by
    intro x v x0 x1 v0 v1
    rw [gg]
    rcases (show v = 0 ∨ v = 1 by omega) with e | e
    · rw [e]
      exact (X.rr.F x x0 x1).f8
    · rw [e]
      exact (X.rr.F x x0 x1).f9
  have rk : ∀ x, 0 ≤ x → x < (hq_g ar 190 0) → mo_g ar1 ((oI (hq_g ar 190)) x) 5 = oV (hq_g ar 190) ((oI (hq_g ar 190)) x) 5 := fun x x0 x1 => by
    rw [gg]
    exact (X.rr.F x x0 x1).f5
  have sk : ∀ x, 0 ≤ x → x < (hq_g ar 190 0) → mo_g ar1 ((oI (hq_g ar 190)) x) 4 = oV (hq_g ar 190) ((oI (hq_g ar 190)) x) 4 := fun x x0 x1 => by
    rw [gg]
    exact (X.rr.F x x0 x1).f4
  have td : z 26 = z 0 := F.td
  have qf : ∀ u, 0 ≤ u → u < ((2 * (hq_g ar 190 0).toNat : Nat) : Int) → (ag_q (fun p => mo_g ar1 ((oI (hq_g ar 190)) p) 4) (fun p v => mo_g ar1 ((oI (hq_g ar 190)) p) (8 + v)) (z 26) a b) u = (ag_q (fun p => oV (hq_g ar 190) ((oI (hq_g ar 190)) p) 4) (fun p v => oV (hq_g ar 190) ((oI (hq_g ar 190)) p) (10 + v)) (z 0) a b) u ∧ (ag_k (fun p => mo_g ar1 ((oI (hq_g ar 190)) p) 5) (fun p v => mo_g ar1 ((oI (hq_g ar 190)) p) (8 + v)) (z 26)) u = (ag_k (fun p => oV (hq_g ar 190) ((oI (hq_g ar 190)) p) 5) (fun p v => oV (hq_g ar 190) ((oI (hq_g ar 190)) p) (10 + v)) (z 0)) u := by
    intro u u0 u1
    have ed : ag_d (fun p v => mo_g ar1 ((oI (hq_g ar 190)) p) (8 + v)) u = ag_d (fun p v => oV (hq_g ar 190) ((oI (hq_g ar 190)) p) (10 + v)) u := dy (u / 2) (u % 2) (by omega) (by omega) (by omega) (by omega)
    have es : ag_s (z 26) (fun p v => mo_g ar1 ((oI (hq_g ar 190)) p) (8 + v)) u = ag_s (z 0) (fun p v => oV (hq_g ar 190) ((oI (hq_g ar 190)) p) (10 + v)) u := by
      unfold ag_s
      rw [ed, td]
    constructor
    · have s1 : (fun p => mo_g ar1 ((oI (hq_g ar 190)) p) 4) (u / 2) = (fun p => oV (hq_g ar 190) ((oI (hq_g ar 190)) p) 4) (u / 2) := sk (u / 2) (by omega) (by omega)
      unfold ag_q
      rw [ed, es, s1]
    · have s1 : (fun p => mo_g ar1 ((oI (hq_g ar 190)) p) 5) (u / 2) = (fun p => oV (hq_g ar 190) ((oI (hq_g ar 190)) p) 5) (u / 2) := rk (u / 2) (by omega) (by omega)
      unfold ag_k
      rw [es, s1]
  have ce : fd_c (ag_q (fun p => mo_g ar1 ((oI (hq_g ar 190)) p) 4) (fun p v => mo_g ar1 ((oI (hq_g ar 190)) p) (8 + v)) (z 26) a b) ((2 * (hq_g ar 190 0).toNat : Nat) : Int) = (fd_c (ag_q (fun p => oV (hq_g ar 190) ((oI (hq_g ar 190)) p) 4) (fun p v => oV (hq_g ar 190) ((oI (hq_g ar 190)) p) (10 + v)) (z 0) a b) ((2 * (hq_g ar 190 0).toNat : Nat) : Int)) := fd_c_cg (fun u u0 u1 => (qf u u0 u1).1)
  refine ⟨(fd_c (ag_q (fun p => oV (hq_g ar 190) ((oI (hq_g ar 190)) p) 4) (fun p v => oV (hq_g ar 190) ((oI (hq_g ar 190)) p) (10 + v)) (z 0) a b) ((2 * (hq_g ar 190 0).toNat : Nat) : Int)), by omega, rfl, ⟨_, _, _, _, H1⟩, (ev_magenda L xs H1 mh1 M1 (a := a) (b := b) ha hb (show 0 ≤ z 26 ∧ z 26 ≤ 3652058 by rw [td]; exact F.tr) (fun x x0 x1 => by rw [rk x x0 x1]; exact hr x x0 x1) (fun x v x0 x1 v0 v1 => by rw [dy x v x0 x1 v0 v1]; exact hdy x v x0 x1 v0 v1)).mono ?_⟩
  rintro o t ⟨rfl, A, rt⟩
  rw [show hq_u (hq_u z 10 (fd_c (ag_q (fun p => oV (hq_g ar 190) ((oI (hq_g ar 190)) p) 4) (fun p v => oV (hq_g ar 190) ((oI (hq_g ar 190)) p) (10 + v)) (z 0) a b) ((2 * (hq_g ar 190 0).toNat : Nat) : Int))) 9 (fd_c (ag_q (fun p => oV (hq_g ar 190) ((oI (hq_g ar 190)) p) 4) (fun p v => oV (hq_g ar 190) ((oI (hq_g ar 190)) p) (10 + v)) (z 0) a b) ((2 * (hq_g ar 190 0).toNat : Nat) : Int)) 26 = z 26 from rfl]
  obtain ⟨E, Y, T, s2, Ht, so2, hE⟩ := A
  rw [show hq_u (hq_u (hq_u z 10 (fd_c (ag_q (fun p => oV (hq_g ar 190) ((oI (hq_g ar 190)) p) 4) (fun p v => oV (hq_g ar 190) ((oI (hq_g ar 190)) p) (10 + v)) (z 0) a b) ((2 * (hq_g ar 190 0).toNat : Nat) : Int))) 9 (fd_c (ag_q (fun p => oV (hq_g ar 190) ((oI (hq_g ar 190)) p) 4) (fun p v => oV (hq_g ar 190) ((oI (hq_g ar 190)) p) (10 + v)) (z 0) a b) ((2 * (hq_g ar 190 0).toNat : Nat) : Int))) 29 0 26 = z 26 from rfl, ce] at Ht hE so2
  rw [ce]
  have so3 : so_S (fd_c (ag_q (fun p => oV (hq_g ar 190) ((oI (hq_g ar 190)) p) 4) (fun p v => oV (hq_g ar 190) ((oI (hq_g ar 190)) p) (10 + v)) (z 0) a b) ((2 * (hq_g ar 190 0).toNat : Nat) : Int)) (fd_a (ag_q (fun p => oV (hq_g ar 190) ((oI (hq_g ar 190)) p) 4) (fun p v => oV (hq_g ar 190) ((oI (hq_g ar 190)) p) (10 + v)) (z 0) a b) (ag_k (fun p => oV (hq_g ar 190) ((oI (hq_g ar 190)) p) 5) (fun p v => oV (hq_g ar 190) ((oI (hq_g ar 190)) p) (10 + v)) (z 0)) (fun _ => 0) (2 * (hq_g ar 190 0).toNat)) s2 := by
    rw [← fd_a_cg (q := (ag_q (fun p => mo_g ar1 ((oI (hq_g ar 190)) p) 4) (fun p v => mo_g ar1 ((oI (hq_g ar 190)) p) (8 + v)) (z 26) a b)) (f := (ag_k (fun p => mo_g ar1 ((oI (hq_g ar 190)) p) 5) (fun p v => mo_g ar1 ((oI (hq_g ar 190)) p) (8 + v)) (z 26))) (2 * (hq_g ar 190 0).toNat) qf]
    exact so2
  have se := so_S_u so so3
  have len : ∀ r, (mo_f3 (mo_or ar1 (oI (hq_g ar 190)) (hq_g ar 190 0)) E Y T r).1 = (ar1 r).1 := fun r => (mo_f3_len r).trans (mo_or_len r)
  have ee : ∀ r, r ≠ 203 → r ≠ 204 → r ≠ 205 → r ≠ 206 → mo_f3 (mo_or ar1 (oI (hq_g ar 190)) (hq_g ar 190 0)) E Y T r = ar1 r := fun r h3 h4 h5 h6 => (mo_f3_ne h4 h5 h6).trans (mo_or_ne h3)
  refine ⟨rfl, _, _, jx_q X cn rm Ht (fun k hk => by rw [hq_u_ne (by omega), hq_u_ne (by omega), hq_u_ne (by omega), hq_u_ne (by omega), hq_u_ne (by omega)]) (fun r hr => (ee r (by omega) (by omega) (by omega) (by omega)).trans (ho r (by omega) (by omega) (by omega))) (fun r r0 r1 => by rw [len r, oo r (by omega)]) (FX.mk F.td F.tr rfl (show 0 ≤ (fd_c (ag_q (fun p => oV (hq_g ar 190) ((oI (hq_g ar 190)) p) 4) (fun p v => oV (hq_g ar 190) ((oI (hq_g ar 190)) p) (10 + v)) (z 0) a b) ((2 * (hq_g ar 190 0).toNat : Nat) : Int)) ∧ (fd_c (ag_q (fun p => oV (hq_g ar 190) ((oI (hq_g ar 190)) p) 4) (fun p v => oV (hq_g ar 190) ((oI (hq_g ar 190)) p) (10 + v)) (z 0) a b) ((2 * (hq_g ar 190 0).toNat : Nat) : Int)) ≤ 800 by omega) (by rw [len]; exact l8) (fun i i0 i1 => ?_) (by rw [len, len]; exact l4) (by rw [len, len]; exact l5) (by rw [len]; exact ⟨l6, l7⟩) ⟨k1, k2⟩ (by rw [e1]; exact F.o1) (by rw [len, ho 189 (by decide) (by decide) (by decide)]; exact F.l9) (by rw [len, oo 198 (by decide)]; exact F.t8) (by rw [hq_g_ne (ee 198 (by decide) (by decide) (by decide) (by decide)), hq_g_ne (oo 198 (by decide))]; exact F.t0) (fun r hr => ?_) (by rw [len, oo 207 (by decide)]; exact F.pl)) (hq_rm_tr m1 (hq_rm_len rt len rfl))⟩
  · have i1 : i < (fd_c (ag_q (fun p => oV (hq_g ar 190) ((oI (hq_g ar 190)) p) 4) (fun p v => oV (hq_g ar 190) ((oI (hq_g ar 190)) p) (10 + v)) (z 0) a b) ((2 * (hq_g ar 190 0).toNat : Nat) : Int)) := i1
    have h := hf i i0 i1
    have h2 := hE i i0 i1
    rw [← se i i0 i1] at h2
    have e3 : E i = hq_g ar1 193 i := h2.1.trans h.1.symm
    have e4 : Y i = hq_g ar1 194 i := h2.2.1.trans h.2.1.symm
    have e5 : T i = hq_g ar1 195 i := h2.2.2.trans h.2.2.symm
    rw [hq_g_ne (ee 193 (by decide) (by decide) (by decide) (by decide)), hq_g_ne (ee 194 (by decide) (by decide) (by decide) (by decide)), hq_g_ne (ee 195 (by decide) (by decide) (by decide) (by decide)), mo_f3_g4 i0 (by rw [e3]; exact hq_g_r _ _ _), mo_f3_g5 i0 (by rw [e4]; exact hq_g_r _ _ _), mo_f3_g6 i0 (by rw [e5]; exact hq_g_r _ _ _)]
    exact ⟨e3.symm, e4.symm, e5.symm⟩
  · rw [len r]
    by_cases x : r = 193 ∨ r = 194 ∨ r = 195
    · rcases x with x | x | x <;> (rw [x] at hr; exact absurd hr (by decide))
    · rw [ho r (by omega) (by omega) (by omega)]
      exact F.ob r hr
end JJ
