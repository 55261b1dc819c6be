/-! groups, undo and redo, new entries: what holds between two calls -/
theorem mo_H.cg {z z' : Nat → Int} {ar ar' : Nat → Nat × (Nat → Int32)} (m : mo_H z ar) (hl : ∀ r, 200 ≤ r → r ≤ 207 → (ar' r).1 = (ar r).1) (a1 : 0 ≤ z' 21) (a2 : z' 21 < 90000) (a3 : 0 ≤ z' 20) (a4 : z' 20 ≤ z' 21) (a5 : z' 24 = 0 ∨ z' 24 = 1) (a6 : 0 ≤ z' 25) (a7 : z' 25 ≤ 90000) : mo_H z' ar' := mo_H.mk ((hl 200 (by decide) (by decide)).trans m.l0) ((hl 201 (by decide) (by decide)).trans m.l1) ((hl 202 (by decide) (by decide)).trans m.l2) ((hl 203 (by decide) (by decide)).trans m.l3) ((hl 204 (by decide) (by decide)).trans m.l4) ((hl 205 (by decide) (by decide)).trans m.l5) ((hl 206 (by decide) (by decide)).trans m.l6) ((hl 207 (by decide) (by decide)).trans m.l7) a1 a2 a3 a4 a5 a6 a7
section HT
variable {Cs : Int → Int → Int} {z z' : Nat → Int} {ar ar' : Nat → Nat × (Nat → Int32)}
/-- the same cells, entries and steps, with other marks of a group -/
theorem HX.grp (h : HX Cs z ar) (hz : ∀ k, k ≠ 5 → k ≠ 24 → k ≠ 25 → k ≠ 29 → z' k = z k) (h5 : z' 5 = 0 ∨ z' 5 = 1) (h24 : z' 24 = z' 5) (h25 : z' 25 = z 6) (h6 : z' 5 = 0 → z 6 = 0) : HX Cs z' ar := by
  have z20 := hz 20 (by decide) (by decide) (by decide) (by decide)
  have z21 := hz 21 (by decide) (by decide) (by decide) (by decide)
  have z22 := hz 22 (by decide) (by decide) (by decide) (by decide)
  have z23 := hz 23 (by decide) (by decide) (by decide) (by decide)
  have z8 := hz 8 (by decide) (by decide) (by decide) (by decide)
  have z6 := hz 6 (by decide) (by decide) (by decide) (by decide)
  have z3 := hz 3 (by decide) (by decide) (by decide) (by decide)
  have z4 := hz 4 (by decide) (by decide) (by decide) (by decide)
  have z2 := hz 2 (by decide) (by decide) (by decide) (by decide)
  have z7 := hz 7 (by decide) (by decide) (by decide) (by decide)
  have m := h.mh
  have n0 := m.n0
  have n1 := m.n1
  have o0 := m.o0
  have o1 := m.o1
  have k6 := h.w.h6
  have a1 := h.ud
  have a2 := h.rd
  have a3 := h.nl
  have a4 := h.l60
  have a5 := h.m8
  refine HX.mk (by rw [z21]; exact h.w.cg (fun k hk => hz k (by omega) (by omega) (by omega) (by omega)) (fun _ _ => rfl)) (by rw [z7]; exact h.h7) h5 (fun q => by rw [z6]; exact h6 q) (by omega) (by omega) (by omega) (by omega) (by omega) (by omega) (by rw [z2, z20]; exact h.ol) (by omega) (m.cg (fun _ _ _ => rfl) (by omega) (by omega) (by omega) (by omega) (by omega) (by omega) (by omega)) (by rw [z8]; exact h.rr) h.nz (fun k k0 k1 => ?_) (fun k k0 k1 => ?_) (fun k k0 k1 => ?_)
  · have := hi_j_lt k
    exact hi_l_cg (h.hu k (by omega) (by omega)) z8 (hz _ (by omega) (by omega) (by omega) (by omega)) rfl rfl
  · have := hi_j_lt k
    exact hi_l_cg (h.hr k (by omega) (by omega)) z8 (hz _ (by omega) (by omega) (by omega) (by omega)) rfl rfl
  · rw [z8]
    exact h.hp k (by omega) (by omega)
/-- a group that has changed something ends -/
theorem HX.cls (h : HX Cs z ar) (g6 : 0 < z 6) (n8 : z 21 < 80000) (hz : ∀ k, k ≠ 2 → k ≠ 3 → k ≠ 5 → k ≠ 6 → k ≠ 20 → k ≠ 21 → k ≠ 22 → k ≠ 24 → k ≠ 25 → k ≠ 29 → z' k = z k) (h5 : z' 5 = 0) (h24 : z' 24 = 0) (h25 : z' 25 = 0) (h6 : z' 6 = 0) (e3 : z' 3 = if z 3 < 60 then z 3 + 1 else z 3) (e2 : z' 2 = if z 3 < 60 then z 2 else (z 2 + 1) % 61) (S21 : z' 21 = z 21 + 1) (S22 : z' 22 = z 21 + 1) (S20 : z' 20 = if z 21 + 1 - z 20 ≤ 60 then z 20 else z 21 + 1 - 60) (hY : ar' = hq_cp ar 201 200 (5600 * ((z 21 + 1) % 61)) 0 5600) : ∃ Cs', HX Cs' z' ar' := by
  have w0 := h.w
  have m := h.mh
  have n0 := m.n0
  have o0 := m.o0
  have o1 := m.o1
  have a1 := h.ud
  have a2 := h.rd
  have a3 := h.nl
  have a4 := h.l60
  have a5 := h.m8
  have jn := h.jn
  have jj := w0.jj
  have k2 := w0.h2
  have k3 := w0.h3
  have gd := w0.gd (Or.inr g6)
  have e8 := hz 8 (by decide) (by decide) (by decide) (by decide) (by decide) (by decide) (by decide) (by decide) (by decide) (by decide)
  have e7 := hz 7 (by decide) (by decide) (by decide) (by decide) (by decide) (by decide) (by decide) (by decide) (by decide) (by decide)
  have e1 := hz 1 (by decide) (by decide) (by decide) (by decide) (by decide) (by decide) (by decide) (by decide) (by decide) (by decide)
  have e4 := hz 4 (by decide) (by decide) (by decide) (by decide) (by decide) (by decide) (by decide) (by decide) (by decide) (by decide)
  have e23 := hz 23 (by decide) (by decide) (by decide) (by decide) (by decide) (by decide) (by decide) (by decide) (by decide) (by decide)
  have Zt : ∀ k, 105 ≤ k → z' k = z k := fun k hk => hz k (by omega) (by omega) (by omega) (by omega) (by omega) (by omega) (by omega) (by omega) (by omega) (by omega)
  have Yo : ∀ r, r ≠ 201 → ar' r = ar r := fun r hr => by rw [hY]; exact hq_u_ne hr
  have Yl : ∀ r, (ar' r).1 = (ar r).1 := fun r => by rw [hY]; exact hq_cp_len _ _ _ _ _ _ _
  have Yp : ∀ k e f, 0 ≤ e → e < 400 → 0 ≤ f → f < 14 → hi_p ar' k e f = if k % 61 = (z 21 + 1) % 61 then mo_g ar e f else hi_p ar k e f := fun k e f b0 b1 c0 c1 => by
    rw [hY, hi_p_cp ⟨b0, b1⟩ ⟨c0, c1⟩]
    rfl
  have w1 : hw ((fun k => if k = z 21 + 1 then hq_g ar 190 else Cs k) (z 21 + 1)) z' ar := w0.st0 (by rw [e2]; split <;> omega) (by rw [e3]; split <;> omega) h6 (by rw [e7]; exact h.h7) e1 e8 Zt (fun c c0 c1 => by
    show _ = (if z 21 + 1 = z 21 + 1 then hq_g ar 190 else Cs (z 21 + 1)) c
    rw [if_pos rfl])
  have w2 := w1.cg (z' := z') (ar' := ar') (fun _ _ => rfl) (fun r hr => Yo r (by omega))
  refine ⟨fun k => if k = z 21 + 1 then hq_g ar 190 else Cs k, ?_⟩
  refine HX.mk (by rw [S21]; exact w2) (by rw [e7]; exact h.h7) (by omega) (by omega) (by omega) (by omega) (by omega) ?_ (by omega) (by omega) ?_ ?_ (m.cg (fun r _ _ => Yl r) (by omega) (by omega) (by rw [S20]; split <;> omega) (by rw [S20]; split <;> omega) (by omega) (by omega) (by omega)) ?_ (fun e f x0 x1 x2 => ?_) (fun k x0 x1 => ?_) (fun k x0 x1 => absurd x1 (by omega)) (fun k x0 x1 => ?_)
  · rw [e3, S21, S20]
    split <;> split <;> omega
  · have ol := h.ol
    rw [e2, S20]
    split <;> split <;> omega
  · rw [S22, S20]
    split <;> omega
  · rw [e8]
    exact h.rr.cg (fun i _ _ => hq_g_ne (Yo 190 (by decide)) i) (fun e f _ _ _ _ => hq_g_ne (Yo 200 (by decide)) _)
  · have q : mo_g ar' e f = mo_g ar e f := hq_g_ne (Yo 200 (by decide)) _
    rw [q]
    exact h.nz e f x0 x1 x2
  · have x2 : z 20 ≤ k ∧ z 21 + 1 - k ≤ 60 := by
      rw [S20] at x0
      split at x0 <;> omega
    rw [S21] at x1
    have := hi_j_lt k
    show hi_l z' ar' k (if k = z 21 + 1 then hq_g ar 190 else Cs k) (if k + 1 = z 21 + 1 then hq_g ar 190 else Cs (k + 1))
    rw [if_neg (by omega)]
    by_cases y : k = z 21
    · rw [if_pos (by omega), y]
      have q := w0.gl (Or.inr g6)
      have q2 : hi_l z ar (z 21) (Cs (z 21)) (hq_g ar 190) := by
        unfold hi_l
        rw [← jn]
        exact q
      have := hi_j_lt (z 21)
      exact hi_l_cg q2 e8 (Zt _ (by omega)) (Yo _ (by omega)) (Yo _ (by omega))
    · rw [if_neg (by omega)]
      exact hi_l_cg (h.hu k x2.1 (by omega)) e8 (Zt _ (by omega)) (Yo _ (by omega)) (Yo _ (by omega))
  · have x2 : z 20 ≤ k ∧ z 21 + 1 - k ≤ 60 := by
      rw [S20] at x0
      split at x0 <;> omega
    rw [S22] at x1
    rw [e8]
    show RR (if k = z 21 + 1 then hq_g ar 190 else Cs k) (hi_p ar' k) (z 8)
    by_cases y : k = z 21 + 1
    · rw [if_pos y]
      refine h.rr.cg (fun _ _ _ => rfl) (fun e f b0 b1 c0 c1 => ?_)
      rw [Yp k e f b0 b1 c0 c1, if_pos (by rw [y])]
    · rw [if_neg y]
      refine (h.hp k x2.1 (by omega)).cg (fun _ _ _ => rfl) (fun e f b0 b1 c0 c1 => ?_)
      rw [Yp k e f b0 b1 c0 c1, if_neg (by omega)]
theorem mo_g_cp {X : Nat → Nat × (Nat → Int32)} {k e f : Int} (e0 : 0 ≤ e) (f0 : 0 ≤ f ∧ f < 14) : mo_g (hq_cp X 200 201 0 (5600 * (k % 61)) 5600) e f = if e < 400 then hi_p X k e f else mo_g X e f := by
  unfold mo_g hi_p hq_g hq_cp
  rw [hq_u_at]
  dsimp only
  by_cases c : e < 400
  · rw [if_pos c, if_pos (by omega), show ((((14 * e + f).toNat : Nat) : Int) - 0 + 5600 * (k % 61)).toNat = (5600 * (k % 61) + (14 * e + f)).toNat by omega]
  · rw [if_neg c, if_neg (by omega)]
/-- one step back (v = -1), or forth (v = 1) -/
theorem HX.go (h : HX Cs z ar) (g5 : z 5 = 0) (n8 : z 21 < 80000) {v k : Int} (hv : (v = -1 ∧ z 20 < z 21 ∧ k = z 21 - 1) ∨ (v = 1 ∧ z 21 < z 22 ∧ k = z 21)) {ar1 : Nat → Nat × (Nat → Int32)} (hz : ∀ q, q ≠ 3 → q ≠ 4 → q ≠ 21 → q ≠ 29 → z' q = z q) (e3 : z' 3 = z 3 + v) (e4 : z' 4 = z 4 - v) (e21 : z' 21 = z 21 + v) (o1 : ∀ r, r ≠ 190 → r ≠ 5 + 3 * hi_j k + 2 → ar1 r = ar r) (l1 : ∀ r, (ar1 r).1 = (ar r).1) (x : ex_k (z (105 + 3 * hi_j k)) (hq_g ar 190) (hq_g ar (5 + 3 * hi_j k + 2)) (hq_g ar (5 + 3 * hi_j k + 1)) (hq_g ar1 190) (hq_g ar1 (5 + 3 * hi_j k + 2))) (hY : ar' = hq_cp ar1 200 201 0 (5600 * ((z 21 + v) % 61)) 5600) : HX Cs z' ar' := by
  have w0 := h.w
  have m := h.mh
  have n0 := m.n0
  have n1 := m.n1
  have o0 := m.o0
  have oo := m.o1
  have a1 := h.ud
  have a2 := h.rd
  have a3 := h.nl
  have a4 := h.l60
  have a5 := h.m8
  have g6 := h.h56 g5
  have jk := hi_j_lt k
  have k2 := w0.h2
  have k3 := w0.h3
  have e8 := hz 8 (by decide) (by decide) (by decide) (by decide)
  have e20 := hz 20 (by decide) (by decide) (by decide) (by decide)
  have e22 := hz 22 (by decide) (by decide) (by decide) (by decide)
  have e7 := hz 7 (by decide) (by decide) (by decide) (by decide)
  have e6 := hz 6 (by decide) (by decide) (by decide) (by decide)
  have e5 := hz 5 (by decide) (by decide) (by decide) (by decide)
  have e1 := hz 1 (by decide) (by decide) (by decide) (by decide)
  have e2 := hz 2 (by decide) (by decide) (by decide) (by decide)
  have e23 := hz 23 (by decide) (by decide) (by decide) (by decide)
  have e24 := hz 24 (by decide) (by decide) (by decide) (by decide)
  have e25 := hz 25 (by decide) (by decide) (by decide) (by decide)
  have Zt : ∀ q, 105 ≤ q → z' q = z q := fun q hq => hz q (by omega) (by omega) (by omega) (by omega)
  have Yo : ∀ r, r ≠ 200 → ar' r = ar1 r := fun r hr => by rw [hY]; exact hq_u_ne hr
  have Yl : ∀ r, (ar' r).1 = (ar r).1 := fun r => by rw [hY]; exact (hq_cp_len _ _ _ _ _ _ _).trans (l1 r)
  have p201 : ∀ q e f, hi_p ar1 q e f = hi_p ar q e f := fun q e f => hq_g_ne (o1 201 (by decide) (by omega)) _
  have l : hi_l z ar k (Cs (z 21 + v)) (Cs (z 21)) := by
    rcases hv with ⟨v1, v2, v3⟩ | ⟨v1, v2, v3⟩
    · have q := h.hu k (by omega) (by omega)
      rw [show k + 1 = z 21 by omega] at q
      rw [show z 21 + v = k by omega]
      exact q
    · have q := h.hr k (by omega) (by omega)
      rw [show z 21 + v = k + 1 by omega, show z 21 = k by omega]
      exact q
  unfold hi_l at l
  have c0 : ∀ c, 0 ≤ c → c < 401 + 16 * z 8 → hq_g ar 190 c = Cs (z 21) c := fun c x0 x1 => w0.no h.h7 g6 c x0 x1
  -- the cells after the exchange
  have c1 : ∀ c, 0 ≤ c → c < 401 + 16 * z 8 → hq_g ar1 190 c = Cs (z 21 + v) c := fun c x0 x1 => by
    by_cases y : ∃ i, 0 ≤ i ∧ i < z (105 + 3 * hi_j k) ∧ hq_g ar (5 + 3 * hi_j k + 1) i = c
    · obtain ⟨i, i0, i1, i2⟩ := y
      rw [← i2, (x.1 i i0 i1).1]
      exact (l.2.1 i i0 i1).2.2
    · have ny : ∀ i, 0 ≤ i → i < z (105 + 3 * hi_j k) → hq_g ar (5 + 3 * hi_j k + 1) i ≠ c := fun i i0 i1 q => y ⟨i, i0, i1, q⟩
      rw [x.2.2 c x0 ny, c0 c x0 x1]
      exact l.2.2 c x0 x1 ny
  have c2 : ∀ c, 401 + 16 * z 8 ≤ c → hq_g ar1 190 c = hq_g ar 190 c := fun c x0 => x.2.2 c (by have := w0.m0; omega) (fun i i0 i1 q => by
    have := l.2.1 i i0 i1
    omega)
  have w1 : hw (Cs (z 21 + v)) z' ar1 := by
    have e191 : hq_g ar1 191 = hq_g ar 191 := funext fun i => hq_g_ne (o1 191 (by decide) (by omega)) i
    refine hw.mk (by rw [e8]; exact w0.m0) (by rw [e2]; exact k2) (by rw [e3]; omega) (by rw [e6]; exact w0.h6) (by rw [e7]; exact w0.h7) (by rw [e1]; exact w0.h1) (by rw [l1, l1]; exact w0.ln) (by unfold od_L; rw [l1, e8]; exact w0.le) (fun i hi => by rw [l1, l1, Zt _ (by omega)]; exact w0.cap i hi) (by rw [l1, e191, e1]; exact w0.st) (fun c y0 y1 => ?_) (fun q => absurd q (by have := h.h7; omega)) (fun q => absurd q (by have := h.h7; omega)) (fun q => absurd q (by have := h.h7; omega)) (fun _ _ c y0 y1 => c1 c y0 (by rw [e8] at y1; exact y1))
    rw [e8] at y0
    rw [l1] at y1
    rw [c2 c y0, e191]
    exact w0.fr c y0 y1
  have w2 := w1.cg (z' := z') (ar' := ar') (fun _ _ => rfl) (fun r hr => Yo r (by omega))
  have gE : ∀ e f, 0 ≤ e → 0 ≤ f → f < 14 → mo_g ar' e f = if e < 400 then hi_p ar (z 21 + v) e f else mo_g ar e f := fun e f b0 f0 f1 => by
    rw [hY, mo_g_cp b0 ⟨f0, f1⟩, p201]
    split
    · rfl
    · exact hq_g_ne (o1 200 (by decide) (by omega)) _
  have lk : ∀ q, z 20 ≤ q → q < z 22 → q ≠ k → hi_j q ≠ hi_j k := fun q q0 q1 q2 => hi_j_ne q2 (by omega) (by omega)
  have keep : ∀ q A C, z 20 ≤ q → q < z 22 → q ≠ k → hi_l z ar q A C → hi_l z' ar' q A C := fun q A C q0 q1 q2 hq => by
    have := hi_j_lt q
    have ne := lk q q0 q1 q2
    exact hi_l_cg hq e8 (Zt _ (by omega)) (by rw [Yo _ (by omega), o1 _ (by omega) (by omega)]) (by rw [Yo _ (by omega), o1 _ (by omega) (by omega)])
  have turned : hi_l z' ar' k (Cs (z 21)) (Cs (z 21 + v)) := by
    unfold hi_l
    rw [e8, Zt _ (by omega), show hq_g ar' (5 + 3 * hi_j k + 1) = hq_g ar (5 + 3 * hi_j k + 1) from funext fun i => (hq_g_ne (Yo _ (by omega)) i).trans (hq_g_ne (o1 _ (by omega) (by omega)) i), show hq_g ar' (5 + 3 * hi_j k + 2) = hq_g ar1 (5 + 3 * hi_j k + 2) from funext fun i => hq_g_ne (Yo _ (by omega)) i]
    refine ⟨l.1, fun i i0 i1 => ?_, fun c y0 y1 hy => ?_⟩
    · have q := l.2.1 i i0 i1
      refine ⟨q.1, q.2.1, ?_⟩
      rw [(x.1 i i0 i1).2]
      exact c0 _ q.1 q.2.1
    · exact (l.2.2 c y0 y1 hy).symm
  refine HX.mk (by rw [e21]; exact w2) (by rw [e7]; exact h.h7) (by omega) (by omega) (by omega) (by have := h.op; omega) (by have := h.ed; omega) (by omega) (by omega) (by omega) (by rw [e2, e20]; exact h.ol) (by omega) (m.cg (fun r _ _ => Yl r) (by omega) (by omega) (by omega) (by omega) (by have := h.op; have := h.h5; omega) (by have := h.ed; omega) (by have := h.ed; omega)) ?_ (fun e f x0 x1 x2 => ?_) (fun q x0 x1 => ?_) (fun q x0 x1 => ?_) (fun q x0 x1 => ?_)
  · rw [e8]
    refine (h.hp (z 21 + v) (by omega) (by omega)).cg (fun i i0 i1 => ?_) (fun e f b0 b1 f0 f1 => ?_)
    · rw [hq_g_ne (Yo 190 (by decide)) i]
      exact c1 i i0 i1
    · rw [gE e f b0 f0 f1, if_pos b1]
  · rw [gE e f (by omega) x1 x2, if_neg (by omega)]
    exact h.nz e f x0 x1 x2
  · rw [e20] at x0
    rw [e21] at x1
    by_cases y : q = k
    · rw [y]
      rcases hv with ⟨v1, v2, v3⟩ | ⟨v1, v2, v3⟩
      · omega
      · rw [show k + 1 = z 21 + v by omega]
        rw [v3]
        rw [v3] at turned
        exact turned
    · exact keep q _ _ x0 (by omega) y (h.hu q x0 (by omega))
  · rw [e21] at x0
    rw [e22] at x1
    by_cases y : q = k
    · rw [y]
      rcases hv with ⟨v1, v2, v3⟩ | ⟨v1, v2, v3⟩
      · rw [show k + 1 = z 21 by omega, show Cs k = Cs (z 21 + v) by rw [show k = z 21 + v by omega]]
        exact turned
      · omega
    · exact keep q _ _ (by omega) x1 y (h.hr q (by omega) x1)
  · rw [e20] at x0
    rw [e22] at x1
    rw [e8]
    refine (h.hp q x0 x1).cg (fun _ _ _ => rfl) (fun e f _ _ _ _ => ?_)
    exact (hq_g_ne (Yo 201 (by decide)) _).trans (p201 q e f)
/-- an entry is born -/
theorem HX.born (h : HX Cs z ar) {A' : Int → Int} {d t : Int} (hm : z 8 < 400) (w' : hw A' (hq_u z 8 (z 8 + 1)) ar') (b : bo_C (hq_g ar 190) (hq_g ar' 190) (z 8) d t) (a1 : ∀ i, i < 401 + 16 * z 8 → A' i = Cs (z 21) i) (a2 : ∀ i, 401 + 16 * z 8 ≤ i → A' i = hq_g ar' 190 i) (o : ∀ r, r ≠ 190 → r ≠ 191 → ar' r = ar r) : HX (fun k i => if i < 401 + 16 * z 8 then Cs k i else hq_g ar' 190 i) (hq_u (hq_u z 8 (z 8 + 1)) 23 (z 8 + 1)) ar' := by
  have m := h.mh
  have e8 : hq_u (hq_u z 8 (z 8 + 1)) 23 (z 8 + 1) 8 = z 8 + 1 := rfl
  have g : ∀ r, r ≠ 190 → r ≠ 191 → hq_g ar' r = hq_g ar r := fun r h1 h2 => funext fun i => hq_g_ne (o r h1 h2) i
  have eg : mo_g ar' = mo_g ar := by
    funext e f
    exact hq_g_ne (o 200 (by decide) (by decide)) _
  have up : ∀ k A C, hi_l z ar k A C → hi_l (hq_u (hq_u z 8 (z 8 + 1)) 23 (z 8 + 1)) ar' k (fun i => if i < 401 + 16 * z 8 then A i else hq_g ar' 190 i) (fun i => if i < 401 + 16 * z 8 then C i else hq_g ar' 190 i) := fun k A C l => by
    have := hi_j_lt k
    unfold hi_l at l ⊢
    rw [e8, hq_u_ne (show 105 + 3 * hi_j k ≠ 23 by omega), hq_u_ne (show 105 + 3 * hi_j k ≠ 8 by omega), g _ (by omega) (by omega), g _ (by omega) (by omega)]
    refine ⟨l.1, fun i i0 i1 => ?_, fun c c0 c1 hc => ?_⟩
    · have q := l.2.1 i i0 i1
      exact ⟨q.1, by omega, q.2.2.trans (if_pos q.2.1).symm⟩
    · by_cases y : c < 401 + 16 * z 8
      · exact (if_pos y).trans ((l.2.2 c c0 y hc).trans (if_pos y).symm)
      · exact (if_neg y).trans (if_neg y).symm
  have w2 := w'.cg (z' := hq_u (hq_u z 8 (z 8 + 1)) 23 (z 8 + 1)) (ar' := ar') (fun k hk => hq_u_ne (by omega)) (fun _ _ => rfl)
  have Aeq : (fun i => if i < 401 + 16 * z 8 then Cs (z 21) i else hq_g ar' 190 i) = A' := by
    funext i
    by_cases y : i < 401 + 16 * z 8
    · rw [if_pos y, a1 i y]
    · rw [if_neg y, a2 i (by omega)]
  refine HX.mk ?_ h.h7 h.h5 h.h56 rfl h.op h.ed h.ud h.rd h.nl h.ol h.l60 (m.cg (fun r r0 r1 => by rw [o r (by omega) (by omega)]) m.n0 m.n1 m.o0 m.o1 m.op m.e0 m.e1) ?_ (by rw [eg]; exact h.nz) (fun k k0 k1 => up k _ _ (h.hu k k0 k1)) (fun k k0 k1 => up k _ _ (h.hr k k0 k1)) (fun k k0 k1 => ?_)
  · show hw (fun i => if i < 401 + 16 * z 8 then Cs (z 21) i else hq_g ar' 190 i) _ _
    rw [Aeq]
    exact w2
  · rw [e8, eg]
    exact (h.rr.cg (fun i i0 i1 => b.1 i i0 i1) (fun _ _ _ _ _ _ => rfl)).mono (by omega) (by omega)
  · rw [e8]
    refine ((h.hp k k0 k1).cg (fun i i0 i1 => if_pos i1) (fun e f _ _ _ _ => ?_)).mono (by omega) (by omega)
    exact hq_g_ne (o 201 (by decide) (by decide)) _
end HT
