/-! an edit of both sides keeps what holds between two calls -/
theorem hi_p_cp {X : Nat → Nat × (Nat → Int32)} {q : Nat} {n k e f : Int} (e0 : 0 ≤ e ∧ e < 400) (f0 : 0 ≤ f ∧ f < 14) : hi_p (hq_cp X 201 q (5600 * (n % 61)) 0 5600) k e f = if k % 61 = n % 61 then hq_g X q (14 * e + f) else hi_p X k e f := by
  unfold hi_p hq_g hq_cp
  rw [hq_u_at]
  show (if 5600 * (n % 61) ≤ (((5600 * (k % 61) + (14 * e + f)).toNat : Nat) : Int) ∧ (((5600 * (k % 61) + (14 * e + f)).toNat : Nat) : Int) < 5600 * (n % 61) + 5600 then (X q).2 ((((5600 * (k % 61) + (14 * e + f)).toNat : Nat) : Int) - 5600 * (n % 61) + 0).toNat else (X 201).2 (5600 * (k % 61) + (14 * e + f)).toNat).toInt = _
  rw [show (((5600 * (k % 61) + (14 * e + f)).toNat : Nat) : Int) = 5600 * (k % 61) + (14 * e + f) by omega]
  by_cases c : k % 61 = n % 61
  · rw [if_pos c, if_pos (by omega), show 5600 * (k % 61) + (14 * e + f) - 5600 * (n % 61) + 0 = 14 * e + f by omega]
  · rw [if_neg c, if_neg (by omega)]
theorem mo_bg_202 {arr : Nat → Nat × (Nat → Int32)} {g : Int → Int → Int} {e f : Int} (e0 : 0 ≤ e) (e1 : e < 400) (f0 : 0 ≤ f) (f1 : f < 14) : hq_g (mo_w (mo_bg arr) g) 202 (14 * e + f) = mo_g arr e f := by
  rw [hq_g_ne (mo_w_ne (by decide))]
  unfold mo_g hq_g mo_bg hq_cp
  rw [hq_u_at]
  dsimp only
  rw [if_pos (by omega), show ((((14 * e + f).toNat : Nat) : Int) - 0 + 0).toNat = (14 * e + f).toNat by omega]
theorem mo_same_iff {arr : Nat → Nat × (Nat → Int32)} {g : Int → Int → Int} (K : mo_K g) : mo_same (mo_w (mo_bg arr) g) 5600 ↔ ∀ e f, 0 ≤ e → e < 400 → 0 ≤ f → f < 14 → g e f = mo_g arr e f := by
  have a : ∀ e f, 0 ≤ e → e < 400 → 0 ≤ f → f < 14 → hq_g (mo_w (mo_bg arr) g) 202 (14 * e + f) = mo_g arr e f := fun e f e0 e1 f0 f1 => by
    exact mo_bg_202 e0 e1 f0 f1
  have b : ∀ e f, 0 ≤ e → 0 ≤ f → f < 14 → hq_g (mo_w (mo_bg arr) g) 200 (14 * e + f) = g e f := fun e f e0 f0 f1 => mo_w_g K e0 f0 f1
  constructor
  · intro h e f e0 e1 f0 f1
    have := h (14 * e + f) (by omega) (by omega)
    rw [a e f e0 e1 f0 f1, b e f e0 f0 f1] at this
    exact this.symm
  · intro h k k0 k1
    have e1 : k = 14 * (k / 14) + k % 14 := by omega
    rw [e1, a _ _ (by omega) (by omega) (by omega) (by omega), b _ _ (by omega) (by omega) (by omega)]
    exact (h _ _ (by omega) (by omega) (by omega) (by omega)).symm
theorem hw_ee_o {z : Nat → Int} {k : Nat} (h2 : k ≠ 2) (h3 : k ≠ 3) (h6 : k ≠ 6) (h7 : k ≠ 7) : hw_ee z k = z k := by
  unfold hw_ee hw_es
  split
  · rfl
  · split
    · split
      · rw [hq_u_ne h3, hq_u_ne h6, hq_u_ne h6, hq_u_ne h7]
      · rw [hq_u_ne h2, hq_u_ne h6, hq_u_ne h6, hq_u_ne h7]
    · rw [hq_u_ne h6, hq_u_ne h7]
theorem hw_ee_7 (z : Nat → Int) (h : z 7 = 0 ∨ z 7 = 1) : hw_ee z 7 = 0 := by
  unfold hw_ee hw_es
  split
  · assumption
  · split
    · split <;> rfl
    · rfl
/-- after the last write of a step, or of an edit within a group -/
theorem hw.eg {A : Int → Int} {z : Nat → Int} {ar : Nat → Nat × (Nat → Int32)} (h : hw A z ar) (h7 : z 7 = 1) (h6 : z 6 < 90000) : hw A (hq_u (hq_u z 7 0) 6 (z 6 + 1)) ar := by
  have g : z 7 = 1 ∨ 0 < z 6 := Or.inl h7
  have k6 := h.h6
  have o : ∀ k, 105 ≤ k → hq_u (hq_u z 7 0) 6 (z 6 + 1) k = z k := fun k hk => by rw [hq_u_ne (by omega), hq_u_ne (by omega)]
  exact hw.mk h.m0 h.h2 h.h3 (by show 0 ≤ z 6 + 1 ∧ z 6 + 1 ≤ 90000; omega) (Or.inl rfl) h.h1 h.ln h.le (fun i hi => by rw [o _ (by omega)]; exact h.cap i hi) h.st h.fr (fun _ => h.gd g) (fun _ => by
    rw [show hw_j (hq_u (hq_u z 7 0) 6 (z 6 + 1)) = hw_j z from rfl, o (105 + 3 * hw_j z) (by omega)]
    exact h.gs g) (fun _ => by
    rw [show hw_j (hq_u (hq_u z 7 0) 6 (z 6 + 1)) = hw_j z from rfl, o (105 + 3 * hw_j z) (by omega)]
    exact h.gl g) (fun _ q => absurd q (by show ¬ z 6 + 1 = 0; omega))
theorem hw.st0 {A A' : Int → Int} {z z' : Nat → Int} {ar : Nat → Nat × (Nat → Int32)} (h : hw A z ar) (h2 : 0 ≤ z' 2 ∧ z' 2 < 61) (h3 : 0 ≤ z' 3 ∧ z' 3 ≤ 60) (h6 : z' 6 = 0) (h7 : z' 7 = 0) (e1 : z' 1 = z 1) (e8 : z' 8 = z 8) (o : ∀ k, 105 ≤ k → z' k = z k) (hA : ∀ c, 0 ≤ c → c < 401 + 16 * z 8 → hq_g ar 190 c = A' c) : hw A' z' ar :=
  hw.mk (by rw [e8]; exact h.m0) h2 h3 (by rw [h6]; omega) (Or.inl h7) (by rw [e1]; exact h.h1) h.ln (by unfold od_L; rw [e8]; exact h.le) (fun i hi => by rw [o _ (by omega)]; exact h.cap i hi) (by rw [e1]; exact h.st) (by rw [e8]; exact h.fr) (fun q => absurd q (by omega)) (fun q => absurd q (by omega)) (fun q => absurd q (by omega)) (fun _ _ c c0 c1 => hA c c0 (by rw [e8] at c1; exact c1))

set_option maxHeartbeats 1000000 in
theorem edit_ok {Cs : Int → Int → Int} {z z' zr z2 : Nat → Int} {ar ar' arr ar2 : Nat → Nat × (Nat → Int32)} {g' : Int → Int → Int} (h : HX Cs z ar) (E : od_E (Cs (z 21)) (hq_g ar 190) z ar z' ar') (hz : ∀ k, k ≠ 23 → k ≠ 27 → k ≠ 29 → zr k = hw_ee z' k) (h23 : zr 23 = z 8) (ha : ∀ r, r < 200 ∨ r = 200 ∨ r = 201 ∨ r = 204 ∨ r = 205 ∨ r = 206 → arr r = ar' r) (hl : ∀ r, (arr r).1 = (ar' r).1) (hd : mo_ed zr arr g' z2 ar2) (K : mo_K g') (g4 : ∀ e f, 400 ≤ e → 0 ≤ f → f < 14 → g' e f = mo_g ar e f) (R' : RR (hq_g ar' 190) g' (z 8)) (chg : z' 7 = 1 ↔ ¬ ∀ e f, 0 ≤ e → e < 400 → 0 ≤ f → f < 14 → g' e f = mo_g ar e f) (n8 : z 21 < 80000) (n6 : z 6 < 80000) : (∃ Cs', HX Cs' z2 ar2) ∧ (∀ k, (k = 0 ∨ k = 9 ∨ k = 26 ∨ k = 28) → z2 k = z k) ∧ (∀ r, (r < 200 ∧ r ≠ 189 ∧ r ≠ 190 ∧ r ≠ 191 ∧ ¬ (5 ≤ r ∧ r < 188)) ∨ r = 204 ∨ r = 205 ∨ r = 206 → ar2 r = ar r) ∧ (∀ r, (ar2 r).1 = (ar' r).1) ∧ z2 29 = 0 ∧ z2 21 ≤ z 21 + 1 ∧ z2 1 ≤ z 1 + 1 ∧ z2 6 ≤ z 6 + 1 ∧ z2 8 = z 8 := by
  have w0 := h.w
  have k6 := w0.h6
  have mh := h.mh
  have jj := E.h.jj
  have ej := E.j
  have jn := h.jn
  have e7 := E.h.h7
  have mz := E.m
  have e6 := E.e6
  have zo : ∀ k, k ≠ 1 → k ≠ 4 → k ≠ 7 → k ≠ 105 + 3 * hw_j z → z' k = z k := E.zo
  have k1 := zo 5 (by decide) (by decide) (by decide) (by omega)
  have z5 := h.h5
  have z2r := w0.h2
  have z3r := w0.h3
  have ud := h.ud
  have rd := h.rd
  have ol := h.ol
  have nl := h.nl
  have l60 := h.l60
  have o0 := mh.o0
  have z2' := zo 2 (by decide) (by decide) (by decide) (by omega)
  have z3' := zo 3 (by decide) (by decide) (by decide) (by omega)
  have zk : ∀ k, 20 ≤ k → k ≤ 28 → k ≠ 23 → k ≠ 27 → zr k = z k := fun k k0 k1 k2 k3 => by
    rw [hz k k2 k3 (by omega), hw_ee_o (by omega) (by omega) (by omega) (by omega), zo k (by omega) (by omega) (by omega) (by omega)]
  have a200 : arr 200 = ar 200 := by rw [ha 200 (by omega), E.ao 200 (by decide) (by decide) (by decide) (by omega) (by omega)]
  have a201 : arr 201 = ar 201 := by rw [ha 201 (by omega), E.ao 201 (by decide) (by decide) (by decide) (by omega) (by omega)]
  have eg : ∀ e f, mo_g arr e f = mo_g ar e f := fun e f => hq_g_ne a200 _
  have sm : mo_same (mo_w (mo_bg arr) g') 5600 ↔ ∀ e f, 0 ≤ e → e < 400 → 0 ≤ f → f < 14 → g' e f = mo_g ar e f := by
    rw [mo_same_iff K]
    exact ⟨fun q e f e0 e1 f0 f1 => (q e f e0 e1 f0 f1).trans (eg e f), fun q e f e0 e1 f0 f1 => (q e f e0 e1 f0 f1).trans (eg e f).symm⟩
  -- the arrays of the state before done
  have Xo : ∀ r, r ≠ 200 → r ≠ 202 → mo_w (mo_bg arr) g' r = arr r := fun r h1 h2 => (mo_w_ne h1).trans (mo_bg_ne h2)
  have Xl : ∀ r, (mo_w (mo_bg arr) g' r).1 = (ar' r).1 := fun r => by rw [mo_w_len, mo_bg_len, hl r]
  have Xg : ∀ e f, 0 ≤ e → 0 ≤ f → f < 14 → mo_g (mo_w (mo_bg arr) g') e f = g' e f := fun e f e0 f0 f1 => mo_w_g K e0 f0 f1
  have al : ∀ r, 200 ≤ r → (ar' r).1 = (ar r).1 := fun r hr => by rw [E.ao r (by omega) (by omega) (by omega) (by omega) (by omega)]
  have X202 : ∀ e f, 0 ≤ e → e < 400 → 0 ≤ f → f < 14 → hq_g (mo_w (mo_bg arr) g') 202 (14 * e + f) = mo_g ar e f := fun e f e0 e1 f0 f1 => by
    exact (mo_bg_202 e0 e1 f0 f1).trans (eg e f)
  have Xp : ∀ k e f, hi_p (mo_w (mo_bg arr) g') k e f = hi_p ar k e f := fun k e f => hq_g_ne ((Xo 201 (by decide) (by decide)).trans a201) _
  have mhX : ∀ (zz : Nat → Int) (Y : Nat → Nat × (Nat → Int32)), (∀ r, (Y r).1 = (mo_w (mo_bg arr) g' r).1) → 0 ≤ zz 21 → zz 21 < 90000 → 0 ≤ zz 20 → zz 20 ≤ zz 21 → (zz 24 = 0 ∨ zz 24 = 1) → 0 ≤ zz 25 → zz 25 ≤ 90000 → mo_H zz Y := fun zz Y hY a1 a2 a3 a4 a5 a6 a7 => by
    have q : ∀ r, 200 ≤ r → (Y r).1 = (ar r).1 := fun r hr => by rw [hY r, Xl r, al r hr]
    exact mo_H.mk ((q 200 (by decide)).trans mh.l0) ((q 201 (by decide)).trans mh.l1) ((q 202 (by decide)).trans mh.l2) ((q 203 (by decide)).trans mh.l3) ((q 204 (by decide)).trans mh.l4) ((q 205 (by decide)).trans mh.l5) ((q 206 (by decide)).trans mh.l6) ((q 207 (by decide)).trans mh.l7) a1 a2 a3 a4 a5 a6 a7
  have z1b := E.z1
  have z1c : z' 1 ≤ z 1 + 1 := by
    rw [z1b]
    split <;> omega
  have ed := h.ed
  have opn := h.op
  have h56 := h.h56
  have n1 := mh.n1
  have fin : ∀ (Y : Nat → Nat × (Nat → Int32)), (∀ r, r ≠ 201 → Y r = mo_w (mo_bg arr) g' r) → (∀ r, (r < 200 ∧ r ≠ 189 ∧ r ≠ 190 ∧ r ≠ 191 ∧ ¬ (5 ≤ r ∧ r < 188)) ∨ r = 204 ∨ r = 205 ∨ r = 206 → Y r = ar r) := fun Y hY r hr => by
    rw [hY r (by omega), Xo r (by omega) (by omega), ha r (by omega), E.ao r (by omega) (by omega) (by omega) (by omega) (by omega)]
  have slot : ∀ k, k < z 21 → z 21 - k ≤ 60 → hi_j k ≠ hw_j z := fun k k0 k1 => by
    rw [jn]
    exact hi_j_ne (by omega) (by omega) (by omega)
  have jz : ∀ k, hi_j k < 61 := hi_j_lt
  rcases hd with ⟨s, rfl, rfl⟩ | ⟨s, o24, rfl, rfl⟩ | ⟨s, o24, rfl, rfl⟩
  · -- nothing has changed
    have gg := sm.mp s
    have nc : z' 7 = 0 := by
      rcases e7 with q | q
      · exact q
      · exact absurd gg (chg.mp q)
    have hN := E.nc nc
    have ee : ∀ k, hw_ee z' k = z k := fun k => by
      unfold hw_ee
      rw [if_pos nc]
      exact hN.1 k
    have zz : ∀ k, k ≠ 23 → k ≠ 27 → k ≠ 29 → hq_u zr 29 0 k = z k := fun k k2 k3 k4 => by rw [hq_u_ne k4, hz k k2 k3 k4, ee]
    have z23 : hq_u zr 29 0 23 = z 23 := by rw [hq_u_ne (by decide), h23, h.m8]
    have x200 : mo_w (mo_bg arr) g' 200 = ar 200 := by
      unfold mo_w
      rw [hq_u_at]
      refine Prod.ext ?_ (funext fun j => ?_)
      · show (mo_bg arr 200).1 = (ar 200).1
        rw [mo_bg_len, hl 200, al 200 (by decide)]
      · show zI (g' ((j / 14 : Nat) : Int) ((j % 14 : Nat) : Int)) = (ar 200).2 j
        have q : g' ((j / 14 : Nat) : Int) ((j % 14 : Nat) : Int) = mo_g ar ((j / 14 : Nat) : Int) ((j % 14 : Nat) : Int) := by
          by_cases y : j / 14 < 400
          · exact gg _ _ (by omega) (by omega) (by omega) (by omega)
          · exact g4 _ _ (by omega) (by omega) (by omega)
        rw [q]
        show zI ((ar 200).2 (14 * ((j / 14 : Nat) : Int) + ((j % 14 : Nat) : Int)).toNat).toInt = _
        rw [zI_x, show (14 * ((j / 14 : Nat) : Int) + ((j % 14 : Nat) : Int)).toNat = j by omega]
    refine ⟨⟨Cs, h.cg (fun k hk => ?_) (fun r hr => ?_) (fun r r0 r1 => ?_)⟩, fun k hk => zz k (by omega) (by omega) (by omega), fin _ (fun r _ => rfl), Xl, rfl, ?_, ?_, ?_, ?_⟩
    · by_cases y : k = 23
      · rw [y]
        exact z23
      · exact zz k y (by omega) (by omega)
    · by_cases y : r = 200
      · rw [y]
        exact x200
      · rw [Xo r y (by omega), ha r (by omega)]
        exact hN.2 r (by omega)
    · rw [Xl r, al r (by omega)]
    · rw [zz 21 (by decide) (by decide) (by decide)]
      omega
    · rw [zz 1 (by decide) (by decide) (by decide)]
      omega
    · rw [zz 6 (by decide) (by decide) (by decide)]
      omega
    · rw [zz 8 (by decide) (by decide) (by decide)]
  · -- within a group
    have h7 : z' 7 = 1 := chg.mpr (fun q => s (sm.mpr q))
    have g5 : z 5 = 1 := by
      rw [zk 24 (by decide) (by decide) (by decide) (by decide)] at o24
      omega
    have ee : hw_ee z' = hq_u (hq_u z' 7 0) 6 (z' 6 + 1) := by
      unfold hw_ee
      rw [if_neg (by omega), if_neg (by omega)]
    have z25 := zk 25 (by decide) (by decide) (by decide) (by decide)
    have z21 := zk 21 (by decide) (by decide) (by decide) (by decide)
    have z20 := zk 20 (by decide) (by decide) (by decide) (by decide)
    have w1 := E.h.eg h7 (by omega)
    have gd := E.h.gd (Or.inl h7)
    -- the state's numbers
    have Z : ∀ k, k ≠ 22 → k ≠ 23 → k ≠ 25 → k ≠ 27 → k ≠ 29 → hq_u (hq_u (hq_u zr 29 0) 25 (zr 25 + 1)) 22 (zr 21) k = hq_u (hq_u z' 7 0) 6 (z' 6 + 1) k := fun k k1 k2 k3 k4 k5 => by rw [hq_u_ne k1, hq_u_ne k3, hq_u_ne k5, hz k k2 k4 k5, ee]
    have Zz : ∀ k, k ≠ 1 → k ≠ 4 → k ≠ 6 → k ≠ 7 → k ≠ 22 → k ≠ 23 → k ≠ 25 → k ≠ 27 → k ≠ 29 → k ≠ 105 + 3 * hw_j z → hq_u (hq_u (hq_u zr 29 0) 25 (zr 25 + 1)) 22 (zr 21) k = z k := fun k k1 k2 k3 k4 k5 k6 k7 k8 k9 k10 => by rw [Z k k5 k6 k7 k8 k9, hq_u_ne k3, hq_u_ne k4, zo k k1 k2 k4 k10]
    generalize hY : (if zr 25 = 0 then hq_cp (mo_w (mo_bg arr) g') 201 202 (5600 * (zr 21 % 61)) 0 5600 else mo_w (mo_bg arr) g') = Y at *
    have Yo : ∀ r, r ≠ 201 → Y r = mo_w (mo_bg arr) g' r := fun r hr => by
      rw [← hY]
      split
      · exact hq_u_ne hr
      · rfl
    have Yl : ∀ r, (Y r).1 = (mo_w (mo_bg arr) g' r).1 := fun r => by
      rw [← hY]
      split
      · exact hq_cp_len _ _ _ _ _ _ _
      · rfl
    have Yc : ∀ r, r = 190 ∨ r = 191 ∨ (5 ≤ r ∧ r < 188) → Y r = ar' r := fun r hr => by rw [Yo r (by omega), Xo r (by omega) (by omega), ha r (by omega)]
    have Yg : ∀ e f, 0 ≤ e → 0 ≤ f → f < 14 → mo_g Y e f = g' e f := fun e f e0 f0 f1 => (hq_g_ne (Yo 200 (by decide)) _).trans (Xg e f e0 f0 f1)
    have w2 : hw (Cs (z 21)) (hq_u (hq_u (hq_u zr 29 0) 25 (zr 25 + 1)) 22 (zr 21)) Y := w1.cg (fun k hk => Z k (by omega) (by omega) (by omega) (by omega) (by omega)) Yc
    have e21 : hq_u (hq_u (hq_u zr 29 0) 25 (zr 25 + 1)) 22 (zr 21) 21 = z 21 := Zz 21 (by decide) (by decide) (by decide) (by decide) (by decide) (by decide) (by decide) (by decide) (by decide) (by omega)
    have e20 : hq_u (hq_u (hq_u zr 29 0) 25 (zr 25 + 1)) 22 (zr 21) 20 = z 20 := Zz 20 (by decide) (by decide) (by decide) (by decide) (by decide) (by decide) (by decide) (by decide) (by decide) (by omega)
    have e22 : hq_u (hq_u (hq_u zr 29 0) 25 (zr 25 + 1)) 22 (zr 21) 22 = z 21 := by rw [hq_u_at, z21]
    have e8 : hq_u (hq_u (hq_u zr 29 0) 25 (zr 25 + 1)) 22 (zr 21) 8 = z 8 := Zz 8 (by decide) (by decide) (by decide) (by decide) (by decide) (by decide) (by decide) (by decide) (by decide) (by omega)
    have e5 : hq_u (hq_u (hq_u zr 29 0) 25 (zr 25 + 1)) 22 (zr 21) 5 = z 5 := Zz 5 (by decide) (by decide) (by decide) (by decide) (by decide) (by decide) (by decide) (by decide) (by decide) (by omega)
    have e24 : hq_u (hq_u (hq_u zr 29 0) 25 (zr 25 + 1)) 22 (zr 21) 24 = z 24 := Zz 24 (by decide) (by decide) (by decide) (by decide) (by decide) (by decide) (by decide) (by decide) (by decide) (by omega)
    have e25 : hq_u (hq_u (hq_u zr 29 0) 25 (zr 25 + 1)) 22 (zr 21) 25 = z 6 + 1 := by rw [hq_u_ne (by decide), hq_u_at, z25, ed]
    have e23 : hq_u (hq_u (hq_u zr 29 0) 25 (zr 25 + 1)) 22 (zr 21) 23 = z 8 := by rw [hq_u_ne (by decide), hq_u_ne (by decide), hq_u_ne (by decide), h23]
    have e6' : hq_u (hq_u (hq_u zr 29 0) 25 (zr 25 + 1)) 22 (zr 21) 6 = z 6 + 1 := by rw [Z 6 (by decide) (by decide) (by decide) (by decide) (by decide), hq_u_at, e6]
    have e7' : hq_u (hq_u (hq_u zr 29 0) 25 (zr 25 + 1)) 22 (zr 21) 7 = 0 := by rw [Z 7 (by decide) (by decide) (by decide) (by decide) (by decide), hq_u_ne (by decide), hq_u_at]
    have e4 : hq_u (hq_u (hq_u zr 29 0) 25 (zr 25 + 1)) 22 (zr 21) 4 = 0 := by rw [Z 4 (by decide) (by decide) (by decide) (by decide) (by decide), hq_u_ne (by decide), hq_u_ne (by decide), gd.1]
    have e3 : hq_u (hq_u (hq_u zr 29 0) 25 (zr 25 + 1)) 22 (zr 21) 3 = z 3 := Zz 3 (by decide) (by decide) (by decide) (by decide) (by decide) (by decide) (by decide) (by decide) (by decide) (by omega)
    have e2 : hq_u (hq_u (hq_u zr 29 0) 25 (zr 25 + 1)) 22 (zr 21) 2 = z 2 := Zz 2 (by decide) (by decide) (by decide) (by decide) (by decide) (by decide) (by decide) (by decide) (by decide) (by omega)
    have e1 : hq_u (hq_u (hq_u zr 29 0) 25 (zr 25 + 1)) 22 (zr 21) 1 = z' 1 := by rw [Z 1 (by decide) (by decide) (by decide) (by decide) (by decide), hq_u_ne (by decide), hq_u_ne (by decide)]
    have e29 : hq_u (hq_u (hq_u zr 29 0) 25 (zr 25 + 1)) 22 (zr 21) 29 = 0 := rfl
    have Zs : ∀ i : Nat, i < 61 → i ≠ hw_j z → hq_u (hq_u (hq_u zr 29 0) 25 (zr 25 + 1)) 22 (zr 21) (105 + 3 * i) = z (105 + 3 * i) := fun i i0 i1 => Zz _ (by omega) (by omega) (by omega) (by omega) (by omega) (by omega) (by omega) (by omega) (by omega) (by omega)
    have Zf : ∀ k, (k = 0 ∨ k = 9 ∨ k = 26 ∨ k = 28) → hq_u (hq_u (hq_u zr 29 0) 25 (zr 25 + 1)) 22 (zr 21) k = z k := fun k hk => Zz k (by omega) (by omega) (by omega) (by omega) (by omega) (by omega) (by omega) (by omega) (by omega) (by omega)
    generalize hq_u (hq_u (hq_u zr 29 0) 25 (zr 25 + 1)) 22 (zr 21) = zz at *
    refine ⟨⟨Cs, ?_⟩, Zf, fin Y Yo, fun r => (Yl r).trans (Xl r), e29, by omega, by omega, by omega, e8⟩
    refine HX.mk (by rw [e21]; exact w2) e7' (by omega) (by omega) (by omega) (by omega) (by omega) (by omega) (by omega) (by omega) (by rw [e2, e20]; exact ol) (by omega) (mhX zz Y Yl (by omega) (by omega) (by omega) (by omega) (by omega) (by omega) (by omega)) ?_ (fun e f x0 x1 x2 => ?_) (fun k x0 x1 => ?_) (fun k x0 x1 => absurd x1 (by omega)) (fun k x0 x1 => ?_)
    · rw [e8]
      exact R'.cg (fun i _ _ => hq_g_ne (Yc 190 (by omega)) i) (fun e f x0 _ x2 x3 => Yg e f x0 x2 x3)
    · rw [Yg e f (by omega) x1 x2, g4 e f x0 x1 x2]
      exact h.nz e f x0 x1 x2
    · rw [e20] at x0
      rw [e21] at x1
      have ns := slot k x1 (by omega)
      have := jz k
      refine hi_l_cg (h.hu k x0 x1) e8 (Zs _ (jz k) ns) ?_ ?_
      · rw [Yc _ (by omega), E.ao _ (by omega) (by omega) (by omega) (by omega) (by omega)]
      · rw [Yc _ (by omega), E.ao _ (by omega) (by omega) (by omega) (by omega) (by omega)]
    · rw [e20] at x0
      rw [e22] at x1
      rw [e8]
      by_cases y : zr 25 = 0
      · rw [if_pos y] at hY
        by_cases y2 : k = z 21
        · have cA : ∀ i, 0 ≤ i → i < 401 + 16 * z 8 → Cs k i = hq_g ar 190 i := fun i i0 i1 => by
            rw [y2]
            exact (w0.no h.h7 (by omega) i i0 i1).symm
          refine h.rr.cg cA (fun e f a0 a1 b0 b1 => ?_)
          rw [← hY, hi_p_cp ⟨a0, a1⟩ ⟨b0, b1⟩, if_pos (by rw [z21, y2]), X202 e f a0 a1 b0 b1]
        · refine (h.hp k x0 (by omega)).cg (fun _ _ _ => rfl) (fun e f a0 a1 b0 b1 => ?_)
          rw [← hY, hi_p_cp ⟨a0, a1⟩ ⟨b0, b1⟩, if_neg (by rw [z21]; omega), Xp]
      · rw [if_neg y] at hY
        refine (h.hp k x0 (by omega)).cg (fun _ _ _ => rfl) (fun e f a0 a1 b0 b1 => ?_)
        rw [← hY, Xp]
  · -- a step of its own
    have h7 : z' 7 = 1 := chg.mpr (fun q => s (sm.mpr q))
    have g5 : z 5 = 0 := by
      rw [zk 24 (by decide) (by decide) (by decide) (by decide)] at o24
      omega
    have g6 := h56 g5
    have ee : hw_ee z' = hw_es (hq_u (hq_u z' 7 0) 6 (z' 6 + 1)) := by
      unfold hw_ee
      rw [if_neg (by omega), if_pos (by omega)]
    have z21 := zk 21 (by decide) (by decide) (by decide) (by decide)
    have z20 := zk 20 (by decide) (by decide) (by decide) (by decide)
    have z25 := zk 25 (by decide) (by decide) (by decide) (by decide)
    have gd := E.h.gd (Or.inl h7)
    -- the desk's numbers
    have D3 : hw_ee z' 3 = if z 3 < 60 then z 3 + 1 else z 3 := by
      rw [ee]
      unfold hw_es
      have q : hq_u (hq_u z' 7 0) 6 (z' 6 + 1) 3 = z 3 := z3'
      rw [q]
      split
      · rfl
      · exact q
    have D2 : hw_ee z' 2 = if z 3 < 60 then z 2 else (z 2 + 1) % 61 := by
      rw [ee]
      unfold hw_es
      have q : hq_u (hq_u z' 7 0) 6 (z' 6 + 1) 3 = z 3 := z3'
      have q2 : hq_u (hq_u z' 7 0) 6 (z' 6 + 1) 2 = z 2 := z2'
      rw [q, q2]
      split
      · exact q2
      · rfl
    have D6 : hw_ee z' 6 = 0 := by
      rw [ee]
      unfold hw_es
      split <;> rfl
    have D7 := hw_ee_7 z' e7
    have Do : ∀ k, k ≠ 2 → k ≠ 3 → k ≠ 6 → k ≠ 7 → hw_ee z' k = z' k := fun k k1 k2 k3 k4 => hw_ee_o k1 k2 k3 k4
    have S21 : mo_stz (hq_u zr 29 0) 21 = z 21 + 1 := by
      rw [mo_stz_21, hq_u_ne (by decide), z21]
    have S22 : mo_stz (hq_u zr 29 0) 22 = z 21 + 1 := by
      unfold mo_stz
      split
      · rw [hq_u_at, hq_u_ne (by decide), z21]
      · rw [hq_u_ne (by decide), hq_u_at, hq_u_ne (by decide), z21]
    have S20 : mo_stz (hq_u zr 29 0) 20 = if z 21 + 1 - z 20 ≤ 60 then z 20 else z 21 + 1 - 60 := by
      unfold mo_stz
      rw [show hq_u zr 29 0 21 = z 21 from z21, show hq_u zr 29 0 20 = z 20 from z20]
      split
      · rw [hq_u_ne (by decide), hq_u_ne (by decide)]
        exact z20
      · rw [hq_u_at]
    have So : ∀ k, k ≠ 20 → k ≠ 21 → k ≠ 22 → k ≠ 29 → mo_stz (hq_u zr 29 0) k = zr k := fun k k1 k2 k3 k4 => by
      unfold mo_stz
      split
      · rw [hq_u_ne k3, hq_u_ne k2, hq_u_ne k4]
      · rw [hq_u_ne k1, hq_u_ne k3, hq_u_ne k2, hq_u_ne k4]
    have S29 : mo_stz (hq_u zr 29 0) 29 = 0 := by
      unfold mo_stz
      split <;> rfl
    have Z : ∀ k, k ≠ 20 → k ≠ 21 → k ≠ 22 → k ≠ 23 → k ≠ 27 → k ≠ 29 → mo_stz (hq_u zr 29 0) k = hw_ee z' k := fun k k1 k2 k3 k4 k5 k6 => by rw [So k k1 k2 k3 k6, hz k k4 k5 k6]
    have e3 := (Z 3 (by decide) (by decide) (by decide) (by decide) (by decide) (by decide)).trans D3
    have e2 := (Z 2 (by decide) (by decide) (by decide) (by decide) (by decide) (by decide)).trans D2
    have e6' := (Z 6 (by decide) (by decide) (by decide) (by decide) (by decide) (by decide)).trans D6
    have e7' := (Z 7 (by decide) (by decide) (by decide) (by decide) (by decide) (by decide)).trans D7
    have Zo : ∀ k, k ≠ 2 → k ≠ 3 → k ≠ 6 → k ≠ 7 → k ≠ 20 → k ≠ 21 → k ≠ 22 → k ≠ 23 → k ≠ 27 → k ≠ 29 → mo_stz (hq_u zr 29 0) k = z' k := fun k a1 a2 a3 a4 a5 a6 a7 a8 a9 b1 => (Z k a5 a6 a7 a8 a9 b1).trans (Do k a1 a2 a3 a4)
    have e1 : mo_stz (hq_u zr 29 0) 1 = z' 1 := Zo 1 (by decide) (by decide) (by decide) (by decide) (by decide) (by decide) (by decide) (by decide) (by decide) (by decide)
    have e4 : mo_stz (hq_u zr 29 0) 4 = 0 := (Zo 4 (by decide) (by decide) (by decide) (by decide) (by decide) (by decide) (by decide) (by decide) (by decide) (by decide)).trans gd.1
    have Zz : ∀ k, k ≠ 1 → k ≠ 2 → k ≠ 3 → k ≠ 4 → k ≠ 6 → k ≠ 7 → k ≠ 20 → k ≠ 21 → k ≠ 22 → k ≠ 23 → k ≠ 27 → k ≠ 29 → k ≠ 105 + 3 * hw_j z → mo_stz (hq_u zr 29 0) k = z k := fun k a0 a1 a2 a3 a4 a5 a6 a7 a8 a9 b1 b2 b3 => (Zo k a1 a2 a4 a5 a6 a7 a8 a9 b1 b2).trans (zo k a0 a3 a5 b3)
    have e8 : mo_stz (hq_u zr 29 0) 8 = z 8 := Zz 8 (by decide) (by decide) (by decide) (by decide) (by decide) (by decide) (by decide) (by decide) (by decide) (by decide) (by decide) (by decide) (by omega)
    have e5 : mo_stz (hq_u zr 29 0) 5 = z 5 := Zz 5 (by decide) (by decide) (by decide) (by decide) (by decide) (by decide) (by decide) (by decide) (by decide) (by decide) (by decide) (by decide) (by omega)
    have e24 : mo_stz (hq_u zr 29 0) 24 = z 24 := (So 24 (by decide) (by decide) (by decide) (by decide)).trans (zk 24 (by decide) (by decide) (by decide) (by decide))
    have e25 : mo_stz (hq_u zr 29 0) 25 = z 25 := (So 25 (by decide) (by decide) (by decide) (by decide)).trans z25
    have e23 : mo_stz (hq_u zr 29 0) 23 = z 8 := (So 23 (by decide) (by decide) (by decide) (by decide)).trans h23
    have Zs : ∀ i : Nat, i < 61 → i ≠ hw_j z → mo_stz (hq_u zr 29 0) (105 + 3 * i) = z (105 + 3 * i) := fun i i0 i1 => Zz _ (by omega) (by omega) (by omega) (by omega) (by omega) (by omega) (by omega) (by omega) (by omega) (by omega) (by omega) (by omega) (by omega)
    have Zt : ∀ k, 105 ≤ k → mo_stz (hq_u zr 29 0) k = z' k := fun k hk => Zo k (by omega) (by omega) (by omega) (by omega) (by omega) (by omega) (by omega) (by omega) (by omega) (by omega)
    have Zf : ∀ k, (k = 0 ∨ k = 9 ∨ k = 26 ∨ k = 28) → mo_stz (hq_u zr 29 0) k = z k := fun k hk => by
      by_cases y : k = 26 ∨ k = 28
      · exact (So k (by omega) (by omega) (by omega) (by omega)).trans (zk k (by omega) (by omega) (by omega) (by omega))
      · exact Zz k (by omega) (by omega) (by omega) (by omega) (by omega) (by omega) (by omega) (by omega) (by omega) (by omega) (by omega) (by omega) (by omega)
    generalize mo_stz (hq_u zr 29 0) = zz at *
    generalize hY : hq_cp (hq_cp (mo_w (mo_bg arr) g') 201 202 (5600 * (zr 21 % 61)) 0 5600) 201 200 (5600 * ((zr 21 + 1) % 61)) 0 5600 = Y at *
    have Yo : ∀ r, r ≠ 201 → Y r = mo_w (mo_bg arr) g' r := fun r hr => by
      rw [← hY]
      exact (hq_u_ne hr).trans (hq_u_ne hr)
    have Yl : ∀ r, (Y r).1 = (mo_w (mo_bg arr) g' r).1 := fun r => by
      rw [← hY]
      exact (hq_cp_len _ _ _ _ _ _ _).trans (hq_cp_len _ _ _ _ _ _ _)
    have Yc : ∀ r, r = 190 ∨ r = 191 ∨ (5 ≤ r ∧ r < 188) → Y r = ar' r := fun r hr => by rw [Yo r (by omega), Xo r (by omega) (by omega), ha r (by omega)]
    have Yg : ∀ e f, 0 ≤ e → 0 ≤ f → f < 14 → mo_g Y e f = g' e f := fun e f e0 f0 f1 => (hq_g_ne (Yo 200 (by decide)) _).trans (Xg e f e0 f0 f1)
    have Yp : ∀ k e f, 0 ≤ e → e < 400 → 0 ≤ f → f < 14 → hi_p Y k e f = if k % 61 = (z 21 + 1) % 61 then g' e f else if k % 61 = z 21 % 61 then mo_g ar e f else hi_p ar k e f := fun k e f a0 a1 b0 b1 => by
      rw [← hY, hi_p_cp ⟨a0, a1⟩ ⟨b0, b1⟩, hi_p_cp ⟨a0, a1⟩ ⟨b0, b1⟩, z21, X202 e f a0 a1 b0 b1, Xp]
      by_cases y : k % 61 = (z 21 + 1) % 61
      · rw [if_pos y, if_pos y]
        exact (hq_g_ne (hq_u_ne (by decide)) _).trans (Xg e f a0 b0 b1)
      · rw [if_neg y, if_neg y]
    have l3 : z 4 = 0 ∨ 0 ≤ z 4 := by omega
    -- the new snapshots
    have hA : ∀ c, 0 ≤ c → c < 401 + 16 * z 8 → hq_g ar' 190 c = (fun k => if k = z 21 + 1 then hq_g ar' 190 else Cs k) (z 21 + 1) c := fun c _ _ => by
      show _ = (if z 21 + 1 = z 21 + 1 then hq_g ar' 190 else Cs (z 21 + 1)) c
      rw [if_pos rfl]
    have w1 : hw ((fun k => if k = z 21 + 1 then hq_g ar' 190 else Cs k) (z 21 + 1)) zz ar' := E.h.st0 (by rw [e2]; split <;> omega) (by rw [e3]; split <;> omega) e6' e7' e1 (e8.trans mz.symm) Zt (fun c c0 c1 => hA c c0 (by rw [mz] at c1; exact c1))
    have w2 := w1.cg (z' := zz) (ar' := Y) (fun _ _ => rfl) Yc
    refine ⟨⟨fun k => if k = z 21 + 1 then hq_g ar' 190 else Cs k, ?_⟩, Zf, fin Y Yo, fun r => (Yl r).trans (Xl r), S29, by omega, by omega, by omega, e8⟩
    refine HX.mk (by rw [S21]; exact w2) e7' (by omega) (by omega) (by omega) (by omega) (by omega) ?_ (by omega) (by omega) ?_ ?_ (mhX zz Y Yl (by omega) (by omega) (by rw [S20]; split <;> omega) (by rw [S20]; split <;> omega) (by omega) (by omega) (by omega)) ?_ (fun e f x0 x1 x2 => ?_) (fun k x0 x1 => ?_) (fun k x0 x1 => absurd x1 (by omega)) (fun k x0 x1 => ?_)
    · rw [e3, S21, S20]
      split <;> split <;> omega
    · rw [e2, S20]
      split <;> split <;> omega
    · rw [S22, S20]
      split <;> omega
    · rw [e8]
      exact R'.cg (fun i _ _ => hq_g_ne (Yc 190 (by omega)) i) (fun e f x0 _ x2 x3 => Yg e f x0 x2 x3)
    · rw [Yg e f (by omega) x1 x2, g4 e f x0 x1 x2]
      exact h.nz e f x0 x1 x2
    · have x2 : z 20 ≤ k ∧ z 21 + 1 - k ≤ 60 := by
        rw [S20] at x0
        split at x0 <;> omega
      rw [S21] at x1
      by_cases y : k = z 21
      · have q := E.h.gl (Or.inl h7)
        rw [ej, mz] at q
        show hi_l zz Y k (if k = z 21 + 1 then hq_g ar' 190 else Cs k) (if k + 1 = z 21 + 1 then hq_g ar' 190 else Cs (k + 1))
        rw [if_neg (by omega), if_pos (by omega), y]
        unfold hi_l
        rw [e8, ← jn, Zt (105 + 3 * hw_j z) (by omega), show hq_g Y (5 + 3 * hw_j z + 1) = hq_g ar' (5 + 3 * hw_j z + 1) from funext fun i => hq_g_ne (Yc _ (by omega)) i, show hq_g Y (5 + 3 * hw_j z + 2) = hq_g ar' (5 + 3 * hw_j z + 2) from funext fun i => hq_g_ne (Yc _ (by omega)) i]
        exact q
      · have ns := slot k (by omega) (by omega)
        have := jz k
        show hi_l zz Y k (if k = z 21 + 1 then hq_g ar' 190 else Cs k) (if k + 1 = z 21 + 1 then hq_g ar' 190 else Cs (k + 1))
        rw [if_neg (by omega), if_neg (by omega)]
        refine hi_l_cg (h.hu k x2.1 (by omega)) e8 (Zs _ (jz k) ns) ?_ ?_
        · rw [Yc _ (by omega), E.ao _ (by omega) (by omega) (by omega) (by omega) (by omega)]
        · rw [Yc _ (by omega), E.ao _ (by omega) (by omega) (by omega) (by omega) (by omega)]
    · have x2 : z 20 ≤ k ∧ z 21 + 1 - k ≤ 60 := by
        rw [S20] at x0
        split at x0 <;> omega
      rw [S22] at x1
      rw [e8]
      show RR (if k = z 21 + 1 then hq_g ar' 190 else Cs k) (hi_p Y k) (z 8)
      by_cases y : k = z 21 + 1
      · rw [if_pos y]
        refine R'.cg (fun _ _ _ => rfl) (fun e f a0 a1 b0 b1 => ?_)
        rw [Yp k e f a0 a1 b0 b1, if_pos (by rw [y])]
      · rw [if_neg y]
        by_cases y2 : k = z 21
        · have cA : ∀ i, 0 ≤ i → i < 401 + 16 * z 8 → Cs k i = hq_g ar 190 i := fun i i0 i1 => by
            rw [y2]
            exact (w0.no h.h7 g6 i i0 i1).symm
          refine h.rr.cg cA (fun e f a0 a1 b0 b1 => ?_)
          rw [Yp k e f a0 a1 b0 b1, if_neg (by omega), if_pos (by rw [y2])]
        · refine (h.hp k x2.1 (by omega)).cg (fun _ _ _ => rfl) (fun e f a0 a1 b0 b1 => ?_)
          rw [Yp k e f a0 a1 b0 b1, if_neg (by omega), if_neg (by omega)]

