/-! the desk's cells and the reference's entries -/
def rr_f (C : Int → Int) (g : Int → Int → Int) (e : Int) : Prop :=
  (g e 3 = oV C e 3) ∧
  (g e 4 = oV C e 4) ∧
  (g e 5 = oV C e 5) ∧
  (g e 6 = oV C e 6) ∧
  (g e 7 = oV C e 9) ∧
  (g e 8 = oV C e 10) ∧
  (g e 9 = oV C e 11) ∧
  (g e 10 = oV C e 14) ∧
  (g e 11 = oV C e 15) ∧
  (g e 12 = oV C e 12) ∧
  (g e 13 = oV C e 13)
theorem rr_f.f3 {C : Int → Int} {g : Int → Int → Int} {e : Int} (h : rr_f C g e) : g e 3 = oV C e 3 := h.1
theorem rr_f.f4 {C : Int → Int} {g : Int → Int → Int} {e : Int} (h : rr_f C g e) : g e 4 = oV C e 4 := h.2.1
theorem rr_f.f5 {C : Int → Int} {g : Int → Int → Int} {e : Int} (h : rr_f C g e) : g e 5 = oV C e 5 := h.2.2.1
theorem rr_f.f6 {C : Int → Int} {g : Int → Int → Int} {e : Int} (h : rr_f C g e) : g e 6 = oV C e 6 := h.2.2.2.1
theorem rr_f.f7 {C : Int → Int} {g : Int → Int → Int} {e : Int} (h : rr_f C g e) : g e 7 = oV C e 9 := h.2.2.2.2.1
theorem rr_f.f8 {C : Int → Int} {g : Int → Int → Int} {e : Int} (h : rr_f C g e) : g e 8 = oV C e 10 := h.2.2.2.2.2.1
theorem rr_f.f9 {C : Int → Int} {g : Int → Int → Int} {e : Int} (h : rr_f C g e) : g e 9 = oV C e 11 := h.2.2.2.2.2.2.1
theorem rr_f.f10 {C : Int → Int} {g : Int → Int → Int} {e : Int} (h : rr_f C g e) : g e 10 = oV C e 14 := h.2.2.2.2.2.2.2.1
theorem rr_f.f11 {C : Int → Int} {g : Int → Int → Int} {e : Int} (h : rr_f C g e) : g e 11 = oV C e 15 := h.2.2.2.2.2.2.2.2.1
theorem rr_f.f12 {C : Int → Int} {g : Int → Int → Int} {e : Int} (h : rr_f C g e) : g e 12 = oV C e 12 := h.2.2.2.2.2.2.2.2.2.1
theorem rr_f.f13 {C : Int → Int} {g : Int → Int → Int} {e : Int} (h : rr_f C g e) : g e 13 = oV C e 13 := h.2.2.2.2.2.2.2.2.2.2
theorem rr_f.mk {C : Int → Int} {g : Int → Int → Int} {e : Int} (h_f3 : g e 3 = oV C e 3) (h_f4 : g e 4 = oV C e 4) (h_f5 : g e 5 = oV C e 5) (h_f6 : g e 6 = oV C e 6) (h_f7 : g e 7 = oV C e 9) (h_f8 : g e 8 = oV C e 10) (h_f9 : g e 9 = oV C e 11) (h_f10 : g e 10 = oV C e 14) (h_f11 : g e 11 = oV C e 15) (h_f12 : g e 12 = oV C e 12) (h_f13 : g e 13 = oV C e 13) : rr_f C g e := ⟨h_f3, h_f4, h_f5, h_f6, h_f7, h_f8, h_f9, h_f10, h_f11, h_f12, h_f13⟩
def rp_ok (r d : Int) : Prop := r = 0 ∨ (1 ≤ r ∧ r ≤ 100000 ∧ r / 10 % 10 ≤ 3 ∧ 1 ≤ r / 100 ∧ r / 100 ≤ 99 ∧ 0 ≤ d)
def rr_r (C : Int → Int) (e : Int) : Prop :=
  (0 ≤ oV C e 3 ∧ oV C e 3 ≤ 999999) ∧
  (0 ≤ oV C e 4 ∧ oV C e 4 ≤ 4) ∧
  (0 ≤ oV C e 5 ∧ oV C e 5 ≤ 3) ∧
  (0 ≤ oV C e 9 ∧ oV C e 9 ≤ 1) ∧
  (-1 ≤ oV C e 10 ∧ oV C e 10 ≤ 3652058) ∧
  (-1 ≤ oV C e 11 ∧ oV C e 11 ≤ 3652058) ∧
  (0 ≤ oV C e 12 ∧ oV C e 12 ≤ 1000000) ∧
  (0 ≤ oV C e 13 ∧ oV C e 13 ≤ 1000000) ∧
  (rp_ok (oV C e 14) (oV C e 10)) ∧
  (rp_ok (oV C e 15) (oV C e 11))
theorem rr_r.r3 {C : Int → Int} {e : Int} (h : rr_r C e) : 0 ≤ oV C e 3 ∧ oV C e 3 ≤ 999999 := h.1
theorem rr_r.r4 {C : Int → Int} {e : Int} (h : rr_r C e) : 0 ≤ oV C e 4 ∧ oV C e 4 ≤ 4 := h.2.1
theorem rr_r.r5 {C : Int → Int} {e : Int} (h : rr_r C e) : 0 ≤ oV C e 5 ∧ oV C e 5 ≤ 3 := h.2.2.1
theorem rr_r.r9 {C : Int → Int} {e : Int} (h : rr_r C e) : 0 ≤ oV C e 9 ∧ oV C e 9 ≤ 1 := h.2.2.2.1
theorem rr_r.r10 {C : Int → Int} {e : Int} (h : rr_r C e) : -1 ≤ oV C e 10 ∧ oV C e 10 ≤ 3652058 := h.2.2.2.2.1
theorem rr_r.r11 {C : Int → Int} {e : Int} (h : rr_r C e) : -1 ≤ oV C e 11 ∧ oV C e 11 ≤ 3652058 := h.2.2.2.2.2.1
theorem rr_r.r12 {C : Int → Int} {e : Int} (h : rr_r C e) : 0 ≤ oV C e 12 ∧ oV C e 12 ≤ 1000000 := h.2.2.2.2.2.2.1
theorem rr_r.r13 {C : Int → Int} {e : Int} (h : rr_r C e) : 0 ≤ oV C e 13 ∧ oV C e 13 ≤ 1000000 := h.2.2.2.2.2.2.2.1
theorem rr_r.r14 {C : Int → Int} {e : Int} (h : rr_r C e) : rp_ok (oV C e 14) (oV C e 10) := h.2.2.2.2.2.2.2.2.1
theorem rr_r.r15 {C : Int → Int} {e : Int} (h : rr_r C e) : rp_ok (oV C e 15) (oV C e 11) := h.2.2.2.2.2.2.2.2.2
theorem rr_r.mk {C : Int → Int} {e : Int} (h_r3 : 0 ≤ oV C e 3 ∧ oV C e 3 ≤ 999999) (h_r4 : 0 ≤ oV C e 4 ∧ oV C e 4 ≤ 4) (h_r5 : 0 ≤ oV C e 5 ∧ oV C e 5 ≤ 3) (h_r9 : 0 ≤ oV C e 9 ∧ oV C e 9 ≤ 1) (h_r10 : -1 ≤ oV C e 10 ∧ oV C e 10 ≤ 3652058) (h_r11 : -1 ≤ oV C e 11 ∧ oV C e 11 ≤ 3652058) (h_r12 : 0 ≤ oV C e 12 ∧ oV C e 12 ≤ 1000000) (h_r13 : 0 ≤ oV C e 13 ∧ oV C e 13 ≤ 1000000) (h_r14 : rp_ok (oV C e 14) (oV C e 10)) (h_r15 : rp_ok (oV C e 15) (oV C e 11)) : rr_r C e := ⟨h_r3, h_r4, h_r5, h_r9, h_r10, h_r11, h_r12, h_r13, h_r14, h_r15⟩
def RR (C : Int → Int) (g : Int → Int → Int) (m : Int) : Prop :=
  (od_N C m) ∧
  (mo_R g m (C 0) (oI C) (oD C)) ∧
  (∀ p, 0 ≤ p → p < C 0 → rr_f C g (oI C p)) ∧
  (∀ p, 0 ≤ p → p < C 0 → rr_r C (oI C p))
theorem RR.N {C : Int → Int} {g : Int → Int → Int} {m : Int} (h : RR C g m) : od_N C m := h.1
theorem RR.M {C : Int → Int} {g : Int → Int → Int} {m : Int} (h : RR C g m) : mo_R g m (C 0) (oI C) (oD C) := h.2.1
theorem RR.F {C : Int → Int} {g : Int → Int → Int} {m : Int} (h : RR C g m) : ∀ p, 0 ≤ p → p < C 0 → rr_f C g (oI C p) := h.2.2.1
theorem RR.G {C : Int → Int} {g : Int → Int → Int} {m : Int} (h : RR C g m) : ∀ p, 0 ≤ p → p < C 0 → rr_r C (oI C p) := h.2.2.2
theorem RR.mk {C : Int → Int} {g : Int → Int → Int} {m : Int} (h_N : od_N C m) (h_M : mo_R g m (C 0) (oI C) (oD C)) (h_F : ∀ p, 0 ≤ p → p < C 0 → rr_f C g (oI C p)) (h_G : ∀ p, 0 ≤ p → p < C 0 → rr_r C (oI C p)) : RR C g m := ⟨h_N, h_M, h_F, h_G⟩
section RS
variable {C C' : Int → Int} {g g' : Int → Int → Int} {m m' : Int}
theorem od_N.mono (N : od_N C m) (h : m ≤ m') (h4 : m' ≤ 400) : od_N C m' := od_N.mk N.W N.J (fun p p0 p1 => Int.lt_of_lt_of_le (N.lt p p0 p1) h) N.dp (by have := N.m0; omega) h4
theorem mo_R.mono {n : Int} {I D : Int → Int} (M : mo_R g m n I D) (h : m ≤ m') (h4 : m' ≤ 400) : mo_R g m' n I D := mo_R.mk M.W M.J (fun p p0 p1 => Int.lt_of_lt_of_le (M.lt p p0 p1) h) M.th M.R M.dp (by have := M.m0; omega) h4
theorem RR.mono (R : RR C g m) (h : m ≤ m') (h4 : m' ≤ 400) : RR C g m' := RR.mk (R.N.mono h h4) (R.M.mono h h4) R.F R.G
/-- the cells that matter agree -/
theorem RR.cI (R : RR C g m) (h : ∀ i, 0 ≤ i → i < 401 + 16 * m → C' i = C i) {p : Int} (p0 : 0 ≤ p) (p1 : p < C 0) : oI C' p = oI C p := by
  have nm := R.N.nm
  have m4 := R.N.m4
  exact h (1 + p) (by omega) (by have := R.N.m0; omega)
theorem RR.cV (R : RR C g m) (h : ∀ i, 0 ≤ i → i < 401 + 16 * m → C' i = C i) {p f : Int} (p0 : 0 ≤ p) (p1 : p < C 0) (f0 : 0 ≤ f) (f1 : f < 16) : oV C' (oI C p) f = oV C (oI C p) f := by
  have i0 := R.N.J.1 p p0 p1
  have i1 := R.N.lt p p0 p1
  exact h _ (by omega) (by omega)
theorem rr_f.cg {e : Int} (h : rr_f C g e) (hc : ∀ f, 0 ≤ f → f < 16 → oV C' e f = oV C e f) (hg : ∀ f, 0 ≤ f → f < 14 → g' e f = g e f) : rr_f C' g' e := by
  refine rr_f.mk ?_ ?_ ?_ ?_ ?_ ?_ ?_ ?_ ?_ ?_ ?_ <;> rw [hc _ (by decide) (by decide), hg _ (by decide) (by decide)]
  · exact h.f3
  · exact h.f4
  · exact h.f5
  · exact h.f6
  · exact h.f7
  · exact h.f8
  · exact h.f9
  · exact h.f10
  · exact h.f11
  · exact h.f12
  · exact h.f13
theorem rr_r.cg {e : Int} (h : rr_r C e) (hc : ∀ f, 0 ≤ f → f < 16 → oV C' e f = oV C e f) : rr_r C' e := by
  refine rr_r.mk ?_ ?_ ?_ ?_ ?_ ?_ ?_ ?_ ?_ ?_
  · rw [hc _ (by decide) (by decide)]; exact h.r3
  · rw [hc _ (by decide) (by decide)]; exact h.r4
  · rw [hc _ (by decide) (by decide)]; exact h.r5
  · rw [hc _ (by decide) (by decide)]; exact h.r9
  · rw [hc _ (by decide) (by decide)]; exact h.r10
  · rw [hc _ (by decide) (by decide)]; exact h.r11
  · rw [hc _ (by decide) (by decide)]; exact h.r12
  · rw [hc _ (by decide) (by decide)]; exact h.r13
  · rw [hc _ (by decide) (by decide), hc _ (by decide) (by decide)]; exact h.r14
  · rw [hc _ (by decide) (by decide), hc _ (by decide) (by decide)]; exact h.r15
theorem fo_R_g {g g' : Int → Int → Int} {I D : Int → Int} {n : Int} (R : fo_R g I D n) (h : ∀ p, 0 ≤ p → p < n → g' (I p) 1 = g (I p) 1 ∧ g' (I p) 2 = g (I p) 2) : fo_R g' I D n := fun p p0 p1 => ⟨(h p p0 p1).1.trans (R p p0 p1).1, (h p p0 p1).2.trans (R p p0 p1).2⟩
/-- rows that are the same, with fields that may differ -/
theorem RR.row (R : RR C g m) (h0 : C' 0 = C 0) (hI : ∀ p, 0 ≤ p → p < C 0 → oI C' p = oI C p) (hD : ∀ p, 0 ≤ p → p < C 0 → oV C' (oI C p) 2 = oV C (oI C p) 2) (h1 : ∀ p, 0 ≤ p → p < C 0 → g' (oI C p) 1 = g (oI C p) 1 ∧ g' (oI C p) 2 = g (oI C p) 2) (ht : ∀ e, 0 ≤ e → e < 400 → g' e 0 = g e 0) : od_N C' m ∧ mo_R g' m (C' 0) (oI C') (oD C') := by
  have N := R.N
  have M := R.M
  have dD : ∀ p, 0 ≤ p → p < C 0 → oD C' p = oD C p := fun p p0 p1 => by
    have e1 : oD C' p = oV C' (oI C' p) 2 := if_neg (by omega)
    have e2 : oD C p = oV C (oI C p) 2 := if_neg (by omega)
    rw [e1, e2, hI p p0 p1]
    exact hD p p0 p1
  have W' := fo_W_cg N.W dD rfl
  have J' := fo_J_cg N.J hI
  rw [h0]
  refine ⟨od_N.mk (by rw [h0]; exact W') (by rw [h0]; exact J') (fun p p0 p1 => ?_) (fun p p0 p1 => ?_) N.m0 N.m4, mo_R.mk W' J' (fun p p0 p1 => ?_) (fun e e0 e1 => ?_) ?_ (fun p p0 p1 => ?_) M.m0 M.m4⟩
  · rw [h0] at p1
    rw [hI p p0 p1]
    exact N.lt p p0 p1
  · rw [h0] at p1
    rw [dD p p0 p1]
    exact N.dp p p0 p1
  · rw [hI p p0 p1]
    exact M.lt p p0 p1
  · rw [ht e e0 e1]
    rcases M.th e e0 e1 with ⟨a, x, x0, x1, x2⟩ | ⟨a, b⟩
    · exact Or.inl ⟨a, x, x0, x1, (hI x x0 x1).trans x2⟩
    · exact Or.inr ⟨a, fun p p0 p1 => by rw [hI p p0 p1]; exact b p p0 p1⟩
  · exact fo_R_cg M.W (fo_R_g M.R h1) dD rfl hI
  · rw [dD p p0 p1]
    exact M.dp p p0 p1
theorem RR.cg (R : RR C g m) (h : ∀ i, 0 ≤ i → i < 401 + 16 * m → C' i = C i) (hg : ∀ e f, 0 ≤ e → e < 400 → 0 ≤ f → f < 14 → g' e f = g e f) : RR C' g' m := by
  have N := R.N
  have m0 := N.m0
  have m4 := N.m4
  have h0 := h 0 (by omega) (by omega)
  have k := R.row (C' := C') (g' := g') h0 (fun p p0 p1 => R.cI h p0 p1) (fun p p0 p1 => R.cV h p0 p1 (by decide) (by decide)) (fun p p0 p1 => by
    have i0 := N.J.1 p p0 p1
    have i1 := N.lt p p0 p1
    exact ⟨hg _ _ i0 (by omega) (by decide) (by decide), hg _ _ i0 (by omega) (by decide) (by decide)⟩) (fun e e0 e1 => hg e 0 e0 e1 (by decide) (by decide))
  refine RR.mk k.1 k.2 (fun p p0 p1 => ?_) (fun p p0 p1 => ?_)
  · rw [h0] at p1
    have i0 := N.J.1 p p0 p1
    have i1 := N.lt p p0 p1
    rw [R.cI h p0 p1]
    exact (R.F p p0 p1).cg (fun f f0 f1 => R.cV h p0 p1 f0 f1) (fun f f0 f1 => hg _ f i0 (by omega) f0 f1)
  · rw [h0] at p1
    rw [R.cI h p0 p1]
    exact (R.G p p0 p1).cg (fun f f0 f1 => R.cV h p0 p1 f0 f1)
/-- fields of one entry change -/
theorem RR.fld (R : RR C g m) {b : Int} (b0 : 0 ≤ b) (b1 : b < C 0) (hc : ∀ i, 0 ≤ i → i < 401 + 16 * m → (i ≤ 401 + oI C b * 16 + 2 ∨ 401 + oI C b * 16 + 16 ≤ i) → C' i = C i) (hg : ∀ e f, 0 ≤ e → e < 400 → 0 ≤ f → f < 14 → (e ≠ oI C b ∨ f < 3) → g' e f = g e f) (hF : rr_f C' g' (oI C b)) (hG : rr_r C' (oI C b)) : RR C' g' m := by
  have N := R.N
  have m0 := N.m0
  have m4 := N.m4
  have nm := N.nm
  have ib := N.J.1 b b0 b1
  have jb := N.lt b b0 b1
  have h0 := hc 0 (by omega) (by omega) (by omega)
  have hI : ∀ p, 0 ≤ p → p < C 0 → oI C' p = oI C p := fun p p0 p1 => hc (1 + p) (by omega) (by omega) (by omega)
  have hV : ∀ p f, 0 ≤ p → p < C 0 → 0 ≤ f → f < 16 → (p ≠ b ∨ f ≤ 2) → oV C' (oI C p) f = oV C (oI C p) f := fun p f p0 p1 f0 f1 hp => by
    have i0 := N.J.1 p p0 p1
    have i1 := N.lt p p0 p1
    refine hc _ (by omega) (by omega) ?_
    by_cases e : oI C p = oI C b
    · have := N.J.2 p b p0 p1 b0 b1 e
      omega
    · omega
  have k := R.row (C' := C') (g' := g') h0 hI (fun p p0 p1 => hV p 2 p0 p1 (by decide) (by decide) (Or.inr (by decide))) (fun p p0 p1 => by
    have i0 := N.J.1 p p0 p1
    have i1 := N.lt p p0 p1
    exact ⟨hg _ _ i0 (by omega) (by decide) (by decide) (Or.inr (by decide)), hg _ _ i0 (by omega) (by decide) (by decide) (Or.inr (by decide))⟩) (fun e e0 e1 => hg e 0 e0 e1 (by decide) (by decide) (Or.inr (by decide)))
  refine RR.mk k.1 k.2 (fun p p0 p1 => ?_) (fun p p0 p1 => ?_)
  · rw [h0] at p1
    have i0 := N.J.1 p p0 p1
    have i1 := N.lt p p0 p1
    rw [hI p p0 p1]
    by_cases e : p = b
    · rw [e]
      exact hF
    · exact (R.F p p0 p1).cg (fun f f0 f1 => hV p f p0 p1 f0 f1 (Or.inl e)) (fun f f0 f1 => hg _ f i0 (by omega) f0 f1 (Or.inl (fun q => e (N.J.2 p b p0 p1 b0 b1 q))))
  · rw [h0] at p1
    rw [hI p p0 p1]
    by_cases e : p = b
    · rw [e]
      exact hG
    · exact (R.G p p0 p1).cg (fun f f0 f1 => hV p f p0 p1 f0 f1 (Or.inl e))
end RS
