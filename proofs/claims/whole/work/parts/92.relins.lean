/-! edits of both sides -/
section RE
variable {C C' C1 : Int → Int} {g g' : Int → Int → Int} {m : Int}
theorem RR.bld {n : Int} {I D : Int → Int} (h0 : C' 0 = n) (hI : ∀ q, 0 ≤ q → q < n → oI C' q = I q) (hD : ∀ q, 0 ≤ q → q < n → oV C' (I q) 2 = D q) (W : fo_W D n) (J : fo_J I n) (lt : ∀ q, 0 ≤ q → q < n → I q < m) (dp : ∀ q, 0 ≤ q → q < n → D q ≤ 12) (th : ∀ e, 0 ≤ e → e < 400 → (g' e 0 = 1 ∧ ∃ p, 0 ≤ p ∧ p < n ∧ I p = e) ∨ (g' e 0 = 0 ∧ ∀ p, 0 ≤ p → p < n → I p ≠ e)) (R : fo_R g' I D n) (F : ∀ q, 0 ≤ q → q < n → rr_f C' g' (I q)) (G : ∀ q, 0 ≤ q → q < n → rr_r C' (I q)) (m0 : 0 ≤ m) (m4 : m ≤ 400) : RR C' g' m := by
  have dD : ∀ q, 0 ≤ q → q < n → oD C' q = D q := fun q q0 q1 => by
    have e1 : oD C' q = oV C' (oI C' q) 2 := if_neg (by omega)
    rw [e1, hI q q0 q1]
    exact hD q q0 q1
  have W' := fo_W_cg W dD rfl
  have J' := fo_J_cg J hI
  refine RR.mk (od_N.mk (by rw [h0]; exact W') (by rw [h0]; exact J') (fun p p0 p1 => ?_) (fun p p0 p1 => ?_) m0 m4) ?_ (fun p p0 p1 => ?_) (fun p p0 p1 => ?_)
  · rw [h0] at p1
    rw [hI p p0 p1]
    exact lt p p0 p1
  · rw [h0] at p1
    rw [dD p p0 p1]
    exact dp p p0 p1
  · rw [h0]
    refine mo_R.mk W' J' (fun p p0 p1 => ?_) (fun e e0 e1 => ?_) ?_ (fun p p0 p1 => ?_) m0 m4
    · rw [hI p p0 p1]
      exact lt p p0 p1
    · rcases th e e0 e1 with ⟨a, x, x0, x1, x2⟩ | ⟨a, b⟩
      · exact Or.inl ⟨a, x, x0, x1, (hI x x0 x1).trans x2⟩
      · exact Or.inr ⟨a, fun p p0 p1 => by rw [hI p p0 p1]; exact b p p0 p1⟩
    · exact fo_R_cg W R dD rfl hI
    · rw [dD p p0 p1]
      exact dp p p0 p1
  · rw [h0] at p1
    rw [hI p p0 p1]
    exact F p p0 p1
  · rw [h0] at p1
    rw [hI p p0 p1]
    exact G p p0 p1
theorem oD_at {p : Int} (h : 0 ≤ p) : oD C p = oV C (oI C p) 2 := if_neg (by omega)
/-- insert -/
theorem RR.ins (R : RR C g m) {r c t d k : Int} (m4 : m < 400) (A : fo_A (oD C) (C 0) r c) (hd : d = oD C r + 1) (d12 : d ≤ 12) (hk : k = fo_c (oD C) (oD C r + 1) (r + 1) c) (ht : 0 ≤ t ∧ t ≤ 999999) (b : bo_C C C1 m d t)
    (hc : ∀ i, 0 ≤ i → C' i = if i = 0 then C1 0 + 1 else if i = 1 + c then m else if 1 + c < i ∧ i ≤ 1 + C1 0 then C1 (i - 1) else C1 i) : RR C' (mo_in g m (fo_id (oI C) r) k t) (m + 1) := by
  have N := R.N
  have M := R.M
  have nm := N.nm
  have m0 := N.m0
  obtain ⟨b1, b2, b3, b4, b5, b6⟩ := b
  have c00 : C1 0 = C 0 := b1 0 (by omega) (by omega)
  rw [c00] at hc
  have B := fo_end_B' N.W A.1 A.2.1
  have cn : c ≤ C 0 := by have := A.2.2.2.1; omega
  have c0 : 0 ≤ c := by have := A.2.2.1; have := A.1; omega
  have n0 := N.W.2.1
  have HE : fo_E (fun _ => d) 1 (oD C r + 1) := ⟨by omega, hd, fun j j0 j1 => absurd j1 (by omega)⟩
  have Jm : fo_J (fun _ => m) 1 := ⟨fun _ _ _ => m0, fun p q _ _ _ _ _ => by omega⟩
  have W' := fo_pst_W N.W A HE
  have dj : ∀ p j : Int, 0 ≤ p → p < C 0 → 0 ≤ j → j < 1 → oI C p ≠ (fun _ : Int => m) j := fun p j p0 p1 _ _ => by
    have := N.lt p p0 p1
    show oI C p ≠ m
    omega
  have J' := fo_pst_J N.J Jm c0 cn (by omega) dj
  have big : ∀ i, 401 ≤ i → C' i = C1 i := fun i i0 => by rw [hc i (by omega), if_neg (by omega), if_neg (by omega), if_neg (by omega)]
  have old : ∀ e f, 0 ≤ e → e < m → 0 ≤ f → f < 16 → oV C' e f = oV C e f := fun e f e0 e1 f0 f1 => (big _ (by omega)).trans (b1 _ (by omega) (by omega))
  have nw : ∀ f, 0 ≤ f → f < 16 → oV C' m f = C1 (401 + m * 16 + f) := fun f f0 f1 => big _ (by omega)
  -- the reference's fields
  have gn : ∀ e f, e ≠ m → mo_in g m (fo_id (oI C) r) k t e f = mo_sh g m (fo_id (oI C) r) k 1 e f := fun e f h => by
    unfold mo_in
    rw [mo_pt_e h, mo_pt_e h, mo_pt_e h, mo_pt_e h, mo_pt_e h, mo_pt_e h]
    exact if_neg (fun q => h q.1)
  have gz : ∀ f, 0 ≤ f → f < 14 → f ≠ 0 → f ≠ 1 → f ≠ 2 → f ≠ 3 → f ≠ 8 → f ≠ 9 → mo_in g m (fo_id (oI C) r) k t m f = 0 := fun f f0 f1 h0 h1 h2 h3 h8 h9 => by
    unfold mo_in
    rw [mo_pt_f h9, mo_pt_f h8, mo_pt_f h3, mo_pt_f h2, mo_pt_f h1, mo_pt_f h0]
    exact if_pos ⟨rfl, f0, f1⟩
  have g0 : mo_in g m (fo_id (oI C) r) k t m 0 = 1 := by
    unfold mo_in
    rw [mo_pt_f (by decide), mo_pt_f (by decide), mo_pt_f (by decide), mo_pt_f (by decide), mo_pt_f (by decide), mo_pt_at]
  have g1 : mo_in g m (fo_id (oI C) r) k t m 1 = fo_id (oI C) r := by
    unfold mo_in
    rw [mo_pt_f (by decide), mo_pt_f (by decide), mo_pt_f (by decide), mo_pt_f (by decide), mo_pt_at]
  have g2 : mo_in g m (fo_id (oI C) r) k t m 2 = k := by
    unfold mo_in
    rw [mo_pt_f (by decide), mo_pt_f (by decide), mo_pt_f (by decide), mo_pt_at]
  have g3 : mo_in g m (fo_id (oI C) r) k t m 3 = t := by
    unfold mo_in
    rw [mo_pt_f (by decide), mo_pt_f (by decide), mo_pt_at]
  have g8 : mo_in g m (fo_id (oI C) r) k t m 8 = -1 := by
    unfold mo_in
    rw [mo_pt_f (by decide), mo_pt_at]
  have g9 : mo_in g m (fo_id (oI C) r) k t m 9 = -1 := by
    unfold mo_in
    rw [mo_pt_at]
  have ci : ∀ q, 0 ≤ q → q < C 0 + 1 → (q = c ∧ fo_pst (oI C) (fun _ => m) c 1 q = m) ∨ ∃ p, 0 ≤ p ∧ p < C 0 ∧ (p = if q < c then q else q - 1) ∧ q ≠ c ∧ fo_pst (oI C) (fun _ => m) c 1 q = oI C p := fun q q0 q1 => by
    by_cases x : q = c
    · exact Or.inl ⟨x, fo_pst_in (by omega) (by omega)⟩
    · refine Or.inr ⟨if q < c then q else q - 1, ?_⟩
      by_cases y : q < c
      · rw [if_pos y]
        exact ⟨q0, by omega, rfl, x, fo_pst_lt y⟩
      · rw [if_neg y]
        exact ⟨by omega, by omega, rfl, x, fo_pst_ge (by omega) (by omega)⟩
  refine RR.bld (n := C 0 + 1) (I := fo_pst (oI C) (fun _ => m) c 1) (D := fo_pst (oD C) (fun _ => d) c 1) ?_ (fun q q0 q1 => ?_) (fun q q0 q1 => ?_) W' J' (fun q q0 q1 => ?_) (fun q q0 q1 => ?_) (fun e e0 e1 => ?_) ?_ (fun q q0 q1 => ?_) (fun q q0 q1 => ?_) (by omega) (by omega)
  · rw [hc 0 (by omega), if_pos rfl]
  · show C' (1 + q) = _
    rw [hc _ (by omega), if_neg (by omega)]
    by_cases x : q = c
    · rw [if_pos (by omega), fo_pst_in (by omega) (by omega)]
    · rw [if_neg (by omega)]
      by_cases y : q < c
      · rw [if_neg (by omega), b1 _ (by omega) (by omega), fo_pst_lt y]
        rfl
      · rw [if_pos (by omega), b1 _ (by omega) (by omega), fo_pst_ge (by omega) (by omega), show 1 + q - 1 = 1 + (q - 1) by omega]
        rfl
  · rcases ci q q0 q1 with ⟨x, y⟩ | ⟨p, p0, p1, pe, x, y⟩
    · rw [y, nw 2 (by decide) (by decide), b2, fo_pst_in (by omega) (by omega)]
    · have i0 := N.J.1 p p0 p1
      have i1 := N.lt p p0 p1
      rw [y, old _ 2 i0 i1 (by decide) (by decide), ← oD_at p0]
      by_cases z : q < c
      · rw [if_pos z] at pe
        rw [fo_pst_lt z, pe]
      · rw [if_neg z] at pe
        rw [fo_pst_ge (by omega) (by omega), pe]
  · rcases ci q q0 q1 with ⟨x, y⟩ | ⟨p, p0, p1, pe, x, y⟩
    · rw [y]
      omega
    · rw [y]
      have := N.lt p p0 p1
      omega
  · by_cases x : q < c
    · rw [fo_pst_lt x]
      exact N.dp q q0 (by omega)
    · by_cases y : q < c + 1
      · rw [fo_pst_in (by omega) y]
        exact d12
      · rw [fo_pst_ge (by omega) (by omega)]
        exact N.dp _ (by omega) (by omega)
  · by_cases x : e = m
    · rw [x]
      exact Or.inl ⟨g0, c, c0, by omega, fo_pst_in (by omega) (by omega)⟩
    · rw [gn e 0 x, mo_sh_f (by decide)]
      rcases M.th e e0 e1 with ⟨a, p, p0, p1, p2⟩ | ⟨a, h⟩
      · refine Or.inl ⟨a, if p < c then p else p + 1, ?_⟩
        by_cases y : p < c
        · rw [if_pos y]
          exact ⟨p0, by omega, (fo_pst_lt y).trans p2⟩
        · rw [if_neg y]
          refine ⟨by omega, by omega, ?_⟩
          rw [fo_pst_ge (by omega) (by omega), show p + 1 - 1 = p by omega]
          exact p2
      · refine Or.inr ⟨a, fun q q0 q1 => ?_⟩
        rcases ci q q0 q1 with ⟨_, y⟩ | ⟨p, p0, p1, _, _, y⟩
        · rw [y]
          exact fun z => x z.symm
        · rw [y]
          exact h p p0 p1
  · refine fo_pst_R N.W N.J M.R A HE (fun x x0 x1 => ?_) ⟨g1, g2.trans hk⟩ (fun j j0 j1 => absurd j1 (by omega))
    have i0 := N.J.1 x x0 x1
    have i1 := N.lt x x0 x1
    rw [gn _ _ (by omega), gn _ _ (by omega), mo_sh_f (by decide), mo_sh_2 i0 i1 (M.t1 x0 x1), hk]
    exact ⟨rfl, rfl⟩
  · rcases ci q q0 q1 with ⟨_, y⟩ | ⟨p, p0, p1, _, _, y⟩
    · rw [y]
      refine rr_f.mk ?_ ?_ ?_ ?_ ?_ ?_ ?_ ?_ ?_ ?_ ?_
      · rw [g3, nw _ (by decide) (by decide), b3]
      · rw [gz 4 (by decide) (by decide) (by decide) (by decide) (by decide) (by decide) (by decide) (by decide), nw _ (by decide) (by decide), b6 4 (by decide) (by decide) (by decide) (by decide) (by decide) (by decide)]
      · rw [gz 5 (by decide) (by decide) (by decide) (by decide) (by decide) (by decide) (by decide) (by decide), nw _ (by decide) (by decide), b6 5 (by decide) (by decide) (by decide) (by decide) (by decide) (by decide)]
      · rw [gz 6 (by decide) (by decide) (by decide) (by decide) (by decide) (by decide) (by decide) (by decide), nw _ (by decide) (by decide), b6 6 (by decide) (by decide) (by decide) (by decide) (by decide) (by decide)]
      · rw [gz 7 (by decide) (by decide) (by decide) (by decide) (by decide) (by decide) (by decide) (by decide), nw _ (by decide) (by decide), b6 9 (by decide) (by decide) (by decide) (by decide) (by decide) (by decide)]
      · rw [g8, nw _ (by decide) (by decide), b4]
      · rw [g9, nw _ (by decide) (by decide), b5]
      · rw [gz 10 (by decide) (by decide) (by decide) (by decide) (by decide) (by decide) (by decide) (by decide), nw _ (by decide) (by decide), b6 14 (by decide) (by decide) (by decide) (by decide) (by decide) (by decide)]
      · rw [gz 11 (by decide) (by decide) (by decide) (by decide) (by decide) (by decide) (by decide) (by decide), nw _ (by decide) (by decide), b6 15 (by decide) (by decide) (by decide) (by decide) (by decide) (by decide)]
      · rw [gz 12 (by decide) (by decide) (by decide) (by decide) (by decide) (by decide) (by decide) (by decide), nw _ (by decide) (by decide), b6 12 (by decide) (by decide) (by decide) (by decide) (by decide) (by decide)]
      · rw [gz 13 (by decide) (by decide) (by decide) (by decide) (by decide) (by decide) (by decide) (by decide), nw _ (by decide) (by decide), b6 13 (by decide) (by decide) (by decide) (by decide) (by decide) (by decide)]
    · have i0 := N.J.1 p p0 p1
      have i1 := N.lt p p0 p1
      rw [y]
      have h := R.F p p0 p1
      refine rr_f.mk ?_ ?_ ?_ ?_ ?_ ?_ ?_ ?_ ?_ ?_ ?_ <;> rw [gn _ _ (by omega), mo_sh_f (by decide), old _ _ i0 i1 (by decide) (by decide)]
      · exact h.f3
      · exact h.f4
      · exact h.f5
      · exact h.f6
      · exact h.f7
      · exact h.f8
      · exact h.f9
      · exact h.f10
      · exact h.f11
      · exact h.f12
      · exact h.f13
  · rcases ci q q0 q1 with ⟨_, y⟩ | ⟨p, p0, p1, _, _, y⟩
    · have z6 : ∀ f, 0 ≤ f → f < 16 → f ≠ 2 → f ≠ 3 → f ≠ 10 → f ≠ 11 → oV C' m f = 0 := fun f f0 f1 h2 h3 h10 h11 => (nw f f0 f1).trans (b6 f f0 f1 h2 h3 h10 h11)
      rw [y]
      refine rr_r.mk ?_ ?_ ?_ ?_ ?_ ?_ ?_ ?_ ?_ ?_
      · rw [nw _ (by decide) (by decide), b3]
        exact ht
      · rw [z6 4 (by decide) (by decide) (by decide) (by decide) (by decide) (by decide)]
        omega
      · rw [z6 5 (by decide) (by decide) (by decide) (by decide) (by decide) (by decide)]
        omega
      · rw [z6 9 (by decide) (by decide) (by decide) (by decide) (by decide) (by decide)]
        omega
      · rw [nw _ (by decide) (by decide), b4]
        omega
      · rw [nw _ (by decide) (by decide), b5]
        omega
      · rw [z6 12 (by decide) (by decide) (by decide) (by decide) (by decide) (by decide)]
        omega
      · rw [z6 13 (by decide) (by decide) (by decide) (by decide) (by decide) (by decide)]
        omega
      · exact Or.inl (z6 14 (by decide) (by decide) (by decide) (by decide) (by decide) (by decide))
      · exact Or.inl (z6 15 (by decide) (by decide) (by decide) (by decide) (by decide) (by decide))
    · have i0 := N.J.1 p p0 p1
      have i1 := N.lt p p0 p1
      rw [y]
      exact (R.G p p0 p1).cg (fun f f0 f1 => old _ f i0 i1 f0 f1)
end RE
