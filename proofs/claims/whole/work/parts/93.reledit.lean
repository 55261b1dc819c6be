/-! edits of both sides: remove, carry, sort -/
section RE
variable {C C' : Int → Int} {g g' : Int → Int → Int} {m : Int}
theorem rr_f.gg {e : Int} (h : rr_f C g e) (hc : ∀ f, 3 ≤ f → f < 16 → oV C' e f = oV C e f) (hg : ∀ f, 3 ≤ f → f < 14 → g' e f = g e f) : rr_f C' g' e := by
  refine rr_f.mk ?_ ?_ ?_ ?_ ?_ ?_ ?_ ?_ ?_ ?_ ?_ <;> rw [hc _ (by decide) (by decide), hg _ (by decide) (by decide)]
  · exact h.f3
  · exact h.f4
  · exact h.f5
  · exact h.f6
  · exact h.f7
  · exact h.f8
  · exact h.f9
  · exact h.f10
  · exact h.f11
  · exact h.f12
  · exact h.f13
theorem rr_r.gg {e : Int} (h : rr_r C e) (hc : ∀ f, 3 ≤ f → f < 16 → oV C' e f = oV C e f) : rr_r C' e := by
  refine rr_r.mk ?_ ?_ ?_ ?_ ?_ ?_ ?_ ?_ ?_ ?_
  · rw [hc _ (by decide) (by decide)]; exact h.r3
  · rw [hc _ (by decide) (by decide)]; exact h.r4
  · rw [hc _ (by decide) (by decide)]; exact h.r5
  · rw [hc _ (by decide) (by decide)]; exact h.r9
  · rw [hc _ (by decide) (by decide)]; exact h.r10
  · rw [hc _ (by decide) (by decide)]; exact h.r11
  · rw [hc _ (by decide) (by decide)]; exact h.r12
  · rw [hc _ (by decide) (by decide)]; exact h.r13
  · rw [hc _ (by decide) (by decide), hc _ (by decide) (by decide)]; exact h.r14
  · rw [hc _ (by decide) (by decide), hc _ (by decide) (by decide)]; exact h.r15
/-- remove -/
theorem RR.rem (R : RR C g m) {b e : Int} (b0 : 0 ≤ b) (B : fo_B (oD C) (C 0) b e)
    (hc : ∀ i, 0 ≤ i → C' i = if i = 0 then C 0 - (e - b) else if 1 + b ≤ i ∧ i < 1 + C 0 - (e - b) then C (i + (e - b)) else C i) : RR C' (mo_rm g (oI C) m b (e - b)) m := by
  have N := R.N
  have M := R.M
  have nm := N.nm
  have m0 := N.m0
  have m4 := N.m4
  have b1 := B.1
  have b2 := B.2.1
  have W' := fo_cut_W N.W b0 B
  have J' := fo_cut_J N.J b0 (by omega) b2
  have big : ∀ i, 401 ≤ i → C' i = C i := fun i i0 => by rw [hc i (by omega), if_neg (by omega), if_neg (by omega)]
  have old : ∀ x f, 0 ≤ x → 0 ≤ f → oV C' x f = oV C x f := fun x f x0 f0 => big _ (by omega)
  have sn : (((e - b).toNat : Nat) : Int) = e - b := by omega
  have gf : ∀ x f, f ≠ 0 → f ≠ 2 → mo_rm g (oI C) m b (e - b) x f = g x f := fun x f h0 h2 => by
    unfold mo_rm
    rw [mo_sh_f h2, mo_cl_f _ _ _ h0]
  have ci : ∀ q, 0 ≤ q → q < C 0 - (e - b) → ∃ p, 0 ≤ p ∧ p < C 0 ∧ (p < b ∨ e ≤ p) ∧ p = (if q < b then q else q + (e - b)) ∧ fo_cut (oI C) b (e - b) q = oI C p := fun q q0 q1 => by
    refine ⟨if q < b then q else q + (e - b), ?_⟩
    by_cases y : q < b
    · rw [if_pos y]
      exact ⟨q0, by omega, Or.inl y, rfl, fo_cut_lt y⟩
    · rw [if_neg y]
      exact ⟨by omega, by omega, Or.inr (by omega), rfl, fo_cut_ge (by omega)⟩
  have th0 : ∀ p, 0 ≤ p → p < C 0 → (p < b ∨ e ≤ p) → mo_cl g (oI C) b (e - b).toNat (oI C p) 0 = 1 := fun p p0 p1 hp => by
    rw [mo_cl_o _ _ _ _ (fun i i0 i1 q => by
      have := N.J.2 i p (by omega) (by omega) p0 p1 q
      omega)]
    exact M.t1 p0 p1
  refine RR.bld (n := C 0 - (e - b)) (I := fo_cut (oI C) b (e - b)) (D := fo_cut (oD C) b (e - b)) ?_ (fun q q0 q1 => ?_) (fun q q0 q1 => ?_) W' J' (fun q q0 q1 => ?_) (fun q q0 q1 => ?_) (fun x x0 x1 => ?_) ?_ (fun q q0 q1 => ?_) (fun q q0 q1 => ?_) m0 m4
  · rw [hc 0 (by omega), if_pos rfl]
  · show C' (1 + q) = _
    rw [hc _ (by omega), if_neg (by omega)]
    by_cases y : q < b
    · rw [if_neg (by omega), fo_cut_lt y]
      rfl
    · rw [if_pos (by omega), fo_cut_ge (by omega), show 1 + q + (e - b) = 1 + (q + (e - b)) by omega]
      rfl
  · obtain ⟨p, p0, p1, p2, pe, y⟩ := ci q q0 q1
    have i0 := N.J.1 p p0 p1
    rw [y, old _ 2 i0 (by decide), ← oD_at p0]
    by_cases z : q < b
    · rw [if_pos z] at pe
      rw [fo_cut_lt z, pe]
    · rw [if_neg z] at pe
      rw [fo_cut_ge (by omega), pe]
  · obtain ⟨p, p0, p1, p2, pe, y⟩ := ci q q0 q1
    rw [y]
    exact N.lt p p0 p1
  · by_cases z : q < b
    · rw [fo_cut_lt z]
      exact N.dp q q0 (by omega)
    · rw [fo_cut_ge (by omega)]
      exact N.dp _ (by omega) (by omega)
  · have e0 : mo_rm g (oI C) m b (e - b) x 0 = mo_cl g (oI C) b (e - b).toNat x 0 := by
      unfold mo_rm
      rw [mo_sh_f (by decide)]
    rw [e0]
    rcases M.th x x0 x1 with ⟨a, p, p0, p1, p2⟩ | ⟨a, h⟩
    · by_cases z : p < b ∨ e ≤ p
      · refine Or.inl ⟨by rw [← p2]; exact th0 p p0 p1 z, if p < b then p else p - (e - b), ?_⟩
        by_cases y : p < b
        · rw [if_pos y]
          exact ⟨p0, by omega, (fo_cut_lt y).trans p2⟩
        · rw [if_neg y]
          refine ⟨by omega, by omega, ?_⟩
          rw [fo_cut_ge (by omega), show p - (e - b) + (e - b) = p by omega]
          exact p2
      · refine Or.inr ⟨by rw [← p2]; exact mo_cl_i _ _ _ _ (by omega) (by omega), fun q q0 q1 k => ?_⟩
        obtain ⟨y, y0, y1, y2, _, y4⟩ := ci q q0 q1
        rw [y4, ← p2] at k
        have := N.J.2 y p y0 y1 p0 p1 k
        omega
    · refine Or.inr ⟨?_, fun q q0 q1 k => ?_⟩
      · rw [mo_cl_o _ _ _ _ (fun i i0 i1 q => h i (by omega) (by omega) q)]
        exact a
      · obtain ⟨y, y0, y1, _, _, y4⟩ := ci q q0 q1
        rw [y4] at k
        exact h y y0 y1 k
  · refine fo_cut_R N.W N.J M.R b0 B (fun x x0 x1 hx => ⟨gf _ _ (by decide) (by decide), ?_⟩)
    unfold mo_rm
    rw [mo_sh_2 (N.J.1 x x0 x1) (N.lt x x0 x1) (th0 x x0 x1 hx), mo_cl_f _ _ _ (by decide), mo_cl_f _ _ _ (by decide)]
    split <;> omega
  · obtain ⟨p, p0, p1, p2, pe, y⟩ := ci q q0 q1
    have i0 := N.J.1 p p0 p1
    rw [y]
    exact (R.F p p0 p1).gg (fun f f0 f1 => old _ f i0 (by omega)) (fun f f0 f1 => gf _ f (by omega) (by omega))
  · obtain ⟨p, p0, p1, p2, pe, y⟩ := ci q q0 q1
    have i0 := N.J.1 p p0 p1
    rw [y]
    exact (R.G p p0 p1).gg (fun f f0 f1 => old _ f i0 (by omega))
/-- carry -/
theorem RR.car (R : RR C g m) {b e r r1 c t x : Int} (b0 : 0 ≤ b) (B : fo_B (oD C) (C 0) b e) (hr0 : -1 ≤ r) (hrn : r < C 0 ∨ r = -1) (hr : r < b ∨ e ≤ r) (hr1 : r1 = if r < b then r else r - (e - b)) (A : fo_A (fo_cut (oD C) b (e - b)) (C 0 - (e - b)) r1 c) (ht : (t ≤ b ∧ c = t) ∨ (e ≤ t ∧ c = t - (e - b))) (hx : x = fo_cut (oD C) b (e - b) r1 + 1 - oD C b) (h12 : ∀ q, b ≤ q → q < e → oD C q + x ≤ 12)
    (c1 : ∀ q, 0 ≤ q → q < 400 → C' (1 + q) = C (1 + od_ps b e t q)) (c2 : C' 0 = C 0) (c3 : ∀ q, b ≤ q → q < e → C' (401 + oI C q * 16 + 2) = oV C (oI C q) 2 + x) (c4 : ∀ i, 401 ≤ i → (∀ q, b ≤ q → q < e → i ≠ 401 + oI C q * 16 + 2) → C' i = C i) :
    RR C' (mo_cy g m (oI C b) (fo_id (oI C) r) (fo_c (fo_cut (oD C) b (e - b)) (fo_cut (oD C) b (e - b) r1 + 1) (r1 + 1) c)) m := by
  have N := R.N
  have M := R.M
  have nm := N.nm
  have m0 := N.m0
  have m4 := N.m4
  have b1 := B.1
  have b2 := B.2.1
  have W1 := fo_cut_W N.W b0 B
  have J1 := fo_cut_J N.J b0 (by omega) b2
  have HE := fo_E_br (v := fo_cut (oD C) b (e - b) r1 + 1) N.W b0 B
  have W' := fo_pst_W W1 A HE
  have Bc := fo_end_B' W1 A.1 A.2.1
  have a3 := A.2.2.1
  have a1 := A.1
  have a4 := A.2.2.2.1
  have key := fo_cy_R (m := m) N.W N.J M.R (fun y y0 y1 => ⟨N.lt y y0 y1, M.t1 y0 y1⟩) b0 B hr hr1 A hr0 hrn
  generalize hk : fo_c (fo_cut (oD C) b (e - b)) (fo_cut (oD C) b (e - b) r1 + 1) (r1 + 1) c = k at *
  have en : C 0 - (e - b) + (e - b) = C 0 := by omega
  rw [en] at W'
  -- the new row, place by place
  have ps : ∀ q, 0 ≤ q → q < C 0 → 0 ≤ od_ps b e t q ∧ od_ps b e t q < C 0 ∧ fo_pst (fo_cut (oI C) b (e - b)) (fun j => oI C (b + j)) c (e - b) q = oI C (od_ps b e t q) ∧ fo_pst (fo_cut (oD C) b (e - b)) (fun j => oD C (b + j) + (fo_cut (oD C) b (e - b) r1 + 1 - oD C b)) c (e - b) q = oD C (od_ps b e t q) + (if b ≤ od_ps b e t q ∧ od_ps b e t q < e then x else 0) := by
    intro q q0 q1
    by_cases y1 : q < c
    · by_cases y2 : q < b
      · have p : od_ps b e t q = q := by
          unfold od_ps
          by_cases z : t < b
          · rw [if_pos z, if_neg (by omega), if_neg (by omega)]
          · rw [if_neg z, if_neg (by omega), if_neg (by omega)]
        rw [p, fo_pst_lt y1, fo_pst_lt y1, fo_cut_lt y2, fo_cut_lt y2, if_neg (by omega), Int.add_zero]
        exact ⟨q0, q1, rfl, rfl⟩
      · have p : od_ps b e t q = q + (e - b) := by
          unfold od_ps
          rw [if_neg (by omega), if_pos (by omega)]
          omega
        rw [p, fo_pst_lt y1, fo_pst_lt y1, fo_cut_ge (by omega), fo_cut_ge (by omega), if_neg (by omega), Int.add_zero]
        exact ⟨by omega, by omega, rfl, rfl⟩
    · by_cases y2 : q < c + (e - b)
      · have p : od_ps b e t q = b + (q - c) := by
          unfold od_ps
          by_cases z : t < b
          · rw [if_pos z, if_pos (by omega)]
            omega
          · rw [if_neg z, if_neg (by omega), if_pos (by omega)]
            omega
        rw [p, fo_pst_in (by omega) y2, fo_pst_in (by omega) y2, if_pos (by omega), hx]
        exact ⟨by omega, by omega, rfl, rfl⟩
      · by_cases y3 : q - (e - b) < b
        · have p : od_ps b e t q = q - (e - b) := by
            unfold od_ps
            by_cases z : t < b
            · rw [if_pos z, if_neg (by omega), if_pos (by omega)]
            · omega
          rw [p, fo_pst_ge (by omega) (by omega), fo_pst_ge (by omega) (by omega), fo_cut_lt y3, fo_cut_lt y3, if_neg (by omega), Int.add_zero]
          exact ⟨by omega, by omega, rfl, rfl⟩
        · have p : od_ps b e t q = q := by
            unfold od_ps
            by_cases z : t < b
            · rw [if_pos z, if_neg (by omega), if_neg (by omega)]
            · rw [if_neg z, if_neg (by omega), if_neg (by omega)]
          rw [p, fo_pst_ge (by omega) (by omega), fo_pst_ge (by omega) (by omega), fo_cut_ge (by omega), fo_cut_ge (by omega), show q - (e - b) + (e - b) = q by omega, if_neg (by omega), Int.add_zero]
          exact ⟨q0, q1, rfl, rfl⟩
  have sur : ∀ p, 0 ≤ p → p < C 0 → ∃ q, 0 ≤ q ∧ q < C 0 ∧ od_ps b e t q = p := by
    intro p p0 p1
    by_cases tb : t < b
    · by_cases y1 : b ≤ p ∧ p < e
      · refine ⟨t + (p - b), by omega, by omega, ?_⟩
        unfold od_ps
        rw [if_pos tb, if_pos (by omega)]
        omega
      · by_cases y2 : t ≤ p ∧ p < b
        · refine ⟨p + (e - b), by omega, by omega, ?_⟩
          unfold od_ps
          rw [if_pos tb, if_neg (by omega), if_pos (by omega)]
          omega
        · refine ⟨p, p0, p1, ?_⟩
          unfold od_ps
          rw [if_pos tb, if_neg (by omega), if_neg (by omega)]
    · by_cases y1 : b ≤ p ∧ p < e
      · refine ⟨p + ((t - e).toNat : Int), by omega, by omega, ?_⟩
        unfold od_ps
        rw [if_neg tb, if_neg (by omega), if_pos (by omega)]
        omega
      · by_cases y2 : e ≤ p ∧ p < t
        · refine ⟨p - (e - b), by omega, by omega, ?_⟩
          unfold od_ps
          rw [if_neg tb, if_pos (by omega)]
          omega
        · refine ⟨p, p0, p1, ?_⟩
          unfold od_ps
          rw [if_neg tb, if_neg (by omega), if_neg (by omega)]
  have hI : ∀ q, 0 ≤ q → q < C 0 → oI C' q = fo_pst (fo_cut (oI C) b (e - b)) (fun j => oI C (b + j)) c (e - b) q := fun q q0 q1 => by
    rw [(ps q q0 q1).2.2.1]
    exact c1 q q0 (by omega)
  have hJ : fo_J (fo_pst (fo_cut (oI C) b (e - b)) (fun j => oI C (b + j)) c (e - b)) (C 0) := by
    have q := fo_pst_J (J := fun j => oI C (b + j)) (s := e - b) (c := c) J1 ⟨fun p p0 p1 => N.J.1 _ (by omega) (by omega), fun p q p0 p1 q0 q1 h => by
      have := N.J.2 _ _ (by omega) (by omega) (by omega) (by omega) h
      omega⟩ (by omega) (by omega) (by omega) (fun p j p0 p1 j0 j1 h => by
      unfold fo_cut at h
      split at h
      · have := N.J.2 _ _ (by omega) (by omega) (by omega) (by omega) h
        omega
      · have := N.J.2 _ _ (by omega) (by omega) (by omega) (by omega) h
        omega)
    rw [en] at q
    exact q
  have dv : ∀ p, 0 ≤ p → p < C 0 → oV C' (oI C p) 2 = oD C p + (if b ≤ p ∧ p < e then x else 0) := fun p p0 p1 => by
    have i0 := N.J.1 p p0 p1
    rw [oD_at p0]
    by_cases y : b ≤ p ∧ p < e
    · rw [if_pos y]
      exact c3 p y.1 y.2
    · rw [if_neg y, Int.add_zero]
      refine c4 _ (by omega) (fun q q0 q1 h => ?_)
      have := N.J.2 p q p0 p1 (by omega) (by omega) (by omega)
      omega
  have fv : ∀ p f, 0 ≤ p → p < C 0 → 3 ≤ f → f < 16 → oV C' (oI C p) f = oV C (oI C p) f := fun p f p0 p1 f0 f1 => by
    have i0 := N.J.1 p p0 p1
    refine c4 _ (by omega) (fun q q0 q1 h => ?_)
    have i1 := N.J.1 q (by omega) (by omega)
    omega
  have gf : ∀ y f, f ≠ 1 → f ≠ 2 → mo_cy g m (oI C b) (fo_id (oI C) r) k y f = g y f := fun y f h1 h2 => by
    unfold mo_cy
    rw [mo_pt_f h2, mo_pt_f h1, mo_sh_f h2, mo_pt_f h1, mo_sh_f h2]
  refine RR.bld (n := C 0) c2 hI (fun q q0 q1 => ?_) W' hJ (fun q q0 q1 => ?_) (fun q q0 q1 => ?_) (fun y y0 y1 => ?_) key (fun q q0 q1 => ?_) (fun q q0 q1 => ?_) m0 m4
  · have p := ps q q0 q1
    rw [p.2.2.1, p.2.2.2]
    exact dv _ p.1 p.2.1
  · have p := ps q q0 q1
    rw [p.2.2.1]
    exact N.lt _ p.1 p.2.1
  · have p := ps q q0 q1
    rw [p.2.2.2]
    by_cases y : b ≤ od_ps b e t q ∧ od_ps b e t q < e
    · rw [if_pos y]
      exact h12 _ y.1 y.2
    · rw [if_neg y, Int.add_zero]
      exact N.dp _ p.1 p.2.1
  · rw [gf y 0 (by decide) (by decide)]
    rcases M.th y y0 y1 with ⟨a, p, p0, p1, p2⟩ | ⟨a, h⟩
    · obtain ⟨q, q0, q1, q2⟩ := sur p p0 p1
      refine Or.inl ⟨a, q, q0, q1, ?_⟩
      rw [(ps q q0 q1).2.2.1, q2]
      exact p2
    · refine Or.inr ⟨a, fun q q0 q1 => ?_⟩
      have p := ps q q0 q1
      rw [p.2.2.1]
      exact h _ p.1 p.2.1
  · have p := ps q q0 q1
    rw [p.2.2.1]
    exact (R.F _ p.1 p.2.1).gg (fun f f0 f1 => fv _ f p.1 p.2.1 f0 f1) (fun f f0 f1 => gf _ f (by omega) (by omega))
  · have p := ps q q0 q1
    rw [p.2.2.1]
    exact (R.G _ p.1 p.2.1).gg (fun f f0 f1 => fv _ f p.1 p.2.1 f0 f1)
end RE
