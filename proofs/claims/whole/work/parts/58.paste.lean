/-! a branch is put into the row -/
def fo_pst (D E : Int → Int) (c s : Int) (q : Int) : Int := if q < c then D q else if q < c + s then E (q - c) else D (q - s)
theorem fo_pst_lt {D E : Int → Int} {c s q : Int} (h : q < c) : fo_pst D E c s q = D q := if_pos h
theorem fo_pst_in {D E : Int → Int} {c s q : Int} (h : c ≤ q) (h2 : q < c + s) : fo_pst D E c s q = E (q - c) := by
  unfold fo_pst
  rw [if_neg (by omega), if_pos h2]
theorem fo_pst_ge {D E : Int → Int} {c s q : Int} (h : c ≤ q) (h2 : c + s ≤ q) : fo_pst D E c s q = D (q - s) := by
  unfold fo_pst
  rw [if_neg (by omega), if_neg (by omega)]
theorem fo_pst_J {I J : Int → Int} {n c s : Int} (h : fo_J I n) (k : fo_J J s) (h0 : 0 ≤ c) (hc : c ≤ n) (hs : 0 ≤ s) (hd : ∀ p j, 0 ≤ p → p < n → 0 ≤ j → j < s → I p ≠ J j) : fo_J (fo_pst I J c s) (n + s) := by
  refine ⟨fun p p0 p1 => ?_, fun p q p0 p1 q0 q1 e => ?_⟩
  · unfold fo_pst
    split
    · exact h.1 p p0 (by omega)
    · split
      · exact k.1 _ (by omega) (by omega)
      · exact h.1 _ (by omega) (by omega)
  · unfold fo_pst at e
    split at e
    · split at e
      · exact h.2 p q p0 (by omega) q0 (by omega) e
      · split at e
        · exact absurd e (hd _ _ (by omega) (by omega) (by omega) (by omega))
        · have := h.2 _ _ p0 (by omega) (by omega) (by omega) e
          omega
    · split at e
      · split at e
        · exact absurd e.symm (hd _ _ (by omega) (by omega) (by omega) (by omega))
        · split at e
          · have := k.2 _ _ (by omega) (by omega) (by omega) (by omega) e
            omega
          · exact absurd e.symm (hd _ _ (by omega) (by omega) (by omega) (by omega))
      · split at e
        · have := h.2 _ _ (by omega) (by omega) (by omega) (by omega) e
          omega
        · split at e
          · exact absurd e (hd _ _ (by omega) (by omega) (by omega) (by omega))
          · have := h.2 _ _ (by omega) (by omega) (by omega) (by omega) e
            omega
/-- c is a position at which a child of r may stand -/
def fo_A (D : Int → Int) (n r c : Int) : Prop := -1 ≤ r ∧ (r < n ∨ r = -1) ∧ r < c ∧ c ≤ fo_end D n r ∧ (c < n → D c ≤ D r + 1)
/-- a branch by itself, its top at depth v -/
def fo_E (E : Int → Int) (s v : Int) : Prop := 1 ≤ s ∧ E 0 = v ∧ ∀ j, 0 < j → j < s → v < E j ∧ E j ≤ E (j - 1) + 1
theorem fo_pst_W {D E : Int → Int} {n r c s : Int} (W : fo_W D n) (A : fo_A D n r c) (hE : fo_E E s (D r + 1)) : fo_W (fo_pst D E c s) (n + s) := by
  obtain ⟨a1, a2, a3, a4, a5⟩ := A
  obtain ⟨s1, s2, s3⟩ := hE
  have B := fo_end_B' W a1 a2
  have dr : 0 ≤ D r := by
    by_cases z : r = -1
    · rw [z, W.1]
      omega
    · exact fo_nonneg W a1 (by omega)
  refine ⟨by rw [fo_pst_lt (by omega)]; exact W.1, by have := W.2.1; omega, fun p p0 p1 => ?_⟩
  by_cases x : p < c
  · rw [fo_pst_lt x, fo_pst_lt (by omega)]
    exact W.2.2 p p0 (by omega)
  · by_cases y : p < c + s
    · rw [fo_pst_in (by omega) y]
      by_cases t : p = c
      · rw [fo_pst_lt (by omega), t, show c - c = 0 by omega, s2]
        refine ⟨by omega, ?_⟩
        by_cases u : c - 1 = r
        · rw [u]
          omega
        · have := B.2.2.1 (c - 1) (by omega) (by omega)
          omega
      · rw [fo_pst_in (by omega) (by omega), show p - 1 - c = p - c - 1 by omega]
        have := s3 (p - c) (by omega) (by omega)
        omega
    · rw [fo_pst_ge (by omega) (by omega)]
      have w := W.2.2 (p - s) (by omega) (by omega)
      by_cases t : p = c + s
      · rw [fo_pst_in (by omega) (by omega), t, show c + s - s = c by omega]
        rw [t, show c + s - s = c by omega] at w
        refine ⟨w.1, ?_⟩
        have d := a5 (by omega)
        by_cases u : s = 1
        · rw [show c + s - 1 - c = 0 by omega, s2]
          omega
        · have := (s3 (c + s - 1 - c) (by omega) (by omega)).1
          omega
      · rw [fo_pst_ge (by omega) (by omega), show p - 1 - s = p - s - 1 by omega]
        exact w
theorem fo_E_ge {E : Int → Int} {s v j : Int} (hE : fo_E E s v) (h0 : 0 ≤ j) (h1 : j < s) : v ≤ E j := by
  by_cases c : j = 0
  · rw [c, hE.2.1]
    omega
  · have := (hE.2.2 j (by omega) h1).1
    omega
/-- the top of what was put in -/
theorem fo_pst_t {D E : Int → Int} {n r c s : Int} (W : fo_W D n) (A : fo_A D n r c) (hE : fo_E E s (D r + 1)) : fo_par (fo_pst D E c s) c = r ∧ fo_pl (fo_pst D E c s) c = fo_c D (D r + 1) (r + 1) c := by
  have V := fo_pst_W W A hE
  obtain ⟨a1, a2, a3, a4, a5⟩ := A
  have s1 := hE.1
  have B := fo_end_B' W a1 a2
  have ec : fo_pst D E c s c = D r + 1 := by rw [fo_pst_in (by omega) (by omega), show c - c = 0 by omega, hE.2.1]
  have hn := W.2.1
  have P' : fo_P (fo_pst D E c s) c r := by
    refine ⟨a1, a3, by rw [ec, fo_pst_lt a3]; omega, fun q q1 q2 => ?_⟩
    rw [ec, fo_pst_lt q2]
    have := B.2.2.1 q q1 (by omega)
    omega
  have e1 := fo_par_eq V (by omega) (by omega) P'
  refine ⟨e1, ?_⟩
  unfold fo_pl
  rw [e1, ec]
  exact fo_c_cg (fun q _ q2 => by rw [fo_pst_lt q2])
/-- the others of what was put in -/
theorem fo_pst_i {D E : Int → Int} {n r c s j t : Int} (W : fo_W D n) (A : fo_A D n r c) (hE : fo_E E s (D r + 1)) (j0 : 0 < j) (j1 : j < s) (t0 : 0 ≤ t) (hP : fo_P E j t) : fo_par (fo_pst D E c s) (c + j) = c + t ∧ fo_pl (fo_pst D E c s) (c + j) = fo_c E (E j) (t + 1) j := by
  have V := fo_pst_W W A hE
  obtain ⟨a1, a2, a3, a4, a5⟩ := A
  have B := fo_end_B' W a1 a2
  obtain ⟨p1, p2, p3, p4⟩ := hP
  have ei : ∀ i, 0 ≤ i → i < s → fo_pst D E c s (c + i) = E i := fun i i0 i1 => by rw [fo_pst_in (by omega) (by omega), show c + i - c = i by omega]
  have P' : fo_P (fo_pst D E c s) (c + j) (c + t) := by
    refine ⟨by omega, by omega, by rw [ei j (by omega) j1, ei t t0 (by omega)]; exact p3, fun q q1 q2 => ?_⟩
    rw [ei j (by omega) j1, fo_pst_in (by omega) (by omega)]
    exact p4 _ (by omega) (by omega)
  have e1 := fo_par_eq V (by omega) (by omega) P'
  refine ⟨e1, ?_⟩
  unfold fo_pl
  rw [e1, ei j (by omega) j1, fo_c_sh (D := fo_pst D E c s) (E := E) (w := E j) (a := c + t + 1) (b := c + j) (k := -c) (fun q q1 q2 => by rw [fo_pst_in (by omega) (by omega)]; rfl), show c + t + 1 + -c = t + 1 by omega, show c + j + -c = j by omega]
/-- what stands behind -/
theorem fo_pst_b {D E : Int → Int} {n r c s x : Int} (W : fo_W D n) (A : fo_A D n r c) (hE : fo_E E s (D r + 1)) (hx : c ≤ x) (hn : x < n) : fo_par (fo_pst D E c s) (x + s) = (if fo_par D x < c then fo_par D x else fo_par D x + s) ∧ fo_pl (fo_pst D E c s) (x + s) = fo_pl D x + (if fo_par D x = r then 1 else 0) := by
  have V := fo_pst_W W A hE
  obtain ⟨a1, a2, a3, a4, a5⟩ := A
  have s1 := hE.1
  have B := fo_end_B' W a1 a2
  have P := fo_par_P W (by omega) hn
  have ch := fo_child W a1 a2 (p := x) (by omega) hn
  obtain ⟨p1, p2, p3, p4⟩ := P
  have ex : fo_pst D E c s (x + s) = D x := by rw [fo_pst_ge (by omega) (by omega), show x + s - s = x by omega]
  by_cases k : fo_par D x < c
  · have dx : D x ≤ D r + 1 := by
      by_cases y : x = c
      · rw [y]
        exact a5 (by omega)
      · have := p4 c k (by omega)
        have := a5 (by omega)
        omega
    have P' : fo_P (fo_pst D E c s) (x + s) (fo_par D x) := by
      refine ⟨p1, by omega, by rw [ex, fo_pst_lt k]; exact p3, fun q q1 q2 => ?_⟩
      rw [ex]
      by_cases y : q < c
      · rw [fo_pst_lt y]
        exact p4 q q1 (by omega)
      · by_cases y2 : q < c + s
        · rw [fo_pst_in (by omega) y2]
          have := fo_E_ge hE (j := q - c) (by omega) (by omega)
          omega
        · rw [fo_pst_ge (by omega) (by omega)]
          exact p4 _ (by omega) (by omega)
    have e1 := fo_par_eq V (by omega) (by omega) P'
    rw [e1, if_pos k]
    refine ⟨rfl, ?_⟩
    unfold fo_pl
    rw [e1, ex, fo_c_sp (D := D) (a := fo_par D x + 1) (b := c) (by omega) hx, fo_c_sp (D := fo_pst D E c s) (a := fo_par D x + 1) (b := c) (c := x + s) (by omega) (by omega), fo_c_sp (D := fo_pst D E c s) (a := c) (b := c + s) (c := x + s) (by omega) (by omega)]
    rw [fo_c_cg (D := fo_pst D E c s) (E := D) (w := D x) (a := fo_par D x + 1) (b := c) (fun q _ k2 => by rw [fo_pst_lt k2]), fo_c_sh (D := fo_pst D E c s) (E := D) (w := D x) (a := c + s) (b := x + s) (k := -s) (fun q k1 _ => by rw [fo_pst_ge (by omega) k1]; rfl), show c + s + -s = c by omega, show x + s + -s = x by omega, fo_c_l (by omega : c < c + s), fo_pst_in (by omega) (by omega), show c - c = 0 by omega, hE.2.1, fo_c_z (a := c + 1) (b := c + s) (fun q k1 k2 => by
        rw [fo_pst_in (by omega) k2]
        have := (hE.2.2 (q - c) (by omega) (by omega)).1
        omega)]
    by_cases d : D r + 1 = D x
    · have hr : fo_par D x = r := by
        refine fo_par_eq W (by omega) hn (ch.mpr ⟨by omega, ?_, by omega⟩)
        refine Int.not_le.mp fun y => ?_
        have b4 := B.2.2.2 (by omega)
        by_cases y2 : fo_end D n r = x
        · rw [y2] at b4
          omega
        · have := p4 (fo_end D n r) (by omega) (by omega)
          omega
      rw [if_pos d, if_pos hr]
      omega
    · have hr : ¬ fo_par D x = r := fun y => by
        have := fo_P_d W (by omega) hn ⟨p1, p2, p3, p4⟩
        rw [y] at this
        omega
      rw [if_neg d, if_neg hr]
      omega
  · have P' : fo_P (fo_pst D E c s) (x + s) (fo_par D x + s) := by
      refine ⟨by omega, by omega, ?_, fun q q1 q2 => ?_⟩
      · rw [ex, fo_pst_ge (by omega) (by omega), show fo_par D x + s - s = fo_par D x by omega]
        exact p3
      · rw [ex, fo_pst_ge (by omega) (by omega)]
        exact p4 _ (by omega) (by omega)
    have e1 := fo_par_eq V (by omega) (by omega) P'
    rw [e1, if_neg k, if_neg (by omega)]
    refine ⟨rfl, ?_⟩
    unfold fo_pl
    rw [e1, ex, fo_c_sh (D := fo_pst D E c s) (E := D) (w := D x) (k := -s) (fun q k1 _ => by rw [fo_pst_ge (by omega) (by omega)]; rfl), show fo_par D x + s + 1 + -s = fo_par D x + 1 by omega, show x + s + -s = x by omega]
    omega
/-- siblings before c have smaller places -/
theorem fo_A_pl {D : Int → Int} {n r c x : Int} (W : fo_W D n) (A : fo_A D n r c) (x0 : 0 ≤ x) (x1 : x < n) (hp : fo_par D x = r) : fo_c D (D r + 1) (r + 1) c ≤ fo_pl D x ↔ c ≤ x := by
  obtain ⟨a1, a2, a3, a4, a5⟩ := A
  have P := fo_par_P W x0 x1
  have hd := fo_P_d W x0 x1 P
  rw [hp] at hd P
  have px := P.2.1
  unfold fo_pl
  rw [hp, show D x = D r + 1 by omega]
  by_cases k : c ≤ x
  · rw [fo_c_sp (a := r + 1) (b := c) (c := x) (by omega) k]
    have := fo_c_nn D (D r + 1) c x
    omega
  · rw [fo_c_sp (a := r + 1) (b := x) (c := c) (by omega) (by omega), fo_c_l (by omega : x < c), if_pos (by omega)]
    have := fo_c_nn D (D r + 1) (x + 1) c
    omega
theorem fo_pst_R {g g' : Int → Int → Int} {I J D E : Int → Int} {n r c s : Int} (W : fo_W D n) (hI : fo_J I n) (R : fo_R g I D n) (A : fo_A D n r c) (hE : fo_E E s (D r + 1))
    (hg : ∀ x, 0 ≤ x → x < n → g' (I x) 1 = g (I x) 1 ∧ g' (I x) 2 = g (I x) 2 + (if g (I x) 1 = fo_id I r ∧ fo_c D (D r + 1) (r + 1) c ≤ g (I x) 2 then 1 else 0))
    (h0 : g' (J 0) 1 = fo_id I r ∧ g' (J 0) 2 = fo_c D (D r + 1) (r + 1) c)
    (hj : ∀ j, 0 < j → j < s → ∃ t, 0 ≤ t ∧ fo_P E j t ∧ g' (J j) 1 = J t ∧ g' (J j) 2 = fo_c E (E j) (t + 1) j) : fo_R g' (fo_pst I J c s) (fo_pst D E c s) (n + s) := by
  have V := fo_pst_W W A hE
  have a1 := A.1
  have a2 := A.2.1
  have a3 := A.2.2.1
  have s1 := hE.1
  have B := fo_end_B' W a1 a2
  have a4 := A.2.2.2.1
  have sib : ∀ x, 0 ≤ x → x < n → (g (I x) 1 = fo_id I r ↔ fo_par D x = r) := by
    intro x x0 x1
    have PX := fo_par_P W x0 x1
    rw [(R x x0 x1).1]
    exact ⟨fun h => fo_id_inj hI PX.1 (by have := PX.2.1; omega) a1 a2 h, fun h => by rw [h]⟩
  intro q q0 q1
  by_cases k : q < c
  · have rq := R q q0 (by omega)
    have a := hg q q0 (by omega)
    have cg := fo_par_cg W V q0 (by omega) q1 (fun y _ y2 => (fo_pst_lt (by omega)).symm)
    have PQ := fo_par_P W q0 (by omega)
    rw [fo_pst_lt k, ← cg.1, ← cg.2, a.1, a.2]
    refine ⟨?_, ?_⟩
    · rw [rq.1]
      unfold fo_id
      rw [fo_pst_lt (by have := PQ.2.1; omega)]
    · rw [if_neg, rq.2]
      · omega
      · intro h
        rw [rq.2] at h
        have := (fo_A_pl W A q0 (by omega) ((sib q q0 (by omega)).mp h.1)).mp h.2
        omega
  · by_cases k2 : q < c + s
    · rw [fo_pst_in (by omega) k2]
      by_cases z : q = c
      · have t := fo_pst_t W A hE
        rw [z, show c - c = 0 by omega, t.1, t.2, h0.1, h0.2]
        refine ⟨?_, rfl⟩
        unfold fo_id
        rw [fo_pst_lt a3]
      · obtain ⟨t, t0, tP, t1, t2⟩ := hj (q - c) (by omega) (by omega)
        have i := fo_pst_i W A hE (j := q - c) (by omega) (by omega) t0 tP
        rw [show c + (q - c) = q by omega] at i
        rw [i.1, i.2, t1, t2]
        refine ⟨?_, rfl⟩
        have := tP.2.1
        unfold fo_id
        rw [if_neg (by omega), fo_pst_in (by omega) (by omega), show c + t - c = t by omega]
    · have rq := R (q - s) (by omega) (by omega)
      have a := hg (q - s) (by omega) (by omega)
      have b := fo_pst_b W A hE (x := q - s) (by omega) (by omega)
      have PX := fo_par_P W (p := q - s) (by omega) (by omega)
      rw [show q - s + s = q by omega] at b
      rw [fo_pst_ge (by omega) (by omega), b.1, b.2, a.1, a.2]
      refine ⟨?_, ?_⟩
      · rw [rq.1]
        unfold fo_id
        by_cases y : fo_par D (q - s) < c
        · rw [if_pos y, fo_pst_lt y]
        · rw [if_neg y, if_neg (by omega), if_neg (by omega), fo_pst_ge (by omega) (by omega), show fo_par D (q - s) + s - s = fo_par D (q - s) by omega]
      · by_cases y : fo_par D (q - s) = r
        · rw [if_pos y, if_pos ⟨(sib _ (by omega) (by omega)).mpr y, by rw [rq.2]; exact (fo_A_pl W A (by omega) (by omega) y).mpr (by omega)⟩, rq.2]
        · rw [if_neg y, if_neg (fun h => y ((sib _ (by omega) (by omega)).mp h.1)), rq.2]
