/-! rows of entries with depths against parents and places -/
def fo_id (I : Int → Int) (r : Int) : Int := if r = -1 then -1 else I r
def fo_J (I : Int → Int) (n : Int) : Prop := (∀ p, 0 ≤ p → p < n → 0 ≤ I p) ∧ ∀ p q, 0 ≤ p → p < n → 0 ≤ q → q < n → I p = I q → p = q
def fo_R (g : Int → Int → Int) (I D : Int → Int) (n : Int) : Prop := ∀ p, 0 ≤ p → p < n → g (I p) 1 = fo_id I (fo_par D p) ∧ g (I p) 2 = fo_pl D p
theorem fo_id_inj {I : Int → Int} {n r s : Int} (J : fo_J I n) (h1 : -1 ≤ r) (h2 : r < n ∨ r = -1) (h3 : -1 ≤ s) (h4 : s < n ∨ s = -1) (h : fo_id I r = fo_id I s) : r = s := by
  unfold fo_id at h
  by_cases a : r = -1
  · by_cases b : s = -1
    · omega
    · rw [if_pos a, if_neg b] at h
      have := J.1 s (by omega) (by omega)
      omega
  · by_cases b : s = -1
    · rw [if_neg a, if_pos b] at h
      have := J.1 r (by omega) (by omega)
      omega
    · rw [if_neg a, if_neg b] at h
      exact J.2 r s (by omega) (by omega) (by omega) (by omega) h
/-- a run of the row goes out -/
def fo_cut (D : Int → Int) (b s : Int) (q : Int) : Int := if q < b then D q else D (q + s)
theorem fo_cut_lt {D : Int → Int} {b s q : Int} (h : q < b) : fo_cut D b s q = D q := if_pos h
theorem fo_cut_ge {D : Int → Int} {b s q : Int} (h : b ≤ q) : fo_cut D b s q = D (q + s) := if_neg (by omega)
theorem fo_cut_J {I : Int → Int} {n b e : Int} (J : fo_J I n) (h0 : 0 ≤ b) (he : b ≤ e) (hn : e ≤ n) : fo_J (fo_cut I b (e - b)) (n - (e - b)) := by
  refine ⟨fun p p0 p1 => ?_, fun p q p0 p1 q0 q1 h => ?_⟩
  · unfold fo_cut
    split
    · exact J.1 p p0 (by omega)
    · exact J.1 _ (by omega) (by omega)
  · unfold fo_cut at h
    by_cases a : p < b
    · rw [if_pos a] at h
      by_cases c : q < b
      · rw [if_pos c] at h
        exact J.2 p q p0 (by omega) q0 (by omega) h
      · rw [if_neg c] at h
        have := J.2 p _ p0 (by omega) (by omega) (by omega) h
        omega
    · rw [if_neg a] at h
      by_cases c : q < b
      · rw [if_pos c] at h
        have := J.2 _ q (by omega) (by omega) q0 (by omega) h
        omega
      · rw [if_neg c] at h
        have := J.2 _ _ (by omega) (by omega) (by omega) (by omega) h
        omega
theorem fo_cut_W {D : Int → Int} {n b e : Int} (W : fo_W D n) (h0 : 0 ≤ b) (B : fo_B D n b e) : fo_W (fo_cut D b (e - b)) (n - (e - b)) := by
  obtain ⟨b1, b2, b3, b4⟩ := B
  refine ⟨by rw [fo_cut_lt (by omega)]; exact W.1, by omega, fun p p0 p1 => ?_⟩
  by_cases a : p < b
  · rw [fo_cut_lt a, fo_cut_lt (by omega)]
    exact W.2.2 p p0 (by omega)
  · rw [fo_cut_ge (by omega)]
    have w := W.2.2 (p + (e - b)) (by omega) (by omega)
    by_cases c : p = b
    · rw [fo_cut_lt (by omega), c, show b + (e - b) = e by omega]
      rw [c, show b + (e - b) = e by omega] at w
      have := b4 (by omega)
      have := W.2.2 b h0 (by omega)
      omega
    · rw [fo_cut_ge (by omega), show p - 1 + (e - b) = p + (e - b) - 1 by omega]
      exact w
/-- parents and places where a branch went out -/
theorem fo_cut_p {D : Int → Int} {n b e x : Int} (W : fo_W D n) (h0 : 0 ≤ b) (B : fo_B D n b e) (hx : e ≤ x) (hn : x < n) :
    (fo_par D x < b ∨ e ≤ fo_par D x) ∧ fo_par (fo_cut D b (e - b)) (x - (e - b)) = (if fo_par D x < b then fo_par D x else fo_par D x - (e - b)) ∧ fo_pl (fo_cut D b (e - b)) (x - (e - b)) = fo_pl D x - (if fo_par D x = fo_par D b then 1 else 0) := by
  have V := fo_cut_W W h0 B
  have P := fo_par_P W (by have := B.1; omega) hn
  have PB := fo_par_P W h0 (by have := B.1; omega)
  have o := fo_out_up B P hx hn
  obtain ⟨b1, b2, b3, b4⟩ := B
  obtain ⟨p1, p2, p3, p4⟩ := P
  obtain ⟨q1, q2, q3, q4⟩ := PB
  have ex : fo_cut D b (e - b) (x - (e - b)) = D x := by rw [fo_cut_ge (by omega), show x - (e - b) + (e - b) = x by omega]
  refine ⟨by omega, ?_⟩
  by_cases c : fo_par D x < b
  · have db : D x ≤ D b := p4 b c (by omega)
    have P' : fo_P (fo_cut D b (e - b)) (x - (e - b)) (fo_par D x) := by
      refine ⟨p1, by omega, by rw [ex, fo_cut_lt c]; exact p3, fun q k1 k2 => ?_⟩
      rw [ex]
      by_cases d : q < b
      · rw [fo_cut_lt d]
        exact p4 q k1 (by omega)
      · rw [fo_cut_ge (by omega)]
        exact p4 _ (by omega) (by omega)
    have e1 := fo_par_eq V (by omega) (by omega) P'
    rw [e1, if_pos c]
    refine ⟨rfl, ?_⟩
    unfold fo_pl
    rw [e1, ex, fo_c_sp (D := D) (a := fo_par D x + 1) (b := b) (by omega) (by omega : b ≤ x), fo_c_sp (D := D) (a := b) (b := e) (c := x) (by omega) (by omega), fo_c_sp (D := fo_cut D b (e - b)) (a := fo_par D x + 1) (b := b) (by omega) (by omega : b ≤ x - (e - b))]
    rw [fo_c_cg (D := fo_cut D b (e - b)) (E := D) (w := D x) (a := fo_par D x + 1) (b := b) (fun q _ k2 => by rw [fo_cut_lt k2]), fo_c_sh (D := fo_cut D b (e - b)) (E := D) (w := D x) (a := b) (k := e - b) (fun q k1 _ => by rw [fo_cut_ge k1]), show b + (e - b) = e by omega, show x - (e - b) + (e - b) = x by omega, fo_c_l (by omega : b < e), fo_c_z (a := b + 1) (b := e) (fun q k1 k2 => by have := b3 q (by omega) k2; omega)]
    by_cases d : D b = D x
    · have : fo_par D b = fo_par D x := fo_par_eq W h0 (by omega) ⟨p1, c, by omega, fun q k1 k2 => by rw [d]; exact p4 q k1 (by omega)⟩
      rw [if_pos d, if_pos this.symm]
      omega
    · have : ¬ fo_par D x = fo_par D b := fun k => by
        have u := fo_P_d W (by omega) hn ⟨p1, p2, p3, p4⟩
        have v := fo_P_d W h0 (by omega) ⟨q1, q2, q3, q4⟩
        rw [k] at u
        omega
      rw [if_neg d, if_neg this]
      omega
  · have P' : fo_P (fo_cut D b (e - b)) (x - (e - b)) (fo_par D x - (e - b)) := by
      refine ⟨by omega, by omega, ?_, fun q k1 k2 => ?_⟩
      · rw [ex, fo_cut_ge (by omega), show fo_par D x - (e - b) + (e - b) = fo_par D x by omega]
        exact p3
      · rw [ex, fo_cut_ge (by omega)]
        exact p4 _ (by omega) (by omega)
    have e1 := fo_par_eq V (by omega) (by omega) P'
    rw [e1, if_neg c, if_neg (by omega)]
    refine ⟨rfl, ?_⟩
    unfold fo_pl
    rw [e1, ex, fo_c_sh (D := fo_cut D b (e - b)) (E := D) (w := D x) (k := e - b) (fun q k1 _ => by rw [fo_cut_ge (by omega)]), show fo_par D x - (e - b) + 1 + (e - b) = fo_par D x + 1 by omega, show x - (e - b) + (e - b) = x by omega]
    omega
theorem fo_cut_id {I : Int → Int} {b e r : Int} (h0 : 0 ≤ b) (hb : b ≤ e) (h : r < b ∨ e ≤ r) : fo_id (fo_cut I b (e - b)) (if r < b then r else r - (e - b)) = fo_id I r := by
  by_cases c : r < b
  · rw [if_pos c]
    unfold fo_id
    rw [fo_cut_lt c]
  · rw [if_neg c]
    unfold fo_id
    rw [if_neg (by omega), if_neg (by omega), fo_cut_ge (by omega), show r - (e - b) + (e - b) = r by omega]
/-- the parents and places of what is left -/
theorem fo_cut_R {g g1 : Int → Int → Int} {I D : Int → Int} {n b e : Int} (W : fo_W D n) (J : fo_J I n) (R : fo_R g I D n) (h0 : 0 ≤ b) (B : fo_B D n b e)
    (hg : ∀ x, 0 ≤ x → x < n → (x < b ∨ e ≤ x) → g1 (I x) 1 = g (I x) 1 ∧ g1 (I x) 2 = g (I x) 2 - (if g (I x) 1 = g (I b) 1 ∧ g (I b) 2 + 1 ≤ g (I x) 2 then 1 else 0)) : fo_R g1 (fo_cut I b (e - b)) (fo_cut D b (e - b)) (n - (e - b)) := by
  have V := fo_cut_W W h0 B
  have b1 := B.1
  have b2 := B.2.1
  have rb := R b h0 (by omega)
  have PB := fo_par_P W h0 (by omega)
  have sib : ∀ x, 0 ≤ x → x < n → (g (I x) 1 = g (I b) 1 ↔ fo_par D x = fo_par D b) := by
    intro x x0 x1
    have PX := fo_par_P W x0 x1
    rw [(R x x0 x1).1, rb.1]
    refine ⟨fun h => fo_id_inj J PX.1 (by have := PX.2.1; omega) PB.1 (by have := PB.2.1; omega) h, fun h => by rw [h]⟩
  intro q q0 q1
  by_cases c : q < b
  · have a := hg q q0 (by omega) (Or.inl c)
    have rq := R q q0 (by omega)
    have k := fo_par_cg W V q0 (by omega) q1 (fun y _ y2 => (fo_cut_lt (by omega)).symm)
    have PQ := fo_par_P W q0 (by omega)
    rw [fo_cut_lt c, ← k.1, ← k.2, a.1, a.2, rq.1]
    refine ⟨?_, ?_⟩
    · have := fo_cut_id (I := I) (b := b) (e := e) (r := fo_par D q) h0 (by omega) (Or.inl (by have := PQ.2.1; omega))
      rw [if_pos (by have := PQ.2.1; omega)] at this
      exact this.symm
    · rw [← rq.1, if_neg, rq.2]
      · omega
      · intro hc
        have s := (sib q q0 (by omega)).mp hc.1
        have := fo_pl_lt W q0 c (by omega) s
        rw [rb.2, rq.2] at hc
        omega
  · have a := hg (q + (e - b)) (by omega) (by omega) (Or.inr (by omega))
    have rq := R (q + (e - b)) (by omega) (by omega)
    have k := fo_cut_p W h0 B (x := q + (e - b)) (by omega) (by omega)
    rw [show q + (e - b) - (e - b) = q by omega] at k
    rw [fo_cut_ge (by omega), a.1, a.2, k.2.1, k.2.2, fo_cut_id h0 (by omega) k.1, rq.1]
    refine ⟨rfl, ?_⟩
    rw [← rq.1]
    by_cases d : fo_par D (q + (e - b)) = fo_par D b
    · have := fo_pl_lt W h0 (q := q + (e - b)) (by omega) (by omega) d.symm
      rw [if_pos d, if_pos ⟨(sib _ (by omega) (by omega)).mpr d, by rw [rb.2, rq.2]; omega⟩, rq.2]
    · rw [if_neg d, if_neg (fun h => d ((sib _ (by omega) (by omega)).mp h.1)), rq.2]
