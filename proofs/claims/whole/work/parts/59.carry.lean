/-! a branch is carried; rows that agree -/
theorem fo_W_cg {D E : Int → Int} {n : Int} (W : fo_W D n) (h : ∀ q, 0 ≤ q → q < n → E q = D q) (h0 : E (-1) = 0) : fo_W E n := by
  refine ⟨h0, W.2.1, fun p p0 p1 => ?_⟩
  have w := W.2.2 p p0 p1
  rw [h p p0 p1]
  by_cases c : p = 0
  · rw [c] at w ⊢
    rw [show (0 : Int) - 1 = -1 by omega] at w ⊢
    rw [h0]
    rw [W.1] at w
    exact w
  · rw [h (p - 1) (by omega) (by omega)]
    exact w
theorem fo_R_cg {g : Int → Int → Int} {I D I' E : Int → Int} {n : Int} (W : fo_W D n) (R : fo_R g I D n) (h : ∀ q, 0 ≤ q → q < n → E q = D q) (h0 : E (-1) = 0) (hI : ∀ q, 0 ≤ q → q < n → I' q = I q) : fo_R g I' E n := by
  have V := fo_W_cg W h h0
  intro p p0 p1
  have r := R p p0 p1
  have c := fo_par_cg W V p0 p1 p1 (fun q q0 q1 => (h q q0 (by omega)).symm)
  have P := fo_par_P W p0 p1
  rw [hI p p0 p1, ← c.1, ← c.2]
  refine ⟨r.1.trans ?_, r.2⟩
  unfold fo_id
  by_cases z : fo_par D p = -1
  · rw [if_pos z, if_pos z]
  · rw [if_neg z, if_neg z, hI _ (by have := P.1; omega) (by have := P.2.1; omega)]
theorem fo_J_cg {I I' : Int → Int} {n : Int} (J : fo_J I n) (h : ∀ q, 0 ≤ q → q < n → I' q = I q) : fo_J I' n := by
  refine ⟨fun p p0 p1 => ?_, fun p q p0 p1 q0 q1 e => ?_⟩
  · rw [h p p0 p1]
    exact J.1 p p0 p1
  · rw [h p p0 p1, h q q0 q1] at e
    exact J.2 p q p0 p1 q0 q1 e
/-- a branch of the row by itself, made so much deeper -/
theorem fo_E_br {D : Int → Int} {n b e v : Int} (W : fo_W D n) (h0 : 0 ≤ b) (B : fo_B D n b e) : fo_E (fun j => D (b + j) + (v - D b)) (e - b) v := by
  obtain ⟨b1, b2, b3, b4⟩ := B
  refine ⟨by omega, ?_, fun j j0 j1 => ?_⟩
  · show D (b + 0) + (v - D b) = v
    rw [Int.add_zero]
    omega
  · show v < D (b + j) + (v - D b) ∧ D (b + j) + (v - D b) ≤ D (b + (j - 1)) + (v - D b) + 1
    have := b3 (b + j) (by omega) (by omega)
    have := W.2.2 (b + j) (by omega) (by omega)
    rw [show b + (j - 1) = b + j - 1 by omega]
    omega
/-- what shift does -/
def mo_sh (g : Int → Int → Int) (m p k y : Int) (e f : Int) : Int := if f = 2 ∧ 0 ≤ e ∧ e < m ∧ g e 0 = 1 ∧ g e 1 = p ∧ k ≤ g e 2 then g e 2 + y else g e f
def mo_pt (g : Int → Int → Int) (x y v : Int) (e f : Int) : Int := if e = x ∧ f = y then v else g e f
theorem mo_pt_at (g : Int → Int → Int) (x y v : Int) : mo_pt g x y v x y = v := if_pos ⟨rfl, rfl⟩
theorem mo_pt_e {g : Int → Int → Int} {x y v e f : Int} (h : e ≠ x) : mo_pt g x y v e f = g e f := if_neg (fun k => h k.1)
theorem mo_pt_f {g : Int → Int → Int} {x y v e f : Int} (h : f ≠ y) : mo_pt g x y v e f = g e f := if_neg (fun k => h k.2)
theorem mo_sh_f {g : Int → Int → Int} {m p k y e f : Int} (h : f ≠ 2) : mo_sh g m p k y e f = g e f := if_neg (fun q => h q.1)
theorem mo_sh_2 {g : Int → Int → Int} {m p k y e : Int} (h0 : 0 ≤ e) (h1 : e < m) (h2 : g e 0 = 1) : mo_sh g m p k y e 2 = g e 2 + (if g e 1 = p ∧ k ≤ g e 2 then y else 0) := by
  unfold mo_sh
  by_cases c : g e 1 = p ∧ k ≤ g e 2
  · rw [if_pos ⟨rfl, h0, h1, h2, c.1, c.2⟩, if_pos c]
  · rw [if_neg (fun q => c ⟨q.2.2.2.2.1, q.2.2.2.2.2⟩), if_neg c]
    omega
def mo_cy (g : Int → Int → Int) (m x p k : Int) : Int → Int → Int := mo_pt (mo_pt (mo_sh (mo_pt (mo_sh g m (g x 1) (g x 2 + 1) (-1)) x 1 (-2)) m p k 1) x 1 p) x 2 k
theorem fo_cy_R {g : Int → Int → Int} {I D : Int → Int} {n m b e r r1 c : Int} (W : fo_W D n) (J : fo_J I n) (R : fo_R g I D n) (hm : ∀ x, 0 ≤ x → x < n → I x < m ∧ g (I x) 0 = 1) (h0 : 0 ≤ b) (B : fo_B D n b e) (hr : r < b ∨ e ≤ r) (hr1 : r1 = if r < b then r else r - (e - b))
    (A : fo_A (fo_cut D b (e - b)) (n - (e - b)) r1 c) (hr0 : -1 ≤ r) (hrn : r < n ∨ r = -1) : fo_R (mo_cy g m (I b) (fo_id I r) (fo_c (fo_cut D b (e - b)) (fo_cut D b (e - b) r1 + 1) (r1 + 1) c)) (fo_pst (fo_cut I b (e - b)) (fun j => I (b + j)) c (e - b)) (fo_pst (fo_cut D b (e - b)) (fun j => D (b + j) + (fo_cut D b (e - b) r1 + 1 - D b)) c (e - b)) n := by
  have b1 := B.1
  have b2 := B.2.1
  generalize hk : fo_c (fo_cut D b (e - b)) (fo_cut D b (e - b) r1 + 1) (r1 + 1) c = k
  have ne : ∀ x, 0 ≤ x → x < n → x ≠ b → I x ≠ I b := fun x x0 x1 h q => h (J.2 x b x0 x1 h0 (by omega) q)
  have idr : fo_id (fo_cut I b (e - b)) r1 = fo_id I r := by rw [hr1]; exact fo_cut_id h0 (by omega) hr
  have PB := fo_par_P W h0 (by omega)
  have rb := R b h0 (by omega)
  have R1 : fo_R (mo_sh g m (g (I b) 1) (g (I b) 2 + 1) (-1)) (fo_cut I b (e - b)) (fo_cut D b (e - b)) (n - (e - b)) := by
    refine fo_cut_R W J R h0 B (fun x x0 x1 _ => ⟨mo_sh_f (by decide), ?_⟩)
    have := hm x x0 x1
    rw [mo_sh_2 (J.1 x x0 x1) this.1 this.2]
    split <;> omega
  have W1 := fo_cut_W W h0 B
  have J1 := fo_cut_J J h0 (by omega) b2
  have HE := fo_E_br (v := fo_cut D b (e - b) r1 + 1) W h0 B
  -- where the shifted places are
  have old : ∀ x, 0 ≤ x → x < n → x ≠ b → mo_cy g m (I b) (fo_id I r) k (I x) 1 = g (I x) 1 ∧ mo_cy g m (I b) (fo_id I r) k (I x) 2 = mo_sh g m (g (I b) 1) (g (I b) 2 + 1) (-1) (I x) 2 + (if g (I x) 1 = fo_id I r ∧ k ≤ mo_sh g m (g (I b) 1) (g (I b) 2 + 1) (-1) (I x) 2 then 1 else 0) := by
    intro x x0 x1 xb
    have nx := ne x x0 x1 xb
    have h := hm x x0 x1
    refine ⟨?_, ?_⟩
    · unfold mo_cy
      rw [mo_pt_e nx, mo_pt_e nx, mo_sh_f (by decide), mo_pt_e nx, mo_sh_f (by decide)]
    · unfold mo_cy
      rw [mo_pt_e nx, mo_pt_e nx, mo_sh_2 (J.1 x x0 x1) h.1 (by rw [mo_pt_e nx, mo_sh_f (by decide)]; exact h.2), mo_pt_e nx, mo_pt_e nx, mo_sh_f (f := 1) (by decide)]
  rw [show n = n - (e - b) + (e - b) by omega]
  refine fo_pst_R W1 J1 R1 A HE (fun x x0 x1 => ?_) ⟨?_, ?_⟩ (fun j j0 j1 => ?_)
  · rw [hk, idr]
    unfold fo_cut
    by_cases q : x < b
    · rw [if_pos q, mo_sh_f (f := 1) (by decide)]
      exact old x x0 (by omega) (by omega)
    · rw [if_neg q, mo_sh_f (f := 1) (by decide)]
      exact old _ (by omega) (by omega) (by omega)
  · show mo_cy g m (I b) (fo_id I r) k (I (b + 0)) 1 = _
    rw [Int.add_zero, idr]
    unfold mo_cy
    rw [mo_pt_f (by decide), mo_pt_at]
  · show mo_cy g m (I b) (fo_id I r) k (I (b + 0)) 2 = _
    rw [Int.add_zero, hk]
    unfold mo_cy
    rw [mo_pt_at]
  · have P := fo_par_P W (p := b + j) (by omega) (by omega)
    have up := fo_in_up B P (by omega) (by omega)
    have rj := R (b + j) (by omega) (by omega)
    have o := old (b + j) (by omega) (by omega) (by omega)
    have hj := hm (b + j) (by omega) (by omega)
    have pj := P.2.1
    have n1 : ¬ g (I (b + j)) 1 = g (I b) 1 := by
      rw [rj.1, rb.1]
      intro h
      have := fo_id_inj J P.1 (by omega) PB.1 (by have := PB.2.1; omega) h
      have := PB.2.1
      omega
    have n2 : ¬ g (I (b + j)) 1 = fo_id I r := by
      rw [rj.1]
      intro h
      have := fo_id_inj J P.1 (by omega) hr0 hrn h
      omega
    rw [mo_sh_2 (J.1 _ (by omega) (by omega)) hj.1 hj.2, if_neg (fun q => n1 q.1), if_neg (fun q => n2 q.1), rj.1, rj.2] at o
    refine ⟨fo_par D (b + j) - b, by omega, ⟨by omega, by omega, ?_, fun q q1 q2 => ?_⟩, ?_, ?_⟩
    · show D (b + (fo_par D (b + j) - b)) + _ < D (b + j) + _
      rw [show b + (fo_par D (b + j) - b) = fo_par D (b + j) by omega]
      have := P.2.2.1
      omega
    · show D (b + j) + _ ≤ D (b + q) + _
      have := P.2.2.2 (b + q) (by omega) (by omega)
      omega
    · show _ = I (b + (fo_par D (b + j) - b))
      rw [show b + (fo_par D (b + j) - b) = fo_par D (b + j) by omega]
      refine o.1.trans ?_
      unfold fo_id
      rw [if_neg (by omega)]
    · refine o.2.trans ?_
      unfold fo_pl
      rw [Int.add_zero, Int.add_zero, fo_c_sh (D := fun j => D (b + j) + (fo_cut D b (e - b) r1 + 1 - D b)) (E := D) (w := D (b + j)) (a := fo_par D (b + j) - b + 1) (b := j) (k := b) (fun q _ _ => by
        show D (b + q) + _ = D (b + j) + _ ↔ D (q + b) = D (b + j)
        rw [Int.add_comm q b]
        omega), show fo_par D (b + j) - b + 1 + b = fo_par D (b + j) + 1 by omega, Int.add_comm j b]
