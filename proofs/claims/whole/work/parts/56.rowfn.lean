/-! the parent, the branch's end, the place, as functions of the row of depths -/
def fo_pr (D : Int → Int) (v : Int) : Nat → Int
  | 0 => -1
  | k + 1 => if D k < v then k else fo_pr D v k
def fo_par (D : Int → Int) (p : Int) : Int := fo_pr D (D p) p.toNat
def fo_bn (D : Int → Int) (v : Int) : Nat → Int → Int
  | 0, a => a
  | k + 1, a => if D a ≤ v then a else fo_bn D v k (a + 1)
def fo_end (D : Int → Int) (n p : Int) : Int := fo_bn D (D p) (n - (p + 1)).toNat (p + 1)
def fo_c (D : Int → Int) (v a b : Int) : Int := fs (fun q => if D q = v then 1 else 0) a b
def fo_pl (D : Int → Int) (p : Int) : Int := fo_c D (D p) (fo_par D p + 1) p
def fo_cc (D : Int → Int) (n p : Int) : Int := fo_c D (D p + 1) (p + 1) (fo_end D n p)
theorem fo_c_nn (D : Int → Int) (v a b : Int) : 0 ≤ fo_c D v a b := fs_nn (fun q _ _ => by show (0 : Int) ≤ ite _ _ _; split <;> omega)
theorem fo_c_le {D : Int → Int} {v a b : Int} (h : a ≤ b) : fo_c D v a b ≤ b - a := by
  have := (fs_bd (f := fun q => if D q = v then 1 else 0) (a := a) (b := b) (lo := 0) (hi := 1) (fun q _ _ => by show (0 : Int) ≤ ite _ _ _; split <;> omega) (fun q _ _ => by show ite _ _ _ ≤ (1 : Int); split <;> omega) h).2
  unfold fo_c
  omega
theorem fo_c_sp {D : Int → Int} {v a b c : Int} (h1 : a ≤ b) (h2 : b ≤ c) : fo_c D v a c = fo_c D v a b + fo_c D v b c := fs_sp h1 h2
theorem fo_c_r {D : Int → Int} {v a b : Int} (h : a ≤ b) : fo_c D v a (b + 1) = fo_c D v a b + (if D b = v then 1 else 0) := fs_r h
theorem fo_c_l {D : Int → Int} {v a b : Int} (h : a < b) : fo_c D v a b = (if D a = v then 1 else 0) + fo_c D v (a + 1) b := fs_l h
theorem fo_c_0 {D : Int → Int} {v a b : Int} (h : b ≤ a) : fo_c D v a b = 0 := fs_0 h
theorem fo_c_z {D : Int → Int} {v a b : Int} (h : ∀ q, a ≤ q → q < b → D q ≠ v) : fo_c D v a b = 0 := fs_z (fun q q1 q2 => if_neg (h q q1 q2))
theorem fo_c_sh {D E : Int → Int} {v w a b k : Int} (h : ∀ q, a ≤ q → q < b → (D q = v ↔ E (q + k) = w)) : fo_c D v a b = fo_c E w (a + k) (b + k) := by
  refine fs_sh (fun q q1 q2 => ?_)
  by_cases c : D q = v
  · rw [if_pos c, if_pos ((h q q1 q2).mp c)]
  · rw [if_neg c, if_neg (fun x => c ((h q q1 q2).mpr x))]
theorem fo_c_cg {D E : Int → Int} {v w a b : Int} (h : ∀ q, a ≤ q → q < b → (D q = v ↔ E q = w)) : fo_c D v a b = fo_c E w a b := by
  have := fo_c_sh (D := D) (E := E) (v := v) (w := w) (a := a) (b := b) (k := 0) (fun q q1 q2 => by rw [Int.add_zero]; exact h q q1 q2)
  rw [Int.add_zero, Int.add_zero] at this
  exact this
theorem fo_pr_s {D : Int → Int} {v : Int} (h0 : D (-1) < v) : ∀ k : Nat, -1 ≤ fo_pr D v k ∧ fo_pr D v k < k ∧ D (fo_pr D v k) < v ∧ ∀ q : Int, fo_pr D v k < q → q < k → v ≤ D q
  | 0 => by
    rw [fo_pr]
    exact ⟨by omega, by omega, h0, fun q q1 q2 => absurd q1 (by omega)⟩
  | k + 1 => by
    rw [fo_pr]
    have ih := fo_pr_s h0 k
    split
    · next c => exact ⟨by omega, by omega, c, fun q q1 q2 => absurd q1 (by omega)⟩
    · next c =>
      refine ⟨ih.1, by omega, ih.2.2.1, fun q q1 q2 => ?_⟩
      by_cases d : q = k
      · rw [d]
        omega
      · exact ih.2.2.2 q q1 (by omega)
theorem fo_par_P {D : Int → Int} {n p : Int} (W : fo_W D n) (h0 : 0 ≤ p) (h1 : p < n) : fo_P D p (fo_par D p) := by
  have d1 := (W.2.2 p h0 h1).1
  have := fo_pr_s (D := D) (v := D p) (by rw [W.1]; omega) p.toNat
  unfold fo_par
  exact ⟨this.1, by omega, this.2.2.1, fun q q1 q2 => this.2.2.2 q q1 (by omega)⟩
theorem fo_par_eq {D : Int → Int} {n p r : Int} (W : fo_W D n) (h0 : 0 ≤ p) (h1 : p < n) (h : fo_P D p r) : fo_par D p = r := fo_P_uniq (fo_par_P W h0 h1) h
theorem fo_bn_s {D : Int → Int} {v : Int} : ∀ (k : Nat) (a : Int), a ≤ fo_bn D v k a ∧ fo_bn D v k a ≤ a + k ∧ (∀ q, a ≤ q → q < fo_bn D v k a → v < D q) ∧ (fo_bn D v k a < a + k → D (fo_bn D v k a) ≤ v)
  | 0, a => by
    rw [fo_bn]
    exact ⟨by omega, by omega, fun q q1 q2 => absurd q1 (by omega), fun h => absurd h (by omega)⟩
  | k + 1, a => by
    rw [fo_bn]
    split
    · next c => exact ⟨by omega, by omega, fun q q1 q2 => absurd q1 (by omega), fun _ => c⟩
    · next c =>
      have ih := fo_bn_s (D := D) (v := v) k (a + 1)
      refine ⟨by omega, by omega, fun q q1 q2 => ?_, fun h => ih.2.2.2 (by omega)⟩
      by_cases d : q = a
      · rw [d]
        omega
      · exact ih.2.2.1 q (by omega) q2
theorem fo_end_B {D : Int → Int} {n p : Int} (h1 : p < n) : fo_B D n p (fo_end D n p) := by
  have := fo_bn_s (D := D) (v := D p) (n - (p + 1)).toNat (p + 1)
  unfold fo_end
  exact ⟨by omega, by omega, fun q q1 q2 => this.2.2.1 q (by omega) q2, fun h => this.2.2.2 (by omega)⟩
theorem fo_end_eq {D : Int → Int} {n p e : Int} (h : fo_B D n p e) : fo_end D n p = e := fo_B_uniq (fo_end_B (by have := h.1; have := h.2.1; omega)) h
theorem fo_end_root {D : Int → Int} {n : Int} (W : fo_W D n) : fo_end D n (-1) = n := by
  by_cases c : n = 0
  · unfold fo_end
    rw [show (n - (-1 + 1)).toNat = 0 by omega, fo_bn]
    omega
  · have w := W.2.1
    refine fo_end_eq ⟨by omega, by omega, fun q q1 q2 => ?_, fun h => absurd h (by omega)⟩
    rw [W.1]
    have := (W.2.2 q (by omega) q2).1
    omega
/-- the end of a place's branch, root too -/
theorem fo_end_B' {D : Int → Int} {n p : Int} (W : fo_W D n) (h0 : -1 ≤ p) (h1 : p < n ∨ p = -1) : p < fo_end D n p ∧ fo_end D n p ≤ n ∧ (∀ q, p < q → q < fo_end D n p → D p < D q) ∧ (fo_end D n p < n → D (fo_end D n p) ≤ D p) := by
  by_cases c : p = -1
  · rw [c, fo_end_root W]
    have w := W.2.1
    refine ⟨by omega, by omega, fun q q1 q2 => ?_, fun h => absurd h (by omega)⟩
    rw [W.1]
    have := (W.2.2 q (by omega) q2).1
    omega
  · exact fo_end_B (by omega)
/-- who is a child of r -/
theorem fo_child {D : Int → Int} {n p r : Int} (W : fo_W D n) (hr : -1 ≤ r) (hr2 : r < n ∨ r = -1) (h0 : 0 ≤ p) (h1 : p < n) : fo_P D p r ↔ r < p ∧ p < fo_end D n r ∧ D p = D r + 1 := by
  have B := fo_end_B' W hr hr2
  constructor
  · intro h
    have hd := fo_P_d W h0 h1 h
    obtain ⟨k1, k2, k3, k4⟩ := h
    refine ⟨k2, ?_, by omega⟩
    refine Int.not_le.mp fun q => ?_
    have b4 := B.2.2.2 (by omega)
    by_cases x : fo_end D n r < p
    · have := k4 _ B.1 x
      omega
    · rw [show fo_end D n r = p by omega] at b4
      omega
  · intro h
    refine ⟨hr, h.1, by omega, fun q q1 q2 => ?_⟩
    have := B.2.2.1 q q1 (by omega)
    omega
theorem fo_pl_lt {D : Int → Int} {n p q : Int} (W : fo_W D n) (h0 : 0 ≤ p) (h1 : p < q) (h2 : q < n) (hp : fo_par D p = fo_par D q) : fo_pl D p < fo_pl D q := by
  have P := fo_par_P W h0 (by omega)
  have Q := fo_par_P W (by omega) h2
  have dp := fo_P_d W h0 (by omega) P
  have dq := fo_P_d W (by omega) h2 Q
  rw [hp] at dp
  unfold fo_pl
  have e : D p = D q := by omega
  have a := P.2.1
  rw [hp] at a
  rw [hp, e]
  rw [fo_c_sp (a := fo_par D q + 1) (b := p) (c := q) (by omega) (by omega), fo_c_l h1, if_pos e]
  have := fo_c_nn D (D q) (p + 1) q
  omega
theorem fo_pl_inj {D : Int → Int} {n p q : Int} (W : fo_W D n) (h0 : 0 ≤ p) (h1 : p < n) (h2 : 0 ≤ q) (h3 : q < n) (hp : fo_par D p = fo_par D q) (hl : fo_pl D p = fo_pl D q) : p = q := by
  by_cases a : p < q
  · have := fo_pl_lt W h0 a h3 hp
    omega
  · by_cases b : q < p
    · have := fo_pl_lt W h2 b h1 hp.symm
      omega
    · omega
theorem fo_par_cg {D E : Int → Int} {n m p : Int} (W : fo_W D n) (V : fo_W E m) (h0 : 0 ≤ p) (h1 : p < n) (h2 : p < m) (h : ∀ q, 0 ≤ q → q ≤ p → D q = E q) : fo_par D p = fo_par E p ∧ fo_pl D p = fo_pl E p := by
  have P := fo_par_P W h0 h1
  have g : ∀ q, -1 ≤ q → q ≤ p → D q = E q := fun q q1 q2 => by
    by_cases c : q = -1
    · rw [c, W.1, V.1]
    · exact h q (by omega) q2
  have e : fo_par E p = fo_par D p := by
    refine fo_par_eq V h0 h2 ⟨P.1, P.2.1, ?_, fun q q1 q2 => ?_⟩
    · rw [← g _ P.1 (by have := P.2.1; omega), ← g p (by omega) (by omega)]
      exact P.2.2.1
    · rw [← g q (by have := P.1; omega) (by omega), ← g p (by omega) (by omega)]
      exact P.2.2.2 q q1 q2
  refine ⟨e.symm, ?_⟩
  unfold fo_pl
  rw [e]
  refine fo_c_cg (fun q q1 q2 => ?_)
  rw [g q (by have := P.1; omega) (by omega), g p (by omega) (by omega)]
