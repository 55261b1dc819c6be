/-! a row of depths: who stands under whom -/
def fo_W (D : Int → Int) (n : Int) : Prop := D (-1) = 0 ∧ 0 ≤ n ∧ ∀ p : Int, 0 ≤ p → p < n → 1 ≤ D p ∧ D p ≤ D (p - 1) + 1
/-- r is the position of the parent of p -/
def fo_P (D : Int → Int) (p r : Int) : Prop := -1 ≤ r ∧ r < p ∧ D r < D p ∧ ∀ q : Int, r < q → q < p → D p ≤ D q
/-- e is the position behind the branch of p -/
def fo_B (D : Int → Int) (n p e : Int) : Prop := p < e ∧ e ≤ n ∧ (∀ q : Int, p < q → q < e → D p < D q) ∧ (e < n → D e ≤ D p)
theorem fo_P_uniq {D : Int → Int} {p r s : Int} (h : fo_P D p r) (k : fo_P D p s) : r = s := by
  obtain ⟨h1, h2, h3, h4⟩ := h
  obtain ⟨k1, k2, k3, k4⟩ := k
  by_cases a : r < s
  · have := h4 s a k2
    omega
  · by_cases b : s < r
    · have := k4 r b h2
      omega
    · omega
theorem fo_B_uniq {D : Int → Int} {n p e f : Int} (h : fo_B D n p e) (k : fo_B D n p f) : e = f := by
  obtain ⟨h1, h2, h3, h4⟩ := h
  obtain ⟨k1, k2, k3, k4⟩ := k
  by_cases a : e < f
  · have := k3 e h1 a
    have := h4 (by omega)
    omega
  · by_cases b : f < e
    · have := h3 f k1 b
      have := k4 (by omega)
      omega
    · omega
theorem fo_P_ex {D : Int → Int} {n p : Int} (W : fo_W D n) (h0 : 0 ≤ p) (h1 : p < n) : ∃ r, fo_P D p r := by
  have d1 := (W.2.2 p h0 h1).1
  have key : ∀ k : Nat, (∀ q : Int, p - k ≤ q → q < p → D p ≤ D q) → (k : Int) ≤ p → ∃ r, fo_P D p r := by
    intro k
    generalize hm : (p - k).toNat = m
    induction m generalizing k with
    | zero =>
      intro hk hkp
      refine ⟨-1, by omega, by omega, by rw [W.1]; omega, fun q q1 q2 => hk q (by omega) q2⟩
    | succ m ih =>
      intro hk hkp
      by_cases c : D (p - k - 1) < D p
      · exact ⟨p - k - 1, by omega, by omega, c, fun q q1 q2 => hk q (by omega) q2⟩
      · refine ih (k + 1) (by omega) (fun q q1 q2 => ?_) (by omega)
        by_cases e : q = p - k - 1
        · rw [e]
          omega
        · exact hk q (by omega) q2
  exact key 0 (fun q q1 q2 => absurd q1 (by omega)) (by omega)
theorem fo_B_ex {D : Int → Int} {n p : Int} (h1 : p < n) : ∃ e, fo_B D n p e := by
  have key : ∀ (m : Nat) (e : Int), e + m = n → p < e → (∀ q : Int, p < q → q < e → D p < D q) → ∃ e, fo_B D n p e := by
    intro m
    induction m with
    | zero =>
      intro e he hp hq
      exact ⟨e, hp, by omega, hq, fun h => absurd h (by omega)⟩
    | succ m ih =>
      intro e he hp hq
      by_cases c : D e ≤ D p
      · exact ⟨e, hp, by omega, hq, fun _ => c⟩
      · refine ih (e + 1) (by omega) (by omega) (fun q q1 q2 => ?_)
        by_cases x : q = e
        · rw [x]
          omega
        · exact hq q q1 (by omega)
  exact key (n - (p + 1)).toNat (p + 1) (by omega) (by omega) (fun q q1 q2 => absurd q1 (by omega))
theorem fo_P_d {D : Int → Int} {n p r : Int} (W : fo_W D n) (h0 : 0 ≤ p) (h1 : p < n) (h : fo_P D p r) : D r = D p - 1 := by
  obtain ⟨k1, k2, k3, k4⟩ := h
  by_cases e : r = p - 1
  · have := (W.2.2 p h0 h1).2
    rw [← e] at this
    omega
  · have a := k4 (r + 1) (by omega) (by omega)
    have b := (W.2.2 (r + 1) (by omega) (by omega)).2
    rw [show r + 1 - 1 = r by omega] at b
    omega
theorem fo_nonneg {D : Int → Int} {n p : Int} (W : fo_W D n) (h0 : -1 ≤ p) (h1 : p < n) : 0 ≤ D p := by
  by_cases e : p = -1
  · rw [e, W.1]
    omega
  · have := (W.2.2 p (by omega) h1).1
    omega
/-- the first child -/
theorem fo_P_next {D : Int → Int} {p : Int} (h0 : -1 ≤ p) (h : D p < D (p + 1)) : fo_P D (p + 1) p := ⟨h0, by omega, h, fun q q1 q2 => absurd q1 (by omega)⟩
/-- a branch lies in its parent's branch -/
theorem fo_B_sub {D : Int → Int} {n p r e f : Int} (hp : fo_P D p r) (he : fo_B D n p e) (hf : fo_B D n r f) : p < f ∧ e ≤ f := by
  obtain ⟨k1, k2, k3, k4⟩ := hp
  obtain ⟨b1, b2, b3, b4⟩ := he
  obtain ⟨c1, c2, c3, c4⟩ := hf
  have pf : p < f := by
    refine Int.not_le.mp fun q => ?_
    by_cases x : f < p
    · have := k4 f c1 x
      have := c4 (by omega)
      omega
    · have x : f = p := by omega
      have := c4 (by omega)
      rw [x] at this
      omega
  refine ⟨pf, ?_⟩
  refine Int.not_lt.mp fun q => ?_
  have := b3 f pf q
  have := c4 (by omega)
  omega
/-- within a branch, or outside of it: so for the parent -/
theorem fo_in_up {D : Int → Int} {n b e p r : Int} (hb : fo_B D n b e) (hp : fo_P D p r) (h1 : b < p) (h2 : p < e) : b ≤ r := by
  obtain ⟨k1, k2, k3, k4⟩ := hp
  refine Int.not_lt.mp fun q => ?_
  have := k4 b q h1
  have := hb.2.2.1 p h1 h2
  omega
theorem fo_out_up {D : Int → Int} {n b e p r : Int} (hb : fo_B D n b e) (hp : fo_P D p r) (h1 : e ≤ p) (h2 : p < n) : ¬ (b ≤ r ∧ r < e) := by
  obtain ⟨k1, k2, k3, k4⟩ := hp
  obtain ⟨b1, b2, b3, b4⟩ := hb
  intro q
  have d1 : D b ≤ D r := by
    by_cases x : r = b
    · rw [x]
      omega
    · have := b3 r (by omega) q.2
      omega
  have d2 := b4 (by omega)
  by_cases x : e = p
  · rw [x] at d2
    omega
  · have := k4 e q.2 (by omega)
    omega
