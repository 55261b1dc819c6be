/-! rows that are put in order; rows that are gathered -/
def so_S (c : Int) (G s : Int → Int) : Prop := (∀ i j, 0 ≤ i → i < j → j < c → s i < s j) ∧ (∀ i, 0 ≤ i → i < c → ∃ j, 0 ≤ j ∧ j < c ∧ s i = G j) ∧ (∀ j, 0 ≤ j → j < c → ∃ i, 0 ≤ i ∧ i < c ∧ s i = G j)
theorem so_S_le {c : Int} {G s : Int → Int} (h : so_S c G s) {i j : Int} (i0 : 0 ≤ i) (ij : i ≤ j) (jc : j < c) : s i ≤ s j := by
  by_cases e : i = j
  · rw [e]
    omega
  · have := h.1 i j i0 (by omega) jc
    omega
theorem so_S_u1 {c : Int} {G s t : Int → Int} (h : so_S c G s) (k : so_S c G t) {i : Int} (i0 : 0 ≤ i) (ic : i < c) (e : ∀ j, 0 ≤ j → j < i → s j = t j) : t i ≤ s i := by
  obtain ⟨a, a0, a1, a2⟩ := h.2.1 i i0 ic
  obtain ⟨b, b0, b1, b2⟩ := k.2.2 a a0 a1
  by_cases q : b < i
  · have := e b b0 q
    have := h.1 b i b0 q ic
    omega
  · have := so_S_le k i0 (by omega : i ≤ b) b1
    omega
theorem so_S_u {c : Int} {G s t : Int → Int} (h : so_S c G s) (k : so_S c G t) : ∀ i, 0 ≤ i → i < c → s i = t i := by
  have key : ∀ (n : Nat) (i : Int), 0 ≤ i → i < n → i < c → s i = t i := by
    intro n
    induction n with
    | zero =>
      intro i i0 i1
      omega
    | succ n ih =>
      intro i i0 i1 ic
      have e : ∀ j, 0 ≤ j → j < i → s j = t j := fun j j0 j1 => ih j j0 (by omega) (by omega)
      have := so_S_u1 h k i0 ic e
      have := so_S_u1 k h i0 ic (fun j j0 j1 => (e j j0 j1).symm)
      omega
  exact fun i i0 ic => key (i + 1).toNat i i0 (by omega) ic
def iu (f : Int → Int) (j v : Int) (i : Int) : Int := if i = j then v else f i
theorem iu_at (f : Int → Int) (j v : Int) : iu f j v j = v := if_pos rfl
theorem iu_ne {f : Int → Int} {j v i : Int} (h : i ≠ j) : iu f j v i = f i := if_neg h
def so_sh (E : Int → Int) (p c : Int) (i : Int) : Int := if p < i ∧ i ≤ c then E (i - 1) else E i
def so_in (E : Int → Int) (p c v : Int) : Int → Int := iu (so_sh E p c) p v
theorem so_sh_c (E : Int → Int) (c : Int) : so_sh E c c = E := by
  funext i
  exact if_neg (by omega)
theorem so_sh_s (E : Int → Int) {p c : Int} (h : p ≤ c) : iu (so_sh E p c) p (so_sh E p c (p - 1)) = so_sh E (p - 1) c := by
  funext i
  unfold iu
  by_cases a : i = p
  · rw [if_pos a, a]
    unfold so_sh
    rw [if_neg (by omega), if_pos (by omega)]
  · rw [if_neg a]
    unfold so_sh
    by_cases b : p < i ∧ i ≤ c
    · rw [if_pos b, if_pos (by omega)]
    · rw [if_neg b, if_neg (by omega)]
theorem so_in_lt {E : Int → Int} {p c v i : Int} (h : i < p) : so_in E p c v i = E i := by
  unfold so_in
  rw [iu_ne (by omega)]
  exact if_neg (by omega)
theorem so_in_at (E : Int → Int) (p c v : Int) : so_in E p c v p = v := iu_at _ _ _
theorem so_in_gt {E : Int → Int} {p c v i : Int} (h : p < i) (h2 : i ≤ c) : so_in E p c v i = E (i - 1) := by
  unfold so_in
  rw [iu_ne (by omega)]
  exact if_pos ⟨h, h2⟩
theorem so_S_in {c p v : Int} {G s : Int → Int} (h : so_S c G s) (c0 : 0 ≤ c) (p0 : 0 ≤ p) (p1 : p ≤ c) (h1 : ∀ i, 0 ≤ i → i < p → s i < v) (h2 : ∀ i, p ≤ i → i < c → v < s i) : so_S (c + 1) (iu G c v) (so_in s p c v) := by
  refine ⟨fun i j i0 ij jc => ?_, fun i i0 ic => ?_, fun j j0 jc => ?_⟩
  · by_cases a : i < p
    · rw [so_in_lt a]
      by_cases b : j < p
      · rw [so_in_lt b]
        exact h.1 i j i0 ij (by omega)
      · by_cases d : j = p
        · rw [d, so_in_at]
          exact h1 i i0 a
        · rw [so_in_gt (by omega) (by omega)]
          have := h1 i i0 a
          have := h2 (j - 1) (by omega) (by omega)
          omega
    · by_cases b : i = p
      · rw [b, so_in_at, so_in_gt (by omega) (by omega)]
        exact h2 (j - 1) (by omega) (by omega)
      · rw [so_in_gt (by omega) (by omega), so_in_gt (by omega) (by omega)]
        exact h.1 _ _ (by omega) (by omega) (by omega)
  · by_cases a : i < p
    · rw [so_in_lt a]
      obtain ⟨j, j0, j1, j2⟩ := h.2.1 i i0 (by omega)
      exact ⟨j, j0, by omega, by rw [iu_ne (by omega)]; exact j2⟩
    · by_cases b : i = p
      · rw [b, so_in_at]
        exact ⟨c, c0, by omega, (iu_at _ _ _).symm⟩
      · rw [so_in_gt (by omega) (by omega)]
        obtain ⟨j, j0, j1, j2⟩ := h.2.1 (i - 1) (by omega) (by omega)
        exact ⟨j, j0, by omega, by rw [iu_ne (by omega)]; exact j2⟩
  · by_cases a : j = c
    · rw [a, iu_at]
      exact ⟨p, p0, by omega, so_in_at _ _ _ _⟩
    · rw [iu_ne a]
      obtain ⟨i, i0, i1, i2⟩ := h.2.2 j j0 (by omega)
      by_cases b : i < p
      · exact ⟨i, i0, by omega, by rw [so_in_lt b]; exact i2⟩
      · exact ⟨i + 1, by omega, by omega, by rw [so_in_gt (by omega) (by omega), show i + 1 - 1 = i by omega]; exact i2⟩
theorem so_S_0 (G s : Int → Int) : so_S 0 G s := ⟨fun i j i0 ij jc => absurd jc (by omega), fun i i0 ic => absurd ic (by omega), fun j j0 jc => absurd jc (by omega)⟩
/-- how many, and which, are gathered -/
def fd_c (q : Int → Int) (k : Int) : Int := fs (fun p => if q p = 1 then 1 else 0) 0 k
def fd_a (q f A : Int → Int) : Nat → Int → Int
  | 0 => A
  | k + 1 => if q k = 1 then iu (fd_a q f A k) (fd_c q k) (f k) else fd_a q f A k
theorem fd_c_0 (q : Int → Int) : fd_c q 0 = 0 := fs_0 (Int.le_refl 0)
theorem fd_c_s (q : Int → Int) {k : Int} (h : 0 ≤ k) : fd_c q (k + 1) = fd_c q k + (if q k = 1 then 1 else 0) := fs_r h
theorem fd_c_r (q : Int → Int) {k : Int} (h : 0 ≤ k) : 0 ≤ fd_c q k ∧ fd_c q k ≤ k := by
  have := fs_bd (f := fun p => if q p = 1 then 1 else 0) (a := 0) (b := k) (lo := 0) (hi := 1) (fun p _ _ => by show (0 : Int) ≤ ite _ _ _; split <;> omega) (fun p _ _ => by show ite _ _ _ ≤ (1 : Int); split <;> omega) h
  unfold fd_c
  omega
theorem fd_a_eq (q f A B : Int → Int) : ∀ (k : Nat) (i : Int), 0 ≤ i → i < fd_c q k → fd_a q f A k i = fd_a q f B k i
  | 0, i, i0, i1 => by
    rw [show ((0 : Nat) : Int) = 0 from rfl, fd_c_0] at i1
    omega
  | k + 1, i, i0, i1 => by
    rw [show ((k + 1 : Nat) : Int) = (k : Int) + 1 by omega, fd_c_s q (by omega)] at i1
    rw [fd_a, fd_a]
    by_cases c : q k = 1
    · rw [if_pos c] at i1
      rw [if_pos c, if_pos c]
      by_cases d : i = fd_c q k
      · rw [d, iu_at, iu_at]
      · rw [iu_ne d, iu_ne d]
        exact fd_a_eq q f A B k i i0 (by omega)
    · rw [if_neg c] at i1
      rw [if_neg c, if_neg c]
      exact fd_a_eq q f A B k i i0 (by omega)
theorem fd_a_ex (q f A : Int → Int) : ∀ (k : Nat) (i : Int), 0 ≤ i → i < fd_c q k → ∃ u, 0 ≤ u ∧ u < (k : Int) ∧ q u = 1 ∧ fd_a q f A k i = f u
  | 0, i, i0, i1 => by
    rw [show ((0 : Nat) : Int) = 0 from rfl, fd_c_0] at i1
    omega
  | k + 1, i, i0, i1 => by
    rw [show ((k + 1 : Nat) : Int) = (k : Int) + 1 by omega, fd_c_s q (by omega)] at i1
    rw [fd_a]
    by_cases c : q k = 1
    · rw [if_pos c] at i1
      rw [if_pos c]
      by_cases d : i = fd_c q k
      · rw [d, iu_at]
        exact ⟨k, by omega, by omega, c, rfl⟩
      · rw [iu_ne d]
        obtain ⟨u, u0, u1, u2⟩ := fd_a_ex q f A k i i0 (by omega)
        exact ⟨u, u0, by omega, u2⟩
    · rw [if_neg c] at i1
      rw [if_neg c]
      obtain ⟨u, u0, u1, u2⟩ := fd_a_ex q f A k i i0 (by omega)
      exact ⟨u, u0, by omega, u2⟩
