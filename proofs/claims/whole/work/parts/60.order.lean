/-! the branches under a place change their order -/
/-- new starts S, of the branches that stood at bs -/
def fo_S (D E I K bs S : Int → Int) (n m r : Int) : Prop :=
  (-1 ≤ r) ∧
  (r < n ∨ r = -1) ∧
  (0 ≤ m) ∧
  (S 0 = r + 1) ∧
  (S m = fo_end D n r) ∧
  (∀ i, 0 ≤ i → i < m → S (i + 1) = S i + (fo_end D n (bs i) - bs i)) ∧
  (∀ i, 0 ≤ i → i < m → r < bs i ∧ bs i < fo_end D n r ∧ D (bs i) = D r + 1) ∧
  (∀ i y, 0 ≤ i → i < m → 0 ≤ y → y < fo_end D n (bs i) - bs i → E (S i + y) = D (bs i + y) ∧ K (S i + y) = I (bs i + y)) ∧
  (∀ q, -1 ≤ q → q < n → (q ≤ r ∨ fo_end D n r ≤ q) → E q = D q ∧ K q = I q) ∧
  (E (-1) = 0)
theorem fo_S.r0 {D E I K bs S : Int → Int} {n m r : Int} (h : fo_S D E I K bs S n m r) : -1 ≤ r := h.1
theorem fo_S.rn {D E I K bs S : Int → Int} {n m r : Int} (h : fo_S D E I K bs S n m r) : r < n ∨ r = -1 := h.2.1
theorem fo_S.m0 {D E I K bs S : Int → Int} {n m r : Int} (h : fo_S D E I K bs S n m r) : 0 ≤ m := h.2.2.1
theorem fo_S.S0 {D E I K bs S : Int → Int} {n m r : Int} (h : fo_S D E I K bs S n m r) : S 0 = r + 1 := h.2.2.2.1
theorem fo_S.Sm {D E I K bs S : Int → Int} {n m r : Int} (h : fo_S D E I K bs S n m r) : S m = fo_end D n r := h.2.2.2.2.1
theorem fo_S.St {D E I K bs S : Int → Int} {n m r : Int} (h : fo_S D E I K bs S n m r) : ∀ i, 0 ≤ i → i < m → S (i + 1) = S i + (fo_end D n (bs i) - bs i) := h.2.2.2.2.2.1
theorem fo_S.ch {D E I K bs S : Int → Int} {n m r : Int} (h : fo_S D E I K bs S n m r) : ∀ i, 0 ≤ i → i < m → r < bs i ∧ bs i < fo_end D n r ∧ D (bs i) = D r + 1 := h.2.2.2.2.2.2.1
theorem fo_S.inn {D E I K bs S : Int → Int} {n m r : Int} (h : fo_S D E I K bs S n m r) : ∀ i y, 0 ≤ i → i < m → 0 ≤ y → y < fo_end D n (bs i) - bs i → E (S i + y) = D (bs i + y) ∧ K (S i + y) = I (bs i + y) := h.2.2.2.2.2.2.2.1
theorem fo_S.out {D E I K bs S : Int → Int} {n m r : Int} (h : fo_S D E I K bs S n m r) : ∀ q, -1 ≤ q → q < n → (q ≤ r ∨ fo_end D n r ≤ q) → E q = D q ∧ K q = I q := h.2.2.2.2.2.2.2.2.1
theorem fo_S.em1 {D E I K bs S : Int → Int} {n m r : Int} (h : fo_S D E I K bs S n m r) : E (-1) = 0 := h.2.2.2.2.2.2.2.2.2
theorem fo_S.mk {D E I K bs S : Int → Int} {n m r : Int} (h_r0 : -1 ≤ r) (h_rn : r < n ∨ r = -1) (h_m0 : 0 ≤ m) (h_S0 : S 0 = r + 1) (h_Sm : S m = fo_end D n r) (h_St : ∀ i, 0 ≤ i → i < m → S (i + 1) = S i + (fo_end D n (bs i) - bs i)) (h_ch : ∀ i, 0 ≤ i → i < m → r < bs i ∧ bs i < fo_end D n r ∧ D (bs i) = D r + 1) (h_inn : ∀ i y, 0 ≤ i → i < m → 0 ≤ y → y < fo_end D n (bs i) - bs i → E (S i + y) = D (bs i + y) ∧ K (S i + y) = I (bs i + y)) (h_out : ∀ q, -1 ≤ q → q < n → (q ≤ r ∨ fo_end D n r ≤ q) → E q = D q ∧ K q = I q) (h_em1 : E (-1) = 0) : fo_S D E I K bs S n m r := ⟨h_r0, h_rn, h_m0, h_S0, h_Sm, h_St, h_ch, h_inn, h_out, h_em1⟩
section FS
variable {D E I K bs S : Int → Int} {n m r : Int}
theorem fo_S.find (W : fo_W D n) (h : fo_S D E I K bs S n m r) {q : Int} (h1 : r < q) (h2 : q < fo_end D n r) : ∃ i y, 0 ≤ i ∧ i < m ∧ 0 ≤ y ∧ y < fo_end D n (bs i) - bs i ∧ q = S i + y := by
  have key : ∀ j, 0 ≤ j → j ≤ m → q < S j → ∃ i y, 0 ≤ i ∧ i < m ∧ 0 ≤ y ∧ y < fo_end D n (bs i) - bs i ∧ q = S i + y := by
    refine fs_ind (P := fun j => j ≤ m → q < S j → ∃ i y, 0 ≤ i ∧ i < m ∧ 0 ≤ y ∧ y < fo_end D n (bs i) - bs i ∧ q = S i + y) ?_ ?_
    · intro _ k
      rw [h.S0] at k
      omega
    · intro j j0 ih jm k
      by_cases c : q < S j
      · exact ih (by omega) c
      · rw [h.St j j0 (by omega)] at k
        exact ⟨j, q - S j, j0, by omega, by omega, by omega, by omega⟩
  exact key m h.m0 (by omega) (by rw [h.Sm]; exact h2)
theorem fo_S.mono (W : fo_W D n) (h : fo_S D E I K bs S n m r) : ∀ i, 0 ≤ i → i ≤ m → r + 1 ≤ S i ∧ S i ≤ fo_end D n r := by
  have ln : ∀ i, 0 ≤ i → i < m → S i < S (i + 1) := by
    intro i i0 i1
    have c := h.ch i i0 i1
    have B := fo_end_B (D := D) (n := n) (p := bs i) (by have := (fo_end_B' W h.r0 h.rn).2.1; omega)
    rw [h.St i i0 i1]
    have := B.1
    omega
  have up : ∀ i, 0 ≤ i → i ≤ m → r + 1 ≤ S i := by
    refine fs_ind (P := fun i => i ≤ m → r + 1 ≤ S i) ?_ ?_
    · intro _
      rw [h.S0]
      omega
    · intro i i0 ih im
      have := ih (by omega)
      have := ln i i0 (by omega)
      omega
  have dn : ∀ k : Nat, ∀ i, 0 ≤ i → i + k = m → S i ≤ fo_end D n r := by
    intro k
    induction k with
    | zero =>
      intro i i0 ik
      rw [show i = m by omega, h.Sm]
      omega
    | succ k ih =>
      intro i i0 ik
      have := ih (i + 1) (by omega) (by omega)
      have := ln i i0 (by omega)
      omega
  exact fun i i0 i1 => ⟨up i i0 i1, dn (m - i).toNat i i0 (by omega)⟩
theorem fo_S.br (W : fo_W D n) (h : fo_S D E I K bs S n m r) {i : Int} (i0 : 0 ≤ i) (i1 : i < m) : fo_B D n (bs i) (fo_end D n (bs i)) ∧ fo_end D n (bs i) ≤ fo_end D n r ∧ fo_P D (bs i) r := by
  have c := h.ch i i0 i1
  have B' := fo_end_B' W h.r0 h.rn
  have B := fo_end_B (D := D) (n := n) (p := bs i) (by omega)
  have r0 := h.r0
  refine ⟨B, ?_, (fo_child W h.r0 h.rn (by omega) (by omega)).mpr c⟩
  refine Int.not_lt.mp fun q => ?_
  have := B.2.2.1 _ c.2.1 q
  have := B'.2.2.2 (by have := B.2.1; omega)
  omega
theorem fo_S.deep (W : fo_W D n) (h : fo_S D E I K bs S n m r) {q : Int} (h1 : r < q) (h2 : q < fo_end D n r) : D r < E q := by
  obtain ⟨i, y, i0, i1, y0, y1, e⟩ := h.find W h1 h2
  have b := h.br W i0 i1
  have c := h.ch i i0 i1
  rw [e, (h.inn i y i0 i1 y0 y1).1]
  exact (fo_end_B' W h.r0 h.rn).2.2.1 _ (by omega) (by omega)
theorem fo_S.Eout (h : fo_S D E I K bs S n m r) (W : fo_W D n) {q : Int} (h1 : -1 ≤ q) (h2 : q < n ∨ q = -1) (h3 : q ≤ r ∨ fo_end D n r ≤ q) : E q = D q := by
  by_cases c : q = -1
  · rw [c, h.em1, W.1]
  · exact (h.out q h1 (by omega) h3).1
theorem fo_S.W (W : fo_W D n) (h : fo_S D E I K bs S n m r) : fo_W E n := by
  have B' := fo_end_B' W h.r0 h.rn
  have r0 := h.r0
  have dr : 0 ≤ D r := by
    by_cases z : r = -1
    · rw [z, W.1]
      omega
    · exact fo_nonneg W r0 (by have := h.rn; omega)
  refine ⟨h.em1, W.2.1, fun p p0 p1 => ?_⟩
  by_cases c : r < p ∧ p < fo_end D n r
  · obtain ⟨i, y, i0, i1, y0, y1, e⟩ := h.find W c.1 c.2
    have b := h.br W i0 i1
    have ch := h.ch i i0 i1
    have w := W.2.2 (bs i + y) (by omega) (by omega)
    rw [e, (h.inn i y i0 i1 y0 y1).1]
    by_cases z : y = 0
    · rw [z, Int.add_zero, Int.add_zero, ch.2.2]
      refine ⟨by omega, ?_⟩
      have := (h.mono W i i0 (by omega)).1
      by_cases t : S i - 1 = r
      · rw [t, h.Eout W r0 h.rn (Or.inl (Int.le_refl r))]
        omega
      · have := h.deep W (q := S i - 1) (by omega) (by omega)
        omega
    · rw [show S i + y - 1 = S i + (y - 1) by omega, (h.inn i (y - 1) i0 i1 (by omega) (by omega)).1, show bs i + (y - 1) = bs i + y - 1 by omega]
      exact w
  · rw [h.Eout W (by omega) (Or.inl p1) (by omega)]
    have w := W.2.2 p p0 p1
    by_cases t : r < p - 1 ∧ p - 1 < fo_end D n r
    · have dd := h.deep W t.1 t.2
      have := B'.2.2.2 (by omega)
      rw [show p = fo_end D n r by omega] at w dd ⊢
      omega
    · rw [h.Eout W (by omega) (by omega) (by omega)]
      exact w
/-- the branches' tops -/
theorem fo_S.top (W : fo_W D n) (h : fo_S D E I K bs S n m r) {i : Int} (i0 : 0 ≤ i) (i1 : i < m) : fo_par E (S i) = r ∧ fo_pl E (S i) = i := by
  have V := h.W W
  have B' := fo_end_B' W h.r0 h.rn
  have r0 := h.r0
  have mo := h.mono W i i0 (by omega)
  have bi := h.br W i0 i1
  have ci := h.ch i i0 i1
  have mo1 := h.mono W (i + 1) (by omega) (by omega)
  have st := h.St i i0 i1
  have b1 := bi.1.1
  have ei : E (S i) = D r + 1 := by
    have := (h.inn i 0 i0 i1 (by omega) (by omega)).1
    rw [Int.add_zero, Int.add_zero] at this
    rw [this, ci.2.2]
  have er : E r = D r := h.Eout W r0 h.rn (Or.inl (Int.le_refl r))
  have P' : fo_P E (S i) r := ⟨r0, by omega, by rw [ei, er]; omega, fun q q1 q2 => by
    have := h.deep W (q := q) q1 (by omega)
    rw [ei]
    omega⟩
  have e1 := fo_par_eq V (by omega) (by omega) P'
  refine ⟨e1, ?_⟩
  unfold fo_pl
  rw [e1, ei]
  have key : ∀ j, 0 ≤ j → j ≤ m → fo_c E (D r + 1) (r + 1) (S j) = j := by
    refine fs_ind (P := fun j => j ≤ m → fo_c E (D r + 1) (r + 1) (S j) = j) ?_ ?_
    · intro _
      rw [h.S0]
      exact fo_c_0 (by omega)
    · intro j j0 ih jm
      have a := h.mono W j j0 (by omega)
      have b := h.br W j0 (by omega : j < m)
      have c := h.ch j j0 (by omega)
      have b1 := b.1.1
      have e0 : E (S j) = D r + 1 := by
        have := (h.inn j 0 j0 (by omega) (by omega) (by omega)).1
        rw [Int.add_zero, Int.add_zero] at this
        rw [this, c.2.2]
      rw [fo_c_sp (a := r + 1) (b := S j) (c := S (j + 1)) (by omega) (by rw [h.St j j0 (by omega)]; omega), ih (by omega), fo_c_l (by rw [h.St j j0 (by omega)]; omega), if_pos e0, fo_c_z (fun q q1 q2 => ?_)]
      · omega
      · rw [h.St j j0 (by omega)] at q2
        rw [show q = S j + (q - S j) by omega, (h.inn j (q - S j) j0 (by omega) (by omega) (by omega)).1]
        have := b.1.2.2.1 (bs j + (q - S j)) (by omega) (by omega)
        omega
  exact key i i0 (by omega)
theorem fo_S.inner (W : fo_W D n) (h : fo_S D E I K bs S n m r) {i y : Int} (i0 : 0 ≤ i) (i1 : i < m) (y0 : 0 < y) (y1 : y < fo_end D n (bs i) - bs i) : bs i ≤ fo_par D (bs i + y) ∧ fo_par D (bs i + y) < bs i + y ∧ fo_par E (S i + y) = S i + (fo_par D (bs i + y) - bs i) ∧ fo_pl E (S i + y) = fo_pl D (bs i + y) := by
  have V := h.W W
  have r0 := h.r0
  have mo := h.mono W i i0 (by omega)
  have bi := h.br W i0 i1
  have ci := h.ch i i0 i1
  have mo1 := h.mono W (i + 1) (by omega) (by omega)
  have st := h.St i i0 i1
  have B' := fo_end_B' W h.r0 h.rn
  have P := fo_par_P W (p := bs i + y) (by omega) (by omega)
  have up := fo_in_up bi.1 P (by omega) (by omega)
  have lt := P.2.1
  have ei : ∀ x, 0 ≤ x → x < fo_end D n (bs i) - bs i → E (S i + x) = D (bs i + x) := fun x x0 x1 => (h.inn i x i0 i1 x0 x1).1
  have P' : fo_P E (S i + y) (S i + (fo_par D (bs i + y) - bs i)) := by
    refine ⟨by omega, by omega, ?_, fun q q1 q2 => ?_⟩
    · rw [ei y (by omega) y1, ei _ (by omega) (by omega), show bs i + (fo_par D (bs i + y) - bs i) = fo_par D (bs i + y) by omega]
      exact P.2.2.1
    · rw [ei y (by omega) y1, show q = S i + (q - S i) by omega, ei _ (by omega) (by omega)]
      exact P.2.2.2 _ (by omega) (by omega)
  have e1 := fo_par_eq V (by omega) (by omega) P'
  refine ⟨up, lt, e1, ?_⟩
  unfold fo_pl
  rw [e1, ei y (by omega) y1, fo_c_sh (D := E) (E := D) (w := D (bs i + y)) (a := S i + (fo_par D (bs i + y) - bs i) + 1) (b := S i + y) (k := bs i - S i) (fun q q1 q2 => by
    rw [show q = S i + (q - S i) by omega, ei _ (by omega) (by omega), show S i + (q - S i) + (bs i - S i) = bs i + (q - S i) by omega]), show S i + (fo_par D (bs i + y) - bs i) + 1 + (bs i - S i) = fo_par D (bs i + y) + 1 by omega, show S i + y + (bs i - S i) = bs i + y by omega]
theorem fo_S.outer (W : fo_W D n) (h : fo_S D E I K bs S n m r) {q : Int} (q0 : 0 ≤ q) (q1 : q < n) (hq : q ≤ r ∨ fo_end D n r ≤ q) : (fo_par D q ≤ r ∨ fo_end D n r ≤ fo_par D q) ∧ fo_par E q = fo_par D q ∧ fo_pl E q = fo_pl D q := by
  have V := h.W W
  have r0 := h.r0
  have B' := fo_end_B' W h.r0 h.rn
  have P := fo_par_P W q0 q1
  have eq : E q = D q := h.Eout W (by omega) (Or.inl q1) hq
  by_cases c : q ≤ r
  · have cg := fo_par_cg W V q0 q1 q1 (fun y y0 y1 => (h.Eout W (by omega) (by omega) (by omega)).symm)
    exact ⟨Or.inl (by have := P.2.1; omega), cg.1.symm, cg.2.symm⟩
  · have hp : fo_par D q ≤ r ∨ fo_end D n r ≤ fo_par D q := by
      by_cases z : r = -1
      · have := fo_end_root W
        rw [z, this] at hq
        omega
      · have := fo_out_up (fo_end_B (D := D) (n := n) (p := r) (by have := h.rn; omega)) P (by omega) q1
        omega
    refine ⟨hp, ?_⟩
    have ep : E (fo_par D q) = D (fo_par D q) := h.Eout W P.1 (by have := P.2.1; omega) hp
    have dq : fo_par D q ≤ r → D q ≤ D r := by
      intro k
      by_cases z : fo_par D q = r
      · have a := (fo_child W h.r0 h.rn q0 q1).mp (by rw [← z]; exact P)
        omega
      · exact P.2.2.2 r (by omega) (by omega)
    have P' : fo_P E q (fo_par D q) := by
      refine ⟨P.1, P.2.1, by rw [eq, ep]; exact P.2.2.1, fun x x1 x2 => ?_⟩
      rw [eq]
      by_cases t : r < x ∧ x < fo_end D n r
      · have := h.deep W t.1 t.2
        have := dq (by omega)
        omega
      · rw [h.Eout W (by have := P.1; omega) (Or.inl (by omega)) (by omega)]
        exact P.2.2.2 x x1 x2
    have e1 := fo_par_eq V q0 q1 P'
    refine ⟨e1, ?_⟩
    unfold fo_pl
    rw [e1, eq]
    refine fo_c_cg (fun x x1 x2 => ?_)
    by_cases t : r < x ∧ x < fo_end D n r
    · have := h.deep W t.1 t.2
      have := dq (by omega)
      have := B'.2.2.1 x t.1 t.2
      omega
    · rw [h.Eout W (by have := P.1; omega) (Or.inl (by omega)) (by omega)]
theorem fo_S.R {g g' : Int → Int → Int} (W : fo_W D n) (h : fo_S D E I K bs S n m r) (R : fo_R g I D n) (hp : ∀ x, 0 ≤ x → x < n → g' (I x) 1 = g (I x) 1) (h2 : ∀ i, 0 ≤ i → i < m → g' (I (bs i)) 2 = i) (h3 : ∀ x, 0 ≤ x → x < n → fo_par D x ≠ r → g' (I x) 2 = g (I x) 2) : fo_R g' K E n := by
  have r0 := h.r0
  have B' := fo_end_B' W h.r0 h.rn
  have er : fo_id K r = fo_id I r := by
    unfold fo_id
    by_cases z : r = -1
    · rw [if_pos z, if_pos z]
    · rw [if_neg z, if_neg z, (h.out r r0 (by have := h.rn; omega) (Or.inl (Int.le_refl r))).2]
  intro q q0 q1
  by_cases c : r < q ∧ q < fo_end D n r
  · obtain ⟨i, y, i0, i1, y0, y1, e⟩ := h.find W c.1 c.2
    have bi := h.br W i0 i1
    have ci := h.ch i i0 i1
    have b1 := bi.1.1
    have b2 := bi.1.2.1
    rw [e, (h.inn i y i0 i1 y0 y1).2]
    by_cases z : y = 0
    · have t := h.top W i0 i1
      rw [z, Int.add_zero, Int.add_zero, t.1, t.2, h2 i i0 i1, hp _ (by omega) (by omega), (R _ (by omega) (by omega)).1, fo_par_eq W (by omega) (by omega) bi.2.2, er]
      exact ⟨rfl, rfl⟩
    · have t := h.inner W i0 i1 (y := y) (by omega) y1
      have rr := R (bs i + y) (by omega) (by omega)
      rw [t.2.2.1, t.2.2.2, hp _ (by omega) (by omega), h3 _ (by omega) (by omega) (by omega), rr.1]
      refine ⟨?_, rr.2⟩
      have mo := h.mono W i i0 (by omega)
      unfold fo_id
      rw [if_neg (by omega), if_neg (by omega), (h.inn i (fo_par D (bs i + y) - bs i) i0 i1 (by omega) (by omega)).2, show bs i + (fo_par D (bs i + y) - bs i) = fo_par D (bs i + y) by omega]
  · have t := h.outer W q0 q1 (by omega)
    have P := fo_par_P W q0 q1
    have rr := R q q0 q1
    have nr : fo_par D q ≠ r := by
      intro z
      have := (fo_child W h.r0 h.rn q0 q1).mp (by rw [← z]; exact P)
      omega
    rw [t.2.1, t.2.2, (h.out q (by omega) q1 (by omega)).2, hp q q0 q1, h3 q q0 q1 nr, rr.1]
    refine ⟨?_, rr.2⟩
    unfold fo_id
    by_cases z : fo_par D q = -1
    · rw [if_pos z, if_pos z]
    · rw [if_neg z, if_neg z, (h.out _ P.1 (by have := P.2.1; omega) t.1).2]
end FS
