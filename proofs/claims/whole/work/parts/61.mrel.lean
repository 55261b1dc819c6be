/-! the reference's entries against the row -/
def mo_R (g : Int → Int → Int) (m n : Int) (I D : Int → Int) : Prop :=
  (fo_W D n) ∧
  (fo_J I n) ∧
  (∀ p, 0 ≤ p → p < n → I p < m) ∧
  (∀ e, 0 ≤ e → e < 400 → (g e 0 = 1 ∧ ∃ p, 0 ≤ p ∧ p < n ∧ I p = e) ∨ (g e 0 = 0 ∧ ∀ p, 0 ≤ p → p < n → I p ≠ e)) ∧
  (fo_R g I D n) ∧
  (∀ p, 0 ≤ p → p < n → D p ≤ 12) ∧
  (0 ≤ m) ∧
  (m ≤ 400)
theorem mo_R.W {g : Int → Int → Int} {m n : Int} {I D : Int → Int} (h : mo_R g m n I D) : fo_W D n := h.1
theorem mo_R.J {g : Int → Int → Int} {m n : Int} {I D : Int → Int} (h : mo_R g m n I D) : fo_J I n := h.2.1
theorem mo_R.lt {g : Int → Int → Int} {m n : Int} {I D : Int → Int} (h : mo_R g m n I D) : ∀ p, 0 ≤ p → p < n → I p < m := h.2.2.1
theorem mo_R.th {g : Int → Int → Int} {m n : Int} {I D : Int → Int} (h : mo_R g m n I D) : ∀ e, 0 ≤ e → e < 400 → (g e 0 = 1 ∧ ∃ p, 0 ≤ p ∧ p < n ∧ I p = e) ∨ (g e 0 = 0 ∧ ∀ p, 0 ≤ p → p < n → I p ≠ e) := h.2.2.2.1
theorem mo_R.R {g : Int → Int → Int} {m n : Int} {I D : Int → Int} (h : mo_R g m n I D) : fo_R g I D n := h.2.2.2.2.1
theorem mo_R.dp {g : Int → Int → Int} {m n : Int} {I D : Int → Int} (h : mo_R g m n I D) : ∀ p, 0 ≤ p → p < n → D p ≤ 12 := h.2.2.2.2.2.1
theorem mo_R.m0 {g : Int → Int → Int} {m n : Int} {I D : Int → Int} (h : mo_R g m n I D) : 0 ≤ m := h.2.2.2.2.2.2.1
theorem mo_R.m4 {g : Int → Int → Int} {m n : Int} {I D : Int → Int} (h : mo_R g m n I D) : m ≤ 400 := h.2.2.2.2.2.2.2
theorem mo_R.mk {g : Int → Int → Int} {m n : Int} {I D : Int → Int} (h_W : fo_W D n) (h_J : fo_J I n) (h_lt : ∀ p, 0 ≤ p → p < n → I p < m) (h_th : ∀ e, 0 ≤ e → e < 400 → (g e 0 = 1 ∧ ∃ p, 0 ≤ p ∧ p < n ∧ I p = e) ∨ (g e 0 = 0 ∧ ∀ p, 0 ≤ p → p < n → I p ≠ e)) (h_R : fo_R g I D n) (h_dp : ∀ p, 0 ≤ p → p < n → D p ≤ 12) (h_m0 : 0 ≤ m) (h_m4 : m ≤ 400) : mo_R g m n I D := ⟨h_W, h_J, h_lt, h_th, h_R, h_dp, h_m0, h_m4⟩
def mo_cag (g : Int → Int → Int) (m p q x : Int) : Prop := (0 ≤ x ∧ x < m ∧ (g x 0 = 1 ∧ g x 1 = p ∧ g x 2 = q) ∧ ∀ e : Int, 0 ≤ e → e < x → ¬ (g e 0 = 1 ∧ g e 1 = p ∧ g e 2 = q)) ∨ (x = -1 ∧ ∀ e : Int, 0 ≤ e → e < m → ¬ (g e 0 = 1 ∧ g e 1 = p ∧ g e 2 = q))
section MR
variable {g : Int → Int → Int} {m n : Int} {I D : Int → Int}
theorem mo_R.nm (M : mo_R g m n I D) : n ≤ m := fs_pg M.W.2.1 M.m0 (fun p p0 p1 => ⟨M.J.1 p p0 p1, M.lt p p0 p1⟩) M.J.2
theorem mo_R.t1 (M : mo_R g m n I D) {p : Int} (p0 : 0 ≤ p) (p1 : p < n) : g (I p) 0 = 1 := by
  have a := M.J.1 p p0 p1
  have b := M.lt p p0 p1
  rcases M.th (I p) a (by have := M.m4; omega) with h | h
  · exact h.1
  · exact absurd rfl (h.2 p p0 p1)
theorem mo_R.at (M : mo_R g m n I D) {e : Int} (e0 : 0 ≤ e) (e1 : e < m) (h : g e 0 = 1) : ∃ p, 0 ≤ p ∧ p < n ∧ I p = e := by
  rcases M.th e e0 (by have := M.m4; omega) with k | k
  · exact k.2
  · rw [k.1] at h
    exact absurd h (by decide)
theorem mo_R.pe (M : mo_R g m n I D) {p r : Int} (p0 : 0 ≤ p) (p1 : p < n) (r0 : -1 ≤ r) (r1 : r < n ∨ r = -1) : g (I p) 1 = fo_id I r ↔ fo_par D p = r := by
  have P := fo_par_P M.W p0 p1
  rw [(M.R p p0 p1).1]
  exact ⟨fun h => fo_id_inj M.J P.1 (by have := P.2.1; omega) r0 r1 h, fun h => by rw [h]⟩
theorem mo_R.kid (M : mo_R g m n I D) {y r k : Int} (y0 : 0 ≤ y) (y1 : y < n) (hr : fo_par D y = r) (hk : fo_pl D y = k) : mo_cag g m (fo_id I r) k (I y) := by
  have P := fo_par_P M.W y0 y1
  have r0 := P.1
  have r1 := P.2.1
  rw [hr] at r0 r1
  refine Or.inl ⟨M.J.1 y y0 y1, M.lt y y0 y1, ⟨M.t1 y0 y1, (M.pe y0 y1 r0 (by omega)).mpr hr, (M.R y y0 y1).2.trans hk⟩, fun e e0 e1 h => ?_⟩
  obtain ⟨p, p0, p1, pe⟩ := M.at e0 (by have := M.lt y y0 y1; omega) h.1
  rw [← pe] at h
  have q1 := (M.pe p0 p1 r0 (by omega)).mp h.2.1
  have q2 := (M.R p p0 p1).2
  rw [h.2.2] at q2
  have := fo_pl_inj M.W p0 p1 y0 y1 (by rw [q1, hr]) (by omega)
  rw [← pe, this] at e1
  omega
theorem mo_R.nokid (M : mo_R g m n I D) {r k : Int} (r0 : -1 ≤ r) (r1 : r < n ∨ r = -1) (h : ∀ y, 0 ≤ y → y < n → fo_par D y = r → fo_pl D y ≠ k) : mo_cag g m (fo_id I r) k (-1) := by
  refine Or.inr ⟨rfl, fun e e0 e1 q => ?_⟩
  obtain ⟨p, p0, p1, pe⟩ := M.at e0 e1 q.1
  rw [← pe] at q
  exact h p p0 p1 ((M.pe p0 p1 r0 r1).mp q.2.1) ((M.R p p0 p1).2.symm.trans q.2.2)
/-- sums over the entries are sums over the row -/
theorem mo_R.sum (M : mo_R g m n I D) (h : Int → Int) (hz : ∀ e, 0 ≤ e → e < m → g e 0 ≠ 1 → h e = 0) : fs h 0 m = fs (fun p => h (I p)) 0 n := by
  refine fs_ri n M.W.2.1 h (fun p p0 p1 => ⟨M.J.1 p p0 p1, M.lt p p0 p1⟩) M.J.2 (fun e e0 e1 k => hz e e0 e1 (fun q => ?_))
  obtain ⟨p, p0, p1, pe⟩ := M.at e0 e1 q
  exact k p p0 p1 pe
theorem mo_R.cn (M : mo_R g m n I D) {r : Int} (r0 : -1 ≤ r) (r1 : r < n ∨ r = -1) : fs (fun e => if g e 0 = 1 ∧ g e 1 = fo_id I r then 1 else 0) 0 m = fo_cc D n r := by
  have B := fo_end_B' M.W r0 r1
  have ch : ∀ p, 0 ≤ p → p < n → (g (I p) 1 = fo_id I r ↔ r < p ∧ p < fo_end D n r ∧ D p = D r + 1) := fun p p0 p1 => (M.pe p0 p1 r0 r1).trans ⟨fun h => (fo_child M.W r0 r1 p0 p1).mp (by rw [← h]; exact fo_par_P M.W p0 p1), fun h => fo_par_eq M.W p0 p1 ((fo_child M.W r0 r1 p0 p1).mpr h)⟩
  rw [M.sum _ (fun e _ _ k => if_neg (fun q => k q.1)), fs_sp (b := r + 1) (by omega) (by omega), fs_sp (a := r + 1) (b := fo_end D n r) (by omega) B.2.1, fs_z (fun q q0 q1 => if_neg (fun k => ?_)), fs_z (a := fo_end D n r) (fun q q0 q1 => if_neg (fun k => ?_)), fs_cg (g := fun q => if D q = D r + 1 then 1 else 0) (fun q q0 q1 => ?_)]
  · unfold fo_cc fo_c
    omega
  · by_cases c : D q = D r + 1
    · rw [if_pos c, if_pos ⟨M.t1 (by omega) (by omega), (ch q (by omega) (by omega)).mpr ⟨by omega, q1, c⟩⟩]
    · rw [if_neg c, if_neg (fun k => c ((ch q (by omega) (by omega)).mp k.2).2.2)]
  · have := (ch q (by omega) q1).mp k.2
    omega
  · have := (ch q (by omega) (by omega)).mp k.2
    omega
/-- the next one at the same depth -/
theorem mo_R.next (M : mo_R g m n I D) {x : Int} (x0 : 0 ≤ x) (x1 : x < n) (h : fo_end D n x < n ∧ D (fo_end D n x) = D x) : mo_cag g m (g (I x) 1) (g (I x) 2 + 1) (I (fo_end D n x)) := by
  have P := fo_par_P M.W x0 x1
  have B := fo_end_B (D := D) (n := n) x1
  rw [(M.R x x0 x1).1, (M.R x x0 x1).2]
  have e1 : fo_par D (fo_end D n x) = fo_par D x := by
    refine fo_par_eq M.W (by have := B.1; omega) h.1 ⟨P.1, by have := P.2.1; have := B.1; omega, by rw [h.2]; exact P.2.2.1, fun q q1 q2 => ?_⟩
    rw [h.2]
    by_cases c : q < x
    · exact P.2.2.2 q q1 c
    · by_cases d : q = x
      · rw [d]
        omega
      · have := B.2.2.1 q (by omega) q2
        omega
  refine M.kid (by have := B.1; omega) h.1 e1 ?_
  unfold fo_pl
  rw [e1, h.2, fo_c_sp (a := fo_par D x + 1) (b := x) (by have := P.2.1; omega) (by have := B.1; omega), fo_c_l B.1, if_pos rfl, fo_c_z (a := x + 1) (fun q q1 q2 => by have := B.2.2.1 q (by omega) q2; omega)]
  omega
theorem mo_R.nonext (M : mo_R g m n I D) {x : Int} (x0 : 0 ≤ x) (x1 : x < n) (h : ¬ (fo_end D n x < n ∧ D (fo_end D n x) = D x)) : mo_cag g m (g (I x) 1) (g (I x) 2 + 1) (-1) ∧ fo_end D n (fo_par D x) = fo_end D n x := by
  have P := fo_par_P M.W x0 x1
  have B := fo_end_B (D := D) (n := n) x1
  have pd := fo_P_d M.W x0 x1 P
  have p1 := P.2.1
  have b1 := B.1
  rw [(M.R x x0 x1).1, (M.R x x0 x1).2]
  refine ⟨M.nokid P.1 (by omega) (fun y y0 y1 hy hk => ?_), ?_⟩
  · have Q := fo_par_P M.W y0 y1
    have qd := fo_P_d M.W y0 y1 Q
    rw [hy] at qd
    have xy : x < y := by
      refine Int.not_le.mp fun c => ?_
      by_cases d : y = x
      · rw [d] at hk
        omega
      · have := fo_pl_lt M.W y0 (by omega : y < x) x1 hy
        omega
    have ey : fo_end D n x ≤ y := by
      refine Int.not_lt.mp fun c => ?_
      have := B.2.2.1 y xy c
      omega
    have b4 := B.2.2.2 (by omega)
    by_cases d : fo_end D n x = y
    · rw [d] at b4 h
      omega
    · have := Q.2.2.2 (fo_end D n x) (by omega) (by omega)
      exact h ⟨by omega, by omega⟩
  · by_cases c : fo_par D x = -1
    · rw [c, fo_end_root M.W]
      refine Int.le_antisymm (Int.not_lt.mp fun d => ?_) B.2.1
      have w := M.W.2.2 (fo_end D n x) (by omega) d
      have b4 := B.2.2.2 d
      rw [c, M.W.1] at pd
      exact h ⟨d, by omega⟩
    · refine fo_end_eq ⟨by omega, B.2.1, fun q q1 q2 => ?_, fun d => ?_⟩
      · by_cases e : q ≤ x
        · by_cases f : q = x
          · rw [f]
            omega
          · have := P.2.2.2 q q1 (by omega)
            omega
        · have := B.2.2.1 q (by omega) q2
          omega
      · have b4 := B.2.2.2 d
        by_cases e : D (fo_end D n x) = D x
        · exact absurd ⟨d, e⟩ h
        · omega
theorem mo_R.first (M : mo_R g m n I D) {x : Int} (x0 : -1 ≤ x) (h : x + 1 < n) (hd : D x < D (x + 1)) : mo_cag g m (fo_id I x) 0 (I (x + 1)) := by
  have e := fo_par_eq M.W (by omega) h (fo_P_next x0 hd)
  refine M.kid (by omega) h e ?_
  unfold fo_pl
  rw [e]
  exact fo_c_0 (by omega)
theorem mo_R.nofirst (M : mo_R g m n I D) {x : Int} (x0 : -1 ≤ x) (x1 : x < n ∨ x = -1) (h : ¬ (x + 1 < n ∧ D x < D (x + 1))) : mo_cag g m (fo_id I x) 0 (-1) ∧ fo_end D n x = x + 1 := by
  have B := fo_end_B' M.W x0 x1
  have e : fo_end D n x = x + 1 := by
    refine Int.le_antisymm (Int.not_lt.mp fun c => ?_) (by omega)
    exact h ⟨by omega, B.2.2.1 (x + 1) (by omega) c⟩
  refine ⟨M.nokid x0 x1 (fun y y0 y1 hy _ => ?_), e⟩
  have := (fo_child M.W x0 x1 y0 y1).mp (by rw [← hy]; exact fo_par_P M.W y0 y1)
  omega
/-- within a branch: so for the parent -/
theorem mo_R.up (M : mo_R g m n I D) {b x : Int} (b0 : 0 ≤ b) (b1 : b < n) (x0 : 0 ≤ x) (x1 : x < n) (hx : x ≠ b) : (b ≤ x ∧ x < fo_end D n b) ↔ (b ≤ fo_par D x ∧ fo_par D x < fo_end D n b) := by
  have B := fo_end_B (D := D) (n := n) b1
  have P := fo_par_P M.W x0 x1
  have p1 := P.2.1
  constructor
  · intro h
    have := fo_in_up B P (by omega) h.2
    omega
  · intro h
    refine ⟨by omega, Int.not_le.mp fun c => ?_⟩
    exact fo_out_up B P c x1 h
end MR
