/-! the reference: remove, date -/
def mo_rw (ar : Nat → Nat × (Nat → Int32)) (b e k : Int) : Nat → Nat × (Nat → Int32) := hq_u ar 207 ((ar 207).1, fun j => if (j : Int) < k then zI (if b ≤ (j : Int) ∧ (j : Int) < e then 1 else 0) else (ar 207).2 j)
theorem mo_rw_0 (ar : Nat → Nat × (Nat → Int32)) (b e : Int) : mo_rw ar b e 0 = ar := by
  funext r
  unfold mo_rw hq_u
  by_cases c : r = 207
  · rw [if_pos c, c]
    exact Prod.ext rfl (funext fun j => by
      show (if (j : Int) < 0 then zI (if b ≤ (j : Int) ∧ (j : Int) < e then 1 else 0) else (ar 207).2 j) = (ar 207).2 j
      exact if_neg (by omega))
  · rw [if_neg c]
theorem mo_rw_s (ar : Nat → Nat × (Nat → Int32)) (b e : Int) {x : Int} (h : 0 ≤ x) : hq_w (mo_rw ar b e x) 207 x (if b ≤ x ∧ x < e then 1 else 0) = mo_rw ar b e (x + 1) := by
  unfold hq_w mo_rw
  rw [hq_u_u]
  refine congrArg (hq_u ar 207) (Prod.ext rfl (funext fun j => ?_))
  show (if j = x.toNat then zI (if b ≤ x ∧ x < e then 1 else 0) else if (j : Int) < x then zI (if b ≤ (j : Int) ∧ (j : Int) < e then 1 else 0) else (ar 207).2 j) = if (j : Int) < x + 1 then zI (if b ≤ (j : Int) ∧ (j : Int) < e then 1 else 0) else (ar 207).2 j
  by_cases c : j = x.toNat
  · rw [if_pos c, if_pos (show (j : Int) < x + 1 by omega), show ((j : Nat) : Int) = x by omega]
  · rw [if_neg c]
    by_cases d : (j : Int) < x
    · rw [if_pos d, if_pos (show (j : Int) < x + 1 by omega)]
    · rw [if_neg d, if_neg (show ¬ (j : Int) < x + 1 by omega)]
theorem mo_rw_g (ar : Nat → Nat × (Nat → Int32)) (b e : Int) {x k : Int} (h : 0 ≤ x) (hk : x < k) : hq_g (mo_rw ar b e k) 207 x = if b ≤ x ∧ x < e then 1 else 0 := by
  show (if ((x.toNat : Nat) : Int) < k then zI (if b ≤ ((x.toNat : Nat) : Int) ∧ ((x.toNat : Nat) : Int) < e then 1 else 0) else (ar 207).2 x.toNat).toInt = _
  rw [show ((x.toNat : Nat) : Int) = x by omega, if_pos hk]
  split <;> rfl
theorem mo_or_g (ar : Nat → Nat × (Nat → Int32)) (I : Int → Int) {x k : Int} (h : 0 ≤ x) (hk : x < k) (hi : -2147483648 ≤ I x ∧ I x ≤ 2147483647) : hq_g (mo_or ar I k) 203 x = I x := by
  show (if ((x.toNat : Nat) : Int) < k then zI (I ((x.toNat : Nat) : Int)) else (ar 203).2 x.toNat).toInt = _
  rw [show ((x.toNat : Nat) : Int) = x by omega, if_pos hk]
  exact zI_ti hi.1 hi.2
/-- the first j of a branch are no more there -/
def mo_cl (g : Int → Int → Int) (I : Int → Int) (b : Int) : Nat → Int → Int → Int
  | 0 => g
  | j + 1 => mo_pt (mo_cl g I b j) (I (b + j)) 0 0
theorem mo_cl_f (g : Int → Int → Int) (I : Int → Int) (b : Int) {e f : Int} (h : f ≠ 0) : ∀ j : Nat, mo_cl g I b j e f = g e f
  | 0 => rfl
  | j + 1 => (mo_pt_f h).trans (mo_cl_f g I b h j)
theorem mo_cl_o (g : Int → Int → Int) (I : Int → Int) (b : Int) {e f : Int} : ∀ j : Nat, (∀ i : Int, b ≤ i → i < b + j → I i ≠ e) → mo_cl g I b j e f = g e f
  | 0, _ => rfl
  | j + 1, h => (mo_pt_e (fun q => h (b + j) (by omega) (by omega) q.symm)).trans (mo_cl_o g I b j (fun i i0 i1 => h i i0 (by omega)))
theorem mo_cl_i (g : Int → Int → Int) (I : Int → Int) (b : Int) {i : Int} : ∀ j : Nat, b ≤ i → i < b + j → mo_cl g I b j (I i) 0 = 0
  | 0, _, h => absurd h (by omega)
  | j + 1, h0, h1 => by
    rw [mo_cl]
    by_cases c : I i = I (b + j)
    · rw [c]
      exact mo_pt_at _ _ _ _
    · rw [mo_pt_e c]
      refine mo_cl_i g I b j h0 ?_
      have : i ≠ b + j := fun q => c (by rw [q])
      omega
theorem mo_cl_K {g : Int → Int → Int} (K : mo_K g) (I : Int → Int) (b : Int) : ∀ j : Nat, mo_K (mo_cl g I b j)
  | 0 => K
  | j + 1 => mo_pt_K (mo_cl_K K I b j) (by omega)
theorem mo_cl_1 {g : Int → Int → Int} {I : Int → Int} {b e : Int} : ∀ j : Nat, mo_cl g I b j e 0 = 1 → g e 0 = 1
  | 0, h => h
  | j + 1, h => by
    rw [mo_cl] at h
    unfold mo_pt at h
    split at h
    · exact absurd h (by decide)
    · exact mo_cl_1 j h
def mo_rm (g : Int → Int → Int) (I : Int → Int) (m b s : Int) : Int → Int → Int := mo_sh (mo_cl g I b s.toNat) m (g (I b) 1) (g (I b) 2 + 1) (-1)
section MS
variable (L : Nat) (xs : Nat → Int32)
variable {σ : pm_S} {ad : Nat → Nat} {z : Nat → Int} {ar : Nat → Nat × (Nat → Int32)} {lr : Nat → Nat × (Nat → Int64)}
theorem ev_mrem1 (hl : mo_H z ar) {n : Int} {I D : Int → Int} (M : mo_R (mo_g ar) (z 23) n I D) {b : Int} (b0 : 0 ≤ b) (b1 : b < n) {Q : pm_O → pm_S → Prop} {v2 : Int} (kk : ∀ s, Hp s ad (hq_u z 27 n) (mo_rw (mo_or ar I n) b (fo_end D n b) n) lr → s.2 = σ.2 → pm_Fv (tq_P L xs) (122, 74, [(2, .int (zI v2)), (0, .ref 199), (1, .int (zI (I b)))], []) s Q) : ∀ (k : Nat) (x : Int) (s : pm_S), Hp s ad (hq_u z 27 n) (mo_rw (mo_or ar I n) b (fo_end D n b) x) lr → s.2 = σ.2 → 0 ≤ x → x + k = n → pm_Fv (tq_P L xs) (122, 35, [(3, .int (zI x)), (2, .int (zI v2)), (0, .ref 199), (1, .int (zI (I b)))], []) s Q := by
  intro k
  have nm := M.nm
  have m4 := M.m4
  induction k with
  | zero =>
    intro x s H r x0 xk
    have e : x = n := by omega
    subst e
    refine pm_Fv.go 2 (f' := (122, 37, [(3, _), (2, _), (0, _), (1, _)], [_, _])) rfl ?_
    refine pm_Fv.gf rfl rfl H.m199 H.o199 rfl ?_
    rw [hq_u_at]
    refine pm_Fv.jge rfl (by omega) rfl (fun h1 => ?_) (fun h1 => ?_)
    · exact pm_Fv.weak (kk s H r) rfl
    · exact absurd h1 (by omega)
  | succ k ih =>
    intro x s H r x0 xk
    have i0 := M.J.1 x x0 (by omega)
    have i1 := M.lt x x0 (by omega)
    have og := mo_or_g ar I (x := x) (k := n) x0 (by omega) (by omega)
    have y := ev_isIn L xs H hl.l0 (z := hq_u z 27 n) M b0 b1 (x := x) (by omega) (by omega)
    rw [fo_id_at (I := I) b0, fo_id_at (I := I) x0] at y
    have rs := mo_rw_s (mo_or ar I n) b (fo_end D n b) x0
    by_cases c : b ≤ x ∧ x < fo_end D n b
    · rw [if_pos c] at y rs
      refine pm_Fv.go 2 (f' := (122, 37, [(3, _), (2, _), (0, _), (1, _)], [_, _])) rfl ?_
      refine pm_Fv.gf rfl rfl H.m199 H.o199 rfl ?_
      rw [hq_u_at]
      refine pm_Fv.jge rfl (by omega) rfl (fun h1 => ?_) (fun h1 => ?_)
      · exact absurd h1 (by omega)
      · refine pm_Fv.go 1 (f' := (122, 44, [(3, _), (2, _), (0, _), (1, _)], [_])) rfl ?_
        refine pm_Fv.gf rfl rfl H.m199 H.o199 rfl ?_
        refine pm_Fv.go 3 (f' := (122, 50, [(3, _), (2, _), (0, _), (1, _)], [_, _, _, _])) rfl ?_
        refine pm_Fv.gf rfl rfl H.m199 H.o199 rfl ?_
        refine pm_Fv.go 1 (f' := (122, 54, [(3, _), (2, _), (0, _), (1, _)], [_, _, _, _, _])) rfl ?_
        refine pm_Fv.fia H rfl (by decide) rfl rfl (by show 0 ≤ x ∧ x < (ar 203).1 ∧ (ar 203).1 ≤ 2147483647; rw [hl.l3]; omega) ?_
        rw [show hq_g (mo_rw (mo_or ar I n) b (fo_end D n b) x) 203 x = I x from og]
        refine pm_Fv.go 1 (f' := (122, 56, [(3, _), (2, _), (0, _), (1, _)], [_, _, _, _, _])) rfl ?_
        refine pm_Fv.cv rfl rfl rfl rfl (by decide) (Nat.le_of_ble_eq_true rfl) (Nat.le_of_ble_eq_true rfl) H.m199 H.o199 (y) ?_
        refine pm_Fv.zeq rfl (by omega) rfl (fun h2 => ?_) (fun h2 => ?_)
        · exact absurd h2 (by omega)
        · refine pm_Fv.go 2 (f' := (122, 67, [(3, _), (2, _), (0, _), (1, _)], [_, _, _])) rfl ?_
          refine pm_Fv.fis H rfl (by decide) rfl rfl (by show 0 ≤ x ∧ x < (ar 207).1 ∧ (ar 207).1 ≤ 2147483647; rw [hl.l7]; omega) (fun s1 H1 r1 => ?_)
          refine pm_Fv.inc rfl rfl (Nat.le_of_ble_eq_true rfl) ?_
          refine pm_Fv.go 1 (f' := (122, 35, [(3, _), (2, _), (0, _), (1, _)], [])) rfl ?_
          rw [rs] at H1
          exact pm_Fv.weak (ih (x + 1) s1 H1 (r1.trans r) (by omega) (by omega)) rfl
    · rw [if_neg c] at y rs
      refine pm_Fv.go 2 (f' := (122, 37, [(3, _), (2, _), (0, _), (1, _)], [_, _])) rfl ?_
      refine pm_Fv.gf rfl rfl H.m199 H.o199 rfl ?_
      rw [hq_u_at]
      refine pm_Fv.jge rfl (by omega) rfl (fun h1 => ?_) (fun h1 => ?_)
      · exact absurd h1 (by omega)
      · refine pm_Fv.go 1 (f' := (122, 44, [(3, _), (2, _), (0, _), (1, _)], [_])) rfl ?_
        refine pm_Fv.gf rfl rfl H.m199 H.o199 rfl ?_
        refine pm_Fv.go 3 (f' := (122, 50, [(3, _), (2, _), (0, _), (1, _)], [_, _, _, _])) rfl ?_
        refine pm_Fv.gf rfl rfl H.m199 H.o199 rfl ?_
        refine pm_Fv.go 1 (f' := (122, 54, [(3, _), (2, _), (0, _), (1, _)], [_, _, _, _, _])) rfl ?_
        refine pm_Fv.fia H rfl (by decide) rfl rfl (by show 0 ≤ x ∧ x < (ar 203).1 ∧ (ar 203).1 ≤ 2147483647; rw [hl.l3]; omega) ?_
        rw [show hq_g (mo_rw (mo_or ar I n) b (fo_end D n b) x) 203 x = I x from og]
        refine pm_Fv.go 1 (f' := (122, 56, [(3, _), (2, _), (0, _), (1, _)], [_, _, _, _, _])) rfl ?_
        refine pm_Fv.cv rfl rfl rfl rfl (by decide) (Nat.le_of_ble_eq_true rfl) (Nat.le_of_ble_eq_true rfl) H.m199 H.o199 (y) ?_
        refine pm_Fv.zeq rfl (by omega) rfl (fun h2 => ?_) (fun h2 => ?_)
        · refine pm_Fv.go 1 (f' := (122, 67, [(3, _), (2, _), (0, _), (1, _)], [_, _, _])) rfl ?_
          refine pm_Fv.fis H rfl (by decide) rfl rfl (by show 0 ≤ x ∧ x < (ar 207).1 ∧ (ar 207).1 ≤ 2147483647; rw [hl.l7]; omega) (fun s1 H1 r1 => ?_)
          refine pm_Fv.inc rfl rfl (Nat.le_of_ble_eq_true rfl) ?_
          refine pm_Fv.go 1 (f' := (122, 35, [(3, _), (2, _), (0, _), (1, _)], [])) rfl ?_
          rw [rs] at H1
          exact pm_Fv.weak (ih (x + 1) s1 H1 (r1.trans r) (by omega) (by omega)) rfl
        · exact absurd h2 (by omega)
theorem ev_mrem2 (hl : mo_H z ar) {n : Int} {I D : Int → Int} (M : mo_R (mo_g ar) (z 23) n I D) {b : Int} (b0 : 0 ≤ b) (b1 : b < n) {Q : pm_O → pm_S → Prop} (kk : ∀ s, Hp s ad (hq_u z 27 n) (mo_w (mo_rw (mo_or ar I n) b (fo_end D n b) n) (mo_cl (mo_g ar) I b (fo_end D n b - b).toNat)) lr → s.2 = σ.2 → pm_Fv (tq_P L xs) (122, 117, [(2, .int (zI (fo_end D n b - b))), (0, .ref 199), (1, .int (zI (I b)))], []) s Q) : ∀ (k : Nat) (x : Int) (j : Nat) (s : pm_S), Hp s ad (hq_u z 27 n) (mo_w (mo_rw (mo_or ar I n) b (fo_end D n b) n) (mo_cl (mo_g ar) I b j)) lr → s.2 = σ.2 → 0 ≤ x → x + k = n → ((x ≤ b ∧ j = 0) ∨ (b ≤ x ∧ x ≤ fo_end D n b ∧ (j : Int) = x - b) ∨ (fo_end D n b ≤ x ∧ (j : Int) = fo_end D n b - b)) → pm_Fv (tq_P L xs) (122, 76, [(3, .int (zI x)), (2, .int (zI (j : Int))), (0, .ref 199), (1, .int (zI (I b)))], []) s Q := by
  intro k
  have nm := M.nm
  have m4 := M.m4
  have B := fo_end_B (D := D) b1
  have bb := B.1
  have be := B.2.1
  induction k with
  | zero =>
    intro x j s H r x0 xk hj
    have e : x = n := by omega
    subst e
    have ej : j = (fo_end D x b - b).toNat := by omega
    have ej2 : (j : Int) = fo_end D x b - b := by omega
    rw [ej] at H
    rw [ej2]
    refine pm_Fv.go 2 (f' := (122, 78, [(3, _), (2, _), (0, _), (1, _)], [_, _])) rfl ?_
    refine pm_Fv.gf rfl rfl H.m199 H.o199 rfl ?_
    rw [hq_u_at]
    refine pm_Fv.jge rfl (by omega) rfl (fun h1 => ?_) (fun h1 => ?_)
    · exact pm_Fv.weak (kk s H r) rfl
    · exact absurd h1 (by omega)
  | succ k ih =>
    intro x j s H r x0 xk hj
    have i0 := M.J.1 x x0 (by omega)
    have i1 := M.lt x x0 (by omega)
    have og : hq_g (mo_w (mo_rw (mo_or ar I n) b (fo_end D n b) n) (mo_cl (mo_g ar) I b j)) 203 x = I x := mo_or_g ar I (x := x) (k := n) x0 (by omega) (by omega)
    have rg : hq_g (mo_w (mo_rw (mo_or ar I n) b (fo_end D n b) n) (mo_cl (mo_g ar) I b j)) 207 x = if b ≤ x ∧ x < fo_end D n b then 1 else 0 := mo_rw_g (mo_or ar I n) b (fo_end D n b) (x := x) (k := n) x0 (by omega)
    by_cases c : b ≤ x ∧ x < fo_end D n b
    · rw [if_pos c] at rg
      refine pm_Fv.go 2 (f' := (122, 78, [(3, _), (2, _), (0, _), (1, _)], [_, _])) rfl ?_
      refine pm_Fv.gf rfl rfl H.m199 H.o199 rfl ?_
      rw [hq_u_at]
      refine pm_Fv.jge rfl (by omega) rfl (fun h1 => ?_) (fun h1 => ?_)
      · exact absurd h1 (by omega)
      · refine pm_Fv.go 1 (f' := (122, 85, [(3, _), (2, _), (0, _), (1, _)], [_])) rfl ?_
        refine pm_Fv.gf rfl rfl H.m199 H.o199 rfl ?_
        refine pm_Fv.go 1 (f' := (122, 89, [(3, _), (2, _), (0, _), (1, _)], [_, _])) rfl ?_
        refine pm_Fv.fia H rfl (by decide) rfl rfl (by show 0 ≤ x ∧ x < (ar 207).1 ∧ (ar 207).1 ≤ 2147483647; rw [hl.l7]; omega) ?_
        rw [rg]
        refine pm_Fv.zne rfl (by omega) rfl (fun h2 => ?_) (fun h2 => ?_)
        · refine pm_Fv.go 2 (f' := (122, 98, [(3, _), (2, _), (0, _), (1, _)], [_, _])) rfl ?_
          refine pm_Fv.gf rfl rfl H.m199 H.o199 rfl ?_
          refine pm_Fv.go 1 (f' := (122, 102, [(3, _), (2, _), (0, _), (1, _)], [_, _, _])) rfl ?_
          refine pm_Fv.fia H rfl (by decide) rfl rfl (by show 0 ≤ x ∧ x < (ar 203).1 ∧ (ar 203).1 ≤ 2147483647; rw [hl.l3]; omega) ?_
          rw [og]
          refine pm_Fv.go 2 (f' := (122, 105, [(3, _), (2, _), (0, _), (1, _)], [_, _, _, _])) rfl ?_
          refine pm_Fv.cvF rfl rfl rfl rfl (by decide) (Nat.le_of_ble_eq_true rfl) (Nat.le_of_ble_eq_true rfl) H.m199 H.o199 (ev_pw L xs H (show (ar 200).1 = 5600 from hl.l0) (by omega)) (fun s1 q1 => ?_)
          obtain ⟨H1, r1⟩ := q1
          refine pm_Fv.inc rfl rfl (Nat.le_of_ble_eq_true rfl) ?_
          refine pm_Fv.inc rfl rfl (Nat.le_of_ble_eq_true rfl) ?_
          refine pm_Fv.go 1 (f' := (122, 76, [(3, _), (2, _), (0, _), (1, _)], [])) rfl ?_
          have ej : mo_pt (mo_cl (mo_g ar) I b j) (I x) 0 0 = mo_cl (mo_g ar) I b (j + 1) := by rw [mo_cl, show b + (j : Int) = x by omega]
          rw [ej] at H1
          exact pm_Fv.weak (ih (x + 1) (j + 1) s1 H1 (r1.trans r) (by omega) (by omega) (by omega)) rfl
        · exact absurd h2 (by omega)
    · rw [if_neg c] at rg
      refine pm_Fv.go 2 (f' := (122, 78, [(3, _), (2, _), (0, _), (1, _)], [_, _])) rfl ?_
      refine pm_Fv.gf rfl rfl H.m199 H.o199 rfl ?_
      rw [hq_u_at]
      refine pm_Fv.jge rfl (by omega) rfl (fun h1 => ?_) (fun h1 => ?_)
      · exact absurd h1 (by omega)
      · refine pm_Fv.go 1 (f' := (122, 85, [(3, _), (2, _), (0, _), (1, _)], [_])) rfl ?_
        refine pm_Fv.gf rfl rfl H.m199 H.o199 rfl ?_
        refine pm_Fv.go 1 (f' := (122, 89, [(3, _), (2, _), (0, _), (1, _)], [_, _])) rfl ?_
        refine pm_Fv.fia H rfl (by decide) rfl rfl (by show 0 ≤ x ∧ x < (ar 207).1 ∧ (ar 207).1 ≤ 2147483647; rw [hl.l7]; omega) ?_
        rw [rg]
        refine pm_Fv.zne rfl (by omega) rfl (fun h2 => ?_) (fun h2 => ?_)
        · exact absurd h2 (by omega)
        · refine pm_Fv.go 1 (f' := (122, 111, [(3, _), (2, _), (0, _), (1, _)], [])) rfl ?_
          refine pm_Fv.inc rfl rfl (Nat.le_of_ble_eq_true rfl) ?_
          refine pm_Fv.go 1 (f' := (122, 76, [(3, _), (2, _), (0, _), (1, _)], [])) rfl ?_
          exact pm_Fv.weak (ih (x + 1) j s H r (by omega) (by omega) (by omega)) rfl
theorem hq_u_comm {α : Type} (f : Nat → α) {j k : Nat} (h : j ≠ k) (a b : α) : hq_u (hq_u f j a) k b = hq_u (hq_u f k b) j a := by
  funext i
  unfold hq_u
  by_cases c : i = k
  · rw [if_pos c, if_neg (fun q => h (by rw [← q, c])), if_pos c]
  · rw [if_neg c, if_neg c]
theorem mo_bg_sc (ar : Nat → Nat × (Nat → Int32)) (I : Int → Int) (n b e k : Int) : mo_rw (mo_or (mo_bg ar) I n) b e k = mo_bg (mo_rw (mo_or ar I n) b e k) := by
  unfold mo_rw mo_or mo_bg hq_cp
  rw [hq_u_comm ar (show 202 ≠ 203 by decide), hq_u_comm (hq_u ar 203 _) (show 202 ≠ 207 by decide)]
  rfl
theorem ev_mremove0 (H : Hp σ ad z ar lr) (h : mo_H z ar) {n : Int} {I D : Int → Int} (M : mo_R (mo_g ar) (z 23) n I D) {b : Int} (b0 : 0 ≤ b) (b1 : b < n) (S : ∀ e, mo_g ar e 0 = 1 → -1000 ≤ mo_g ar e 2 ∧ mo_g ar e 2 ≤ 1000) : pm_Fv (tq_P L xs) (pm_enter 122 [.ref 199, .int (zI (I b))]) σ (fun o s => o = .inl (some (.int (zI (fo_end D n b - b)))) ∧ (∃ z' ar', mo_ed (hq_u (hq_u z 29 0) 27 n) (mo_rw (mo_or ar I n) b (fo_end D n b) n) (mo_rm (mo_g ar) I (z 23) b (fo_end D n b - b)) z' ar' ∧ Hp s ad z' ar' lr) ∧ s.2 = σ.2) := by
  show pm_Fv (tq_P L xs) (122, 0, [(0, .ref 199), (1, .int (zI (I b)))], []) σ _
  have H0 : Hp σ ad (hq_u z 29 (z 29)) ar lr := by rw [hq_u_self]; exact H
  have hm : 0 ≤ z 23 ∧ z 23 ≤ 400 := ⟨M.m0, M.m4⟩
  have n0 := M.W.2.1
  have i0 := M.J.1 b b0 b1
  have i1 := M.lt b b0 b1
  have B := fo_end_B (D := D) b1
  have bb := B.1
  have Mb : mo_R (mo_g (mo_bg ar)) (hq_u z 29 0 23) n I D := M
  have hb : mo_H (hq_u z 29 0) (mo_bg ar) := mo_H.bg (z := hq_u z 29 0) h
  have pl := M.pl (ar := ar) (z := z) b0 b1
  have g1 := mo_g_r ar (I b) 1
  have K0 := mo_cl_K (mo_g_K ar) I b (fo_end D n b - b).toNat
  have S0 : mo_L (mo_cl (mo_g ar) I b (fo_end D n b - b).toNat) := fun e he => by
    rw [mo_cl_f (mo_g ar) I b (by decide)]
    have := S e (mo_cl_1 _ he)
    omega
  have c1 : mo_cl (mo_g ar) I b (fo_end D n b - b).toNat (I b) 1 = mo_g ar (I b) 1 := mo_cl_f _ _ _ (by decide) _
  have c2 : mo_cl (mo_g ar) I b (fo_end D n b - b).toNat (I b) 2 = mo_g ar (I b) 2 := mo_cl_f _ _ _ (by decide) _
  refine pm_Fv.go 3 (f' := (122, 3, [(0, _), (1, _)], [_, _, _])) rfl ?_
  refine pm_Fv.cv rfl rfl rfl rfl (by decide) (Nat.le_of_ble_eq_true rfl) (Nat.le_of_ble_eq_true rfl) H0.m199 H0.o199 (ev_isT L xs H0 h.l0 M b0 b1) ?_
  refine pm_Fv.zne rfl (by omega) rfl (fun h1 => ?_) (fun h1 => ?_)
  · refine pm_Fv.go 2 (f' := (122, 15, [(0, _), (1, _)], [_, _, _])) rfl ?_
    refine pm_Fv.cvF rfl rfl rfl rfl (by decide) (Nat.le_of_ble_eq_true rfl) (Nat.le_of_ble_eq_true rfl) H0.m199 H0.o199 (ev_fz L xs H0) (fun s1 q1 => ?_)
    obtain ⟨H1, r1⟩ := q1
    refine pm_Fv.zeq rfl (by omega) rfl (fun h2 => ?_) (fun h2 => ?_)
    · refine pm_Fv.go 1 (f' := (122, 24, [(0, _), (1, _)], [_])) rfl ?_
      refine pm_Fv.cvF rfl rfl rfl rfl (by decide) (Nat.le_of_ble_eq_true rfl) (Nat.le_of_ble_eq_true rfl) H1.m199 H1.o199 (ev_begin L xs H1 h.l0 h.l2) (fun s2 q2 => ?_)
      obtain ⟨H2, r2⟩ := q2
      refine pm_Fv.go 1 (f' := (122, 28, [(0, _), (1, _)], [_])) rfl ?_
      refine pm_Fv.cvF rfl rfl rfl rfl (by decide) (Nat.le_of_ble_eq_true rfl) (Nat.le_of_ble_eq_true rfl) H2.m199 H2.o199 (ev_arrange L xs H2 (ar := mo_bg ar) hb.l0 Mb hb.l3) (fun s3 q3 => ?_)
      obtain ⟨H3, r3⟩ := q3
      refine pm_Fv.go 4 (f' := (122, 35, [(3, _), (2, _), (0, _), (1, _)], [])) rfl ?_
      refine ev_mrem1 (σ := σ) L xs hb Mb b0 b1 (fun s4 H4 r4 => ?_) n.toNat 0 s3 (by rw [mo_rw_0]; exact H3) (r3.trans (r2.trans r1)) (by omega) (by omega)
      refine pm_Fv.go 2 (f' := (122, 76, [(3, _), (2, _), (0, _), (1, _)], [])) rfl ?_
      refine ev_mrem2 (σ := σ) L xs hb Mb b0 b1 (fun s5 H5 r5 => ?_) n.toNat 0 0 s4 (by
        show Hp s4 ad (hq_u (hq_u z 29 0) 27 n) (mo_w (mo_rw (mo_or (mo_bg ar) I n) b (fo_end D n b) n) (mo_g (mo_rw (mo_or (mo_bg ar) I n) b (fo_end D n b) n))) lr
        rw [mo_w_self]
        exact H4) r4 (by omega) (by omega) (by omega)
      have H5' : Hp s5 ad (hq_u (hq_u z 29 0) 27 n) (mo_w (mo_rw (mo_or (mo_bg ar) I n) b (fo_end D n b) n) (mo_cl (mo_g ar) I b (fo_end D n b - b).toNat)) lr := H5
      rw [mo_bg_sc] at H5'
      have hs : mo_H (hq_u (hq_u z 29 0) 27 n) (mo_rw (mo_or ar I n) b (fo_end D n b) n) := mo_H.ln (z := z) h (fun r => by
        unfold mo_rw mo_or hq_u
        by_cases q : r = 207
        · rw [if_pos q, q]
          rfl
        · rw [if_neg q]
          by_cases q2 : r = 203
          · rw [if_pos q2, q2]
          · rw [if_neg q2])
      refine pm_Fv.go 4 (f' := (122, 121, [(2, _), (0, _), (1, _)], [_, _, _, _])) rfl ?_
      refine pm_Fv.cv rfl rfl rfl rfl (by decide) (Nat.le_of_ble_eq_true rfl) (Nat.le_of_ble_eq_true rfl) H5'.m199 H5'.o199 (ev_gw L xs H5' (show (ar 200).1 = 5600 from h.l0) K0 (by omega)) ?_
      rw [c1]
      refine pm_Fv.go 3 (f' := (122, 127, [(2, _), (0, _), (1, _)], [_, _, _, _, _])) rfl ?_
      refine pm_Fv.cv rfl rfl rfl rfl (by decide) (Nat.le_of_ble_eq_true rfl) (Nat.le_of_ble_eq_true rfl) H5'.m199 H5'.o199 (ev_gw L xs H5' (show (ar 200).1 = 5600 from h.l0) K0 (by omega)) ?_
      rw [c2]
      refine pm_Fv.go 1 (f' := (122, 131, [(2, _), (0, _), (1, _)], [_, _, _, _])) rfl ?_
      refine pm_Fv.iadd rfl ?_
      refine pm_Fv.go 1 (f' := (122, 133, [(2, _), (0, _), (1, _)], [_, _, _, _])) rfl ?_
      refine pm_Fv.cvF rfl rfl rfl rfl (by decide) (Nat.le_of_ble_eq_true rfl) (Nat.le_of_ble_eq_true rfl) H5'.m199 H5'.o199 (ev_shift L xs H5' (show (ar 200).1 = 5600 from h.l0) hm K0 S0 g1 (by omega) (by omega)) (fun s6 q6 => ?_)
      obtain ⟨H6, r6⟩ := q6
      refine pm_Fv.go 1 (f' := (122, 137, [(2, _), (0, _), (1, _)], [_])) rfl ?_
      refine pm_Fv.cvF rfl rfl rfl rfl (by decide) (Nat.le_of_ble_eq_true rfl) (Nat.le_of_ble_eq_true rfl) H6.m199 H6.o199 (ev_dne L xs H6 (z := hq_u (hq_u z 29 0) 27 n) hs) (fun s7 q7 => ?_)
      obtain ⟨H7, r7⟩ := q7
      refine pm_Fv.go 1 (f' := (122, 141, [(2, _), (0, _), (1, _)], [_])) rfl ?_
      exact pm_Fv.rv rfl rfl ⟨rfl, H7, r7.trans (r6.trans r5)⟩
    · exact absurd h2 (by omega)
  · exact absurd h1 (by omega)
end MS
