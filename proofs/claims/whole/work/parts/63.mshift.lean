/-! the reference: the entries' fields as one function; shift, arrange, height -/
theorem hq_u_u {α : Type} (f : Nat → α) (k : Nat) (a b : α) : hq_u (hq_u f k a) k b = hq_u f k b := by
  funext j
  unfold hq_u
  split <;> rfl
def mo_w (ar : Nat → Nat × (Nat → Int32)) (g : Int → Int → Int) : Nat → Nat × (Nat → Int32) := hq_u ar 200 ((ar 200).1, fun j => zI (g ((j / 14 : Nat) : Int) ((j % 14 : Nat) : Int)))
def mo_K (g : Int → Int → Int) : Prop := ∀ e f, 0 ≤ e → 0 ≤ f → f < 14 → -2147483648 ≤ g e f ∧ g e f ≤ 2147483647
theorem mo_w_g {ar : Nat → Nat × (Nat → Int32)} {g : Int → Int → Int} (K : mo_K g) {e f : Int} (e0 : 0 ≤ e) (f0 : 0 ≤ f) (f1 : f < 14) : mo_g (mo_w ar g) e f = g e f := by
  have k := K e f e0 f0 f1
  show (zI (g (((14 * e + f).toNat / 14 : Nat) : Int) (((14 * e + f).toNat % 14 : Nat) : Int))).toInt = g e f
  rw [show (((14 * e + f).toNat / 14 : Nat) : Int) = e by omega, show (((14 * e + f).toNat % 14 : Nat) : Int) = f by omega]
  exact zI_ti k.1 k.2
theorem mo_w_self (ar : Nat → Nat × (Nat → Int32)) : mo_w ar (mo_g ar) = ar := by
  funext r
  unfold mo_w hq_u
  by_cases c : r = 200
  · rw [if_pos c, c]
    refine Prod.ext rfl (funext fun j => ?_)
    show zI ((ar 200).2 (14 * ((j / 14 : Nat) : Int) + ((j % 14 : Nat) : Int)).toNat).toInt = (ar 200).2 j
    rw [zI_x, show (14 * ((j / 14 : Nat) : Int) + ((j % 14 : Nat) : Int)).toNat = j by omega]
  · rw [if_neg c]
theorem mo_w_put (ar : Nat → Nat × (Nat → Int32)) (g : Int → Int → Int) {e f : Int} (v : Int) (e0 : 0 ≤ e) (f0 : 0 ≤ f) (f1 : f < 14) : hq_w (mo_w ar g) 200 (14 * e + f) v = mo_w ar (mo_pt g e f v) := by
  unfold hq_w mo_w
  rw [hq_u_u]
  refine congrArg (hq_u ar 200) (Prod.ext rfl (funext fun j => ?_))
  show (if j = (14 * e + f).toNat then zI v else zI (g ((j / 14 : Nat) : Int) ((j % 14 : Nat) : Int))) = zI (if ((j / 14 : Nat) : Int) = e ∧ ((j % 14 : Nat) : Int) = f then v else g ((j / 14 : Nat) : Int) ((j % 14 : Nat) : Int))
  by_cases c : j = (14 * e + f).toNat
  · rw [if_pos c, if_pos (by omega)]
  · rw [if_neg c, if_neg (by omega)]
theorem mo_w_ne {ar : Nat → Nat × (Nat → Int32)} {g : Int → Int → Int} {r : Nat} (h : r ≠ 200) : mo_w ar g r = ar r := hq_u_ne h
theorem mo_w_w (ar : Nat → Nat × (Nat → Int32)) (g h : Int → Int → Int) : mo_w (mo_w ar g) h = mo_w ar h := hq_u_u _ _ _ _
theorem mo_g_K (ar : Nat → Nat × (Nat → Int32)) : mo_K (mo_g ar) := fun e f _ _ _ => mo_g_r ar e f
theorem mo_pt_K {g : Int → Int → Int} (K : mo_K g) {x y v : Int} (hv : -2147483648 ≤ v ∧ v ≤ 2147483647) : mo_K (mo_pt g x y v) := by
  intro e f e0 f0 f1
  unfold mo_pt
  split
  · exact hv
  · exact K e f e0 f0 f1
/-- places that are counted are small -/
def mo_L (g : Int → Int → Int) : Prop := ∀ e, g e 0 = 1 → -1000000 ≤ g e 2 ∧ g e 2 ≤ 1000000
theorem mo_sh_K {g : Int → Int → Int} (K : mo_K g) (S : mo_L g) {m p k y : Int} (hy : -2 ≤ y ∧ y ≤ 2) : mo_K (mo_sh g m p k y) := by
  intro e f e0 f0 f1
  unfold mo_sh
  split
  · next c =>
    have := S e c.2.2.2.1
    omega
  · exact K e f e0 f0 f1
theorem mo_sh_0 (g : Int → Int → Int) (p k y : Int) : mo_sh g 0 p k y = g := by
  funext e f
  exact if_neg (by omega)
theorem mo_sh_s (g : Int → Int → Int) {j p k y : Int} (j0 : 0 ≤ j) : mo_sh g (j + 1) p k y = if g j 0 = 1 ∧ g j 1 = p ∧ k ≤ g j 2 then mo_pt (mo_sh g j p k y) j 2 (g j 2 + y) else mo_sh g j p k y := by
  by_cases c : g j 0 = 1 ∧ g j 1 = p ∧ k ≤ g j 2
  · rw [if_pos c]
    funext e f
    unfold mo_pt
    by_cases d : e = j ∧ f = 2
    · rw [if_pos d]
      unfold mo_sh
      rw [d.1, d.2, if_pos ⟨rfl, j0, by omega, c⟩]
    · rw [if_neg d]
      unfold mo_sh
      by_cases q : f = 2 ∧ 0 ≤ e ∧ e < j ∧ g e 0 = 1 ∧ g e 1 = p ∧ k ≤ g e 2
      · rw [if_pos q, if_pos ⟨q.1, q.2.1, by omega, q.2.2.2⟩]
      · rw [if_neg q, if_neg (fun t => q ⟨t.1, t.2.1, by omega, t.2.2.2⟩)]
  · rw [if_neg c]
    funext e f
    unfold mo_sh
    by_cases q : f = 2 ∧ 0 ≤ e ∧ e < j ∧ g e 0 = 1 ∧ g e 1 = p ∧ k ≤ g e 2
    · rw [if_pos q, if_pos ⟨q.1, q.2.1, by omega, q.2.2.2⟩]
    · rw [if_neg q, if_neg (fun t => q ⟨t.1, t.2.1, ?_, t.2.2.2⟩)]
      have a := t.2.2.1
      have : e ≠ j := fun s => c (by rw [← s]; exact t.2.2.2)
      omega
theorem mo_sh_j (g : Int → Int → Int) (j p k y f : Int) : mo_sh g j p k y j f = g j f := if_neg (by omega)
section MS
variable (L : Nat) (xs : Nat → Int32)
variable {σ : pm_S} {ad : Nat → Nat} {z : Nat → Int} {ar : Nat → Nat × (Nat → Int32)} {lr : Nat → Nat × (Nat → Int64)}
theorem ev_gw {g : Int → Int → Int} (H : Hp σ ad z (mo_w ar g) lr) (hl : (ar 200).1 = 5600) (K : mo_K g) {e f : Int} (h : 0 ≤ e ∧ e < 400 ∧ 0 ≤ f ∧ f < 14) : pm_Ev (tq_P L xs) (pm_enter 98 [.ref 199, .int (zI e), .int (zI f)]) σ (.inl (some (.int (zI (g e f)))), σ) := by
  have := ev_g L xs H hl h
  rw [mo_w_g K h.1 h.2.2.1 h.2.2.2] at this
  exact this
theorem ev_pw {g : Int → Int → Int} (H : Hp σ ad z (mo_w ar g) lr) (hl : (ar 200).1 = 5600) {e f v : Int} (h : 0 ≤ e ∧ e < 400 ∧ 0 ≤ f ∧ f < 14) : pm_Fv (tq_P L xs) (pm_enter 99 [.ref 199, .int (zI e), .int (zI f), .int (zI v)]) σ (fun o s => o = .inl none ∧ Hp s ad z (mo_w ar (mo_pt g e f v)) lr ∧ s.2 = σ.2) := by
  obtain ⟨s, e1, h1, h2⟩ := ev_m_put L xs H hl (e := e) (f := f) (v := v) (by omega)
  rw [mo_w_put ar g v h.1 h.2.2.1 h.2.2.2] at h1
  exact ⟨_, _, e1, rfl, h1, h2⟩
theorem ev_shiftL (hl : (ar 200).1 = 5600) (hm : 0 ≤ z 23 ∧ z 23 ≤ 400) {g : Int → Int → Int} (K : mo_K g) (S : mo_L g) {p k y : Int} (hp : -2147483648 ≤ p ∧ p ≤ 2147483647) (hk : -2147483648 ≤ k ∧ k ≤ 2147483647) (hy : -2 ≤ y ∧ y ≤ 2) : ∀ (n : Nat) (j : Int) (σ : pm_S), Hp σ ad z (mo_w ar (mo_sh g j p k y)) lr → 0 ≤ j → j + n = z 23 → pm_Fv (tq_P L xs) (117, 3, [(4, .int (zI j)), (0, .ref 199), (1, .int (zI p)), (2, .int (zI k)), (3, .int (zI y))], []) σ (fun o s => o = .inl none ∧ Hp s ad z (mo_w ar (mo_sh g (z 23) p k y)) lr ∧ s.2 = σ.2) := by
  intro n
  induction n with
  | zero =>
    intro j σ H hj hn
    have e : j = z 23 := by omega
    subst e
    refine pm_Fv.go 2 (f' := (117, 6, [(4, _), (0, _), (1, _), (2, _), (3, _)], [_, _])) rfl ?_
    refine pm_Fv.gf rfl rfl H.m199 H.o199 rfl ?_
    refine pm_Fv.jge rfl (by omega) rfl (fun h1 => ?_) (fun h1 => ?_)
    · exact pm_Fv.ret rfl rfl rfl rfl ⟨rfl, H, rfl⟩
    · exact absurd h1 (by omega)
  | succ n ih =>
    intro j σ H hj hn
    have K1 := mo_sh_K K S (m := j) (p := p) (k := k) hy
    have a0 := mo_sh_j g j p k y 0
    have a1 := mo_sh_j g j p k y 1
    have a2 := mo_sh_j g j p k y 2
    have g0 := K j 0 hj (by omega) (by omega)
    have g1 := K j 1 hj (by omega) (by omega)
    have g2 := K j 2 hj (by omega) (by omega)
    have ss := mo_sh_s g (j := j) (p := p) (k := k) (y := y) hj
    refine pm_Fv.go 2 (f' := (117, 6, [(4, _), (0, _), (1, _), (2, _), (3, _)], [_, _])) rfl ?_
    refine pm_Fv.gf rfl rfl H.m199 H.o199 rfl ?_
    refine pm_Fv.jge rfl (by omega) rfl (fun h1 => ?_) (fun h1 => ?_)
    · exact absurd h1 (by omega)
    · refine pm_Fv.go 3 (f' := (117, 16, [(4, _), (0, _), (1, _), (2, _), (3, _)], [_, _, _])) rfl ?_
      refine pm_Fv.cv rfl rfl rfl rfl (by decide) (Nat.le_of_ble_eq_true rfl) (Nat.le_of_ble_eq_true rfl) H.m199 H.o199 (ev_gw L xs H hl K1 (by omega)) ?_
      rw [a0]
      refine pm_Fv.go 1 (f' := (117, 20, [(4, _), (0, _), (1, _), (2, _), (3, _)], [_, _])) rfl ?_
      refine pm_Fv.jne rfl (by omega) rfl (fun h2 => ?_) (fun h2 => ?_)
      · refine pm_Fv.inc rfl rfl (Nat.le_of_ble_eq_true rfl) ?_
        refine pm_Fv.go 1 (f' := (117, 3, [(4, _), (0, _), (1, _), (2, _), (3, _)], [])) rfl ?_
        first
          | (rw [if_neg (by omega)] at ss; exact pm_Fv.weak (ih (j + 1) σ (by rw [ss]; exact H) (by omega) (by omega)) rfl)
          | (rw [if_pos (by omega)] at ss; exact pm_Fv.weak ((ih (j + 1) s1 (by rw [ss]; rw [← a2]; exact H1) (by omega) (by omega)).mono (fun o s q => ⟨q.1, q.2.1, q.2.2.trans r1⟩)) rfl)
      · refine pm_Fv.go 3 (f' := (117, 27, [(4, _), (0, _), (1, _), (2, _), (3, _)], [_, _, _])) rfl ?_
        refine pm_Fv.cv rfl rfl rfl rfl (by decide) (Nat.le_of_ble_eq_true rfl) (Nat.le_of_ble_eq_true rfl) H.m199 H.o199 (ev_gw L xs H hl K1 (by omega)) ?_
        rw [a1]
        refine pm_Fv.go 1 (f' := (117, 31, [(4, _), (0, _), (1, _), (2, _), (3, _)], [_, _])) rfl ?_
        refine pm_Fv.jne rfl (by omega) rfl (fun h3 => ?_) (fun h3 => ?_)
        · refine pm_Fv.inc rfl rfl (Nat.le_of_ble_eq_true rfl) ?_
          refine pm_Fv.go 1 (f' := (117, 3, [(4, _), (0, _), (1, _), (2, _), (3, _)], [])) rfl ?_
          first
            | (rw [if_neg (by omega)] at ss; exact pm_Fv.weak (ih (j + 1) σ (by rw [ss]; exact H) (by omega) (by omega)) rfl)
            | (rw [if_pos (by omega)] at ss; exact pm_Fv.weak ((ih (j + 1) s1 (by rw [ss]; rw [← a2]; exact H1) (by omega) (by omega)).mono (fun o s q => ⟨q.1, q.2.1, q.2.2.trans r1⟩)) rfl)
        · refine pm_Fv.go 3 (f' := (117, 38, [(4, _), (0, _), (1, _), (2, _), (3, _)], [_, _, _])) rfl ?_
          refine pm_Fv.cv rfl rfl rfl rfl (by decide) (Nat.le_of_ble_eq_true rfl) (Nat.le_of_ble_eq_true rfl) H.m199 H.o199 (ev_gw L xs H hl K1 (by omega)) ?_
          rw [a2]
          refine pm_Fv.go 1 (f' := (117, 42, [(4, _), (0, _), (1, _), (2, _), (3, _)], [_, _])) rfl ?_
          refine pm_Fv.jlt rfl (by omega) rfl (fun h4 => ?_) (fun h4 => ?_)
          · refine pm_Fv.inc rfl rfl (Nat.le_of_ble_eq_true rfl) ?_
            refine pm_Fv.go 1 (f' := (117, 3, [(4, _), (0, _), (1, _), (2, _), (3, _)], [])) rfl ?_
            first
              | (rw [if_neg (by omega)] at ss; exact pm_Fv.weak (ih (j + 1) σ (by rw [ss]; exact H) (by omega) (by omega)) rfl)
              | (rw [if_pos (by omega)] at ss; exact pm_Fv.weak ((ih (j + 1) s1 (by rw [ss]; rw [← a2]; exact H1) (by omega) (by omega)).mono (fun o s q => ⟨q.1, q.2.1, q.2.2.trans r1⟩)) rfl)
          · refine pm_Fv.go 6 (f' := (117, 53, [(4, _), (0, _), (1, _), (2, _), (3, _)], [_, _, _, _, _, _])) rfl ?_
            refine pm_Fv.cv rfl rfl rfl rfl (by decide) (Nat.le_of_ble_eq_true rfl) (Nat.le_of_ble_eq_true rfl) H.m199 H.o199 (ev_gw L xs H hl K1 (by omega)) ?_
            refine pm_Fv.go 1 (f' := (117, 57, [(4, _), (0, _), (1, _), (2, _), (3, _)], [_, _, _, _, _])) rfl ?_
            refine pm_Fv.iadd rfl ?_
            refine pm_Fv.cvF rfl rfl rfl rfl (by decide) (Nat.le_of_ble_eq_true rfl) (Nat.le_of_ble_eq_true rfl) H.m199 H.o199 (ev_pw L xs H hl (by omega)) (fun s1 q1 => ?_)
            obtain ⟨H1, r1⟩ := q1
            refine pm_Fv.inc rfl rfl (Nat.le_of_ble_eq_true rfl) ?_
            refine pm_Fv.go 1 (f' := (117, 3, [(4, _), (0, _), (1, _), (2, _), (3, _)], [])) rfl ?_
            first
              | (rw [if_neg (by omega)] at ss; exact pm_Fv.weak (ih (j + 1) σ (by rw [ss]; exact H) (by omega) (by omega)) rfl)
              | (rw [if_pos (by omega)] at ss; exact pm_Fv.weak ((ih (j + 1) s1 (by rw [ss]; rw [← a2]; exact H1) (by omega) (by omega)).mono (fun o s q => ⟨q.1, q.2.1, q.2.2.trans r1⟩)) rfl)
theorem ev_shift {g : Int → Int → Int} (H : Hp σ ad z (mo_w ar g) lr) (hl : (ar 200).1 = 5600) (hm : 0 ≤ z 23 ∧ z 23 ≤ 400) (K : mo_K g) (S : mo_L g) {p k y : Int} (hp : -2147483648 ≤ p ∧ p ≤ 2147483647) (hk : -2147483648 ≤ k ∧ k ≤ 2147483647) (hy : -2 ≤ y ∧ y ≤ 2) : pm_Fv (tq_P L xs) (pm_enter 117 [.ref 199, .int (zI p), .int (zI k), .int (zI y)]) σ (fun o s => o = .inl none ∧ Hp s ad z (mo_w ar (mo_sh g (z 23) p k y)) lr ∧ s.2 = σ.2) := by
  show pm_Fv (tq_P L xs) (117, 0, [(0, .ref 199), (1, .int (zI p)), (2, .int (zI k)), (3, .int (zI y))], []) σ _
  refine pm_Fv.go 2 (f' := (117, 3, [(4, _), (0, _), (1, _), (2, _), (3, _)], [])) rfl ?_
  exact ev_shiftL L xs hl hm K S hp hk hy (z 23).toNat 0 σ (by rw [mo_sh_0]; exact H) (by omega) (by omega)
def mo_or (ar : Nat → Nat × (Nat → Int32)) (I : Int → Int) (x : Int) : Nat → Nat × (Nat → Int32) := hq_u ar 203 ((ar 203).1, fun j => if (j : Int) < x then zI (I j) else (ar 203).2 j)
theorem mo_or_0 (ar : Nat → Nat × (Nat → Int32)) (I : Int → Int) : mo_or ar I 0 = ar := by
  funext r
  unfold mo_or hq_u
  by_cases c : r = 203
  · rw [if_pos c, c]
    exact Prod.ext rfl (funext fun j => by
      show (if (j : Int) < 0 then zI (I j) else (ar 203).2 j) = (ar 203).2 j
      exact if_neg (by omega))
  · rw [if_neg c]
theorem mo_or_s (ar : Nat → Nat × (Nat → Int32)) (I : Int → Int) {x : Int} (h : 0 ≤ x) : hq_w (mo_or ar I x) 203 x (I x) = mo_or ar I (x + 1) := by
  unfold hq_w mo_or
  rw [hq_u_u]
  refine congrArg (hq_u ar 203) (Prod.ext rfl (funext fun j => ?_))
  show (if j = x.toNat then zI (I x) else if (j : Int) < x then zI (I j) else (ar 203).2 j) = if (j : Int) < x + 1 then zI (I j) else (ar 203).2 j
  by_cases c : j = x.toNat
  · rw [if_pos c, if_pos (by omega), show ((j : Nat) : Int) = x by omega]
  · rw [if_neg c]
    by_cases d : (j : Int) < x
    · rw [if_pos d, if_pos (by omega)]
    · rw [if_neg d, if_neg (by omega)]
theorem ev_arrangeL (hl : (ar 200).1 = 5600) (hl3 : (ar 203).1 = 400) {n : Int} {I D : Int → Int} (M : mo_R (mo_g ar) (z 23) n I D) : ∀ (k : Nat) (x : Int) (σ : pm_S), Hp σ ad (hq_u z 27 x) (mo_or ar I x) lr → 0 ≤ x → x + k = n → pm_Fv (tq_P L xs) (119, 12, [(1, .int (zI (if x < n then I x else -1))), (0, .ref 199)], []) σ (fun o s => o = .inl none ∧ Hp s ad (hq_u z 27 n) (mo_or ar I n) lr ∧ s.2 = σ.2) := by
  intro k
  have hm : 0 ≤ z 23 ∧ z 23 ≤ 400 := ⟨M.m0, M.m4⟩
  have nm := M.nm
  induction k with
  | zero =>
    intro x σ H x0 xk
    have xe : x = n := by omega
    subst xe
    rw [if_neg (by omega)]
    refine pm_Fv.go 2 (f' := (119, 14, [(1, _), (0, _)], [_, _])) rfl ?_
    refine pm_Fv.jeq rfl (by omega) rfl (fun h1 => ?_) (fun h1 => ?_)
    · exact pm_Fv.ret rfl rfl rfl rfl ⟨rfl, H, rfl⟩
    · exact absurd rfl h1
  | succ k ih =>
    intro x σ H x0 xk
    have ix := M.J.1 x x0 (by omega)
    have iy := M.lt x x0 (by omega)
    rw [if_pos (by omega)]
    refine pm_Fv.go 2 (f' := (119, 14, [(1, _), (0, _)], [_, _])) rfl ?_
    refine pm_Fv.jeq rfl (by omega) rfl (fun h1 => ?_) (fun h1 => ?_)
    · exact absurd h1 (by omega)
    · refine pm_Fv.go 1 (f' := (119, 18, [(1, _), (0, _)], [_])) rfl ?_
      refine pm_Fv.gf rfl rfl H.m199 H.o199 rfl ?_
      refine pm_Fv.go 1 (f' := (119, 22, [(1, _), (0, _)], [_, _])) rfl ?_
      refine pm_Fv.gf rfl rfl H.m199 H.o199 rfl ?_
      rw [hq_u_at]
      refine pm_Fv.go 1 (f' := (119, 26, [(1, _), (0, _)], [_, _, _])) rfl ?_
      refine pm_Fv.fis H rfl (by decide) rfl rfl (by show 0 ≤ x ∧ x < (ar 203).1 ∧ (ar 203).1 ≤ 2147483647; omega) (fun s1 H1 r1 => ?_)
      have os := mo_or_s ar I x0
      rw [os] at H1
      have M1 : mo_R (mo_g (mo_or ar I (x + 1))) (hq_u z 27 x 23) n I D := M
      refine pm_Fv.go 2 (f' := (119, 29, [(1, _), (0, _)], [_, _])) rfl ?_
      refine pm_Fv.gf rfl rfl H1.m199 H1.o199 rfl ?_
      rw [hq_u_at]
      refine pm_Fv.go 1 (f' := (119, 33, [(1, _), (0, _)], [_, _, _])) rfl ?_
      refine pm_Fv.iadd rfl ?_
      refine pm_Fv.pz H1 27 rfl rfl rfl (by decide) rfl rfl (Nat.le_of_ble_eq_true rfl) rfl (by decide) rfl (fun s2 H2 r2 => ?_)
      rw [hq_u_u] at H2
      have M2 : mo_R (mo_g (mo_or ar I (x + 1))) (hq_u z 27 (x + 1) 23) n I D := M
      by_cases f : x + 1 < n ∧ D x < D (x + 1)
      · have ca := M.first (by omega) f.1 f.2
        rw [fo_id_at x0] at ca
        have jx := M.J.1 (x + 1) (by omega) f.1
        have jy := M.lt (x + 1) (by omega) f.1
        have q := ih (x + 1) s2 H2 (by omega) (by omega)
        rw [if_pos f.1] at q
        refine pm_Fv.go 3 (f' := (119, 40, [(1, _), (0, _)], [_, _, _])) rfl ?_
        refine pm_Fv.cv rfl rfl rfl rfl (by decide) (Nat.le_of_ble_eq_true rfl) (Nat.le_of_ble_eq_true rfl) H2.m199 H2.o199 (ev_childAt L xs H2 hl hm (by omega) (by omega) ca) ?_
        refine pm_Fv.go 3 (f' := (119, 46, [(2, _), (1, _), (0, _)], [_, _])) rfl ?_
        refine pm_Fv.jeq rfl (by omega) rfl (fun h2 => ?_) (fun h2 => ?_)
        · exact absurd h2 (by omega)
        · refine pm_Fv.go 4 (f' := (119, 12, [(1, _), (2, _), (0, _)], [])) rfl ?_
          exact pm_Fv.weak (q.mono (fun o s q => ⟨q.1, q.2.1, q.2.2.trans (r2.trans r1)⟩)) rfl
      · obtain ⟨ca, en⟩ := M.nofirst (x := x) (by omega) (by omega) f
        rw [fo_id_at x0] at ca
        have q := ih (x + 1) s2 H2 (by omega) (by omega)
        have bh := ev_behind L xs H2 hl M2 (x := x) (by omega) (by omega)
        rw [en, fo_id_at x0] at bh
        refine pm_Fv.go 3 (f' := (119, 40, [(1, _), (0, _)], [_, _, _])) rfl ?_
        refine pm_Fv.cv rfl rfl rfl rfl (by decide) (Nat.le_of_ble_eq_true rfl) (Nat.le_of_ble_eq_true rfl) H2.m199 H2.o199 (ev_childAt L xs H2 hl hm (by omega) (by omega) ca) ?_
        refine pm_Fv.go 3 (f' := (119, 46, [(2, _), (1, _), (0, _)], [_, _])) rfl ?_
        refine pm_Fv.jeq rfl (by omega) rfl (fun h2 => ?_) (fun h2 => ?_)
        · refine pm_Fv.go 2 (f' := (119, 55, [(2, _), (1, _), (0, _)], [_, _])) rfl ?_
          refine pm_Fv.cv rfl rfl rfl rfl (by decide) (Nat.le_of_ble_eq_true rfl) (Nat.le_of_ble_eq_true rfl) H2.m199 H2.o199 (bh) ?_
          refine pm_Fv.go 2 (f' := (119, 12, [(1, _), (2, _), (0, _)], [])) rfl ?_
          exact pm_Fv.weak (q.mono (fun o s q => ⟨q.1, q.2.1, q.2.2.trans (r2.trans r1)⟩)) rfl
        · exact absurd rfl h2
theorem ev_arrange (H : Hp σ ad z ar lr) (hl : (ar 200).1 = 5600) {n : Int} {I D : Int → Int} (M : mo_R (mo_g ar) (z 23) n I D) (hl3 : (ar 203).1 = 400) : pm_Fv (tq_P L xs) (pm_enter 119 [.ref 199]) σ (fun o s => o = .inl none ∧ Hp s ad (hq_u z 27 n) (mo_or ar I n) lr ∧ s.2 = σ.2) := by
  have hm : 0 ≤ z 23 ∧ z 23 ≤ 400 := ⟨M.m0, M.m4⟩
  have n0 := M.W.2.1
  have ca : mo_cag (mo_g ar) (z 23) (-1) 0 (if 0 < n then I 0 else -1) := by
    by_cases c : 0 < n
    · rw [if_pos c]
      have w0 := (M.W.2.2 0 (by omega) c).1
      have q := M.first (x := -1) (by omega) (by omega) (by rw [M.W.1]; exact w0)
      rw [show (-1 : Int) + 1 = 0 from rfl] at q
      exact q
    · rw [if_neg c]
      exact (M.nofirst (x := -1) (by omega) (by omega) (fun q => c (by omega))).1
  show pm_Fv (tq_P L xs) (119, 0, [(0, .ref 199)], []) σ _
  refine pm_Fv.go 2 (f' := (119, 2, [(0, _)], [_, _])) rfl ?_
  refine pm_Fv.pz H 27 rfl rfl rfl (by decide) rfl rfl (Nat.le_of_ble_eq_true rfl) rfl (by decide) rfl (fun s1 H1 r1 => ?_)
  refine pm_Fv.go 3 (f' := (119, 8, [(0, _)], [_, _, _])) rfl ?_
  refine pm_Fv.cv rfl rfl rfl rfl (by decide) (Nat.le_of_ble_eq_true rfl) (Nat.le_of_ble_eq_true rfl) H1.m199 H1.o199 (ev_childAt L xs H1 hl hm (by omega) (by omega) ca) ?_
  refine pm_Fv.go 1 (f' := (119, 12, [(1, _), (0, _)], [])) rfl ?_
  exact (ev_arrangeL L xs hl hl3 M n.toNat 0 s1 (by rw [mo_or_0]; exact H1) (by omega) (by omega)).mono (fun o s q => ⟨q.1, q.2.1, q.2.2.trans r1⟩)
end MS
