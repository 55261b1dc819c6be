/-! the reference: keys, and the children by their places -/
theorem fo_kth {D : Int → Int} {v a : Int} : ∀ b, a ≤ b → ∀ k, 0 ≤ k → k < fo_c D v a b → ∃ p, a ≤ p ∧ p < b ∧ D p = v ∧ fo_c D v a p = k := by
  refine fs_ind (P := fun b => ∀ k, 0 ≤ k → k < fo_c D v a b → ∃ p, a ≤ p ∧ p < b ∧ D p = v ∧ fo_c D v a p = k) ?_ ?_
  · intro k k0 k1
    rw [fo_c_0 (Int.le_refl a)] at k1
    omega
  · intro b hb ih k k0 k1
    rw [fo_c_r hb] at k1
    by_cases c : k < fo_c D v a b
    · obtain ⟨p, p0, p1, p2⟩ := ih k k0 c
      exact ⟨p, p0, by omega, p2⟩
    · by_cases e : D b = v
      · rw [if_pos e] at k1
        exact ⟨b, hb, by omega, e, by omega⟩
      · rw [if_neg e] at k1
        omega
/-- the children of r by their places -/
def fo_cp (D : Int → Int) (n r : Int) (cp : Int → Int) : Prop := ∀ k, 0 ≤ k → k < fo_cc D n r → r < cp k ∧ cp k < fo_end D n r ∧ D (cp k) = D r + 1 ∧ 0 ≤ cp k ∧ cp k < n ∧ fo_par D (cp k) = r ∧ fo_pl D (cp k) = k
theorem fo_cp_ex {D : Int → Int} {n r : Int} (W : fo_W D n) (r0 : -1 ≤ r) (r1 : r < n ∨ r = -1) : ∃ cp, fo_cp D n r cp := by
  have B := fo_end_B' W r0 r1
  have key : ∀ k : Int, ∃ p, 0 ≤ k → k < fo_cc D n r → r < p ∧ p < fo_end D n r ∧ D p = D r + 1 ∧ 0 ≤ p ∧ p < n ∧ fo_par D p = r ∧ fo_pl D p = k := by
    intro k
    by_cases c : 0 ≤ k ∧ k < fo_cc D n r
    · obtain ⟨p, p0, p1, p2, p3⟩ := fo_kth (D := D) (v := D r + 1) (a := r + 1) (fo_end D n r) (by omega) k c.1 c.2
      have pe := fo_par_eq W (by omega) (by omega) ((fo_child W r0 r1 (p := p) (by omega) (by omega)).mpr ⟨by omega, p1, p2⟩)
      refine ⟨p, fun _ _ => ⟨by omega, p1, p2, by omega, by omega, pe, ?_⟩⟩
      unfold fo_pl
      rw [pe, p2]
      exact p3
    · exact ⟨0, fun a b => absurd ⟨a, b⟩ c⟩
  exact ⟨fun k => Classical.choose (key k), fun k k0 k1 => Classical.choose_spec (key k) k0 k1⟩
theorem fo_cp_lt {D : Int → Int} {n r : Int} {cp : Int → Int} (W : fo_W D n) (h : fo_cp D n r cp) {i j : Int} (i0 : 0 ≤ i) (ij : i < j) (jc : j < fo_cc D n r) : cp i < cp j := by
  have a := h i i0 (by omega)
  have b := h j (by omega) jc
  refine Int.not_le.mp fun q => ?_
  by_cases e : cp i = cp j
  · have h1 := a.2.2.2.2.2.2
    have h2 := b.2.2.2.2.2.2
    rw [e] at h1
    omega
  · have := fo_pl_lt W b.2.2.2.1 (by omega : cp j < cp i) a.2.2.2.2.1 (by rw [a.2.2.2.2.2.1, b.2.2.2.2.2.1])
    omega
def mo_ky (g : Int → Int → Int) (I D : Int → Int) (n y b : Int) : Int := if y = 0 then g (I b) 3 else if y = 1 then g (I b) 4 else if y = 2 then - g (I b) 5 else if y = 3 then (if g (I b) 9 = -1 then 3652059 else g (I b) 9) else - fs (fun p => g (I p) 12) b (fo_end D n b)
section MS
variable (L : Nat) (xs : Nat → Int32)
variable {σ : pm_S} {ad : Nat → Nat} {z : Nat → Int} {ar : Nat → Nat × (Nat → Int32)} {lr : Nat → Nat × (Nat → Int64)}
theorem ev_mkey0 (H : Hp σ ad z ar lr) (hl : (ar 200).1 = 5600) {n : Int} {I D : Int → Int} (M : mo_R (mo_g ar) (z 23) n I D) {b : Int} (b0 : 0 ≤ b) (b1 : b < n)  : pm_Ev (tq_P L xs) (pm_enter 136 [.ref 199, .int (zI (I b)), .int (zI 0)]) σ (.inl (some (.int (zI (mo_g ar (I b) 3)))), σ) := by
  show pm_Ev (tq_P L xs) (136, 0, [(0, .ref 199), (1, .int (zI (I b))), (2, .int (zI 0))], []) σ _
  have i0 := M.J.1 b b0 b1
  have i1 := M.lt b b0 b1
  have m4 := M.m4
  have g9 := mo_g_r ar (I b) 9
  refine pm_Ev.go 5 (f' := (136, 35, [(0, _), (1, _), (2, _)], [_, _, _])) rfl ?_
  refine pm_Ev.cv rfl rfl rfl rfl (by decide) (Nat.le_of_ble_eq_true rfl) (Nat.le_of_ble_eq_true rfl) H.m199 H.o199 (ev_g L xs H hl (by omega)) ?_
  exact pm_Ev.rv rfl rfl rfl
theorem ev_mkey1 (H : Hp σ ad z ar lr) (hl : (ar 200).1 = 5600) {n : Int} {I D : Int → Int} (M : mo_R (mo_g ar) (z 23) n I D) {b : Int} (b0 : 0 ≤ b) (b1 : b < n)  : pm_Ev (tq_P L xs) (pm_enter 136 [.ref 199, .int (zI (I b)), .int (zI 1)]) σ (.inl (some (.int (zI (mo_g ar (I b) 4)))), σ) := by
  show pm_Ev (tq_P L xs) (136, 0, [(0, .ref 199), (1, .int (zI (I b))), (2, .int (zI 1))], []) σ _
  have i0 := M.J.1 b b0 b1
  have i1 := M.lt b b0 b1
  have m4 := M.m4
  have g9 := mo_g_r ar (I b) 9
  refine pm_Ev.go 5 (f' := (136, 42, [(0, _), (1, _), (2, _)], [_, _, _])) rfl ?_
  refine pm_Ev.cv rfl rfl rfl rfl (by decide) (Nat.le_of_ble_eq_true rfl) (Nat.le_of_ble_eq_true rfl) H.m199 H.o199 (ev_g L xs H hl (by omega)) ?_
  exact pm_Ev.rv rfl rfl rfl
theorem ev_mkey2 (H : Hp σ ad z ar lr) (hl : (ar 200).1 = 5600) {n : Int} {I D : Int → Int} (M : mo_R (mo_g ar) (z 23) n I D) {b : Int} (b0 : 0 ≤ b) (b1 : b < n)  : pm_Ev (tq_P L xs) (pm_enter 136 [.ref 199, .int (zI (I b)), .int (zI 2)]) σ (.inl (some (.int (zI (-mo_g ar (I b) 5)))), σ) := by
  show pm_Ev (tq_P L xs) (136, 0, [(0, .ref 199), (1, .int (zI (I b))), (2, .int (zI 2))], []) σ _
  have i0 := M.J.1 b b0 b1
  have i1 := M.lt b b0 b1
  have m4 := M.m4
  have g9 := mo_g_r ar (I b) 9
  refine pm_Ev.go 5 (f' := (136, 49, [(0, _), (1, _), (2, _)], [_, _, _])) rfl ?_
  refine pm_Ev.cv rfl rfl rfl rfl (by decide) (Nat.le_of_ble_eq_true rfl) (Nat.le_of_ble_eq_true rfl) H.m199 H.o199 (ev_g L xs H hl (by omega)) ?_
  refine pm_Ev.ineg rfl ?_
  exact pm_Ev.rv rfl rfl rfl
theorem ev_mkey3 (H : Hp σ ad z ar lr) (hl : (ar 200).1 = 5600) {n : Int} {I D : Int → Int} (M : mo_R (mo_g ar) (z 23) n I D) {b : Int} (b0 : 0 ≤ b) (b1 : b < n) (c : mo_g ar (I b) 9 = -1) : pm_Ev (tq_P L xs) (pm_enter 136 [.ref 199, .int (zI (I b)), .int (zI 3)]) σ (.inl (some (.int (zI (3652059)))), σ) := by
  show pm_Ev (tq_P L xs) (136, 0, [(0, .ref 199), (1, .int (zI (I b))), (2, .int (zI 3))], []) σ _
  have i0 := M.J.1 b b0 b1
  have i1 := M.lt b b0 b1
  have m4 := M.m4
  have g9 := mo_g_r ar (I b) 9
  refine pm_Ev.go 4 (f' := (136, 56, [(0, _), (1, _), (2, _)], [_, _])) rfl ?_
  refine pm_Ev.bp rfl rfl ?_
  refine pm_Ev.cv rfl rfl rfl rfl (by decide) (Nat.le_of_ble_eq_true rfl) (Nat.le_of_ble_eq_true rfl) H.m199 H.o199 (ev_g L xs H hl (by omega)) ?_
  refine pm_Ev.go 1 (f' := (136, 62, [(0, _), (1, _), (2, _)], [_, _])) rfl ?_
  refine pm_Ev.jne rfl (by omega) rfl (fun h1 => ?_) (fun h1 => ?_)
  · exact absurd h1 (by omega)
  · refine pm_Ev.cc1 (3652059) rfl rfl rfl ?_
    refine pm_Ev.go 1 (f' := (136, 77, [(0, _), (1, _), (2, _)], [_])) rfl ?_
    exact pm_Ev.rv rfl rfl rfl
theorem ev_mkey4 (H : Hp σ ad z ar lr) (hl : (ar 200).1 = 5600) {n : Int} {I D : Int → Int} (M : mo_R (mo_g ar) (z 23) n I D) {b : Int} (b0 : 0 ≤ b) (b1 : b < n) (c : ¬ mo_g ar (I b) 9 = -1) : pm_Ev (tq_P L xs) (pm_enter 136 [.ref 199, .int (zI (I b)), .int (zI 3)]) σ (.inl (some (.int (zI (mo_g ar (I b) 9)))), σ) := by
  show pm_Ev (tq_P L xs) (136, 0, [(0, .ref 199), (1, .int (zI (I b))), (2, .int (zI 3))], []) σ _
  have i0 := M.J.1 b b0 b1
  have i1 := M.lt b b0 b1
  have m4 := M.m4
  have g9 := mo_g_r ar (I b) 9
  refine pm_Ev.go 4 (f' := (136, 56, [(0, _), (1, _), (2, _)], [_, _])) rfl ?_
  refine pm_Ev.bp rfl rfl ?_
  refine pm_Ev.cv rfl rfl rfl rfl (by decide) (Nat.le_of_ble_eq_true rfl) (Nat.le_of_ble_eq_true rfl) H.m199 H.o199 (ev_g L xs H hl (by omega)) ?_
  refine pm_Ev.go 1 (f' := (136, 62, [(0, _), (1, _), (2, _)], [_, _])) rfl ?_
  refine pm_Ev.jne rfl (by omega) rfl (fun h1 => ?_) (fun h1 => ?_)
  · refine pm_Ev.go 2 (f' := (136, 72, [(0, _), (1, _), (2, _)], [_, _])) rfl ?_
    refine pm_Ev.bp rfl rfl ?_
    refine pm_Ev.cv rfl rfl rfl rfl (by decide) (Nat.le_of_ble_eq_true rfl) (Nat.le_of_ble_eq_true rfl) H.m199 H.o199 (ev_g L xs H hl (by omega)) ?_
    exact pm_Ev.rv rfl rfl rfl
  · exact absurd h1 (by omega)
theorem ev_mkey5 (H : Hp σ ad z ar lr) (hl : (ar 200).1 = 5600) {n : Int} {I D : Int → Int} (M : mo_R (mo_g ar) (z 23) n I D) {b : Int} (b0 : 0 ≤ b) (b1 : b < n)  : pm_Ev (tq_P L xs) (pm_enter 136 [.ref 199, .int (zI (I b)), .int (zI 4)]) σ (.inl (some (.int (zI (-fs (fun p => mo_g ar (I p) 12) b (fo_end D n b))))), σ) := by
  show pm_Ev (tq_P L xs) (136, 0, [(0, .ref 199), (1, .int (zI (I b))), (2, .int (zI 4))], []) σ _
  have i0 := M.J.1 b b0 b1
  have i1 := M.lt b b0 b1
  have m4 := M.m4
  have g9 := mo_g_r ar (I b) 9
  refine pm_Ev.go 4 (f' := (136, 80, [(0, _), (1, _), (2, _)], [_, _])) rfl ?_
  refine pm_Ev.cv rfl rfl rfl rfl (by decide) (Nat.le_of_ble_eq_true rfl) (Nat.le_of_ble_eq_true rfl) H.m199 H.o199 (ev_effort L xs H hl M b0 b1) ?_
  refine pm_Ev.ineg rfl ?_
  exact pm_Ev.rv rfl rfl rfl
theorem ev_mkey (H : Hp σ ad z ar lr) (hl : (ar 200).1 = 5600) {n : Int} {I D : Int → Int} (M : mo_R (mo_g ar) (z 23) n I D) {b y : Int} (b0 : 0 ≤ b) (b1 : b < n) (hy : 0 ≤ y ∧ y ≤ 4) : pm_Ev (tq_P L xs) (pm_enter 136 [.ref 199, .int (zI (I b)), .int (zI y)]) σ (.inl (some (.int (zI (mo_ky (mo_g ar) I D n y b)))), σ) := by
  by_cases y0 : y = 0
  · subst y0
    exact ev_mkey0 L xs H hl M b0 b1
  · by_cases y1 : y = 1
    · subst y1
      exact ev_mkey1 L xs H hl M b0 b1
    · by_cases y2 : y = 2
      · subst y2
        exact ev_mkey2 L xs H hl M b0 b1
      · by_cases y3 : y = 3
        · subst y3
          by_cases c : mo_g ar (I b) 9 = -1
          · have q := ev_mkey3 L xs H hl M b0 b1 c
            rw [show mo_ky (mo_g ar) I D n 3 b = 3652059 from if_pos c]
            exact q
          · have q := ev_mkey4 L xs H hl M b0 b1 c
            rw [show mo_ky (mo_g ar) I D n 3 b = mo_g ar (I b) 9 from if_neg c]
            exact q
        · have y4 : y = 4 := by omega
          subst y4
          exact ev_mkey5 L xs H hl M b0 b1
/-- the reference's places after sort -/
def mo_so (g : Int → Int → Int) (E : Int → Int) : Nat → Int → Int → Int
  | 0 => g
  | j + 1 => mo_pt (mo_so g E j) (E j) 2 j
theorem mo_so_f (g : Int → Int → Int) (E : Int → Int) {e f : Int} (h : f ≠ 2) : ∀ j : Nat, mo_so g E j e f = g e f
  | 0 => rfl
  | j + 1 => (mo_pt_f h).trans (mo_so_f g E h j)
theorem mo_so_o (g : Int → Int → Int) (E : Int → Int) {e f : Int} : ∀ j : Nat, (∀ i, 0 ≤ i → i < (j : Int) → E i ≠ e) → mo_so g E j e f = g e f
  | 0, _ => rfl
  | j + 1, h => (mo_pt_e (fun q => h j (by omega) (by omega) q.symm)).trans (mo_so_o g E j (fun i i0 i1 => h i i0 (by omega)))
theorem mo_so_i (g : Int → Int → Int) (E : Int → Int) : ∀ (j : Nat) (i : Int), 0 ≤ i → i < (j : Int) → (∀ a b, 0 ≤ a → a < (j : Int) → 0 ≤ b → b < (j : Int) → E a = E b → a = b) → mo_so g E j (E i) 2 = i
  | 0, i, i0, i1, _ => absurd i1 (by omega)
  | j + 1, i, i0, i1, hi => by
    rw [mo_so]
    by_cases c : i = j
    · rw [c]
      exact mo_pt_at _ _ _ _
    · rw [mo_pt_e (fun q => c (hi i j i0 i1 (by omega) (by omega) q))]
      exact mo_so_i g E j i i0 (by omega) (fun a b a0 a1 b0 b1 => hi a b a0 (by omega) b0 (by omega))
theorem mo_so_K {g : Int → Int → Int} (K : mo_K g) (E : Int → Int) : ∀ j : Nat, j ≤ 1000 → mo_K (mo_so g E j)
  | 0, _ => K
  | j + 1, h => mo_pt_K (mo_so_K K E j (by omega)) (by omega)
theorem hq_sf_sf (ar : Nat → Nat × (Nat → Int32)) (r : Nat) (f g : Int → Int) : hq_sf (hq_sf ar r f) r g = hq_sf ar r g := by
  unfold hq_sf
  rw [hq_u_u, hq_u_at]
theorem mo_bg_7 (ar : Nat → Nat × (Nat → Int32)) (E : Int → Int) : hq_sf (mo_bg ar) 207 E = mo_bg (hq_sf ar 207 E) := by
  unfold hq_sf mo_bg hq_cp
  rw [hq_u_comm ar (show 202 ≠ 207 by decide)]
  rfl
theorem hq_sf_len (ar : Nat → Nat × (Nat → Int32)) (r : Nat) (f : Int → Int) (s : Nat) : (hq_sf ar r f s).1 = (ar s).1 := by
  unfold hq_sf hq_u
  split
  · next h => rw [h]
  · rfl
theorem ev_msort1 (h : mo_H z ar) {n : Int} {I D : Int → Int} (M : mo_R (mo_g ar) (z 23) n I D) {r y C : Int} {cp : Int → Int} (u0 : -1 ≤ r) (u1 : r < n ∨ r = -1) (hy : 0 ≤ y ∧ y ≤ 4) (hcp : fo_cp D n r cp) (hkr : ∀ x, 0 ≤ x → x < n → -2000000000 ≤ mo_ky (mo_g ar) I D n y x ∧ mo_ky (mo_g ar) I D n y x ≤ 2000000000) {Q : pm_O → pm_S → Prop} (kk : ∀ s E, Hp s ad z (hq_sf ar 207 E) lr → (∀ i, 0 ≤ i → i < fo_cc D n r → E i = I (cp i)) → s.2 = σ.2 → pm_Fv (tq_P L xs) (137, 83, [(3, .int (zI (fo_cc D n r))), (0, .ref 199), (1, .int (zI (fo_id I r))), (2, .int (zI y))], []) s Q) : ∀ (j : Nat) (k : Int) (E : Int → Int) (s : pm_S), k + j = fo_cc D n r → 0 ≤ k → Hp s ad z (hq_sf ar 207 E) lr → (∀ i, 0 ≤ i → i < k → E i = I (cp i)) → s.2 = σ.2 → pm_Fv (tq_P L xs) (137, 57, [(4, .int (zI k)), (3, .int (zI (fo_cc D n r))), (0, .ref 199), (1, .int (zI (fo_id I r))), (2, .int (zI y))], []) s Q := by
  intro j
  have cc := fo_cc_r M.W u0 u1
  have nm := M.nm
  have m4 := M.m4
  have idr := M.idr u0 u1
  induction j with
  | zero =>
    intro k E s kj k0 H hE r0
    refine pm_Fv.go 2 (f' := (137, 60, [(4, _), (3, _), (0, _), (1, _), (2, _)], [_, _])) rfl ?_
    refine pm_Fv.jge rfl (by omega) rfl (fun h1 => ?_) (fun h1 => ?_)
    · exact pm_Fv.weak (kk s E H (fun i i0 i1 => hE i i0 (by omega)) r0) rfl
    · exact absurd h1 (by omega)
  | succ j ih =>
    intro k E s kj k0 H hE r0
    have ck := hcp k k0 (by omega)
    have ca := M.kid ck.2.2.2.1 ck.2.2.2.2.1 ck.2.2.2.2.2.1 ck.2.2.2.2.2.2
    have ch : pm_Ev (tq_P L xs) (pm_enter 112 [.ref 199, .int (zI (fo_id I r)), .int (zI k)]) s (.inl (some (.int (zI (I (cp k))))), s) := ev_childAt L xs H (show (ar 200).1 = 5600 from h.l0) ⟨M.m0, M.m4⟩ (by omega) (by omega) ca
    refine pm_Fv.go 2 (f' := (137, 60, [(4, _), (3, _), (0, _), (1, _), (2, _)], [_, _])) rfl ?_
    refine pm_Fv.jge rfl (by omega) rfl (fun h1 => ?_) (fun h1 => ?_)
    · exact absurd h1 (by omega)
    · refine pm_Fv.go 1 (f' := (137, 64, [(4, _), (3, _), (0, _), (1, _), (2, _)], [_])) rfl ?_
      refine pm_Fv.gf rfl rfl H.m199 H.o199 rfl ?_
      refine pm_Fv.go 4 (f' := (137, 73, [(4, _), (3, _), (0, _), (1, _), (2, _)], [_, _, _, _, _])) rfl ?_
      refine pm_Fv.cv rfl rfl rfl rfl (by decide) (Nat.le_of_ble_eq_true rfl) (Nat.le_of_ble_eq_true rfl) H.m199 H.o199 (ch) ?_
      refine pm_Fv.fis H rfl (by decide) rfl rfl (by show 0 ≤ k ∧ k < (ar 207).1 ∧ (ar 207).1 ≤ 2147483647; rw [h.l7]; omega) (fun s1 H1 r1 => ?_)
      refine pm_Fv.inc rfl rfl (Nat.le_of_ble_eq_true rfl) ?_
      refine pm_Fv.go 1 (f' := (137, 57, [(4, _), (3, _), (0, _), (1, _), (2, _)], [])) rfl ?_
      rw [hq_sf_w _ _ _ k0] at H1
      refine pm_Fv.weak (ih (k + 1) (iu E k (I (cp k))) s1 (by omega) (by omega) H1 (fun i i0 i1 => ?_) (r1.trans r0)) rfl
      by_cases e : i = k
      · rw [e, iu_at]
      · rw [iu_ne e]
        exact hE i i0 (by omega)
theorem ev_msort2 (h : mo_H z ar) {n : Int} {I D : Int → Int} (M : mo_R (mo_g ar) (z 23) n I D) {r y C : Int} {cp : Int → Int} (u0 : -1 ≤ r) (u1 : r < n ∨ r = -1) (hy : 0 ≤ y ∧ y ≤ 4) (hcp : fo_cp D n r cp) (hkr : ∀ x, 0 ≤ x → x < n → -2000000000 ≤ mo_ky (mo_g ar) I D n y x ∧ mo_ky (mo_g ar) I D n y x ≤ 2000000000) {E s : Int → Int} {k p : Int} (hk : 0 ≤ k ∧ k < fo_cc D n r) (p0 : 0 ≤ p) (p1 : p ≤ k) (hE : ∀ i, 0 ≤ i → i < k → E i = I (s i % 400) ∧ ∃ j, 0 ≤ j ∧ j < k ∧ s i = (mo_ky (mo_g ar) I D n y (cp (j)) + C) * 400 + cp (j)) (hs1 : ∀ i, 0 ≤ i → i < p → s i < (mo_ky (mo_g ar) I D n y (cp (k)) + C) * 400 + cp (k)) (hs2 : ∀ i, p ≤ i → i < k → (mo_ky (mo_g ar) I D n y (cp (k)) + C) * 400 + cp (k) < s i) {Q : pm_O → pm_S → Prop} (kk : ∀ t, Hp t ad z (hq_sf ar 207 (so_in E p k (I (cp k)))) lr → t.2 = σ.2 → pm_Fv (tq_P L xs) (137, 169, [(4, .int (zI k)), (3, .int (zI (fo_cc D n r))), (0, .ref 199), (1, .int (zI (fo_id I r))), (2, .int (zI y))], []) t Q) : ∀ (j : Nat) (q : Int) (t : pm_S), p + j = q → q ≤ k → Hp t ad z (hq_sf ar 207 (so_sh E q k)) lr → t.2 = σ.2 → pm_Fv (tq_P L xs) (137, 114, [(7, .int (zI q)), (6, .int (zI (mo_ky (mo_g ar) I D n y (cp k)))), (5, .int (zI (I (cp k)))), (4, .int (zI k)), (3, .int (zI (fo_cc D n r))), (0, .ref 199), (1, .int (zI (fo_id I r))), (2, .int (zI y))], []) t Q := by
  intro j
  have cc := fo_cc_r M.W u0 u1
  have nm := M.nm
  have m4 := M.m4
  have ck := hcp k hk.1 hk.2
  have kk0 := hkr (cp k) ck.2.2.2.1 ck.2.2.2.2.1
  have rd : ∀ (q : Int) (t : pm_S), 0 < q → q ≤ k → Hp t ad z (hq_sf ar 207 (so_sh E q k)) lr → ∃ x, 0 ≤ x ∧ x < n ∧ hq_g (hq_sf ar 207 (so_sh E q k)) 207 (q - 1) = I x ∧ so_sh E q k (q - 1) = I x ∧ pm_Ev (tq_P L xs) (pm_enter 136 [.ref 199, .int (zI (I x)), .int (zI y)]) t (.inl (some (.int (zI (mo_ky (mo_g ar) I D n y x)))), t) ∧ (mo_ky (mo_g ar) I D n y (cp k) < mo_ky (mo_g ar) I D n y x ↔ (mo_ky (mo_g ar) I D n y (cp (k)) + C) * 400 + cp (k) < s (q - 1)) := by
    intro q t q0 q1 H
    obtain ⟨e1, j, j0, j1, j2⟩ := hE (q - 1) (by omega) (by omega)
    have cj := hcp j j0 (by omega)
    have lt := fo_cp_lt M.W hcp j0 j1 hk.2
    have sm : s (q - 1) % 400 = cp j := by omega
    rw [sm] at e1
    have e2 : so_sh E q k (q - 1) = I (cp j) := (if_neg (by omega)).trans e1
    have i0 := M.J.1 (cp j) cj.2.2.2.1 cj.2.2.2.2.1
    have i1 := M.lt (cp j) cj.2.2.2.1 cj.2.2.2.2.1
    refine ⟨cp j, cj.2.2.2.1, cj.2.2.2.2.1, (hq_sf_g (by omega) (by rw [e2]; omega)).trans e2, e2, ev_mkey L xs H (show (ar 200).1 = 5600 from h.l0) M cj.2.2.2.1 cj.2.2.2.2.1 hy, ?_⟩
    rw [j2]
    omega
  induction j with
  | zero =>
    intro q t pq qk H r0
    have e : q = p := by omega
    subst e
    by_cases z0 : q = 0
    · skip
      refine pm_Fv.go 1 (f' := (137, 116, [(7, _), (6, _), (5, _), (4, _), (3, _), (0, _), (1, _), (2, _)], [_])) rfl ?_
      refine pm_Fv.zle rfl (by omega) rfl (fun h1 => ?_) (fun h1 => ?_)
      · refine pm_Fv.go 1 (f' := (137, 161, [(7, _), (6, _), (5, _), (4, _), (3, _), (0, _), (1, _), (2, _)], [_])) rfl ?_
        refine pm_Fv.gf rfl rfl H.m199 H.o199 rfl ?_
        refine pm_Fv.go 2 (f' := (137, 168, [(7, _), (6, _), (5, _), (4, _), (3, _), (0, _), (1, _), (2, _)], [_, _, _])) rfl ?_
        refine pm_Fv.fis H rfl (by decide) rfl rfl (by show 0 ≤ q ∧ q < (ar 207).1 ∧ (ar 207).1 ≤ 2147483647; rw [h.l7]; omega) (fun s1 H1 r1 => ?_)
        rw [hq_sf_w _ _ _ p0] at H1
        exact pm_Fv.weak (kk s1 H1 (r1.trans r0)) rfl
      · exact absurd h1 (by omega)
    · obtain ⟨x, x0, x1, x2, _, x3, x4⟩ := rd q t (by omega) qk H
      have s1 := hs1 (q - 1) (by omega) (by omega)
      have kx := hkr x x0 x1
      refine pm_Fv.go 1 (f' := (137, 116, [(7, _), (6, _), (5, _), (4, _), (3, _), (0, _), (1, _), (2, _)], [_])) rfl ?_
      refine pm_Fv.zle rfl (by omega) rfl (fun h1 => ?_) (fun h1 => ?_)
      · exact absurd h1 (by omega)
      · refine pm_Fv.go 2 (f' := (137, 121, [(7, _), (6, _), (5, _), (4, _), (3, _), (0, _), (1, _), (2, _)], [_, _])) rfl ?_
        refine pm_Fv.gf rfl rfl H.m199 H.o199 rfl ?_
        refine pm_Fv.go 2 (f' := (137, 127, [(7, _), (6, _), (5, _), (4, _), (3, _), (0, _), (1, _), (2, _)], [_, _, _, _])) rfl ?_
        refine pm_Fv.isub rfl ?_
        refine pm_Fv.fia H rfl (by decide) rfl rfl (by show 0 ≤ (q - 1) ∧ (q - 1) < (ar 207).1 ∧ (ar 207).1 ≤ 2147483647; rw [h.l7]; omega) ?_
        rw [x2]
        refine pm_Fv.go 1 (f' := (137, 130, [(7, _), (6, _), (5, _), (4, _), (3, _), (0, _), (1, _), (2, _)], [_, _, _])) rfl ?_
        refine pm_Fv.cv rfl rfl rfl rfl (by decide) (Nat.le_of_ble_eq_true rfl) (Nat.le_of_ble_eq_true rfl) H.m199 H.o199 (x3) ?_
        refine pm_Fv.go 1 (f' := (137, 135, [(7, _), (6, _), (5, _), (4, _), (3, _), (0, _), (1, _), (2, _)], [_, _])) rfl ?_
        refine pm_Fv.jle rfl (by omega) rfl (fun h2 => ?_) (fun h2 => ?_)
        · refine pm_Fv.go 1 (f' := (137, 161, [(7, _), (6, _), (5, _), (4, _), (3, _), (0, _), (1, _), (2, _)], [_])) rfl ?_
          refine pm_Fv.gf rfl rfl H.m199 H.o199 rfl ?_
          refine pm_Fv.go 2 (f' := (137, 168, [(7, _), (6, _), (5, _), (4, _), (3, _), (0, _), (1, _), (2, _)], [_, _, _])) rfl ?_
          refine pm_Fv.fis H rfl (by decide) rfl rfl (by show 0 ≤ q ∧ q < (ar 207).1 ∧ (ar 207).1 ≤ 2147483647; rw [h.l7]; omega) (fun s1 H1 r1 => ?_)
          rw [hq_sf_w _ _ _ p0] at H1
          exact pm_Fv.weak (kk s1 H1 (r1.trans r0)) rfl
        · exact absurd h2 (by omega)
  | succ j ih =>
    intro q t pq qk H r0
    obtain ⟨x, x0, x1, x2, x5, x3, x4⟩ := rd q t (by omega) qk H
    have s1 := hs2 (q - 1) (by omega) (by omega)
    have kx := hkr x x0 x1
    have q0 : 0 ≤ q := by omega
    refine pm_Fv.go 1 (f' := (137, 116, [(7, _), (6, _), (5, _), (4, _), (3, _), (0, _), (1, _), (2, _)], [_])) rfl ?_
    refine pm_Fv.zle rfl (by omega) rfl (fun h1 => ?_) (fun h1 => ?_)
    · exact absurd h1 (by omega)
    · refine pm_Fv.go 2 (f' := (137, 121, [(7, _), (6, _), (5, _), (4, _), (3, _), (0, _), (1, _), (2, _)], [_, _])) rfl ?_
      refine pm_Fv.gf rfl rfl H.m199 H.o199 rfl ?_
      refine pm_Fv.go 2 (f' := (137, 127, [(7, _), (6, _), (5, _), (4, _), (3, _), (0, _), (1, _), (2, _)], [_, _, _, _])) rfl ?_
      refine pm_Fv.isub rfl ?_
      refine pm_Fv.fia H rfl (by decide) rfl rfl (by show 0 ≤ (q - 1) ∧ (q - 1) < (ar 207).1 ∧ (ar 207).1 ≤ 2147483647; rw [h.l7]; omega) ?_
      rw [x2]
      refine pm_Fv.go 1 (f' := (137, 130, [(7, _), (6, _), (5, _), (4, _), (3, _), (0, _), (1, _), (2, _)], [_, _, _])) rfl ?_
      refine pm_Fv.cv rfl rfl rfl rfl (by decide) (Nat.le_of_ble_eq_true rfl) (Nat.le_of_ble_eq_true rfl) H.m199 H.o199 (x3) ?_
      refine pm_Fv.go 1 (f' := (137, 135, [(7, _), (6, _), (5, _), (4, _), (3, _), (0, _), (1, _), (2, _)], [_, _])) rfl ?_
      refine pm_Fv.jle rfl (by omega) rfl (fun h2 => ?_) (fun h2 => ?_)
      · exact absurd h2 (by omega)
      · refine pm_Fv.go 1 (f' := (137, 139, [(7, _), (6, _), (5, _), (4, _), (3, _), (0, _), (1, _), (2, _)], [_])) rfl ?_
        refine pm_Fv.gf rfl rfl H.m199 H.o199 rfl ?_
        refine pm_Fv.go 2 (f' := (137, 145, [(7, _), (6, _), (5, _), (4, _), (3, _), (0, _), (1, _), (2, _)], [_, _, _])) rfl ?_
        refine pm_Fv.gf rfl rfl H.m199 H.o199 rfl ?_
        refine pm_Fv.go 2 (f' := (137, 151, [(7, _), (6, _), (5, _), (4, _), (3, _), (0, _), (1, _), (2, _)], [_, _, _, _, _])) rfl ?_
        refine pm_Fv.isub rfl ?_
        refine pm_Fv.fia H rfl (by decide) rfl rfl (by show 0 ≤ (q - 1) ∧ (q - 1) < (ar 207).1 ∧ (ar 207).1 ≤ 2147483647; rw [h.l7]; omega) ?_
        rw [x2]
        refine pm_Fv.fis H rfl (by decide) rfl rfl (by show 0 ≤ q ∧ q < (ar 207).1 ∧ (ar 207).1 ≤ 2147483647; rw [h.l7]; omega) (fun s9 H1 r1 => ?_)
        refine pm_Fv.inc rfl rfl (Nat.le_of_ble_eq_true rfl) ?_
        refine pm_Fv.go 1 (f' := (137, 114, [(7, _), (6, _), (5, _), (4, _), (3, _), (0, _), (1, _), (2, _)], [])) rfl ?_
        rw [hq_sf_w _ _ _ q0, ← x5, so_sh_s E qk] at H1
        exact pm_Fv.weak (ih (q - 1) s9 (by omega) (by omega) H1 (r1.trans r0)) rfl
end MS
