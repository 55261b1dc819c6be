/-! the desk: an entry is born and planted -/
/-- the cells when an entry is born -/
def bo_C (C C1 : Int → Int) (m d t : Int) : Prop := (∀ i, 0 ≤ i → i < 401 + 16 * m → C1 i = C i) ∧ C1 (401 + m * 16 + 2) = d ∧ C1 (401 + m * 16 + 3) = t ∧ C1 (401 + m * 16 + 10) = -1 ∧ C1 (401 + m * 16 + 11) = -1 ∧ (∀ f, 0 ≤ f → f < 16 → f ≠ 2 → f ≠ 3 → f ≠ 10 → f ≠ 11 → C1 (401 + m * 16 + f) = 0)
section MS
variable (L : Nat) (xs : Nat → Int32)
variable {σ : pm_S} {ad : Nat → Nat} {z : Nat → Int} {ar : Nat → Nat × (Nat → Int32)} {lr : Nat → Nat × (Nat → Int64)}
variable {A C0 : Int → Int} {z0 : Nat → Int} {ar0 : Nat → Nat × (Nat → Int32)}
theorem ev_bear (H : Hp σ ad z ar lr) (ln : (ar 190).1 = (ar 191).1) (l4 : 401 ≤ (ar 190).1) (l5 : (ar 190).1 ≤ 13602) {m d t : Int} (hm : 0 ≤ m ∧ m < 400) (hl : 401 + 16 * m ≤ ((ar 190).1 : Int)) (hd : -2147483648 ≤ d ∧ d ≤ 2147483647) (ht : -2147483648 ≤ t ∧ t ≤ 2147483647) (hf : ∀ c, 401 + 16 * m ≤ c → c < ((ar 190).1 : Int) → hq_g ar 190 c = 0 ∧ hq_g ar 191 c = 0) : pm_Fv (tq_P L xs) (pm_enter 77 [.ref 188, .int (zI m), .int (zI d), .int (zI t)]) σ (fun o s => o = .inl none ∧ ∃ ad' ar', Hp s ad' z ar' lr ∧ (∀ r, r ≠ 190 → r ≠ 191 → ar' r = ar r) ∧ (ar' 190).1 = (ar' 191).1 ∧ 401 + 16 * (m + 1) ≤ ((ar' 190).1 : Int) ∧ (ar 190).1 ≤ (ar' 190).1 ∧ (ar' 190).1 ≤ 13602 ∧ bo_C (hq_g ar 190) (hq_g ar' 190) m d t ∧ (∀ i, 0 ≤ i → i < ((ar 190).1 : Int) → hq_g ar' 191 i = hq_g ar 191 i) ∧ (∀ i, ((ar 190).1 : Int) ≤ i → i < ((ar' 190).1 : Int) → hq_g ar' 191 i = 0) ∧ (∀ i, 401 + 16 * (m + 1) ≤ i → i < ((ar' 190).1 : Int) → hq_g ar' 190 i = 0) ∧ hq_rm σ ar lr s ar' lr) := by
  show pm_Fv (tq_P L xs) (77, 0, [(0, .ref 188), (1, .int (zI m)), (2, .int (zI d)), (3, .int (zI t))], []) σ _
  have ek : 401 + m * 16 + 16 = (((401 + m * 16 + 16).toNat : Nat) : Int) := by omega
  refine pm_Fv.sp rfl rfl ?_
  refine pm_Fv.go 1 (f' := (77, 4, [(0, _), (1, _), (2, _), (3, _)], [_, _])) rfl ?_
  refine pm_Fv.bp rfl rfl ?_
  refine pm_Fv.imul rfl ?_
  refine pm_Fv.iadd rfl ?_
  refine pm_Fv.go 2 (f' := (77, 11, [(4, _), (0, _), (1, _), (2, _), (3, _)], [_])) rfl ?_
  refine pm_Fv.gf rfl rfl H.m188 H.o188 rfl ?_
  refine pm_Fv.go 1 (f' := (77, 16, [(4, _), (0, _), (1, _), (2, _), (3, _)], [_, _])) rfl ?_
  refine pm_Fv.bp rfl rfl ?_
  refine pm_Fv.iadd rfl ?_
  rw [ek]
  refine pm_Fv.cvF rfl rfl rfl rfl (by decide) (Nat.le_of_ble_eq_true rfl) (Nat.le_of_ble_eq_true rfl) H.m1 H.o1 (ev_reach L xs H ln l4 l5 (k := (401 + m * 16 + 16).toNat) (by omega)) (fun s1 q1 => ?_)
  obtain ⟨ad1, ar1, H1, o1, ln1, k1, l1, b1, c1, n1, m1⟩ := q1
  refine pm_Fv.go 1 (f' := (77, 23, [(4, _), (0, _), (1, _), (2, _), (3, _)], [_])) rfl ?_
  refine pm_Fv.gf rfl rfl H1.m188 H1.o188 rfl ?_
  refine pm_Fv.gf rfl rfl H1.m1 H1.o1 rfl ?_
  refine pm_Fv.go 2 (f' := (77, 32, [(4, _), (0, _), (1, _), (2, _), (3, _)], [_, _, _])) rfl ?_
  refine pm_Fv.iadd rfl ?_
  refine pm_Fv.go 1 (f' := (77, 34, [(4, _), (0, _), (1, _), (2, _), (3, _)], [_, _, _])) rfl ?_
  refine pm_Fv.dis H1 (r := 190) rfl (by decide) rfl (by omega) (fun s2 H2 r2 => ?_)
  refine pm_Fv.go 1 (f' := (77, 36, [(4, _), (0, _), (1, _), (2, _), (3, _)], [_])) rfl ?_
  refine pm_Fv.gf rfl rfl H2.m188 H2.o188 rfl ?_
  refine pm_Fv.gf rfl rfl H2.m1 H2.o1 rfl ?_
  refine pm_Fv.go 2 (f' := (77, 45, [(4, _), (0, _), (1, _), (2, _), (3, _)], [_, _, _])) rfl ?_
  refine pm_Fv.iadd rfl ?_
  refine pm_Fv.go 1 (f' := (77, 47, [(4, _), (0, _), (1, _), (2, _), (3, _)], [_, _, _])) rfl ?_
  refine pm_Fv.dis H2 (r := 190) rfl (by decide) rfl (by rw [hq_w_len]; omega) (fun s3 H3 r3 => ?_)
  refine pm_Fv.go 1 (f' := (77, 49, [(4, _), (0, _), (1, _), (2, _), (3, _)], [_])) rfl ?_
  refine pm_Fv.gf rfl rfl H3.m188 H3.o188 rfl ?_
  refine pm_Fv.gf rfl rfl H3.m1 H3.o1 rfl ?_
  refine pm_Fv.go 1 (f' := (77, 57, [(4, _), (0, _), (1, _), (2, _), (3, _)], [_, _])) rfl ?_
  refine pm_Fv.bp rfl rfl ?_
  refine pm_Fv.iadd rfl ?_
  refine pm_Fv.go 1 (f' := (77, 61, [(4, _), (0, _), (1, _), (2, _), (3, _)], [_, _, _])) rfl ?_
  refine pm_Fv.iadd rfl ?_
  rw [show 401 + m * 16 + 10 + 0 = 401 + m * 16 + 10 by omega]
  refine pm_Fv.go 1 (f' := (77, 63, [(4, _), (0, _), (1, _), (2, _), (3, _)], [_, _, _])) rfl ?_
  refine pm_Fv.dis H3 (r := 190) rfl (by decide) rfl (by rw [hq_w_len]; rw [hq_w_len]; omega) (fun s4 H4 r4 => ?_)
  refine pm_Fv.go 1 (f' := (77, 65, [(4, _), (0, _), (1, _), (2, _), (3, _)], [_])) rfl ?_
  refine pm_Fv.gf rfl rfl H4.m188 H4.o188 rfl ?_
  refine pm_Fv.gf rfl rfl H4.m1 H4.o1 rfl ?_
  refine pm_Fv.go 1 (f' := (77, 73, [(4, _), (0, _), (1, _), (2, _), (3, _)], [_, _])) rfl ?_
  refine pm_Fv.bp rfl rfl ?_
  refine pm_Fv.iadd rfl ?_
  refine pm_Fv.go 1 (f' := (77, 77, [(4, _), (0, _), (1, _), (2, _), (3, _)], [_, _, _])) rfl ?_
  refine pm_Fv.iadd rfl ?_
  rw [show 401 + m * 16 + 10 + 1 = 401 + m * 16 + 11 by omega]
  refine pm_Fv.go 1 (f' := (77, 79, [(4, _), (0, _), (1, _), (2, _), (3, _)], [_, _, _])) rfl ?_
  refine pm_Fv.dis H4 (r := 190) rfl (by decide) rfl (by rw [hq_w_len]; rw [hq_w_len]; rw [hq_w_len]; omega) (fun s5 H5 r5 => ?_)
  have g : ∀ i, 0 ≤ i → hq_g (hq_w (hq_w (hq_w (hq_w ar1 190 (401 + m * 16 + 2) d) 190 (401 + m * 16 + 3) t) 190 (401 + m * 16 + 10) (-1)) 190 (401 + m * 16 + 11) (-1)) 190 i = if i = 401 + m * 16 + 11 then -1 else if i = 401 + m * 16 + 10 then -1 else if i = 401 + m * 16 + 3 then t else if i = 401 + m * 16 + 2 then d else hq_g ar1 190 i := by
    intro i i0
    rw [hq_w_g (by omega) i0 (by omega), hq_w_g (by omega) i0 (by omega), hq_w_g (by omega) i0 ht, hq_w_g (by omega) i0 hd]
  have z0 : ∀ i, 401 + 16 * m ≤ i → i < ((ar1 190).1 : Int) → hq_g ar1 190 i = 0 := by
    intro i i0 i1
    by_cases x : i < ((ar 190).1 : Int)
    · rw [(c1 i (by omega) x).1]
      exact (hf i i0 x).1
    · exact (n1 i (by omega) i1).1
  refine pm_Fv.ret rfl rfl rfl rfl ⟨rfl, ⟨_, _, H5, fun r x1 x2 => ?_, ?_, ?_, ?_, ?_, ⟨fun i i0 i1 => ?_, ?_, ?_, ?_, ?_, fun f f0 f1 f2 f3 f4 f5 => ?_⟩, fun i i0 i1 => ?_, fun i i0 i1 => ?_, fun i i0 i1 => ?_, ?_⟩⟩
  · rw [hq_w_ne x1, hq_w_ne x1, hq_w_ne x1, hq_w_ne x1, o1 r x1 x2]
  · rw [hq_w_len, hq_w_len, hq_w_len, hq_w_len, hq_w_len, hq_w_len, hq_w_len, hq_w_len]
    exact ln1
  · rw [hq_w_len, hq_w_len, hq_w_len, hq_w_len]
    omega
  · rw [hq_w_len, hq_w_len, hq_w_len, hq_w_len]
    exact l1
  · rw [hq_w_len, hq_w_len, hq_w_len, hq_w_len]
    exact b1
  · rw [g i i0, if_neg (by omega), if_neg (by omega), if_neg (by omega), if_neg (by omega)]
    exact (c1 i i0 (by omega)).1
  · rw [g _ (by omega), if_neg (by omega), if_neg (by omega), if_neg (by omega), if_pos rfl]
  · rw [g _ (by omega), if_neg (by omega), if_neg (by omega), if_pos rfl]
  · rw [g _ (by omega), if_neg (by omega), if_pos rfl]
  · rw [g _ (by omega), if_pos rfl]
  · rw [g _ (by omega), if_neg (by omega), if_neg (by omega), if_neg (by omega), if_neg (by omega)]
    exact z0 _ (by omega) (by omega)
  · rw [hq_g_ne (hq_w_ne (by decide)), hq_g_ne (hq_w_ne (by decide)), hq_g_ne (hq_w_ne (by decide)), hq_g_ne (hq_w_ne (by decide))]
    exact (c1 i i0 i1).2
  · rw [hq_w_len, hq_w_len, hq_w_len, hq_w_len] at i1
    rw [hq_g_ne (hq_w_ne (by decide)), hq_g_ne (hq_w_ne (by decide)), hq_g_ne (hq_w_ne (by decide)), hq_g_ne (hq_w_ne (by decide))]
    exact (n1 i i0 i1).2
  · rw [hq_w_len, hq_w_len, hq_w_len, hq_w_len] at i1
    rw [g i (by omega), if_neg (by omega), if_neg (by omega), if_neg (by omega), if_neg (by omega)]
    exact z0 i (by omega) i1
  · exact hq_rm_tr m1 (hq_rm_len (r5.trans (r4.trans (r3.trans r2))) (fun r => by rw [hq_w_len, hq_w_len, hq_w_len, hq_w_len]) rfl)
theorem hw.bo {ar' : Nat → Nat × (Nat → Int32)} {d t : Int} (h : hw A z ar) (hm : z 8 < 400) (o : ∀ r, r ≠ 190 → r ≠ 191 → ar' r = ar r) (ln : (ar' 190).1 = (ar' 191).1) (l1 : 401 + 16 * (z 8 + 1) ≤ ((ar' 190).1 : Int)) (l2 : (ar 190).1 ≤ (ar' 190).1) (l3 : (ar' 190).1 ≤ 13602) (b : bo_C (hq_g ar 190) (hq_g ar' 190) (z 8) d t) (s1 : ∀ i, 0 ≤ i → i < ((ar 190).1 : Int) → hq_g ar' 191 i = hq_g ar 191 i) (s2 : ∀ i, ((ar 190).1 : Int) ≤ i → i < ((ar' 190).1 : Int) → hq_g ar' 191 i = 0) (fr : ∀ i, 401 + 16 * (z 8 + 1) ≤ i → i < ((ar' 190).1 : Int) → hq_g ar' 190 i = 0) : hw (fun i => if i < 401 + 16 * z 8 then A i else hq_g ar' 190 i) (hq_u z 8 (z 8 + 1)) ar' := by
  have m0 := h.m0
  have le := h.le
  unfold od_L at le
  have jj := h.jj
  have a1 := h.h1
  have z8 : hq_u z 8 (z 8 + 1) 8 = z 8 + 1 := hq_u_at _ _ _
  have st : ∀ i, 0 ≤ i → i < ((ar' 190).1 : Int) → (hq_g ar' 191 i = hq_g ar 191 i ∧ i < ((ar 190).1 : Int)) ∨ hq_g ar' 191 i = 0 := fun i i0 i1 => by
    by_cases x : i < ((ar 190).1 : Int)
    · exact Or.inl ⟨s1 i i0 x, x⟩
    · exact Or.inr (s2 i (by omega) i1)
  have g1 : ∀ r, r ≠ 190 → r ≠ 191 → hq_g ar' r = hq_g ar r := fun r h1 h2 => funext fun i => hq_g_ne (o r h1 h2) i
  refine hw.mk (by rw [z8]; omega) h.h2 h.h3 h.h6 h.h7 h.h1 ln (by unfold od_L; rw [z8]; omega) (fun i hi => ?_) (fun c c0 c1 => ?_) (fun c c0 c1 => ?_) h.gd (fun g c c0 c1 => ?_) (fun g => ?_) (fun x y c c0 c1 => ?_)
  · rw [hq_u_ne (by omega), o _ (by omega) (by omega), o _ (by omega) (by omega)]
    exact h.cap i hi
  · show 0 ≤ hq_g ar' 191 c ∧ hq_g ar' 191 c ≤ z 1
    rcases st c c0 c1 with q | q
    · rw [q.1]
      exact h.st c c0 q.2
    · rw [q]
      omega
  · rw [z8] at c0
    refine ⟨fr c c0 c1, ?_⟩
    rcases st c (by omega) c1 with q | q
    · rw [q.1]
      exact (h.fr c (by omega) q.2).2
    · exact q
  · have gz : z 7 = 1 ∨ 0 < z 6 := g
    rw [z8] at c1
    have jc : hw_j (hq_u z 8 (z 8 + 1)) = hw_j z := rfl
    rw [jc, hq_u_ne (show 105 + 3 * hw_j z ≠ 8 by omega), g1 (5 + 3 * hw_j z + 1) (by omega) (by omega)]
    show hq_g ar' 191 c = z 1 ↔ _
    by_cases x : c < 401 + 16 * z 8
    · rw [s1 c c0 (by omega)]
      exact h.gs gz c c0 x
    · have q0 : hq_g ar' 191 c = 0 := by
        rcases st c c0 (by omega) with q | q
        · rw [q.1]
          exact (h.fr c (by omega) q.2).2
        · exact q
      rw [q0]
      have gd := h.gd gz
      refine ⟨fun y => absurd y (by omega), fun ⟨i, i0, i1, i2⟩ => ?_⟩
      have := (h.gl gz).2.1 i i0 i1
      omega
  · have gz : z 7 = 1 ∨ 0 < z 6 := g
    have l := h.gl gz
    have jc : hw_j (hq_u z 8 (z 8 + 1)) = hw_j z := rfl
    rw [jc, hq_u_ne (show 105 + 3 * hw_j z ≠ 8 by omega), g1 (5 + 3 * hw_j z + 1) (by omega) (by omega), g1 (5 + 3 * hw_j z + 2) (by omega) (by omega), z8]
    refine ⟨l.1, fun i i0 i1 => ?_, fun c c0 c1 hc => ?_⟩
    · have q := l.2.1 i i0 i1
      exact ⟨q.1, by omega, q.2.2.trans (if_pos q.2.1).symm⟩
    · by_cases x : c < 401 + 16 * z 8
      · exact ((b.1 c c0 x).trans (l.2.2 c c0 x hc)).trans (if_pos x).symm
      · exact (if_neg x).symm
  · rw [z8] at c1
    by_cases q : c < 401 + 16 * z 8
    · exact ((b.1 c c0 q).trans (h.no x y c c0 q)).trans (if_pos q).symm
    · exact (if_neg q).symm
theorem ev_plantL {m c d t : Int} (c0 : 0 ≤ c) (cn : c ≤ C0 0) (n4 : C0 0 < 400) (hm : -2147483648 ≤ m ∧ m ≤ 2147483647) (cr : ∀ i, 0 ≤ i → -2147483648 ≤ C0 i ∧ C0 i ≤ 2147483647) : ∀ (k : Nat) (p : Int) (ad : Nat → Nat) (z : Nat → Int) (ar : Nat → Nat × (Nat → Int32)) (σ : pm_S), Hp σ ad z ar lr → od_E A C0 z0 ar0 z ar → c + k = p → p ≤ C0 0 → (∀ i, 0 ≤ i → hq_g ar 190 i = if 1 + p < i ∧ i ≤ 1 + C0 0 then C0 (i - 1) else C0 i) → pm_Fv (tq_P L xs) (76, 30, [(5, .int (zI p)), (4, .int (zI m)), (0, .ref 188), (1, .int (zI c)), (2, .int (zI d)), (3, .int (zI t))], []) σ (fun o s => o = .inl (some (.int (zI m))) ∧ ∃ ad' z' ar', Hp s ad' z' ar' lr ∧ od_E A C0 z0 ar0 z' ar' ∧ (∀ i, 0 ≤ i → hq_g ar' 190 i = if i = 0 then C0 0 + 1 else if i = 1 + c then m else if 1 + c < i ∧ i ≤ 1 + C0 0 then C0 (i - 1) else C0 i) ∧ hq_rm σ ar lr s ar' lr) := by
  intro k
  induction k with
  | zero =>
    intro p ad z ar σ H E pk pn hc
    have m0 := E.h.m0
    have mz := E.m
    have e1 : p = c := by omega
    subst e1
    refine pm_Fv.go 2 (f' := (76, 33, [(5, _), (4, _), (0, _), (1, _), (2, _), (3, _)], [_, _])) rfl ?_
    refine pm_Fv.jle rfl (by omega) rfl (fun h1 => ?_) (fun h1 => ?_)
    · refine pm_Fv.go 1 (f' := (76, 62, [(5, _), (4, _), (0, _), (1, _), (2, _), (3, _)], [_])) rfl ?_
      refine pm_Fv.gf rfl rfl H.m188 H.o188 rfl ?_
      refine pm_Fv.go 2 (f' := (76, 67, [(5, _), (4, _), (0, _), (1, _), (2, _), (3, _)], [_, _, _])) rfl ?_
      refine pm_Fv.iadd rfl ?_
      refine pm_Fv.go 1 (f' := (76, 70, [(5, _), (4, _), (0, _), (1, _), (2, _), (3, _)], [_, _, _])) rfl ?_
      refine pm_Fv.cvF rfl rfl rfl rfl (by decide) (Nat.le_of_ble_eq_true rfl) (Nat.le_of_ble_eq_true rfl) H.m1 H.o1 (ev_wE L xs H E (c := 1 + p) (by omega) (by omega) hm (by rw [hc _ (by omega), if_neg (by omega)])) (fun s1 q1 => ?_)
      obtain ⟨ad1, z1, ar1, H1, E1, g1, d1, m1⟩ := q1
      have c00 : hq_g ar1 190 0 = C0 0 := by rw [g1 0 (by omega), if_neg (by omega), hc 0 (by omega), if_neg (by omega)]
      have ct := ev_count L xs H1 E1.h.le E1.h.m0.1
      rw [c00] at ct
      refine pm_Fv.go 1 (f' := (76, 74, [(5, _), (4, _), (0, _), (1, _), (2, _), (3, _)], [_])) rfl ?_
      refine pm_Fv.gf rfl rfl H1.m188 H1.o188 rfl ?_
      refine pm_Fv.go 2 (f' := (76, 79, [(5, _), (4, _), (0, _), (1, _), (2, _), (3, _)], [_, _, _])) rfl ?_
      refine pm_Fv.cv rfl rfl rfl rfl (by decide) (Nat.le_of_ble_eq_true rfl) (Nat.le_of_ble_eq_true rfl) H1.m188 H1.o188 (ct) ?_
      refine pm_Fv.go 1 (f' := (76, 83, [(5, _), (4, _), (0, _), (1, _), (2, _), (3, _)], [_, _, _, _])) rfl ?_
      refine pm_Fv.iadd rfl ?_
      refine pm_Fv.cvF rfl rfl rfl rfl (by decide) (Nat.le_of_ble_eq_true rfl) (Nat.le_of_ble_eq_true rfl) H1.m1 H1.o1 (ev_wE L xs H1 E1 (c := 0) (by omega) (by omega) (by omega) c00) (fun s2 q2 => ?_)
      obtain ⟨ad2, z2, ar2, H2, E2, g2, d2, m2⟩ := q2
      refine pm_Fv.go 1 (f' := (76, 89, [(5, _), (4, _), (0, _), (1, _), (2, _), (3, _)], [_])) rfl ?_
      refine pm_Fv.rv rfl rfl ⟨rfl, ⟨ad2, z2, ar2, H2, E2, fun i i0 => ?_, hq_rm_tr m1 m2⟩⟩
      rw [g2 i i0, g1 i i0, hc i i0]
    · exact absurd h1 (by omega)
  | succ k ih =>
    intro p ad z ar σ H E pk pn hc
    have m0 := E.h.m0
    have mz := E.m
    have ea := ev_entryAt L xs H E.h.le m0.1 (p := p - 1) (by omega)
    have ep1 : oI (hq_g ar 190) (p - 1) = C0 p := by
      unfold oI
      rw [hc _ (by omega), if_neg (by omega), show 1 + (p - 1) = p by omega]
    rw [ep1] at ea
    have cp := cr p (by omega)
    refine pm_Fv.go 2 (f' := (76, 33, [(5, _), (4, _), (0, _), (1, _), (2, _), (3, _)], [_, _])) rfl ?_
    refine pm_Fv.jle rfl (by omega) rfl (fun h1 => ?_) (fun h1 => ?_)
    · exact absurd h1 (by omega)
    · refine pm_Fv.go 1 (f' := (76, 37, [(5, _), (4, _), (0, _), (1, _), (2, _), (3, _)], [_])) rfl ?_
      refine pm_Fv.gf rfl rfl H.m188 H.o188 rfl ?_
      refine pm_Fv.go 2 (f' := (76, 43, [(5, _), (4, _), (0, _), (1, _), (2, _), (3, _)], [_, _, _])) rfl ?_
      refine pm_Fv.iadd rfl ?_
      refine pm_Fv.go 3 (f' := (76, 48, [(5, _), (4, _), (0, _), (1, _), (2, _), (3, _)], [_, _, _, _, _])) rfl ?_
      refine pm_Fv.isub rfl ?_
      refine pm_Fv.cv rfl rfl rfl rfl (by decide) (Nat.le_of_ble_eq_true rfl) (Nat.le_of_ble_eq_true rfl) H.m188 H.o188 (ea) ?_
      refine pm_Fv.cvF rfl rfl rfl rfl (by decide) (Nat.le_of_ble_eq_true rfl) (Nat.le_of_ble_eq_true rfl) H.m1 H.o1 (ev_wE L xs H E (c := 1 + p) (by omega) (by omega) cp (by rw [hc _ (by omega), if_neg (by omega)])) (fun s1 q1 => ?_)
      obtain ⟨ad1, z1, ar1, H1, E1, g1, d1, m1⟩ := q1
      refine pm_Fv.inc rfl rfl (Nat.le_of_ble_eq_true rfl) ?_
      refine pm_Fv.go 1 (f' := (76, 30, [(5, _), (4, _), (0, _), (1, _), (2, _), (3, _)], [])) rfl ?_
      have kq := ih (p - 1) ad1 z1 ar1 s1 H1 E1 (by omega) (by omega) (fun i i0 => ?_)
      · refine pm_Fv.weak (kq.mono (fun o s q => ⟨q.1, ?_⟩)) rfl
        obtain ⟨ad', z', ar', H', E', c', m'⟩ := q.2
        exact ⟨ad', z', ar', H', E', c', hq_rm_tr m1 m'⟩
      · rw [g1 i i0, hc i i0]
        by_cases x : i = 1 + p
        · rw [if_pos x, if_pos (by omega), show i - 1 = p by omega]
        · rw [if_neg x]
          by_cases y : 1 + p < i ∧ i ≤ 1 + C0 0
          · rw [if_pos y, if_pos (by omega)]
          · rw [if_neg y, if_neg (by omega)]
theorem ev_plant (H : Hp σ ad z ar lr) (h : hw A z ar) (h7 : z 7 = 0) (hz1 : z 1 < 99999) (hm : z 8 < 400) {c d t : Int} (c0 : 0 ≤ c) (cn : c ≤ hq_g ar 190 0) (n4 : hq_g ar 190 0 < 400) (hd : -2147483648 ≤ d ∧ d ≤ 2147483647) (ht : -2147483648 ≤ t ∧ t ≤ 2147483647) : pm_Fv (tq_P L xs) (pm_enter 76 [.ref 188, .int (zI c), .int (zI d), .int (zI t)]) σ (fun o s => o = .inl (some (.int (zI (z 8)))) ∧ ∃ ad' z' ar' A' ar1, Hp s ad' z' ar' lr ∧ hw A' (hq_u z 8 (z 8 + 1)) ar1 ∧ od_E A' (hq_g ar1 190) (hq_u z 8 (z 8 + 1)) ar1 z' ar' ∧ bo_C (hq_g ar 190) (hq_g ar1 190) (z 8) d t ∧ (∀ i, i < 401 + 16 * z 8 → A' i = A i) ∧ (∀ i, 401 + 16 * z 8 ≤ i → A' i = hq_g ar1 190 i) ∧ (∀ r, r ≠ 190 → r ≠ 191 → ar1 r = ar r) ∧ (∀ i, 0 ≤ i → hq_g ar' 190 i = if i = 0 then hq_g ar1 190 0 + 1 else if i = 1 + c then z 8 else if 1 + c < i ∧ i ≤ 1 + hq_g ar1 190 0 then hq_g ar1 190 (i - 1) else hq_g ar1 190 i) ∧ hq_rm σ ar lr s ar' lr) := by
  show pm_Fv (tq_P L xs) (76, 0, [(0, .ref 188), (1, .int (zI c)), (2, .int (zI d)), (3, .int (zI t))], []) σ _
  have m0 := h.m0
  have le := h.le
  unfold od_L at le
  refine pm_Fv.go 1 (f' := (76, 1, [(0, _), (1, _), (2, _), (3, _)], [_])) rfl ?_
  refine pm_Fv.gf rfl rfl H.m188 H.o188 rfl ?_
  refine pm_Fv.go 3 (f' := (76, 8, [(4, _), (0, _), (1, _), (2, _), (3, _)], [_, _])) rfl ?_
  refine pm_Fv.gf rfl rfl H.m188 H.o188 rfl ?_
  refine pm_Fv.go 1 (f' := (76, 12, [(4, _), (0, _), (1, _), (2, _), (3, _)], [_, _, _])) rfl ?_
  refine pm_Fv.iadd rfl ?_
  refine pm_Fv.pz H 8 rfl rfl rfl (by decide) rfl rfl (Nat.le_of_ble_eq_true rfl) rfl (by decide) rfl (fun s1 H1 r1 => ?_)
  refine pm_Fv.go 4 (f' := (76, 21, [(4, _), (0, _), (1, _), (2, _), (3, _)], [_, _, _, _])) rfl ?_
  refine pm_Fv.cvF rfl rfl rfl rfl (by decide) (Nat.le_of_ble_eq_true rfl) (Nat.le_of_ble_eq_true rfl) H1.m188 H1.o188 (ev_bear L xs H1 h.ln (by omega) (by omega) (by omega) le.1 hd ht h.fr) (fun s2 q2 => ?_)
  obtain ⟨ad2, ar1, H2, o2, ln2, l2, l3, l4, b2, st2, st3, f2, m2⟩ := q2
  have h2 := h.bo hm o2 ln2 l2 l3 l4 b2 st2 st3 f2
  have E2 := od_E.ini h2 h7 hz1
  have c00 : hq_g ar1 190 0 = hq_g ar 190 0 := b2.1 0 (by omega) (by omega)
  have ct := ev_count L xs H2 h2.le h2.m0.1
  refine pm_Fv.go 1 (f' := (76, 25, [(4, _), (0, _), (1, _), (2, _), (3, _)], [_])) rfl ?_
  refine pm_Fv.cv rfl rfl rfl rfl (by decide) (Nat.le_of_ble_eq_true rfl) (Nat.le_of_ble_eq_true rfl) H2.m188 H2.o188 (ct) ?_
  refine pm_Fv.go 1 (f' := (76, 30, [(5, _), (4, _), (0, _), (1, _), (2, _), (3, _)], [])) rfl ?_
  refine (ev_plantL L xs (m := z 8) (c := c) (d := d) (t := t) c0 (by rw [c00]; exact cn) (by rw [c00]; exact n4) (by omega) (fun i _ => hq_g_r _ _ _) (hq_g ar1 190 0 - c).toNat (hq_g ar1 190 0) ad2 (hq_u z 8 (z 8 + 1)) ar1 s2 H2 E2 (by omega) (by omega) (fun i i0 => by rw [if_neg (by omega)])).mono (fun o s q => ⟨q.1, ?_⟩)
  obtain ⟨ad', z', ar', H', E', c', m'⟩ := q.2
  exact ⟨ad', z', ar', _, ar1, H', h2, E', b2, fun i hi => if_pos hi, fun i hi => if_neg (by omega), o2, c', hq_rm_tr (hq_rm_refl r1) (hq_rm_tr m2 m')⟩
end MS
