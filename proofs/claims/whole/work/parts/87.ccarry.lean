/-! the desk: a branch is carried -/
def od_ps (b e t : Int) (q : Int) : Int := if t < b then (if t ≤ q ∧ q < t + (e - b) then b + (q - t) else if t + (e - b) ≤ q ∧ q < e then q - (e - b) else q) else (if b ≤ q ∧ q < b + ((t - e).toNat : Int) then e + (q - b) else if b + ((t - e).toNat : Int) ≤ q ∧ q < b + ((t - e).toNat : Int) + (e - b) then q - ((t - e).toNat : Int) else q)
/-- depths of a run of the row are changed -/
def od_dp (C C1 : Int → Int) (b p x : Int) : Prop := (∀ i, 0 ≤ i → i < 401 → C1 i = C i) ∧ (∀ q, b ≤ q → q < p → C1 (401 + oI C q * 16 + 2) = oV C (oI C q) 2 + x) ∧ (∀ i, 401 ≤ i → (∀ q, b ≤ q → q < p → i ≠ 401 + oI C q * 16 + 2) → C1 i = C i)
section MS
variable (L : Nat) (xs : Nat → Int32)
variable {σ : pm_S} {ad : Nat → Nat} {z : Nat → Int} {ar : Nat → Nat × (Nat → Int32)} {lr : Nat → Nat × (Nat → Int64)}
variable {A C : Int → Int} {z0 : Nat → Int} {ar0 : Nat → Nat × (Nat → Int32)}
theorem ev_depR (H : Hp σ ad z ar lr) (hl : od_L z ar) (m0 : 0 ≤ z 8) {p e : Int} (p0 : 0 ≤ p) (p1 : p < 400) (he : oI (hq_g ar 190) p = e) (e0 : 0 ≤ e ∧ e < z 8) : pm_Ev (tq_P L xs) (pm_enter 62 [.ref 188, .int (zI p)]) σ (.inl (some (.int (zI (oV (hq_g ar 190) e 2)))), σ) := by
  show pm_Ev (tq_P L xs) (62, 0, [(0, .ref 188), (1, .int (zI p))], []) σ _
  refine pm_Ev.go 2 (f' := (62, 2, [(0, _), (1, _)], [_, _])) rfl ?_
  refine pm_Ev.jne rfl (by omega) rfl (fun h1 => ?_) (fun h1 => ?_)
  · refine pm_Ev.go 3 (f' := (62, 12, [(0, _), (1, _)], [_, _, _])) rfl ?_
    refine pm_Ev.cv rfl rfl rfl rfl (by decide) (Nat.le_of_ble_eq_true rfl) (Nat.le_of_ble_eq_true rfl) H.m188 H.o188 (ev_entryAt L xs H hl m0 (by omega)) ?_
    rw [he]
    refine pm_Ev.go 1 (f' := (62, 16, [(0, _), (1, _)], [_, _, _])) rfl ?_
    refine pm_Ev.cv rfl rfl rfl rfl (by decide) (Nat.le_of_ble_eq_true rfl) (Nat.le_of_ble_eq_true rfl) H.m188 H.o188 (ev_value L xs H hl m0 (by omega)) ?_
    exact pm_Ev.rv rfl rfl rfl
  · exact absurd h1 (by omega)
theorem ev_carT {b e t x : Int} (b0 : 0 ≤ b) (be : b < e) (e4 : e ≤ 400) (t0 : 0 ≤ t) (t4 : t ≤ 400) (ht : t < b ∨ t = b ∨ e ≤ t) (H : Hp σ ad z ar lr) (E : od_E A C z0 ar0 z ar) (l9 : (ar 189).1 = 400) (dp : od_dp C (hq_g ar 190) b e x) (hI : ∀ q, b ≤ q → q < e → 0 ≤ oI C q) : pm_Fv (tq_P L xs) (79, 42, [(4, .int (zI e)), (0, .ref 188), (1, .int (zI b)), (2, .int (zI t)), (3, .int (zI x))], []) σ (fun o s => o = .inl none ∧ ∃ ad' z' ar', Hp s ad' z' ar' lr ∧ od_E A C z0 ar0 z' ar' ∧ (∀ q, 0 ≤ q → q < 400 → hq_g ar' 190 (1 + q) = C (1 + od_ps b e t q)) ∧ hq_g ar' 190 0 = C 0 ∧ (∀ q, b ≤ q → q < e → hq_g ar' 190 (401 + oI C q * 16 + 2) = oV C (oI C q) 2 + x) ∧ (∀ i, 401 ≤ i → (∀ q, b ≤ q → q < e → i ≠ 401 + oI C q * 16 + 2) → hq_g ar' 190 i = C i) ∧ hq_rm σ ar lr s ar' lr) := by
  have m0 := E.h.m0
  obtain ⟨d1, d2, d3⟩ := dp
  by_cases tb : t < b
  · skip
    refine pm_Fv.go 2 (f' := (79, 44, [(4, _), (0, _), (1, _), (2, _), (3, _)], [_, _])) rfl ?_
    refine pm_Fv.jge rfl (by omega) rfl (fun h1 => ?_) (fun h1 => ?_)
    · exact absurd h1 (by omega)
    · refine pm_Fv.go 4 (f' := (79, 52, [(4, _), (0, _), (1, _), (2, _), (3, _)], [_, _, _, _])) rfl ?_
      refine pm_Fv.cvF rfl rfl rfl rfl (by decide) (Nat.le_of_ble_eq_true rfl) (Nat.le_of_ble_eq_true rfl) H.m188 H.o188 (ev_copyD L xs H E.h.le m0.1 l9 (a := b) (b := e) (k := 0) (by omega) (by omega) (by omega) (by omega) (by omega) (by omega)) (fun s1 q1 => ?_)
      obtain ⟨⟨ar1, H1, o1, n1, c1⟩, r1⟩ := q1
      refine pm_Fv.go 7 (f' := (79, 64, [(5, _), (4, _), (0, _), (1, _), (2, _), (3, _)], [_, _, _, _, _, _])) rfl ?_
      refine pm_Fv.cvF rfl rfl rfl rfl (by decide) (Nat.le_of_ble_eq_true rfl) (Nat.le_of_ble_eq_true rfl) H1.m188 H1.o188 (ev_copyD L xs H1 (E.dr o1 n1).h.le m0.1 (n1.trans l9) (a := t) (b := b) (k := 0 + ((e - b).toNat : Int)) (by omega) (by omega) (by omega) (by omega) (by omega) (by omega)) (fun s2 q2 => ?_)
      obtain ⟨⟨ar2, H2, o2, n2, c2⟩, r2⟩ := q2
      have E2 := (E.dr o1 n1).dr o2 n2
      refine pm_Fv.cvF rfl rfl rfl rfl (by decide) (Nat.le_of_ble_eq_true rfl) (Nat.le_of_ble_eq_true rfl) H2.m188 H2.o188 (ev_wD L xs H2 E2 (n2.trans (n1.trans l9)) (p := t) (k := 0 + ((e - b).toNat : Int) + ((b - t).toNat : Int)) (by omega) (by omega) (by omega) (fun i i0 i1 => by rw [hq_g_ne (o2 190 (by decide)), hq_g_ne (o1 190 (by decide))]; exact d1 i (by omega) (by omega))) (fun s3 q3 => ?_)
      obtain ⟨ad3, z3, ar3, H3, E3, g3, m3⟩ := q3
      have m9 : hq_rm σ ar lr s3 ar3 lr := hq_rm_tr (hq_rm_len r1 (fun r => by
        by_cases y : r = 189
        · rw [y, n1]
        · rw [o1 r y]) rfl) (hq_rm_tr (hq_rm_len r2 (fun r => by
        by_cases y : r = 189
        · rw [y, n2]
        · rw [o2 r y]) rfl) m3)
      have k9 : ∀ i, 401 ≤ i → hq_g ar3 190 i = hq_g ar 190 i := by
        intro i i0
        rw [g3 i (by omega), if_neg (by omega), hq_g_ne (o2 190 (by decide)), hq_g_ne (o1 190 (by decide))]
      refine pm_Fv.go 1 (f' := (79, 97, [(5, _), (4, _), (0, _), (1, _), (2, _), (3, _)], [])) rfl ?_
      refine pm_Fv.ret rfl rfl rfl rfl ⟨rfl, ⟨ad3, z3, ar3, H3, E3, fun q q0 q1 => ?_, ?_, fun q q0 q1 => ?_, fun i i0 hi => ?_, m9⟩⟩
      · unfold od_ps
        rw [if_pos tb, g3 _ (by omega)]
        by_cases y1 : t ≤ q ∧ q < t + (e - b)
        · rw [if_pos (by omega), if_pos y1, c2 _ (by omega), if_neg (by omega), c1 _ (by omega), if_pos (by omega)]
          unfold oI
          rw [show 1 + (b + (1 + q - 1 - t - 0)) = 1 + (b + (q - t)) by omega]
          exact d1 _ (by omega) (by omega)
        · rw [if_neg y1]
          by_cases y2 : t + (e - b) ≤ q ∧ q < e
          · rw [if_pos (by omega), if_pos y2, c2 _ (by omega), if_pos (by omega)]
            unfold oI
            rw [hq_g_ne (o1 190 (by decide)), show 1 + (t + (1 + q - 1 - t - (0 + ((e - b).toNat : Int)))) = 1 + (q - (e - b)) by omega]
            exact d1 _ (by omega) (by omega)
          · rw [if_neg (by omega), if_neg y2, hq_g_ne (o2 190 (by decide)), hq_g_ne (o1 190 (by decide))]
            exact d1 _ (by omega) (by omega)
      · rw [g3 0 (by omega), if_neg (by omega), hq_g_ne (o2 190 (by decide)), hq_g_ne (o1 190 (by decide))]
        exact d1 0 (by omega) (by omega)
      · have w := E.h
        by_cases y : 401 ≤ 401 + oI C q * 16 + 2
        · rw [k9 _ y]
          exact d2 q q0 q1
        · exact absurd (hI q q0 q1) (by omega)
      · rw [k9 i i0]
        exact d3 i i0 hi
  · skip
    refine pm_Fv.go 2 (f' := (79, 44, [(4, _), (0, _), (1, _), (2, _), (3, _)], [_, _])) rfl ?_
    refine pm_Fv.jge rfl (by omega) rfl (fun h1 => ?_) (fun h1 => ?_)
    · refine pm_Fv.go 4 (f' := (79, 78, [(4, _), (0, _), (1, _), (2, _), (3, _)], [_, _, _, _])) rfl ?_
      refine pm_Fv.cvF rfl rfl rfl rfl (by decide) (Nat.le_of_ble_eq_true rfl) (Nat.le_of_ble_eq_true rfl) H.m188 H.o188 (ev_copyD L xs H E.h.le m0.1 l9 (a := e) (b := t) (k := 0) (by omega) (by omega) (by omega) (by omega) (by omega) (by omega)) (fun s1 q1 => ?_)
      obtain ⟨⟨ar1, H1, o1, n1, c1⟩, r1⟩ := q1
      refine pm_Fv.go 7 (f' := (79, 91, [(5, _), (4, _), (0, _), (1, _), (2, _), (3, _)], [_, _, _, _, _, _])) rfl ?_
      refine pm_Fv.cvF rfl rfl rfl rfl (by decide) (Nat.le_of_ble_eq_true rfl) (Nat.le_of_ble_eq_true rfl) H1.m188 H1.o188 (ev_copyD L xs H1 (E.dr o1 n1).h.le m0.1 (n1.trans l9) (a := b) (b := e) (k := 0 + ((t - e).toNat : Int)) (by omega) (by omega) (by omega) (by omega) (by omega) (by omega)) (fun s2 q2 => ?_)
      obtain ⟨⟨ar2, H2, o2, n2, c2⟩, r2⟩ := q2
      have E2 := (E.dr o1 n1).dr o2 n2
      refine pm_Fv.cvF rfl rfl rfl rfl (by decide) (Nat.le_of_ble_eq_true rfl) (Nat.le_of_ble_eq_true rfl) H2.m188 H2.o188 (ev_wD L xs H2 E2 (n2.trans (n1.trans l9)) (p := b) (k := 0 + ((t - e).toNat : Int) + ((e - b).toNat : Int)) (by omega) (by omega) (by omega) (fun i i0 i1 => by rw [hq_g_ne (o2 190 (by decide)), hq_g_ne (o1 190 (by decide))]; exact d1 i (by omega) (by omega))) (fun s3 q3 => ?_)
      obtain ⟨ad3, z3, ar3, H3, E3, g3, m3⟩ := q3
      have m9 : hq_rm σ ar lr s3 ar3 lr := hq_rm_tr (hq_rm_len r1 (fun r => by
        by_cases y : r = 189
        · rw [y, n1]
        · rw [o1 r y]) rfl) (hq_rm_tr (hq_rm_len r2 (fun r => by
        by_cases y : r = 189
        · rw [y, n2]
        · rw [o2 r y]) rfl) m3)
      have k9 : ∀ i, 401 ≤ i → hq_g ar3 190 i = hq_g ar 190 i := by
        intro i i0
        rw [g3 i (by omega), if_neg (by omega), hq_g_ne (o2 190 (by decide)), hq_g_ne (o1 190 (by decide))]
      refine pm_Fv.ret rfl rfl rfl rfl ⟨rfl, ⟨ad3, z3, ar3, H3, E3, fun q q0 q1 => ?_, ?_, fun q q0 q1 => ?_, fun i i0 hi => ?_, m9⟩⟩
      · unfold od_ps
        rw [if_neg tb, g3 _ (by omega)]
        by_cases y1 : b ≤ q ∧ q < b + ((t - e).toNat : Int)
        · rw [if_pos (by omega), if_pos y1, c2 _ (by omega), if_neg (by omega), c1 _ (by omega), if_pos (by omega)]
          unfold oI
          rw [show 1 + (e + (1 + q - 1 - b - 0)) = 1 + (e + (q - b)) by omega]
          exact d1 _ (by omega) (by omega)
        · rw [if_neg y1]
          by_cases y2 : b + ((t - e).toNat : Int) ≤ q ∧ q < b + ((t - e).toNat : Int) + (e - b)
          · rw [if_pos (by omega), if_pos y2, c2 _ (by omega), if_pos (by omega)]
            unfold oI
            rw [hq_g_ne (o1 190 (by decide)), show 1 + (b + (1 + q - 1 - b - (0 + ((t - e).toNat : Int)))) = 1 + (q - ((t - e).toNat : Int)) by omega]
            exact d1 _ (by omega) (by omega)
          · rw [if_neg (by omega), if_neg y2, hq_g_ne (o2 190 (by decide)), hq_g_ne (o1 190 (by decide))]
            exact d1 _ (by omega) (by omega)
      · rw [g3 0 (by omega), if_neg (by omega), hq_g_ne (o2 190 (by decide)), hq_g_ne (o1 190 (by decide))]
        exact d1 0 (by omega) (by omega)
      · have w := E.h
        by_cases y : 401 ≤ 401 + oI C q * 16 + 2
        · rw [k9 _ y]
          exact d2 q q0 q1
        · exact absurd (hI q q0 q1) (by omega)
      · rw [k9 i i0]
        exact d3 i i0 hi
    · exact absurd h1 (by omega)
theorem ev_carS {b e t x m : Int} (N : od_N C m) (hm : m = z0 8) (b0 : 0 ≤ b) (be : b < e) (en : e ≤ C 0) (t0 : 0 ≤ t) (t4 : t ≤ 400) (ht : t < b ∨ t = b ∨ e ≤ t) (hx : -100 ≤ x ∧ x ≤ 100) : ∀ (k : Nat) (p : Int) (ad : Nat → Nat) (z : Nat → Int) (ar : Nat → Nat × (Nat → Int32)) (σ : pm_S), Hp σ ad z ar lr → od_E A C z0 ar0 z ar → (ar 189).1 = 400 → p + k = e → b ≤ p → od_dp C (hq_g ar 190) b p x → pm_Fv (tq_P L xs) (79, 10, [(5, .int (zI p)), (4, .int (zI e)), (0, .ref 188), (1, .int (zI b)), (2, .int (zI t)), (3, .int (zI x))], []) σ (fun o s => o = .inl none ∧ ∃ ad' z' ar', Hp s ad' z' ar' lr ∧ od_E A C z0 ar0 z' ar' ∧ (∀ q, 0 ≤ q → q < 400 → hq_g ar' 190 (1 + q) = C (1 + od_ps b e t q)) ∧ hq_g ar' 190 0 = C 0 ∧ (∀ q, b ≤ q → q < e → hq_g ar' 190 (401 + oI C q * 16 + 2) = oV C (oI C q) 2 + x) ∧ (∀ i, 401 ≤ i → (∀ q, b ≤ q → q < e → i ≠ 401 + oI C q * 16 + 2) → hq_g ar' 190 i = C i) ∧ hq_rm σ ar lr s ar' lr) := by
  intro k
  have nm := N.nm
  have m4 := N.m4
  induction k with
  | zero =>
    intro p ad z ar σ H E l9 pk bp dp
    have e1 : p = e := by omega
    subst e1
    refine pm_Fv.go 2 (f' := (79, 14, [(5, _), (4, _), (0, _), (1, _), (2, _), (3, _)], [_, _])) rfl ?_
    refine pm_Fv.jge rfl (by omega) rfl (fun h1 => ?_) (fun h1 => ?_)
    · exact pm_Fv.weak (ev_carT L xs b0 be (by omega) t0 t4 ht H E l9 dp (fun q q0 q1 => N.J.1 q (by omega) (by omega))) rfl
    · exact absurd h1 (by omega)
  | succ k ih =>
    intro p ad z ar σ H E l9 pk bp dp
    have m0 := E.h.m0
    have mz := E.m
    have i0 := N.J.1 p (by omega) (by omega)
    have i1 := N.lt p (by omega) (by omega)
    have dr := N.dr (p := p) (by omega) (by omega)
    have dv : oD C p = oV C (oI C p) 2 := if_neg (by omega)
    obtain ⟨d1, d2, d3⟩ := dp
    have ei : oI (hq_g ar 190) p = oI C p := d1 (1 + p) (by omega) (by omega)
    have ea := ev_entryAt L xs H E.h.le m0.1 (p := p) (by omega)
    rw [ei] at ea
    have ne : ∀ q, b ≤ q → q < p → 401 + oI C p * 16 + 2 ≠ 401 + oI C q * 16 + 2 := fun q q0 q1 y => by
      have := N.J.2 p q (by omega) (by omega) (by omega) (by omega) (by omega)
      omega
    have cv : hq_g ar 190 (401 + oI C p * 16 + 2) = C (401 + oI C p * 16 + 2) := d3 _ (by omega) ne
    have da := ev_depR L xs H E.h.le m0.1 (p := p) (by omega) (by omega) ei (by omega)
    have da2 : oV (hq_g ar 190) (oI C p) 2 = oV C (oI C p) 2 := cv
    rw [da2] at da
    refine pm_Fv.go 2 (f' := (79, 14, [(5, _), (4, _), (0, _), (1, _), (2, _), (3, _)], [_, _])) rfl ?_
    refine pm_Fv.jge rfl (by omega) rfl (fun h1 => ?_) (fun h1 => ?_)
    · exact absurd h1 (by omega)
    · refine pm_Fv.go 3 (f' := (79, 21, [(5, _), (4, _), (0, _), (1, _), (2, _), (3, _)], [_, _, _])) rfl ?_
      refine pm_Fv.cv rfl rfl rfl rfl (by decide) (Nat.le_of_ble_eq_true rfl) (Nat.le_of_ble_eq_true rfl) H.m188 H.o188 (ea) ?_
      refine pm_Fv.go 3 (f' := (79, 28, [(5, _), (4, _), (0, _), (1, _), (2, _), (3, _)], [_, _, _, _, _])) rfl ?_
      refine pm_Fv.cv rfl rfl rfl rfl (by decide) (Nat.le_of_ble_eq_true rfl) (Nat.le_of_ble_eq_true rfl) H.m188 H.o188 (da) ?_
      refine pm_Fv.go 1 (f' := (79, 32, [(5, _), (4, _), (0, _), (1, _), (2, _), (3, _)], [_, _, _, _, _])) rfl ?_
      refine pm_Fv.iadd rfl ?_
      refine pm_Fv.cvF rfl rfl rfl rfl (by decide) (Nat.le_of_ble_eq_true rfl) (Nat.le_of_ble_eq_true rfl) H.m188 H.o188 (ev_setE L xs H E (by omega) (by omega) cv) (fun s1 q1 => ?_)
      obtain ⟨ad1, z1, ar1, H1, E1, g1, d9, m1⟩ := q1
      refine pm_Fv.inc rfl rfl (Nat.le_of_ble_eq_true rfl) ?_
      refine pm_Fv.go 1 (f' := (79, 10, [(5, _), (4, _), (0, _), (1, _), (2, _), (3, _)], [])) rfl ?_
      have kq := ih (p + 1) ad1 z1 ar1 s1 H1 E1 (E1.l9.trans (E.l9.symm.trans l9)) (by omega) (by omega) ⟨fun i y0 y1 => ?_, fun q q0 q1 => ?_, fun i y0 hi => ?_⟩
      · refine pm_Fv.weak (kq.mono (fun o s q => ⟨q.1, ?_⟩)) rfl
        obtain ⟨ad', z', ar', H', E', c1, c2, c3, c4, m'⟩ := q.2
        exact ⟨ad', z', ar', H', E', c1, c2, c3, c4, hq_rm_tr m1 m'⟩
      · rw [g1 i y0, if_neg (by omega)]
        exact d1 i y0 y1
      · have iq := N.J.1 q (by omega) (by omega)
        rw [g1 _ (by omega)]
        by_cases y : q = p
        · rw [if_pos (by rw [y]), y]
        · rw [if_neg (fun w => ne q q0 (by omega) w.symm)]
          exact d2 q q0 (by omega)
      · rw [g1 i (by omega), if_neg (hi p (by omega) (by omega))]
        exact d3 i y0 (fun q q0 q1 => hi q q0 (by omega))
theorem ev_carry (H : Hp σ ad z ar lr) (E : od_E A (hq_g ar 190) z0 ar0 z ar) (N : od_N (hq_g ar 190) (z 8)) (l9 : (ar 189).1 = 400) {b e t x : Int} (b0 : 0 ≤ b) (b1 : b < hq_g ar 190 0) (he : fo_end (oD (hq_g ar 190)) (hq_g ar 190 0) b = e) (t0 : 0 ≤ t) (t4 : t ≤ 400) (ht : t < b ∨ t = b ∨ e ≤ t) (hx : -100 ≤ x ∧ x ≤ 100) : pm_Fv (tq_P L xs) (pm_enter 79 [.ref 188, .int (zI b), .int (zI t), .int (zI x)]) σ (fun o s => o = .inl none ∧ ∃ ad' z' ar', Hp s ad' z' ar' lr ∧ od_E A (hq_g ar 190) z0 ar0 z' ar' ∧ (∀ q, 0 ≤ q → q < 400 → hq_g ar' 190 (1 + q) = hq_g ar 190 (1 + od_ps b e t q)) ∧ hq_g ar' 190 0 = hq_g ar 190 0 ∧ (∀ q, b ≤ q → q < e → hq_g ar' 190 (401 + oI (hq_g ar 190) q * 16 + 2) = oV (hq_g ar 190) (oI (hq_g ar 190) q) 2 + x) ∧ (∀ i, 401 ≤ i → (∀ q, b ≤ q → q < e → i ≠ 401 + oI (hq_g ar 190) q * 16 + 2) → hq_g ar' 190 i = hq_g ar 190 i) ∧ hq_rm σ ar lr s ar' lr) := by
  show pm_Fv (tq_P L xs) (79, 0, [(0, .ref 188), (1, .int (zI b)), (2, .int (zI t)), (3, .int (zI x))], []) σ _
  have B := fo_end_B (D := oD (hq_g ar 190)) (n := hq_g ar 190 0) b1
  rw [he] at B
  refine pm_Fv.go 2 (f' := (79, 2, [(0, _), (1, _), (2, _), (3, _)], [_, _])) rfl ?_
  refine pm_Fv.cv rfl rfl rfl rfl (by decide) (Nat.le_of_ble_eq_true rfl) (Nat.le_of_ble_eq_true rfl) H.m188 H.o188 (ev_branchEnd L xs H E.h.le N (by omega) (by omega)) ?_
  rw [he]
  refine pm_Fv.go 3 (f' := (79, 10, [(5, _), (4, _), (0, _), (1, _), (2, _), (3, _)], [])) rfl ?_
  exact ev_carS L xs N E.m b0 B.1 B.2.1 t0 t4 ht hx (e - b).toNat b ad z ar σ H E l9 (by have := B.1; omega) (by omega) ⟨fun _ _ _ => rfl, fun q q0 q1 => absurd q1 (by omega), fun _ _ _ => rfl⟩
end MS
