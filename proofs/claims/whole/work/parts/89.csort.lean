/-! the desk: keys in order; branches in a new order; findings -/
def gp_ok (g : Int) : Prop := g = 1 ∨ g = 4 ∨ g = 13 ∨ g = 40 ∨ g = 121 ∨ g = 364
section MS
variable (L : Nat) (xs : Nat → Int32)
variable {σ : pm_S} {ad : Nat → Nat} {z : Nat → Int} {ar : Nat → Nat × (Nat → Int32)} {lr : Nat → Nat × (Nat → Int64)}
theorem ev_wideL (H : Hp σ ad z ar lr) (h : 0 ≤ z 10 ∧ z 10 ≤ 800) : ∀ (k : Nat) (g : Int), ((k = 5 ∧ g = 1) ∨ (k = 4 ∧ g = 4) ∨ (k = 3 ∧ g = 13) ∨ (k = 2 ∧ g = 40) ∨ (k = 1 ∧ g = 121) ∨ (k = 0 ∧ g = 364)) → ∃ r, gp_ok r ∧ pm_Ev (tq_P L xs) (90, 2, [(1, .int (zI g)), (0, .ref 196)], []) σ (.inl (some (.int (zI r))), σ) := by
  intro k
  induction k with
  | zero =>
    intro g hk
    refine ⟨g, by unfold gp_ok; omega, ?_⟩
    refine pm_Ev.go 2 (f' := (90, 4, [(1, _), (0, _)], [_, _])) rfl ?_
    refine pm_Ev.gf rfl rfl H.m196 H.o196 rfl ?_
    refine pm_Ev.go 1 (f' := (90, 8, [(1, _), (0, _)], [_, _, _])) rfl ?_
    refine pm_Ev.idiv rfl (by omega) ?_
    refine pm_Ev.jge rfl (by omega) rfl (fun h1 => ?_) (fun h1 => ?_)
    · refine pm_Ev.go 1 (f' := (90, 22, [(1, _), (0, _)], [_])) rfl ?_
      exact pm_Ev.rv rfl rfl rfl
    · exact absurd h1 (by omega)
  | succ k ih =>
    intro g hk
    by_cases c : g < z 10 / 3
    · obtain ⟨r, hr, e⟩ := ih (g * 3 + 1) (by omega)
      refine ⟨r, hr, ?_⟩
      refine pm_Ev.go 2 (f' := (90, 4, [(1, _), (0, _)], [_, _])) rfl ?_
      refine pm_Ev.gf rfl rfl H.m196 H.o196 rfl ?_
      refine pm_Ev.go 1 (f' := (90, 8, [(1, _), (0, _)], [_, _, _])) rfl ?_
      refine pm_Ev.idiv rfl (by omega) ?_
      refine pm_Ev.jge rfl (by omega) rfl (fun h1 => ?_) (fun h1 => ?_)
      · exact absurd h1 (by omega)
      · refine pm_Ev.go 2 (f' := (90, 14, [(1, _), (0, _)], [_, _])) rfl ?_
        refine pm_Ev.imul rfl ?_
        refine pm_Ev.go 1 (f' := (90, 16, [(1, _), (0, _)], [_, _])) rfl ?_
        refine pm_Ev.iadd rfl ?_
        refine pm_Ev.go 2 (f' := (90, 2, [(1, _), (0, _)], [])) rfl ?_
        exact pm_Ev.weak e rfl
    · refine ⟨g, by unfold gp_ok; omega, ?_⟩
      refine pm_Ev.go 2 (f' := (90, 4, [(1, _), (0, _)], [_, _])) rfl ?_
      refine pm_Ev.gf rfl rfl H.m196 H.o196 rfl ?_
      refine pm_Ev.go 1 (f' := (90, 8, [(1, _), (0, _)], [_, _, _])) rfl ?_
      refine pm_Ev.idiv rfl (by omega) ?_
      refine pm_Ev.jge rfl (by omega) rfl (fun h1 => ?_) (fun h1 => ?_)
      · refine pm_Ev.go 1 (f' := (90, 22, [(1, _), (0, _)], [_])) rfl ?_
        exact pm_Ev.rv rfl rfl rfl
      · exact absurd h1 (by omega)
theorem ev_wide (H : Hp σ ad z ar lr) (h : 0 ≤ z 10 ∧ z 10 ≤ 800) : ∃ r, gp_ok r ∧ pm_Ev (tq_P L xs) (pm_enter 90 [.ref 196]) σ (.inl (some (.int (zI r))), σ) := by
  obtain ⟨r, hr, e⟩ := ev_wideL L xs H h 5 1 (by omega)
  refine ⟨r, hr, ?_⟩
  show pm_Ev (tq_P L xs) (90, 0, [(0, .ref 196)], []) σ _
  refine pm_Ev.go 2 (f' := (90, 2, [(1, _), (0, _)], [])) rfl ?_
  exact e
theorem ev_passL {g : Int} {G : Int → Int} (hg : gp_ok g) (h : 0 ≤ z 10 ∧ z 10 ≤ 800) {Q : pm_O → pm_S → Prop} {l1 : Nat × (Nat → Int64)} {ll : Nat} (hl : z 10 ≤ (ll : Int) ∧ ll ≤ 1600) (kk : ∀ s lr', Hp s ad z ar lr' → lr' 1 = l1 → (lr' 0).1 = ll → so_P (z 10) G (lq_g lr') → (g = 1 → (∀ a b, 0 ≤ a → a < b → b < z 10 → lq_g lr' a < lq_g lr' b)) → s.2 = σ.2 → pm_Fv (tq_P L xs) (89, 31, [(1, .int (zI g)), (0, .ref 196)], []) s Q) : ∀ (k : Nat) (i : Int) (lr : Nat → Nat × (Nat → Int64)) (s : pm_S), i + k = z 10 ∨ (z 10 ≤ i ∧ k = 0) → 0 < i → i ≤ 1000 → Hp s ad z ar lr → lr 1 = l1 → (lr 0).1 = ll → so_P (z 10) G (lq_g lr) → (g = 1 → (∀ a b, 0 ≤ a → a < b → b < i → lq_g lr a < lq_g lr b)) → (g = 1 → i = 1 ∨ i ≤ z 10) → s.2 = σ.2 → pm_Fv (tq_P L xs) (89, 11, [(2, .int (zI i)), (1, .int (zI g)), (0, .ref 196)], []) s Q := by
  intro k
  induction k with
  | zero =>
    intro i lr s ik i0 i9 H e1 el P S si r0
    refine pm_Fv.go 2 (f' := (89, 13, [(2, _), (1, _), (0, _)], [_, _])) rfl ?_
    refine pm_Fv.gf rfl rfl H.m196 H.o196 rfl ?_
    refine pm_Fv.jge rfl (by omega) rfl (fun h1 => ?_) (fun h1 => ?_)
    · refine pm_Fv.weak (kk s lr H e1 el P (fun g1 a b a0 ab bz => ?_) r0) rfl
      exact S g1 a b a0 ab (by omega)
    · exact absurd h1 (by omega)
  | succ k ih =>
    intro i lr s ik i0 i9 H e1 el P S si r0
    have gp := hg
    unfold gp_ok at gp
    refine pm_Fv.go 2 (f' := (89, 13, [(2, _), (1, _), (0, _)], [_, _])) rfl ?_
    refine pm_Fv.gf rfl rfl H.m196 H.o196 rfl ?_
    refine pm_Fv.jge rfl (by omega) rfl (fun h1 => ?_) (fun h1 => ?_)
    · exact absurd h1 (by omega)
    · refine pm_Fv.go 3 (f' := (89, 22, [(2, _), (1, _), (0, _)], [_, _, _])) rfl ?_
      refine pm_Fv.cvF rfl rfl rfl rfl (by decide) (Nat.le_of_ble_eq_true rfl) (Nat.le_of_ble_eq_true rfl) H.m196 H.o196 (ev_sink L xs H (by omega) (by omega) (by omega) (by omega) (by omega) (by omega) P) (fun s1 q1 => ?_)
      obtain ⟨⟨lr1, p, H1, e2, l2, P2, p0, p1, K2⟩, r1⟩ := q1
      refine pm_Fv.inc rfl rfl (Nat.le_of_ble_eq_true rfl) ?_
      refine pm_Fv.go 1 (f' := (89, 11, [(2, _), (1, _), (0, _)], [])) rfl ?_
      refine pm_Fv.weak (ih (i + 1) lr1 s1 (by omega) (by omega) (by omega) H1 (e2.trans e1) (l2.trans el) P2 (fun g1 a b a0 ab bi => ?_) (fun _ => Or.inr (by omega)) (r1.trans r0)) rfl
      obtain ⟨k1, k2, k3⟩ := K2 g1
      have S1 := S g1
      rw [k1 a a0 (by omega), k1 b (by omega) (by omega)]
      have lt : ∀ x, 0 ≤ x → x < p → lq_g lr x < lq_g lr i := by
        intro x x0 x1
        have le : lq_g lr x ≤ lq_g lr i := by
          rcases k3 with k3 | k3
          · omega
          · by_cases y : x = p - 1
            · rw [y]
              exact k3
            · have := S1 x (p - 1) x0 (by omega) (by omega)
              omega
        have ne : lq_g lr x ≠ lq_g lr i := fun y => by
          have := P.2.2 x i x0 (by omega) (by omega) (by omega) y
          omega
        omega
      by_cases y1 : a < p
      · rw [so_in_lt y1]
        by_cases y2 : b < p
        · rw [so_in_lt y2]
          exact S1 a b a0 ab (by omega)
        · by_cases y3 : b = p
          · rw [y3, so_in_at]
            exact lt a a0 y1
          · rw [so_in_gt (by omega) (by omega)]
            have := k2 (b - 1) (by omega) (by omega)
            have := lt a a0 y1
            omega
      · by_cases y4 : a = p
        · rw [y4, so_in_at, so_in_gt (by omega) (by omega)]
          exact k2 (b - 1) (by omega) (by omega)
        · rw [so_in_gt (by omega) (by omega), so_in_gt (by omega) (by omega)]
          exact S1 (a - 1) (b - 1) (by omega) (by omega) (by omega)
theorem ev_orderL {G : Int → Int} (h : 0 ≤ z 10 ∧ z 10 ≤ 800) {l1 : Nat × (Nat → Int64)} {ll : Nat} (hl : z 10 ≤ (ll : Int) ∧ ll ≤ 1600) : ∀ (k : Nat) (g : Int) (lr : Nat → Nat × (Nat → Int64)) (σ : pm_S), g ≤ k → (gp_ok g ∨ (g = 0 ∧ (∀ a b, 0 ≤ a → a < b → b < z 10 → lq_g lr a < lq_g lr b))) → Hp σ ad z ar lr → lr 1 = l1 → (lr 0).1 = ll → so_P (z 10) G (lq_g lr) → pm_Fv (tq_P L xs) (89, 5, [(1, .int (zI g)), (0, .ref 196)], []) σ (fun o s => o = .inl none ∧ (∃ lr', Hp s ad z ar lr' ∧ lr' 1 = l1 ∧ (lr' 0).1 = ll ∧ so_S (z 10) G (lq_g lr')) ∧ s.2 = σ.2) := by
  intro k
  have fin : ∀ (g : Int) (lr : Nat → Nat × (Nat → Int64)) (σ : pm_S), g = 0 → (∀ a b, 0 ≤ a → a < b → b < z 10 → lq_g lr a < lq_g lr b) → Hp σ ad z ar lr → lr 1 = l1 → (lr 0).1 = ll → so_P (z 10) G (lq_g lr) → pm_Fv (tq_P L xs) (89, 5, [(1, .int (zI g)), (0, .ref 196)], []) σ (fun o s => o = .inl none ∧ (∃ lr', Hp s ad z ar lr' ∧ lr' 1 = l1 ∧ (lr' 0).1 = ll ∧ so_S (z 10) G (lq_g lr')) ∧ s.2 = σ.2) := by
    intro g lr σ g0 S H e1 el P
    refine pm_Fv.go 1 (f' := (89, 6, [(1, _), (0, _)], [_])) rfl ?_
    refine pm_Fv.zle rfl (by omega) rfl (fun h1 => ?_) (fun h1 => ?_)
    · exact pm_Fv.ret rfl rfl rfl rfl ⟨rfl, ⟨lr, H, e1, el, S, P.1, P.2.1⟩, rfl⟩
    · exact absurd h1 (by omega)
  induction k with
  | zero =>
    intro g lr σ gk hg H e1 el P
    rcases hg with hg | hg
    · unfold gp_ok at hg
      omega
    · exact fin g lr σ hg.1 hg.2 H e1 el P
  | succ k ih =>
    intro g lr σ gk hg H e1 el P
    rcases hg with hg | hg
    · have gp := hg
      unfold gp_ok at gp
      refine pm_Fv.go 1 (f' := (89, 6, [(1, _), (0, _)], [_])) rfl ?_
      refine pm_Fv.zle rfl (by omega) rfl (fun h1 => ?_) (fun h1 => ?_)
      · exact absurd h1 (by omega)
      · refine pm_Fv.go 2 (f' := (89, 11, [(2, _), (1, _), (0, _)], [])) rfl ?_
        refine ev_passL (σ := σ) L xs hg h hl (fun s lr' H' e1' el' P' S' rs => ?_) (z 10 - g).toNat g lr σ (by omega) (by omega) (by omega) H e1 el P (fun g1 a b a0 ab bi => absurd bi (by omega)) (fun g1 => Or.inl g1) rfl
        refine pm_Fv.go 2 (f' := (89, 33, [(1, _), (0, _)], [_, _])) rfl ?_
        refine pm_Fv.idiv rfl (by omega) ?_
        refine pm_Fv.go 2 (f' := (89, 5, [(1, _), (0, _)], [])) rfl ?_
        refine pm_Fv.weak ((ih (g / 3) lr' s (by omega) ?_ H' e1' el' P').mono (fun o t q => ⟨q.1, q.2.1, q.2.2.trans rs⟩)) rfl
        by_cases g1 : g = 1
        · exact Or.inr ⟨by omega, S' g1⟩
        · refine Or.inl ?_
          unfold gp_ok
          omega
    · exact fin g lr σ hg.1 hg.2 H e1 el P
theorem ev_order (H : Hp σ ad z ar lr) (h : 0 ≤ z 10 ∧ z 10 ≤ 800) (hl : z 10 ≤ ((lr 0).1 : Int) ∧ (lr 0).1 ≤ 1600) (inj : ∀ i j, 0 ≤ i → i < z 10 → 0 ≤ j → j < z 10 → lq_g lr i = lq_g lr j → i = j) : pm_Fv (tq_P L xs) (pm_enter 89 [.ref 196]) σ (fun o s => o = .inl none ∧ (∃ lr', Hp s ad z ar lr' ∧ lr' 1 = lr 1 ∧ (lr' 0).1 = (lr 0).1 ∧ so_S (z 10) (lq_g lr) (lq_g lr')) ∧ s.2 = σ.2) := by
  show pm_Fv (tq_P L xs) (89, 0, [(0, .ref 196)], []) σ _
  obtain ⟨r, hr, e⟩ := ev_wide L xs H h
  refine pm_Fv.go 1 (f' := (89, 1, [(0, _)], [_])) rfl ?_
  refine pm_Fv.cv rfl rfl rfl rfl (by decide) (Nat.le_of_ble_eq_true rfl) (Nat.le_of_ble_eq_true rfl) H.m196 H.o196 (e) ?_
  refine pm_Fv.go 1 (f' := (89, 5, [(1, _), (0, _)], [])) rfl ?_
  exact ev_orderL L xs h hl r.toNat r lr σ (by omega) (Or.inl hr) H rfl rfl ⟨fun i i0 i1 => ⟨i, i0, i1, rfl⟩, fun j j0 j1 => ⟨j, j0, j1, rfl⟩, inj⟩
theorem ev_arrCL (hz : 0 ≤ z 10 ∧ z 10 ≤ 400) (lk : z 10 ≤ ((lr 0).1 : Int) ∧ (lr 0).1 ≤ 1600) (hl : od_L z ar) (N : od_N (hq_g ar 190) (z 8)) {r e : Int} {bs S : Int → Int} (hk : ∀ i, 0 ≤ i → i < z 10 → 0 ≤ lq_g lr i ∧ lq_g lr i % 400 = bs i) (r0 : -1 ≤ r) (S0 : S 0 = r + 1) (Se : S (z 10) = e) (e4 : e ≤ 400) (St : ∀ i, 0 ≤ i → i < z 10 → 0 ≤ bs i ∧ bs i < (hq_g ar 190 0) ∧ S (i + 1) = S i + (fo_end (oD (hq_g ar 190)) (hq_g ar 190 0) (bs i) - bs i) ∧ r + 1 ≤ S i ∧ S (i + 1) ≤ e) {Q : pm_O → pm_S → Prop} (kk : ∀ s ar', Hp s ad z ar' lr → (∀ x, x ≠ 189 → ar' x = ar x) → (ar' 189).1 = (ar 189).1 → (∀ i y, 0 ≤ i → i < z 10 → 0 ≤ y → y < fo_end (oD (hq_g ar 190)) (hq_g ar 190 0) (bs i) - bs i → hq_g ar' 189 (S i - (r + 1) + y) = oI (hq_g ar 190) (bs i + y)) → s.2 = σ.2 → pm_Fv (tq_P L xs) (80, 48, [(3, .int (zI (e - (r + 1)))), (0, .ref 188), (1, .int (zI r)), (2, .ref 196)], []) s Q) : ∀ (k : Nat) (i : Int) (ar' : Nat → Nat × (Nat → Int32)) (s : pm_S), i + k = z 10 → 0 ≤ i → Hp s ad z ar' lr → (∀ x, x ≠ 189 → ar' x = ar x) → (ar' 189).1 = (ar 189).1 → (ar 189).1 = 400 → (∀ j y, 0 ≤ j → j < i → 0 ≤ y → y < fo_end (oD (hq_g ar 190)) (hq_g ar 190 0) (bs j) - bs j → hq_g ar' 189 (S j - (r + 1) + y) = oI (hq_g ar 190) (bs j + y)) → (∀ j, 0 ≤ j → j < i → S (j + 1) ≤ S i) → s.2 = σ.2 → pm_Fv (tq_P L xs) (80, 5, [(4, .int (zI i)), (3, .int (zI (S i - (r + 1)))), (0, .ref 188), (1, .int (zI r)), (2, .ref 196)], []) s Q := by
  intro k
  have nm := N.nm
  have m4 := N.m4
  induction k with
  | zero =>
    intro i ar' s ik i0 H ho h9 l9 hd hm rs
    have e1 : i = z 10 := by omega
    subst e1
    rw [Se]
    refine pm_Fv.go 2 (f' := (80, 8, [(4, _), (3, _), (0, _), (1, _), (2, _)], [_, _])) rfl ?_
    refine pm_Fv.gf rfl rfl H.m196 H.o196 rfl ?_
    refine pm_Fv.jge rfl (by omega) rfl (fun h1 => ?_) (fun h1 => ?_)
    · exact pm_Fv.weak (kk s ar' H ho h9 hd rs) rfl
    · exact absurd h1 (by omega)
  | succ k ih =>
    intro i ar' s ik i0 H ho h9 l9 hd hm rs
    have ki := hk i i0 (by omega)
    have kr := lq_g_r lr i
    have st := St i i0 (by omega)
    have B := fo_end_B (D := (oD (hq_g ar 190))) (n := (hq_g ar 190 0)) (p := bs i) st.2.1
    have g190 : hq_g ar' 190 = hq_g ar 190 := funext fun x => hq_g_ne (ho 190 (by decide)) x
    have hl' : od_L z ar' := by
      unfold od_L
      rw [ho 190 (by decide)]
      exact hl
    have N' : od_N (hq_g ar' 190) (z 8) := by rw [g190]; exact N
    have be := ev_branchEnd L xs H hl' N' (b := bs i) (by omega) (by rw [g190]; exact Or.inl st.2.1)
    rw [g190] at be
    have b1 := B.1
    have b2 := B.2.1
    refine pm_Fv.go 2 (f' := (80, 8, [(4, _), (3, _), (0, _), (1, _), (2, _)], [_, _])) rfl ?_
    refine pm_Fv.gf rfl rfl H.m196 H.o196 rfl ?_
    refine pm_Fv.jge rfl (by omega) rfl (fun h1 => ?_) (fun h1 => ?_)
    · exact absurd h1 (by omega)
    · refine pm_Fv.go 1 (f' := (80, 15, [(4, _), (3, _), (0, _), (1, _), (2, _)], [_])) rfl ?_
      refine pm_Fv.gf rfl rfl H.m196 H.o196 rfl ?_
      refine pm_Fv.go 1 (f' := (80, 20, [(4, _), (3, _), (0, _), (1, _), (2, _)], [_, _])) rfl ?_
      refine pm_Fv.dla H rfl (by omega) ?_
      refine pm_Fv.cc2 (400) rfl rfl rfl ?_
      refine pm_Fv.lrem rfl (by omega) ?_
      rw [ki.2]
      refine pm_Fv.l2i rfl ?_
      refine pm_Fv.go 5 (f' := (80, 34, [(5, _), (4, _), (3, _), (0, _), (1, _), (2, _)], [_, _, _, _])) rfl ?_
      refine pm_Fv.cv rfl rfl rfl rfl (by decide) (Nat.le_of_ble_eq_true rfl) (Nat.le_of_ble_eq_true rfl) H.m188 H.o188 (be) ?_
      refine pm_Fv.go 1 (f' := (80, 38, [(5, _), (4, _), (3, _), (0, _), (1, _), (2, _)], [_, _, _, _])) rfl ?_
      refine pm_Fv.cvF rfl rfl rfl rfl (by decide) (Nat.le_of_ble_eq_true rfl) (Nat.le_of_ble_eq_true rfl) H.m188 H.o188 (ev_copyD L xs H hl' N.m0 (h9.trans l9) (a := bs i) (b := fo_end (oD (hq_g ar 190)) (hq_g ar 190 0) (bs i)) (k := S i - (r + 1)) (by omega) (by omega) (by omega) (by omega) (by omega) (by omega)) (fun s1 q1 => ?_)
      obtain ⟨⟨ar1, H1, o1, n1, c1⟩, r1⟩ := q1
      refine pm_Fv.go 1 (f' := (80, 42, [(3, _), (5, _), (4, _), (0, _), (1, _), (2, _)], [])) rfl ?_
      refine pm_Fv.inc rfl rfl (Nat.le_of_ble_eq_true rfl) ?_
      refine pm_Fv.go 1 (f' := (80, 5, [(4, _), (3, _), (5, _), (0, _), (1, _), (2, _)], [])) rfl ?_
      have sz : S i - (r + 1) + (((fo_end (oD (hq_g ar 190)) (hq_g ar 190 0) (bs i) - bs i).toNat : Nat) : Int) = S (i + 1) - (r + 1) := by omega
      rw [sz]
      refine pm_Fv.weak (ih (i + 1) ar1 s1 (by omega) (by omega) H1 (fun x hx => (o1 x hx).trans (ho x hx)) (n1.trans h9) l9 (fun j y j0 j1 y0 y1 => ?_) (fun j j0 j1 => ?_) (r1.trans rs)) rfl
      · have stj := St j j0 (by omega)
        rw [c1 _ (by omega), g190]
        by_cases x : j = i
        · rw [x] at y1 ⊢
          rw [if_pos (by omega), show bs i + (S i - (r + 1) + y - (S i - (r + 1))) = bs i + y by omega]
        · have := hm j j0 (by omega)
          rw [if_neg (by omega)]
          exact hd j y j0 (by omega) y0 y1
      · by_cases x : j = i
        · rw [x]
          omega
        · have := hm j j0 (by omega)
          omega
end MS
