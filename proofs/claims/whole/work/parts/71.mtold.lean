/-! the reference: all tags, what is seen, sums, told, about -/
theorem zor_assoc (a b c : Int) : zor (zor a b) c = zor a (zor b c) := by
  unfold zor
  rw [zI_x, zI_x, Int32.or_assoc]
theorem zor_comm (a b : Int) : zor a b = zor b a := by
  unfold zor
  rw [Int32.or_comm]
theorem zor_0 {a : Int} (h : -2147483648 ≤ a ∧ a ≤ 2147483647) : zor 0 a = a := by
  unfold zor
  rw [show zI 0 = 0 from rfl, Int32.zero_or]
  exact zI_ti h.1 h.2
def fo_tg (T D : Int → Int) : Nat → Int → Int
  | 0, _ => 0
  | k + 1, x => if x < 0 then 0 else zor (fo_tg T D k (fo_par D x)) (T x)
def fo_tgs (T D : Int → Int) (x : Int) : Int := fo_tg T D (x + 1).toNat x
def fo_sn (F D : Int → Int) : Nat → Int → Int
  | 0, _ => 1
  | k + 1, x => if fo_par D x < 0 then 1 else if F (fo_par D x) = 1 then 0 else fo_sn F D k (fo_par D x)
def fo_sns (F D : Int → Int) (x : Int) : Int := fo_sn F D (x + 1).toNat x
theorem fo_tg_r (T D : Int → Int) : ∀ (k : Nat) (x : Int), -2147483648 ≤ fo_tg T D k x ∧ fo_tg T D k x ≤ 2147483647
  | 0, _ => by rw [fo_tg]; omega
  | k + 1, x => by
    rw [fo_tg]
    split
    · omega
    · exact zor_r _ _
theorem fo_tgs_r (T D : Int → Int) (x : Int) : -2147483648 ≤ fo_tgs T D x ∧ fo_tgs T D x ≤ 2147483647 := fo_tg_r _ _ _ _
theorem fo_tg_k {T D : Int → Int} {n : Int} (W : fo_W D n) : ∀ (k j : Nat) (x : Int), x < k → x < j → x < n → fo_tg T D k x = fo_tg T D j x
  | 0, 0, x, _, _, _ => rfl
  | 0, j + 1, x, h, _, _ => by rw [fo_tg, fo_tg, if_pos (by omega)]
  | k + 1, 0, x, _, h, _ => by rw [fo_tg, fo_tg, if_pos (by omega)]
  | k + 1, j + 1, x, h1, h2, h3 => by
    rw [fo_tg, fo_tg]
    by_cases c : x < 0
    · rw [if_pos c, if_pos c]
    · rw [if_neg c, if_neg c]
      have P := (fo_par_P W (by omega) h3).2.1
      rw [fo_tg_k W k j (fo_par D x) (by omega) (by omega) (by omega)]
theorem fo_tgs_neg {T D : Int → Int} {x : Int} (h : x < 0) : fo_tgs T D x = 0 := by
  unfold fo_tgs
  cases (x + 1).toNat with
  | zero => rfl
  | succ k => rw [fo_tg, if_pos h]
theorem fo_tgs_s {T D : Int → Int} {n x : Int} (W : fo_W D n) (h0 : 0 ≤ x) (h1 : x < n) : fo_tgs T D x = zor (fo_tgs T D (fo_par D x)) (T x) := by
  have P := fo_par_P W h0 h1
  unfold fo_tgs
  rw [show (x + 1).toNat = x.toNat + 1 by omega, fo_tg, if_neg (by omega), fo_tg_k W x.toNat (fo_par D x + 1).toNat (fo_par D x) (by have := P.2.1; omega) (by have := P.1; omega) (by have := P.2.1; omega)]
theorem fo_sn_k {F D : Int → Int} {n : Int} (W : fo_W D n) : ∀ (k j : Nat) (x : Int), 0 ≤ x → x < k → x < j → x < n → fo_sn F D k x = fo_sn F D j x
  | 0, j, x, h0, h, _, _ => absurd h (by omega)
  | k + 1, 0, x, h0, _, h, _ => absurd h (by omega)
  | k + 1, j + 1, x, h0, h1, h2, h3 => by
    rw [fo_sn, fo_sn]
    by_cases c : fo_par D x < 0
    · rw [if_pos c, if_pos c]
    · rw [if_neg c, if_neg c]
      have P := (fo_par_P W h0 h3).2.1
      rw [fo_sn_k W k j (fo_par D x) (by omega) (by omega) (by omega) (by omega)]
theorem fo_sns_s {F D : Int → Int} {n x : Int} (W : fo_W D n) (h0 : 0 ≤ x) (h1 : x < n) : fo_sns F D x = if fo_par D x < 0 then 1 else if F (fo_par D x) = 1 then 0 else fo_sns F D (fo_par D x) := by
  have P := fo_par_P W h0 h1
  unfold fo_sns
  rw [show (x + 1).toNat = x.toNat + 1 by omega, fo_sn]
  by_cases c : fo_par D x < 0
  · rw [if_pos c, if_pos c]
  · rw [if_neg c, if_neg c, fo_sn_k W x.toNat (fo_par D x + 1).toNat (fo_par D x) (by omega) (by have := P.2.1; omega) (by omega) (by have := P.2.1; omega)]
theorem fo_sn_01 (F D : Int → Int) : ∀ (k : Nat) (x : Int), fo_sn F D k x = 0 ∨ fo_sn F D k x = 1
  | 0, _ => Or.inr rfl
  | k + 1, x => by
    rw [fo_sn]
    split
    · exact Or.inr rfl
    · split
      · exact Or.inl rfl
      · exact fo_sn_01 F D k _
section MS
variable (L : Nat) (xs : Nat → Int32)
variable {σ : pm_S} {ad : Nat → Nat} {z : Nat → Int} {ar : Nat → Nat × (Nat → Int32)} {lr : Nat → Nat × (Nat → Int64)}
theorem ev_allTagsL (H : Hp σ ad z ar lr) (hl : (ar 200).1 = 5600) {n : Int} {I D : Int → Int} (M : mo_R (mo_g ar) (z 23) n I D) {v : Int} : ∀ (k : Nat) (x c : Int), -1 ≤ x → x < k → (x < n ∨ x = -1) → (-2147483648 ≤ c ∧ c ≤ 2147483647) → pm_Ev (tq_P L xs) (149, 4, [(3, .int (zI (fo_id I x))), (2, .int (zI c)), (0, .ref 199), (1, .int (zI v))], []) σ (.inl (some (.int (zI (zor c (fo_tgs (fun p => mo_g ar (I p) 6) D x))))), σ) := by
  intro k
  induction k with
  | zero =>
    intro x c x0 xk x1 hc
    have xe : x = -1 := by omega
    subst xe
    have id := M.idr x0 x1
    rw [fo_tgs_neg (by decide), zor_comm, zor_0 hc]
    refine pm_Ev.go 2 (f' := (149, 6, [(3, _), (2, _), (0, _), (1, _)], [_, _])) rfl ?_
    refine pm_Ev.jeq rfl (by omega) rfl (fun h1 => ?_) (fun h1 => ?_)
    · refine pm_Ev.go 1 (f' := (149, 30, [(3, _), (2, _), (0, _), (1, _)], [_])) rfl ?_
      exact pm_Ev.rv rfl rfl rfl
    · exact absurd h1 (by omega)
  | succ k ih =>
    intro x c x0 xk x1 hc
    have id := M.idr x0 x1
    by_cases xe : x = -1
    · subst xe
      rw [fo_tgs_neg (by decide), zor_comm, zor_0 hc]
      refine pm_Ev.go 2 (f' := (149, 6, [(3, _), (2, _), (0, _), (1, _)], [_, _])) rfl ?_
      refine pm_Ev.jeq rfl (by omega) rfl (fun h1 => ?_) (fun h1 => ?_)
      · refine pm_Ev.go 1 (f' := (149, 30, [(3, _), (2, _), (0, _), (1, _)], [_])) rfl ?_
        exact pm_Ev.rv rfl rfl rfl
      · exact absurd h1 (by omega)
    · have gp := M.gp (ar := ar) (z := z) (x := x) (by omega) (by omega)
      have P := fo_par_P M.W (p := x) (by omega) (by omega)
      have p1 := P.2.1
      have p2 := P.1
      have q := ih (fo_par D x) (zor c (mo_g ar (I x) 6)) p2 (by omega) (by omega) (zor_r _ _)
      rw [zor_assoc, zor_comm (mo_g ar (I x) 6), ← fo_tgs_s (T := fun p => mo_g ar (I p) 6) M.W (by omega) (by omega : x < n)] at q
      have gt : mo_g ar (fo_id I x) 6 = mo_g ar (I x) 6 := by rw [fo_id_at (by omega)]
      refine pm_Ev.go 2 (f' := (149, 6, [(3, _), (2, _), (0, _), (1, _)], [_, _])) rfl ?_
      refine pm_Ev.jeq rfl (by omega) rfl (fun h1 => ?_) (fun h1 => ?_)
      · exact absurd h1 (by omega)
      · refine pm_Ev.go 3 (f' := (149, 12, [(3, _), (2, _), (0, _), (1, _)], [_, _, _])) rfl ?_
        refine pm_Ev.bp rfl rfl ?_
        refine pm_Ev.cv rfl rfl rfl rfl (by decide) (Nat.le_of_ble_eq_true rfl) (Nat.le_of_ble_eq_true rfl) H.m199 H.o199 (ev_g L xs H hl (by omega)) ?_
        rw [gt]
        refine pm_Ev.ior rfl ?_
        refine pm_Ev.go 4 (f' := (149, 22, [(2, _), (3, _), (0, _), (1, _)], [_, _, _])) rfl ?_
        refine pm_Ev.cv rfl rfl rfl rfl (by decide) (Nat.le_of_ble_eq_true rfl) (Nat.le_of_ble_eq_true rfl) H.m199 H.o199 (ev_g L xs H hl (by omega)) ?_
        rw [gp]
        refine pm_Ev.go 2 (f' := (149, 4, [(3, _), (2, _), (0, _), (1, _)], [])) rfl ?_
        exact pm_Ev.weak q rfl
theorem ev_allTags (H : Hp σ ad z ar lr) (hl : (ar 200).1 = 5600) {n : Int} {I D : Int → Int} (M : mo_R (mo_g ar) (z 23) n I D) {x : Int} (x0 : -1 ≤ x) (x1 : x < n ∨ x = -1) : pm_Ev (tq_P L xs) (pm_enter 149 [.ref 199, .int (zI (fo_id I x))]) σ (.inl (some (.int (zI (fo_tgs (fun p => mo_g ar (I p) 6) D x)))), σ) := by
  show pm_Ev (tq_P L xs) (149, 0, [(0, .ref 199), (1, .int (zI (fo_id I x)))], []) σ _
  refine pm_Ev.go 4 (f' := (149, 4, [(3, _), (2, _), (0, _), (1, _)], [])) rfl ?_
  have q := ev_allTagsL L xs H hl M (v := fo_id I x) (x + 1).toNat x 0 x0 (by omega) x1 (by omega)
  rw [zor_0 (fo_tgs_r _ _ _)] at q
  exact q
theorem ev_isSeenL (H : Hp σ ad z ar lr) (hl : (ar 200).1 = 5600) {n : Int} {I D : Int → Int} (M : mo_R (mo_g ar) (z 23) n I D) {v : Int} : ∀ (k : Nat) (x : Int), 0 ≤ x → x < k → x < n → pm_Ev (tq_P L xs) (155, 7, [(2, .int (zI (fo_id I (fo_par D x)))), (0, .ref 199), (1, .int (zI v))], []) σ (.inl (some (.int (zI (fo_sns (fun p => mo_g ar (I p) 7) D x)))), σ) := by
  intro k
  induction k with
  | zero =>
    intro x x0 xk x1
    exact absurd xk (by omega)
  | succ k ih =>
    intro x x0 xk x1
    have P := fo_par_P M.W x0 x1
    have p1 := P.2.1
    have p2 := P.1
    have id := M.idr p2 (by omega)
    rw [fo_sns_s M.W x0 x1]
    by_cases c : fo_par D x < 0
    · rw [if_pos c]
      refine pm_Ev.go 2 (f' := (155, 9, [(2, _), (0, _), (1, _)], [_, _])) rfl ?_
      refine pm_Ev.jeq rfl (by omega) rfl (fun h1 => ?_) (fun h1 => ?_)
      · refine pm_Ev.go 1 (f' := (155, 36, [(2, _), (0, _), (1, _)], [_])) rfl ?_
        exact pm_Ev.rb rfl rfl rfl (by decide)
      · exact absurd h1 (by omega)
    · rw [if_neg c]
      have gp := M.gp (ar := ar) (z := z) (x := fo_par D x) (by omega) (by omega)
      have gf : mo_g ar (fo_id I (fo_par D x)) 7 = mo_g ar (I (fo_par D x)) 7 := by rw [fo_id_at (by omega)]
      have gr := mo_g_r ar (I (fo_par D x)) 7
      have q := ih (fo_par D x) (by omega) (by omega) (by omega)
      by_cases d : mo_g ar (I (fo_par D x)) 7 = 1
      · rw [if_pos d]
        refine pm_Ev.go 2 (f' := (155, 9, [(2, _), (0, _), (1, _)], [_, _])) rfl ?_
        refine pm_Ev.jeq rfl (by omega) rfl (fun h1 => ?_) (fun h1 => ?_)
        · exact absurd h1 (by omega)
        · refine pm_Ev.go 2 (f' := (155, 14, [(2, _), (0, _), (1, _)], [_, _])) rfl ?_
          refine pm_Ev.bp rfl rfl ?_
          refine pm_Ev.cv rfl rfl rfl rfl (by decide) (Nat.le_of_ble_eq_true rfl) (Nat.le_of_ble_eq_true rfl) H.m199 H.o199 (ev_g L xs H hl (by omega)) ?_
          rw [gf]
          refine pm_Ev.go 1 (f' := (155, 20, [(2, _), (0, _), (1, _)], [_, _])) rfl ?_
          refine pm_Ev.jne rfl (by omega) rfl (fun h2 => ?_) (fun h2 => ?_)
          · exact absurd h2 (by omega)
          · refine pm_Ev.go 1 (f' := (155, 24, [(2, _), (0, _), (1, _)], [_])) rfl ?_
            exact pm_Ev.rb rfl rfl rfl (by decide)
      · rw [if_neg d]
        refine pm_Ev.go 2 (f' := (155, 9, [(2, _), (0, _), (1, _)], [_, _])) rfl ?_
        refine pm_Ev.jeq rfl (by omega) rfl (fun h1 => ?_) (fun h1 => ?_)
        · exact absurd h1 (by omega)
        · refine pm_Ev.go 2 (f' := (155, 14, [(2, _), (0, _), (1, _)], [_, _])) rfl ?_
          refine pm_Ev.bp rfl rfl ?_
          refine pm_Ev.cv rfl rfl rfl rfl (by decide) (Nat.le_of_ble_eq_true rfl) (Nat.le_of_ble_eq_true rfl) H.m199 H.o199 (ev_g L xs H hl (by omega)) ?_
          rw [gf]
          refine pm_Ev.go 1 (f' := (155, 20, [(2, _), (0, _), (1, _)], [_, _])) rfl ?_
          refine pm_Ev.jne rfl (by omega) rfl (fun h2 => ?_) (fun h2 => ?_)
          · refine pm_Ev.go 3 (f' := (155, 28, [(2, _), (0, _), (1, _)], [_, _, _])) rfl ?_
            refine pm_Ev.cv rfl rfl rfl rfl (by decide) (Nat.le_of_ble_eq_true rfl) (Nat.le_of_ble_eq_true rfl) H.m199 H.o199 (ev_g L xs H hl (by omega)) ?_
            rw [gp]
            refine pm_Ev.go 2 (f' := (155, 7, [(2, _), (0, _), (1, _)], [])) rfl ?_
            exact pm_Ev.weak q rfl
          · exact absurd h2 (by omega)
theorem ev_isSeen (H : Hp σ ad z ar lr) (hl : (ar 200).1 = 5600) {n : Int} {I D : Int → Int} (M : mo_R (mo_g ar) (z 23) n I D) {x : Int} (x0 : 0 ≤ x) (x1 : x < n) : pm_Ev (tq_P L xs) (pm_enter 155 [.ref 199, .int (zI (I x))]) σ (.inl (some (.int (zI (fo_sns (fun p => mo_g ar (I p) 7) D x)))), σ) := by
  show pm_Ev (tq_P L xs) (155, 0, [(0, .ref 199), (1, .int (zI (I x)))], []) σ _
  have id := M.idr (x := x) (by omega) (Or.inl x1)
  rw [fo_id_at x0] at id
  have gp := (M.R x x0 x1).1
  refine pm_Ev.go 3 (f' := (155, 3, [(0, _), (1, _)], [_, _, _])) rfl ?_
  refine pm_Ev.cv rfl rfl rfl rfl (by decide) (Nat.le_of_ble_eq_true rfl) (Nat.le_of_ble_eq_true rfl) H.m199 H.o199 (ev_g L xs H hl (by omega)) ?_
  rw [gp]
  refine pm_Ev.go 1 (f' := (155, 7, [(2, _), (0, _), (1, _)], [])) rfl ?_
  exact ev_isSeenL L xs H hl M (v := I x) (x + 1).toNat x x0 (by omega) x1
theorem mo_R.q {g : Int → Int → Int} {m n : Int} {I D : Int → Int} (M : mo_R g m n I D) (h : Int → Int) (b e : Int) (hb : 0 ≤ b) (he : b ≤ e) (hn : e ≤ n) : ∃ q : Int → Int, (∀ x, 0 ≤ x → x < n → q (I x) = if b ≤ x ∧ x < e then h (I x) else 0) ∧ (∀ i, 0 ≤ i → i < m → g i 0 ≠ 1 → q i = 0) ∧ fs q 0 m = fs (fun p => h (I p)) b e := by
  have q1 : ∀ x, 0 ≤ x → x < n → @ite Int (∃ y, b ≤ y ∧ y < e ∧ I y = I x) (Classical.propDecidable _) (h (I x)) 0 = if b ≤ x ∧ x < e then h (I x) else 0 := by
    intro x x0 x1
    by_cases c : b ≤ x ∧ x < e
    · rw [if_pos c, if_pos ⟨x, c.1, c.2, rfl⟩]
    · rw [if_neg c, if_neg]
      intro ⟨y, y0, y1, y2⟩
      have := M.J.2 y x (by omega) (by omega) x0 x1 y2
      exact c (by omega)
  have q0 : ∀ i, 0 ≤ i → i < m → g i 0 ≠ 1 → @ite Int (∃ y, b ≤ y ∧ y < e ∧ I y = i) (Classical.propDecidable _) (h i) 0 = 0 := by
    intro i i0 i1 k
    rw [if_neg]
    intro ⟨y, y0, y1, y2⟩
    rw [← y2] at k
    exact k (M.t1 (by omega) (by omega))
  refine ⟨fun i => @ite Int (∃ y, b ≤ y ∧ y < e ∧ I y = i) (Classical.propDecidable _) (h i) 0, q1, q0, ?_⟩
  rw [M.sum _ q0, fs_sp (b := b) hb (by omega), fs_sp (a := b) (b := e) he hn, fs_z (a := 0) (b := b) (fun x x0 x1 => ?_), fs_z (a := e) (b := n) (fun x x0 x1 => ?_), fs_cg (a := b) (b := e) (g := fun p => h (I p)) (fun x x0 x1 => ?_)]
  · omega
  · exact (q1 x (by omega) (by omega)).trans (if_pos ⟨x0, x1⟩)
  · exact (q1 x (by omega) (by omega)).trans (if_neg (by omega))
  · exact (q1 x (by omega) (by omega)).trans (if_neg (by omega))
theorem ev_effortL (H : Hp σ ad z ar lr) (hl : (ar 200).1 = 5600) {n : Int} {I D : Int → Int} (M : mo_R (mo_g ar) (z 23) n I D) {b : Int} (b0 : 0 ≤ b) (b1 : b < n) {q : Int → Int} (q1 : ∀ x, 0 ≤ x → x < n → q (I x) = if b ≤ x ∧ x < fo_end D n b then mo_g ar (I x) 12 else 0) (q0 : ∀ i, 0 ≤ i → i < z 23 → mo_g ar i 0 ≠ 1 → q i = 0) : ∀ (k : Nat) (e : Int), 0 ≤ e → e + k = z 23 → pm_Ev (tq_P L xs) (135, 4, [(3, .int (zI e)), (2, .int (zI (fs q 0 e))), (0, .ref 199), (1, .int (zI (fo_id I b)))], []) σ (.inl (some (.int (zI (fs q 0 (z 23))))), σ) := by
  intro k
  have hm : 0 ≤ z 23 ∧ z 23 ≤ 400 := ⟨M.m0, M.m4⟩
  induction k with
  | zero =>
    intro e e0 ek
    have ee : e = z 23 := by omega
    subst ee
    refine pm_Ev.go 2 (f' := (135, 6, [(3, _), (2, _), (0, _), (1, _)], [_, _])) rfl ?_
    refine pm_Ev.gf rfl rfl H.m199 H.o199 rfl ?_
    refine pm_Ev.jge rfl (by omega) rfl (fun h1 => ?_) (fun h1 => ?_)
    · refine pm_Ev.go 1 (f' := (135, 52, [(3, _), (2, _), (0, _), (1, _)], [_])) rfl ?_
      exact pm_Ev.rv rfl rfl rfl
    · exact absurd h1 (by omega)
  | succ k ih =>
    intro e e0 ek
    have ge := mo_g_r ar e 0
    have ih1 := ih (e + 1) (by omega) (by omega)
    rw [fs_r e0] at ih1
    rcases M.th e e0 (by omega) with ⟨t1, x, x0, x1, xe⟩ | ⟨t0, t1⟩
    · have ix := ev_isIn L xs H hl M b0 b1 (x := x) (by omega) (Or.inl x1)
      have qx := q1 x x0 x1
      rw [fo_id_at x0, xe] at ix
      rw [xe] at qx
      by_cases c : b ≤ x ∧ x < fo_end D n b
      · rw [if_pos c] at ix qx
        rw [qx] at ih1
        refine pm_Ev.go 2 (f' := (135, 6, [(3, _), (2, _), (0, _), (1, _)], [_, _])) rfl ?_
        refine pm_Ev.gf rfl rfl H.m199 H.o199 rfl ?_
        refine pm_Ev.jge rfl (by omega) rfl (fun h1 => ?_) (fun h1 => ?_)
        · exact absurd h1 (by omega)
        · refine pm_Ev.go 4 (f' := (135, 16, [(3, _), (2, _), (0, _), (1, _)], [_, _, _, _])) rfl ?_
          refine pm_Ev.cv rfl rfl rfl rfl (by decide) (Nat.le_of_ble_eq_true rfl) (Nat.le_of_ble_eq_true rfl) H.m199 H.o199 (ev_g L xs H hl (by omega)) ?_
          refine pm_Ev.go 1 (f' := (135, 20, [(3, _), (2, _), (0, _), (1, _)], [_, _, _])) rfl ?_
          refine pm_Ev.jne rfl (by omega) rfl (fun h2 => ?_) (fun h2 => ?_)
          · exact absurd h2 (by omega)
          · refine pm_Ev.go 3 (f' := (135, 26, [(3, _), (2, _), (0, _), (1, _)], [_, _, _, _])) rfl ?_
            refine pm_Ev.cv rfl rfl rfl rfl (by decide) (Nat.le_of_ble_eq_true rfl) (Nat.le_of_ble_eq_true rfl) H.m199 H.o199 (ix) ?_
            refine pm_Ev.zeq rfl (by omega) rfl (fun h3 => ?_) (fun h3 => ?_)
            · exact absurd h3 (by omega)
            · refine pm_Ev.go 2 (f' := (135, 34, [(3, _), (2, _), (0, _), (1, _)], [_, _, _])) rfl ?_
              refine pm_Ev.bp rfl rfl ?_
              refine pm_Ev.cv rfl rfl rfl rfl (by decide) (Nat.le_of_ble_eq_true rfl) (Nat.le_of_ble_eq_true rfl) H.m199 H.o199 (ev_g L xs H hl (by omega)) ?_
              refine pm_Ev.go 1 (f' := (135, 43, [(3, _), (2, _), (0, _), (1, _)], [_, _])) rfl ?_
              refine pm_Ev.iadd rfl ?_
              refine pm_Ev.go 1 (f' := (135, 45, [(2, _), (3, _), (0, _), (1, _)], [])) rfl ?_
              refine pm_Ev.inc rfl rfl (Nat.le_of_ble_eq_true rfl) ?_
              refine pm_Ev.go 1 (f' := (135, 4, [(3, _), (2, _), (0, _), (1, _)], [])) rfl ?_
              exact pm_Ev.weak ih1 rfl
      · rw [if_neg c] at ix qx
        rw [qx] at ih1
        refine pm_Ev.go 2 (f' := (135, 6, [(3, _), (2, _), (0, _), (1, _)], [_, _])) rfl ?_
        refine pm_Ev.gf rfl rfl H.m199 H.o199 rfl ?_
        refine pm_Ev.jge rfl (by omega) rfl (fun h1 => ?_) (fun h1 => ?_)
        · exact absurd h1 (by omega)
        · refine pm_Ev.go 4 (f' := (135, 16, [(3, _), (2, _), (0, _), (1, _)], [_, _, _, _])) rfl ?_
          refine pm_Ev.cv rfl rfl rfl rfl (by decide) (Nat.le_of_ble_eq_true rfl) (Nat.le_of_ble_eq_true rfl) H.m199 H.o199 (ev_g L xs H hl (by omega)) ?_
          refine pm_Ev.go 1 (f' := (135, 20, [(3, _), (2, _), (0, _), (1, _)], [_, _, _])) rfl ?_
          refine pm_Ev.jne rfl (by omega) rfl (fun h2 => ?_) (fun h2 => ?_)
          · exact absurd h2 (by omega)
          · refine pm_Ev.go 3 (f' := (135, 26, [(3, _), (2, _), (0, _), (1, _)], [_, _, _, _])) rfl ?_
            refine pm_Ev.cv rfl rfl rfl rfl (by decide) (Nat.le_of_ble_eq_true rfl) (Nat.le_of_ble_eq_true rfl) H.m199 H.o199 (ix) ?_
            refine pm_Ev.zeq rfl (by omega) rfl (fun h3 => ?_) (fun h3 => ?_)
            · refine pm_Ev.go 1 (f' := (135, 43, [(3, _), (2, _), (0, _), (1, _)], [_, _])) rfl ?_
              refine pm_Ev.iadd rfl ?_
              refine pm_Ev.go 1 (f' := (135, 45, [(2, _), (3, _), (0, _), (1, _)], [])) rfl ?_
              refine pm_Ev.inc rfl rfl (Nat.le_of_ble_eq_true rfl) ?_
              refine pm_Ev.go 1 (f' := (135, 4, [(3, _), (2, _), (0, _), (1, _)], [])) rfl ?_
              exact pm_Ev.weak ih1 rfl
            · exact absurd h3 (by omega)
    · rw [q0 e e0 (by omega) (by omega)] at ih1
      refine pm_Ev.go 2 (f' := (135, 6, [(3, _), (2, _), (0, _), (1, _)], [_, _])) rfl ?_
      refine pm_Ev.gf rfl rfl H.m199 H.o199 rfl ?_
      refine pm_Ev.jge rfl (by omega) rfl (fun h1 => ?_) (fun h1 => ?_)
      · exact absurd h1 (by omega)
      · refine pm_Ev.go 4 (f' := (135, 16, [(3, _), (2, _), (0, _), (1, _)], [_, _, _, _])) rfl ?_
        refine pm_Ev.cv rfl rfl rfl rfl (by decide) (Nat.le_of_ble_eq_true rfl) (Nat.le_of_ble_eq_true rfl) H.m199 H.o199 (ev_g L xs H hl (by omega)) ?_
        refine pm_Ev.go 1 (f' := (135, 20, [(3, _), (2, _), (0, _), (1, _)], [_, _, _])) rfl ?_
        refine pm_Ev.jne rfl (by omega) rfl (fun h2 => ?_) (fun h2 => ?_)
        · refine pm_Ev.go 1 (f' := (135, 43, [(3, _), (2, _), (0, _), (1, _)], [_, _])) rfl ?_
          refine pm_Ev.iadd rfl ?_
          refine pm_Ev.go 1 (f' := (135, 45, [(2, _), (3, _), (0, _), (1, _)], [])) rfl ?_
          refine pm_Ev.inc rfl rfl (Nat.le_of_ble_eq_true rfl) ?_
          refine pm_Ev.go 1 (f' := (135, 4, [(3, _), (2, _), (0, _), (1, _)], [])) rfl ?_
          exact pm_Ev.weak ih1 rfl
        · exact absurd h2 (by omega)
theorem ev_effort (H : Hp σ ad z ar lr) (hl : (ar 200).1 = 5600) {n : Int} {I D : Int → Int} (M : mo_R (mo_g ar) (z 23) n I D) {b : Int} (b0 : 0 ≤ b) (b1 : b < n) : pm_Ev (tq_P L xs) (pm_enter 135 [.ref 199, .int (zI (I b))]) σ (.inl (some (.int (zI (fs (fun p => mo_g ar (I p) 12) b (fo_end D n b))))), σ) := by
  have B := fo_end_B (D := D) b1
  have m0 := M.m0
  obtain ⟨q, q1, q0, qs⟩ := M.q (fun e => mo_g ar e 12) b (fo_end D n b) b0 (by have := B.1; omega) B.2.1
  rw [← qs]
  show pm_Ev (tq_P L xs) (135, 0, [(0, .ref 199), (1, .int (zI (I b)))], []) σ _
  refine pm_Ev.go 4 (f' := (135, 4, [(3, _), (2, _), (0, _), (1, _)], [])) rfl ?_
  have y := ev_effortL L xs H hl M b0 b1 q1 q0 (z 23).toNat 0 (by omega) (by omega)
  rw [fo_id_at b0, fs_0 (Int.le_refl 0)] at y
  exact y
end MS
