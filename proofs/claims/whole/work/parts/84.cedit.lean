/-! the desk: an edit, cell by cell -/
def od_E (A C0 : Int → Int) (z0 : Nat → Int) (ar0 : Nat → Nat × (Nat → Int32)) (z : Nat → Int) (ar : Nat → Nat × (Nat → Int32)) : Prop :=
  (hw A z ar) ∧
  (z0 7 = 0) ∧
  (z0 1 < 99999) ∧
  (∀ k, k ≠ 1 → k ≠ 4 → k ≠ 7 → k ≠ (105 + 3 * hw_j z0) → z k = z0 k) ∧
  (∀ r, r ≠ 189 → r ≠ 190 → r ≠ 191 → r ≠ (5 + 3 * hw_j z0 + 1) → r ≠ (5 + 3 * hw_j z0 + 2) → ar r = ar0 r) ∧
  ((ar 190).1 = (ar0 190).1) ∧
  ((ar 189).1 = (ar0 189).1) ∧
  (z 1 = z0 1 + (if z 7 = 1 ∧ z0 6 = 0 then 1 else 0)) ∧
  (z 7 = 0 → (∀ k, z k = z0 k) ∧ (∀ r, r ≠ 189 → ar r = ar0 r)) ∧
  (z 7 = 1 ↔ ∃ c, 0 ≤ c ∧ hq_g ar 190 c ≠ C0 c)
theorem od_E.h {A C0 : Int → Int} {z0 : Nat → Int} {ar0 : Nat → Nat × (Nat → Int32)} {z : Nat → Int} {ar : Nat → Nat × (Nat → Int32)} (h : od_E A C0 z0 ar0 z ar) : hw A z ar := h.1
theorem od_E.i0 {A C0 : Int → Int} {z0 : Nat → Int} {ar0 : Nat → Nat × (Nat → Int32)} {z : Nat → Int} {ar : Nat → Nat × (Nat → Int32)} (h : od_E A C0 z0 ar0 z ar) : z0 7 = 0 := h.2.1
theorem od_E.s1 {A C0 : Int → Int} {z0 : Nat → Int} {ar0 : Nat → Nat × (Nat → Int32)} {z : Nat → Int} {ar : Nat → Nat × (Nat → Int32)} (h : od_E A C0 z0 ar0 z ar) : z0 1 < 99999 := h.2.2.1
theorem od_E.zo {A C0 : Int → Int} {z0 : Nat → Int} {ar0 : Nat → Nat × (Nat → Int32)} {z : Nat → Int} {ar : Nat → Nat × (Nat → Int32)} (h : od_E A C0 z0 ar0 z ar) : ∀ k, k ≠ 1 → k ≠ 4 → k ≠ 7 → k ≠ (105 + 3 * hw_j z0) → z k = z0 k := h.2.2.2.1
theorem od_E.ao {A C0 : Int → Int} {z0 : Nat → Int} {ar0 : Nat → Nat × (Nat → Int32)} {z : Nat → Int} {ar : Nat → Nat × (Nat → Int32)} (h : od_E A C0 z0 ar0 z ar) : ∀ r, r ≠ 189 → r ≠ 190 → r ≠ 191 → r ≠ (5 + 3 * hw_j z0 + 1) → r ≠ (5 + 3 * hw_j z0 + 2) → ar r = ar0 r := h.2.2.2.2.1
theorem od_E.la {A C0 : Int → Int} {z0 : Nat → Int} {ar0 : Nat → Nat × (Nat → Int32)} {z : Nat → Int} {ar : Nat → Nat × (Nat → Int32)} (h : od_E A C0 z0 ar0 z ar) : (ar 190).1 = (ar0 190).1 := h.2.2.2.2.2.1
theorem od_E.l9 {A C0 : Int → Int} {z0 : Nat → Int} {ar0 : Nat → Nat × (Nat → Int32)} {z : Nat → Int} {ar : Nat → Nat × (Nat → Int32)} (h : od_E A C0 z0 ar0 z ar) : (ar 189).1 = (ar0 189).1 := h.2.2.2.2.2.2.1
theorem od_E.z1 {A C0 : Int → Int} {z0 : Nat → Int} {ar0 : Nat → Nat × (Nat → Int32)} {z : Nat → Int} {ar : Nat → Nat × (Nat → Int32)} (h : od_E A C0 z0 ar0 z ar) : z 1 = z0 1 + (if z 7 = 1 ∧ z0 6 = 0 then 1 else 0) := h.2.2.2.2.2.2.2.1
theorem od_E.nc {A C0 : Int → Int} {z0 : Nat → Int} {ar0 : Nat → Nat × (Nat → Int32)} {z : Nat → Int} {ar : Nat → Nat × (Nat → Int32)} (h : od_E A C0 z0 ar0 z ar) : z 7 = 0 → (∀ k, z k = z0 k) ∧ (∀ r, r ≠ 189 → ar r = ar0 r) := h.2.2.2.2.2.2.2.2.1
theorem od_E.ch {A C0 : Int → Int} {z0 : Nat → Int} {ar0 : Nat → Nat × (Nat → Int32)} {z : Nat → Int} {ar : Nat → Nat × (Nat → Int32)} (h : od_E A C0 z0 ar0 z ar) : z 7 = 1 ↔ ∃ c, 0 ≤ c ∧ hq_g ar 190 c ≠ C0 c := h.2.2.2.2.2.2.2.2.2
theorem od_E.mk {A C0 : Int → Int} {z0 : Nat → Int} {ar0 : Nat → Nat × (Nat → Int32)} {z : Nat → Int} {ar : Nat → Nat × (Nat → Int32)} (h_h : hw A z ar) (h_i0 : z0 7 = 0) (h_s1 : z0 1 < 99999) (h_zo : ∀ k, k ≠ 1 → k ≠ 4 → k ≠ 7 → k ≠ (105 + 3 * hw_j z0) → z k = z0 k) (h_ao : ∀ r, r ≠ 189 → r ≠ 190 → r ≠ 191 → r ≠ (5 + 3 * hw_j z0 + 1) → r ≠ (5 + 3 * hw_j z0 + 2) → ar r = ar0 r) (h_la : (ar 190).1 = (ar0 190).1) (h_l9 : (ar 189).1 = (ar0 189).1) (h_z1 : z 1 = z0 1 + (if z 7 = 1 ∧ z0 6 = 0 then 1 else 0)) (h_nc : z 7 = 0 → (∀ k, z k = z0 k) ∧ (∀ r, r ≠ 189 → ar r = ar0 r)) (h_ch : z 7 = 1 ↔ ∃ c, 0 ≤ c ∧ hq_g ar 190 c ≠ C0 c) : od_E A C0 z0 ar0 z ar := ⟨h_h, h_i0, h_s1, h_zo, h_ao, h_la, h_l9, h_z1, h_nc, h_ch⟩
theorem od_E.ini {A : Int → Int} {z : Nat → Int} {ar : Nat → Nat × (Nat → Int32)} (h : hw A z ar) (h7 : z 7 = 0) (h1 : z 1 < 99999) : od_E A (hq_g ar 190) z ar z ar := by
  refine od_E.mk h h7 h1 (fun _ _ _ _ _ => rfl) (fun _ _ _ _ _ _ => rfl) rfl rfl ?_ (fun _ => ⟨fun _ => rfl, fun _ _ => rfl⟩) ⟨fun q => absurd q (by omega), fun ⟨c, _, q⟩ => absurd rfl q⟩
  rw [if_neg (by omega)]
  omega
section OE
variable {A C0 : Int → Int} {z0 z z' : Nat → Int} {ar0 ar ar' : Nat → Nat × (Nat → Int32)}
theorem od_E.j (E : od_E A C0 z0 ar0 z ar) : hw_j z = hw_j z0 := hw_j_cg (E.zo 2 (by decide) (by decide) (by decide) (by omega)) (E.zo 3 (by decide) (by decide) (by decide) (by omega))
theorem od_E.m (E : od_E A C0 z0 ar0 z ar) : z 8 = z0 8 := E.zo 8 (by decide) (by decide) (by decide) (by omega)
theorem od_E.e6 (E : od_E A C0 z0 ar0 z ar) : z 6 = z0 6 := E.zo 6 (by decide) (by decide) (by decide) (by omega)
theorem od_E.w (E : od_E A C0 z0 ar0 z ar) {c v : Int} (c0 : 0 ≤ c) (hc : hq_g ar 190 c = C0 c) (h' : hw A z' ar') (f : wr_f c v z ar z' ar') : od_E A C0 z0 ar0 z' ar' := by
  obtain ⟨f1, f2, f3, f4, f5, f6, f7, f8⟩ := f
  have ej := E.j
  have e6 := E.e6
  have h6 := E.h.h6
  rw [ej] at f2 f3
  have e7 := E.h.h7
  have jj := E.h.jj
  rw [ej] at jj
  by_cases q : hq_g ar 190 c = v
  · obtain ⟨rfl, rfl⟩ := f8 q
    exact E
  · rw [if_neg q] at f5
    refine od_E.mk h' E.i0 E.s1 (fun k k1 k2 k3 k4 => (f2 k k1 k2 k3 k4).trans (E.zo k k1 k2 k3 k4)) (fun r r1 r2 r3 r4 r5 => (f3 r r2 r3 r4 r5).trans (E.ao r r1 r2 r3 r4 r5)) (f4.trans E.la) ?_ ?_ (fun x => absurd x (by omega)) ⟨fun _ => ⟨c, c0, ?_⟩, fun _ => f5⟩
    · rw [f3 189 (by decide) (by decide) (by omega) (by omega)]
      exact E.l9
    · have ez := E.z1
      rw [f5]
      by_cases b6 : z0 6 = 0
      · rcases e7 with e7 | e7
        · rw [if_neg (by omega)] at ez
          rw [if_pos ⟨rfl, b6⟩, (f7 q e7 (by omega)).1, ez]
          omega
        · rw [if_pos ⟨e7, b6⟩] at ez
          rw [if_pos ⟨rfl, b6⟩, (f6 (Or.inr (Or.inl e7))).1, ez]
      · rw [if_neg (fun x => b6 x.2)] at ez ⊢
        rw [(f6 (Or.inr (Or.inr (by omega)))).1, ez]
    · rw [f1 c c0, if_pos rfl]
      exact fun x => q (hc.trans x.symm)
/-- the draft may change -/
theorem od_E.dr (E : od_E A C0 z0 ar0 z ar) (ho : ∀ r, r ≠ 189 → ar' r = ar r) (hl : (ar' 189).1 = (ar 189).1) : od_E A C0 z0 ar0 z ar' := by
  have g : ∀ r, r ≠ 189 → hq_g ar' r = hq_g ar r := fun r hr => funext fun i => hq_g_ne (ho r hr) i
  have h := E.h
  have h' : hw A z ar' := by
    refine hw.mk h.m0 h.h2 h.h3 h.h6 h.h7 h.h1 (by rw [ho 190 (by decide), ho 191 (by decide)]; exact h.ln) (by unfold od_L; rw [ho 190 (by decide)]; exact h.le) (fun i hi => by rw [ho _ (by omega), ho _ (by omega)]; exact h.cap i hi) (by rw [ho 190 (by decide), g 191 (by decide)]; exact h.st) (by rw [ho 190 (by decide), g 191 (by decide), g 190 (by decide)]; exact h.fr) h.gd (fun x => by rw [g 191 (by decide), g _ (by have := h.jj; omega)]; exact h.gs x) (fun x => by rw [g 190 (by decide), g _ (by have := h.jj; omega), g _ (by have := h.jj; omega)]; exact h.gl x) (fun x y => by rw [g 190 (by decide)]; exact h.no x y)
  exact od_E.mk h' E.i0 E.s1 E.zo (fun r r1 r2 r3 r4 r5 => (ho r r1).trans (E.ao r r1 r2 r3 r4 r5)) (by rw [ho 190 (by decide)]; exact E.la) (hl.trans E.l9) E.z1 (fun x => ⟨(E.nc x).1, fun r hr => (ho r hr).trans ((E.nc x).2 r hr)⟩) (by rw [g 190 (by decide)]; exact E.ch)
end OE
section MS
variable (L : Nat) (xs : Nat → Int32)
variable {σ : pm_S} {ad : Nat → Nat} {z : Nat → Int} {ar : Nat → Nat × (Nat → Int32)} {lr : Nat → Nat × (Nat → Int64)}
variable {A C0 : Int → Int} {z0 : Nat → Int} {ar0 : Nat → Nat × (Nat → Int32)}
theorem ev_wE (H : Hp σ ad z ar lr) (E : od_E A C0 z0 ar0 z ar) {c v : Int} (c0 : 0 ≤ c) (c1 : c < 401 + 16 * z0 8) (hv : -2147483648 ≤ v ∧ v ≤ 2147483647) (hc : hq_g ar 190 c = C0 c) : pm_Fv (tq_P L xs) (pm_enter 48 [.ref 1, .int (zI c), .int (zI v)]) σ (fun o s => o = .inl none ∧ ∃ ad' z' ar', Hp s ad' z' ar' lr ∧ od_E A C0 z0 ar0 z' ar' ∧ (∀ i, 0 ≤ i → hq_g ar' 190 i = if i = c then v else hq_g ar 190 i) ∧ (∀ i, 0 ≤ i → hq_g ar' 189 i = hq_g ar 189 i) ∧ hq_rm σ ar lr s ar' lr) := by
  have s1 := E.s1
  have ez := E.z1
  have jj := E.h.jj
  refine (ev_write L xs H E.h (by rw [ez]; split <;> omega) c0 (by rw [E.m]; exact c1) hv).mono (fun o s q => ⟨q.1, ?_⟩)
  obtain ⟨ad', z', ar', H', h', f', m'⟩ := q.2
  exact ⟨ad', z', ar', H', E.w c0 hc h' f', f'.1, fun i i0 => hq_g_ne (f'.2.2.1 189 (by decide) (by decide) (by omega) (by omega)) i, m'⟩
theorem ev_setE (H : Hp σ ad z ar lr) (E : od_E A C0 z0 ar0 z ar) {e f v : Int} (he : 0 ≤ e ∧ e < z0 8 ∧ 0 ≤ f ∧ f < 16) (hv : -2147483648 ≤ v ∧ v ≤ 2147483647) (hc : hq_g ar 190 (401 + e * 16 + f) = C0 (401 + e * 16 + f)) : pm_Fv (tq_P L xs) (pm_enter 61 [.ref 188, .int (zI e), .int (zI f), .int (zI v)]) σ (fun o s => o = .inl none ∧ ∃ ad' z' ar', Hp s ad' z' ar' lr ∧ od_E A C0 z0 ar0 z' ar' ∧ (∀ i, 0 ≤ i → hq_g ar' 190 i = if i = 401 + e * 16 + f then v else hq_g ar 190 i) ∧ (∀ i, 0 ≤ i → hq_g ar' 189 i = hq_g ar 189 i) ∧ hq_rm σ ar lr s ar' lr) := by
  show pm_Fv (tq_P L xs) (61, 0, [(0, .ref 188), (1, .int (zI e)), (2, .int (zI f)), (3, .int (zI v))], []) σ _
  refine pm_Fv.go 1 (f' := (61, 1, [(0, _), (1, _), (2, _), (3, _)], [_])) rfl ?_
  refine pm_Fv.gf rfl rfl H.m188 H.o188 rfl ?_
  refine pm_Fv.sp rfl rfl ?_
  refine pm_Fv.go 1 (f' := (61, 8, [(0, _), (1, _), (2, _), (3, _)], [_, _, _])) rfl ?_
  refine pm_Fv.bp rfl rfl ?_
  refine pm_Fv.imul rfl ?_
  refine pm_Fv.iadd rfl ?_
  refine pm_Fv.go 1 (f' := (61, 13, [(0, _), (1, _), (2, _), (3, _)], [_, _, _])) rfl ?_
  refine pm_Fv.iadd rfl ?_
  refine pm_Fv.go 1 (f' := (61, 15, [(0, _), (1, _), (2, _), (3, _)], [_, _, _])) rfl ?_
  refine pm_Fv.cvF rfl rfl rfl rfl (by decide) (Nat.le_of_ble_eq_true rfl) (Nat.le_of_ble_eq_true rfl) H.m1 H.o1 (ev_wE L xs H E (by omega) (by omega) hv hc) (fun s1 q1 => ?_)
  obtain ⟨ad1, z1, ar1, H1, E1, g1, d1, m1⟩ := q1
  exact pm_Fv.ret rfl rfl rfl rfl ⟨rfl, ⟨ad1, z1, ar1, H1, E1, g1, d1, m1⟩⟩
theorem ev_copyDL {a b k : Int} (hb : b ≤ 400) (ha : 0 ≤ a) : ∀ (n : Nat) (p g : Int) (ar : Nat → Nat × (Nat → Int32)) (σ : pm_S), Hp σ ad z ar lr → od_L z ar → 0 ≤ z 8 → (ar 189).1 = 400 → p + n = b → a ≤ p → 0 ≤ g → g + n ≤ 400 → pm_Fv (tq_P L xs) (81, 6, [(5, .int (zI p)), (4, .int (zI g)), (0, .ref 188), (1, .int (zI a)), (2, .int (zI b)), (3, .int (zI k))], []) σ (fun o s => o = .inl (some (.int (zI (g + n)))) ∧ (∃ ar', Hp s ad z ar' lr ∧ (∀ r, r ≠ 189 → ar' r = ar r) ∧ (ar' 189).1 = (ar 189).1 ∧ (∀ i, 0 ≤ i → hq_g ar' 189 i = if g ≤ i ∧ i < g + n then oI (hq_g ar 190) (p + (i - g)) else hq_g ar 189 i)) ∧ s.2 = σ.2) := by
  intro n
  induction n with
  | zero =>
    intro p g ar σ H hl m0 l9 pn ap g0 g1
    refine pm_Fv.go 2 (f' := (81, 9, [(5, _), (4, _), (0, _), (1, _), (2, _), (3, _)], [_, _])) rfl ?_
    refine pm_Fv.jge rfl (by omega) rfl (fun h1 => ?_) (fun h1 => ?_)
    · refine pm_Fv.go 1 (f' := (81, 36, [(5, _), (4, _), (0, _), (1, _), (2, _), (3, _)], [_])) rfl ?_
      rw [show g + ((0 : Nat) : Int) = g by omega]
      exact pm_Fv.rv rfl rfl ⟨rfl, ⟨ar, H, fun _ _ => rfl, rfl, fun i i0 => (if_neg (by omega)).symm⟩, rfl⟩
    · exact absurd h1 (by omega)
  | succ n ih =>
    intro p g ar σ H hl m0 l9 pn ap g0 g1
    refine pm_Fv.go 2 (f' := (81, 9, [(5, _), (4, _), (0, _), (1, _), (2, _), (3, _)], [_, _])) rfl ?_
    refine pm_Fv.jge rfl (by omega) rfl (fun h1 => ?_) (fun h1 => ?_)
    · exact absurd h1 (by omega)
    · refine pm_Fv.go 1 (f' := (81, 13, [(5, _), (4, _), (0, _), (1, _), (2, _), (3, _)], [_])) rfl ?_
      refine pm_Fv.gf rfl rfl H.m188 H.o188 rfl ?_
      refine pm_Fv.go 3 (f' := (81, 21, [(5, _), (4, _), (0, _), (1, _), (2, _), (3, _)], [_, _, _, _])) rfl ?_
      refine pm_Fv.cv rfl rfl rfl rfl (by decide) (Nat.le_of_ble_eq_true rfl) (Nat.le_of_ble_eq_true rfl) H.m188 H.o188 (ev_entryAt L xs H hl m0 (by omega)) ?_
      refine pm_Fv.fis H rfl (by decide) rfl rfl (by rw [l9]; omega) (fun s1 H1 r1 => ?_)
      refine pm_Fv.inc rfl rfl (Nat.le_of_ble_eq_true rfl) ?_
      refine pm_Fv.inc rfl rfl (Nat.le_of_ble_eq_true rfl) ?_
      refine pm_Fv.go 1 (f' := (81, 6, [(5, _), (4, _), (0, _), (1, _), (2, _), (3, _)], [])) rfl ?_
      have cr : -2147483648 ≤ oI (hq_g ar 190) p ∧ oI (hq_g ar 190) p ≤ 2147483647 := hq_g_r ar 190 (1 + p)
      have q := ih (p + 1) (g + 1) _ s1 H1 (by unfold od_L; rw [hq_w_len]; exact hl) m0 (by rw [hq_w_len]; exact l9) (by omega) (by omega) (by omega) (by omega)
      refine pm_Fv.weak (q.mono (fun o s q => ?_)) rfl
      obtain ⟨q1, ⟨ar', H', o', l', c'⟩, q3⟩ := q
      refine ⟨q1.trans (by rw [show g + 1 + (n : Int) = g + ((n + 1 : Nat) : Int) by omega]), ⟨ar', H', fun r hr => (o' r hr).trans (hq_w_ne hr), l'.trans (hq_w_len _ _ _ _ _), fun i i0 => ?_⟩, q3.trans r1⟩
      rw [c' i i0, hq_w_g g0 i0 cr]
      by_cases x : i = g
      · rw [if_neg (by omega), if_pos x, if_pos (by omega), x, show p + (g - g) = p by omega]
      · rw [if_neg x]
        by_cases y : g + 1 ≤ i ∧ i < g + 1 + n
        · rw [if_pos y, if_pos (by omega), show p + 1 + (i - (g + 1)) = p + (i - g) by omega]
          unfold oI
          rw [hq_g_ne (hq_w_ne (by decide))]
        · rw [if_neg y, if_neg (by omega)]
theorem ev_copyD (H : Hp σ ad z ar lr) (hl : od_L z ar) (m0 : 0 ≤ z 8) (l9 : (ar 189).1 = 400) {a b k : Int} (ha : 0 ≤ a) (hb : b ≤ 400) (hk : 0 ≤ k ∧ k ≤ 400) (ha2 : a ≤ 400) (hb2 : 0 ≤ b) (hn : k + (b - a) ≤ 400) : pm_Fv (tq_P L xs) (pm_enter 81 [.ref 188, .int (zI a), .int (zI b), .int (zI k)]) σ (fun o s => o = .inl (some (.int (zI (k + (b - a).toNat)))) ∧ (∃ ar', Hp s ad z ar' lr ∧ (∀ r, r ≠ 189 → ar' r = ar r) ∧ (ar' 189).1 = (ar 189).1 ∧ (∀ i, 0 ≤ i → hq_g ar' 189 i = if k ≤ i ∧ i < k + (b - a) then oI (hq_g ar 190) (a + (i - k)) else hq_g ar 189 i)) ∧ s.2 = σ.2) := by
  show pm_Fv (tq_P L xs) (81, 0, [(0, .ref 188), (1, .int (zI a)), (2, .int (zI b)), (3, .int (zI k))], []) σ _
  by_cases c : a ≤ b
  · skip
    refine pm_Fv.go 4 (f' := (81, 6, [(5, _), (4, _), (0, _), (1, _), (2, _), (3, _)], [])) rfl ?_
    refine (ev_copyDL L xs (k := k) hb ha (b - a).toNat a k ar σ H hl m0 l9 (by omega) (by omega) (by omega) (by omega)).mono (fun o s q => ?_)
    rw [show ((b - a).toNat : Int) = b - a by omega] at q ⊢
    exact q
  · skip
    refine pm_Fv.go 6 (f' := (81, 9, [(5, _), (4, _), (0, _), (1, _), (2, _), (3, _)], [_, _])) rfl ?_
    refine pm_Fv.jge rfl (by omega) rfl (fun h1 => ?_) (fun h1 => ?_)
    · refine pm_Fv.go 1 (f' := (81, 36, [(5, _), (4, _), (0, _), (1, _), (2, _), (3, _)], [_])) rfl ?_
      rw [show (b - a).toNat = 0 by omega, show k + ((0 : Nat) : Int) = k by omega]
      exact pm_Fv.rv rfl rfl ⟨rfl, ⟨ar, H, fun _ _ => rfl, rfl, fun i i0 => (if_neg (by omega)).symm⟩, rfl⟩
    · exact absurd h1 (by omega)
theorem ev_wDL {p k : Int} (hp : 0 ≤ p) (hk : 0 ≤ k) (hpk : p + k ≤ 400) {d : Int → Int} : ∀ (n : Nat) (q : Int) (ad : Nat → Nat) (z : Nat → Int) (ar : Nat → Nat × (Nat → Int32)) (σ : pm_S), Hp σ ad z ar lr → od_E A C0 z0 ar0 z ar → (ar 189).1 = 400 → q + n = k → 0 ≤ q → (∀ i, 0 ≤ i → i < k → hq_g ar 189 i = d i) → (∀ i, 1 + p + q ≤ i → i < 1 + p + k → hq_g ar 190 i = C0 i) → pm_Fv (tq_P L xs) (82, 2, [(3, .int (zI q)), (0, .ref 188), (1, .int (zI p)), (2, .int (zI k))], []) σ (fun o s => o = .inl none ∧ ∃ ad' z' ar', Hp s ad' z' ar' lr ∧ od_E A C0 z0 ar0 z' ar' ∧ (∀ i, 0 ≤ i → hq_g ar' 190 i = if 1 + p + q ≤ i ∧ i < 1 + p + k then d (i - 1 - p) else hq_g ar 190 i) ∧ hq_rm σ ar lr s ar' lr) := by
  intro n
  induction n with
  | zero =>
    intro q ad z ar σ H E l9 qn q0 hd hc
    refine pm_Fv.go 2 (f' := (82, 4, [(3, _), (0, _), (1, _), (2, _)], [_, _])) rfl ?_
    refine pm_Fv.jge rfl (by omega) rfl (fun h1 => ?_) (fun h1 => ?_)
    · exact pm_Fv.ret rfl rfl rfl rfl ⟨rfl, ⟨ad, z, ar, H, E, fun i i0 => (if_neg (by omega)).symm, hq_rm_refl rfl⟩⟩
    · exact absurd h1 (by omega)
  | succ n ih =>
    intro q ad z ar σ H E l9 qn q0 hd hc
    have m0 := E.h.m0
    have mz := E.m
    have dr := hq_g_r ar 189 q
    refine pm_Fv.go 2 (f' := (82, 4, [(3, _), (0, _), (1, _), (2, _)], [_, _])) rfl ?_
    refine pm_Fv.jge rfl (by omega) rfl (fun h1 => ?_) (fun h1 => ?_)
    · exact absurd h1 (by omega)
    · refine pm_Fv.go 1 (f' := (82, 8, [(3, _), (0, _), (1, _), (2, _)], [_])) rfl ?_
      refine pm_Fv.gf rfl rfl H.m188 H.o188 rfl ?_
      refine pm_Fv.go 2 (f' := (82, 13, [(3, _), (0, _), (1, _), (2, _)], [_, _, _])) rfl ?_
      refine pm_Fv.iadd rfl ?_
      refine pm_Fv.go 1 (f' := (82, 15, [(3, _), (0, _), (1, _), (2, _)], [_, _, _])) rfl ?_
      refine pm_Fv.iadd rfl ?_
      refine pm_Fv.go 1 (f' := (82, 17, [(3, _), (0, _), (1, _), (2, _)], [_, _, _])) rfl ?_
      refine pm_Fv.gf rfl rfl H.m188 H.o188 rfl ?_
      refine pm_Fv.go 1 (f' := (82, 21, [(3, _), (0, _), (1, _), (2, _)], [_, _, _, _])) rfl ?_
      refine pm_Fv.fia H rfl (by decide) rfl rfl (by rw [l9]; omega) ?_
      refine pm_Fv.cvF rfl rfl rfl rfl (by decide) (Nat.le_of_ble_eq_true rfl) (Nat.le_of_ble_eq_true rfl) H.m1 H.o1 (ev_wE L xs H E (by omega) (by omega) dr (hc _ (by omega) (by omega))) (fun s1 q1 => ?_)
      obtain ⟨ad1, z1, ar1, H1, E1, g1, d1, m1⟩ := q1
      refine pm_Fv.inc rfl rfl (Nat.le_of_ble_eq_true rfl) ?_
      refine pm_Fv.go 1 (f' := (82, 2, [(3, _), (0, _), (1, _), (2, _)], [])) rfl ?_
      have kq := ih (q + 1) ad1 z1 ar1 s1 H1 E1 (E1.l9.trans (E.l9.symm.trans l9)) (by omega) (by omega) (fun i i0 i1 => (d1 i i0).trans (hd i i0 i1)) (fun i i0 i1 => by rw [g1 i (by omega), if_neg (by omega)]; exact hc i (by omega) i1)
      refine pm_Fv.weak (kq.mono (fun o s q' => ⟨q'.1, ?_⟩)) rfl
      obtain ⟨ad', z', ar', H', E', c', m'⟩ := q'.2
      refine ⟨ad', z', ar', H', E', fun i i0 => ?_, hq_rm_tr m1 m'⟩
      rw [c' i i0, g1 i i0]
      by_cases x : 1 + p + (q + 1) ≤ i ∧ i < 1 + p + k
      · rw [if_pos x, if_pos (by omega)]
      · rw [if_neg x]
        by_cases y : i = 1 + p + q
        · rw [if_pos y, if_pos (by omega), show i - 1 - p = q by omega, hd q q0 (by omega)]
        · rw [if_neg y, if_neg (by omega)]
theorem ev_wD (H : Hp σ ad z ar lr) (E : od_E A C0 z0 ar0 z ar) (l9 : (ar 189).1 = 400) {p k : Int} (hp : 0 ≤ p) (hk : 0 ≤ k) (hpk : p + k ≤ 400) (hc : ∀ i, 1 + p ≤ i → i < 1 + p + k → hq_g ar 190 i = C0 i) : pm_Fv (tq_P L xs) (pm_enter 82 [.ref 188, .int (zI p), .int (zI k)]) σ (fun o s => o = .inl none ∧ ∃ ad' z' ar', Hp s ad' z' ar' lr ∧ od_E A C0 z0 ar0 z' ar' ∧ (∀ i, 0 ≤ i → hq_g ar' 190 i = if 1 + p ≤ i ∧ i < 1 + p + k then hq_g ar 189 (i - 1 - p) else hq_g ar 190 i) ∧ hq_rm σ ar lr s ar' lr) := by
  show pm_Fv (tq_P L xs) (82, 0, [(0, .ref 188), (1, .int (zI p)), (2, .int (zI k))], []) σ _
  refine pm_Fv.go 2 (f' := (82, 2, [(3, _), (0, _), (1, _), (2, _)], [])) rfl ?_
  have q := ev_wDL L xs hp hk hpk (d := hq_g ar 189) k.toNat 0 ad z ar σ H E l9 (by omega) (by omega) (fun _ _ _ => rfl) (fun i i0 i1 => hc i (by omega) i1)
  rw [Int.add_zero] at q
  exact q
end MS
