/-! the desk: a cell is written -/
def hw_j (z : Nat → Int) : Nat := ((z 2 + z 3) % 61).toNat
theorem hw_j_cg {z z' : Nat → Int} (h2 : z' 2 = z 2) (h3 : z' 3 = z 3) : hw_j z' = hw_j z := by
  unfold hw_j
  rw [h2, h3]
/-- a list of cells: with it C becomes A -/
def ls_ok (S B : Int) (cc vv A C : Int → Int) : Prop := (∀ i k, 0 ≤ i → i < S → 0 ≤ k → k < S → cc i = cc k → i = k) ∧ (∀ i, 0 ≤ i → i < S → 0 ≤ cc i ∧ cc i < B ∧ vv i = A (cc i)) ∧ (∀ c, 0 ≤ c → c < B → (∀ i, 0 ≤ i → i < S → cc i ≠ c) → C c = A c)
def hw (A : Int → Int) (z : Nat → Int) (ar : Nat → Nat × (Nat → Int32)) : Prop :=
  (0 ≤ z 8 ∧ z 8 ≤ 400) ∧
  (0 ≤ z 2 ∧ z 2 < 61) ∧
  (0 ≤ z 3 ∧ z 3 ≤ 60) ∧
  (0 ≤ z 6 ∧ z 6 ≤ 90000) ∧
  (z 7 = 0 ∨ z 7 = 1) ∧
  (0 ≤ z 1 ∧ z 1 ≤ 100000) ∧
  ((ar 190).1 = (ar 191).1) ∧
  (od_L z ar) ∧
  (∀ i : Nat, i < 61 → (ar (5 + 3 * i + 1)).1 = (ar (5 + 3 * i + 2)).1 ∧ 4 ≤ (ar (5 + 3 * i + 1)).1 ∧ (ar (5 + 3 * i + 1)).1 ≤ 13602 ∧ 0 ≤ z (105 + 3 * i) ∧ z (105 + 3 * i) ≤ ((ar (5 + 3 * i + 1)).1 : Int)) ∧
  (∀ c, 0 ≤ c → c < ((ar 190).1 : Int) → 0 ≤ hq_g ar 191 c ∧ hq_g ar 191 c ≤ z 1) ∧
  (∀ c, 401 + 16 * z 8 ≤ c → c < ((ar 190).1 : Int) → hq_g ar 190 c = 0 ∧ hq_g ar 191 c = 0) ∧
  ((z 7 = 1 ∨ 0 < z 6) → z 4 = 0 ∧ 1 ≤ z 1) ∧
  ((z 7 = 1 ∨ 0 < z 6) → ∀ c, 0 ≤ c → c < 401 + 16 * z 8 → (hq_g ar 191 c = z 1 ↔ ∃ i, 0 ≤ i ∧ i < z (105 + 3 * hw_j z) ∧ hq_g ar (5 + 3 * hw_j z + 1) i = c)) ∧
  ((z 7 = 1 ∨ 0 < z 6) → ls_ok (z (105 + 3 * hw_j z)) (401 + 16 * z 8) (hq_g ar (5 + 3 * hw_j z + 1)) (hq_g ar (5 + 3 * hw_j z + 2)) A (hq_g ar 190)) ∧
  (z 7 = 0 → z 6 = 0 → ∀ c, 0 ≤ c → c < 401 + 16 * z 8 → hq_g ar 190 c = A c)
theorem hw.m0 {A : Int → Int} {z : Nat → Int} {ar : Nat → Nat × (Nat → Int32)} (h : hw A z ar) : 0 ≤ z 8 ∧ z 8 ≤ 400 := h.1
theorem hw.h2 {A : Int → Int} {z : Nat → Int} {ar : Nat → Nat × (Nat → Int32)} (h : hw A z ar) : 0 ≤ z 2 ∧ z 2 < 61 := h.2.1
theorem hw.h3 {A : Int → Int} {z : Nat → Int} {ar : Nat → Nat × (Nat → Int32)} (h : hw A z ar) : 0 ≤ z 3 ∧ z 3 ≤ 60 := h.2.2.1
theorem hw.h6 {A : Int → Int} {z : Nat → Int} {ar : Nat → Nat × (Nat → Int32)} (h : hw A z ar) : 0 ≤ z 6 ∧ z 6 ≤ 90000 := h.2.2.2.1
theorem hw.h7 {A : Int → Int} {z : Nat → Int} {ar : Nat → Nat × (Nat → Int32)} (h : hw A z ar) : z 7 = 0 ∨ z 7 = 1 := h.2.2.2.2.1
theorem hw.h1 {A : Int → Int} {z : Nat → Int} {ar : Nat → Nat × (Nat → Int32)} (h : hw A z ar) : 0 ≤ z 1 ∧ z 1 ≤ 100000 := h.2.2.2.2.2.1
theorem hw.ln {A : Int → Int} {z : Nat → Int} {ar : Nat → Nat × (Nat → Int32)} (h : hw A z ar) : (ar 190).1 = (ar 191).1 := h.2.2.2.2.2.2.1
theorem hw.le {A : Int → Int} {z : Nat → Int} {ar : Nat → Nat × (Nat → Int32)} (h : hw A z ar) : od_L z ar := h.2.2.2.2.2.2.2.1
theorem hw.cap {A : Int → Int} {z : Nat → Int} {ar : Nat → Nat × (Nat → Int32)} (h : hw A z ar) : ∀ i : Nat, i < 61 → (ar (5 + 3 * i + 1)).1 = (ar (5 + 3 * i + 2)).1 ∧ 4 ≤ (ar (5 + 3 * i + 1)).1 ∧ (ar (5 + 3 * i + 1)).1 ≤ 13602 ∧ 0 ≤ z (105 + 3 * i) ∧ z (105 + 3 * i) ≤ ((ar (5 + 3 * i + 1)).1 : Int) := h.2.2.2.2.2.2.2.2.1
theorem hw.st {A : Int → Int} {z : Nat → Int} {ar : Nat → Nat × (Nat → Int32)} (h : hw A z ar) : ∀ c, 0 ≤ c → c < ((ar 190).1 : Int) → 0 ≤ hq_g ar 191 c ∧ hq_g ar 191 c ≤ z 1 := h.2.2.2.2.2.2.2.2.2.1
theorem hw.fr {A : Int → Int} {z : Nat → Int} {ar : Nat → Nat × (Nat → Int32)} (h : hw A z ar) : ∀ c, 401 + 16 * z 8 ≤ c → c < ((ar 190).1 : Int) → hq_g ar 190 c = 0 ∧ hq_g ar 191 c = 0 := h.2.2.2.2.2.2.2.2.2.2.1
theorem hw.gd {A : Int → Int} {z : Nat → Int} {ar : Nat → Nat × (Nat → Int32)} (h : hw A z ar) : (z 7 = 1 ∨ 0 < z 6) → z 4 = 0 ∧ 1 ≤ z 1 := h.2.2.2.2.2.2.2.2.2.2.2.1
theorem hw.gs {A : Int → Int} {z : Nat → Int} {ar : Nat → Nat × (Nat → Int32)} (h : hw A z ar) : (z 7 = 1 ∨ 0 < z 6) → ∀ c, 0 ≤ c → c < 401 + 16 * z 8 → (hq_g ar 191 c = z 1 ↔ ∃ i, 0 ≤ i ∧ i < z (105 + 3 * hw_j z) ∧ hq_g ar (5 + 3 * hw_j z + 1) i = c) := h.2.2.2.2.2.2.2.2.2.2.2.2.1
theorem hw.gl {A : Int → Int} {z : Nat → Int} {ar : Nat → Nat × (Nat → Int32)} (h : hw A z ar) : (z 7 = 1 ∨ 0 < z 6) → ls_ok (z (105 + 3 * hw_j z)) (401 + 16 * z 8) (hq_g ar (5 + 3 * hw_j z + 1)) (hq_g ar (5 + 3 * hw_j z + 2)) A (hq_g ar 190) := h.2.2.2.2.2.2.2.2.2.2.2.2.2.1
theorem hw.no {A : Int → Int} {z : Nat → Int} {ar : Nat → Nat × (Nat → Int32)} (h : hw A z ar) : z 7 = 0 → z 6 = 0 → ∀ c, 0 ≤ c → c < 401 + 16 * z 8 → hq_g ar 190 c = A c := h.2.2.2.2.2.2.2.2.2.2.2.2.2.2
theorem hw.mk {A : Int → Int} {z : Nat → Int} {ar : Nat → Nat × (Nat → Int32)} (h_m0 : 0 ≤ z 8 ∧ z 8 ≤ 400) (h_h2 : 0 ≤ z 2 ∧ z 2 < 61) (h_h3 : 0 ≤ z 3 ∧ z 3 ≤ 60) (h_h6 : 0 ≤ z 6 ∧ z 6 ≤ 90000) (h_h7 : z 7 = 0 ∨ z 7 = 1) (h_h1 : 0 ≤ z 1 ∧ z 1 ≤ 100000) (h_ln : (ar 190).1 = (ar 191).1) (h_le : od_L z ar) (h_cap : ∀ i : Nat, i < 61 → (ar (5 + 3 * i + 1)).1 = (ar (5 + 3 * i + 2)).1 ∧ 4 ≤ (ar (5 + 3 * i + 1)).1 ∧ (ar (5 + 3 * i + 1)).1 ≤ 13602 ∧ 0 ≤ z (105 + 3 * i) ∧ z (105 + 3 * i) ≤ ((ar (5 + 3 * i + 1)).1 : Int)) (h_st : ∀ c, 0 ≤ c → c < ((ar 190).1 : Int) → 0 ≤ hq_g ar 191 c ∧ hq_g ar 191 c ≤ z 1) (h_fr : ∀ c, 401 + 16 * z 8 ≤ c → c < ((ar 190).1 : Int) → hq_g ar 190 c = 0 ∧ hq_g ar 191 c = 0) (h_gd : (z 7 = 1 ∨ 0 < z 6) → z 4 = 0 ∧ 1 ≤ z 1) (h_gs : (z 7 = 1 ∨ 0 < z 6) → ∀ c, 0 ≤ c → c < 401 + 16 * z 8 → (hq_g ar 191 c = z 1 ↔ ∃ i, 0 ≤ i ∧ i < z (105 + 3 * hw_j z) ∧ hq_g ar (5 + 3 * hw_j z + 1) i = c)) (h_gl : (z 7 = 1 ∨ 0 < z 6) → ls_ok (z (105 + 3 * hw_j z)) (401 + 16 * z 8) (hq_g ar (5 + 3 * hw_j z + 1)) (hq_g ar (5 + 3 * hw_j z + 2)) A (hq_g ar 190)) (h_no : z 7 = 0 → z 6 = 0 → ∀ c, 0 ≤ c → c < 401 + 16 * z 8 → hq_g ar 190 c = A c) : hw A z ar := ⟨h_m0, h_h2, h_h3, h_h6, h_h7, h_h1, h_ln, h_le, h_cap, h_st, h_fr, h_gd, h_gs, h_gl, h_no⟩
theorem hw.jj {A : Int → Int} {z : Nat → Int} {ar : Nat → Nat × (Nat → Int32)} (h : hw A z ar) : hw_j z < 61 ∧ (hw_j z : Int) = (z 2 + z 3) % 61 := by
  have := h.h2
  have := h.h3
  unfold hw_j
  omega
theorem ls_len {S B : Int} {cc vv A C : Int → Int} (h : ls_ok S B cc vv A C) (s0 : 0 ≤ S) (b0 : 0 ≤ B) : S ≤ B := fs_pg s0 b0 (fun p p0 p1 => ⟨(h.2.1 p p0 p1).1, (h.2.1 p p0 p1).2.1⟩) h.1
theorem hw.b0 {A : Int → Int} {z : Nat → Int} {ar : Nat → Nat × (Nat → Int32)} (h : hw A z ar) (h6 : 0 < z 6) : hw A (hq_u z 7 1) ar := by
  have g : z 7 = 1 ∨ 0 < z 6 := Or.inr h6
  exact hw.mk h.m0 h.h2 h.h3 h.h6 (Or.inr rfl) h.h1 h.ln h.le (fun i hi => by
    rw [hq_u_ne (show 105 + 3 * i ≠ 7 by omega)]
    exact h.cap i hi) h.st h.fr (fun _ => h.gd g) (fun _ => by
    have q := h.gs g
    rw [show hw_j (hq_u z 7 1) = hw_j z from rfl, hq_u_ne (show 105 + 3 * hw_j z ≠ 7 by omega)]
    exact q) (fun _ => by
    have q := h.gl g
    rw [show hw_j (hq_u z 7 1) = hw_j z from rfl, hq_u_ne (show 105 + 3 * hw_j z ≠ 7 by omega)]
    exact q) (fun q _ => absurd q (by rw [hq_u_at]; decide))
def hw_z (z : Nat → Int) : Nat → Int := hq_u (hq_u (hq_u (hq_u z 7 1) 4 0) 1 (z 1 + 1)) (105 + 3 * hw_j z) 0
theorem hw_z_o {z : Nat → Int} {k : Nat} (h1 : k ≠ 1) (h4 : k ≠ 4) (h7 : k ≠ 7) (hs : k ≠ (105 + 3 * hw_j z)) : hw_z z k = z k := by
  unfold hw_z
  rw [hq_u_ne hs, hq_u_ne h1, hq_u_ne h4, hq_u_ne h7]
theorem hw.b1 {A : Int → Int} {z : Nat → Int} {ar : Nat → Nat × (Nat → Int32)} (h : hw A z ar) (h7 : z 7 = 0) (h6 : z 6 = 0) (h1 : z 1 < 100000) : hw A (hw_z z) ar := by
  have z1 : hw_z z 1 = z 1 + 1 := by
    unfold hw_z
    rw [hq_u_ne (by omega), hq_u_at]
  have z4 : hw_z z 4 = 0 := by
    unfold hw_z
    rw [hq_u_ne (by omega), hq_u_ne (by decide), hq_u_at]
  have z7 : hw_z z 7 = 1 := by
    unfold hw_z
    rw [hq_u_ne (by omega), hq_u_ne (by decide), hq_u_ne (by decide), hq_u_at]
  have z2 : hw_z z 2 = z 2 := hw_z_o (by decide) (by decide) (by decide) (by omega)
  have z3 : hw_z z 3 = z 3 := hw_z_o (by decide) (by decide) (by decide) (by omega)
  have z6 : hw_z z 6 = z 6 := hw_z_o (by decide) (by decide) (by decide) (by omega)
  have z8 : hw_z z 8 = z 8 := hw_z_o (by decide) (by decide) (by decide) (by omega)
  have jj : hw_j (hw_z z) = hw_j z := by
    unfold hw_j
    rw [z2, z3]
  have zz : hw_z z (105 + 3 * hw_j z) = 0 := by
    unfold hw_z
    rw [hq_u_at]
  have a1 := h.h1
  refine hw.mk (by rw [z8]; exact h.m0) (by rw [z2]; exact h.h2) (by rw [z3]; exact h.h3) (by rw [z6]; exact h.h6) (Or.inr z7) (by rw [z1]; omega) h.ln (by unfold od_L; rw [z8]; exact h.le) (fun i hi => ?_) (fun c c0 c1 => ?_) (fun c c0 c1 => h.fr c (by rw [z8] at c0; exact c0) c1) (fun _ => by rw [z4, z1]; omega) (fun _ c c0 c1 => ?_) (fun _ => ?_) (fun q => absurd q (by rw [z7]; decide))
  · have q := h.cap i hi
    by_cases e : i = hw_j z
    · rw [e] at q ⊢
      rw [zz]
      omega
    · rw [hw_z_o (by omega) (by omega) (by omega) (by omega)]
      exact q
  · have q := h.st c c0 c1
    rw [z1]
    omega
  · rw [z8] at c1
    rw [jj, zz, z1]
    constructor
    · intro q
      have := h.st c c0 (by have := h.le.1; omega)
      omega
    · intro ⟨i, i0, i1, _⟩
      omega
  · rw [jj, zz, z8]
    exact ⟨fun i k i0 i1 => absurd i1 (by omega), fun i i0 i1 => absurd i1 (by omega), fun c c0 c1 _ => h.no h7 h6 c c0 c1⟩
theorem hw.ws {A : Int → Int} {z : Nat → Int} {ar : Nat → Nat × (Nat → Int32)} (h : hw A z ar) (h7 : z 7 = 1) {c v : Int} (c0 : 0 ≤ c) (c1 : c < 401 + 16 * z 8) (hv : -2147483648 ≤ v ∧ v ≤ 2147483647) (hs : hq_g ar 191 c = z 1) : hw A z (hq_w ar 190 c v) := by
  have g : z 7 = 1 ∨ 0 < z 6 := Or.inl h7
  have jj := h.jj
  have o : ∀ r, r ≠ 190 → ∀ i, hq_g (hq_w ar 190 c v) r i = hq_g ar r i := fun r hr i => hq_g_ne (hq_w_ne hr) i
  refine hw.mk h.m0 h.h2 h.h3 h.h6 h.h7 h.h1 (by rw [hq_w_len, hq_w_len]; exact h.ln) (by unfold od_L; rw [hq_w_len]; exact h.le) (fun i hi => by rw [hq_w_len, hq_w_len]; exact h.cap i hi) (fun x x0 x1 => ?_) (fun x x0 x1 => ?_) h.gd (fun _ x x0 x1 => ?_) (fun _ => ?_) (fun q => absurd q (by omega))
  · rw [hq_w_len] at x1
    rw [o 191 (by decide)]
    exact h.st x x0 x1
  · rw [hq_w_len] at x1
    rw [o 191 (by decide), hq_w_g c0 (by omega) hv, if_neg (by omega)]
    exact h.fr x x0 x1
  · rw [o 191 (by decide), h.gs g x x0 x1]
    constructor
    · intro ⟨i, i0, i1, i2⟩
      exact ⟨i, i0, i1, by rw [o _ (by omega)]; exact i2⟩
    · intro ⟨i, i0, i1, i2⟩
      exact ⟨i, i0, i1, by rw [o _ (by omega)] at i2; exact i2⟩
  · have l := h.gl g
    refine ⟨fun i k i0 i1 k0 k1 e => l.1 i k i0 i1 k0 k1 (by rw [o _ (by omega), o _ (by omega)] at e; exact e), fun i i0 i1 => by rw [o _ (by omega), o _ (by omega)]; exact l.2.1 i i0 i1, fun x x0 x1 hx => ?_⟩
    rw [hq_w_g c0 x0 hv]
    by_cases e : x = c
    · obtain ⟨i, i0, i1, i2⟩ := (h.gs g c c0 c1).mp hs
      exact absurd (by rw [o _ (by omega), i2, e]) (hx i i0 i1)
    · rw [if_neg e]
      exact l.2.2 x x0 x1 (fun i i0 i1 q => hx i i0 i1 (by rw [o _ (by omega)]; exact q))
theorem hw.wu {A : Int → Int} {z : Nat → Int} {ar ar2 : Nat → Nat × (Nat → Int32)} (h : hw A z ar) (h7 : z 7 = 1) {c v : Int} (c0 : 0 ≤ c) (c1 : c < 401 + 16 * z 8) (hv : -2147483648 ≤ v ∧ v ≤ 2147483647) (hs : ¬ hq_g ar 191 c = z 1) (K : st_k (hw_j z) c (hq_g ar 190 c) z (hq_w ar 191 c (z 1)) ar2) : hw A (hq_u z (105 + 3 * hw_j z) (z (105 + 3 * hw_j z) + 1)) (hq_w ar2 190 c v) := by
  have g : z 7 = 1 ∨ 0 < z 6 := Or.inl h7
  have jj := h.jj
  have a1 := h.h1
  obtain ⟨K1, K2, K3, K4, K5, K6⟩ := K
  have cpj := h.cap (hw_j z) jj.1
  have e190 : ∀ i, 0 ≤ i → hq_g (hq_w ar2 190 c v) 190 i = if i = c then v else hq_g ar 190 i := by
    intro i i0
    rw [hq_w_g c0 i0 hv, hq_g_ne (K1 190 (by omega) (by omega)), hq_g_ne (hq_w_ne (by decide))]
  have e191 : ∀ i, 0 ≤ i → hq_g (hq_w ar2 190 c v) 191 i = if i = c then z 1 else hq_g ar 191 i := by
    intro i i0
    rw [hq_g_ne (hq_w_ne (by decide)), hq_g_ne (K1 191 (by omega) (by omega)), hq_w_g c0 i0 (by omega)]
  have l190 : (hq_w ar2 190 c v 190).1 = (ar 190).1 := by rw [hq_w_len, K1 190 (by omega) (by omega), hq_w_len]
  have l191 : (hq_w ar2 190 c v 191).1 = (ar 191).1 := by rw [hq_w_len, K1 191 (by omega) (by omega), hq_w_len]
  have ec : ∀ i, 0 ≤ i → i ≤ z (105 + 3 * hw_j z) → hq_g (hq_w ar2 190 c v) (5 + 3 * hw_j z + 1) i = (if i = z (105 + 3 * hw_j z) then c else hq_g ar (5 + 3 * hw_j z + 1) i) ∧ hq_g (hq_w ar2 190 c v) (5 + 3 * hw_j z + 2) i = (if i = z (105 + 3 * hw_j z) then hq_g ar 190 c else hq_g ar (5 + 3 * hw_j z + 2) i) := by
    intro i i0 i1
    have k := K2 i i0 i1
    rw [hq_g_ne (hq_w_ne (ar := ar) (show (5 + 3 * hw_j z + 1) ≠ 191 by omega)), hq_g_ne (hq_w_ne (ar := ar) (show (5 + 3 * hw_j z + 2) ≠ 191 by omega))] at k
    rw [hq_g_ne (hq_w_ne (show (5 + 3 * hw_j z + 1) ≠ 190 by omega)), hq_g_ne (hq_w_ne (show (5 + 3 * hw_j z + 2) ≠ 190 by omega))]
    exact k
  have zj : hw_j (hq_u z (105 + 3 * hw_j z) (z (105 + 3 * hw_j z) + 1)) = hw_j z := hw_j_cg (hq_u_ne (by omega)) (hq_u_ne (by omega))
  have zo : ∀ k, k < 100 → hq_u z (105 + 3 * hw_j z) (z (105 + 3 * hw_j z) + 1) k = z k := fun k hk => hq_u_ne (by omega)
  have l := h.gl g
  have nin : ∀ i, 0 ≤ i → i < z (105 + 3 * hw_j z) → hq_g ar (5 + 3 * hw_j z + 1) i ≠ c := fun i i0 i1 e => hs ((h.gs g c c0 c1).mpr ⟨i, i0, i1, e⟩)
  refine hw.mk (by rw [zo 8 (by decide)]; exact h.m0) (by rw [zo 2 (by decide)]; exact h.h2) (by rw [zo 3 (by decide)]; exact h.h3) (by rw [zo 6 (by decide)]; exact h.h6) (by rw [zo 7 (by decide)]; exact h.h7) (by rw [zo 1 (by decide)]; exact h.h1) (by rw [l190, l191]; exact h.ln) (by unfold od_L; rw [l190, zo 8 (by decide)]; exact h.le) (fun i hi => ?_) (fun x x0 x1 => ?_) (fun x x0 x1 => ?_) (fun _ => by rw [zo 4 (by decide), zo 1 (by decide)]; exact h.gd g) (fun _ x x0 x1 => ?_) (fun _ => ?_) (fun q => absurd q (by rw [zo 7 (by decide)]; omega))
  · by_cases e : i = hw_j z
    · rw [e, hq_u_at, hq_w_len, hq_w_len]
      omega
    · rw [hq_u_ne (by omega), hq_w_len, hq_w_len, K1 _ (by omega) (by omega), K1 _ (by omega) (by omega), hq_w_len, hq_w_len]
      exact h.cap i hi
  · rw [l190] at x1
    have q := h.st x x0 x1
    rw [e191 x x0, zo 1 (by decide)]
    split <;> omega
  · rw [l190] at x1
    rw [zo 8 (by decide)] at x0
    have q := h.fr x x0 x1
    have m0 := h.m0
    rw [e191 x (by omega), e190 x (by omega), if_neg (by omega), if_neg (by omega)]
    exact q
  · rw [zo 8 (by decide)] at x1
    rw [zj, hq_u_at, e191 x x0, zo 1 (by decide)]
    by_cases e : x = c
    · rw [if_pos e]
      exact ⟨fun _ => ⟨z (105 + 3 * hw_j z), by omega, by omega, by rw [(ec _ (by omega) (Int.le_refl _)).1, if_pos rfl, e]⟩, fun _ => rfl⟩
    · rw [if_neg e, h.gs g x x0 x1]
      constructor
      · intro ⟨i, i0, i1, i2⟩
        exact ⟨i, i0, by omega, by rw [(ec i i0 (by omega)).1, if_neg (by omega)]; exact i2⟩
      · intro ⟨i, i0, i1, i2⟩
        rw [(ec i i0 (by omega)).1] at i2
        by_cases f : i = z (105 + 3 * hw_j z)
        · rw [if_pos f] at i2
          exact absurd i2.symm e
        · rw [if_neg f] at i2
          exact ⟨i, i0, by omega, i2⟩
  · rw [zj, hq_u_at, zo 8 (by decide)]
    refine ⟨fun i k i0 i1 k0 k1 e => ?_, fun i i0 i1 => ?_, fun x x0 x1 hx => ?_⟩
    · rw [(ec i i0 (by omega)).1, (ec k k0 (by omega)).1] at e
      by_cases f : i = z (105 + 3 * hw_j z)
      · by_cases f2 : k = z (105 + 3 * hw_j z)
        · omega
        · rw [if_pos f, if_neg f2] at e
          exact absurd e.symm (nin k k0 (by omega))
      · by_cases f2 : k = z (105 + 3 * hw_j z)
        · rw [if_neg f, if_pos f2] at e
          exact absurd e (nin i i0 (by omega))
        · rw [if_neg f, if_neg f2] at e
          exact l.1 i k i0 (by omega) k0 (by omega) e
    · rw [(ec i i0 (by omega)).1, (ec i i0 (by omega)).2]
      by_cases f : i = z (105 + 3 * hw_j z)
      · rw [if_pos f, if_pos f]
        exact ⟨c0, c1, l.2.2 c c0 c1 nin⟩
      · rw [if_neg f, if_neg f]
        exact l.2.1 i i0 (by omega)
    · rw [e190 x x0]
      by_cases e : x = c
      · exact absurd (by rw [(ec _ (by omega) (Int.le_refl _)).1, if_pos rfl, e]) (hx (z (105 + 3 * hw_j z)) (by omega) (by omega))
      · rw [if_neg e]
        refine l.2.2 x x0 x1 (fun i i0 i1 q => hx i i0 (by omega) ?_)
        rw [(ec i i0 (by omega)).1, if_neg (by omega)]
        exact q
/-- what write leaves -/
def wr_f (c v : Int) (z : Nat → Int) (ar : Nat → Nat × (Nat → Int32)) (z' : Nat → Int) (ar' : Nat → Nat × (Nat → Int32)) : Prop := (∀ i, 0 ≤ i → hq_g ar' 190 i = if i = c then v else hq_g ar 190 i) ∧ (∀ k, k ≠ 1 → k ≠ 4 → k ≠ 7 → k ≠ (105 + 3 * hw_j z) → z' k = z k) ∧ (∀ r, r ≠ 190 → r ≠ 191 → r ≠ (5 + 3 * hw_j z + 1) → r ≠ (5 + 3 * hw_j z + 2) → ar' r = ar r) ∧ (ar' 190).1 = (ar 190).1 ∧ z' 7 = (if hq_g ar 190 c = v then z 7 else 1) ∧ (hq_g ar 190 c = v ∨ z 7 = 1 ∨ 0 < z 6 → z' 1 = z 1 ∧ z' 4 = z 4) ∧ (hq_g ar 190 c ≠ v → z 7 = 0 → z 6 = 0 → z' 1 = z 1 + 1 ∧ z' 4 = 0) ∧ (hq_g ar 190 c = v → z' = z ∧ ar' = ar)
section MS
variable (L : Nat) (xs : Nat → Int32)
variable {σ : pm_S} {ad : Nat → Nat} {z : Nat → Int} {ar : Nat → Nat × (Nat → Int32)} {lr : Nat → Nat × (Nat → Int64)}
theorem ev_begC (H : Hp σ ad z ar lr) {A : Int → Int} (h : hw A z ar) (h7 : z 7 = 0) (hz1 : z 1 < 100000) : pm_Fv (tq_P L xs) (pm_enter 49 [.ref 1]) σ (fun o s => o = .inl none ∧ (∃ z', Hp s ad z' ar lr ∧ hw A z' ar ∧ z' 7 = 1 ∧ (∀ k, k ≠ 1 → k ≠ 4 → k ≠ 7 → k ≠ (105 + 3 * hw_j z) → z' k = z k) ∧ (0 < z 6 → z' 1 = z 1 ∧ z' 4 = z 4) ∧ (z 6 = 0 → z' 1 = z 1 + 1 ∧ z' 4 = 0)) ∧ s.2 = σ.2) := by
  show pm_Fv (tq_P L xs) (49, 0, [(0, .ref 1)], []) σ _
  have h6 := h.h6
  have jj := h.jj
  by_cases e : z 6 = 0
  · skip
    refine pm_Fv.go 2 (f' := (49, 2, [(0, _)], [_, _])) rfl ?_
    refine pm_Fv.pz H 7 rfl rfl rfl (by decide) rfl rfl (Nat.le_of_ble_eq_true rfl) rfl (by decide) rfl (fun s1 H1 r1 => ?_)
    refine pm_Fv.go 1 (f' := (49, 6, [(0, _)], [_])) rfl ?_
    refine pm_Fv.gf rfl rfl H1.m1 H1.o1 rfl ?_
    rw [show hq_u z 7 1 6 = z 6 from rfl]
    refine pm_Fv.zne rfl (by omega) rfl (fun h1 => ?_) (fun h1 => ?_)
    · exact absurd h1 (by omega)
    · refine pm_Fv.go 2 (f' := (49, 14, [(0, _)], [_, _])) rfl ?_
      refine pm_Fv.pz H1 4 rfl rfl rfl (by decide) rfl rfl (Nat.le_of_ble_eq_true rfl) rfl (by decide) rfl (fun s2 H2 r2 => ?_)
      refine pm_Fv.go 2 (f' := (49, 19, [(0, _)], [_, _])) rfl ?_
      refine pm_Fv.gf rfl rfl H2.m1 H2.o1 rfl ?_
      rw [show hq_u (hq_u z 7 1) 4 0 1 = z 1 from rfl]
      refine pm_Fv.go 1 (f' := (49, 23, [(0, _)], [_, _, _])) rfl ?_
      refine pm_Fv.iadd rfl ?_
      refine pm_Fv.pz H2 1 rfl rfl rfl (by decide) rfl rfl (Nat.le_of_ble_eq_true rfl) rfl (by decide) rfl (fun s3 H3 r3 => ?_)
      refine pm_Fv.go 2 (f' := (49, 29, [(0, _)], [_, _])) rfl ?_
      refine pm_Fv.gf rfl rfl H3.m1 H3.o1 rfl ?_
      rw [show hq_u (hq_u (hq_u z 7 1) 4 0) 1 (z 1 + 1) 3 = z 3 from rfl]
      refine pm_Fv.cv rfl rfl rfl rfl (by decide) (Nat.le_of_ble_eq_true rfl) (Nat.le_of_ble_eq_true rfl) H3.m1 H3.o1 (ev_hstep L xs H3 h.h2 h.h3 jj.2) ?_
      refine pm_Fv.go 1 (f' := (49, 36, [(0, _)], [_, _])) rfl ?_
      refine pm_Fv.psz H3 jj.1 rfl rfl rfl rfl (by decide) (fun s4 H4 r4 => ?_)
      refine pm_Fv.ret rfl rfl rfl rfl ⟨rfl, ⟨hw_z z, H4, h.b1 h7 e hz1, ?_, fun k k1 k2 k3 k4 => hw_z_o k1 k2 k3 k4, fun q => absurd q (by omega), fun _ => ⟨?_, ?_⟩⟩, (r4.trans (r3.trans (r2.trans r1)))⟩
      · unfold hw_z
        rw [hq_u_ne (by omega), hq_u_ne (by decide), hq_u_ne (by decide), hq_u_at]
      · unfold hw_z
        rw [hq_u_ne (by omega), hq_u_at]
      · unfold hw_z
        rw [hq_u_ne (by omega), hq_u_ne (by decide), hq_u_at]
  · skip
    refine pm_Fv.go 2 (f' := (49, 2, [(0, _)], [_, _])) rfl ?_
    refine pm_Fv.pz H 7 rfl rfl rfl (by decide) rfl rfl (Nat.le_of_ble_eq_true rfl) rfl (by decide) rfl (fun s1 H1 r1 => ?_)
    refine pm_Fv.go 1 (f' := (49, 6, [(0, _)], [_])) rfl ?_
    refine pm_Fv.gf rfl rfl H1.m1 H1.o1 rfl ?_
    rw [show hq_u z 7 1 6 = z 6 from rfl]
    refine pm_Fv.zne rfl (by omega) rfl (fun h1 => ?_) (fun h1 => ?_)
    · exact pm_Fv.ret rfl rfl rfl rfl ⟨rfl, ⟨hq_u z 7 1, H1, h.b0 (by omega), rfl, fun k k1 k2 k3 k4 => hq_u_ne k3, fun _ => ⟨rfl, rfl⟩, fun q => absurd q e⟩, r1⟩
    · exact absurd h1 (by omega)
theorem ev_writeT (H : Hp σ ad z ar lr) {A : Int → Int} (h : hw A z ar) (h7 : z 7 = 1) {c v : Int} (ne : hq_g ar 190 c ≠ v) (c0 : 0 ≤ c) (c1 : c < 401 + 16 * z 8) (hv : -2147483648 ≤ v ∧ v ≤ 2147483647) : pm_Fv (tq_P L xs) (48, 22, [(0, .ref 1), (1, .int (zI c)), (2, .int (zI v))], []) σ (fun o s => o = .inl none ∧ ∃ ad' z' ar', Hp s ad' z' ar' lr ∧ hw A z' ar' ∧ wr_f c v z ar z' ar' ∧ hq_rm σ ar lr s ar' lr) := by
  have jj := h.jj
  have le := h.le
  have ln := h.ln
  unfold od_L at le
  have sr := hq_g_r ar 191 c
  have a1 := h.h1
  have m0 := h.m0
  by_cases e : hq_g ar 191 c = z 1
  · skip
    refine pm_Fv.go 1 (f' := (48, 23, [(0, _), (1, _), (2, _)], [_])) rfl ?_
    refine pm_Fv.gf rfl rfl H.m1 H.o1 rfl ?_
    refine pm_Fv.go 1 (f' := (48, 27, [(0, _), (1, _), (2, _)], [_, _])) rfl ?_
    refine pm_Fv.dia H rfl (by decide) rfl (by omega) ?_
    refine pm_Fv.go 1 (f' := (48, 29, [(0, _), (1, _), (2, _)], [_, _])) rfl ?_
    refine pm_Fv.gf rfl rfl H.m1 H.o1 rfl ?_
    refine pm_Fv.jeq rfl (by omega) rfl (fun h1 => ?_) (fun h1 => ?_)
    · refine pm_Fv.go 1 (f' := (48, 64, [(0, _), (1, _), (2, _)], [_])) rfl ?_
      refine pm_Fv.gf rfl rfl H.m1 H.o1 rfl ?_
      refine pm_Fv.go 2 (f' := (48, 69, [(0, _), (1, _), (2, _)], [_, _, _])) rfl ?_
      refine pm_Fv.dis H rfl (by decide) rfl (by omega) (fun s1 H1 r1 => ?_)
      refine pm_Fv.ret rfl rfl rfl rfl ⟨rfl, ⟨_, _, _, H1, h.ws h7 c0 c1 hv e, ⟨fun i i0 => hq_w_g c0 i0 hv, fun k _ _ _ _ => rfl, fun r r1 _ _ _ => hq_w_ne r1, hq_w_len _ _ _ _ _, ?_, fun _ => ⟨rfl, rfl⟩, fun _ q => absurd q (by omega), fun q => absurd q ne⟩, hq_rm_len r1 (fun r => hq_w_len _ _ _ _ _) rfl⟩⟩
      split <;> omega
    · exact absurd h1 (by omega)
  · have g : z 7 = 1 ∨ 0 < z 6 := Or.inl h7
    have cp := h.cap (hw_j z) jj.1
    have sl := ls_len (h.gl g) cp.2.2.2.1 (by omega)
    have cr := hq_g_r ar 190 c
    refine pm_Fv.go 1 (f' := (48, 23, [(0, _), (1, _), (2, _)], [_])) rfl ?_
    refine pm_Fv.gf rfl rfl H.m1 H.o1 rfl ?_
    refine pm_Fv.go 1 (f' := (48, 27, [(0, _), (1, _), (2, _)], [_, _])) rfl ?_
    refine pm_Fv.dia H rfl (by decide) rfl (by omega) ?_
    refine pm_Fv.go 1 (f' := (48, 29, [(0, _), (1, _), (2, _)], [_, _])) rfl ?_
    refine pm_Fv.gf rfl rfl H.m1 H.o1 rfl ?_
    refine pm_Fv.jeq rfl (by omega) rfl (fun h1 => ?_) (fun h1 => ?_)
    · exact absurd h1 (by omega)
    · refine pm_Fv.go 1 (f' := (48, 36, [(0, _), (1, _), (2, _)], [_])) rfl ?_
      refine pm_Fv.gf rfl rfl H.m1 H.o1 rfl ?_
      refine pm_Fv.go 2 (f' := (48, 41, [(0, _), (1, _), (2, _)], [_, _, _])) rfl ?_
      refine pm_Fv.gf rfl rfl H.m1 H.o1 rfl ?_
      refine pm_Fv.dis H (r := 191) rfl (by decide) rfl (by omega) (fun s1 H1 r1 => ?_)
      refine pm_Fv.go 2 (f' := (48, 47, [(0, _), (1, _), (2, _)], [_, _])) rfl ?_
      refine pm_Fv.gf rfl rfl H1.m1 H1.o1 rfl ?_
      refine pm_Fv.cv rfl rfl rfl rfl (by decide) (Nat.le_of_ble_eq_true rfl) (Nat.le_of_ble_eq_true rfl) H1.m1 H1.o1 (ev_hstep L xs H1 h.h2 h.h3 jj.2) ?_
      refine pm_Fv.go 2 (f' := (48, 55, [(0, _), (1, _), (2, _)], [_, _, _])) rfl ?_
      refine pm_Fv.gf rfl rfl H1.m1 H1.o1 rfl ?_
      refine pm_Fv.go 1 (f' := (48, 59, [(0, _), (1, _), (2, _)], [_, _, _, _])) rfl ?_
      refine pm_Fv.dia H1 (r := 190) rfl (by decide) rfl (by rw [hq_w_len]; omega) ?_
      rw [hq_g_ne (hq_w_ne (ar := ar) (show 190 ≠ 191 by decide))]
      have kp := ev_keepS L xs jj.1 H1 (c := c) (v := hq_g ar 190 c) (by omega) cr (show 0 ≤ z (105 + 3 * hw_j z) by omega) (by rw [hq_w_len]; omega) (by omega) (by rw [hq_w_len, hq_w_len]; exact cp.1) (by rw [hq_w_len]; exact cp.2.1) (by rw [hq_w_len]; exact cp.2.2.1)
      refine pm_Fv.cvF rfl rfl rfl rfl (by decide) (Nat.le_of_ble_eq_true rfl) (Nat.le_of_ble_eq_true rfl) (H1.ms jj.1) (H1.os jj.1) kp (fun s2 q2 => ?_)
      obtain ⟨ad2, ar2, H2, K, r2⟩ := q2
      have l190 : (ar2 190).1 = (ar 190).1 := by rw [K.1 190 (by omega) (by omega), hq_w_len]
      refine pm_Fv.go 1 (f' := (48, 64, [(0, _), (1, _), (2, _)], [_])) rfl ?_
      refine pm_Fv.gf rfl rfl H2.m1 H2.o1 rfl ?_
      refine pm_Fv.go 2 (f' := (48, 69, [(0, _), (1, _), (2, _)], [_, _, _])) rfl ?_
      refine pm_Fv.dis H2 (r := 190) rfl (by decide) rfl (by rw [l190]; omega) (fun s3 H3 r3 => ?_)
      refine pm_Fv.ret rfl rfl rfl rfl ⟨rfl, ⟨_, _, _, H3, h.wu h7 c0 c1 hv e K, ⟨fun i i0 => ?_, fun k _ _ _ k4 => hq_u_ne k4, fun r r1 r2 r3 r4 => ?_, ?_, ?_, fun _ => ⟨hq_u_ne (by omega), hq_u_ne (by omega)⟩, fun _ q => absurd q (by omega), fun q => absurd q ne⟩, ?_⟩⟩
      · rw [hq_w_g c0 i0 hv, hq_g_ne (K.1 190 (by omega) (by omega)), hq_g_ne (hq_w_ne (by decide))]
      · rw [hq_w_ne r1, K.1 r r3 r4, hq_w_ne r2]
      · rw [hq_w_len, l190]
      · rw [hq_u_ne (by omega)]
        split <;> omega
      · refine hq_rm_tr (hq_rm_len r1 (fun r => hq_w_len _ _ _ _ _) rfl) (hq_rm_tr r2 (hq_rm_len r3 (fun r => hq_w_len _ _ _ _ _) rfl))
theorem ev_write (H : Hp σ ad z ar lr) {A : Int → Int} (h : hw A z ar) (hz1 : z 1 < 100000) {c v : Int} (c0 : 0 ≤ c) (c1 : c < 401 + 16 * z 8) (hv : -2147483648 ≤ v ∧ v ≤ 2147483647) : pm_Fv (tq_P L xs) (pm_enter 48 [.ref 1, .int (zI c), .int (zI v)]) σ (fun o s => o = .inl none ∧ ∃ ad' z' ar', Hp s ad' z' ar' lr ∧ hw A z' ar' ∧ wr_f c v z ar z' ar' ∧ hq_rm σ ar lr s ar' lr) := by
  show pm_Fv (tq_P L xs) (48, 0, [(0, .ref 1), (1, .int (zI c)), (2, .int (zI v))], []) σ _
  have le := h.le
  unfold od_L at le
  have cr := hq_g_r ar 190 c
  have m0 := h.m0
  by_cases e : hq_g ar 190 c = v
  · skip
    refine pm_Fv.go 1 (f' := (48, 1, [(0, _), (1, _), (2, _)], [_])) rfl ?_
    refine pm_Fv.gf rfl rfl H.m1 H.o1 rfl ?_
    refine pm_Fv.go 1 (f' := (48, 5, [(0, _), (1, _), (2, _)], [_, _])) rfl ?_
    refine pm_Fv.dia H rfl (by decide) rfl (by omega) ?_
    refine pm_Fv.go 1 (f' := (48, 7, [(0, _), (1, _), (2, _)], [_, _])) rfl ?_
    refine pm_Fv.jne rfl (by omega) rfl (fun h1 => ?_) (fun h1 => ?_)
    · exact absurd h1 (by omega)
    · refine pm_Fv.ret rfl rfl rfl rfl ⟨rfl, ⟨_, _, _, H, h, ⟨fun i i0 => ?_, fun k _ _ _ _ => rfl, fun r _ _ _ _ => rfl, rfl, (if_pos e).symm, fun _ => ⟨rfl, rfl⟩, fun q => absurd e q, fun _ => ⟨rfl, rfl⟩⟩, hq_rm_refl rfl⟩⟩
      by_cases f : i = c
      · rw [if_pos f, f, e]
      · rw [if_neg f]
  · rcases h.h7 with h7 | h7
    · skip
      refine pm_Fv.go 1 (f' := (48, 1, [(0, _), (1, _), (2, _)], [_])) rfl ?_
      refine pm_Fv.gf rfl rfl H.m1 H.o1 rfl ?_
      refine pm_Fv.go 1 (f' := (48, 5, [(0, _), (1, _), (2, _)], [_, _])) rfl ?_
      refine pm_Fv.dia H rfl (by decide) rfl (by omega) ?_
      refine pm_Fv.go 1 (f' := (48, 7, [(0, _), (1, _), (2, _)], [_, _])) rfl ?_
      refine pm_Fv.jne rfl (by omega) rfl (fun h1 => ?_) (fun h1 => ?_)
      · refine pm_Fv.go 1 (f' := (48, 12, [(0, _), (1, _), (2, _)], [_])) rfl ?_
        refine pm_Fv.gf rfl rfl H.m1 H.o1 rfl ?_
        rw [h7]
        refine pm_Fv.zne rfl (by omega) rfl (fun h2 => ?_) (fun h2 => ?_)
        · exact absurd h2 (by omega)
        · refine pm_Fv.go 1 (f' := (48, 19, [(0, _), (1, _), (2, _)], [_])) rfl ?_
          refine pm_Fv.cvF rfl rfl rfl rfl (by decide) (Nat.le_of_ble_eq_true rfl) (Nat.le_of_ble_eq_true rfl) H.m1 H.o1 (ev_begC L xs H h h7 hz1) (fun s1 q1 => ?_)
          obtain ⟨⟨z1, H1, hb, z7, zo, za, zb⟩, r1⟩ := q1
          have zj : hw_j z1 = hw_j z := by
            unfold hw_j
            rw [zo 2 (by decide) (by decide) (by decide) (by omega), zo 3 (by decide) (by decide) (by decide) (by omega)]
          have z8 : z1 8 = z 8 := zo 8 (by decide) (by decide) (by decide) (by omega)
          refine (ev_writeT L xs H1 hb z7 e c0 (by rw [z8]; exact c1) hv).mono (fun o s q => ⟨q.1, ?_⟩)
          obtain ⟨ad', z', ar', H', h', f', m'⟩ := q.2
          obtain ⟨f1, f2, f3, f4, f5, f6, f7, f8⟩ := f'
          rw [zj] at f2 f3
          refine ⟨ad', z', ar', H', h', ⟨f1, fun k k1 k2 k3 k4 => (f2 k k1 k2 k3 k4).trans (zo k k1 k2 k3 k4), f3, f4, ?_, fun q => ?_, fun _ _ h6 => ?_, fun q => absurd q e⟩, hq_rm_tr (hq_rm_refl r1) m'⟩
          · rw [f5, if_neg e, if_neg e]
          · have h6 : 0 < z 6 := by
              rcases q with q | q | q
              · exact absurd q e
              · omega
              · exact q
            have a := za h6
            have b := f6 (Or.inr (Or.inl z7))
            exact ⟨b.1.trans a.1, b.2.trans a.2⟩
          · have a := zb h6
            have b := f6 (Or.inr (Or.inl z7))
            exact ⟨b.1.trans a.1, b.2.trans a.2⟩
      · exact absurd h1 (by omega)
    · skip
      refine pm_Fv.go 1 (f' := (48, 1, [(0, _), (1, _), (2, _)], [_])) rfl ?_
      refine pm_Fv.gf rfl rfl H.m1 H.o1 rfl ?_
      refine pm_Fv.go 1 (f' := (48, 5, [(0, _), (1, _), (2, _)], [_, _])) rfl ?_
      refine pm_Fv.dia H rfl (by decide) rfl (by omega) ?_
      refine pm_Fv.go 1 (f' := (48, 7, [(0, _), (1, _), (2, _)], [_, _])) rfl ?_
      refine pm_Fv.jne rfl (by omega) rfl (fun h1 => ?_) (fun h1 => ?_)
      · refine pm_Fv.go 1 (f' := (48, 12, [(0, _), (1, _), (2, _)], [_])) rfl ?_
        refine pm_Fv.gf rfl rfl H.m1 H.o1 rfl ?_
        rw [h7]
        refine pm_Fv.zne rfl (by omega) rfl (fun h2 => ?_) (fun h2 => ?_)
        · exact ev_writeT L xs H h h7 e c0 c1 hv
        · exact absurd h2 (by omega)
      · exact absurd h1 (by omega)
end MS
