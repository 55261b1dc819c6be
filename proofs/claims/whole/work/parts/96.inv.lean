/-! what holds between two calls -/
def hi_j (k : Int) : Nat := (k % 61).toNat
def hq_isB (r : Nat) : Bool := hq_isA r && !(r == 2) && !(r == 3)
theorem hq_isB_t {r : Nat} (h : 5 ≤ r ∧ r < 188 ∧ ¬ r % 3 = 2) : hq_isB r = true := by
  unfold hq_isB
  rw [hq_isA_t h, show (r == 2) = false from beq_eq_false_iff_ne.mpr (by omega), show (r == 3) = false from beq_eq_false_iff_ne.mpr (by omega)]
  rfl
def hi_p (ar : Nat → Nat × (Nat → Int32)) (k e f : Int) : Int := hq_g ar 201 (5600 * (k % 61) + (14 * e + f))
/-- step k, as it lies in the ring, makes A out of C -/
def hi_l (z : Nat → Int) (ar : Nat → Nat × (Nat → Int32)) (k : Int) (A C : Int → Int) : Prop := ls_ok (z (105 + 3 * hi_j k)) (401 + 16 * z 8) (hq_g ar (5 + 3 * hi_j k + 1)) (hq_g ar (5 + 3 * hi_j k + 2)) A C
def HX (Cs : Int → Int → Int) (z : Nat → Int) (ar : Nat → Nat × (Nat → Int32)) : Prop :=
  (hw (Cs (z 21)) z ar) ∧
  (z 7 = 0) ∧
  (z 5 = 0 ∨ z 5 = 1) ∧
  (z 5 = 0 → z 6 = 0) ∧
  (z 23 = z 8) ∧
  (z 24 = z 5) ∧
  (z 25 = z 6) ∧
  (z 3 = z 21 - z 20) ∧
  (z 4 = z 22 - z 21) ∧
  (z 21 ≤ z 22) ∧
  (z 2 = z 20 % 61) ∧
  (z 22 - z 20 ≤ 60) ∧
  (mo_H z ar) ∧
  (RR (hq_g ar 190) (mo_g ar) (z 8)) ∧
  (∀ e f, 400 ≤ e → 0 ≤ f → f < 14 → mo_g ar e f = 0) ∧
  (∀ k, z 20 ≤ k → k < z 21 → hi_l z ar k (Cs k) (Cs (k + 1))) ∧
  (∀ k, z 21 ≤ k → k < z 22 → hi_l z ar k (Cs (k + 1)) (Cs k)) ∧
  (∀ k, z 20 ≤ k → k ≤ z 22 → RR (Cs k) (hi_p ar k) (z 8))
theorem HX.w {Cs : Int → Int → Int} {z : Nat → Int} {ar : Nat → Nat × (Nat → Int32)} (h : HX Cs z ar) : hw (Cs (z 21)) z ar := h.1
theorem HX.h7 {Cs : Int → Int → Int} {z : Nat → Int} {ar : Nat → Nat × (Nat → Int32)} (h : HX Cs z ar) : z 7 = 0 := h.2.1
theorem HX.h5 {Cs : Int → Int → Int} {z : Nat → Int} {ar : Nat → Nat × (Nat → Int32)} (h : HX Cs z ar) : z 5 = 0 ∨ z 5 = 1 := h.2.2.1
theorem HX.h56 {Cs : Int → Int → Int} {z : Nat → Int} {ar : Nat → Nat × (Nat → Int32)} (h : HX Cs z ar) : z 5 = 0 → z 6 = 0 := h.2.2.2.1
theorem HX.m8 {Cs : Int → Int → Int} {z : Nat → Int} {ar : Nat → Nat × (Nat → Int32)} (h : HX Cs z ar) : z 23 = z 8 := h.2.2.2.2.1
theorem HX.op {Cs : Int → Int → Int} {z : Nat → Int} {ar : Nat → Nat × (Nat → Int32)} (h : HX Cs z ar) : z 24 = z 5 := h.2.2.2.2.2.1
theorem HX.ed {Cs : Int → Int → Int} {z : Nat → Int} {ar : Nat → Nat × (Nat → Int32)} (h : HX Cs z ar) : z 25 = z 6 := h.2.2.2.2.2.2.1
theorem HX.ud {Cs : Int → Int → Int} {z : Nat → Int} {ar : Nat → Nat × (Nat → Int32)} (h : HX Cs z ar) : z 3 = z 21 - z 20 := h.2.2.2.2.2.2.2.1
theorem HX.rd {Cs : Int → Int → Int} {z : Nat → Int} {ar : Nat → Nat × (Nat → Int32)} (h : HX Cs z ar) : z 4 = z 22 - z 21 := h.2.2.2.2.2.2.2.2.1
theorem HX.nl {Cs : Int → Int → Int} {z : Nat → Int} {ar : Nat → Nat × (Nat → Int32)} (h : HX Cs z ar) : z 21 ≤ z 22 := h.2.2.2.2.2.2.2.2.2.1
theorem HX.ol {Cs : Int → Int → Int} {z : Nat → Int} {ar : Nat → Nat × (Nat → Int32)} (h : HX Cs z ar) : z 2 = z 20 % 61 := h.2.2.2.2.2.2.2.2.2.2.1
theorem HX.l60 {Cs : Int → Int → Int} {z : Nat → Int} {ar : Nat → Nat × (Nat → Int32)} (h : HX Cs z ar) : z 22 - z 20 ≤ 60 := h.2.2.2.2.2.2.2.2.2.2.2.1
theorem HX.mh {Cs : Int → Int → Int} {z : Nat → Int} {ar : Nat → Nat × (Nat → Int32)} (h : HX Cs z ar) : mo_H z ar := h.2.2.2.2.2.2.2.2.2.2.2.2.1
theorem HX.rr {Cs : Int → Int → Int} {z : Nat → Int} {ar : Nat → Nat × (Nat → Int32)} (h : HX Cs z ar) : RR (hq_g ar 190) (mo_g ar) (z 8) := h.2.2.2.2.2.2.2.2.2.2.2.2.2.1
theorem HX.nz {Cs : Int → Int → Int} {z : Nat → Int} {ar : Nat → Nat × (Nat → Int32)} (h : HX Cs z ar) : ∀ e f, 400 ≤ e → 0 ≤ f → f < 14 → mo_g ar e f = 0 := h.2.2.2.2.2.2.2.2.2.2.2.2.2.2.1
theorem HX.hu {Cs : Int → Int → Int} {z : Nat → Int} {ar : Nat → Nat × (Nat → Int32)} (h : HX Cs z ar) : ∀ k, z 20 ≤ k → k < z 21 → hi_l z ar k (Cs k) (Cs (k + 1)) := h.2.2.2.2.2.2.2.2.2.2.2.2.2.2.2.1
theorem HX.hr {Cs : Int → Int → Int} {z : Nat → Int} {ar : Nat → Nat × (Nat → Int32)} (h : HX Cs z ar) : ∀ k, z 21 ≤ k → k < z 22 → hi_l z ar k (Cs (k + 1)) (Cs k) := h.2.2.2.2.2.2.2.2.2.2.2.2.2.2.2.2.1
theorem HX.hp {Cs : Int → Int → Int} {z : Nat → Int} {ar : Nat → Nat × (Nat → Int32)} (h : HX Cs z ar) : ∀ k, z 20 ≤ k → k ≤ z 22 → RR (Cs k) (hi_p ar k) (z 8) := h.2.2.2.2.2.2.2.2.2.2.2.2.2.2.2.2.2
theorem HX.mk {Cs : Int → Int → Int} {z : Nat → Int} {ar : Nat → Nat × (Nat → Int32)} (h_w : hw (Cs (z 21)) z ar) (h_h7 : z 7 = 0) (h_h5 : z 5 = 0 ∨ z 5 = 1) (h_h56 : z 5 = 0 → z 6 = 0) (h_m8 : z 23 = z 8) (h_op : z 24 = z 5) (h_ed : z 25 = z 6) (h_ud : z 3 = z 21 - z 20) (h_rd : z 4 = z 22 - z 21) (h_nl : z 21 ≤ z 22) (h_ol : z 2 = z 20 % 61) (h_l60 : z 22 - z 20 ≤ 60) (h_mh : mo_H z ar) (h_rr : RR (hq_g ar 190) (mo_g ar) (z 8)) (h_nz : ∀ e f, 400 ≤ e → 0 ≤ f → f < 14 → mo_g ar e f = 0) (h_hu : ∀ k, z 20 ≤ k → k < z 21 → hi_l z ar k (Cs k) (Cs (k + 1))) (h_hr : ∀ k, z 21 ≤ k → k < z 22 → hi_l z ar k (Cs (k + 1)) (Cs k)) (h_hp : ∀ k, z 20 ≤ k → k ≤ z 22 → RR (Cs k) (hi_p ar k) (z 8)) : HX Cs z ar := ⟨h_w, h_h7, h_h5, h_h56, h_m8, h_op, h_ed, h_ud, h_rd, h_nl, h_ol, h_l60, h_mh, h_rr, h_nz, h_hu, h_hr, h_hp⟩
def FX (z : Nat → Int) (ar : Nat → Nat × (Nat → Int32)) (lr : Nat → Nat × (Nat → Int64)) : Prop :=
  (z 26 = z 0) ∧
  (0 ≤ z 0 ∧ z 0 ≤ 3652058) ∧
  (z 28 = z 9) ∧
  (0 ≤ z 9 ∧ z 9 ≤ 800) ∧
  (z 9 ≤ ((ar 193).1 : Int)) ∧
  (∀ i, 0 ≤ i → i < z 9 → hq_g ar 193 i = hq_g ar 204 i ∧ hq_g ar 194 i = hq_g ar 205 i ∧ hq_g ar 195 i = hq_g ar 206 i) ∧
  ((ar 194).1 = (ar 193).1) ∧
  ((ar 195).1 = (ar 193).1) ∧
  (16 ≤ (ar 193).1 ∧ (ar 193).1 ≤ 1600) ∧
  (16 ≤ (lr 0).1 ∧ (lr 0).1 ≤ 1600) ∧
  ((lr 1).1 = 1) ∧
  ((ar 189).1 = 400) ∧
  ((ar 198).1 = 13) ∧
  (hq_g ar 198 0 = 0) ∧
  (∀ r, hq_isB r = false → (ar r).1 = 0) ∧
  ((ar 207).1 = 400)
theorem FX.td {z : Nat → Int} {ar : Nat → Nat × (Nat → Int32)} {lr : Nat → Nat × (Nat → Int64)} (h : FX z ar lr) : z 26 = z 0 := h.1
theorem FX.tr {z : Nat → Int} {ar : Nat → Nat × (Nat → Int32)} {lr : Nat → Nat × (Nat → Int64)} (h : FX z ar lr) : 0 ≤ z 0 ∧ z 0 ≤ 3652058 := h.2.1
theorem FX.fn {z : Nat → Int} {ar : Nat → Nat × (Nat → Int32)} {lr : Nat → Nat × (Nat → Int64)} (h : FX z ar lr) : z 28 = z 9 := h.2.2.1
theorem FX.f0 {z : Nat → Int} {ar : Nat → Nat × (Nat → Int32)} {lr : Nat → Nat × (Nat → Int64)} (h : FX z ar lr) : 0 ≤ z 9 ∧ z 9 ≤ 800 := h.2.2.2.1
theorem FX.fz {z : Nat → Int} {ar : Nat → Nat × (Nat → Int32)} {lr : Nat → Nat × (Nat → Int64)} (h : FX z ar lr) : z 9 ≤ ((ar 193).1 : Int) := h.2.2.2.2.1
theorem FX.fc {z : Nat → Int} {ar : Nat → Nat × (Nat → Int32)} {lr : Nat → Nat × (Nat → Int64)} (h : FX z ar lr) : ∀ i, 0 ≤ i → i < z 9 → hq_g ar 193 i = hq_g ar 204 i ∧ hq_g ar 194 i = hq_g ar 205 i ∧ hq_g ar 195 i = hq_g ar 206 i := h.2.2.2.2.2.1
theorem FX.l4 {z : Nat → Int} {ar : Nat → Nat × (Nat → Int32)} {lr : Nat → Nat × (Nat → Int64)} (h : FX z ar lr) : (ar 194).1 = (ar 193).1 := h.2.2.2.2.2.2.1
theorem FX.l5 {z : Nat → Int} {ar : Nat → Nat × (Nat → Int32)} {lr : Nat → Nat × (Nat → Int64)} (h : FX z ar lr) : (ar 195).1 = (ar 193).1 := h.2.2.2.2.2.2.2.1
theorem FX.l3 {z : Nat → Int} {ar : Nat → Nat × (Nat → Int32)} {lr : Nat → Nat × (Nat → Int64)} (h : FX z ar lr) : 16 ≤ (ar 193).1 ∧ (ar 193).1 ≤ 1600 := h.2.2.2.2.2.2.2.2.1
theorem FX.kl {z : Nat → Int} {ar : Nat → Nat × (Nat → Int32)} {lr : Nat → Nat × (Nat → Int64)} (h : FX z ar lr) : 16 ≤ (lr 0).1 ∧ (lr 0).1 ≤ 1600 := h.2.2.2.2.2.2.2.2.2.1
theorem FX.o1 {z : Nat → Int} {ar : Nat → Nat × (Nat → Int32)} {lr : Nat → Nat × (Nat → Int64)} (h : FX z ar lr) : (lr 1).1 = 1 := h.2.2.2.2.2.2.2.2.2.2.1
theorem FX.l9 {z : Nat → Int} {ar : Nat → Nat × (Nat → Int32)} {lr : Nat → Nat × (Nat → Int64)} (h : FX z ar lr) : (ar 189).1 = 400 := h.2.2.2.2.2.2.2.2.2.2.2.1
theorem FX.t8 {z : Nat → Int} {ar : Nat → Nat × (Nat → Int32)} {lr : Nat → Nat × (Nat → Int64)} (h : FX z ar lr) : (ar 198).1 = 13 := h.2.2.2.2.2.2.2.2.2.2.2.2.1
theorem FX.t0 {z : Nat → Int} {ar : Nat → Nat × (Nat → Int32)} {lr : Nat → Nat × (Nat → Int64)} (h : FX z ar lr) : hq_g ar 198 0 = 0 := h.2.2.2.2.2.2.2.2.2.2.2.2.2.1
theorem FX.ob {z : Nat → Int} {ar : Nat → Nat × (Nat → Int32)} {lr : Nat → Nat × (Nat → Int64)} (h : FX z ar lr) : ∀ r, hq_isB r = false → (ar r).1 = 0 := h.2.2.2.2.2.2.2.2.2.2.2.2.2.2.1
theorem FX.pl {z : Nat → Int} {ar : Nat → Nat × (Nat → Int32)} {lr : Nat → Nat × (Nat → Int64)} (h : FX z ar lr) : (ar 207).1 = 400 := h.2.2.2.2.2.2.2.2.2.2.2.2.2.2.2
theorem FX.mk {z : Nat → Int} {ar : Nat → Nat × (Nat → Int32)} {lr : Nat → Nat × (Nat → Int64)} (h_td : z 26 = z 0) (h_tr : 0 ≤ z 0 ∧ z 0 ≤ 3652058) (h_fn : z 28 = z 9) (h_f0 : 0 ≤ z 9 ∧ z 9 ≤ 800) (h_fz : z 9 ≤ ((ar 193).1 : Int)) (h_fc : ∀ i, 0 ≤ i → i < z 9 → hq_g ar 193 i = hq_g ar 204 i ∧ hq_g ar 194 i = hq_g ar 205 i ∧ hq_g ar 195 i = hq_g ar 206 i) (h_l4 : (ar 194).1 = (ar 193).1) (h_l5 : (ar 195).1 = (ar 193).1) (h_l3 : 16 ≤ (ar 193).1 ∧ (ar 193).1 ≤ 1600) (h_kl : 16 ≤ (lr 0).1 ∧ (lr 0).1 ≤ 1600) (h_o1 : (lr 1).1 = 1) (h_l9 : (ar 189).1 = 400) (h_t8 : (ar 198).1 = 13) (h_t0 : hq_g ar 198 0 = 0) (h_ob : ∀ r, hq_isB r = false → (ar r).1 = 0) (h_pl : (ar 207).1 = 400) : FX z ar lr := ⟨h_td, h_tr, h_fn, h_f0, h_fz, h_fc, h_l4, h_l5, h_l3, h_kl, h_o1, h_l9, h_t8, h_t0, h_ob, h_pl⟩
theorem FX.cg {z z' : Nat → Int} {ar ar' : Nat → Nat × (Nat → Int32)} {lr : Nat → Nat × (Nat → Int64)} (h : FX z ar lr) (h0 : z' 0 = z 0) (h9 : z' 9 = z 9) (h26 : z' 26 = z 26) (h28 : z' 28 = z 28) (a3 : ar' 193 = ar 193) (a4 : ar' 194 = ar 194) (a5 : ar' 195 = ar 195) (a8 : ar' 198 = ar 198) (b4 : ar' 204 = ar 204) (b5 : ar' 205 = ar 205) (b6 : ar' 206 = ar 206) (l9 : (ar' 189).1 = (ar 189).1) (l7 : (ar' 207).1 = (ar 207).1) (ob : ∀ r, hq_isB r = false → (ar' r).1 = (ar r).1) : FX z' ar' lr :=
  FX.mk (by rw [h26, h0]; exact h.td) (by rw [h0]; exact h.tr) (by rw [h28, h9]; exact h.fn) (by rw [h9]; exact h.f0) (by rw [h9, a3]; exact h.fz) (fun i i0 i1 => by
    rw [h9] at i1
    rw [hq_g_ne a3, hq_g_ne a4, hq_g_ne a5, hq_g_ne b4, hq_g_ne b5, hq_g_ne b6]
    exact h.fc i i0 i1) (by rw [a4, a3]; exact h.l4) (by rw [a5, a3]; exact h.l5) (by rw [a3]; exact h.l3) h.kl h.o1 (l9.trans h.l9) (by rw [a8]; exact h.t8) (by rw [hq_g_ne a8]; exact h.t0) (fun r hr => (ob r hr).trans (h.ob r hr)) (l7.trans h.pl)
theorem hi_j_lt (k : Int) : hi_j k < 61 := by
  unfold hi_j
  omega
theorem hi_j_ne {k l : Int} (h : k ≠ l) (h1 : k - l ≤ 60) (h2 : l - k ≤ 60) : hi_j k ≠ hi_j l := by
  unfold hi_j
  omega
theorem hi_l_cg {z z' : Nat → Int} {ar ar' : Nat → Nat × (Nat → Int32)} {k : Int} {A C : Int → Int} (h : hi_l z ar k A C) (h8 : z' 8 = z 8) (hs : z' (105 + 3 * hi_j k) = z (105 + 3 * hi_j k)) (a1 : ar' (5 + 3 * hi_j k + 1) = ar (5 + 3 * hi_j k + 1)) (a2 : ar' (5 + 3 * hi_j k + 2) = ar (5 + 3 * hi_j k + 2)) : hi_l z' ar' k A C := by
  unfold hi_l
  rw [h8, hs, show hq_g ar' (5 + 3 * hi_j k + 1) = hq_g ar (5 + 3 * hi_j k + 1) from funext fun i => hq_g_ne a1 i, show hq_g ar' (5 + 3 * hi_j k + 2) = hq_g ar (5 + 3 * hi_j k + 2) from funext fun i => hq_g_ne a2 i]
  exact h
theorem ls_ok_cg {S B : Int} {cc vv A C A' C' : Int → Int} (h : ls_ok S B cc vv A C) (ha : ∀ i, 0 ≤ i → i < B → A' i = A i) (hc : ∀ i, 0 ≤ i → i < B → C' i = C i) : ls_ok S B cc vv A' C' := by
  refine ⟨h.1, fun i i0 i1 => ?_, fun c c0 c1 hx => ?_⟩
  · have q := h.2.1 i i0 i1
    exact ⟨q.1, q.2.1, q.2.2.trans (ha _ q.1 q.2.1).symm⟩
  · rw [ha c c0 c1, hc c c0 c1]
    exact h.2.2 c c0 c1 hx
theorem HX.jn {Cs : Int → Int → Int} {z : Nat → Int} {ar : Nat → Nat × (Nat → Int32)} (h : HX Cs z ar) : hw_j z = hi_j (z 21) := by
  have a := h.ud
  have b := h.ol
  have c := h.mh.o0
  unfold hw_j hi_j
  rw [a, b]
  omega
/-- other parts of the state may change -/
theorem hw.cg {A : Int → Int} {z z' : Nat → Int} {ar ar' : Nat → Nat × (Nat → Int32)} (h : hw A z ar) (hz : ∀ k, (1 ≤ k ∧ k ≤ 8 ∧ k ≠ 5) ∨ 105 ≤ k → z' k = z k) (ha : ∀ r, r = 190 ∨ r = 191 ∨ (5 ≤ r ∧ r < 188) → ar' r = ar r) : hw A z' ar' := by
  have jj := h.jj
  have ej : hw_j z' = hw_j z := hw_j_cg (hz 2 (by omega)) (hz 3 (by omega))
  have g : ∀ r, r = 190 ∨ r = 191 ∨ (5 ≤ r ∧ r < 188) → hq_g ar' r = hq_g ar r := fun r hr => funext fun i => hq_g_ne (ha r hr) i
  have e1 := hz 1 (by omega)
  have e4 := hz 4 (by omega)
  have e6 := hz 6 (by omega)
  have e7 := hz 7 (by omega)
  have e8 := hz 8 (by omega)
  refine hw.mk (by rw [e8]; exact h.m0) (by rw [hz 2 (by omega)]; exact h.h2) (by rw [hz 3 (by omega)]; exact h.h3) (by rw [e6]; exact h.h6) (by rw [e7]; exact h.h7) (by rw [e1]; exact h.h1) (by rw [ha 190 (by omega), ha 191 (by omega)]; exact h.ln) (by unfold od_L; rw [ha 190 (by omega), e8]; exact h.le) (fun i hi => by rw [ha _ (by omega), ha _ (by omega), hz _ (by omega)]; exact h.cap i hi) (by rw [ha 190 (by omega), g 191 (by omega), e1]; exact h.st) (by rw [ha 190 (by omega), g 191 (by omega), g 190 (by omega), e8]; exact h.fr) (by rw [e7, e6, e4, e1]; exact h.gd) (by rw [e7, e6, e8, e1, ej, hz (105 + 3 * hw_j z) (by omega), g 191 (by omega), g (5 + 3 * hw_j z + 1) (by omega)]; exact h.gs) (by rw [e7, e6, e8, ej, hz (105 + 3 * hw_j z) (by omega), g 190 (by omega), g (5 + 3 * hw_j z + 1) (by omega), g (5 + 3 * hw_j z + 2) (by omega)]; exact h.gl) (by rw [e7, e6, e8, g 190 (by omega)]; exact h.no)
theorem HX.cg {Cs : Int → Int → Int} {z z' : Nat → Int} {ar ar' : Nat → Nat × (Nat → Int32)} (h : HX Cs z ar) (hz : ∀ k, (1 ≤ k ∧ k ≤ 8) ∨ (20 ≤ k ∧ k ≤ 25) ∨ 105 ≤ k → z' k = z k) (ha : ∀ r, r = 190 ∨ r = 191 ∨ (5 ≤ r ∧ r < 188) ∨ r = 200 ∨ r = 201 → ar' r = ar r) (hl : ∀ r, 202 ≤ r → r ≤ 207 → (ar' r).1 = (ar r).1) : HX Cs z' ar' := by
  have g : ∀ r, r = 190 ∨ r = 191 ∨ (5 ≤ r ∧ r < 188) ∨ r = 200 ∨ r = 201 → hq_g ar' r = hq_g ar r := fun r hr => funext fun i => hq_g_ne (ha r hr) i
  have eg : mo_g ar' = mo_g ar := by
    funext e f
    unfold mo_g
    rw [g 200 (by omega)]
  have ep : ∀ k, hi_p ar' k = hi_p ar k := fun k => by
    funext e f
    unfold hi_p
    rw [g 201 (by omega)]
  have z20 := hz 20 (by omega)
  have z21 := hz 21 (by omega)
  have z22 := hz 22 (by omega)
  have z8 := hz 8 (by omega)
  have m := h.mh
  refine HX.mk (by rw [z21]; exact h.w.cg (fun k hk => hz k (by omega)) (fun r hr => ha r (by omega))) (by rw [hz 7 (by omega)]; exact h.h7) (by rw [hz 5 (by omega)]; exact h.h5) (by rw [hz 5 (by omega), hz 6 (by omega)]; exact h.h56) (by rw [hz 23 (by omega), z8]; exact h.m8) (by rw [hz 24 (by omega), hz 5 (by omega)]; exact h.op) (by rw [hz 25 (by omega), hz 6 (by omega)]; exact h.ed) (by rw [hz 3 (by omega), z21, z20]; exact h.ud) (by rw [hz 4 (by omega), z22, z21]; exact h.rd) (by rw [z21, z22]; exact h.nl) (by rw [hz 2 (by omega), z20]; exact h.ol) (by rw [z22, z20]; exact h.l60) ?_ (by rw [g 190 (by omega), eg, z8]; exact h.rr) (by rw [eg]; exact h.nz) (fun k k0 k1 => ?_) (fun k k0 k1 => ?_) (fun k k0 k1 => ?_)
  · exact mo_H.mk (by rw [ha 200 (by omega)]; exact m.l0) (by rw [ha 201 (by omega)]; exact m.l1) ((hl 202 (by omega) (by omega)).trans m.l2) ((hl 203 (by omega) (by omega)).trans m.l3) ((hl 204 (by omega) (by omega)).trans m.l4) ((hl 205 (by omega) (by omega)).trans m.l5) ((hl 206 (by omega) (by omega)).trans m.l6) ((hl 207 (by omega) (by omega)).trans m.l7) (by rw [z21]; exact m.n0) (by rw [z21]; exact m.n1) (by rw [z20]; exact m.o0) (by rw [z20, z21]; exact m.o1) (by rw [hz 24 (by omega)]; exact m.op) (by rw [hz 25 (by omega)]; exact m.e0) (by rw [hz 25 (by omega)]; exact m.e1)
  · rw [z20] at k0
    rw [z21] at k1
    have := hi_j_lt k
    exact hi_l_cg (h.hu k k0 k1) z8 (hz _ (by omega)) (ha _ (by omega)) (ha _ (by omega))
  · rw [z21] at k0
    rw [z22] at k1
    have := hi_j_lt k
    exact hi_l_cg (h.hr k k0 k1) z8 (hz _ (by omega)) (ha _ (by omega)) (ha _ (by omega))
  · rw [z20] at k0
    rw [z22] at k1
    rw [ep, z8]
    exact h.hp k k0 k1
