/-! the first state; the room; the whole -/
theorem c0_g0 (r : Nat) (j : Int) : hq_g c0_a r j = 0 := rfl
theorem c0_4 {r : Nat} (h : 5 ≤ r ∧ r < 188 ∧ ¬ r % 3 = 2) : (c0_a r).1 = 4 := if_pos h
theorem RR.o {C : Int → Int} {g : Int → Int → Int} (hC : ∀ c, C c = 0) (hg : ∀ e f, g e f = 0) : RR C g 0 := by
  have n : ∀ p : Int, 0 ≤ p → p < C 0 → False := fun p p0 p1 => by
    rw [hC 0] at p1
    omega
  have fW : fo_W (oD C) (C 0) := ⟨if_pos rfl, by rw [hC 0]; omega, fun p p0 p1 => (n p p0 p1).elim⟩
  have fJ : fo_J (oI C) (C 0) := ⟨fun p p0 p1 => (n p p0 p1).elim, fun p q p0 p1 _ _ _ => (n p p0 p1).elim⟩
  exact RR.mk (od_N.mk fW fJ (fun p p0 p1 => (n p p0 p1).elim) (fun p p0 p1 => (n p p0 p1).elim) (by decide) (by decide)) (mo_R.mk fW fJ (fun p p0 p1 => (n p p0 p1).elim) (fun e _ _ => Or.inr ⟨hg e 0, fun p p0 p1 => (n p p0 p1).elim⟩) (fun p p0 p1 => (n p p0 p1).elim) (fun p p0 p1 => (n p p0 p1).elim) (by decide) (by decide)) (fun p p0 p1 => (n p p0 p1).elim) (fun p p0 p1 => (n p p0 p1).elim)
theorem c0_hw : hw (fun _ => 0) c0_z c0_a := by
  have nn : ¬ (c0_z 7 = 1 ∨ 0 < c0_z 6) := by decide
  refine hw.mk (by decide) (by decide) (by decide) (by decide) (Or.inl rfl) (by decide) rfl ⟨by decide, by decide⟩ (fun i hi => ?_) (fun c _ _ => ?_) (fun c _ _ => ⟨rfl, rfl⟩) (fun q => absurd q nn) (fun q => absurd q nn) (fun q => absurd q nn) (fun _ _ c _ _ => rfl)
  · rw [c0_4 (show 5 ≤ 5 + 3 * i + 1 ∧ 5 + 3 * i + 1 < 188 ∧ ¬ (5 + 3 * i + 1) % 3 = 2 by omega), c0_4 (show 5 ≤ 5 + 3 * i + 2 ∧ 5 + 3 * i + 2 < 188 ∧ ¬ (5 + 3 * i + 2) % 3 = 2 by omega), show c0_z (105 + 3 * i) = 0 from rfl]
    decide
  · rw [c0_g0, show c0_z 1 = 0 from rfl]
    decide
theorem c0_mh : mo_H c0_z c0_a := mo_H.mk rfl rfl rfl rfl rfl rfl rfl rfl (by decide) (by decide) (by decide) (by decide) (Or.inl rfl) (by decide) (by decide)
theorem c0_HX : HX (fun _ _ => 0) c0_z c0_a := by
  refine HX.mk c0_hw rfl (Or.inl rfl) (fun _ => rfl) rfl rfl rfl rfl rfl (by decide) rfl (by decide) c0_mh (RR.o (fun c => rfl) (fun e f => rfl)) (fun e f _ _ _ => rfl) (fun k k0 k1 => ?_) (fun k k0 k1 => ?_) (fun k _ _ => RR.o (fun c => rfl) (fun e f => rfl))
  · have : c0_z 21 = 0 := rfl
    have : c0_z 20 = 0 := rfl
    omega
  · have : c0_z 21 = 0 := rfl
    have : c0_z 22 = 0 := rfl
    omega
theorem c0_ob (r : Nat) (hr : hq_isB r = false) : (c0_a r).1 = 0 := by
  show c0_l r = 0
  have n : ∀ s, hq_isB s = true → r ≠ s := fun s hs e => by
    rw [e, hs] at hr
    cases hr
  have a1 := n 189 rfl
  have a2 := n 190 rfl
  have a3 := n 191 rfl
  have a4 := n 193 rfl
  have a5 := n 194 rfl
  have a6 := n 195 rfl
  have a7 := n 198 rfl
  have a8 := n 200 rfl
  have a9 := n 201 rfl
  have b1 := n 202 rfl
  have b2 := n 203 rfl
  have b3 := n 204 rfl
  have b4 := n 205 rfl
  have b5 := n 206 rfl
  have b6 := n 207 rfl
  have b7 : ¬ (5 ≤ r ∧ r < 188 ∧ ¬ r % 3 = 2) := fun q => n r (hq_isB_t q) rfl
  unfold c0_l
  rw [if_neg b7, if_neg a1, if_neg a2, if_neg a3, if_neg (by omega), if_neg a7, if_neg a8, if_neg a9, if_neg b1, if_neg b2, if_neg (by omega), if_neg b6]
theorem c0_FX : FX c0_z c0_a c0_r := by
  refine FX.mk rfl (by decide) rfl (by decide) (by decide) (fun i _ i1 => ?_) rfl rfl (by decide) (by decide) rfl rfl rfl rfl c0_ob rfl
  have : c0_z 9 = 0 := rfl
  omega
theorem c0_po : hq_po c0_a c0_r = 357767 := by decide +kernel
theorem c0_JX {σ : pm_S} (H : HI σ 209 358055 c0_h) : JX 0 σ 0 0 := by
  refine ⟨fun r => r, c0_z, c0_a, c0_r, fun _ _ => 0, ⟨fun r hr => ⟨H.l hr, H.2.2 r hr⟩, fun r s _ _ e => e, fun r _ => rfl⟩, c0_HX, c0_FX, ⟨by decide, by decide, by decide⟩, rfl, rfl, ?_, ?_⟩
  · rw [H.2.1, c0_po]
    decide
  · rw [H.1, c0_po]
    decide
/-- how long the arrays can be -/
def c9_l (r : Nat) : Nat := if 5 ≤ r ∧ r < 188 ∧ ¬ r % 3 = 2 then 13602 else if r = 189 then 400 else if r = 190 then 13602 else if r = 191 then 13602 else if 193 ≤ r ∧ r ≤ 195 then 1600 else if r = 198 then 13 else if r = 200 then 5600 else if r = 201 then 341600 else if r = 202 then 5600 else if r = 203 then 400 else if 204 ≤ r ∧ r ≤ 206 then 800 else if r = 207 then 400 else 0
def c9_a (r : Nat) : Nat × (Nat → Int32) := (c9_l r, fun _ => 0)
theorem hq_pt_le {ar br : Nat → Nat × (Nat → Int32)} : ∀ k, (∀ r, r < k → (ar r).1 ≤ (br r).1) → hq_pt ar k ≤ hq_pt br k
  | 0, _ => Nat.le_refl _
  | k + 1, h => by
    rw [hq_pt, hq_pt]
    have e1 := hq_pt_le k (fun r hr => h r (by omega))
    have e2 := h k (by omega)
    omega
theorem c9_pt : hq_pt c9_a 209 = 2047861 := by decide +kernel
theorem c9_le {Cs : Int → Int → Int} {z : Nat → Int} {ar : Nat → Nat × (Nat → Int32)} {lr : Nat → Nat × (Nat → Int64)} (X : HX Cs z ar) (F : FX z ar lr) (r : Nat) (hr : r < 209) : (ar r).1 ≤ (c9_a r).1 := by
  show (ar r).1 ≤ c9_l r
  unfold c9_l
  have e1 := F.l3
  have e2 := F.l4
  have e3 := F.l5
  have e4 := X.w.ln
  have e5 : ((ar 190).1 : Int) ≤ 13602 := X.w.le.2
  by_cases q0 : 5 ≤ r ∧ r < 188 ∧ ¬ r % 3 = 2
  · rw [if_pos q0]
    obtain ⟨i, hi, q⟩ : ∃ i, i < 61 ∧ (r = 5 + 3 * i + 1 ∨ r = 5 + 3 * i + 2) := ⟨(r - 6) / 3, by omega, by omega⟩
    have c := X.w.cap i hi
    rcases q with q | q
    · rw [q]
      omega
    · rw [q]
      omega
  rw [if_neg q0]
  by_cases q1 : r = 189
  · rw [if_pos q1, q1, F.l9]
    exact Nat.le_refl _
  rw [if_neg q1]
  by_cases q2 : r = 190
  · rw [if_pos q2, q2]
    omega
  rw [if_neg q2]
  by_cases q3 : r = 191
  · rw [if_pos q3, q3]
    omega
  rw [if_neg q3]
  by_cases q4 : 193 ≤ r ∧ r ≤ 195
  · rw [if_pos q4]
    rcases (show r = 193 ∨ r = 194 ∨ r = 195 by omega) with q | q | q
    · rw [q]
      omega
    · rw [q]
      omega
    · rw [q]
      omega
  rw [if_neg q4]
  by_cases q5 : r = 198
  · rw [if_pos q5, q5, F.t8]
    exact Nat.le_refl _
  rw [if_neg q5]
  by_cases q6 : r = 200
  · rw [if_pos q6, q6, X.mh.l0]
    exact Nat.le_refl _
  rw [if_neg q6]
  by_cases q7 : r = 201
  · rw [if_pos q7, q7, X.mh.l1]
    exact Nat.le_refl _
  rw [if_neg q7]
  by_cases q8 : r = 202
  · rw [if_pos q8, q8, X.mh.l2]
    exact Nat.le_refl _
  rw [if_neg q8]
  by_cases q9 : r = 203
  · rw [if_pos q9, q9, X.mh.l3]
    exact Nat.le_refl _
  rw [if_neg q9]
  by_cases p0 : 204 ≤ r ∧ r ≤ 206
  · rw [if_pos p0]
    rcases (show r = 204 ∨ r = 205 ∨ r = 206 by omega) with q | q | q
    · rw [q, X.mh.l4]
      exact Nat.le_refl _
    · rw [q, X.mh.l5]
      exact Nat.le_refl _
    · rw [q, X.mh.l6]
      exact Nat.le_refl _
  rw [if_neg p0]
  by_cases p1 : r = 207
  · rw [if_pos p1, p1, X.mh.l7]
    exact Nat.le_refl _
  rw [if_neg p1, F.ob r]
  · exact Nat.le_refl _
  · by_cases p2 : 5 ≤ r ∧ r < 188
    · unfold hq_isB hq_isA
      rw [decide_eq_true p2.1, decide_eq_true p2.2, show (r % 3 == 2) = true from beq_iff_eq.mpr (by omega)]
      simp
    · rcases (show r = 0 ∨ r = 1 ∨ r = 2 ∨ r = 3 ∨ r = 4 ∨ r = 188 ∨ r = 192 ∨ r = 196 ∨ r = 197 ∨ r = 199 ∨ r = 208 by omega) with q | q | q | q | q | q | q | q | q | q | q
      all_goals
        rw [q]
        rfl
theorem JX.room {N : Nat} {σ : pm_S} {k : Int} {l : Int64} (J : JX N σ k l) (n6 : N ≤ 600) : σ.2.1 ≤ 601024 ∧ σ.2.2 ≤ 7293034 := by
  obtain ⟨ad, z, ar, lr, Cs, -, X, F, -, -, -, r2, r1⟩ := J
  have e : hq_po ar lr ≤ 2049461 := by
    have e1 := hq_pt_le 209 (fun r hr => c9_le X F r hr)
    rw [c9_pt] at e1
    have e2 := F.kl
    unfold hq_po
    omega
  omega
theorem tq_go : tq_Goal 3584 := fun L xs hL => by
  obtain ⟨o, s, e, rfl, N, k, l, hN, J⟩ := ci_law L xs (fun t H => lw_loop L xs hL L 0 0 t 0 0 rfl (by omega) (by omega) (c0_JX H))
  exact ⟨s, e, J.room hN⟩
theorem i_vc : Claimed_1_1 ∧ Claimed_1_2 := tq_vc (fun hm h => tq_dec hm h) tq_go
