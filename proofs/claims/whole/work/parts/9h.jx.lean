/-! what holds between two calls, and a call of both -/
def JX (N : Nat) (σ : pm_S) (k : Int) (l : Int64) : Prop := ∃ ad z ar lr Cs, Hp σ ad z ar lr ∧ HX Cs z ar ∧ FX z ar lr ∧ (z 1 ≤ N ∧ z 21 ≤ N ∧ z 6 ≤ N) ∧ z 29 = k ∧ (lr 1).2 0 = l ∧ σ.2.2 + 357479 ≤ 6 * N + 2 * hq_po ar lr ∧ 4 * σ.2.1 + 356931 ≤ 4 * N + hq_po ar lr
def SV (L : Nat) (xs : Nat → Int32) (N : Nat) (σ : pm_S) (wi : Nat) (wa : List Value) (mi : Nat) (ma : List Value) : Prop := pm_Fv (tq_P L xs) (pm_enter wi wa) σ (fun o s => ∃ c : Int, (0 ≤ c ∧ c ≤ 4) ∧ o = .inl (some (.int (zI c))) ∧ (∃ ad z ar lr, Hp s ad z ar lr) ∧ pm_Fv (tq_P L xs) (pm_enter mi ma) s (fun o2 t => o2 = .inl none ∧ ∃ l, JX (N + 1) t c l))
def SI (L : Nat) (xs : Nat → Int32) (N : Nat) (σ : pm_S) (wi : Nat) (wa : List Value) (mi : Nat) (ma : List Value) : Prop := pm_Fv (tq_P L xs) (pm_enter wi wa) σ (fun o s => ∃ c : Int, (0 ≤ c ∧ c ≤ 4) ∧ o = .inl (some (.int (zI c))) ∧ (∃ ad z ar lr, Hp s ad z ar lr) ∧ pm_Fv (tq_P L xs) (pm_enter mi ma) s (fun o2 t => ∃ v : Int, (-2147483648 ≤ v ∧ v ≤ 2147483647) ∧ o2 = .inl (some (.int (zI v))) ∧ ∃ l, JX (N + 1) t c l ∧ (c = 0 → l = zL v)))
def SD (L : Nat) (xs : Nat → Int32) (N : Nat) (σ : pm_S) (di : Nat) (da : List Value) (mi : Nat) (ma : List Value) : Prop := pm_Fv (tq_P L xs) (pm_enter di da) σ (fun o s => ∃ v : Int, (-2147483648 ≤ v ∧ v ≤ 2147483647) ∧ o = .inl (some (.int (zI v))) ∧ (∃ ad z ar lr, Hp s ad z ar lr) ∧ pm_Fv (tq_P L xs) (pm_enter mi ma) s (fun o2 t => o2 = .inl (some (.int (zI v))) ∧ ∃ k l, JX (N + 1) t k l))
section JJ
variable (L : Nat) (xs : Nat → Int32)
variable {N : Nat} {σ s t : pm_S} {ad : Nat → Nat} {z z' : Nat → Int} {ar ar' : Nat → Nat × (Nat → Int32)} {lr lr' : Nat → Nat × (Nat → Int64)} {Cs : Int → Int → Int}
theorem FX.lrw (F : FX z ar lr) (h0 : 16 ≤ (lr' 0).1 ∧ (lr' 0).1 ≤ 1600) (h1 : (lr' 1).1 = 1) : FX z ar lr' := FX.mk F.td F.tr F.fn F.f0 F.fz F.fc F.l4 F.l5 F.l3 h0 h1 F.l9 F.t8 F.t0 F.ob F.pl
theorem jx_29 (X : HX Cs z ar) (F : FX z ar lr) (cn : z 1 ≤ N ∧ z 21 ≤ N ∧ z 6 ≤ N) (rm : σ.2.2 + 357479 ≤ 6 * N + 2 * hq_po ar lr ∧ 4 * σ.2.1 + 356931 ≤ 4 * N + hq_po ar lr) {c : Int} (H : Hp t ad (hq_u z 29 c) ar lr') (l0 : (lr' 0).1 = (lr 0).1) (l1 : (lr' 1).1 = 1) (rt : t.2.1 ≤ σ.2.1 + 1 ∧ t.2.2 ≤ σ.2.2 + 6) : JX (N + 1) t c ((lr' 1).2 0) := by
  have po : hq_po ar lr' = hq_po ar lr := by
    unfold hq_po
    rw [l0]
  have kl := F.kl
  have c1 := cn.1
  have c2 := cn.2.1
  have c3 := cn.2.2
  refine ⟨ad, hq_u z 29 c, ar, lr', Cs, H, X.cg (fun k hk => hq_u_ne (by omega)) (fun _ _ => rfl) (fun _ _ _ => rfl), FX.lrw (F.cg (hq_u_ne (by decide)) (hq_u_ne (by decide)) (hq_u_ne (by decide)) (hq_u_ne (by decide)) rfl rfl rfl rfl rfl rfl rfl rfl rfl (fun _ _ => rfl)) (by rw [l0]; exact kl) l1, ⟨?_, ?_, ?_⟩, rfl, rfl, ?_, ?_⟩
  · show z 1 ≤ ((N + 1 : Nat) : Int)
    omega
  · show z 21 ≤ ((N + 1 : Nat) : Int)
    omega
  · show z 6 ≤ ((N + 1 : Nat) : Int)
    omega
  · rw [po]
    omega
  · rw [po]
    omega
theorem SV.ref (H : Hp σ ad z ar lr) (X : HX Cs z ar) (F : FX z ar lr) (cn : z 1 ≤ N ∧ z 21 ≤ N ∧ z 6 ≤ N) (rm : σ.2.2 + 357479 ≤ 6 * N + 2 * hq_po ar lr ∧ 4 * σ.2.1 + 356931 ≤ 4 * N + hq_po ar lr) {c : Int} {ci wi mi : Nat} {wa ma : List Value} (hc : 0 ≤ c ∧ c ≤ 4) (D : pm_Ev (tq_P L xs) (pm_enter wi wa) σ (.inl (some (.int (zI c))), pm_add σ (.inr (ci, [])) 6)) (M : ∀ s, Hp s ad z ar lr → pm_Fv (tq_P L xs) (pm_enter mi ma) s (fun o t => o = .inl none ∧ Hp t ad (hq_u z 29 c) ar lr ∧ t.2 = s.2)) : SV L xs N σ wi wa mi ma := by
  refine pm_Fv.of D ⟨c, hc, rfl, ⟨ad, z, ar, lr, H.add _ _⟩, (M _ (H.add _ _)).mono ?_⟩
  rintro o t ⟨rfl, Ht, rt⟩
  refine ⟨rfl, _, jx_29 X F cn rm Ht rfl F.o1 ?_⟩
  rw [rt]
  exact ⟨Nat.le_refl _, Nat.le_refl _⟩
theorem SI.ref (H : Hp σ ad z ar lr) (X : HX Cs z ar) (F : FX z ar lr) (cn : z 1 ≤ N ∧ z 21 ≤ N ∧ z 6 ≤ N) (rm : σ.2.2 + 357479 ≤ 6 * N + 2 * hq_po ar lr ∧ 4 * σ.2.1 + 356931 ≤ 4 * N + hq_po ar lr) {c v : Int} {ci wi mi : Nat} {wa ma : List Value} (hc : 1 ≤ c ∧ c ≤ 4) (vr : -2147483648 ≤ v ∧ v ≤ 2147483647) (D : pm_Ev (tq_P L xs) (pm_enter wi wa) σ (.inl (some (.int (zI c))), pm_add σ (.inr (ci, [])) 6)) (M : ∀ s, Hp s ad z ar lr → pm_Fv (tq_P L xs) (pm_enter mi ma) s (fun o t => o = .inl (some (.int (zI v))) ∧ Hp t ad (hq_u z 29 c) ar lr ∧ t.2 = s.2)) : SI L xs N σ wi wa mi ma := by
  refine pm_Fv.of D ⟨c, by omega, rfl, ⟨ad, z, ar, lr, H.add _ _⟩, (M _ (H.add _ _)).mono ?_⟩
  rintro o t ⟨rfl, Ht, rt⟩
  refine ⟨v, vr, rfl, _, jx_29 X F cn rm Ht rfl F.o1 ?_, fun h => absurd h (by omega)⟩
  rw [rt]
  exact ⟨Nat.le_refl _, Nat.le_refl _⟩
theorem SI.ask (H : Hp σ ad z ar lr) (X : HX Cs z ar) (F : FX z ar lr) (cn : z 1 ≤ N ∧ z 21 ≤ N ∧ z 6 ≤ N) (rm : σ.2.2 + 357479 ≤ 6 * N + 2 * hq_po ar lr ∧ 4 * σ.2.1 + 356931 ≤ 4 * N + hq_po ar lr) {v : Int} {wi mi : Nat} {wa ma : List Value} (vr : -2147483648 ≤ v ∧ v ≤ 2147483647) (W : pm_Fv (tq_P L xs) (pm_enter wi wa) σ (fun o t => o = .inl (some (.int (zI 0))) ∧ ∃ s, s = σ ∧ t.2 = s.2 ∧ ∀ ad z ar lr, Hp s ad z ar lr → Hp t ad z ar (ol_w lr v))) (M : ∀ s, Hp s ad z ar (ol_w lr v) → pm_Fv (tq_P L xs) (pm_enter mi ma) s (fun o t => o = .inl (some (.int (zI v))) ∧ Hp t ad (hq_u z 29 0) ar (ol_w lr v) ∧ t.2 = s.2)) : SI L xs N σ wi wa mi ma := by
  refine W.mono ?_
  rintro o s ⟨rfl, s0, rfl, rs, hs⟩
  have Hs := hs ad z ar lr H
  refine ⟨0, by decide, rfl, ⟨ad, z, ar, _, Hs⟩, (M s Hs).mono ?_⟩
  rintro o t ⟨rfl, Ht, rt⟩
  refine ⟨v, vr, rfl, _, jx_29 X F cn rm Ht rfl F.o1 ?_, fun _ => ol_w_v lr v⟩
  rw [rt, rs]
  omega
/-- what the reference sees after the desk's edit -/
theorem HX.sml (X : HX Cs z ar) : ∀ e, mo_g ar e 0 = 1 → -1000 ≤ mo_g ar e 2 ∧ mo_g ar e 2 ≤ 1000 := by
  have M : mo_R (mo_g ar) (z 23) (hq_g ar 190 0) (oI (hq_g ar 190)) (oD (hq_g ar 190)) := by
    rw [X.m8]
    exact X.rr.M
  refine M.sm (fun e he h => ?_) (fun e he => ?_)
  · rw [X.nz e 0 he (by decide) (by decide)] at h
    exact absurd h (by decide)
  · by_cases c : mo_g ar e 0 = 1
    · right
      have q : mo_g ar e 2 = mo_g ar e 0 := by
        unfold mo_g hq_g
        rw [show (14 * e + 2).toNat = 0 by omega, show (14 * e + 0).toNat = 0 by omega]
      omega
    · exact Or.inl c
theorem HX.mr (X : HX Cs z ar) : mo_R (mo_g ar) (z 23) (hq_g ar 190 0) (oI (hq_g ar 190)) (oD (hq_g ar 190)) := by
  rw [X.m8]
  exact X.rr.M
theorem hw_j_lt61 {A : Int → Int} (h : hw A z ar) : hw_j z < 61 := h.jj.1
theorem od_E.eo {A C0 : Int → Int} {z0 : Nat → Int} {ar0 : Nat → Nat × (Nat → Int32)} (E : od_E A C0 z0 ar0 z ar) {k : Nat} (h : k = 0 ∨ k = 5 ∨ (8 ≤ k ∧ k < 100)) : hw_ee z k = z0 k := by
  rw [hw_ee_o (by omega) (by omega) (by omega) (by omega)]
  exact E.zo k (by omega) (by omega) (by omega) (by omega)
theorem od_E.a2 {A C0 : Int → Int} {z0 : Nat → Int} {ar0 : Nat → Nat × (Nat → Int32)} (E : od_E A C0 z0 ar0 z ar) (hj : hw_j z0 < 61) {r : Nat} (h : 192 ≤ r) : ar r = ar0 r := E.ao r (by omega) (by omega) (by omega) (by omega) (by omega)
theorem HX.mid (X : HX Cs z ar) (E : od_E (Cs (z 21)) (hq_g ar 190) z ar z' ar') : mo_H (hw_ee z') ar' ∧ mo_g ar' = mo_g ar ∧ hw_ee z' 23 = z 8 ∧ mo_R (mo_g ar') (hw_ee z' 23) (hq_g ar 190 0) (oI (hq_g ar 190)) (oD (hq_g ar 190)) ∧ (∀ e, mo_g ar' e 0 = 1 → -1000 ≤ mo_g ar' e 2 ∧ mo_g ar' e 2 ≤ 1000) ∧ hw_ee z' 26 = z 26 := by
  have hj : hw_j z < 61 := X.w.jj.1
  have g : mo_g ar' = mo_g ar := by
    funext e f
    unfold mo_g hq_g
    rw [E.a2 hj (r := 200) (by decide)]
  have e23 : hw_ee z' 23 = z 8 := (E.eo (by omega)).trans X.m8
  refine ⟨?_, g, e23, ?_, ?_, E.eo (by omega)⟩
  · refine X.mh.cg (fun r r0 r1 => by rw [E.a2 hj (by omega)]) ?_ ?_ ?_ ?_ ?_ ?_ ?_
    · rw [E.eo (by omega)]
      exact X.mh.n0
    · rw [E.eo (by omega)]
      exact X.mh.n1
    · rw [E.eo (by omega)]
      exact X.mh.o0
    · rw [E.eo (by omega), E.eo (by omega)]
      exact X.mh.o1
    · rw [E.eo (by omega)]
      exact X.mh.op
    · rw [E.eo (by omega)]
      exact X.mh.e0
    · rw [E.eo (by omega)]
      exact X.mh.e1
  · rw [g, e23]
    exact X.rr.M
  · rw [g]
    exact X.sml
theorem ed_fin {zr z2 : Nat → Int} {ar0 arr ar2 : Nat → Nat × (Nat → Int32)} {lr0 : Nat → Nat × (Nat → Int64)} {ad2 : Nat → Nat} {g' : Int → Int → Int} (n5 : N ≤ 600) (X : HX Cs z ar) (F : FX z ar lr) (cn : z 1 ≤ N ∧ z 21 ≤ N ∧ z 6 ≤ N) (rm : σ.2.2 + 357479 ≤ 6 * N + 2 * hq_po ar0 lr ∧ 4 * σ.2.1 + 356931 ≤ 4 * N + hq_po ar0 lr) (E : od_E (Cs (z 21)) (hq_g ar 190) z ar z' ar') (hz : ∀ k, k ≠ 23 → k ≠ 27 → k ≠ 29 → zr k = hw_ee z' k) (h23 : zr 23 = z 8) (ha : ∀ r, r < 200 ∨ r = 200 ∨ r = 201 ∨ r = 204 ∨ r = 205 ∨ r = 206 → arr r = ar' r) (hl : ∀ r, (arr r).1 = (ar' r).1) (hd : mo_ed zr arr g' z2 ar2) (K : mo_K g') (g4 : ∀ e f, 400 ≤ e → 0 ≤ f → f < 14 → g' e f = mo_g ar e f) (R' : RR (hq_g ar' 190) g' (z 8)) (chg : (∃ c, 0 ≤ c ∧ hq_g ar' 190 c ≠ hq_g ar 190 c) ↔ ¬ ∀ e f, 0 ≤ e → e < 400 → 0 ≤ f → f < 14 → g' e f = mo_g ar e f) (Ht : Hp t ad2 z2 ar2 lr') (k0 : 16 ≤ (lr' 0).1 ∧ (lr' 0).1 ≤ 1600) (k1 : (lr' 1).1 = 1) (ke : (lr' 0).1 = (lr0 0).1) (m : hq_rm σ ar0 lr s ar' lr0) (rt : t.2 = s.2) : JX (N + 1) t 0 ((lr' 1).2 0) := by
  have c1 := cn.1
  have c2 := cn.2.1
  have c3 := cn.2.2
  obtain ⟨⟨Cs', X2⟩, f1, f2, f3, f4, f5, f6, f7, f8⟩ := edit_ok X E hz h23 ha hl hd K g4 R' (E.ch.trans chg) (by omega) (by omega)
  have hj : hw_j z < 61 := X.w.jj.1
  have po : hq_po ar2 lr' = hq_po ar' lr0 := by
    unfold hq_po
    rw [hq_pt_cg f3, ke]
  have F2 : FX z2 ar2 lr' := FX.lrw (F.cg (f1 0 (by omega)) (f1 9 (by omega)) (f1 26 (by omega)) (f1 28 (by omega)) (f2 193 (by omega)) (f2 194 (by omega)) (f2 195 (by omega)) (f2 198 (by omega)) (f2 204 (by omega)) (f2 205 (by omega)) (f2 206 (by omega)) ((f3 189).trans E.l9) (by rw [f3 207, E.a2 hj (by decide)]) (fun r hr => by
    rw [f3 r]
    by_cases a1 : r = 189
    · rw [a1] at hr
      exact absurd hr (by decide)
    · by_cases a2 : r = 190
      · rw [a2] at hr
        exact absurd hr (by decide)
      · by_cases a3 : r = 191
        · rw [a3] at hr
          exact absurd hr (by decide)
        · by_cases a4 : 5 ≤ r ∧ r < 188 ∧ ¬ r % 3 = 2
          · rw [hq_isB_t a4] at hr
            exact absurd hr (by decide)
          · rw [E.ao r a1 a2 a3 (by omega) (by omega)])) k0 k1
  obtain ⟨m1, m2⟩ := m
  refine ⟨ad2, z2, ar2, lr', Cs', Ht, X2, F2, ⟨by omega, by omega, by omega⟩, f4, rfl, ?_, ?_⟩
  · rw [po, rt]
    omega
  · rw [po, rt]
    omega
end JJ
theorem cs_T (I : Int → Int) (n p : Int) : (∃ b, 0 ≤ b ∧ b < n ∧ I b = p) ∨ (∀ x, 0 ≤ x → x < n → I x ≠ p) := by
  by_cases h : ∃ b, 0 ≤ b ∧ b < n ∧ I b = p
  · exact Or.inl h
  · exact Or.inr (fun x x0 x1 e => h ⟨x, x0, x1, e⟩)
theorem cs_P (I : Int → Int) (n p : Int) : (∃ r, -1 ≤ r ∧ (r < n ∨ r = -1) ∧ fo_id I r = p) ∨ (p ≠ -1 ∧ ∀ x, 0 ≤ x → x < n → I x ≠ p) := by
  by_cases h1 : p = -1
  · exact Or.inl ⟨-1, by omega, Or.inr rfl, by rw [h1]; rfl⟩
  · rcases cs_T I n p with ⟨b, b0, b1, e⟩ | h
    · exact Or.inl ⟨b, by omega, Or.inl b1, by rw [fo_id_at b0]; exact e⟩
    · exact Or.inr ⟨h1, h⟩
/-- when an edit of fields changes something -/
theorem fld_chg {C C' : Int → Int} {g g' : Int → Int → Int} {e : Int} (e0 : 0 ≤ e) (e4 : e < 400) (hc : ∀ i, 0 ≤ i → (i ≤ 401 + e * 16 + 2 ∨ 401 + e * 16 + 16 ≤ i) → C' i = C i) (h7 : oV C' e 7 = oV C e 7) (h8 : oV C' e 8 = oV C e 8) (hg : ∀ a f, (a ≠ e ∨ f < 3) → g' a f = g a f) (F : rr_f C g e) (F' : rr_f C' g' e) : (∃ c, 0 ≤ c ∧ C' c ≠ C c) ↔ ¬ ∀ a f, 0 ≤ a → a < 400 → 0 ≤ f → f < 14 → g' a f = g a f := by
  constructor
  · rintro ⟨c, c0, hne⟩ h
    have k : ∀ f, 0 ≤ f → f < 14 → g' e f = g e f := fun f f0 f1 => h e f e0 e4 f0 f1
    apply hne
    by_cases x : c ≤ 401 + e * 16 + 2 ∨ 401 + e * 16 + 16 ≤ c
    · exact hc c c0 x
    · have all : ∀ f, 3 ≤ f → f < 16 → oV C' e f = oV C e f := by
        intro f f0 f1
        rcases (show f = 3 ∨ f = 4 ∨ f = 5 ∨ f = 6 ∨ f = 7 ∨ f = 8 ∨ f = 9 ∨ f = 10 ∨ f = 11 ∨ f = 12 ∨ f = 13 ∨ f = 14 ∨ f = 15 by omega) with q | q | q | q | q | q | q | q | q | q | q | q | q
        · rw [q, ← F.f3, ← F'.f3]; exact k 3 (by decide) (by decide)
        · rw [q, ← F.f4, ← F'.f4]; exact k 4 (by decide) (by decide)
        · rw [q, ← F.f5, ← F'.f5]; exact k 5 (by decide) (by decide)
        · rw [q, ← F.f6, ← F'.f6]; exact k 6 (by decide) (by decide)
        · rw [q]; exact h7
        · rw [q]; exact h8
        · rw [q, ← F.f7, ← F'.f7]; exact k 7 (by decide) (by decide)
        · rw [q, ← F.f8, ← F'.f8]; exact k 8 (by decide) (by decide)
        · rw [q, ← F.f9, ← F'.f9]; exact k 9 (by decide) (by decide)
        · rw [q, ← F.f12, ← F'.f12]; exact k 12 (by decide) (by decide)
        · rw [q, ← F.f13, ← F'.f13]; exact k 13 (by decide) (by decide)
        · rw [q, ← F.f10, ← F'.f10]; exact k 10 (by decide) (by decide)
        · rw [q, ← F.f11, ← F'.f11]; exact k 11 (by decide) (by decide)
      have q := all (c - (401 + e * 16)) (by omega) (by omega)
      unfold oV at q
      rw [show 401 + e * 16 + (c - (401 + e * 16)) = c by omega] at q
      exact q
  · intro h
    refine Classical.byContradiction fun h2 => h ?_
    have all : ∀ f, 0 ≤ f → oV C' e f = oV C e f := fun f f0 => Classical.byContradiction fun h3 => h2 ⟨401 + e * 16 + f, by omega, h3⟩
    intro a f a0 a1 f0 f1
    by_cases x : a ≠ e ∨ f < 3
    · exact hg a f x
    · have ae : a = e := by omega
      subst ae
      rcases (show f = 3 ∨ f = 4 ∨ f = 5 ∨ f = 6 ∨ f = 7 ∨ f = 8 ∨ f = 9 ∨ f = 10 ∨ f = 11 ∨ f = 12 ∨ f = 13 by omega) with q | q | q | q | q | q | q | q | q | q | q
      · rw [q, F.f3, F'.f3]; exact all _ (by decide)
      · rw [q, F.f4, F'.f4]; exact all _ (by decide)
      · rw [q, F.f5, F'.f5]; exact all _ (by decide)
      · rw [q, F.f6, F'.f6]; exact all _ (by decide)
      · rw [q, F.f7, F'.f7]; exact all _ (by decide)
      · rw [q, F.f8, F'.f8]; exact all _ (by decide)
      · rw [q, F.f9, F'.f9]; exact all _ (by decide)
      · rw [q, F.f10, F'.f10]; exact all _ (by decide)
      · rw [q, F.f11, F'.f11]; exact all _ (by decide)
      · rw [q, F.f12, F'.f12]; exact all _ (by decide)
      · rw [q, F.f13, F'.f13]; exact all _ (by decide)
/-- when an edit of the row changes something -/
theorem row_chg {C C' : Int → Int} {g g' : Int → Int → Int} {m : Int} (R : RR C g m) (R' : RR C' g' m) (h0 : C' 0 = C 0) (hi : ∀ i, 0 ≤ i → C' i ≠ C i → (∃ p, 0 ≤ p ∧ p < C 0 ∧ i = 1 + p) ∨ (∃ p, 0 ≤ p ∧ p < C 0 ∧ i = 401 + oI C p * 16 + 2)) (hf : ∀ e f, f ≠ 1 → f ≠ 2 → g' e f = g e f) (hn : ∀ e, 0 ≤ e → e < 400 → g e 0 ≠ 1 → ∀ f, g' e f = g e f) : (∃ c, 0 ≤ c ∧ C' c ≠ C c) ↔ ¬ ∀ a f, 0 ≤ a → a < 400 → 0 ≤ f → f < 14 → g' a f = g a f := by
  constructor
  · rintro ⟨c, c0, hne⟩ h
    rcases hi c c0 hne with ⟨p, p0, p1, e⟩ | ⟨p, p0, p1, e⟩
    · have u := (R.uni R' h h0 p0 p1).1
      unfold oI at u
      rw [e] at hne
      exact hne u
    · have u := R.uni R' h h0 p0 p1
      have u2 := u.2
      rw [oD_at p0, oD_at p0, u.1] at u2
      unfold oV at u2
      rw [e] at hne
      exact hne u2
  · intro h
    refine Classical.byContradiction fun h2 => h ?_
    have all : ∀ i, 0 ≤ i → C i = C' i := fun i i0 => Classical.byContradiction fun h3 => h2 ⟨i, i0, fun q => h3 q.symm⟩
    have R2 : RR C g' m := R'.cg (fun i i0 _ => all i i0) (fun _ _ _ _ _ _ => rfl)
    intro a f a0 a1 _ _
    exact R.same R2 hf hn a0 a1
