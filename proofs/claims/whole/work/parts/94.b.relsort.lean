/-! sort; the row is told by the entries -/
section RE
variable {C C' : Int → Int} {g g' : Int → Int → Int} {m : Int}
theorem RR.sor (R : RR C g m) {r : Int} {bs S E : Int → Int} {M' : Int} (h : fo_S (oD C) (oD C') (oI C) (oI C') bs S (C 0) M' r) (hM : M' ≤ 400) (h0 : C' 0 = C 0) (hE : ∀ i, 0 ≤ i → i < M' → E i = oI C (bs i)) (bi : ∀ i j, 0 ≤ i → i < M' → 0 ≤ j → j < M' → bs i = bs j → i = j) (all : ∀ x, 0 ≤ x → x < C 0 → fo_par (oD C) x = r → ∃ i, 0 ≤ i ∧ i < M' ∧ bs i = x) (hc : ∀ i, 401 ≤ i → C' i = C i) : RR C' (mo_so g E M'.toNat) m := by
  have N := R.N
  have M := R.M
  have m0 := N.m0
  have m4 := N.m4
  have nm := N.nm
  have W' := h.W N.W
  have B := fo_end_B' N.W h.r0 h.rn
  have mn : ((M'.toNat : Nat) : Int) = M' := by have := h.m0; omega
  have r0 := h.r0
  have ck : ∀ i, 0 ≤ i → i < M' → 0 ≤ bs i ∧ bs i < C 0 := fun i i0 i1 => by
    have := h.ch i i0 i1
    omega
  have inj : ∀ a b, 0 ≤ a → a < ((M'.toNat : Nat) : Int) → 0 ≤ b → b < ((M'.toNat : Nat) : Int) → E a = E b → a = b := fun a b a0 a1 b0 b1 q => by
    rw [mn] at a1 b1
    rw [hE a a0 a1, hE b b0 b1] at q
    have ca := ck a a0 a1
    have cb := ck b b0 b1
    exact bi a b a0 a1 b0 b1 (N.J.2 _ _ ca.1 ca.2 cb.1 cb.2 q)
  have gf : ∀ e f, f ≠ 2 → mo_so g E M'.toNat e f = g e f := fun e f hf => mo_so_f g E hf _
  have key : fo_R (mo_so g E M'.toNat) (oI C') (oD C') (C 0) := by
    refine h.R N.W M.R (fun x x0 x1 => gf _ _ (by decide)) (fun i i0 i1 => ?_) (fun x x0 x1 hx => ?_)
    · rw [← hE i i0 i1]
      exact mo_so_i g E M'.toNat i i0 (by omega) inj
    · refine mo_so_o g E _ (fun i i0 i1 q => ?_)
      rw [mn] at i1
      have ci := ck i i0 i1
      have br := h.br N.W i0 i1
      rw [hE i i0 i1] at q
      have e := N.J.2 _ _ ci.1 ci.2 x0 x1 q
      rw [← e] at hx
      exact hx (fo_par_eq N.W ci.1 ci.2 br.2.2)
  -- who stands where
  have at1 : ∀ q, 0 ≤ q → q < C 0 → ∃ p, 0 ≤ p ∧ p < C 0 ∧ oI C' q = oI C p ∧ oD C' q = oD C p := fun q q0 q1 => by
    by_cases c : r < q ∧ q < fo_end (oD C) (C 0) r
    · obtain ⟨i, y, i0, i1, y0, y1, e⟩ := h.find N.W c.1 c.2
      have ci := ck i i0 i1
      have br := h.br N.W i0 i1
      have b2 := br.1.2.1
      have k := h.inn i y i0 i1 y0 y1
      exact ⟨bs i + y, by omega, by omega, by rw [e]; exact k.2, by rw [e]; exact k.1⟩
    · have k := h.out q (by omega) q1 (by omega)
      exact ⟨q, q0, q1, k.2, k.1⟩
  have J' : fo_J (oI C') (C 0) := by
    refine ⟨fun p p0 p1 => ?_, fun p q p0 p1 q0 q1 e => ?_⟩
    · obtain ⟨x, x0, x1, x2, _⟩ := at1 p p0 p1
      rw [x2]
      exact N.J.1 x x0 x1
    · -- by places: equal entries have one parent and one place
      have kp := key p p0 p1
      have kq := key q q0 q1
      rw [e] at kp
      have P := fo_par_P W' p0 p1
      have Q := fo_par_P W' q0 q1
      exact fo_uq W' (oI C') (fun x x0 x1 => by
        obtain ⟨y, y0, y1, y2, _⟩ := at1 x x0 x1
        rw [y2]
        exact N.J.1 y y0 y1) key p q p0 p1 q0 q1 e
  have fv : ∀ e f, 0 ≤ e → 0 ≤ f → oV C' e f = oV C e f := fun e f e0 f0 => hc _ (by omega)
  refine RR.bld (n := C 0) (I := oI C') (D := oD C') h0 (fun _ _ _ => rfl) (fun q q0 q1 => (oD_at q0).symm) W' J' (fun q q0 q1 => ?_) (fun q q0 q1 => ?_) (fun x x0 x1 => ?_) key (fun q q0 q1 => ?_) (fun q q0 q1 => ?_) m0 m4
  · obtain ⟨p, p0, p1, p2, _⟩ := at1 q q0 q1
    rw [p2]
    exact N.lt p p0 p1
  · obtain ⟨p, p0, p1, _, p3⟩ := at1 q q0 q1
    rw [p3]
    exact N.dp p p0 p1
  · rw [gf x 0 (by decide)]
    rcases M.th x x0 x1 with ⟨a, p, p0, p1, p2⟩ | ⟨a, k⟩
    · refine Or.inl ⟨a, ?_⟩
      obtain ⟨q, q0, q1, q2⟩ := fo_sur N.J J' (fun q q0 q1 => by
        obtain ⟨y, y0, y1, y2, _⟩ := at1 q q0 q1
        exact ⟨y, y0, y1, y2⟩) p p0 p1
      exact ⟨q, q0, q1, q2.trans p2⟩
    · refine Or.inr ⟨a, fun q q0 q1 => ?_⟩
      obtain ⟨y, y0, y1, y2, _⟩ := at1 q q0 q1
      rw [y2]
      exact k y y0 y1
  · obtain ⟨p, p0, p1, p2, _⟩ := at1 q q0 q1
    have i0 := N.J.1 p p0 p1
    rw [p2]
    exact (R.F p p0 p1).gg (fun f f0 f1 => fv _ f i0 (by omega)) (fun f f0 f1 => gf _ f (by omega))
  · obtain ⟨p, p0, p1, p2, _⟩ := at1 q q0 q1
    have i0 := N.J.1 p p0 p1
    rw [p2]
    exact (R.G p p0 p1).gg (fun f f0 f1 => fv _ f i0 (by omega))
end RE
