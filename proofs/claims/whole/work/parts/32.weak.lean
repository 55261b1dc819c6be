/-! a frame may hold more locals, in any order -/
def pm_W (lv lv' : pm_L) : Prop := ∀ q, q ∈ lv → pm_lk lv' q.1 = some q.2
theorem pw_lk_mem : ∀ {lv : pm_L} {j : Nat} {v : Value}, pm_lk lv j = some v → (j, v) ∈ lv
  | [], _, _, h => by cases h
  | q :: l, j, v, h => by
    unfold pm_lk at h
    split at h
    · next e =>
      cases h
      subst e
      exact List.mem_cons_self
    · exact List.mem_cons_of_mem _ (pw_lk_mem h)
theorem pm_W.lk {lv lv' : pm_L} (h : pm_W lv lv') {j : Nat} {v : Value} (e : pm_lk lv j = some v) : pm_lk lv' j = some v := h (j, v) (pw_lk_mem e)
theorem pw_lk_filter {p : Nat × Value → Bool} : ∀ {lv : pm_L} {j : Nat} {v : Value}, pm_lk lv j = some v → p (j, v) = true → pm_lk (lv.filter p) j = some v
  | [], _, _, h, _ => by cases h
  | q :: l, j, v, h, hp => by
    unfold pm_lk at h
    split at h
    · next e =>
      cases h
      subst e
      rw [List.filter_cons_of_pos hp]
      unfold pm_lk
      exact if_pos rfl
    · next e =>
      by_cases hq : p q = true
      · rw [List.filter_cons_of_pos hq]
        unfold pm_lk
        rw [if_neg e]
        exact pw_lk_filter h hp
      · rw [List.filter_cons_of_neg hq]
        exact pw_lk_filter h hp
theorem pm_W.cons {lv lv' : pm_L} (h : pm_W lv lv') (i : Nat) (v : Value) (p : Nat × Value → Bool) (hp : ∀ q, p q = true → q.1 ≠ i) : pm_W ((i, v) :: lv.filter p) ((i, v) :: lv'.filter p) := by
  intro q hq
  cases List.mem_cons.mp hq with
  | inl e =>
    subst e
    unfold pm_lk
    exact if_pos rfl
  | inr e =>
    obtain ⟨e1, e2⟩ := List.mem_filter.mp e
    unfold pm_lk
    rw [if_neg (fun x => hp q e2 x.symm)]
    exact pw_lk_filter (h q e1) e2
theorem pm_W.st1 {lv lv' : pm_L} (h : pm_W lv lv') (i : Nat) (v : Value) : pm_W (pm_st1 lv i v) (pm_st1 lv' i v) := by
  refine h.cons i v _ (fun q hq e => ?_)
  simp [e] at hq
theorem pm_W.st2 {lv lv' : pm_L} (h : pm_W lv lv') (i : Nat) (v : Value) : pm_W (pm_st2 lv i v) (pm_st2 lv' i v) := by
  refine h.cons i v _ (fun q hq e => ?_)
  simp [e] at hq
section PW
variable {P : pm_P} {mi pc pc' : Nat} {lv lv' l : pm_L} {st s' : List Value} {σ σ' : pm_S} {i : Instr}
theorem pm_jp_w {off : Int} (e : pm_jp pc off lv st = some (pc', l, s')) : l = lv ∧ pm_jp pc off lv' st = some (pc', lv', s') := by
  unfold pm_jp at e ⊢
  split at e
  · cases e
  · next h =>
    cases e
    exact ⟨rfl, if_neg h⟩
theorem pm_br_w {c : Prop} [Decidable c] {off : Int} (e : pm_br c pc off lv st = some (pc', l, s')) : l = lv ∧ pm_br c pc off lv' st = some (pc', lv', s') := by
  unfold pm_br at e ⊢
  split at e
  · cases e
  · next h =>
    rw [if_neg h]
    split at e
    · next h2 =>
      cases e
      exact ⟨rfl, if_pos h2⟩
    · next h2 =>
      cases e
      exact ⟨rfl, if_neg h2⟩
theorem pm_i1_w (hw : pm_W lv lv') (e : pm_i1 P mi pc lv st i = some (pc', l, s')) : l = lv ∧ pm_i1 P mi pc lv' st i = some (pc', lv', s') := by
  unfold pm_i1 at e
  split at e
  all_goals first
    | (cases e; done)
    | (cases e; exact ⟨rfl, rfl⟩)
    | (exact pm_jp_w e)
    | (split at e <;> first
        | (cases e; done)
        | (next hk => cases e; refine ⟨rfl, ?_⟩; unfold pm_i1; simp only [hw.lk hk]; done)
        | (next hk => cases e; refine ⟨rfl, ?_⟩; unfold pm_i1; simp only [hk]; done)
        | (split at e <;> first | (cases e; done) | (next hk => cases e; refine ⟨rfl, ?_⟩; unfold pm_i1; simp only [hk, if_true]; done)))
theorem pm_i2_w (hw : pm_W lv lv') (e : pm_i2 P mi pc lv st i = some (pc', l, s')) : ∃ l', pm_W l l' ∧ pm_i2 P mi pc lv' st i = some (pc', l', s') := by
  unfold pm_i2 at e
  split at e
  all_goals first
    | (cases e; done)
    | (split at e <;> first
        | (cases e; done)
        | (next hk => split at e <;> first
            | (next hc => cases e; refine ⟨_, hw.st1 _ _, ?_⟩; unfold pm_i2; simp only [hw.lk hk, if_pos hc]; done)
            | (cases e; done))
        | (split at e <;> first
            | (next hc => cases e; refine ⟨_, hw.st1 _ _, ?_⟩; unfold pm_i2; simp only [if_pos hc]; done)
            | (next hc => cases e; refine ⟨_, hw.st2 _ _, ?_⟩; unfold pm_i2; simp only [if_pos hc]; done)
            | (cases e; done)))
theorem pm_i3_w (e : pm_i3 pc lv st i = some (pc', l, s')) : l = lv ∧ pm_i3 pc lv' st i = some (pc', lv', s') := by
  unfold pm_i3 at e
  split at e
  all_goals first
    | (cases e; done)
    | (split at e <;> first
        | (cases e; done)
        | (cases e; exact ⟨rfl, rfl⟩)
        | (split at e <;> first
            | (cases e; done)
            | (next hc => cases e; refine ⟨rfl, ?_⟩; unfold pm_i3; simp only [if_neg hc]; done)))
theorem pm_i4_w (e : pm_i4 pc lv st i = some (pc', l, s')) : l = lv ∧ pm_i4 pc lv' st i = some (pc', lv', s') := by
  unfold pm_i4 at e
  split at e
  all_goals first
    | (cases e; done)
    | (split at e <;> first
        | (cases e; done)
        | (exact pm_br_w e)
        | (split at e <;> first
            | (cases e; done)
            | (next hc => obtain ⟨e1, e2⟩ := pm_jp_w (lv' := lv') e; refine ⟨e1, ?_⟩; unfold pm_i4; simp only [if_pos hc, e2]; done)
            | (next hc => split at e <;> first
                | (cases e; done)
                | (next hd => obtain ⟨e1, e2⟩ := pm_jp_w (lv' := lv') e; refine ⟨e1, ?_⟩; unfold pm_i4; simp only [if_neg hc, hd, e2]; done))))
theorem pm_i5_w (e : pm_i5 P mi pc lv st σ i = some (pc', l, s', σ')) : l = lv ∧ pm_i5 P mi pc lv' st σ i = some (pc', lv', s', σ') := by
  have q : pm_i5 P mi pc lv st σ i = (pm_i5 P mi pc lv' st σ i).map (fun r => (r.1, lv, r.2.2.1, r.2.2.2)) := by
    unfold pm_i5
    split
    all_goals first
      | rfl
      | (split <;> first
        | rfl
        | (split <;> first
          | rfl
          | (split <;> first
            | rfl
            | (split <;> first
              | rfl
              | (split <;> rfl)))))
  have q2 : pm_i5 P mi pc lv' st σ i = (pm_i5 P mi pc lv' st σ i).map (fun r => (r.1, lv', r.2.2.1, r.2.2.2)) := by
    unfold pm_i5
    split
    all_goals first
      | rfl
      | (split <;> first
        | rfl
        | (split <;> first
          | rfl
          | (split <;> first
            | rfl
            | (split <;> first
              | rfl
              | (split <;> rfl)))))
  rw [q] at e
  cases h : pm_i5 P mi pc lv' st σ i with
  | none => rw [h] at e; cases e
  | some r =>
    rw [h] at e q2
    cases e
    exact ⟨rfl, q2⟩
theorem pm_i6_w (e : pm_i6 P mi pc lv st σ i = some (pc', l, s', σ')) : l = lv ∧ pm_i6 P mi pc lv' st σ i = some (pc', lv', s', σ') := by
  have q : pm_i6 P mi pc lv st σ i = (pm_i6 P mi pc lv' st σ i).map (fun r => (r.1, lv, r.2.2.1, r.2.2.2)) := by
    unfold pm_i6
    split
    all_goals first
      | rfl
      | (split <;> first
        | rfl
        | (split <;> first
          | rfl
          | (split <;> first
            | rfl
            | (split <;> first
              | rfl
              | (split <;> rfl)))))
  have q2 : pm_i6 P mi pc lv' st σ i = (pm_i6 P mi pc lv' st σ i).map (fun r => (r.1, lv', r.2.2.1, r.2.2.2)) := by
    unfold pm_i6
    split
    all_goals first
      | rfl
      | (split <;> first
        | rfl
        | (split <;> first
          | rfl
          | (split <;> first
            | rfl
            | (split <;> first
              | rfl
              | (split <;> rfl)))))
  rw [q] at e
  cases h : pm_i6 P mi pc lv' st σ i with
  | none => rw [h] at e; cases e
  | some r =>
    rw [h] at e q2
    cases e
    exact ⟨rfl, q2⟩
theorem pm_n2 {r : pm_M} (e : pm_i2 P mi pc lv st i = some r) : pm_i1 P mi pc lv' st i = none := by
  unfold pm_i2 at e
  split at e
  all_goals first
    | (cases e; done)
    | exact rfl
theorem pm_n3 {r : pm_M} (e : pm_i3 pc lv st i = some r) : pm_i1 P mi pc lv' st i = none ∧ pm_i2 P mi pc lv' st i = none := by
  unfold pm_i3 at e
  split at e
  all_goals first
    | (cases e; done)
    | exact ⟨rfl, rfl⟩
theorem pm_n4 {r : pm_M} (e : pm_i4 pc lv st i = some r) : pm_i1 P mi pc lv' st i = none ∧ pm_i2 P mi pc lv' st i = none ∧ pm_i3 pc lv' st i = none := by
  unfold pm_i4 at e
  split at e
  all_goals first
    | (cases e; done)
    | exact ⟨rfl, rfl, rfl⟩
theorem pm_n5 {r : pm_N} (e : pm_i5 P mi pc lv st σ i = some r) : pm_i1 P mi pc lv' st i = none ∧ pm_i2 P mi pc lv' st i = none ∧ pm_i3 pc lv' st i = none ∧ pm_i4 pc lv' st i = none := by
  unfold pm_i5 at e
  split at e
  all_goals first
    | (cases e; done)
    | exact ⟨rfl, rfl, rfl, rfl⟩
theorem pm_n6 {r : pm_N} (e : pm_i6 P mi pc lv st σ i = some r) : pm_i1 P mi pc lv' st i = none ∧ pm_i2 P mi pc lv' st i = none ∧ pm_i3 pc lv' st i = none ∧ pm_i4 pc lv' st i = none ∧ pm_i5 P mi pc lv' st σ i = none := by
  unfold pm_i6 at e
  split at e
  all_goals first
    | (cases e; done)
    | exact ⟨rfl, rfl, rfl, rfl, rfl⟩
theorem pm_n7 {r : pm_O × pm_S} (e : pm_dn P mi pc st σ i = some r) : pm_i1 P mi pc lv' st i = none ∧ pm_i2 P mi pc lv' st i = none ∧ pm_i3 pc lv' st i = none ∧ pm_i4 pc lv' st i = none ∧ pm_i5 P mi pc lv' st σ i = none := by
  unfold pm_dn at e
  split at e
  all_goals first
    | (cases e; done)
    | exact ⟨rfl, rfl, rfl, rfl, rfl⟩
theorem pm_n8 {r : Nat × List Value × List Value} (e : pm_ca P mi st σ i = some r) : pm_i1 P mi pc lv' st i = none ∧ pm_i2 P mi pc lv' st i = none ∧ pm_i3 pc lv' st i = none ∧ pm_i4 pc lv' st i = none ∧ pm_i5 P mi pc lv' st σ i = none := by
  unfold pm_ca at e
  split at e
  all_goals first
    | (cases e; done)
    | exact ⟨rfl, rfl, rfl, rfl, rfl⟩
theorem pm_in_w (hw : pm_W lv lv') (e : pm_in P mi pc lv st σ i = some (pc', l, s', σ')) : ∃ l', pm_W l l' ∧ pm_in P mi pc lv' st σ i = some (pc', l', s', σ') := by
  unfold pm_in at e
  split at e
  · next r h =>
    obtain ⟨p1, l1, s1⟩ := r
    cases e
    obtain ⟨rfl, h2⟩ := pm_i1_w hw h
    refine ⟨lv', hw, ?_⟩
    unfold pm_in
    simp only [h2, pm_wp]
  · split at e
    · next r h =>
      obtain ⟨p1, l1, s1⟩ := r
      cases e
      obtain ⟨l', h1, h2⟩ := pm_i2_w hw h
      refine ⟨l', h1, ?_⟩
      unfold pm_in
      simp only [pm_n2 h, h2, pm_wp]
    · split at e
      · next r h =>
        obtain ⟨p1, l1, s1⟩ := r
        cases e
        obtain ⟨rfl, h2⟩ := pm_i3_w (lv' := lv') h
        obtain ⟨n1, n2⟩ := pm_n3 (P := P) (mi := mi) (lv' := lv') h
        refine ⟨lv', hw, ?_⟩
        unfold pm_in
        simp only [n1, n2, h2, pm_wp]
      · split at e
        · next r h =>
          obtain ⟨p1, l1, s1⟩ := r
          cases e
          obtain ⟨rfl, h2⟩ := pm_i4_w (lv' := lv') h
          obtain ⟨n1, n2, n3⟩ := pm_n4 (P := P) (mi := mi) (lv' := lv') h
          refine ⟨lv', hw, ?_⟩
          unfold pm_in
          simp only [n1, n2, n3, h2, pm_wp]
        · split at e
          · next r h =>
            obtain ⟨p1, l1, s1, σ1⟩ := r
            cases e
            obtain ⟨rfl, h2⟩ := pm_i5_w (lv' := lv') h
            obtain ⟨n1, n2, n3, n4⟩ := pm_n5 (lv' := lv') h
            refine ⟨lv', hw, ?_⟩
            unfold pm_in
            simp only [n1, n2, n3, n4, h2]
          · obtain ⟨rfl, h2⟩ := pm_i6_w (lv' := lv') e
            obtain ⟨n1, n2, n3, n4, n5⟩ := pm_n6 (lv' := lv') e
            refine ⟨lv', hw, ?_⟩
            unfold pm_in
            simp only [n1, n2, n3, n4, n5, h2]
theorem pm_in_n (h : pm_in P mi pc lv st σ i = none) (n1 : pm_i1 P mi pc lv' st i = none) (n2 : pm_i2 P mi pc lv' st i = none) (n3 : pm_i3 pc lv' st i = none) (n4 : pm_i4 pc lv' st i = none) (n5 : pm_i5 P mi pc lv' st σ i = none)
    (m1 : pm_i1 P mi pc lv st i = none) (m2 : pm_i2 P mi pc lv st i = none) (m3 : pm_i3 pc lv st i = none) (m4 : pm_i4 pc lv st i = none) (m5 : pm_i5 P mi pc lv st σ i = none) : pm_in P mi pc lv' st σ i = none := by
  unfold pm_in at h ⊢
  simp only [m1, m2, m3, m4, m5] at h
  simp only [n1, n2, n3, n4, n5]
  cases q : pm_i6 P mi pc lv' st σ i with
  | none => rfl
  | some r =>
    obtain ⟨a, b, c, d⟩ := r
    obtain ⟨_, q2⟩ := pm_i6_w (lv' := lv) q
    rw [h] at q2
    cases q2
theorem pm_st_w (hw : pm_W lv lv') {mi' : Nat} (e : pm_step P (mi, pc, lv, st) σ = some (.inl ((mi', pc', l, s'), σ'))) : ∃ l', pm_W l l' ∧ pm_step P (mi, pc, lv', st) σ = some (.inl ((mi', pc', l', s'), σ')) := by
  unfold pm_step at e ⊢
  split at e
  · cases e
  · next i n hc =>
    simp only [hc]
    split at e
    · next hl =>
      rw [if_pos hl]
      split at e
      · next p1 l1 s1 σ1 h =>
        cases e
        obtain ⟨l', a, b⟩ := pm_in_w hw h
        exact ⟨l', a, by simp only [b]⟩
      · split at e
        · cases e
        · split at e <;> cases e
    · cases e
theorem pm_dn_w {r : pm_O × pm_S} (e : pm_step P (mi, pc, lv, st) σ = some (.inr (.inl r))) : pm_step P (mi, pc, lv', st) σ = some (.inr (.inl r)) := by
  unfold pm_step at e ⊢
  split at e
  · cases e
  · next i n hc =>
    simp only [hc]
    split at e
    · next hl =>
      rw [if_pos hl]
      split at e
      · cases e
      · next h =>
        split at e
        · next r2 hd =>
          cases e
          obtain ⟨n1, n2, n3, n4, n5⟩ := pm_n7 (lv' := lv') hd
          obtain ⟨m1, m2, m3, m4, m5⟩ := pm_n7 (lv' := lv) hd
          have q := pm_in_n h n1 n2 n3 n4 n5 m1 m2 m3 m4 m5
          simp only at q hd
          simp only [q, hd]
        · split at e <;> cases e
    · cases e
theorem pm_ca_w {y : Nat} {as : List Value} {g : pm_F} (e : pm_step P (mi, pc, lv, st) σ = some (.inr (.inr (y, as, g)))) : ∃ r, g = (mi, pc, lv, r) ∧ pm_step P (mi, pc, lv', st) σ = some (.inr (.inr (y, as, (mi, pc, lv', r)))) := by
  unfold pm_step at e ⊢
  split at e
  · cases e
  · next i n hc =>
    simp only [hc]
    split at e
    · next hl =>
      rw [if_pos hl]
      split at e
      · cases e
      · next h =>
        split at e
        · cases e
        · next hd =>
          split at e
          · next y2 as2 r2 ha =>
            cases e
            obtain ⟨n1, n2, n3, n4, n5⟩ := pm_n8 (pc := pc) (lv' := lv') ha
            obtain ⟨m1, m2, m3, m4, m5⟩ := pm_n8 (pc := pc) (lv' := lv) ha
            have q := pm_in_n h n1 n2 n3 n4 n5 m1 m2 m3 m4 m5
            refine ⟨r2, rfl, ?_⟩
            simp only at q hd ha
            simp only [q, hd, ha]
          · cases e
    · cases e
end PW
theorem pm_ev_w (P : pm_P) : ∀ (n : Nat) {mi pc : Nat} {lv lv' : pm_L} {st : List Value} {σ : pm_S} {r : pm_O × pm_S}, pm_W lv lv' → pm_ev P n (mi, pc, lv, st) σ = some r → pm_ev P n (mi, pc, lv', st) σ = some r
  | 0, _, _, _, _, _, _, _, _, e => by cases e
  | n + 1, mi, pc, lv, lv', st, σ, r, hw, e => by
    rw [pm_ev] at e ⊢
    split at e
    · cases e
    · next f' σ' h =>
      obtain ⟨m1, p1, l1, s1⟩ := f'
      obtain ⟨l', a, b⟩ := pm_st_w hw h
      simp only [b]
      exact pm_ev_w P n a e
    · next r2 h =>
      simp only [pm_dn_w (lv' := lv') h]
      exact e
    · next y as g h =>
      obtain ⟨rr, rfl, b⟩ := pm_ca_w (lv' := lv') h
      simp only [b]
      split at e
      · cases e
      · next v σ1 hv =>
        exact pm_ev_w P n hw e
      · next x σ1 hv =>
        cases hh : pm_hdl P mi with
        | nil =>
          unfold pm_catch at e ⊢
          simp only [hh] at e ⊢
          exact e
        | cons a t =>
          unfold pm_catch at e ⊢
          simp only [hh] at e ⊢
          by_cases c1 : x < σ1.2.1
          · simp only [if_pos c1] at e ⊢
            cases hx : σ1.1 x with
            | inl q => simp only [hx] at e; cases e
            | inr q =>
              simp only [hx] at e ⊢
              by_cases c2 : pm_isa P q.1 0 = true
              · simp only [if_pos c2] at e ⊢
                cases hf : pm_find P pc q.1 (a :: t) with
                | none => simp only [hf] at e; cases e
                | some hp =>
                  simp only [hf] at e ⊢
                  exact pm_ev_w P n hw e
              · simp only [if_neg c2] at e; cases e
          · simp only [if_neg c1] at e; cases e
theorem pm_Ev.weak {P : pm_P} {mi pc : Nat} {lv lv' : pm_L} {st : List Value} {σ : pm_S} {r : pm_O × pm_S} (k : pm_Ev P (mi, pc, lv, st) σ r) (h : lv.map (fun q => pm_lk lv' q.1) = lv.map (fun q => some q.2)) : pm_Ev P (mi, pc, lv', st) σ r := by
  obtain ⟨n, hn⟩ := k
  exact ⟨n, pm_ev_w P n (fun q hq => List.map_inj_left.mp h q hq) hn⟩
