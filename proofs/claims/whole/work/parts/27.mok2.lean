theorem tq_ca_in {k : Nat} (h : k < 15) {q : Nat × Nat × Nat × Nat × Nat} (hq : q ∈ tq_CA k) {w : Cond} (hw : tq_wc1 k q = some w) : w ∈ tq_Ts := tq_inC (List.mem_flatMap.mpr ⟨k, List.mem_range.mpr h, List.mem_filterMap.mpr ⟨q, hq, hw⟩⟩)
theorem tq_O (i : Nat) {w : Cond} (h : tq_wO[i]? = some w) : w ∈ tq_Ts := tq_inO (List.mem_of_getElem? h)
theorem tq_call {mi : Nat} (hm : tq_dm mi = true) {ix k c y n : Nat} (hq : tq_look (tq_CM mi) ix = some (k, c, y, n)) :
    (k = 6 → pm_k6 tq_Ts (tq_mm mi).1.cls (pm_rm (tq_rf mi).1 (tq_rf mi).2) ix) ∧ (k = 7 → pm_k7 tq_Ts (tq_mm mi).1.cls (pm_rm (tq_rf mi).1 (tq_rf mi).2) ix) ∧
    (k < 6 → tq_dm y = true ∧ pm_sok tq_cl tq_Ts tq_Nw (tq_mm mi).1.cls (tq_mm y).1 ix k c n ∧ (tq_rf y).1 + 1 ≤ (tq_rf mi).1 ∧ 8 + ((tq_me y).2.2.2.2.2.1 + 11) + (tq_rf y).2 ≤ (tq_rf mi).2 ∧ (k = 4 ∨ k = 5 → (tq_me y).2.2.2.2.2.2.1 = none ∧ (tq_me y).2.2.2.2.2.2.2.1 = [] ∧ Cond.code (tq_mm y).1 (tq_mm y).2 (tq_me y).2.2.2.2.2.1 none ∈ tq_Ts)) := by
  have h0 := tq_ckM_ok hm
  unfold tq_ckM at h0
  simp only [Bool.and_eq_true] at h0
  obtain ⟨⟨⟨⟨⟨-, g1⟩, g2⟩, g3⟩, g4⟩, -⟩ := h0
  have hk : tq_k mi < 15 := Nat.le_of_ble_eq_true g1
  have hr1 : 1 ≤ (tq_rf mi).1 := Nat.le_of_ble_eq_true g2
  have hr2 : 26 ≤ (tq_rf mi).2 := Nat.le_of_ble_eq_true g3
  have h1 := List.all_eq_true.mp g4 _ (tq_look_mem hq)
  simp only [Bool.and_eq_true, decide_eq_true_eq] at h1
  obtain ⟨hca, h2⟩ := h1
  refine ⟨?_, ?_, ?_⟩
  · intro e
    subst e
    exact ⟨tq_ca_in hk hca rfl, tq_O 4 rfl, tq_O 5 rfl, hr1, Nat.le_trans (by omega) hr2⟩
  · intro e
    subst e
    exact ⟨tq_ca_in hk hca rfl, tq_O 2 rfl, tq_O 3 rfl, tq_inI (List.mem_append_right _ List.mem_cons_self), hr1, hr2⟩
  · intro e
    rcases Bool.or_eq_true_iff.mp h2 with h3 | h3
    · exact absurd (Nat.le_of_ble_eq_true h3) (by show ¬ 6 ≤ k; omega)
    · simp only [Bool.and_eq_true, decide_eq_true_eq] at h3
      obtain ⟨⟨⟨⟨⟨hdy, hy1⟩, hf1⟩, hf2⟩, hpd⟩, h4⟩ := h3
      have hy1' : Nat.beq y 1 = false := by simpa using hy1
      refine ⟨hdy, ⟨hpd, ?_, ?_, ?_, ?_⟩, Nat.le_of_ble_eq_true hf1, Nat.le_of_ble_eq_true hf2, ?_⟩
      · rcases Bool.or_eq_true_iff.mp h4 with h4 | h4
        · rcases Bool.or_eq_true_iff.mp h4 with h4 | h4
          · rcases Bool.or_eq_true_iff.mp h4 with h4 | h4
            · simp only [Bool.and_eq_true] at h4
              have e0 : k = 0 := Nat.eq_of_beq_eq_true h4.1.1.1.1
              subst e0
              exact Or.inl ⟨rfl, tq_ca_in hk hca rfl⟩
            · simp only [Bool.and_eq_true] at h4
              have e0 : k = 2 := Nat.eq_of_beq_eq_true h4.1
              subst e0
              exact Or.inr (Or.inr (Or.inl ⟨rfl, tq_ca_in hk hca rfl⟩))
          · simp only [Bool.and_eq_true] at h4
            have e0 : k = 3 := Nat.eq_of_beq_eq_true h4.1.1.1.1
            have e1 : tq_k mi = 11 := Nat.eq_of_beq_eq_true h4.1.1.2
            have e2 : ix = 11 := Nat.eq_of_beq_eq_true h4.1.2
            have e3 := Nat.eq_of_beq_eq_true h4.2
            have e3 : y = _ := e3
            subst e0; subst e2; subst e3
            refine Or.inr (Or.inr (Or.inr (Or.inl ⟨rfl, tq_n 0, ?_⟩)))
            have e4 : (tq_mm mi).1.cls = tq_n 11 := by show tq_n (tq_k mi) = tq_n 11; rw [e1]
            rw [e4]
            exact List.mem_cons_self
        · simp only [Bool.and_eq_true] at h4
          have e0 : k = 4 := Nat.eq_of_beq_eq_true h4.1.1.1.1
          subst e0
          exact Or.inr (Or.inr (Or.inr (Or.inr (Or.inl ⟨rfl, tq_ca_in hk hca rfl⟩))))
      · intro hk01
        rcases Bool.or_eq_true_iff.mp h4 with h4 | h4
        · rcases Bool.or_eq_true_iff.mp h4 with h4 | h4
          · rcases Bool.or_eq_true_iff.mp h4 with h4 | h4
            · simp only [Bool.and_eq_true, Bool.not_eq_true'] at h4
              obtain ⟨⟨⟨⟨-, s1⟩, s2⟩, s3⟩, s4⟩ := h4
              have s1' : (tq_me y).2.2.2.1 = false := s1
              have s2' : decide ((tq_me y).2.1 = "<init>") = false := s2
              have e3 : tq_k y = c := Nat.eq_of_beq_eq_true s3
              have hw : tq_wr y = [Cond.instanceMethod (tq_mm y).1, Cond.selects (tq_n (tq_k y)) (tq_mm y).1 (tq_mm y).1] := by
                unfold tq_wr
                rw [hy1', s1', s2']
                rfl
              refine ⟨tq_inr hdy (by rw [hw]; exact List.mem_cons_self), tq_n c, tq_t c, (tq_f c).length, tq_cl_at (Nat.le_of_ble_eq_true s4), ?_⟩
              rw [← e3]
              exact tq_inr hdy (by rw [hw]; exact List.mem_cons_of_mem _ List.mem_cons_self)
            · simp only [Bool.and_eq_true] at h4
              have e0 : k = 2 := Nat.eq_of_beq_eq_true h4.1
              omega
          · simp only [Bool.and_eq_true] at h4
            have e0 : k = 3 := Nat.eq_of_beq_eq_true h4.1.1.1.1
            omega
        · simp only [Bool.and_eq_true] at h4
          have e0 : k = 4 := Nat.eq_of_beq_eq_true h4.1.1.1.1
          omega
      · intro hk23
        have hst : (tq_me y).2.2.2.1 = true := by
          rcases Bool.or_eq_true_iff.mp h4 with h4 | h4
          · rcases Bool.or_eq_true_iff.mp h4 with h4 | h4
            · rcases Bool.or_eq_true_iff.mp h4 with h4 | h4
              · simp only [Bool.and_eq_true] at h4
                have e0 : k = 0 := Nat.eq_of_beq_eq_true h4.1.1.1.1
                omega
              · simp only [Bool.and_eq_true] at h4
                exact h4.2
            · simp only [Bool.and_eq_true] at h4
              exact h4.1.1.1.2
          · simp only [Bool.and_eq_true] at h4
            have e0 : k = 4 := Nat.eq_of_beq_eq_true h4.1.1.1.1
            omega
        have hw : tq_wr y = [Cond.static (tq_mm y).1] := by
          unfold tq_wr
          rw [hy1', hst]
          rfl
        exact tq_inr hdy (by rw [hw]; exact List.mem_cons_self)
      · intro hk45
        rcases Bool.or_eq_true_iff.mp h4 with h4 | h4
        · exfalso
          rcases Bool.or_eq_true_iff.mp h4 with h4 | h4
          · rcases Bool.or_eq_true_iff.mp h4 with h4 | h4
            · simp only [Bool.and_eq_true] at h4
              have e0 : k = 0 := Nat.eq_of_beq_eq_true h4.1.1.1.1
              omega
            · simp only [Bool.and_eq_true] at h4
              have e0 : k = 2 := Nat.eq_of_beq_eq_true h4.1
              omega
          · simp only [Bool.and_eq_true] at h4
            have e0 : k = 3 := Nat.eq_of_beq_eq_true h4.1.1.1.1
            omega
        · simp only [Bool.and_eq_true, Bool.not_eq_true', decide_eq_true_eq] at h4
          obtain ⟨⟨⟨⟨-, s1⟩, s2⟩, -⟩, -⟩ := h4
          have hw : tq_wr y = [Cond.instanceMethod (tq_mm y).1] := by
            unfold tq_wr
            rw [hy1', show (tq_me y).2.2.2.1 = false from s1, decide_eq_true (show (tq_me y).2.1 = "<init>" from s2)]
            rfl
          exact ⟨tq_inr hdy (by rw [hw]; exact List.mem_cons_self), s2⟩
      · intro hk45
        rcases Bool.or_eq_true_iff.mp h4 with h4 | h4
        · exfalso
          rcases Bool.or_eq_true_iff.mp h4 with h4 | h4
          · rcases Bool.or_eq_true_iff.mp h4 with h4 | h4
            · simp only [Bool.and_eq_true] at h4
              have e0 : k = 0 := Nat.eq_of_beq_eq_true h4.1.1.1.1
              omega
            · simp only [Bool.and_eq_true] at h4
              have e0 : k = 2 := Nat.eq_of_beq_eq_true h4.1
              omega
          · simp only [Bool.and_eq_true] at h4
            have e0 : k = 3 := Nat.eq_of_beq_eq_true h4.1.1.1.1
            omega
        · simp only [Bool.and_eq_true, Bool.not_eq_true', decide_eq_true_eq] at h4
          obtain ⟨⟨-, s3⟩, s4⟩ := h4
          refine ⟨s3, s4, ?_⟩
          have h6 := tq_inh hdy rfl
          unfold tq_wh at h6
          rw [show (tq_me y).2.2.2.2.2.2.2.1 = [] from s4] at h6
          have h7 : Cond.code (tq_mm y).1 (tq_mm y).2 (tq_me y).2.2.2.2.2.1 (tq_me y).2.2.2.2.2.2.1 ∈ tq_Ts := h6
          rw [show (tq_me y).2.2.2.2.2.2.1 = none from s3] at h7
          exact h7
theorem tq_exc {mi : Nat} {pc c : Nat} (hq : tq_lx tq_EX mi pc = some c) : pm_xok tq_cl (tq_Ts ++ tq_Tx) (tq_mm mi).1.cls (tq_mm mi).2 (pm_rm (tq_rf mi).1 (tq_rf mi).2) pc c ∧ (tq_me mi).2.2.2.2.2.2.2.1 = [] := by
  obtain ⟨ix, ic, hmem⟩ := tq_lx_mem hq
  have h0 := List.all_eq_true.mp tq_ckE_ok _ hmem
  unfold tq_ckE at h0
  simp only [Bool.and_eq_true, decide_eq_true_eq] at h0
  obtain ⟨⟨⟨⟨⟨⟨⟨⟨⟨g1, g2⟩, g3⟩, g4⟩, g5⟩, g6⟩, g7⟩, g8⟩, g9⟩, g10⟩ := h0
  refine ⟨?_, g6⟩
  have e0 : tq_k mi = 0 := Nat.eq_of_beq_eq_true g2
  have c7 : 7 ≤ c := Nat.le_of_ble_eq_true g3
  have c10 : c ≤ 10 := Nat.le_of_ble_eq_true g4
  have e1 : (tq_mm mi).1.cls = tq_n 0 := by show tq_n (tq_k mi) = tq_n 0; rw [e0]
  rw [e1]
  have hdc : decode (tq_mm mi).2 pc = .ok (.new ix, 3) ∧ decode (tq_mm mi).2 (pc + 3) = .ok (.dup, 1) ∧ decode (tq_mm mi).2 (pc + 4) = .ok (.invokespecial ic, 3) ∧ decode (tq_mm mi).2 (pc + 7) = .ok (.athrow, 1) := by
    split at g10
    · next a b d q h1 h2 h3 h4 =>
      simp only [Bool.and_eq_true, decide_eq_true_eq] at g10
      obtain ⟨⟨⟨r1, r2⟩, r3⟩, r4⟩ := g10
      subst r1; subst r2; subst r3; subst r4
      exact ⟨h1, h2, h3, h4⟩
    · cases g10
  refine ⟨tq_n c, tq_t c, tq_nm, ix, ic, ?_, g5, fun n hn => List.all_eq_true.mp tq_fit_nm n hn, fun w hw => ?_, List.mem_append_left _ ?_, List.mem_append_left _ (tq_ini (by omega)), hdc.1, hdc.2.1, hdc.2.2.1, hdc.2.2.2, ?_, ?_⟩
  · have := tq_cl_at (c := c) (by omega)
    rw [g9] at this
    exact this
  · have h1 := List.all_eq_true.mp (List.all_eq_true.mp tq_isR_ok _ g1) w hw
    simp only [Bool.or_eq_true, decide_eq_true_eq] at h1
    rcases h1 with h1 | h1
    · exact List.mem_append_left _ (tq_inE (List.mem_flatMap.mpr ⟨_, g1, List.mem_cons_of_mem _ (List.mem_filter.mpr ⟨hw, h1⟩)⟩))
    · exact List.mem_append_right _ h1
  · exact tq_inE (List.mem_flatMap.mpr ⟨_, g1, List.mem_cons_self⟩)
  · exact Nat.le_of_ble_eq_true g7
  · exact Nat.le_of_ble_eq_true g8
theorem tq_mok {mi : Nat} (hm : tq_dm mi = true) (L : Nat) (xs : Nat → Int32) (z : Nat) (so : UInt32 → Nat) (hdec : ∀ pc i n, tq_cod mi pc = some (i, n) → decode (tq_mm mi).2 pc = .ok (i, n)) : pm_mok (tq_P L xs) tq_mm tq_rf tq_dm tq_cl tq_Ts tq_Tx tq_Nw (tq_n 5) tq_SL tq_CL z so mi := by
  have hle := tq_dm_le hm
  have h0 := tq_ckM_ok hm
  unfold tq_ckM at h0
  simp only [Bool.and_eq_true] at h0
  obtain ⟨⟨⟨⟨⟨gp, g1⟩, g2⟩, g3⟩, g4⟩, g5⟩ := h0
  have hk : tq_k mi < 15 := Nat.le_of_ble_eq_true g1
  have hck := tq_ckK_at hk
  unfold tq_ckK at hck
  simp only [Bool.and_eq_true, Bool.not_eq_true', decide_eq_false_iff_not] at hck
  refine ⟨⟨by omega, tq_cw hm, tq_ini hk, gp, ⟨hck.1.1.1.1.1, hck.1.1.1.1.2⟩, hdec⟩, ?_, ?_, ?_, ?_, ?_, ?_, ?_, ?_, ?_, ?_⟩
  · intro ix v hv
    have hv : tq_look (tq_CO (tq_k mi)) ix = some v := hv
    have hmem := tq_look_mem hv
    have key : ∀ w, tq_wk1 (tq_k mi) (ix, v) = some w → w ∈ tq_Ts := fun w hw => tq_inK (List.mem_flatMap.mpr ⟨tq_k mi, List.mem_range.mpr hk, List.mem_filterMap.mpr ⟨_, hmem, hw⟩⟩)
    cases v with
    | int v => exact key _ rfl
    | long v => exact key _ rfl
    | _ => trivial
  · intro ix kd c f ty h
    have h : tq_fld mi ix = some (kd, c, f, ty) := h
    unfold tq_fld at h
    cases hq : tq_look (tq_FL (tq_k mi)) ix with
    | none => rw [hq] at h; cases h
    | some q =>
      rw [hq] at h
      obtain ⟨kd0, c0, f0, t0⟩ := q
      simp only [Option.some.injEq, Prod.mk.injEq] at h
      obtain ⟨h1, rfl, rfl, rfl⟩ := h
      exact tq_fok hk (tq_look_mem hq) h1.symm
  · intro ix c fs h
    have h : tq_mak mi ix = some (c, fs) := h
    unfold tq_mak at h
    cases hq : tq_look (tq_MK (tq_k mi)) ix with
    | none => rw [hq] at h; cases h
    | some c0 =>
      rw [hq] at h
      cases h
      exact tq_nok hk z so (tq_look_mem hq)
  · intro ix c h
    have h : tq_arr mi ix = some c := h
    unfold tq_arr at h
    have e0 : Nat.beq mi 0 = false := by
      cases hb : Nat.beq mi 0 with
      | true => have := Nat.eq_of_beq_eq_true hb; omega
      | false => rfl
    rw [e0] at h
    cases hb : (Nat.beq (tq_k mi) 1 && Nat.beq ix 16) with
    | false =>
      simp [hb] at h
    | true =>
      obtain ⟨h1, h2⟩ := Bool.and_eq_true_iff.mp hb
      have e1 : tq_k mi = 1 := Nat.eq_of_beq_eq_true h1
      have e2 : ix = 16 := Nat.eq_of_beq_eq_true h2
      have e3 : (tq_mm mi).1.cls = tq_n 1 := by show tq_n (tq_k mi) = tq_n 1; rw [e1]
      rw [e3, e2]
      exact tq_O 6 rfl
  · intro ix q h
    obtain ⟨c, y, n⟩ := q
    exact (tq_call hm (show tq_look (tq_CM mi) ix = some (6, c, y, n) from h)).1 rfl
  · intro ix q h
    obtain ⟨c, y, n⟩ := q
    exact (tq_call hm (show tq_look (tq_CM mi) ix = some (7, c, y, n) from h)).2.1 rfl
  · intro ix k c y n h h6
    exact (tq_call hm (show tq_look (tq_CM mi) ix = some (k, c, y, n) from h)).2.2 h6
  · intro pc c h
    exact tq_exc h
  · intro ix i h
    have h : tq_look (tq_SA (tq_k mi)) ix = some i := h
    have h2 := List.all_eq_true.mp hck.1.2 _ (tq_look_mem h)
    simp only [Bool.and_eq_true, Bool.or_eq_true, decide_eq_true_eq] at h2
    obtain ⟨e1, h2⟩ := h2
    have e1 : tq_k mi = 11 := Nat.eq_of_beq_eq_true e1
    have e3 : (tq_mm mi).1.cls = tq_n 11 := by show tq_n (tq_k mi) = tq_n 11; rw [e1]
    rcases h2 with ⟨h2, rfl⟩ | ⟨h2, rfl⟩
    · have e2 : ix = 48 := Nat.eq_of_beq_eq_true h2
      refine ⟨"OutlineDesk$Days", "DAYS_BEFORE", "[I", by unfold tq_SL; exact List.mem_cons_of_mem _ List.mem_cons_self, Or.inl ?_⟩
      rw [e3, e2]
      exact tq_O 7 rfl
    · have e2 : ix = 52 := Nat.eq_of_beq_eq_true h2
      refine ⟨"OutlineDesk$Days", "LENGTHS", "[I", List.mem_cons_self, Or.inl ?_⟩
      rw [e3, e2]
      exact tq_O 8 rfl
  · intro h hh
    have h2 := List.all_eq_true.mp g5 h hh
    simp only [Bool.and_eq_true, Bool.not_eq_true'] at h2
    obtain ⟨⟨e1, e2⟩, h3⟩ := h2
    have e1 : tq_k mi = 12 := Nat.eq_of_beq_eq_true e1
    have e3 : (tq_mm mi).1.cls = tq_n 12 := by show tq_n (tq_k mi) = tq_n 12; rw [e1]
    obtain ⟨q, hq, hqe⟩ := List.any_eq_true.mp h3
    have hqe : q.1 = h.2.2.2 := Nat.eq_of_beq_eq_true hqe
    have hne : h.2.2.2 ≠ 0 := by
      intro e
      rw [e] at e2
      cases e2
    refine ⟨hne, tq_n q.2, ?_, ?_⟩
    · rw [e3, ← hqe]
      exact tq_inO (List.mem_append_right _ (List.mem_map.mpr ⟨q, hq, rfl⟩))
    · intro c hc
      have hc : (Nat.ble 7 c && Nat.ble c 10) = true := hc
      obtain ⟨h5, h6⟩ := Bool.and_eq_true_iff.mp hc
      have h5 := Nat.le_of_ble_eq_true h5
      have h6 := Nat.le_of_ble_eq_true h6
      refine List.mem_flatMap.mpr ⟨c - 7, List.mem_range.mpr (by omega), List.mem_map.mpr ⟨q, hq, ?_⟩⟩
      rw [show 7 + (c - 7) = c by omega, hqe]
