/-! every method of the program is fit for the pure machine -/
theorem tq_ckK_at {k : Nat} (h : k < 15) : tq_ckK k = true := List.all_eq_true.mp tq_ckK_ok k (List.mem_range.mpr h)
theorem tq_ckT_at {c : Nat} (h : c < 7) : tq_ckT c = true := List.all_eq_true.mp tq_ckT_ok c (List.mem_range.mpr h)
theorem tq_ty_ok {c : Nat} (h : c < 7) {j : Nat} (hj : j < (tq_f c).length) : parseFieldDescriptor (tq_t c j).2.2.1 = some (tq_y c j) ∧ tq_okt (tq_y c j) = true := by
  have h1 := List.all_eq_true.mp (tq_ckT_at h) j (List.mem_range.mpr hj)
  simp only [Bool.and_eq_true, decide_eq_true_eq] at h1
  exact ⟨h1.1.1, h1.1.2⟩
theorem tq_nm_ok {c : Nat} (h : c < 7) : ∀ a, a < (tq_f c).length → ∀ b, b < (tq_f c).length → a ≠ b → (tq_t c a).2.1 ≠ (tq_t c b).2.1 := by
  intro a ha b hb hab
  have h1 := List.all_eq_true.mp (tq_ckT_at h) b (List.mem_range.mpr hb)
  simp only [Bool.and_eq_true, decide_eq_true_eq] at h1
  have h2 := List.all_eq_true.mp h1.2 a (List.mem_range.mpr ha)
  simp only [Bool.or_eq_true, Bool.not_eq_true', decide_eq_false_iff_not] at h2
  rcases h2 with h2 | h2
  · exact absurd (Nat.eq_of_beq_eq_true h2) hab
  · exact h2
theorem tq_uws {c : Nat} (h : c < 7) : ∀ w ∈ u_ws (tq_n c) (tq_t c) (tq_f c).length, w ∈ tq_Ts := fun w hw => tq_inU (List.mem_flatMap.mpr ⟨c, List.mem_range.mpr h, List.mem_append_left _ hw⟩)
theorem tq_inst {c : Nat} (h : c < 7) : Cond.instantiable (tq_n c) (tq_f c).length ∈ tq_Ts := tq_inU (List.mem_flatMap.mpr ⟨c, List.mem_range.mpr h, List.mem_append_right _ List.mem_cons_self⟩)
theorem tq_ini {k : Nat} (h : k < 15) : Cond.initialized (tq_n k) ∈ tq_Ts := tq_inI (List.mem_append_left _ (List.mem_map.mpr ⟨k, List.mem_range.mpr h, rfl⟩))
theorem tq_fl_in {k : Nat} (h : k < 15) {q : Nat × Nat × Nat × Nat × FieldType} (hq : q ∈ tq_FL k) : Cond.fieldLink (tq_n k) q.1 (tq_t q.2.2.1 q.2.2.2.1).1 (tq_t q.2.2.1 q.2.2.2.1).2.1 (tq_t q.2.2.1 q.2.2.2.1).2.2.1 ∈ tq_Ts :=
  tq_inF (List.mem_flatMap.mpr ⟨k, List.mem_range.mpr h, List.mem_map.mpr ⟨q, hq, rfl⟩⟩)
theorem tq_fok {k : Nat} (hk : k < 15) {ini : Bool} {ix kd c f : Nat} {ty : FieldType} (hq : (ix, kd, c, f, ty) ∈ tq_FL k) {kd' : Nat} (hkd : kd' = (bif Nat.beq kd 2 && !ini then 0 else kd)) : pm_fok tq_cl tq_Ts tq_Nw (tq_n k) ini ix kd' c f ty := by
  have h1 := tq_ckK_at hk
  unfold tq_ckK at h1
  simp only [Bool.and_eq_true] at h1
  have h2 := List.all_eq_true.mp h1.1.1.1.2 _ hq
  simp only [Bool.and_eq_true, Bool.or_eq_true, Bool.not_eq_true', decide_eq_true_eq] at h2
  obtain ⟨⟨⟨⟨⟨g1, g2⟩, g3⟩, g4⟩, g5⟩, g6⟩ := h2
  have c7 : c < 7 := Nat.le_of_ble_eq_true g1
  have f7 : f < (tq_f c).length := Nat.le_of_ble_eq_true g2
  have k2 : kd ≤ 2 := Nat.le_of_ble_eq_true g6
  have lk := tq_fl_in hk hq
  refine ⟨tq_n c, tq_t c, (tq_f c).length, tq_y c, tq_cl_at (by omega), f7, tq_uws c7, fun j hj => (tq_ty_ok c7 hj).1, tq_nm_ok c7, g3, Or.inl lk, ?_, ?_⟩
  · intro e
    rcases g4 with g4 | g4
    · exfalso
      have : kd ≠ 1 := fun q => by rw [q] at g4; cases g4
      rw [hkd] at e
      cases hb : (Nat.beq kd 2 && !ini) with
      | true => rw [hb] at e; cases e
      | false => rw [hb] at e; exact this e
    · exact g4
  · intro e0 e1
    have hkd2 : kd' = kd ∧ kd = 2 ∧ ini = true := by
      cases hb : (Nat.beq kd 2 && !ini) with
      | true => rw [hb] at hkd; exact absurd hkd e0
      | false =>
        rw [hb] at hkd
        have hkk : kd' = kd := hkd
        have h2 : kd = 2 := by omega
        subst h2
        refine ⟨hkk, rfl, ?_⟩
        cases ini
        · cases hb
        · rfl
    obtain ⟨-, rfl, hini⟩ := hkd2
    rcases g5 with g5 | ⟨g5, g7⟩
    · cases g5
    · have e2 : c = k := Nat.eq_of_beq_eq_true g7
      have hf : (tq_t c f).1 = tq_n c := by
        unfold tq_t
        rw [List.getElem?_eq_getElem f7]
      exact ⟨hini, g5, by rw [hf, e2], lk⟩
theorem tq_dv_ok {z : Nat} {so : UInt32 → Nat} {t : FieldType} (h : tq_okt t = true) : defaultValue t = pm_rv z so (tq_dv t) := by
  cases t <;> first | rfl | (exact Bool.noConfusion (show false = true from h))
theorem tq_nok {k : Nat} (hk : k < 15) (z : Nat) (so : UInt32 → Nat) {ix c : Nat} (hq : (ix, c) ∈ tq_MK k) : pm_nok z so tq_cl tq_Ts (tq_n k) ix c (tq_df c) := by
  have h1 := tq_ckK_at hk
  unfold tq_ckK at h1
  simp only [Bool.and_eq_true] at h1
  have c7 : c < 7 := Nat.le_of_ble_eq_true (List.all_eq_true.mp h1.1.1.2 _ hq)
  refine ⟨tq_n c, tq_t c, (tq_f c).length, tq_y c, tq_cl_at (by omega), tq_uws c7, fun j hj => (tq_ty_ok c7 hj).1, tq_inM (List.mem_flatMap.mpr ⟨k, List.mem_range.mpr hk, List.mem_map.mpr ⟨_, hq, rfl⟩⟩), tq_inst c7, tq_ini (by omega), by simp [tq_df], fun j hj => ?_⟩
  have e : vp_V ((tq_df c).map (pm_rv z so)) j = pm_rv z so (tq_dv (tq_y c j)) := by
    unfold vp_V tq_df tq_y
    rw [List.getD_eq_getElem?_getD, List.getElem?_map, List.getElem?_map, List.getElem?_eq_getElem hj]
    rfl
  rw [e]
  exact tq_dv_ok (tq_ty_ok c7 hj).2
theorem tq_cw {mi : Nat} (h : tq_dm mi = true) : pm_cw tq_Ts (tq_mm mi).1 (tq_mm mi).2 (tq_me mi).2.2.2.2.2.1 (tq_me mi).2.2.2.2.2.2.1 (tq_me mi).2.2.2.2.2.2.2.1 := by
  have h1 := tq_inh h rfl
  unfold tq_wh at h1
  cases hh : (tq_me mi).2.2.2.2.2.2.2.1 with
  | nil => rw [hh] at h1; exact Or.inl ⟨h1, rfl⟩
  | cons a t => rw [hh] at h1; exact Or.inr h1
