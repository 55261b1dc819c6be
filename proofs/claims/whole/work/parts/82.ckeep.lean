/-! the desk: the room, and what a step keeps -/
def hq_pt (ar : Nat → Nat × (Nat → Int32)) : Nat → Nat
  | 0 => 0
  | k + 1 => hq_pt ar k + (ar k).1
def hq_po (ar : Nat → Nat × (Nat → Int32)) (lr : Nat → Nat × (Nat → Int64)) : Nat := hq_pt ar 209 + (lr 0).1
def hq_rm (σ : pm_S) (ar : Nat → Nat × (Nat → Int32)) (lr : Nat → Nat × (Nat → Int64)) (s : pm_S) (ar' : Nat → Nat × (Nat → Int32)) (lr' : Nat → Nat × (Nat → Int64)) : Prop := s.2.2 + 2 * hq_po ar lr ≤ σ.2.2 + 2 * hq_po ar' lr' ∧ 4 * s.2.1 + hq_po ar lr ≤ 4 * σ.2.1 + hq_po ar' lr'
theorem hq_pt_cg {ar ar' : Nat → Nat × (Nat → Int32)} (h : ∀ r, (ar' r).1 = (ar r).1) : ∀ k, hq_pt ar' k = hq_pt ar k
  | 0 => rfl
  | k + 1 => by rw [hq_pt, hq_pt, hq_pt_cg h k, h k]
theorem hq_pt_u (ar : Nat → Nat × (Nat → Int32)) (r : Nat) (A : Nat × (Nat → Int32)) : ∀ k, hq_pt (hq_u ar r A) k + (if r < k then (ar r).1 else 0) = hq_pt ar k + (if r < k then A.1 else 0)
  | 0 => rfl
  | k + 1 => by
    have ih := hq_pt_u ar r A k
    rw [hq_pt, hq_pt]
    by_cases c : k = r
    · rw [c, if_neg (by omega), if_neg (by omega)] at ih
      rw [c, hq_u_at, if_pos (by omega), if_pos (by omega)]
      omega
    · rw [hq_u_ne c]
      by_cases d : r < k
      · rw [if_pos d, if_pos d] at ih
        rw [if_pos (by omega), if_pos (by omega)]
        omega
      · rw [if_neg d, if_neg d] at ih
        rw [if_neg (by omega), if_neg (by omega)]
        omega
theorem hq_po_u {ar : Nat → Nat × (Nat → Int32)} {lr : Nat → Nat × (Nat → Int64)} {r : Nat} {A : Nat × (Nat → Int32)} (h : r < 209) : hq_po (hq_u ar r A) lr + (ar r).1 = hq_po ar lr + A.1 := by
  have := hq_pt_u ar r A 209
  rw [if_pos h, if_pos h] at this
  unfold hq_po
  omega
theorem hq_rm_len {σ s : pm_S} {ar ar' : Nat → Nat × (Nat → Int32)} {lr lr' : Nat → Nat × (Nat → Int64)} (h : s.2 = σ.2) (e : ∀ r, (ar' r).1 = (ar r).1) (f : (lr' 0).1 = (lr 0).1) : hq_rm σ ar lr s ar' lr' := by
  unfold hq_rm hq_po
  rw [h, hq_pt_cg e, f]
  omega
theorem hq_rm_refl {σ s : pm_S} {ar : Nat → Nat × (Nat → Int32)} {lr : Nat → Nat × (Nat → Int64)} (h : s.2 = σ.2) : hq_rm σ ar lr s ar lr := hq_rm_len h (fun _ => rfl) rfl
theorem hq_rm_tr {σ s t : pm_S} {a b c : Nat → Nat × (Nat → Int32)} {x y z : Nat → Nat × (Nat → Int64)} (h : hq_rm σ a x s b y) (k : hq_rm s b y t c z) : hq_rm σ a x t c z := by
  unfold hq_rm at *
  omega
theorem hq_w_len (ar : Nat → Nat × (Nat → Int32)) (r : Nat) (j v : Int) (s : Nat) : (hq_w ar r j v s).1 = (ar s).1 := by
  unfold hq_w hq_u
  split
  · next h => rw [h]
  · rfl
theorem hq_w_g {ar : Nat → Nat × (Nat → Int32)} {r : Nat} {j v i : Int} (j0 : 0 ≤ j) (i0 : 0 ≤ i) (hv : -2147483648 ≤ v ∧ v ≤ 2147483647) : hq_g (hq_w ar r j v) r i = if i = j then v else hq_g ar r i := by
  unfold hq_g hq_w
  rw [hq_u_at]
  show (if i.toNat = j.toNat then zI v else (ar r).2 i.toNat).toInt = _
  by_cases c : i = j
  · rw [if_pos c, if_pos (by omega)]
    exact zI_ti hv.1 hv.2
  · rw [if_neg c, if_neg (by omega)]
theorem hq_w_ne {ar : Nat → Nat × (Nat → Int32)} {r s : Nat} {j v : Int} (h : s ≠ r) : hq_w ar r j v s = ar s := hq_u_ne h
theorem hq_g_ne {ar ar' : Nat → Nat × (Nat → Int32)} {s : Nat} (h : ar' s = ar s) (i : Int) : hq_g ar' s i = hq_g ar s i := by
  unfold hq_g
  rw [h]
section HS
variable {P : pm_P} {mi pc : Nat} {lv : pm_L} {st : List Value} {σ : pm_S} {Q : pm_O → pm_S → Prop}
variable {ad : Nat → Nat} {z : Nat → Int} {ar : Nat → Nat × (Nat → Int32)} {lr : Nat → Nat × (Nat → Int64)}
theorem hq_ow_1 {j : Nat} (hj : j < 61) : hq_ow (5 + 3 * j + 1) = 5 + 3 * j := by
  unfold hq_ow
  rw [if_neg (by omega), if_neg (by omega), if_neg (by omega), if_pos (by omega)]
  omega
theorem hq_ow_2 {j : Nat} (hj : j < 61) : hq_ow (5 + 3 * j + 2) = 5 + 3 * j := by
  unfold hq_ow
  rw [if_neg (by omega), if_neg (by omega), if_neg (by omega), if_neg (by omega)]
  omega
theorem pm_Fv.ps1 (H : Hp σ ad z ar lr) {j a ix kd k : Nat} {ty : FieldType} {A : Nat × (Nat → Int32)} (hj : j < 61) (hc : pm_cod P mi pc = some (.putfield ix, 3)) (hf : pm_fld P mi ix = some (kd, 5, k, ty)) (hk : k = 0) (hok : pm_ok ty (.ref a) = true) (hkd : kd ≠ 0) (ha : ∀ s, s < 209 → ad s ≠ a) (hl : a < σ.2.1) (hv : σ.1 a = hq_arr A) (kk : ∀ s, Hp s (hq_u ad (5 + 3 * j + 1) a) z (hq_u ar (5 + 3 * j + 1) A) lr → s.2 = σ.2 → pm_Fv P (mi, pc + 3, lv, st) s Q) : pm_Fv P (mi, pc, lv, .ref a :: .ref (5 + 3 * j) :: st) σ Q := by
  subst hk
  refine pm_Fv.pmv H (5 + 3 * j + 1) hc hf (hq_ow_1 hj) (by omega) (hq_dyn_t (by omega)) (hq_isA_t (by omega)) (hq_lay_st hj) (Nat.le_of_ble_eq_true rfl) hok hkd ?_ ha hl hv kk
  rw [hq_lay_st hj, hq_u_at, hq_u_ne (by omega)]
  rfl
theorem pm_Fv.ps2 (H : Hp σ ad z ar lr) {j a ix kd k : Nat} {ty : FieldType} {A : Nat × (Nat → Int32)} (hj : j < 61) (hc : pm_cod P mi pc = some (.putfield ix, 3)) (hf : pm_fld P mi ix = some (kd, 5, k, ty)) (hk : k = 1) (hok : pm_ok ty (.ref a) = true) (hkd : kd ≠ 0) (ha : ∀ s, s < 209 → ad s ≠ a) (hl : a < σ.2.1) (hv : σ.1 a = hq_arr A) (kk : ∀ s, Hp s (hq_u ad (5 + 3 * j + 2) a) z (hq_u ar (5 + 3 * j + 2) A) lr → s.2 = σ.2 → pm_Fv P (mi, pc + 3, lv, st) s Q) : pm_Fv P (mi, pc, lv, .ref a :: .ref (5 + 3 * j) :: st) σ Q := by
  subst hk
  refine pm_Fv.pmv H (5 + 3 * j + 2) hc hf (hq_ow_2 hj) (by omega) (hq_dyn_t (by omega)) (hq_isA_t (by omega)) (hq_lay_st hj) (Nat.le_of_ble_eq_true rfl) hok hkd ?_ ha hl hv kk
  rw [hq_lay_st hj, hq_u_at, hq_u_ne (by omega)]
  rfl
end HS
/-- what keep leaves -/
def st_k (j : Nat) (c v : Int) (z : Nat → Int) (ar : Nat → Nat × (Nat → Int32)) (ar' : Nat → Nat × (Nat → Int32)) : Prop := (∀ r, r ≠ (5 + 3 * j + 1) → r ≠ (5 + 3 * j + 2) → ar' r = ar r) ∧ (∀ i, 0 ≤ i → i ≤ z (105 + 3 * j) → hq_g ar' (5 + 3 * j + 1) i = (if i = z (105 + 3 * j) then c else hq_g ar (5 + 3 * j + 1) i) ∧ hq_g ar' (5 + 3 * j + 2) i = (if i = z (105 + 3 * j) then v else hq_g ar (5 + 3 * j + 2) i)) ∧ (ar' (5 + 3 * j + 1)).1 = (ar' (5 + 3 * j + 2)).1 ∧ 4 ≤ (ar' (5 + 3 * j + 1)).1 ∧ (ar' (5 + 3 * j + 1)).1 ≤ 13602 ∧ z (105 + 3 * j) + 1 ≤ ((ar' (5 + 3 * j + 1)).1 : Int)
section MS
variable (L : Nat) (xs : Nat → Int32)
variable {σ : pm_S} {ad : Nat → Nat} {z : Nat → Int} {ar : Nat → Nat × (Nat → Int32)} {lr : Nat → Nat × (Nat → Int64)}
theorem ev_keepT {j : Nat} (hj : j < 61) (H : Hp σ ad z ar lr) {c v : Int} (hc : -2147483648 ≤ c ∧ c ≤ 2147483647) (hv : -2147483648 ≤ v ∧ v ≤ 2147483647) (s0 : 0 ≤ z (105 + 3 * j)) (s1 : z (105 + 3 * j) < ((ar (5 + 3 * j + 1)).1 : Int)) (hl : (ar (5 + 3 * j + 1)).1 = (ar (5 + 3 * j + 2)).1) (h4 : 4 ≤ (ar (5 + 3 * j + 1)).1) (hb : (ar (5 + 3 * j + 1)).1 ≤ 13602) : pm_Fv (tq_P L xs) (93, 46, [(0, .ref (5 + 3 * j)), (1, .int (zI c)), (2, .int (zI v))], []) σ (fun o s => o = .inl none ∧ (∃ ad' ar', Hp s ad' (hq_u z (105 + 3 * j) (z (105 + 3 * j) + 1)) ar' lr ∧ st_k j c v z ar ar' ∧ (∀ r, (ar' r).1 = (ar r).1)) ∧ s.2 = σ.2) := by
  have zz : 100 + (5 + 3 * j) = 105 + 3 * j := by omega
  refine pm_Fv.go 1 (f' := (93, 47, [(0, _), (1, _), (2, _)], [_])) rfl ?_
  refine pm_Fv.gf rfl rfl (H.ms hj) (H.os hj) rfl ?_
  refine pm_Fv.go 1 (f' := (93, 51, [(0, _), (1, _), (2, _)], [_, _])) rfl ?_
  refine pm_Fv.gf rfl rfl (H.ms hj) (H.os hj) rfl ?_
  rw [zz]
  refine pm_Fv.go 1 (f' := (93, 55, [(0, _), (1, _), (2, _)], [_, _, _])) rfl ?_
  refine pm_Fv.dis H (r := (5 + 3 * j + 1)) rfl (by omega) (hq_isA_t (by omega)) (by omega) (fun s1 H1 r1 => ?_)
  refine pm_Fv.go 1 (f' := (93, 57, [(0, _), (1, _), (2, _)], [_])) rfl ?_
  refine pm_Fv.gf rfl rfl (H1.ms hj) (H1.os hj) rfl ?_
  refine pm_Fv.go 1 (f' := (93, 61, [(0, _), (1, _), (2, _)], [_, _])) rfl ?_
  refine pm_Fv.gf rfl rfl (H1.ms hj) (H1.os hj) rfl ?_
  rw [zz]
  refine pm_Fv.go 1 (f' := (93, 65, [(0, _), (1, _), (2, _)], [_, _, _])) rfl ?_
  refine pm_Fv.dis H1 (r := (5 + 3 * j + 2)) rfl (by omega) (hq_isA_t (by omega)) (by rw [hq_w_len, ← hl]; omega) (fun s2 H2 r2 => ?_)
  refine pm_Fv.go 2 (f' := (93, 68, [(0, _), (1, _), (2, _)], [_, _])) rfl ?_
  refine pm_Fv.gf rfl rfl (H2.ms hj) (H2.os hj) rfl ?_
  rw [zz]
  refine pm_Fv.go 1 (f' := (93, 72, [(0, _), (1, _), (2, _)], [_, _, _])) rfl ?_
  refine pm_Fv.iadd rfl ?_
  refine pm_Fv.psz H2 hj rfl rfl rfl rfl (by decide) (fun s3 H3 r3 => ?_)
  refine pm_Fv.ret rfl rfl rfl rfl ?_
  refine ⟨rfl, ⟨_, _, H3, ⟨fun r h1 h2 => ?_, fun i i0 i1 => ⟨?_, ?_⟩, ?_, ?_, ?_, ?_⟩, fun r => ?_⟩, (r3.trans (r2.trans r1))⟩
  · rw [hq_w_ne h2, hq_w_ne h1]
  · rw [hq_g_ne (hq_w_ne (by omega)), hq_w_g s0 i0 hc]
  · rw [hq_w_g s0 i0 hv, hq_g_ne (hq_w_ne (by omega))]
  · rw [hq_w_len, hq_w_len, hq_w_len, hq_w_len, hl]
  · rw [hq_w_len, hq_w_len]
    exact h4
  · rw [hq_w_len, hq_w_len]
    exact hb
  · rw [hq_w_len, hq_w_len]
    omega
  · rw [hq_w_len, hq_w_len]
theorem ev_keepS {j : Nat} (hj : j < 61) (H : Hp σ ad z ar lr) {c v : Int} (hc : -2147483648 ≤ c ∧ c ≤ 2147483647) (hv : -2147483648 ≤ v ∧ v ≤ 2147483647) (s0 : 0 ≤ z (105 + 3 * j)) (s1 : z (105 + 3 * j) ≤ ((ar (5 + 3 * j + 1)).1 : Int)) (s2 : z (105 + 3 * j) ≤ 6801) (hl : (ar (5 + 3 * j + 1)).1 = (ar (5 + 3 * j + 2)).1) (h4 : 4 ≤ (ar (5 + 3 * j + 1)).1) (hb : (ar (5 + 3 * j + 1)).1 ≤ 13602) : pm_Fv (tq_P L xs) (pm_enter 93 [.ref (5 + 3 * j), .int (zI c), .int (zI v)]) σ (fun o s => o = .inl none ∧ ∃ ad' ar', Hp s ad' (hq_u z (105 + 3 * j) (z (105 + 3 * j) + 1)) ar' lr ∧ st_k j c v z ar ar' ∧ hq_rm σ ar lr s ar' lr) := by
  show pm_Fv (tq_P L xs) (93, 0, [(0, .ref (5 + 3 * j)), (1, .int (zI c)), (2, .int (zI v))], []) σ _
  have zz : 100 + (5 + 3 * j) = 105 + 3 * j := by omega
  by_cases q : z (105 + 3 * j) = ((ar (5 + 3 * j + 1)).1 : Int)
  · have ek : z (105 + 3 * j) * 2 = ((2 * (ar (5 + 3 * j + 1)).1 : Nat) : Int) := by omega
    have f0 : ∀ s, s < 209 → ad s ≠ σ.2.1 := fun s hs => Nat.ne_of_lt (H.lt hs)
    refine pm_Fv.go 1 (f' := (93, 1, [(0, _), (1, _), (2, _)], [_])) rfl ?_
    refine pm_Fv.gf rfl rfl (H.ms hj) (H.os hj) rfl ?_
    rw [zz]
    refine pm_Fv.go 1 (f' := (93, 5, [(0, _), (1, _), (2, _)], [_, _])) rfl ?_
    refine pm_Fv.gf rfl rfl (H.ms hj) (H.os hj) rfl ?_
    refine pm_Fv.dal H (r := (5 + 3 * j + 1)) rfl (by omega) (hq_isA_t (by omega)) ?_
    refine pm_Fv.jne rfl (by omega) rfl (fun h1 => ?_) (fun h1 => ?_)
    · exact absurd h1 (by omega)
    · refine pm_Fv.go 2 (f' := (93, 14, [(0, _), (1, _), (2, _)], [_, _])) rfl ?_
      refine pm_Fv.gf rfl rfl (H.ms hj) (H.os hj) rfl ?_
      refine pm_Fv.go 1 (f' := (93, 18, [(0, _), (1, _), (2, _)], [_, _, _])) rfl ?_
      refine pm_Fv.gf rfl rfl (H.ms hj) (H.os hj) rfl ?_
      rw [zz]
      refine pm_Fv.go 1 (f' := (93, 22, [(0, _), (1, _), (2, _)], [_, _, _, _])) rfl ?_
      refine pm_Fv.imul rfl ?_
      rw [ek]
      refine pm_Fv.callF rfl rfl rfl rfl rfl (ev_copyOf L xs H (r := (5 + 3 * j + 1)) (k := 2 * (ar (5 + 3 * j + 1)).1) (by omega) (hq_isA_t (by omega)) (by omega) (by omega)) (fun s1 q1 => ?_)
      obtain ⟨H1, r1, e1⟩ := q1
      refine pm_Fv.ps1 H1 hj rfl rfl rfl rfl (by decide) (f0) (by rw [r1]; exact Nat.lt_succ_self _) e1 (fun s2 H2 r2 => ?_)
      refine pm_Fv.go 2 (f' := (93, 31, [(0, _), (1, _), (2, _)], [_, _])) rfl ?_
      refine pm_Fv.gf rfl rfl (H2.ms hj) (H2.os hj) rfl ?_
      refine pm_Fv.go 1 (f' := (93, 35, [(0, _), (1, _), (2, _)], [_, _, _])) rfl ?_
      refine pm_Fv.gf rfl rfl (H2.ms hj) (H2.os hj) rfl ?_
      rw [zz]
      refine pm_Fv.go 1 (f' := (93, 39, [(0, _), (1, _), (2, _)], [_, _, _, _])) rfl ?_
      refine pm_Fv.imul rfl ?_
      rw [ek]
      refine pm_Fv.callF rfl rfl rfl rfl rfl (ev_copyOf L xs H2 (r := (5 + 3 * j + 2)) (k := 2 * (ar (5 + 3 * j + 1)).1) (by omega) (hq_isA_t (by omega)) (by rw [hq_u_ne (show (5 + 3 * j + 2) ≠ (5 + 3 * j + 1) by omega), ← hl]; omega) (by omega)) (fun s3 q3 => ?_)
      obtain ⟨H3, r3, e3⟩ := q3
      refine pm_Fv.ps2 H3 hj rfl rfl rfl rfl (by decide) (fun s hs => Nat.ne_of_lt (H2.lt hs)) (by rw [r3]; exact Nat.lt_succ_self _) e3 (fun s4 H4 r4 => ?_)
      have g1 : ∀ i, 0 ≤ i → i < z (105 + 3 * j) → hq_g (hq_u (hq_u ar (5 + 3 * j + 1) (2 * (ar (5 + 3 * j + 1)).1, hq_cpf (ar (5 + 3 * j + 1)).1 (ar (5 + 3 * j + 1)).2 0)) (5 + 3 * j + 2) (2 * (ar (5 + 3 * j + 1)).1, hq_cpf ((hq_u ar (5 + 3 * j + 1) (2 * (ar (5 + 3 * j + 1)).1, hq_cpf (ar (5 + 3 * j + 1)).1 (ar (5 + 3 * j + 1)).2 0)) (5 + 3 * j + 2)).1 ((hq_u ar (5 + 3 * j + 1) (2 * (ar (5 + 3 * j + 1)).1, hq_cpf (ar (5 + 3 * j + 1)).1 (ar (5 + 3 * j + 1)).2 0)) (5 + 3 * j + 2)).2 0)) (5 + 3 * j + 1) i = hq_g ar (5 + 3 * j + 1) i := by
        intro i i0 i1
        unfold hq_g
        rw [hq_u_ne (by omega), hq_u_at]
        show (if i.toNat < (ar (5 + 3 * j + 1)).1 then (ar (5 + 3 * j + 1)).2 i.toNat else 0).toInt = _
        rw [if_pos (by omega)]
      have g2 : ∀ i, 0 ≤ i → i < z (105 + 3 * j) → hq_g (hq_u (hq_u ar (5 + 3 * j + 1) (2 * (ar (5 + 3 * j + 1)).1, hq_cpf (ar (5 + 3 * j + 1)).1 (ar (5 + 3 * j + 1)).2 0)) (5 + 3 * j + 2) (2 * (ar (5 + 3 * j + 1)).1, hq_cpf ((hq_u ar (5 + 3 * j + 1) (2 * (ar (5 + 3 * j + 1)).1, hq_cpf (ar (5 + 3 * j + 1)).1 (ar (5 + 3 * j + 1)).2 0)) (5 + 3 * j + 2)).1 ((hq_u ar (5 + 3 * j + 1) (2 * (ar (5 + 3 * j + 1)).1, hq_cpf (ar (5 + 3 * j + 1)).1 (ar (5 + 3 * j + 1)).2 0)) (5 + 3 * j + 2)).2 0)) (5 + 3 * j + 2) i = hq_g ar (5 + 3 * j + 2) i := by
        intro i i0 i1
        unfold hq_g
        rw [hq_u_at, hq_u_ne (show (5 + 3 * j + 2) ≠ (5 + 3 * j + 1) by omega)]
        show (if i.toNat < (ar (5 + 3 * j + 2)).1 then (ar (5 + 3 * j + 2)).2 i.toNat else 0).toInt = _
        rw [if_pos (by omega)]
      have l1 : (hq_u (hq_u ar (5 + 3 * j + 1) (2 * (ar (5 + 3 * j + 1)).1, hq_cpf (ar (5 + 3 * j + 1)).1 (ar (5 + 3 * j + 1)).2 0)) (5 + 3 * j + 2) (2 * (ar (5 + 3 * j + 1)).1, hq_cpf ((hq_u ar (5 + 3 * j + 1) (2 * (ar (5 + 3 * j + 1)).1, hq_cpf (ar (5 + 3 * j + 1)).1 (ar (5 + 3 * j + 1)).2 0)) (5 + 3 * j + 2)).1 ((hq_u ar (5 + 3 * j + 1) (2 * (ar (5 + 3 * j + 1)).1, hq_cpf (ar (5 + 3 * j + 1)).1 (ar (5 + 3 * j + 1)).2 0)) (5 + 3 * j + 2)).2 0) (5 + 3 * j + 1)).1 = 2 * (ar (5 + 3 * j + 1)).1 := by rw [hq_u_ne (by omega), hq_u_at]
      have l2 : (hq_u (hq_u ar (5 + 3 * j + 1) (2 * (ar (5 + 3 * j + 1)).1, hq_cpf (ar (5 + 3 * j + 1)).1 (ar (5 + 3 * j + 1)).2 0)) (5 + 3 * j + 2) (2 * (ar (5 + 3 * j + 1)).1, hq_cpf ((hq_u ar (5 + 3 * j + 1) (2 * (ar (5 + 3 * j + 1)).1, hq_cpf (ar (5 + 3 * j + 1)).1 (ar (5 + 3 * j + 1)).2 0)) (5 + 3 * j + 2)).1 ((hq_u ar (5 + 3 * j + 1) (2 * (ar (5 + 3 * j + 1)).1, hq_cpf (ar (5 + 3 * j + 1)).1 (ar (5 + 3 * j + 1)).2 0)) (5 + 3 * j + 2)).2 0) (5 + 3 * j + 2)).1 = 2 * (ar (5 + 3 * j + 1)).1 := by rw [hq_u_at]
      have po1 := hq_po_u (ar := ar) (lr := lr) (r := (5 + 3 * j + 1)) (A := (2 * (ar (5 + 3 * j + 1)).1, hq_cpf (ar (5 + 3 * j + 1)).1 (ar (5 + 3 * j + 1)).2 0)) (by omega)
      have po2 := hq_po_u (ar := hq_u ar (5 + 3 * j + 1) (2 * (ar (5 + 3 * j + 1)).1, hq_cpf (ar (5 + 3 * j + 1)).1 (ar (5 + 3 * j + 1)).2 0)) (lr := lr) (r := (5 + 3 * j + 2)) (A := (2 * (ar (5 + 3 * j + 1)).1, hq_cpf ((hq_u ar (5 + 3 * j + 1) (2 * (ar (5 + 3 * j + 1)).1, hq_cpf (ar (5 + 3 * j + 1)).1 (ar (5 + 3 * j + 1)).2 0)) (5 + 3 * j + 2)).1 ((hq_u ar (5 + 3 * j + 1) (2 * (ar (5 + 3 * j + 1)).1, hq_cpf (ar (5 + 3 * j + 1)).1 (ar (5 + 3 * j + 1)).2 0)) (5 + 3 * j + 2)).2 0)) (by omega)
      have q2 : ((hq_u ar (5 + 3 * j + 1) (2 * (ar (5 + 3 * j + 1)).1, hq_cpf (ar (5 + 3 * j + 1)).1 (ar (5 + 3 * j + 1)).2 0)) (5 + 3 * j + 2)).1 = (ar (5 + 3 * j + 2)).1 := by rw [hq_u_ne (show (5 + 3 * j + 2) ≠ (5 + 3 * j + 1) by omega)]
      dsimp only at po1 po2
      refine (ev_keepT L xs hj H4 hc hv s0 (by rw [l1]; omega) (by rw [l1, l2]) (by rw [l1]; omega) (by rw [l1]; omega)).mono (fun o s q => ⟨q.1, ?_⟩)
      obtain ⟨ad', ar', H5, K5, L5⟩ := q.2.1
      refine ⟨ad', ar', H5, ⟨fun r h1 h2 => ?_, fun i i0 i1 => ?_, K5.2.2⟩, ?_⟩
      · rw [K5.1 r h1 h2, hq_u_ne h2, hq_u_ne h1]
      · have k := K5.2.1 i i0 i1
        rw [k.1, k.2]
        by_cases e : i = z (105 + 3 * j)
        · rw [if_pos e, if_pos e, if_pos e, if_pos e]
          exact ⟨rfl, rfl⟩
        · rw [if_neg e, if_neg e, if_neg e, if_neg e, g1 i i0 (by omega), g2 i i0 (by omega)]
          exact ⟨rfl, rfl⟩
      · have e5 : hq_po ar' lr = hq_po (hq_u (hq_u ar (5 + 3 * j + 1) (2 * (ar (5 + 3 * j + 1)).1, hq_cpf (ar (5 + 3 * j + 1)).1 (ar (5 + 3 * j + 1)).2 0)) (5 + 3 * j + 2) (2 * (ar (5 + 3 * j + 1)).1, hq_cpf ((hq_u ar (5 + 3 * j + 1) (2 * (ar (5 + 3 * j + 1)).1, hq_cpf (ar (5 + 3 * j + 1)).1 (ar (5 + 3 * j + 1)).2 0)) (5 + 3 * j + 2)).1 ((hq_u ar (5 + 3 * j + 1) (2 * (ar (5 + 3 * j + 1)).1, hq_cpf (ar (5 + 3 * j + 1)).1 (ar (5 + 3 * j + 1)).2 0)) (5 + 3 * j + 2)).2 0)) lr := by
          unfold hq_po
          rw [hq_pt_cg L5]
        have e6 : s.2 = (σ.2.1 + 1 + 1, σ.2.2 + 2 * (ar (5 + 3 * j + 1)).1 + 2 * (ar (5 + 3 * j + 1)).1) := by
          rw [q.2.2, r4, r3, r2, r1]
        unfold hq_rm
        rw [e5, e6]
        show σ.2.2 + 2 * (ar (5 + 3 * j + 1)).1 + 2 * (ar (5 + 3 * j + 1)).1 + _ ≤ _ ∧ 4 * (σ.2.1 + 1 + 1) + _ ≤ _
        omega
  · skip
    refine pm_Fv.go 1 (f' := (93, 1, [(0, _), (1, _), (2, _)], [_])) rfl ?_
    refine pm_Fv.gf rfl rfl (H.ms hj) (H.os hj) rfl ?_
    rw [zz]
    refine pm_Fv.go 1 (f' := (93, 5, [(0, _), (1, _), (2, _)], [_, _])) rfl ?_
    refine pm_Fv.gf rfl rfl (H.ms hj) (H.os hj) rfl ?_
    refine pm_Fv.dal H (r := (5 + 3 * j + 1)) rfl (by omega) (hq_isA_t (by omega)) ?_
    refine pm_Fv.jne rfl (by omega) rfl (fun h1 => ?_) (fun h1 => ?_)
    · refine (ev_keepT L xs hj H hc hv s0 (by omega) hl h4 hb).mono (fun o s q => ⟨q.1, ?_⟩)
      obtain ⟨ad', ar', H5, K5, L5⟩ := q.2.1
      exact ⟨ad', ar', H5, K5, hq_rm_len q.2.2 L5 rfl⟩
    · exact absurd h1 (by omega)
theorem ev_hstep (H : Hp σ ad z ar lr) {i : Int} (h2 : 0 ≤ z 2 ∧ z 2 < 61) (hi : 0 ≤ i ∧ i ≤ 60) {j : Nat} (ej : (j : Int) = (z 2 + i) % 61) : pm_Ev (tq_P L xs) (pm_enter 56 [.ref 1, .int (zI i)]) σ (.inl (some (.ref (5 + 3 * j))), σ) := by
  show pm_Ev (tq_P L xs) (56, 0, [(0, .ref 1), (1, .int (zI i))], []) σ _
  have jj : ((z 2 + i) % 61).toNat = j := by omega
  refine pm_Ev.go 1 (f' := (56, 1, [(0, _), (1, _)], [_])) rfl ?_
  refine pm_Ev.gf rfl rfl H.m1 H.o1 rfl ?_
  refine pm_Ev.go 1 (f' := (56, 5, [(0, _), (1, _)], [_, _])) rfl ?_
  refine pm_Ev.gf rfl rfl H.m1 H.o1 rfl ?_
  refine pm_Ev.go 1 (f' := (56, 9, [(0, _), (1, _)], [_, _, _])) rfl ?_
  refine pm_Ev.iadd rfl ?_
  refine pm_Ev.bp rfl rfl ?_
  refine pm_Ev.irem rfl (by omega) ?_
  refine pm_Ev.aa (x := 5 + 3 * j) rfl H.m4 H.o4 (zI_ix (by omega) (by omega) (by decide)) ?_ ?_
  · rw [zI_nat (by omega) (by omega), jj]
    exact if_pos (by omega)
  exact pm_Ev.ret rfl rfl rfl rfl
end MS
