/-! arrays that are made anew, and where they are kept -/
def hq_ow (r : Nat) : Nat := if r = 190 ∨ r = 191 then 1 else if r = 193 ∨ r = 194 ∨ r = 195 then 192 else if r = 197 then 196 else if r % 3 = 0 then r - 1 else r - 2
theorem hq_dyn_c {r : Nat} (h : hq_dyn r = true) : r = 190 ∨ r = 191 ∨ r = 193 ∨ r = 194 ∨ r = 195 ∨ r = 197 ∨ (5 ≤ r ∧ r < 188 ∧ ¬ r % 3 = 2) := by
  unfold hq_dyn at h
  simp at h
  omega
theorem hq_dyn_f {r : Nat} (h : ¬ (r = 190 ∨ r = 191 ∨ r = 193 ∨ r = 194 ∨ r = 195 ∨ r = 197 ∨ (5 ≤ r ∧ r < 188 ∧ ¬ r % 3 = 2))) : hq_dyn r = false := by
  cases c : hq_dyn r with
  | false => rfl
  | true => exact absurd (hq_dyn_c c) h
theorem hq_dyn_t {r : Nat} (h : 5 ≤ r ∧ r < 188 ∧ ¬ r % 3 = 2) : hq_dyn r = true := by
  unfold hq_dyn
  simp
  omega
theorem hq_isA_t {r : Nat} (h : 5 ≤ r ∧ r < 188 ∧ ¬ r % 3 = 2) : hq_isA r = true := by
  unfold hq_isA
  simp
  omega
section HM
variable {σ : pm_S} {ad : Nat → Nat} {z : Nat → Int} {ar : Nat → Nat × (Nat → Int32)} {lr : Nat → Nat × (Nat → Int64)}
theorem hq_lay_ad {r a s : Nat} (hd : hq_dyn r = true) (h : s ≠ hq_ow r) : hq_lay (hq_u ad r a) z ar lr s = hq_lay ad z ar lr s := by
  have c := hq_dyn_c hd
  unfold hq_ow at h
  unfold hq_lay
  by_cases q0 : s = 0
  · rw [if_pos q0, if_pos q0]
  · rw [if_neg q0, if_neg q0]
    by_cases q1 : s = 1
    · have : ¬ (r = 190 ∨ r = 191) := fun q => h (by rw [if_pos q]; exact q1)
      rw [if_pos q1, if_pos q1, hq_u_ne (show 190 ≠ r by omega), hq_u_ne (show 191 ≠ r by omega)]
    · rw [if_neg q1, if_neg q1]
      by_cases q4 : s = 4
      · rw [if_pos q4, if_pos q4]
      · rw [if_neg q4, if_neg q4]
        by_cases q5 : s = 188
        · rw [if_pos q5, if_pos q5]
        · rw [if_neg q5, if_neg q5]
          by_cases q6 : s = 192
          · have : ¬ (r = 193 ∨ r = 194 ∨ r = 195) := fun q => h (by rw [if_neg (by omega), if_pos q]; exact q6)
            rw [if_pos q6, if_pos q6, hq_u_ne (show 193 ≠ r by omega), hq_u_ne (show 194 ≠ r by omega), hq_u_ne (show 195 ≠ r by omega)]
          · rw [if_neg q6, if_neg q6]
            by_cases q7 : s = 196
            · have : r ≠ 197 := fun q => h (by rw [if_neg (by omega), if_neg (by omega), if_pos q]; exact q7)
              rw [if_pos q7, if_pos q7, hq_u_ne (show 197 ≠ r by omega)]
            · rw [if_neg q7, if_neg q7]
              by_cases q8 : s = 197
              · rw [if_pos q8, if_pos q8]
              · rw [if_neg q8, if_neg q8]
                by_cases q9 : s = 208
                · rw [if_pos q9, if_pos q9]
                · rw [if_neg q9, if_neg q9]
                  by_cases p0 : s = 199
                  · rw [if_pos p0, if_pos p0]
                  · rw [if_neg p0, if_neg p0]
                    by_cases p1 : 5 ≤ s ∧ s < 188 ∧ s % 3 = 2
                    · have e1 : s + 1 ≠ r := fun q => h (by rw [if_neg (by omega), if_neg (by omega), if_neg (by omega), if_pos (by omega)]; omega)
                      have e2 : s + 2 ≠ r := fun q => h (by rw [if_neg (by omega), if_neg (by omega), if_neg (by omega), if_neg (by omega)]; omega)
                      rw [if_pos p1, if_pos p1, hq_u_ne e1, hq_u_ne e2]
                    · rw [if_neg p1, if_neg p1]
theorem hq_ow_c {r : Nat} (hd : hq_dyn r = true) : hq_ow r < 209 ∧ hq_ow r ≠ r ∧ hq_dyn (hq_ow r) = false := by
  have c := hq_dyn_c hd
  have e : hq_ow r = if r = 190 ∨ r = 191 then 1 else if r = 193 ∨ r = 194 ∨ r = 195 then 192 else if r = 197 then 196 else if r % 3 = 0 then r - 1 else r - 2 := rfl
  have k : (hq_ow r = 1 ∧ (r = 190 ∨ r = 191)) ∨ (hq_ow r = 192 ∧ (r = 193 ∨ r = 194 ∨ r = 195)) ∨ (hq_ow r = 196 ∧ r = 197) ∨ (5 ≤ r ∧ r < 188 ∧ ¬ r % 3 = 2 ∧ (hq_ow r = r - 1 ∧ r % 3 = 0 ∨ hq_ow r = r - 2 ∧ r % 3 = 1)) := by
    rw [e]
    split
    · omega
    · split
      · omega
      · split
        · omega
        · split <;> omega
  refine ⟨by omega, by omega, hq_dyn_f (by omega)⟩
/-- an array of numbers that is made anew takes the place of the old one -/
theorem Hp.mv (H : Hp σ ad z ar lr) {r a : Nat} (hr : r < 209) (hd : hq_dyn r = true) (hA : hq_isA r = true) (ha : ∀ s, s < 209 → ad s ≠ a) (hl : a < σ.2.1) {A : Nat × (Nat → Int32)} (hv : σ.1 a = hq_arr A) {x : pm_E} (hx : hq_lay (hq_u ad r a) z ar lr (hq_ow r) = x) : Hp (pm_set σ (hq_ow r) x) (hq_u ad r a) z (hq_u ar r A) lr := by
  have c := hq_ow_c hd
  have e := H.2.2 (hq_ow r) c.2.2
  have k := H.re (o := hq_ow r) (r := r) (a := a) c.1 hr c.2.1 hd ha hl (x := x) (z' := z) (ar' := hq_u ar r A) (lr' := lr) (fun s hs => ?_)
  · rw [e] at k
    exact k
  · rw [hq_lay_a hA]
    by_cases q1 : s = hq_ow r
    · rw [if_neg (fun q => c.2.1 (q1.symm.trans q)), if_pos q1, q1, hx]
    · rw [if_neg q1]
      by_cases q2 : s = r
      · rw [if_pos q2, if_pos q2, hv]
      · rw [if_neg q2, if_neg q2, hq_lay_ad hd q1]
theorem Hp.mvl (H : Hp σ ad z ar lr) {a : Nat} (ha : ∀ s, s < 209 → ad s ≠ a) (hl : a < σ.2.1) {A : Nat × (Nat → Int64)} (hv : σ.1 a = hq_lon A) {x : pm_E} (hx : hq_lay (hq_u ad 197 a) z ar lr 196 = x) : Hp (pm_set σ 196 x) (hq_u ad 197 a) z ar (hq_u lr 0 A) := by
  have e := H.2.2 196 rfl
  have k := H.re (o := 196) (r := 197) (a := a) (by decide) (by decide) (by decide) rfl ha hl (x := x) (z' := z) (ar' := ar) (lr' := hq_u lr 0 A) (fun s hs => ?_)
  · rw [e] at k
    exact k
  · have lay : s ≠ 197 → hq_lay (hq_u ad 197 a) z ar (hq_u lr 0 A) s = hq_lay (hq_u ad 197 a) z ar lr s := by
      intro h
      unfold hq_lay
      rw [if_neg h, if_neg h]
      rfl
    by_cases q1 : s = 196
    · rw [if_pos q1, lay (by omega), q1, hx]
    · rw [if_neg q1]
      by_cases q2 : s = 197
      · rw [if_pos q2, hv, q2]
        rfl
      · rw [if_neg q2, lay q2]
        exact hq_lay_ad rfl q1
/-- the long row is written -/
theorem Hp.lset (H : Hp σ ad z ar lr) (A : Nat × (Nat → Int64)) : Hp (pm_set σ (ad 197) (hq_lon A)) ad z ar (hq_u lr 0 A) := by
  refine H.set (r := 197) (by decide) (fun s hs => ?_)
  by_cases q2 : s = 197
  · rw [if_pos q2, q2]
    rfl
  · rw [if_neg q2]
    unfold hq_lay
    rw [if_neg q2, if_neg q2]
    rfl
theorem Hp.oset (H : Hp σ ad z ar lr) (A : Nat × (Nat → Int64)) : Hp (pm_set σ 208 (hq_lon A)) ad z ar (hq_u lr 1 A) := by
  refine H.fset (r := 208) (by decide) rfl (fun s hs => ?_)
  by_cases q2 : s = 208
  · rw [if_pos q2, q2]
    rfl
  · rw [if_neg q2]
    unfold hq_lay
    rw [if_neg q2, if_neg q2]
    rfl
/-- a step of the ring -/
theorem hq_lay_st {j : Nat} (hj : j < 61) : hq_lay ad z ar lr (5 + 3 * j) = .inr (5, [.ref (ad (5 + 3 * j + 1)), .ref (ad (5 + 3 * j + 2)), .int (zI (z (100 + (5 + 3 * j))))]) := by
  unfold hq_lay
  rw [if_neg (by omega), if_neg (by omega), if_neg (by omega), if_neg (by omega), if_neg (by omega), if_neg (by omega), if_neg (by omega), if_neg (by omega), if_neg (by omega), if_pos (by omega)]
theorem Hp.ms (H : Hp σ ad z ar lr) {j : Nat} (hj : j < 61) : 5 + 3 * j < σ.2.1 := H.flt (r := 5 + 3 * j) (by omega) (hq_dyn_f (by omega))
theorem Hp.os (H : Hp σ ad z ar lr) {j : Nat} (hj : j < 61) : σ.1 (5 + 3 * j) = .inr (5, [.ref (ad (5 + 3 * j + 1)), .ref (ad (5 + 3 * j + 2)), .int (zI (z (100 + (5 + 3 * j))))]) := (H.fat (r := 5 + 3 * j) (by omega) (hq_dyn_f (by omega))).trans (hq_lay_st hj)
theorem Hp.m4 (H : Hp σ ad z ar lr) : 4 < σ.2.1 := H.flt (r := 4) (by decide) rfl
theorem Hp.o4 (H : Hp σ ad z ar lr) : σ.1 4 = .inl (2, 61, .inr (.inr (.inr (.inr hq_ring)))) := H.fat (r := 4) (by decide) rfl
end HM
section HQ
variable {P : pm_P} {mi pc : Nat} {lv : pm_L} {st : List Value} {σ : pm_S} {Q : pm_O → pm_S → Prop}
variable {ad : Nat → Nat} {z : Nat → Int} {ar : Nat → Nat × (Nat → Int32)} {lr : Nat → Nat × (Nat → Int64)}
theorem pm_Fv.pmv (H : Hp σ ad z ar lr) (r : Nat) {a o ix kd ci k : Nat} {ty : FieldType} {fs : List Value} {A : Nat × (Nat → Int32)} (hc : pm_cod P mi pc = some (.putfield ix, 3)) (hf : pm_fld P mi ix = some (kd, ci, k, ty)) (ho : hq_ow r = o) (hr : r < 209) (hd : hq_dyn r = true) (hA : hq_isA r = true) (hlay : hq_lay ad z ar lr o = .inr (ci, fs)) (hk : k < fs.length) (hok : pm_ok ty (.ref a) = true) (hkd : kd ≠ 0) (hx : hq_lay (hq_u ad r a) z ar lr o = .inr (ci, fs.set k (.ref a))) (ha : ∀ s, s < 209 → ad s ≠ a) (hl : a < σ.2.1) (hv : σ.1 a = hq_arr A) (kk : ∀ s, Hp s (hq_u ad r a) z (hq_u ar r A) lr → s.2 = σ.2 → pm_Fv P (mi, pc + 3, lv, st) s Q) : pm_Fv P (mi, pc, lv, .ref a :: .ref o :: st) σ Q := by
  subst ho
  have c := hq_ow_c hd
  refine pm_Fv.pf hc hf (H.flt c.1 c.2.2) ((H.fat c.1 c.2.2).trans hlay) hk hok hkd ?_
  exact kk _ (H.mv hr hd hA ha hl hv hx) rfl
theorem pm_Fv.pml (H : Hp σ ad z ar lr) {a ix kd k : Nat} {ty : FieldType} {A : Nat × (Nat → Int64)} (hc : pm_cod P mi pc = some (.putfield ix, 3)) (hf : pm_fld P mi ix = some (kd, 4, k, ty)) (hk : k = 0) (hok : pm_ok ty (.ref a) = true) (hkd : kd ≠ 0) (ha : ∀ s, s < 209 → ad s ≠ a) (hl : a < σ.2.1) (hv : σ.1 a = hq_lon A) (kk : ∀ s, Hp s (hq_u ad 197 a) z ar (hq_u lr 0 A) → s.2 = σ.2 → pm_Fv P (mi, pc + 3, lv, st) s Q) : pm_Fv P (mi, pc, lv, .ref a :: .ref 196 :: st) σ Q := by
  subst hk
  refine pm_Fv.pf hc hf H.m196 H.o196 (Nat.le_of_ble_eq_true rfl) hok hkd ?_
  exact kk _ (H.mvl ha hl hv rfl) rfl
/-- the size of a step -/
theorem pm_Fv.psz (H : Hp σ ad z ar lr) {j ix kd k : Nat} {v : Int} {ty : FieldType} (hj : j < 61) (hc : pm_cod P mi pc = some (.putfield ix, 3)) (hf : pm_fld P mi ix = some (kd, 5, k, ty)) (hk : k = 2) (hok : ty = .int) (hkd : kd ≠ 0) (kk : ∀ s, Hp s ad (hq_u z (105 + 3 * j) v) ar lr → s.2 = σ.2 → pm_Fv P (mi, pc + 3, lv, st) s Q) : pm_Fv P (mi, pc, lv, .int (zI v) :: .ref (5 + 3 * j) :: st) σ Q := by
  subst hk
  subst hok
  refine pm_Fv.pf hc hf (H.ms hj) (H.os hj) (Nat.le_of_ble_eq_true rfl) rfl hkd ?_
  have zo : hq_zo (105 + 3 * j) = 5 + 3 * j := by
    unfold hq_zo
    rw [if_neg (by omega), if_neg (by omega), if_neg (by omega), if_neg (by omega), if_neg (by omega), if_neg (by omega)]
    omega
  refine kk _ (H.zset (105 + 3 * j) v (by rw [zo]; omega) (by rw [zo]; exact hq_dyn_f (by omega)) zo ?_) rfl
  rw [hq_lay_st hj, show 100 + (5 + 3 * j) = 105 + 3 * j by omega, hq_u_at]
  rfl
theorem pm_Fv.dal (H : Hp σ ad z ar lr) {r : Nat} (hc : pm_cod P mi pc = some (.arraylength, 1)) (hr : r < 209) (hA : hq_isA r = true) (kk : pm_Fv P (mi, pc + 1, lv, .int (zI ((ar r).1 : Int)) :: st) σ Q) : pm_Fv P (mi, pc, lv, .ref (ad r) :: st) σ Q := by
  refine pm_Fv.al hc (H.lt hr) (H.aat hr hA) ?_
  rw [zI_ofNat]
  exact kk
end HQ
/-- what a longer copy holds -/
def hq_cpf {α : Type} (m : Nat) (f : Nat → α) (o : α) : Nat → α := fun i => if i < m then f i else o
section MS
variable (L : Nat) (xs : Nat → Int32)
variable {σ : pm_S} {ad : Nat → Nat} {z : Nat → Int} {ar : Nat → Nat × (Nat → Int32)} {lr : Nat → Nat × (Nat → Int64)}
theorem ev_copyOf (H : Hp σ ad z ar lr) {r k : Nat} (hr : r < 209) (hA : hq_isA r = true) (hk : (ar r).1 < k) (hk2 : k ≤ 200000) : pm_Fv (tq_P L xs) (pm_enter 201 [.ref (ad r), .int (zI (k : Int))]) σ (fun o s => o = .inl (some (.ref σ.2.1)) ∧ Hp s ad z ar lr ∧ s.2 = (σ.2.1 + 1, σ.2.2 + k) ∧ s.1 σ.2.1 = hq_arr (k, hq_cpf (ar r).1 (ar r).2 0)) := by
  show pm_Fv (tq_P L xs) (201, 0, [(0, .ref (ad r)), (1, .int (zI (k : Int)))], []) σ _
  refine pm_Fv.go 2 (f' := (201, 2, [(0, _), (1, _)], [_, _])) rfl ?_
  refine pm_Fv.dal H rfl hr hA ?_
  refine pm_Fv.jne rfl (by omega) rfl (fun h1 => ?_) (fun h1 => absurd h1 (by omega))
  refine pm_Fv.go 1 (f' := (201, 15, [(0, _), (1, _)], [_])) rfl ?_
  have kc : (zI (k : Int)).toNatClampNeg = k := by
    rw [zI_nat (by omega) (by omega)]
    omega
  have kn : ¬ (zI (k : Int) < 0 ∨ 536870912 < (zI (k : Int)).toNatClampNeg * 4) := by
    rw [kc, show (0 : Int32) = zI 0 from rfl, zI_lt (by omega) (by omega) (by omega) (by omega)]
    omega
  refine pm_Fv.in (i := .newarray .int) (n := 2) rfl rfl (by
    show (if zI (k : Int) < 0 ∨ 536870912 < (zI (k : Int)).toNatClampNeg * 4 then none else some _) = _
    exact if_neg kn) ?_
  rw [kc]
  have fr : ∀ s, s < 209 → ad s ≠ σ.2.1 := fun s hs => Nat.ne_of_lt (H.lt hs)
  have H1 := H.add (.inl (0, k, .inl (fun _ => 0))) k
  refine pm_Fv.go 6 (f' := (201, 23, [(2, _), (0, _), (1, _)], [_, _, _, _, _])) rfl ?_
  refine pm_Fv.dal H1 rfl hr hA ?_
  refine pm_Fv.go 1 (f' := (201, 25, [(2, _), (0, _), (1, _)], [_, _, _, _, _, _])) rfl ?_
  refine pm_Fv.call rfl rfl rfl rfl rfl (ev_min L xs _ (by omega)) ?_
  rw [if_pos (by omega)]
  have mc : (zI ((ar r).1 : Int)).toNatClampNeg = (ar r).1 := by
    rw [zI_nat (by omega) (by omega)]
    omega
  have a1 : (pm_add σ (.inl (0, k, .inl (fun _ => 0))) k).1 (ad r) = .inl (0, (ar r).1, .inl (ar r).2) := H1.aat hr hA
  have a2 : (pm_add σ (.inl (0, k, .inl (fun _ => 0))) k).1 σ.2.1 = .inl (0, k, .inl (fun _ => 0)) := pm_add_at _ _ _
  have cnd : ad r < (pm_add σ (.inl (0, k, .inl (fun _ => 0))) k).2.1 ∧ σ.2.1 < (pm_add σ (.inl (0, k, .inl (fun _ => 0))) k).2.1 ∧ ¬ (0 : Int32) < 0 ∧ ¬ (0 : Int32) < 0 ∧ ¬ zI ((ar r).1 : Int) < 0 ∧ (List.map (fun v : Value => v.category) []).sum ≤ 8 := by
    refine ⟨H1.lt hr, Nat.lt_succ_self _, by decide, by decide, ?_, by decide⟩
    rw [show (0 : Int32) = zI 0 from rfl, zI_lt (by omega) (by omega) (by omega) (by omega)]
    omega
  refine pm_Fv.in (i := .invokestatic 150) (n := 3) (σ' := pm_set (pm_add σ (.inl (0, k, .inl (fun _ => 0))) k) σ.2.1 (hq_arr (k, hq_cpf (ar r).1 (ar r).2 0))) (st' := []) (pc' := 31) (lv' := [(2, .ref σ.2.1), (0, .ref (ad r)), (1, .int (zI (k : Int)))]) rfl rfl ?_ ?_
  · show (if ad r < (pm_add σ (.inl (0, k, .inl (fun _ => 0))) k).2.1 ∧ σ.2.1 < (pm_add σ (.inl (0, k, .inl (fun _ => 0))) k).2.1 ∧ ¬ (0 : Int32) < 0 ∧ ¬ (0 : Int32) < 0 ∧ ¬ zI ((ar r).1 : Int) < 0 ∧ (List.map (fun v : Value => v.category) []).sum ≤ 8 then _ else none) = _
    rw [if_pos cnd]
    simp only [a1, a2, mc]
    rw [if_pos (by
      show (0 : Int32).toNatClampNeg + (ar r).1 ≤ (ar r).1 ∧ (0 : Int32).toNatClampNeg + (ar r).1 ≤ k
      rw [show (0 : Int32).toNatClampNeg = 0 from rfl]
      omega)]
    have fe : va_cpy (ar r).2 (fun _ => (0 : Int32)) (0 : Int32).toNatClampNeg (0 : Int32).toNatClampNeg (ar r).1 = hq_cpf (ar r).1 (ar r).2 0 := by
      funext i
      unfold va_cpy hq_cpf
      rw [show (0 : Int32).toNatClampNeg = 0 from rfl, Nat.zero_add]
      by_cases c : i < (ar r).1
      · rw [if_pos ⟨Nat.zero_le _, c⟩, if_pos c, Nat.zero_add]
        rfl
      · rw [if_neg (fun q => c q.2), if_neg c]
    rw [show va_cpy (ar r).2 (fun _ => (0 : Int32)) (Int32.ofInt 0).toNatClampNeg (Int32.ofInt 0).toNatClampNeg (ar r).1 = hq_cpf (ar r).1 (ar r).2 0 from fe]
    rfl
  · refine pm_Fv.go 1 (f' := (201, 32, [(2, _), (0, _), (1, _)], [_])) rfl ?_
    exact pm_Fv.ret rfl rfl rfl rfl ⟨rfl, H1.out fr _, rfl, pm_set_at _ _ _⟩
end MS
