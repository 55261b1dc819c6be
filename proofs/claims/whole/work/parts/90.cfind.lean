/-! the desk: findings; the end of an edit -/
def fn_k (a b c : Int) (z : Nat → Int) (ar ar' : Nat → Nat × (Nat → Int32)) : Prop := (∀ r, r ≠ 193 → r ≠ 194 → r ≠ 195 → ar' r = ar r) ∧ (∀ i, 0 ≤ i → i ≤ z 9 → hq_g ar' 193 i = (if i = z 9 then a else hq_g ar 193 i) ∧ hq_g ar' 194 i = (if i = z 9 then b else hq_g ar 194 i) ∧ hq_g ar' 195 i = (if i = z 9 then c else hq_g ar 195 i)) ∧ (ar' 194).1 = (ar' 193).1 ∧ (ar' 195).1 = (ar' 193).1 ∧ 16 ≤ (ar' 193).1 ∧ (ar' 193).1 ≤ 1600 ∧ z 9 + 1 ≤ ((ar' 193).1 : Int)
section MS
variable (L : Nat) (xs : Nat → Int32)
variable {σ : pm_S} {ad : Nat → Nat} {z : Nat → Int} {ar : Nat → Nat × (Nat → Int32)} {lr : Nat → Nat × (Nat → Int64)}
theorem ev_faddT (H : Hp σ ad z ar lr) {a b c : Int} (ha : -2147483648 ≤ a ∧ a ≤ 2147483647) (hb_ : -2147483648 ≤ b ∧ b ≤ 2147483647) (hc : -2147483648 ≤ c ∧ c ≤ 2147483647) (s0 : 0 ≤ z 9) (s1 : z 9 < ((ar 193).1 : Int)) (l4 : (ar 194).1 = (ar 193).1) (l5 : (ar 195).1 = (ar 193).1) (h4 : 16 ≤ (ar 193).1) (hb : (ar 193).1 ≤ 1600) : pm_Fv (tq_P L xs) (85, 63, [(0, .ref 192), (1, .int (zI a)), (2, .int (zI b)), (3, .int (zI c))], []) σ (fun o s => o = .inl none ∧ (∃ ar', Hp s ad (hq_u z 9 (z 9 + 1)) ar' lr ∧ fn_k a b c z ar ar' ∧ (∀ r, (ar' r).1 = (ar r).1)) ∧ s.2 = σ.2) := by
  refine pm_Fv.go 1 (f' := (85, 64, [(0, _), (1, _), (2, _), (3, _)], [_])) rfl ?_
  refine pm_Fv.gf rfl rfl H.m192 H.o192 rfl ?_
  refine pm_Fv.go 1 (f' := (85, 68, [(0, _), (1, _), (2, _), (3, _)], [_, _])) rfl ?_
  refine pm_Fv.gf rfl rfl H.m192 H.o192 rfl ?_
  refine pm_Fv.go 1 (f' := (85, 72, [(0, _), (1, _), (2, _), (3, _)], [_, _, _])) rfl ?_
  refine pm_Fv.dis H (r := 193) rfl (by decide) rfl (by omega) (fun s1 H1 r1 => ?_)
  refine pm_Fv.go 1 (f' := (85, 74, [(0, _), (1, _), (2, _), (3, _)], [_])) rfl ?_
  refine pm_Fv.gf rfl rfl H1.m192 H1.o192 rfl ?_
  refine pm_Fv.go 1 (f' := (85, 78, [(0, _), (1, _), (2, _), (3, _)], [_, _])) rfl ?_
  refine pm_Fv.gf rfl rfl H1.m192 H1.o192 rfl ?_
  refine pm_Fv.go 1 (f' := (85, 82, [(0, _), (1, _), (2, _), (3, _)], [_, _, _])) rfl ?_
  refine pm_Fv.dis H1 (r := 194) rfl (by decide) rfl (by rw [hq_w_len]; omega) (fun s2 H2 r2 => ?_)
  refine pm_Fv.go 1 (f' := (85, 84, [(0, _), (1, _), (2, _), (3, _)], [_])) rfl ?_
  refine pm_Fv.gf rfl rfl H2.m192 H2.o192 rfl ?_
  refine pm_Fv.go 1 (f' := (85, 88, [(0, _), (1, _), (2, _), (3, _)], [_, _])) rfl ?_
  refine pm_Fv.gf rfl rfl H2.m192 H2.o192 rfl ?_
  refine pm_Fv.go 1 (f' := (85, 92, [(0, _), (1, _), (2, _), (3, _)], [_, _, _])) rfl ?_
  refine pm_Fv.dis H2 (r := 195) rfl (by decide) rfl (by rw [hq_w_len, hq_w_len]; omega) (fun s3 H3 r3 => ?_)
  refine pm_Fv.go 2 (f' := (85, 95, [(0, _), (1, _), (2, _), (3, _)], [_, _])) rfl ?_
  refine pm_Fv.gf rfl rfl H3.m192 H3.o192 rfl ?_
  refine pm_Fv.go 1 (f' := (85, 99, [(0, _), (1, _), (2, _), (3, _)], [_, _, _])) rfl ?_
  refine pm_Fv.iadd rfl ?_
  refine pm_Fv.pz H3 9 rfl rfl rfl (by decide) rfl rfl (Nat.le_of_ble_eq_true rfl) rfl (by decide) rfl (fun s4 H4 r4 => ?_)
  refine pm_Fv.ret rfl rfl rfl rfl ⟨rfl, ⟨_, H4, ⟨fun r h1 h2 h3 => ?_, fun i i0 i1 => ⟨?_, ?_, ?_⟩, ?_, ?_, ?_, ?_, ?_⟩, fun r => ?_⟩, (r4.trans (r3.trans (r2.trans r1)))⟩
  · rw [hq_w_ne h3, hq_w_ne h2, hq_w_ne h1]
  · rw [hq_g_ne (hq_w_ne (by decide)), hq_g_ne (hq_w_ne (by decide)), hq_w_g s0 i0 ha]
  · rw [hq_g_ne (hq_w_ne (by decide)), hq_w_g s0 i0 hb_, hq_g_ne (hq_w_ne (by decide))]
  · rw [hq_w_g s0 i0 hc, hq_g_ne (hq_w_ne (by decide)), hq_g_ne (hq_w_ne (by decide))]
  · rw [hq_w_len, hq_w_len, hq_w_len, hq_w_len, hq_w_len, hq_w_len, l4]
  · rw [hq_w_len, hq_w_len, hq_w_len, hq_w_len, hq_w_len, hq_w_len, l5]
  · rw [hq_w_len, hq_w_len, hq_w_len]
    exact h4
  · rw [hq_w_len, hq_w_len, hq_w_len]
    exact hb
  · rw [hq_w_len, hq_w_len, hq_w_len]
    omega
  · rw [hq_w_len, hq_w_len, hq_w_len]
theorem ev_fadd (H : Hp σ ad z ar lr) {a b c : Int} (ha : -2147483648 ≤ a ∧ a ≤ 2147483647) (hb_ : -2147483648 ≤ b ∧ b ≤ 2147483647) (hc : -2147483648 ≤ c ∧ c ≤ 2147483647) (s0 : 0 ≤ z 9) (s1 : z 9 ≤ ((ar 193).1 : Int)) (s2 : z 9 < 800) (l4 : (ar 194).1 = (ar 193).1) (l5 : (ar 195).1 = (ar 193).1) (h4 : 16 ≤ (ar 193).1) (hb : (ar 193).1 ≤ 1600) : pm_Fv (tq_P L xs) (pm_enter 85 [.ref 192, .int (zI a), .int (zI b), .int (zI c)]) σ (fun o s => o = .inl none ∧ ∃ ad' ar', Hp s ad' (hq_u z 9 (z 9 + 1)) ar' lr ∧ fn_k a b c z ar ar' ∧ hq_rm σ ar lr s ar' lr) := by
  show pm_Fv (tq_P L xs) (85, 0, [(0, .ref 192), (1, .int (zI a)), (2, .int (zI b)), (3, .int (zI c))], []) σ _
  by_cases q : z 9 = ((ar 193).1 : Int)
  · have ek : z 9 * 2 = ((2 * (ar 193).1 : Nat) : Int) := by omega
    generalize hK : 2 * (ar 193).1 = K at *
    have f0 : ∀ s, s < 209 → ad s ≠ σ.2.1 := fun s hs => Nat.ne_of_lt (H.lt hs)
    refine pm_Fv.go 1 (f' := (85, 1, [(0, _), (1, _), (2, _), (3, _)], [_])) rfl ?_
    refine pm_Fv.gf rfl rfl H.m192 H.o192 rfl ?_
    refine pm_Fv.go 1 (f' := (85, 5, [(0, _), (1, _), (2, _), (3, _)], [_, _])) rfl ?_
    refine pm_Fv.gf rfl rfl H.m192 H.o192 rfl ?_
    refine pm_Fv.dal H (r := 193) rfl (by decide) rfl ?_
    refine pm_Fv.jne rfl (by omega) rfl (fun h1 => ?_) (fun h1 => ?_)
    · exact absurd h1 (by omega)
    · refine pm_Fv.go 2 (f' := (85, 14, [(0, _), (1, _), (2, _), (3, _)], [_, _])) rfl ?_
      refine pm_Fv.gf rfl rfl H.m192 H.o192 rfl ?_
      refine pm_Fv.go 1 (f' := (85, 18, [(0, _), (1, _), (2, _), (3, _)], [_, _, _])) rfl ?_
      refine pm_Fv.gf rfl rfl H.m192 H.o192 rfl ?_
      refine pm_Fv.go 1 (f' := (85, 22, [(0, _), (1, _), (2, _), (3, _)], [_, _, _, _])) rfl ?_
      refine pm_Fv.imul rfl ?_
      rw [ek]
      refine pm_Fv.callF rfl rfl rfl rfl rfl (ev_copyOf L xs H (r := 193) (k := K) (by decide) rfl (show (ar 193).1 < K by omega) (by omega)) (fun s1 q1 => ?_)
      obtain ⟨H1, r1, e1⟩ := q1
      refine pm_Fv.pmv H1 193 rfl rfl rfl (by decide) rfl rfl rfl (Nat.le_of_ble_eq_true rfl) rfl (by decide) rfl (f0) (by rw [r1]; exact Nat.lt_succ_self _) e1 (fun s2 H2 r2 => ?_)
      refine pm_Fv.go 2 (f' := (85, 31, [(0, _), (1, _), (2, _), (3, _)], [_, _])) rfl ?_
      refine pm_Fv.gf rfl rfl H2.m192 H2.o192 rfl ?_
      refine pm_Fv.go 1 (f' := (85, 35, [(0, _), (1, _), (2, _), (3, _)], [_, _, _])) rfl ?_
      refine pm_Fv.gf rfl rfl H2.m192 H2.o192 rfl ?_
      refine pm_Fv.go 1 (f' := (85, 39, [(0, _), (1, _), (2, _), (3, _)], [_, _, _, _])) rfl ?_
      refine pm_Fv.imul rfl ?_
      rw [ek]
      refine pm_Fv.callF rfl rfl rfl rfl rfl (ev_copyOf L xs H2 (r := 194) (k := K) (by decide) rfl (show (ar 194).1 < K by omega) (by omega)) (fun s3 q3 => ?_)
      obtain ⟨H3, r3, e3⟩ := q3
      refine pm_Fv.pmv H3 194 rfl rfl rfl (by decide) rfl rfl rfl (Nat.le_of_ble_eq_true rfl) rfl (by decide) rfl (fun s hs => Nat.ne_of_lt (H2.lt hs)) (by rw [r3]; exact Nat.lt_succ_self _) e3 (fun s4 H4 r4 => ?_)
      refine pm_Fv.go 2 (f' := (85, 48, [(0, _), (1, _), (2, _), (3, _)], [_, _])) rfl ?_
      refine pm_Fv.gf rfl rfl H4.m192 H4.o192 rfl ?_
      refine pm_Fv.go 1 (f' := (85, 52, [(0, _), (1, _), (2, _), (3, _)], [_, _, _])) rfl ?_
      refine pm_Fv.gf rfl rfl H4.m192 H4.o192 rfl ?_
      refine pm_Fv.go 1 (f' := (85, 56, [(0, _), (1, _), (2, _), (3, _)], [_, _, _, _])) rfl ?_
      refine pm_Fv.imul rfl ?_
      rw [ek]
      refine pm_Fv.callF rfl rfl rfl rfl rfl (ev_copyOf L xs H4 (r := 195) (k := K) (by decide) rfl (show (ar 195).1 < K by omega) (by omega)) (fun s5 q5 => ?_)
      obtain ⟨H5, r5, e5⟩ := q5
      refine pm_Fv.pmv H5 195 rfl rfl rfl (by decide) rfl rfl rfl (Nat.le_of_ble_eq_true rfl) rfl (by decide) rfl (fun s hs => Nat.ne_of_lt (H4.lt hs)) (by rw [r5]; exact Nat.lt_succ_self _) e5 (fun s6 H6 r6 => ?_)
      have H6' : Hp s6 (hq_u (hq_u (hq_u ad 193 σ.2.1) 194 s2.2.1) 195 s4.2.1) z (hq_u (hq_u (hq_u ar 193 (K, hq_cpf (ar 193).1 (ar 193).2 0)) 194 (K, hq_cpf (ar 194).1 (ar 194).2 0)) 195 (K, hq_cpf (ar 195).1 (ar 195).2 0)) lr := H6
      refine (ev_faddT L xs H6' ha hb_ hc s0 (show z 9 < (K : Int) by omega) rfl rfl (show 16 ≤ K by omega) (show K ≤ 1600 by omega)).mono (fun o s q => ⟨q.1, ?_⟩)
      obtain ⟨ar', H', K', L'⟩ := q.2.1
      refine ⟨_, ar', H', ⟨fun r h1 h2 h3 => ?_, fun i i0 i1 => ?_, K'.2.2⟩, ?_⟩
      · rw [K'.1 r h1 h2 h3, hq_u_ne h3, hq_u_ne h2, hq_u_ne h1]
      · have k := K'.2.1 i i0 i1
        rw [k.1, k.2.1, k.2.2]
        by_cases e : i = z 9
        · rw [if_pos e, if_pos e, if_pos e, if_pos e, if_pos e, if_pos e]
          exact ⟨rfl, rfl, rfl⟩
        · rw [if_neg e, if_neg e, if_neg e, if_neg e, if_neg e, if_neg e]
          refine ⟨?_, ?_, ?_⟩
          · show (if i.toNat < (ar 193).1 then (ar 193).2 i.toNat else 0).toInt = _
            rw [if_pos (by omega)]
            rfl
          · show (if i.toNat < (ar 194).1 then (ar 194).2 i.toNat else 0).toInt = _
            rw [if_pos (by omega)]
            rfl
          · show (if i.toNat < (ar 195).1 then (ar 195).2 i.toNat else 0).toInt = _
            rw [if_pos (by omega)]
            rfl
      · have po1 := hq_po_u (ar := ar) (lr := lr) (r := 193) (A := (K, hq_cpf (ar 193).1 (ar 193).2 0)) (by decide)
        have po2 := hq_po_u (ar := (hq_u ar 193 (K, hq_cpf (ar 193).1 (ar 193).2 0))) (lr := lr) (r := 194) (A := (K, hq_cpf (ar 194).1 (ar 194).2 0)) (by decide)
        have po3 := hq_po_u (ar := (hq_u (hq_u ar 193 (K, hq_cpf (ar 193).1 (ar 193).2 0)) 194 (K, hq_cpf (ar 194).1 (ar 194).2 0))) (lr := lr) (r := 195) (A := (K, hq_cpf (ar 195).1 (ar 195).2 0)) (by decide)
        have x2 : ((hq_u ar 193 (K, hq_cpf (ar 193).1 (ar 193).2 0)) 194).1 = (ar 194).1 := rfl
        have x3 : ((hq_u (hq_u ar 193 (K, hq_cpf (ar 193).1 (ar 193).2 0)) 194 (K, hq_cpf (ar 194).1 (ar 194).2 0)) 195).1 = (ar 195).1 := rfl
        have e5 : hq_po ar' lr = hq_po (hq_u (hq_u (hq_u ar 193 (K, hq_cpf (ar 193).1 (ar 193).2 0)) 194 (K, hq_cpf (ar 194).1 (ar 194).2 0)) 195 (K, hq_cpf (ar 195).1 (ar 195).2 0)) lr := by
          unfold hq_po
          rw [hq_pt_cg L']
        have e6 : s.2 = (σ.2.1 + 1 + 1 + 1, σ.2.2 + K + K + K) := by rw [q.2.2, r6, r5, r4, r3, r2, r1]
        dsimp only at po1 po2 po3
        unfold hq_rm
        rw [e5, e6]
        show σ.2.2 + K + K + K + _ ≤ _ ∧ 4 * (σ.2.1 + 1 + 1 + 1) + _ ≤ _
        omega
  · skip
    refine pm_Fv.go 1 (f' := (85, 1, [(0, _), (1, _), (2, _), (3, _)], [_])) rfl ?_
    refine pm_Fv.gf rfl rfl H.m192 H.o192 rfl ?_
    refine pm_Fv.go 1 (f' := (85, 5, [(0, _), (1, _), (2, _), (3, _)], [_, _])) rfl ?_
    refine pm_Fv.gf rfl rfl H.m192 H.o192 rfl ?_
    refine pm_Fv.dal H (r := 193) rfl (by decide) rfl ?_
    refine pm_Fv.jne rfl (by omega) rfl (fun h1 => ?_) (fun h1 => ?_)
    · refine (ev_faddT L xs H ha hb_ hc s0 (by omega) l4 l5 h4 hb).mono (fun o s q => ⟨q.1, ?_⟩)
      obtain ⟨ar', H', K', L'⟩ := q.2.1
      exact ⟨ad, ar', H', K', hq_rm_len q.2.2 L' rfl⟩
    · exact absurd h1 (by omega)
def hw_es (z : Nat → Int) : Nat → Int := if z 3 < 60 then hq_u (hq_u z 6 0) 3 (z 3 + 1) else hq_u (hq_u z 6 0) 2 ((z 2 + 1) % 61)
def hw_ee (z : Nat → Int) : Nat → Int := if z 7 = 0 then z else if z 5 = 0 then hw_es (hq_u (hq_u z 7 0) 6 (z 6 + 1)) else hq_u (hq_u z 7 0) 6 (z 6 + 1)
theorem ev_endStep (H : Hp σ ad z ar lr) (k2 : 0 ≤ z 2 ∧ z 2 < 61) (k3 : 0 ≤ z 3 ∧ z 3 ≤ 60) : pm_Fv (tq_P L xs) (pm_enter 51 [.ref 1]) σ (fun o s => o = .inl none ∧ Hp s ad (hw_es z) ar lr ∧ s.2 = σ.2) := by
  show pm_Fv (tq_P L xs) (51, 0, [(0, .ref 1)], []) σ _
  unfold hw_es
  by_cases c : z 3 < 60
  · rw [if_pos c]
    refine pm_Fv.go 2 (f' := (51, 2, [(0, _)], [_, _])) rfl ?_
    refine pm_Fv.pz H 6 rfl rfl rfl (by decide) rfl rfl (Nat.le_of_ble_eq_true rfl) rfl (by decide) rfl (fun s1 H1 r1 => ?_)
    refine pm_Fv.go 1 (f' := (51, 6, [(0, _)], [_])) rfl ?_
    refine pm_Fv.gf rfl rfl H1.m1 H1.o1 rfl ?_
    rw [show hq_u z 6 0 3 = z 3 from rfl]
    refine pm_Fv.bp rfl rfl ?_
    refine pm_Fv.jge rfl (by omega) rfl (fun h1 => ?_) (fun h1 => ?_)
    · exact absurd h1 (by omega)
    · refine pm_Fv.go 2 (f' := (51, 16, [(0, _)], [_, _])) rfl ?_
      refine pm_Fv.gf rfl rfl H1.m1 H1.o1 rfl ?_
      refine pm_Fv.go 1 (f' := (51, 20, [(0, _)], [_, _, _])) rfl ?_
      refine pm_Fv.iadd rfl ?_
      refine pm_Fv.pz H1 3 rfl rfl rfl (by decide) rfl rfl (Nat.le_of_ble_eq_true rfl) rfl (by decide) rfl (fun s2 H2 r2 => ?_)
      refine pm_Fv.go 1 (f' := (51, 40, [(0, _)], [])) rfl ?_
      exact pm_Fv.ret rfl rfl rfl rfl ⟨rfl, H2, (r2.trans r1)⟩
  · rw [if_neg c]
    refine pm_Fv.go 2 (f' := (51, 2, [(0, _)], [_, _])) rfl ?_
    refine pm_Fv.pz H 6 rfl rfl rfl (by decide) rfl rfl (Nat.le_of_ble_eq_true rfl) rfl (by decide) rfl (fun s1 H1 r1 => ?_)
    refine pm_Fv.go 1 (f' := (51, 6, [(0, _)], [_])) rfl ?_
    refine pm_Fv.gf rfl rfl H1.m1 H1.o1 rfl ?_
    rw [show hq_u z 6 0 3 = z 3 from rfl]
    refine pm_Fv.bp rfl rfl ?_
    refine pm_Fv.jge rfl (by omega) rfl (fun h1 => ?_) (fun h1 => ?_)
    · refine pm_Fv.go 2 (f' := (51, 29, [(0, _)], [_, _])) rfl ?_
      refine pm_Fv.gf rfl rfl H1.m1 H1.o1 rfl ?_
      rw [show hq_u z 6 0 2 = z 2 from rfl]
      refine pm_Fv.go 1 (f' := (51, 33, [(0, _)], [_, _, _])) rfl ?_
      refine pm_Fv.iadd rfl ?_
      refine pm_Fv.bp rfl rfl ?_
      refine pm_Fv.irem rfl (by omega) ?_
      refine pm_Fv.pz H1 2 rfl rfl rfl (by decide) rfl rfl (Nat.le_of_ble_eq_true rfl) rfl (by decide) rfl (fun s2 H2 r2 => ?_)
      exact pm_Fv.ret rfl rfl rfl rfl ⟨rfl, H2, (r2.trans r1)⟩
    · exact absurd h1 (by omega)
theorem ev_endEdit (H : Hp σ ad z ar lr) (k2 : 0 ≤ z 2 ∧ z 2 < 61) (k3 : 0 ≤ z 3 ∧ z 3 ≤ 60) (h5 : z 5 = 0 ∨ z 5 = 1) (h7 : z 7 = 0 ∨ z 7 = 1) : pm_Fv (tq_P L xs) (pm_enter 50 [.ref 1]) σ (fun o s => o = .inl none ∧ Hp s ad (hw_ee z) ar lr ∧ s.2 = σ.2) := by
  show pm_Fv (tq_P L xs) (50, 0, [(0, .ref 1)], []) σ _
  unfold hw_ee
  by_cases c : z 7 = 0
  · rw [if_pos c]
    refine pm_Fv.go 1 (f' := (50, 1, [(0, _)], [_])) rfl ?_
    refine pm_Fv.gf rfl rfl H.m1 H.o1 rfl ?_
    refine pm_Fv.zeq rfl (by omega) rfl (fun h1 => ?_) (fun h1 => ?_)
    · exact pm_Fv.ret rfl rfl rfl rfl ⟨rfl, H, rfl⟩
    · exact absurd h1 (by omega)
  · rw [if_neg c]
    by_cases d : z 5 = 0
    · rw [if_pos d]
      refine pm_Fv.go 1 (f' := (50, 1, [(0, _)], [_])) rfl ?_
      refine pm_Fv.gf rfl rfl H.m1 H.o1 rfl ?_
      refine pm_Fv.zeq rfl (by omega) rfl (fun h1 => ?_) (fun h1 => ?_)
      · exact absurd h1 (by omega)
      · refine pm_Fv.go 2 (f' := (50, 9, [(0, _)], [_, _])) rfl ?_
        refine pm_Fv.pz H 7 rfl rfl rfl (by decide) rfl rfl (Nat.le_of_ble_eq_true rfl) rfl (by decide) rfl (fun s1 H1 r1 => ?_)
        refine pm_Fv.go 2 (f' := (50, 14, [(0, _)], [_, _])) rfl ?_
        refine pm_Fv.gf rfl rfl H1.m1 H1.o1 rfl ?_
        rw [show hq_u z 7 0 6 = z 6 from rfl]
        refine pm_Fv.go 1 (f' := (50, 18, [(0, _)], [_, _, _])) rfl ?_
        refine pm_Fv.iadd rfl ?_
        refine pm_Fv.pz H1 6 rfl rfl rfl (by decide) rfl rfl (Nat.le_of_ble_eq_true rfl) rfl (by decide) rfl (fun s2 H2 r2 => ?_)
        refine pm_Fv.go 1 (f' := (50, 23, [(0, _)], [_])) rfl ?_
        refine pm_Fv.gf rfl rfl H2.m1 H2.o1 rfl ?_
        rw [show hq_u (hq_u z 7 0) 6 (z 6 + 1) 5 = z 5 from rfl]
        refine pm_Fv.zne rfl (by omega) rfl (fun h2 => ?_) (fun h2 => ?_)
        · exact absurd h2 (by omega)
        · refine pm_Fv.go 1 (f' := (50, 30, [(0, _)], [_])) rfl ?_
          refine pm_Fv.cvF rfl rfl rfl rfl (by decide) (Nat.le_of_ble_eq_true rfl) (Nat.le_of_ble_eq_true rfl) H2.m1 H2.o1 (ev_endStep L xs H2 k2 k3) (fun s3 q3 => ?_)
          obtain ⟨H3, r3⟩ := q3
          exact pm_Fv.ret rfl rfl rfl rfl ⟨rfl, H3, (r3.trans (r2.trans r1))⟩
    · rw [if_neg d]
      refine pm_Fv.go 1 (f' := (50, 1, [(0, _)], [_])) rfl ?_
      refine pm_Fv.gf rfl rfl H.m1 H.o1 rfl ?_
      refine pm_Fv.zeq rfl (by omega) rfl (fun h1 => ?_) (fun h1 => ?_)
      · exact absurd h1 (by omega)
      · refine pm_Fv.go 2 (f' := (50, 9, [(0, _)], [_, _])) rfl ?_
        refine pm_Fv.pz H 7 rfl rfl rfl (by decide) rfl rfl (Nat.le_of_ble_eq_true rfl) rfl (by decide) rfl (fun s1 H1 r1 => ?_)
        refine pm_Fv.go 2 (f' := (50, 14, [(0, _)], [_, _])) rfl ?_
        refine pm_Fv.gf rfl rfl H1.m1 H1.o1 rfl ?_
        rw [show hq_u z 7 0 6 = z 6 from rfl]
        refine pm_Fv.go 1 (f' := (50, 18, [(0, _)], [_, _, _])) rfl ?_
        refine pm_Fv.iadd rfl ?_
        refine pm_Fv.pz H1 6 rfl rfl rfl (by decide) rfl rfl (Nat.le_of_ble_eq_true rfl) rfl (by decide) rfl (fun s2 H2 r2 => ?_)
        refine pm_Fv.go 1 (f' := (50, 23, [(0, _)], [_])) rfl ?_
        refine pm_Fv.gf rfl rfl H2.m1 H2.o1 rfl ?_
        rw [show hq_u (hq_u z 7 0) 6 (z 6 + 1) 5 = z 5 from rfl]
        refine pm_Fv.zne rfl (by omega) rfl (fun h2 => ?_) (fun h2 => ?_)
        · exact pm_Fv.ret rfl rfl rfl rfl ⟨rfl, H2, (r2.trans r1)⟩
        · exact absurd h2 (by omega)
theorem ev_openG (H : Hp σ ad z ar lr) : pm_Fv (tq_P L xs) (pm_enter 52 [.ref 1]) σ (fun o s => o = .inl none ∧ Hp s ad (hq_u z 5 1) ar lr ∧ s.2 = σ.2) := by
  show pm_Fv (tq_P L xs) (52, 0, [(0, .ref 1)], []) σ _
  refine pm_Fv.go 2 (f' := (52, 2, [(0, _)], [_, _])) rfl ?_
  refine pm_Fv.pz H 5 rfl rfl rfl (by decide) rfl rfl (Nat.le_of_ble_eq_true rfl) rfl (by decide) rfl (fun s1 H1 r1 => ?_)
  exact pm_Fv.ret rfl rfl rfl rfl ⟨rfl, H1, r1⟩
theorem ev_closeG (H : Hp σ ad z ar lr) (k2 : 0 ≤ z 2 ∧ z 2 < 61) (k3 : 0 ≤ z 3 ∧ z 3 ≤ 60) (h6 : 0 ≤ z 6 ∧ z 6 ≤ 90000) : pm_Fv (tq_P L xs) (pm_enter 53 [.ref 1]) σ (fun o s => o = .inl none ∧ Hp s ad (if z 6 = 0 then hq_u z 5 0 else hw_es (hq_u z 5 0)) ar lr ∧ s.2 = σ.2) := by
  show pm_Fv (tq_P L xs) (53, 0, [(0, .ref 1)], []) σ _
  by_cases c : z 6 = 0
  · rw [if_pos c]
    refine pm_Fv.go 2 (f' := (53, 2, [(0, _)], [_, _])) rfl ?_
    refine pm_Fv.pz H 5 rfl rfl rfl (by decide) rfl rfl (Nat.le_of_ble_eq_true rfl) rfl (by decide) rfl (fun s1 H1 r1 => ?_)
    refine pm_Fv.go 1 (f' := (53, 6, [(0, _)], [_])) rfl ?_
    refine pm_Fv.gf rfl rfl H1.m1 H1.o1 rfl ?_
    rw [show hq_u z 5 0 6 = z 6 from rfl]
    refine pm_Fv.zle rfl (by omega) rfl (fun h1 => ?_) (fun h1 => ?_)
    · exact pm_Fv.ret rfl rfl rfl rfl ⟨rfl, H1, r1⟩
    · exact absurd h1 (by omega)
  · rw [if_neg c]
    refine pm_Fv.go 2 (f' := (53, 2, [(0, _)], [_, _])) rfl ?_
    refine pm_Fv.pz H 5 rfl rfl rfl (by decide) rfl rfl (Nat.le_of_ble_eq_true rfl) rfl (by decide) rfl (fun s1 H1 r1 => ?_)
    refine pm_Fv.go 1 (f' := (53, 6, [(0, _)], [_])) rfl ?_
    refine pm_Fv.gf rfl rfl H1.m1 H1.o1 rfl ?_
    rw [show hq_u z 5 0 6 = z 6 from rfl]
    refine pm_Fv.zle rfl (by omega) rfl (fun h1 => ?_) (fun h1 => ?_)
    · exact absurd h1 (by omega)
    · refine pm_Fv.go 1 (f' := (53, 13, [(0, _)], [_])) rfl ?_
      refine pm_Fv.cvF rfl rfl rfl rfl (by decide) (Nat.le_of_ble_eq_true rfl) (Nat.le_of_ble_eq_true rfl) H1.m1 H1.o1 (ev_endStep L xs H1 k2 k3) (fun s2 q2 => ?_)
      obtain ⟨H2, r2⟩ := q2
      exact pm_Fv.ret rfl rfl rfl rfl ⟨rfl, H2, (r2.trans r1)⟩
/-- an exchange of the first k of a list with the cells -/
def ex_k (k : Int) (C vv cc : Int → Int) (C1 v1 : Int → Int) : Prop := (∀ i, 0 ≤ i → i < k → C1 (cc i) = vv i ∧ v1 i = C (cc i)) ∧ (∀ i, k ≤ i → v1 i = vv i) ∧ (∀ c, 0 ≤ c → (∀ i, 0 ≤ i → i < k → cc i ≠ c) → C1 c = C c)
theorem ev_exchL {j : Nat} (hj : j < 61) {C vv cc : Int → Int} {B : Int} (hB : 0 ≤ B) (s0 : 0 ≤ z (105 + 3 * j)) (inj : ∀ i k, 0 ≤ i → i < z (105 + 3 * j) → 0 ≤ k → k < z (105 + 3 * j) → cc i = cc k → i = k) (rg_ : ∀ i, 0 ≤ i → i < z (105 + 3 * j) → 0 ≤ cc i ∧ cc i < B) : ∀ (k : Nat) (i : Int) (ar1 : Nat → Nat × (Nat → Int32)) (σ : pm_S), i + k = z (105 + 3 * j) → 0 ≤ i → Hp σ ad z ar1 lr → (∀ r, r ≠ 190 → r ≠ (5 + 3 * j + 2) → ar1 r = ar r) → (∀ r, (ar1 r).1 = (ar r).1) → B ≤ ((ar 190).1 : Int) → (ar 190).1 ≤ 13602 → z (105 + 3 * j) ≤ ((ar (5 + 3 * j + 1)).1 : Int) → (ar (5 + 3 * j + 1)).1 = (ar (5 + 3 * j + 2)).1 → (ar (5 + 3 * j + 1)).1 ≤ 13602 → (∀ x, 0 ≤ x → x < z (105 + 3 * j) → hq_g ar1 (5 + 3 * j + 1) x = cc x) → ex_k i C vv cc (hq_g ar1 190) (hq_g ar1 (5 + 3 * j + 2)) → pm_Fv (tq_P L xs) (94, 2, [(2, .int (zI i)), (0, .ref (5 + 3 * j)), (1, .ref (ad 190))], []) σ (fun o s => o = .inl none ∧ (∃ ar', Hp s ad z ar' lr ∧ (∀ r, r ≠ 190 → r ≠ (5 + 3 * j + 2) → ar' r = ar r) ∧ (∀ r, (ar' r).1 = (ar r).1) ∧ ex_k (z (105 + 3 * j)) C vv cc (hq_g ar' 190) (hq_g ar' (5 + 3 * j + 2))) ∧ s.2 = σ.2) := by
  intro k
  have zz : 100 + (5 + 3 * j) = 105 + 3 * j := by omega
  induction k with
  | zero =>
    intro i ar1 σ ik i0 H ho hl b1 b2 l1 l2 l3 hc X
    have e : i = z (105 + 3 * j) := by omega
    rw [e] at X
    refine pm_Fv.go 2 (f' := (94, 4, [(2, _), (0, _), (1, _)], [_, _])) rfl ?_
    refine pm_Fv.gf rfl rfl (H.ms hj) (H.os hj) rfl ?_
    rw [zz]
    refine pm_Fv.jge rfl (by omega) rfl (fun h1 => ?_) (fun h1 => ?_)
    · exact pm_Fv.ret rfl rfl rfl rfl ⟨rfl, ⟨ar1, H, ho, hl, X⟩, rfl⟩
    · exact absurd h1 (by omega)
  | succ k ih =>
    intro i ar1 σ ik i0 H ho hl b1 b2 l1 l2 l3 hc X
    have m0 := hl 190
    have m1 := hl (5 + 3 * j + 1)
    have m2 := hl (5 + 3 * j + 2)
    have ci := hc i i0 (by omega)
    have ri := rg_ i i0 (by omega)
    have cr := hq_g_r ar1 190 (cc i)
    have vr := hq_g_r ar1 (5 + 3 * j + 2) i
    refine pm_Fv.go 2 (f' := (94, 4, [(2, _), (0, _), (1, _)], [_, _])) rfl ?_
    refine pm_Fv.gf rfl rfl (H.ms hj) (H.os hj) rfl ?_
    rw [zz]
    refine pm_Fv.jge rfl (by omega) rfl (fun h1 => ?_) (fun h1 => ?_)
    · exact absurd h1 (by omega)
    · refine pm_Fv.go 1 (f' := (94, 11, [(2, _), (0, _), (1, _)], [_])) rfl ?_
      refine pm_Fv.gf rfl rfl (H.ms hj) (H.os hj) rfl ?_
      refine pm_Fv.go 1 (f' := (94, 15, [(2, _), (0, _), (1, _)], [_, _])) rfl ?_
      refine pm_Fv.dia H (r := (5 + 3 * j + 1)) rfl (by omega) (hq_isA_t (by omega)) (by omega) ?_
      rw [ci]
      refine pm_Fv.go 3 (f' := (94, 19, [(3, _), (2, _), (0, _), (1, _)], [_, _])) rfl ?_
      refine pm_Fv.dia H (r := 190) rfl (by decide) rfl (by omega) ?_
      refine pm_Fv.go 4 (f' := (94, 25, [(4, _), (3, _), (2, _), (0, _), (1, _)], [_, _, _])) rfl ?_
      refine pm_Fv.gf rfl rfl (H.ms hj) (H.os hj) rfl ?_
      refine pm_Fv.go 1 (f' := (94, 29, [(4, _), (3, _), (2, _), (0, _), (1, _)], [_, _, _, _])) rfl ?_
      refine pm_Fv.dia H (r := (5 + 3 * j + 2)) rfl (by omega) (hq_isA_t (by omega)) (by omega) ?_
      refine pm_Fv.dis H (r := 190) rfl (by decide) rfl (by omega) (fun s1 H1 r1 => ?_)
      refine pm_Fv.go 1 (f' := (94, 32, [(4, _), (3, _), (2, _), (0, _), (1, _)], [_])) rfl ?_
      refine pm_Fv.gf rfl rfl (H1.ms hj) (H1.os hj) rfl ?_
      refine pm_Fv.go 2 (f' := (94, 38, [(4, _), (3, _), (2, _), (0, _), (1, _)], [_, _, _])) rfl ?_
      refine pm_Fv.dis H1 (r := (5 + 3 * j + 2)) rfl (by omega) (hq_isA_t (by omega)) (by rw [hq_w_len]; omega) (fun s2 H2 r2 => ?_)
      refine pm_Fv.inc rfl rfl (Nat.le_of_ble_eq_true rfl) ?_
      refine pm_Fv.go 1 (f' := (94, 2, [(2, _), (4, _), (3, _), (0, _), (1, _)], [])) rfl ?_
      have g1 : ∀ c, 0 ≤ c → hq_g (hq_w (hq_w ar1 190 (cc i) (hq_g ar1 (5 + 3 * j + 2) i)) (5 + 3 * j + 2) i (hq_g ar1 190 (cc i))) 190 c = if c = cc i then hq_g ar1 (5 + 3 * j + 2) i else hq_g ar1 190 c := fun c c0 => by
        rw [hq_g_ne (hq_w_ne (by omega)), hq_w_g ri.1 c0 vr]
      have g2 : ∀ c, 0 ≤ c → hq_g (hq_w (hq_w ar1 190 (cc i) (hq_g ar1 (5 + 3 * j + 2) i)) (5 + 3 * j + 2) i (hq_g ar1 190 (cc i))) (5 + 3 * j + 2) c = if c = i then hq_g ar1 190 (cc i) else hq_g ar1 (5 + 3 * j + 2) c := fun c c0 => by
        rw [hq_w_g i0 c0 cr, hq_g_ne (hq_w_ne (by omega))]
      refine pm_Fv.weak ((ih (i + 1) _ s2 (by omega) (by omega) H2 (fun r h1 h2 => by rw [hq_w_ne h2, hq_w_ne h1, ho r h1 h2]) (fun r => by rw [hq_w_len, hq_w_len, hl r]) b1 b2 l1 l2 l3 (fun x x0 x1 => ?_) ⟨fun x x0 x1 => ?_, fun x x0 => ?_, fun c c0 hx => ?_⟩).mono (fun o s q => ⟨q.1, q.2.1, q.2.2.trans (r2.trans r1)⟩)) rfl
      · rw [hq_g_ne (hq_w_ne (by omega)), hq_g_ne (hq_w_ne (by omega))]
        exact hc x x0 x1
      · have rx := rg_ x x0 (by omega)
        rw [g1 _ rx.1, g2 x x0]
        by_cases y : x = i
        · rw [y, if_pos rfl, if_pos rfl, X.2.1 i (Int.le_refl i)]
          refine ⟨rfl, X.2.2 (cc i) ri.1 (fun q q0 q1 e => ?_)⟩
          have := inj q i q0 (by omega) i0 (by omega) e
          omega
        · rw [if_neg y, if_neg (fun e => y (inj x i x0 (by omega) i0 (by omega) e))]
          exact X.1 x x0 (by omega)
      · rw [g2 x (by omega), if_neg (by omega)]
        exact X.2.1 x (by omega)
      · rw [g1 c c0, if_neg (fun e => hx i i0 (by omega) e.symm)]
        exact X.2.2 c c0 (fun q q0 q1 => hx q q0 (by omega))
theorem ev_exch {j : Nat} (hj : j < 61) (H : Hp σ ad z ar lr) {B : Int} (hB : 0 ≤ B) (s0 : 0 ≤ z (105 + 3 * j)) (inj : ∀ i k, 0 ≤ i → i < z (105 + 3 * j) → 0 ≤ k → k < z (105 + 3 * j) → hq_g ar (5 + 3 * j + 1) i = hq_g ar (5 + 3 * j + 1) k → i = k) (rg_ : ∀ i, 0 ≤ i → i < z (105 + 3 * j) → 0 ≤ hq_g ar (5 + 3 * j + 1) i ∧ hq_g ar (5 + 3 * j + 1) i < B) (b1 : B ≤ ((ar 190).1 : Int)) (b2 : (ar 190).1 ≤ 13602) (l1 : z (105 + 3 * j) ≤ ((ar (5 + 3 * j + 1)).1 : Int)) (l2 : (ar (5 + 3 * j + 1)).1 = (ar (5 + 3 * j + 2)).1) (l3 : (ar (5 + 3 * j + 1)).1 ≤ 13602) : pm_Fv (tq_P L xs) (pm_enter 94 [.ref (5 + 3 * j), .ref (ad 190)]) σ (fun o s => o = .inl none ∧ (∃ ar', Hp s ad z ar' lr ∧ (∀ r, r ≠ 190 → r ≠ (5 + 3 * j + 2) → ar' r = ar r) ∧ (∀ r, (ar' r).1 = (ar r).1) ∧ ex_k (z (105 + 3 * j)) (hq_g ar 190) (hq_g ar (5 + 3 * j + 2)) (hq_g ar (5 + 3 * j + 1)) (hq_g ar' 190) (hq_g ar' (5 + 3 * j + 2))) ∧ s.2 = σ.2) := by
  show pm_Fv (tq_P L xs) (94, 0, [(0, .ref (5 + 3 * j)), (1, .ref (ad 190))], []) σ _
  refine pm_Fv.go 2 (f' := (94, 2, [(2, _), (0, _), (1, _)], [])) rfl ?_
  exact ev_exchL (ar := ar) L xs hj hB s0 inj rg_ (z (105 + 3 * j)).toNat 0 ar σ (by omega) (by omega) H (fun _ _ _ => rfl) (fun _ => rfl) b1 b2 l1 l2 l3 (fun _ _ _ => rfl) ⟨fun x x0 x1 => absurd x1 (by omega), fun _ _ => rfl, fun _ _ _ => rfl⟩
end MS
