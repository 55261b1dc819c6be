/-! the reference: match -/
def hq_sf (ar : Nat → Nat × (Nat → Int32)) (r : Nat) (f : Int → Int) : Nat → Nat × (Nat → Int32) := hq_u ar r ((ar r).1, fun j => zI (f (j : Int)))
theorem hq_sf_g {ar : Nat → Nat × (Nat → Int32)} {r : Nat} {f : Int → Int} {j : Int} (j0 : 0 ≤ j) (h : -2147483648 ≤ f j ∧ f j ≤ 2147483647) : hq_g (hq_sf ar r f) r j = f j := by
  unfold hq_g hq_sf
  rw [hq_u_at]
  show (zI (f ((j.toNat : Nat) : Int))).toInt = f j
  rw [show ((j.toNat : Nat) : Int) = j by omega]
  exact zI_ti h.1 h.2
theorem hq_sf_w (ar : Nat → Nat × (Nat → Int32)) (r : Nat) (f : Int → Int) {j v : Int} (j0 : 0 ≤ j) : hq_w (hq_sf ar r f) r j v = hq_sf ar r (iu f j v) := by
  unfold hq_w hq_sf
  rw [hq_u_u, hq_u_at]
  refine congrArg (hq_u ar r) (Prod.ext rfl (funext fun i => ?_))
  show (if i = j.toNat then zI v else zI (f (i : Int))) = zI (if (i : Int) = j then v else f (i : Int))
  by_cases c : i = j.toNat
  · rw [if_pos c, if_pos (by omega)]
  · rw [if_neg c, if_neg (by omega)]
theorem hq_sf_self (ar : Nat → Nat × (Nat → Int32)) (r : Nat) : hq_sf ar r (hq_g ar r) = ar := by
  funext s
  unfold hq_sf hq_u
  by_cases c : s = r
  · rw [if_pos c, c]
    refine Prod.ext rfl (funext fun j => ?_)
    show zI ((ar r).2 ((j : Int)).toNat).toInt = (ar r).2 j
    rw [zI_x, show ((j : Int)).toNat = j by omega]
  · rw [if_neg c]
theorem hq_w_comm (ar : Nat → Nat × (Nat → Int32)) {r t : Nat} (f : Int → Int) (j v : Int) (h : t ≠ r) : hq_w (hq_sf ar r f) t j v = hq_sf (hq_w ar t j v) r f := by
  unfold hq_w hq_sf
  rw [hq_u_ne h, hq_u_comm ar (fun q => h q.symm)]
  congr 1
  rw [hq_u_ne (fun q => h q.symm)]
def mo_f3 (ar : Nat → Nat × (Nat → Int32)) (E Y T : Int → Int) : Nat → Nat × (Nat → Int32) := hq_sf (hq_sf (hq_sf ar 204 E) 205 Y) 206 T
theorem mo_f3_self (ar : Nat → Nat × (Nat → Int32)) : mo_f3 ar (hq_g ar 204) (hq_g ar 205) (hq_g ar 206) = ar := by
  unfold mo_f3
  rw [hq_sf_self ar 204, hq_sf_self ar 205, hq_sf_self ar 206]
theorem mo_f3_4 (ar : Nat → Nat × (Nat → Int32)) (E Y T : Int → Int) {j v : Int} (j0 : 0 ≤ j) : hq_w (mo_f3 ar E Y T) 204 j v = mo_f3 ar (iu E j v) Y T := by
  unfold mo_f3
  rw [hq_w_comm _ _ _ _ (by decide), hq_w_comm _ _ _ _ (by decide), hq_sf_w _ _ _ j0]
theorem mo_f3_5 (ar : Nat → Nat × (Nat → Int32)) (E Y T : Int → Int) {j v : Int} (j0 : 0 ≤ j) : hq_w (mo_f3 ar E Y T) 205 j v = mo_f3 ar E (iu Y j v) T := by
  unfold mo_f3
  rw [hq_w_comm _ _ _ _ (by decide), hq_sf_w _ _ _ j0]
theorem mo_f3_6 (ar : Nat → Nat × (Nat → Int32)) (E Y T : Int → Int) {j v : Int} (j0 : 0 ≤ j) : hq_w (mo_f3 ar E Y T) 206 j v = mo_f3 ar E Y (iu T j v) := by
  unfold mo_f3
  rw [hq_sf_w _ _ _ j0]
section MS
variable (L : Nat) (xs : Nat → Int32)
variable {σ : pm_S} {ad : Nat → Nat} {z : Nat → Int} {ar : Nat → Nat × (Nat → Int32)} {lr : Nat → Nat × (Nat → Int64)}
def mo_mq (ar : Nat → Nat × (Nat → Int32)) (I D : Int → Int) (a b c d : Int) (k : Int) : Int := if zand (fo_tgs (fun p => mo_g ar (I p) 6) D k) a = a ∧ zand (fo_tgs (fun p => mo_g ar (I p) 6) D k) b = 0 ∧ zand (zshr c (mo_g ar (I k) 4)) 1 ≠ 0 ∧ d ≤ mo_g ar (I k) 5 then 1 else 0
set_option maxRecDepth 8000 in
theorem ev_mmatchL (h : mo_H z ar) {n : Int} {I D : Int → Int} (M : mo_R (mo_g ar) (z 23) n I D) {a b c d : Int} (ha : -2147483648 ≤ a ∧ a ≤ 2147483647) (hd : -2147483648 ≤ d ∧ d ≤ 2147483647) {E0 Y0 T0 : Int → Int} : ∀ (j k : Nat) (σ : pm_S), (k : Int) + j = n → Hp σ ad (hq_u (hq_u z 27 n) 28 (fd_c (mo_mq ar I D a b c d) k)) (mo_f3 (mo_or ar I n) (fd_a (mo_mq ar I D a b c d) I E0 k) (fd_a (mo_mq ar I D a b c d) (fun _ => -1) Y0 k) (fd_a (mo_mq ar I D a b c d) (fun _ => -1) T0 k)) lr → pm_Fv (tq_P L xs) (150, 17, [(5, .int (zI k)), (0, .ref 199), (1, .int (zI a)), (2, .int (zI b)), (3, .int (zI c)), (4, .int (zI d))], []) σ (fun o s => o = .inl (some (.int (zI (fd_c (mo_mq ar I D a b c d) n)))) ∧ Hp s ad (hq_u (hq_u z 27 n) 28 (fd_c (mo_mq ar I D a b c d) n)) (mo_f3 (mo_or ar I n) (fd_a (mo_mq ar I D a b c d) I E0 n.toNat) (fd_a (mo_mq ar I D a b c d) (fun _ => -1) Y0 n.toNat) (fd_a (mo_mq ar I D a b c d) (fun _ => -1) T0 n.toNat)) lr ∧ s.2 = σ.2) := by
  intro j
  have nm := M.nm
  have m4 := M.m4
  induction j with
  | zero =>
    intro k σ kj H
    have e : (k : Int) = n := by omega
    have e2 : k = n.toNat := by omega
    rw [e] at H ⊢
    rw [e2] at H
    refine pm_Fv.go 2 (f' := (150, 20, [(5, _), (0, _), (1, _), (2, _), (3, _), (4, _)], [_, _])) rfl ?_
    refine pm_Fv.gf rfl rfl H.m199 H.o199 rfl ?_
    rw [hq_u_ne (by decide), hq_u_at]
    refine pm_Fv.jge rfl (by omega) rfl (fun h1 => ?_) (fun h1 => ?_)
    · refine pm_Fv.go 1 (f' := (150, 135, [(5, _), (0, _), (1, _), (2, _), (3, _), (4, _)], [_])) rfl ?_
      refine pm_Fv.gf rfl rfl H.m199 H.o199 rfl ?_
      rw [hq_u_at]
      exact pm_Fv.rv rfl rfl ⟨rfl, H, rfl⟩
    · exact absurd h1 (by omega)
  | succ j ih =>
    intro k σ kj H
    have i0 := M.J.1 k (by omega) (by omega)
    have i1 := M.lt k (by omega) (by omega)
    have cr := fd_c_r (mo_mq ar I D a b c d) (k := (k : Int)) (by omega)
    have og : hq_g (mo_f3 (mo_or ar I n) (fd_a (mo_mq ar I D a b c d) I E0 k) (fd_a (mo_mq ar I D a b c d) (fun _ => -1) Y0 k) (fd_a (mo_mq ar I D a b c d) (fun _ => -1) T0 k)) 203 k = I k := mo_or_g ar I (x := k) (k := n) (by omega) (by omega) (by omega)
    have tg : pm_Ev (tq_P L xs) (pm_enter 149 [.ref 199, .int (zI (I k))]) σ (.inl (some (.int (zI (fo_tgs (fun p => mo_g ar (I p) 6) D k)))), σ) := by
      have y := ev_allTags L xs H (show (ar 200).1 = 5600 from h.l0) M (x := k) (by omega) (by omega)
      rw [fo_id_at (by omega)] at y
      exact y
    have g4 : pm_Ev (tq_P L xs) (pm_enter 98 [.ref 199, .int (zI (I k)), .int (zI 4)]) σ (.inl (some (.int (zI (mo_g ar (I k) 4)))), σ) := ev_g L xs H (show (ar 200).1 = 5600 from h.l0) (by omega)
    have g5 : pm_Ev (tq_P L xs) (pm_enter 98 [.ref 199, .int (zI (I k)), .int (zI 5)]) σ (.inl (some (.int (zI (mo_g ar (I k) 5)))), σ) := ev_g L xs H (show (ar 200).1 = 5600 from h.l0) (by omega)
    have gr := mo_g_r ar (I k) 5
    have a1 := zand_r (fo_tgs (fun p => mo_g ar (I p) 6) D k) a
    have a2 := zand_r (fo_tgs (fun p => mo_g ar (I p) 6) D k) b
    have a3 := zand_r (zshr c (mo_g ar (I k) 4)) 1
    have kc : ((k + 1 : Nat) : Int) = (k : Int) + 1 := by omega
    have nx : ∀ s, mo_mq ar I D a b c d k = 0 → Hp s ad (hq_u (hq_u z 27 n) 28 (fd_c (mo_mq ar I D a b c d) k)) (mo_f3 (mo_or ar I n) (fd_a (mo_mq ar I D a b c d) I E0 k) (fd_a (mo_mq ar I D a b c d) (fun _ => -1) Y0 k) (fd_a (mo_mq ar I D a b c d) (fun _ => -1) T0 k)) lr → Hp s ad (hq_u (hq_u z 27 n) 28 (fd_c (mo_mq ar I D a b c d) ((k + 1 : Nat) : Int))) (mo_f3 (mo_or ar I n) (fd_a (mo_mq ar I D a b c d) I E0 (k + 1)) (fd_a (mo_mq ar I D a b c d) (fun _ => -1) Y0 (k + 1)) (fd_a (mo_mq ar I D a b c d) (fun _ => -1) T0 (k + 1))) lr := by
      intro s q0 Hs
      have qn : ¬ mo_mq ar I D a b c d k = 1 := by omega
      rw [kc, fd_c_s _ (by omega), if_neg qn, Int.add_zero, fd_a, if_neg qn, fd_a, if_neg qn, fd_a, if_neg qn]
      exact Hs
    by_cases c0 : zand (fo_tgs (fun p => mo_g ar (I p) 6) D k) a = a
    · skip
      by_cases c1 : zand (fo_tgs (fun p => mo_g ar (I p) 6) D k) b = 0
      · skip
        by_cases c2 : zand (zshr c (mo_g ar (I k) 4)) 1 ≠ 0
        · skip
          by_cases c3 : d ≤ mo_g ar (I k) 5
          · skip
            have q1 : mo_mq ar I D a b c d k = 1 := if_pos ⟨c0, c1, c2, c3⟩
            have fr : ∀ s, Hp s ad (hq_u (hq_u (hq_u z 27 n) 28 (fd_c (mo_mq ar I D a b c d) k)) 28 (fd_c (mo_mq ar I D a b c d) k + 1)) (hq_w (hq_w (hq_w (mo_f3 (mo_or ar I n) (fd_a (mo_mq ar I D a b c d) I E0 k) (fd_a (mo_mq ar I D a b c d) (fun _ => -1) Y0 k) (fd_a (mo_mq ar I D a b c d) (fun _ => -1) T0 k)) 204 (fd_c (mo_mq ar I D a b c d) k) (I k)) 205 (fd_c (mo_mq ar I D a b c d) k) (-1)) 206 (fd_c (mo_mq ar I D a b c d) k) (-1)) lr → Hp s ad (hq_u (hq_u z 27 n) 28 (fd_c (mo_mq ar I D a b c d) ((k + 1 : Nat) : Int))) (mo_f3 (mo_or ar I n) (fd_a (mo_mq ar I D a b c d) I E0 (k + 1)) (fd_a (mo_mq ar I D a b c d) (fun _ => -1) Y0 (k + 1)) (fd_a (mo_mq ar I D a b c d) (fun _ => -1) T0 (k + 1))) lr := by
              intro s Hs
              rw [hq_u_u, mo_f3_4 _ _ _ _ cr.1, mo_f3_5 _ _ _ _ cr.1, mo_f3_6 _ _ _ _ cr.1] at Hs
              rw [kc, fd_c_s _ (by omega), if_pos q1, fd_a, if_pos q1, fd_a, if_pos q1, fd_a, if_pos q1]
              exact Hs
            refine pm_Fv.go 2 (f' := (150, 20, [(5, _), (0, _), (1, _), (2, _), (3, _), (4, _)], [_, _])) rfl ?_
            refine pm_Fv.gf rfl rfl H.m199 H.o199 rfl ?_
            rw [hq_u_ne (by decide), hq_u_at]
            refine pm_Fv.jge rfl (by omega) rfl (fun h1 => ?_) (fun h1 => ?_)
            · exact absurd h1 (by omega)
            · refine pm_Fv.go 1 (f' := (150, 27, [(5, _), (0, _), (1, _), (2, _), (3, _), (4, _)], [_])) rfl ?_
              refine pm_Fv.gf rfl rfl H.m199 H.o199 rfl ?_
              refine pm_Fv.go 1 (f' := (150, 32, [(5, _), (0, _), (1, _), (2, _), (3, _), (4, _)], [_, _])) rfl ?_
              refine pm_Fv.fia H rfl (by decide) rfl rfl (by show 0 ≤ (k : Int) ∧ (k : Int) < (ar 203).1 ∧ (ar 203).1 ≤ 2147483647; rw [h.l3]; omega) ?_
              rw [og]
              refine pm_Fv.go 3 (f' := (150, 38, [(6, _), (5, _), (0, _), (1, _), (2, _), (3, _), (4, _)], [_, _])) rfl ?_
              refine pm_Fv.cv rfl rfl rfl rfl (by decide) (Nat.le_of_ble_eq_true rfl) (Nat.le_of_ble_eq_true rfl) H.m199 H.o199 (tg) ?_
              refine pm_Fv.go 3 (f' := (150, 46, [(7, _), (6, _), (5, _), (0, _), (1, _), (2, _), (3, _), (4, _)], [_, _])) rfl ?_
              refine pm_Fv.iandx rfl ?_
              refine pm_Fv.go 1 (f' := (150, 48, [(7, _), (6, _), (5, _), (0, _), (1, _), (2, _), (3, _), (4, _)], [_, _])) rfl ?_
              refine pm_Fv.jne rfl (by omega) rfl (fun h2 => ?_) (fun h2 => ?_)
              · exact absurd h2 (by omega)
              · refine pm_Fv.go 2 (f' := (150, 54, [(7, _), (6, _), (5, _), (0, _), (1, _), (2, _), (3, _), (4, _)], [_, _])) rfl ?_
                refine pm_Fv.iandx rfl ?_
                refine pm_Fv.zne rfl (by omega) rfl (fun h3 => ?_) (fun h3 => ?_)
                · exact absurd h3 (by omega)
                · refine pm_Fv.go 4 (f' := (150, 63, [(7, _), (6, _), (5, _), (0, _), (1, _), (2, _), (3, _), (4, _)], [_, _, _, _])) rfl ?_
                  refine pm_Fv.cv rfl rfl rfl rfl (by decide) (Nat.le_of_ble_eq_true rfl) (Nat.le_of_ble_eq_true rfl) H.m199 H.o199 (g4) ?_
                  refine pm_Fv.ishr rfl ?_
                  refine pm_Fv.go 1 (f' := (150, 68, [(7, _), (6, _), (5, _), (0, _), (1, _), (2, _), (3, _), (4, _)], [_, _])) rfl ?_
                  refine pm_Fv.iandx rfl ?_
                  refine pm_Fv.zeq rfl (by omega) rfl (fun h4 => ?_) (fun h4 => ?_)
                  · exact absurd h4 (by omega)
                  · refine pm_Fv.go 3 (f' := (150, 76, [(7, _), (6, _), (5, _), (0, _), (1, _), (2, _), (3, _), (4, _)], [_, _, _])) rfl ?_
                    refine pm_Fv.cv rfl rfl rfl rfl (by decide) (Nat.le_of_ble_eq_true rfl) (Nat.le_of_ble_eq_true rfl) H.m199 H.o199 (g5) ?_
                    refine pm_Fv.go 1 (f' := (150, 81, [(7, _), (6, _), (5, _), (0, _), (1, _), (2, _), (3, _), (4, _)], [_, _])) rfl ?_
                    refine pm_Fv.jge rfl (by omega) rfl (fun h5 => ?_) (fun h5 => ?_)
                    · refine pm_Fv.go 1 (f' := (150, 88, [(7, _), (6, _), (5, _), (0, _), (1, _), (2, _), (3, _), (4, _)], [_])) rfl ?_
                      refine pm_Fv.gf rfl rfl H.m199 H.o199 rfl ?_
                      refine pm_Fv.go 1 (f' := (150, 92, [(7, _), (6, _), (5, _), (0, _), (1, _), (2, _), (3, _), (4, _)], [_, _])) rfl ?_
                      refine pm_Fv.gf rfl rfl H.m199 H.o199 rfl ?_
                      rw [hq_u_at]
                      refine pm_Fv.go 1 (f' := (150, 97, [(7, _), (6, _), (5, _), (0, _), (1, _), (2, _), (3, _), (4, _)], [_, _, _])) rfl ?_
                      refine pm_Fv.fis H rfl (by decide) rfl rfl (by show 0 ≤ fd_c (mo_mq ar I D a b c d) k ∧ fd_c (mo_mq ar I D a b c d) k < (ar 204).1 ∧ (ar 204).1 ≤ 2147483647; rw [h.l4]; omega) (fun s1 H1 r1 => ?_)
                      refine pm_Fv.go 1 (f' := (150, 99, [(7, _), (6, _), (5, _), (0, _), (1, _), (2, _), (3, _), (4, _)], [_])) rfl ?_
                      refine pm_Fv.gf rfl rfl H1.m199 H1.o199 rfl ?_
                      refine pm_Fv.go 1 (f' := (150, 103, [(7, _), (6, _), (5, _), (0, _), (1, _), (2, _), (3, _), (4, _)], [_, _])) rfl ?_
                      refine pm_Fv.gf rfl rfl H1.m199 H1.o199 rfl ?_
                      rw [hq_u_at]
                      refine pm_Fv.go 1 (f' := (150, 107, [(7, _), (6, _), (5, _), (0, _), (1, _), (2, _), (3, _), (4, _)], [_, _, _])) rfl ?_
                      refine pm_Fv.fis H1 rfl (by decide) rfl rfl (by show 0 ≤ fd_c (mo_mq ar I D a b c d) k ∧ fd_c (mo_mq ar I D a b c d) k < (ar 205).1 ∧ (ar 205).1 ≤ 2147483647; rw [h.l5]; omega) (fun s2 H2 r2 => ?_)
                      refine pm_Fv.go 1 (f' := (150, 109, [(7, _), (6, _), (5, _), (0, _), (1, _), (2, _), (3, _), (4, _)], [_])) rfl ?_
                      refine pm_Fv.gf rfl rfl H2.m199 H2.o199 rfl ?_
                      refine pm_Fv.go 1 (f' := (150, 113, [(7, _), (6, _), (5, _), (0, _), (1, _), (2, _), (3, _), (4, _)], [_, _])) rfl ?_
                      refine pm_Fv.gf rfl rfl H2.m199 H2.o199 rfl ?_
                      rw [hq_u_at]
                      refine pm_Fv.go 1 (f' := (150, 117, [(7, _), (6, _), (5, _), (0, _), (1, _), (2, _), (3, _), (4, _)], [_, _, _])) rfl ?_
                      refine pm_Fv.fis H2 rfl (by decide) rfl rfl (by show 0 ≤ fd_c (mo_mq ar I D a b c d) k ∧ fd_c (mo_mq ar I D a b c d) k < (ar 206).1 ∧ (ar 206).1 ≤ 2147483647; rw [h.l6]; omega) (fun s3 H3 r3 => ?_)
                      refine pm_Fv.go 2 (f' := (150, 120, [(7, _), (6, _), (5, _), (0, _), (1, _), (2, _), (3, _), (4, _)], [_, _])) rfl ?_
                      refine pm_Fv.gf rfl rfl H3.m199 H3.o199 rfl ?_
                      rw [hq_u_at]
                      refine pm_Fv.go 1 (f' := (150, 124, [(7, _), (6, _), (5, _), (0, _), (1, _), (2, _), (3, _), (4, _)], [_, _, _])) rfl ?_
                      refine pm_Fv.iadd rfl ?_
                      refine pm_Fv.pz H3 28 rfl rfl rfl (by decide) rfl rfl (Nat.le_of_ble_eq_true rfl) rfl (by decide) rfl (fun s4 H4 r4 => ?_)
                      refine pm_Fv.inc rfl rfl (Nat.le_of_ble_eq_true rfl) ?_
                      refine pm_Fv.go 1 (f' := (150, 17, [(5, _), (7, _), (6, _), (0, _), (1, _), (2, _), (3, _), (4, _)], [])) rfl ?_
                      exact pm_Fv.weak ((ih (k + 1) s4 (by omega) (fr s4 H4)).mono (fun o s q => ⟨q.1, q.2.1, q.2.2.trans (r4.trans (r3.trans (r2.trans r1)))⟩)) rfl
                    · exact absurd h5 (by omega)
          · have q0 : mo_mq ar I D a b c d k = 0 := if_neg (fun q => c3 q.2.2.2)
            refine pm_Fv.go 2 (f' := (150, 20, [(5, _), (0, _), (1, _), (2, _), (3, _), (4, _)], [_, _])) rfl ?_
            refine pm_Fv.gf rfl rfl H.m199 H.o199 rfl ?_
            rw [hq_u_ne (by decide), hq_u_at]
            refine pm_Fv.jge rfl (by omega) rfl (fun h1 => ?_) (fun h1 => ?_)
            · exact absurd h1 (by omega)
            · refine pm_Fv.go 1 (f' := (150, 27, [(5, _), (0, _), (1, _), (2, _), (3, _), (4, _)], [_])) rfl ?_
              refine pm_Fv.gf rfl rfl H.m199 H.o199 rfl ?_
              refine pm_Fv.go 1 (f' := (150, 32, [(5, _), (0, _), (1, _), (2, _), (3, _), (4, _)], [_, _])) rfl ?_
              refine pm_Fv.fia H rfl (by decide) rfl rfl (by show 0 ≤ (k : Int) ∧ (k : Int) < (ar 203).1 ∧ (ar 203).1 ≤ 2147483647; rw [h.l3]; omega) ?_
              rw [og]
              refine pm_Fv.go 3 (f' := (150, 38, [(6, _), (5, _), (0, _), (1, _), (2, _), (3, _), (4, _)], [_, _])) rfl ?_
              refine pm_Fv.cv rfl rfl rfl rfl (by decide) (Nat.le_of_ble_eq_true rfl) (Nat.le_of_ble_eq_true rfl) H.m199 H.o199 (tg) ?_
              refine pm_Fv.go 3 (f' := (150, 46, [(7, _), (6, _), (5, _), (0, _), (1, _), (2, _), (3, _), (4, _)], [_, _])) rfl ?_
              refine pm_Fv.iandx rfl ?_
              refine pm_Fv.go 1 (f' := (150, 48, [(7, _), (6, _), (5, _), (0, _), (1, _), (2, _), (3, _), (4, _)], [_, _])) rfl ?_
              refine pm_Fv.jne rfl (by omega) rfl (fun h2 => ?_) (fun h2 => ?_)
              · exact absurd h2 (by omega)
              · refine pm_Fv.go 2 (f' := (150, 54, [(7, _), (6, _), (5, _), (0, _), (1, _), (2, _), (3, _), (4, _)], [_, _])) rfl ?_
                refine pm_Fv.iandx rfl ?_
                refine pm_Fv.zne rfl (by omega) rfl (fun h3 => ?_) (fun h3 => ?_)
                · exact absurd h3 (by omega)
                · refine pm_Fv.go 4 (f' := (150, 63, [(7, _), (6, _), (5, _), (0, _), (1, _), (2, _), (3, _), (4, _)], [_, _, _, _])) rfl ?_
                  refine pm_Fv.cv rfl rfl rfl rfl (by decide) (Nat.le_of_ble_eq_true rfl) (Nat.le_of_ble_eq_true rfl) H.m199 H.o199 (g4) ?_
                  refine pm_Fv.ishr rfl ?_
                  refine pm_Fv.go 1 (f' := (150, 68, [(7, _), (6, _), (5, _), (0, _), (1, _), (2, _), (3, _), (4, _)], [_, _])) rfl ?_
                  refine pm_Fv.iandx rfl ?_
                  refine pm_Fv.zeq rfl (by omega) rfl (fun h4 => ?_) (fun h4 => ?_)
                  · exact absurd h4 (by omega)
                  · refine pm_Fv.go 3 (f' := (150, 76, [(7, _), (6, _), (5, _), (0, _), (1, _), (2, _), (3, _), (4, _)], [_, _, _])) rfl ?_
                    refine pm_Fv.cv rfl rfl rfl rfl (by decide) (Nat.le_of_ble_eq_true rfl) (Nat.le_of_ble_eq_true rfl) H.m199 H.o199 (g5) ?_
                    refine pm_Fv.go 1 (f' := (150, 81, [(7, _), (6, _), (5, _), (0, _), (1, _), (2, _), (3, _), (4, _)], [_, _])) rfl ?_
                    refine pm_Fv.jge rfl (by omega) rfl (fun h5 => ?_) (fun h5 => ?_)
                    · exact absurd h5 (by omega)
                    · refine pm_Fv.go 1 (f' := (150, 128, [(7, _), (6, _), (5, _), (0, _), (1, _), (2, _), (3, _), (4, _)], [])) rfl ?_
                      refine pm_Fv.inc rfl rfl (Nat.le_of_ble_eq_true rfl) ?_
                      refine pm_Fv.go 1 (f' := (150, 17, [(5, _), (7, _), (6, _), (0, _), (1, _), (2, _), (3, _), (4, _)], [])) rfl ?_
                      exact pm_Fv.weak (ih (k + 1) σ (by omega) (nx σ q0 H)) rfl
        · have q0 : mo_mq ar I D a b c d k = 0 := if_neg (fun q => c2 q.2.2.1)
          have c2z : zand (zshr c (mo_g ar (I k) 4)) 1 = 0 := Classical.not_not.mp c2
          refine pm_Fv.go 2 (f' := (150, 20, [(5, _), (0, _), (1, _), (2, _), (3, _), (4, _)], [_, _])) rfl ?_
          refine pm_Fv.gf rfl rfl H.m199 H.o199 rfl ?_
          rw [hq_u_ne (by decide), hq_u_at]
          refine pm_Fv.jge rfl (by omega) rfl (fun h1 => ?_) (fun h1 => ?_)
          · exact absurd h1 (by omega)
          · refine pm_Fv.go 1 (f' := (150, 27, [(5, _), (0, _), (1, _), (2, _), (3, _), (4, _)], [_])) rfl ?_
            refine pm_Fv.gf rfl rfl H.m199 H.o199 rfl ?_
            refine pm_Fv.go 1 (f' := (150, 32, [(5, _), (0, _), (1, _), (2, _), (3, _), (4, _)], [_, _])) rfl ?_
            refine pm_Fv.fia H rfl (by decide) rfl rfl (by show 0 ≤ (k : Int) ∧ (k : Int) < (ar 203).1 ∧ (ar 203).1 ≤ 2147483647; rw [h.l3]; omega) ?_
            rw [og]
            refine pm_Fv.go 3 (f' := (150, 38, [(6, _), (5, _), (0, _), (1, _), (2, _), (3, _), (4, _)], [_, _])) rfl ?_
            refine pm_Fv.cv rfl rfl rfl rfl (by decide) (Nat.le_of_ble_eq_true rfl) (Nat.le_of_ble_eq_true rfl) H.m199 H.o199 (tg) ?_
            refine pm_Fv.go 3 (f' := (150, 46, [(7, _), (6, _), (5, _), (0, _), (1, _), (2, _), (3, _), (4, _)], [_, _])) rfl ?_
            refine pm_Fv.iandx rfl ?_
            refine pm_Fv.go 1 (f' := (150, 48, [(7, _), (6, _), (5, _), (0, _), (1, _), (2, _), (3, _), (4, _)], [_, _])) rfl ?_
            refine pm_Fv.jne rfl (by omega) rfl (fun h2 => ?_) (fun h2 => ?_)
            · exact absurd h2 (by omega)
            · refine pm_Fv.go 2 (f' := (150, 54, [(7, _), (6, _), (5, _), (0, _), (1, _), (2, _), (3, _), (4, _)], [_, _])) rfl ?_
              refine pm_Fv.iandx rfl ?_
              refine pm_Fv.zne rfl (by omega) rfl (fun h3 => ?_) (fun h3 => ?_)
              · exact absurd h3 (by omega)
              · refine pm_Fv.go 4 (f' := (150, 63, [(7, _), (6, _), (5, _), (0, _), (1, _), (2, _), (3, _), (4, _)], [_, _, _, _])) rfl ?_
                refine pm_Fv.cv rfl rfl rfl rfl (by decide) (Nat.le_of_ble_eq_true rfl) (Nat.le_of_ble_eq_true rfl) H.m199 H.o199 (g4) ?_
                refine pm_Fv.ishr rfl ?_
                refine pm_Fv.go 1 (f' := (150, 68, [(7, _), (6, _), (5, _), (0, _), (1, _), (2, _), (3, _), (4, _)], [_, _])) rfl ?_
                refine pm_Fv.iandx rfl ?_
                refine pm_Fv.zeq rfl (by omega) rfl (fun h4 => ?_) (fun h4 => ?_)
                · refine pm_Fv.inc rfl rfl (Nat.le_of_ble_eq_true rfl) ?_
                  refine pm_Fv.go 1 (f' := (150, 17, [(5, _), (7, _), (6, _), (0, _), (1, _), (2, _), (3, _), (4, _)], [])) rfl ?_
                  exact pm_Fv.weak (ih (k + 1) σ (by omega) (nx σ q0 H)) rfl
                · exact absurd h4 (by omega)
      · have q0 : mo_mq ar I D a b c d k = 0 := if_neg (fun q => c1 q.2.1)
        refine pm_Fv.go 2 (f' := (150, 20, [(5, _), (0, _), (1, _), (2, _), (3, _), (4, _)], [_, _])) rfl ?_
        refine pm_Fv.gf rfl rfl H.m199 H.o199 rfl ?_
        rw [hq_u_ne (by decide), hq_u_at]
        refine pm_Fv.jge rfl (by omega) rfl (fun h1 => ?_) (fun h1 => ?_)
        · exact absurd h1 (by omega)
        · refine pm_Fv.go 1 (f' := (150, 27, [(5, _), (0, _), (1, _), (2, _), (3, _), (4, _)], [_])) rfl ?_
          refine pm_Fv.gf rfl rfl H.m199 H.o199 rfl ?_
          refine pm_Fv.go 1 (f' := (150, 32, [(5, _), (0, _), (1, _), (2, _), (3, _), (4, _)], [_, _])) rfl ?_
          refine pm_Fv.fia H rfl (by decide) rfl rfl (by show 0 ≤ (k : Int) ∧ (k : Int) < (ar 203).1 ∧ (ar 203).1 ≤ 2147483647; rw [h.l3]; omega) ?_
          rw [og]
          refine pm_Fv.go 3 (f' := (150, 38, [(6, _), (5, _), (0, _), (1, _), (2, _), (3, _), (4, _)], [_, _])) rfl ?_
          refine pm_Fv.cv rfl rfl rfl rfl (by decide) (Nat.le_of_ble_eq_true rfl) (Nat.le_of_ble_eq_true rfl) H.m199 H.o199 (tg) ?_
          refine pm_Fv.go 3 (f' := (150, 46, [(7, _), (6, _), (5, _), (0, _), (1, _), (2, _), (3, _), (4, _)], [_, _])) rfl ?_
          refine pm_Fv.iandx rfl ?_
          refine pm_Fv.go 1 (f' := (150, 48, [(7, _), (6, _), (5, _), (0, _), (1, _), (2, _), (3, _), (4, _)], [_, _])) rfl ?_
          refine pm_Fv.jne rfl (by omega) rfl (fun h2 => ?_) (fun h2 => ?_)
          · exact absurd h2 (by omega)
          · refine pm_Fv.go 2 (f' := (150, 54, [(7, _), (6, _), (5, _), (0, _), (1, _), (2, _), (3, _), (4, _)], [_, _])) rfl ?_
            refine pm_Fv.iandx rfl ?_
            refine pm_Fv.zne rfl (by omega) rfl (fun h3 => ?_) (fun h3 => ?_)
            · refine pm_Fv.inc rfl rfl (Nat.le_of_ble_eq_true rfl) ?_
              refine pm_Fv.go 1 (f' := (150, 17, [(5, _), (7, _), (6, _), (0, _), (1, _), (2, _), (3, _), (4, _)], [])) rfl ?_
              exact pm_Fv.weak (ih (k + 1) σ (by omega) (nx σ q0 H)) rfl
            · exact absurd h3 (by omega)
    · have q0 : mo_mq ar I D a b c d k = 0 := if_neg (fun q => c0 q.1)
      refine pm_Fv.go 2 (f' := (150, 20, [(5, _), (0, _), (1, _), (2, _), (3, _), (4, _)], [_, _])) rfl ?_
      refine pm_Fv.gf rfl rfl H.m199 H.o199 rfl ?_
      rw [hq_u_ne (by decide), hq_u_at]
      refine pm_Fv.jge rfl (by omega) rfl (fun h1 => ?_) (fun h1 => ?_)
      · exact absurd h1 (by omega)
      · refine pm_Fv.go 1 (f' := (150, 27, [(5, _), (0, _), (1, _), (2, _), (3, _), (4, _)], [_])) rfl ?_
        refine pm_Fv.gf rfl rfl H.m199 H.o199 rfl ?_
        refine pm_Fv.go 1 (f' := (150, 32, [(5, _), (0, _), (1, _), (2, _), (3, _), (4, _)], [_, _])) rfl ?_
        refine pm_Fv.fia H rfl (by decide) rfl rfl (by show 0 ≤ (k : Int) ∧ (k : Int) < (ar 203).1 ∧ (ar 203).1 ≤ 2147483647; rw [h.l3]; omega) ?_
        rw [og]
        refine pm_Fv.go 3 (f' := (150, 38, [(6, _), (5, _), (0, _), (1, _), (2, _), (3, _), (4, _)], [_, _])) rfl ?_
        refine pm_Fv.cv rfl rfl rfl rfl (by decide) (Nat.le_of_ble_eq_true rfl) (Nat.le_of_ble_eq_true rfl) H.m199 H.o199 (tg) ?_
        refine pm_Fv.go 3 (f' := (150, 46, [(7, _), (6, _), (5, _), (0, _), (1, _), (2, _), (3, _), (4, _)], [_, _])) rfl ?_
        refine pm_Fv.iandx rfl ?_
        refine pm_Fv.go 1 (f' := (150, 48, [(7, _), (6, _), (5, _), (0, _), (1, _), (2, _), (3, _), (4, _)], [_, _])) rfl ?_
        refine pm_Fv.jne rfl (by omega) rfl (fun h2 => ?_) (fun h2 => ?_)
        · refine pm_Fv.inc rfl rfl (Nat.le_of_ble_eq_true rfl) ?_
          refine pm_Fv.go 1 (f' := (150, 17, [(5, _), (7, _), (6, _), (0, _), (1, _), (2, _), (3, _), (4, _)], [])) rfl ?_
          exact pm_Fv.weak (ih (k + 1) σ (by omega) (nx σ q0 H)) rfl
        · exact absurd h2 (by omega)
theorem ev_mmatch (H : Hp σ ad z ar lr) (h : mo_H z ar) {n : Int} {I D : Int → Int} (M : mo_R (mo_g ar) (z 23) n I D) {a b c d : Int} (ha : -2147483648 ≤ a ∧ a ≤ 2147483647) (hd : -2147483648 ≤ d ∧ d ≤ 2147483647) : pm_Fv (tq_P L xs) (pm_enter 150 [.ref 199, .int (zI a), .int (zI b), .int (zI c), .int (zI d)]) σ (fun o s => o = .inl (some (.int (zI (fd_c (mo_mq ar I D a b c d) n)))) ∧ Hp s ad (hq_u (hq_u (hq_u z 29 0) 27 n) 28 (fd_c (mo_mq ar I D a b c d) n)) (mo_f3 (mo_or ar I n) (fd_a (mo_mq ar I D a b c d) I (hq_g ar 204) n.toNat) (fd_a (mo_mq ar I D a b c d) (fun _ => -1) (hq_g ar 205) n.toNat) (fd_a (mo_mq ar I D a b c d) (fun _ => -1) (hq_g ar 206) n.toNat)) lr ∧ s.2 = σ.2) := by
  have n0 := M.W.2.1
  show pm_Fv (tq_P L xs) (150, 0, [(0, .ref 199), (1, .int (zI a)), (2, .int (zI b)), (3, .int (zI c)), (4, .int (zI d))], []) σ _
  refine pm_Fv.go 2 (f' := (150, 2, [(0, _), (1, _), (2, _), (3, _), (4, _)], [_, _])) rfl ?_
  refine pm_Fv.pz H 29 rfl rfl rfl (by decide) rfl rfl (Nat.le_of_ble_eq_true rfl) rfl (by decide) rfl (fun s1 H1 r1 => ?_)
  refine pm_Fv.go 1 (f' := (150, 6, [(0, _), (1, _), (2, _), (3, _), (4, _)], [_])) rfl ?_
  refine pm_Fv.cvF rfl rfl rfl rfl (by decide) (Nat.le_of_ble_eq_true rfl) (Nat.le_of_ble_eq_true rfl) H1.m199 H1.o199 (ev_arrange L xs H1 h.l0 M h.l3) (fun s2 q2 => ?_)
  obtain ⟨H2, r2⟩ := q2
  refine pm_Fv.go 2 (f' := (150, 11, [(0, _), (1, _), (2, _), (3, _), (4, _)], [_, _])) rfl ?_
  refine pm_Fv.pz H2 28 rfl rfl rfl (by decide) rfl rfl (Nat.le_of_ble_eq_true rfl) rfl (by decide) rfl (fun s3 H3 r3 => ?_)
  refine pm_Fv.go 2 (f' := (150, 17, [(5, _), (0, _), (1, _), (2, _), (3, _), (4, _)], [])) rfl ?_
  have s0 : mo_f3 (mo_or ar I n) (hq_g ar 204) (hq_g ar 205) (hq_g ar 206) = mo_or ar I n := mo_f3_self (mo_or ar I n)
  refine (ev_mmatchL L xs (z := hq_u z 29 0) h M ha hd (E0 := hq_g ar 204) (Y0 := hq_g ar 205) (T0 := hq_g ar 206) n.toNat 0 s3 (by omega) ?_).mono (fun o s q => ⟨q.1, q.2.1, q.2.2.trans (r3.trans (r2.trans r1))⟩)
  rw [show ((0 : Nat) : Int) = 0 from rfl, fd_c_0, fd_a, fd_a, fd_a, s0]
  exact H3
end MS
