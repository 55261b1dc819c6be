/-! the desk: match -/
theorem zand_1 (a : Int) : zand a 1 = 0 ∨ zand a 1 = 1 := by
  unfold zand
  have h : zI 1 = 1 := rfl
  rw [h]
  have e : ∀ x : Int32, (x &&& 1).toInt = 0 ∨ (x &&& 1).toInt = 1 := by
    intro x
    have h2 : (x &&& 1) = 0 ∨ (x &&& 1) = 1 := by
      have m : (x.toBitVec &&& 1#32).toNat = x.toBitVec.toNat % 2 := by
        rw [BitVec.toNat_and]
        exact Nat.and_one_is_mod _
      rcases (show x.toBitVec.toNat % 2 = 0 ∨ x.toBitVec.toNat % 2 = 1 by omega) with k | k
      · left
        apply Int32.toBitVec_inj.1
        apply BitVec.eq_of_toNat_eq
        exact m.trans k
      · right
        apply Int32.toBitVec_inj.1
        apply BitVec.eq_of_toNat_eq
        exact m.trans k
    rcases h2 with h2 | h2 <;> rw [h2] <;> decide
  exact e _
def od_mq (C : Int → Int) (a b c d k : Int) : Int := if zand (fo_tgs (fun p => oV C (oI C p) 6) (oD C) k) a = a ∧ zand (fo_tgs (fun p => oV C (oI C p) 6) (oD C) k) b = 0 ∧ zand (zshr c (oV C (oI C k) 4)) 1 = 1 ∧ d ≤ oV C (oI C k) 5 then 1 else 0
section MS
variable (L : Nat) (xs : Nat → Int32)
variable {σ : pm_S} {ad : Nat → Nat} {z : Nat → Int} {ar : Nat → Nat × (Nat → Int32)} {lr : Nat → Nat × (Nat → Int64)}
set_option maxRecDepth 8000 in
theorem ev_dmatchL (hl : od_L z ar) (N : od_N (hq_g ar 190) (z 8)) {a b c d : Int} (ha : -2147483648 ≤ a ∧ a ≤ 2147483647) (hd : -2147483648 ≤ d ∧ d ≤ 2147483647) : ∀ (j k : Nat) (s : pm_S) (ad' : Nat → Nat) (ar' : Nat → Nat × (Nat → Int32)), (k : Int) + j = (hq_g ar 190 0) → Hp s ad' (hq_u z 9 (fd_c (od_mq (hq_g ar 190) a b c d) k)) ar' lr → (∀ r, r ≠ 193 → r ≠ 194 → r ≠ 195 → r ≠ 198 → ar' r = ar r) ∧ (ar' 198).1 = 13 ∧ hq_g ar' 198 0 = 0 ∧ (∀ i, 0 ≤ i → i < fd_c (od_mq (hq_g ar 190) a b c d) k → hq_g ar' 193 i = fd_a (od_mq (hq_g ar 190) a b c d) (oI (hq_g ar 190)) (fun _ => 0) k i ∧ hq_g ar' 194 i = -1 ∧ hq_g ar' 195 i = -1) ∧ (ar' 194).1 = (ar' 193).1 ∧ (ar' 195).1 = (ar' 193).1 ∧ 16 ≤ (ar' 193).1 ∧ (ar' 193).1 ≤ 1600 ∧ fd_c (od_mq (hq_g ar 190) a b c d) k ≤ ((ar' 193).1 : Int) ∧ hq_rm σ ar lr s ar' lr → (∀ x, 0 ≤ x → x < (k : Int) → (∀ q, x < q → q < (k : Int) → (oD (hq_g ar 190)) x < (oD (hq_g ar 190)) q) → hq_g ar' 198 ((oD (hq_g ar 190)) x) = fo_tgs (fun p => oV (hq_g ar 190) ((oI (hq_g ar 190)) p) 6) (oD (hq_g ar 190)) x) → pm_Fv (tq_P L xs) (24, 10, [(5, .int (zI (k : Int))), (0, .ref 0), (1, .int (zI a)), (2, .int (zI b)), (3, .int (zI c)), (4, .int (zI d))], []) s (fun o s => o = .inl (some (.int (zI (fd_c (od_mq (hq_g ar 190) a b c d) (hq_g ar 190 0))))) ∧ ∃ ad' ar', Hp s ad' (hq_u z 9 (fd_c (od_mq (hq_g ar 190) a b c d) (hq_g ar 190 0))) ar' lr ∧ (∀ r, r ≠ 193 → r ≠ 194 → r ≠ 195 → r ≠ 198 → ar' r = ar r) ∧ (ar' 198).1 = 13 ∧ hq_g ar' 198 0 = 0 ∧ (∀ i, 0 ≤ i → i < fd_c (od_mq (hq_g ar 190) a b c d) (hq_g ar 190 0) → hq_g ar' 193 i = fd_a (od_mq (hq_g ar 190) a b c d) (oI (hq_g ar 190)) (fun _ => 0) (hq_g ar 190 0).toNat i ∧ hq_g ar' 194 i = -1 ∧ hq_g ar' 195 i = -1) ∧ (ar' 194).1 = (ar' 193).1 ∧ (ar' 195).1 = (ar' 193).1 ∧ 16 ≤ (ar' 193).1 ∧ (ar' 193).1 ≤ 1600 ∧ fd_c (od_mq (hq_g ar 190) a b c d) (hq_g ar 190 0) ≤ ((ar' 193).1 : Int) ∧ hq_rm σ ar lr s ar' lr) := by
  intro j
  have nm := N.nm
  have m4 := N.m4
  have gq : ∀ ar' : Nat → Nat × (Nat → Int32), (∀ r, r ≠ 193 → r ≠ 194 → r ≠ 195 → r ≠ 198 → ar' r = ar r) → hq_g ar' 190 = hq_g ar 190 := fun ar' ho => funext fun x => hq_g_ne (ho 190 (by decide) (by decide) (by decide) (by decide)) x
  have hl' : ∀ (c : Int) (ar' : Nat → Nat × (Nat → Int32)), (∀ r, r ≠ 193 → r ≠ 194 → r ≠ 195 → r ≠ 198 → ar' r = ar r) → od_L (hq_u z 9 c) ar' := fun c ar' ho => by
    unfold od_L
    rw [ho 190 (by decide) (by decide) (by decide) (by decide)]
    exact hl
  have N' : ∀ (c : Int) (ar' : Nat → Nat × (Nat → Int32)), (∀ r, r ≠ 193 → r ≠ 194 → r ≠ 195 → r ≠ 198 → ar' r = ar r) → od_N (hq_g ar' 190) (hq_u z 9 c 8) := fun c ar' ho => by
    rw [gq ar' ho]
    exact N
  induction j with
  | zero =>
    intro k s ad' ar' kj H iv td
    have e : (k : Int) = (hq_g ar 190 0) := by omega
    have e2 : (hq_g ar 190 0).toNat = k := by omega
    have c0 : pm_Ev (tq_P L xs) (pm_enter 58 [.ref 188]) s (.inl (some (.int (zI (hq_g ar 190 0)))), s) := by
      have q := ev_count L xs H (hl' _ ar' iv.1) (N' _ ar' iv.1).m0
      rw [gq ar' iv.1] at q
      exact q
    refine pm_Fv.go 2 (f' := (24, 13, [(5, _), (0, _), (1, _), (2, _), (3, _), (4, _)], [_, _])) rfl ?_
    refine pm_Fv.gf rfl rfl H.m0 H.o0 rfl ?_
    refine pm_Fv.cv rfl rfl rfl rfl (by decide) (Nat.le_of_ble_eq_true rfl) (Nat.le_of_ble_eq_true rfl) H.m188 H.o188 (c0) ?_
    refine pm_Fv.jge rfl (by omega) rfl (fun h1 => ?_) (fun h1 => ?_)
    · refine pm_Fv.go 1 (f' := (24, 166, [(5, _), (0, _), (1, _), (2, _), (3, _), (4, _)], [_])) rfl ?_
      refine pm_Fv.gf rfl rfl H.m0 H.o0 rfl ?_
      refine pm_Fv.gf rfl rfl H.m192 H.o192 rfl ?_
      refine pm_Fv.rv rfl rfl ?_
      rw [← e]
      refine ⟨rfl, ad', ar', H, ?_⟩
      rw [show (k : Int).toNat = k by omega]
      exact iv
    · exact absurd h1 (by omega)
  | succ j ih =>
    intro k s ad' ar' kj H iv td
    obtain ⟨ho, t8, t0, hf, l4, l5, l6, l7, l8, rm⟩ := iv
    have kn : (k : Int) < (hq_g ar 190 0) := by omega
    have i0 := N.J.1 k (by omega) kn
    have i1 := N.lt k (by omega) kn
    have dk := N.dr (p := k) (by omega) (Or.inl kn)
    have d1 := (N.W.2.2 k (by omega) kn).1
    have P := fo_par_P N.W (p := k) (by omega) kn
    have pd := fo_P_d N.W (by omega) kn P
    have cr := fd_c_r (od_mq (hq_g ar 190) a b c d) (k := (k : Int)) (by omega)
    have cs := fd_c_s (od_mq (hq_g ar 190) a b c d) (k := (k : Int)) (by omega)
    have g0 := gq ar' ho
    have hlk := hl' (fd_c (od_mq (hq_g ar 190) a b c d) k) ar' ho
    have Nk := N' (fd_c (od_mq (hq_g ar 190) a b c d) k) ar' ho
    have c0 : pm_Ev (tq_P L xs) (pm_enter 58 [.ref 188]) s (.inl (some (.int (zI (hq_g ar 190 0)))), s) := by
      have q := ev_count L xs H hlk Nk.m0
      rw [g0] at q
      exact q
    have e0 : pm_Ev (tq_P L xs) (pm_enter 59 [.ref 188, .int (zI (k : Int))]) s (.inl (some (.int (zI ((oI (hq_g ar 190)) k)))), s) := by
      have q := ev_entryAt L xs H hlk Nk.m0 (p := k) (by omega)
      rw [g0] at q
      exact q
    have dd : pm_Ev (tq_P L xs) (pm_enter 62 [.ref 188, .int (zI (k : Int))]) s (.inl (some (.int (zI ((oD (hq_g ar 190)) k)))), s) := by
      have q := ev_depthAt L xs H hlk Nk (p := k) (by omega) (by rw [g0]; exact Or.inl kn)
      rw [g0] at q
      exact q
    have v6 : pm_Ev (tq_P L xs) (pm_enter 60 [.ref 188, .int (zI ((oI (hq_g ar 190)) k)), .int (zI 6)]) s (.inl (some (.int (zI (oV (hq_g ar 190) ((oI (hq_g ar 190)) k) 6)))), s) := by
      have q := ev_value L xs H hlk Nk.m0 (e := (oI (hq_g ar 190)) k) (f := 6) ⟨i0, i1, by decide, by decide⟩
      rw [g0] at q
      exact q
    have tp : hq_g ar' 198 ((oD (hq_g ar 190)) k - 1) = fo_tgs (fun p => oV (hq_g ar 190) ((oI (hq_g ar 190)) p) 6) (oD (hq_g ar 190)) (fo_par (oD (hq_g ar 190)) k) := by
      by_cases c : fo_par (oD (hq_g ar 190)) k = -1
      · rw [c, fo_tgs_neg (by omega)]
        rw [c, N.W.1] at pd
        rw [← pd]
        exact t0
      · rw [← pd]
        have p1 := P.1
        exact td (fo_par (oD (hq_g ar 190)) k) (by omega) P.2.1 (fun q q1 q2 => by
          have := P.2.2.2 q q1 q2
          have := P.2.2.1
          omega)
    have ts := fo_tgs_s (T := (fun p => oV (hq_g ar 190) ((oI (hq_g ar 190)) p) 6)) N.W (x := k) (by omega) kn
    have tr := fo_tgs_r (fun p => oV (hq_g ar 190) ((oI (hq_g ar 190)) p) 6) (oD (hq_g ar 190)) k
    refine pm_Fv.go 2 (f' := (24, 13, [(5, _), (0, _), (1, _), (2, _), (3, _), (4, _)], [_, _])) rfl ?_
    refine pm_Fv.gf rfl rfl H.m0 H.o0 rfl ?_
    refine pm_Fv.cv rfl rfl rfl rfl (by decide) (Nat.le_of_ble_eq_true rfl) (Nat.le_of_ble_eq_true rfl) H.m188 H.o188 (c0) ?_
    refine pm_Fv.jge rfl (by omega) rfl (fun h1 => ?_) (fun h1 => ?_)
    · exact absurd h1 (by omega)
    · refine pm_Fv.go 1 (f' := (24, 23, [(5, _), (0, _), (1, _), (2, _), (3, _), (4, _)], [_])) rfl ?_
      refine pm_Fv.gf rfl rfl H.m0 H.o0 rfl ?_
      refine pm_Fv.go 1 (f' := (24, 28, [(5, _), (0, _), (1, _), (2, _), (3, _), (4, _)], [_, _])) rfl ?_
      refine pm_Fv.cv rfl rfl rfl rfl (by decide) (Nat.le_of_ble_eq_true rfl) (Nat.le_of_ble_eq_true rfl) H.m188 H.o188 (e0) ?_
      refine pm_Fv.go 2 (f' := (24, 34, [(6, _), (5, _), (0, _), (1, _), (2, _), (3, _), (4, _)], [_])) rfl ?_
      refine pm_Fv.gf rfl rfl H.m0 H.o0 rfl ?_
      refine pm_Fv.go 1 (f' := (24, 39, [(6, _), (5, _), (0, _), (1, _), (2, _), (3, _), (4, _)], [_, _])) rfl ?_
      refine pm_Fv.cv rfl rfl rfl rfl (by decide) (Nat.le_of_ble_eq_true rfl) (Nat.le_of_ble_eq_true rfl) H.m188 H.o188 (dd) ?_
      refine pm_Fv.go 2 (f' := (24, 45, [(7, _), (6, _), (5, _), (0, _), (1, _), (2, _), (3, _), (4, _)], [_])) rfl ?_
      refine pm_Fv.gf rfl rfl H.m0 H.o0 rfl ?_
      refine pm_Fv.go 2 (f' := (24, 51, [(7, _), (6, _), (5, _), (0, _), (1, _), (2, _), (3, _), (4, _)], [_, _, _])) rfl ?_
      refine pm_Fv.isub rfl ?_
      refine pm_Fv.fia H rfl (by decide) rfl rfl (by omega) ?_
      refine pm_Fv.go 1 (f' := (24, 54, [(7, _), (6, _), (5, _), (0, _), (1, _), (2, _), (3, _), (4, _)], [_, _])) rfl ?_
      refine pm_Fv.gf rfl rfl H.m0 H.o0 rfl ?_
      refine pm_Fv.go 1 (f' := (24, 59, [(7, _), (6, _), (5, _), (0, _), (1, _), (2, _), (3, _), (4, _)], [_, _, _])) rfl ?_
      refine pm_Fv.bp rfl rfl ?_
      refine pm_Fv.cv rfl rfl rfl rfl (by decide) (Nat.le_of_ble_eq_true rfl) (Nat.le_of_ble_eq_true rfl) H.m188 H.o188 (v6) ?_
      refine pm_Fv.ior rfl ?_
      rw [tp, show zor (fo_tgs (fun p => oV (hq_g ar 190) ((oI (hq_g ar 190)) p) 6) (oD (hq_g ar 190)) (fo_par (oD (hq_g ar 190)) k)) (oV (hq_g ar 190) ((oI (hq_g ar 190)) k) 6) = (fo_tgs (fun p => oV (hq_g ar 190) ((oI (hq_g ar 190)) p) 6) (oD (hq_g ar 190)) k) from ts.symm]
      refine pm_Fv.go 2 (f' := (24, 68, [(8, _), (7, _), (6, _), (5, _), (0, _), (1, _), (2, _), (3, _), (4, _)], [_])) rfl ?_
      refine pm_Fv.gf rfl rfl H.m0 H.o0 rfl ?_
      refine pm_Fv.go 2 (f' := (24, 75, [(8, _), (7, _), (6, _), (5, _), (0, _), (1, _), (2, _), (3, _), (4, _)], [_, _, _])) rfl ?_
      refine pm_Fv.fis H rfl (by decide) rfl rfl (by omega) (fun s1 H1 r1 => ?_)
      have arw : ∀ r, r ≠ 198 → hq_w ar' 198 ((oD (hq_g ar 190)) k) (fo_tgs (fun p => oV (hq_g ar 190) ((oI (hq_g ar 190)) p) 6) (oD (hq_g ar 190)) k) r = ar' r := fun r hr => hq_w_ne hr
      have ho1 : ∀ r, r ≠ 193 → r ≠ 194 → r ≠ 195 → r ≠ 198 → hq_w ar' 198 ((oD (hq_g ar 190)) k) (fo_tgs (fun p => oV (hq_g ar 190) ((oI (hq_g ar 190)) p) 6) (oD (hq_g ar 190)) k) r = ar r := fun r a1 a2 a3 a4 => by rw [hq_w_ne a4]; exact ho r a1 a2 a3 a4
      have hlk1 := hl' (fd_c (od_mq (hq_g ar 190) a b c d) k) _ ho1
      have Nk1 := N' (fd_c (od_mq (hq_g ar 190) a b c d) k) _ ho1
      have g1 := gq _ ho1
      have vv : ∀ f, 0 ≤ f → f < 16 → pm_Ev (tq_P L xs) (pm_enter 60 [.ref 188, .int (zI ((oI (hq_g ar 190)) k)), .int (zI f)]) s1 (.inl (some (.int (zI (oV (hq_g ar 190) ((oI (hq_g ar 190)) k) f)))), s1) := by
        intro f f0 f1
        have q := ev_value L xs H1 hlk1 Nk1.m0 (e := (oI (hq_g ar 190)) k) (f := f) ⟨i0, i1, f0, f1⟩
        rw [g1] at q
        exact q
      have len1 : ∀ r, (hq_w ar' 198 ((oD (hq_g ar 190)) k) (fo_tgs (fun p => oV (hq_g ar 190) ((oI (hq_g ar 190)) p) 6) (oD (hq_g ar 190)) k) r).1 = (ar' r).1 := hq_w_len ar' 198 _ _
      have td1 : (∀ x, 0 ≤ x → x < (k : Int) + 1 → (∀ q, x < q → q < (k : Int) + 1 → (oD (hq_g ar 190)) x < (oD (hq_g ar 190)) q) → hq_g (hq_w ar' 198 ((oD (hq_g ar 190)) k) (fo_tgs (fun p => oV (hq_g ar 190) ((oI (hq_g ar 190)) p) 6) (oD (hq_g ar 190)) k)) 198 ((oD (hq_g ar 190)) x) = fo_tgs (fun p => oV (hq_g ar 190) ((oI (hq_g ar 190)) p) 6) (oD (hq_g ar 190)) x) := by
        intro x x0 x1 hx
        have dx := (N.W.2.2 x x0 (by omega)).1
        rw [hq_w_g (by omega) (by omega) tr]
        by_cases c : x = k
        · rw [c, if_pos rfl]
        · have := hx k (by omega) (by omega)
          rw [if_neg (by omega)]
          exact td x x0 (by omega) (fun q q1 q2 => hx q q1 (by omega))
      have t01 : hq_g (hq_w ar' 198 ((oD (hq_g ar 190)) k) (fo_tgs (fun p => oV (hq_g ar 190) ((oI (hq_g ar 190)) p) 6) (oD (hq_g ar 190)) k)) 198 0 = 0 := by
        rw [hq_w_g (by omega) (by omega) tr, if_neg (by omega)]
        exact t0
      have ff1 : ∀ r i, r ≠ 198 → hq_g (hq_w ar' 198 ((oD (hq_g ar 190)) k) (fo_tgs (fun p => oV (hq_g ar 190) ((oI (hq_g ar 190)) p) 6) (oD (hq_g ar 190)) k)) r i = hq_g ar' r i := fun r i hr => hq_g_ne (arw r hr) i
      have rm1 : hq_rm σ ar lr s1 (hq_w ar' 198 ((oD (hq_g ar 190)) k) (fo_tgs (fun p => oV (hq_g ar 190) ((oI (hq_g ar 190)) p) 6) (oD (hq_g ar 190)) k)) lr := hq_rm_tr rm (hq_rm_len r1 len1 rfl)
      have z01 := zand_1 (zshr c (oV (hq_g ar 190) ((oI (hq_g ar 190)) k) 4))
      have zr1 := zand_r (fo_tgs (fun p => oV (hq_g ar 190) ((oI (hq_g ar 190)) p) 6) (oD (hq_g ar 190)) k) a
      have zr2 := zand_r (fo_tgs (fun p => oV (hq_g ar 190) ((oI (hq_g ar 190)) p) 6) (oD (hq_g ar 190)) k) b
      have r5 : -2147483648 ≤ oV (hq_g ar 190) ((oI (hq_g ar 190)) k) 5 ∧ oV (hq_g ar 190) ((oI (hq_g ar 190)) k) 5 ≤ 2147483647 := hq_g_r _ _ _
      refine pm_Fv.go 2 (f' := (24, 79, [(8, _), (7, _), (6, _), (5, _), (0, _), (1, _), (2, _), (3, _), (4, _)], [_, _])) rfl ?_
      refine pm_Fv.iandx rfl ?_
      refine pm_Fv.go 1 (f' := (24, 81, [(8, _), (7, _), (6, _), (5, _), (0, _), (1, _), (2, _), (3, _), (4, _)], [_, _])) rfl ?_
      refine pm_Fv.jne rfl (by omega) rfl (fun h2 => ?_) (fun h2 => ?_)
      · refine pm_Fv.go 4 (f' := (24, 100, [(9, _), (8, _), (7, _), (6, _), (5, _), (0, _), (1, _), (2, _), (3, _), (4, _)], [_, _])) rfl ?_
        refine pm_Fv.gf rfl rfl H1.m0 H1.o0 rfl ?_
        refine pm_Fv.go 2 (f' := (24, 106, [(9, _), (8, _), (7, _), (6, _), (5, _), (0, _), (1, _), (2, _), (3, _), (4, _)], [_, _, _, _])) rfl ?_
        refine pm_Fv.cv rfl rfl rfl rfl (by decide) (Nat.le_of_ble_eq_true rfl) (Nat.le_of_ble_eq_true rfl) H1.m188 H1.o188 (vv 4 (by decide) (by decide)) ?_
        refine pm_Fv.ishr rfl ?_
        refine pm_Fv.go 1 (f' := (24, 111, [(9, _), (8, _), (7, _), (6, _), (5, _), (0, _), (1, _), (2, _), (3, _), (4, _)], [_, _])) rfl ?_
        refine pm_Fv.iandx rfl ?_
        refine pm_Fv.go 1 (f' := (24, 113, [(9, _), (8, _), (7, _), (6, _), (5, _), (0, _), (1, _), (2, _), (3, _), (4, _)], [_, _])) rfl ?_
        refine pm_Fv.jne rfl (by omega) rfl (fun h3 => ?_) (fun h3 => ?_)
        · refine pm_Fv.go 3 (f' := (24, 125, [(10, _), (9, _), (8, _), (7, _), (6, _), (5, _), (0, _), (1, _), (2, _), (3, _), (4, _)], [_])) rfl ?_
          refine pm_Fv.zeq rfl (by omega) rfl (fun h4 => ?_) (fun h4 => ?_)
          · refine pm_Fv.inc rfl rfl (Nat.le_of_ble_eq_true rfl) ?_
            refine pm_Fv.go 1 (f' := (24, 10, [(5, _), (10, _), (9, _), (8, _), (7, _), (6, _), (0, _), (1, _), (2, _), (3, _), (4, _)], [])) rfl ?_
            have qk : (od_mq (hq_g ar 190) a b c d) k ≠ 1 := by
              unfold od_mq
              rw [if_neg (by omega)]
              decide
            rw [if_neg qk, Int.add_zero] at cs
            refine pm_Fv.weak (ih (k + 1) s1 ad' (hq_w ar' 198 ((oD (hq_g ar 190)) k) (fo_tgs (fun p => oV (hq_g ar 190) ((oI (hq_g ar 190)) p) 6) (oD (hq_g ar 190)) k)) (by omega) (by rw [show ((k + 1 : Nat) : Int) = (k : Int) + 1 by omega, cs]; exact H1) ?_ (by rw [show ((k + 1 : Nat) : Int) = (k : Int) + 1 by omega]; exact td1)) rfl
            rw [show ((k + 1 : Nat) : Int) = (k : Int) + 1 by omega, cs]
            refine ⟨ho1, (len1 198).trans t8, t01, fun i i0 i1 => ?_, ?_, ?_, ?_, ?_, ?_, rm1⟩
            · rw [ff1 193 i (by decide), ff1 194 i (by decide), ff1 195 i (by decide), fd_a, if_neg qk]
              exact hf i i0 i1
            · rw [len1, len1]
              exact l4
            · rw [len1, len1]
              exact l5
            · rw [len1]
              exact l6
            · rw [len1]
              exact l7
            · rw [len1]
              exact l8
          · refine pm_Fv.go 1 (f' := (24, 130, [(10, _), (9, _), (8, _), (7, _), (6, _), (5, _), (0, _), (1, _), (2, _), (3, _), (4, _)], [_])) rfl ?_
            refine pm_Fv.zeq rfl (by omega) rfl (fun h5 => ?_) (fun h5 => ?_)
            · refine pm_Fv.inc rfl rfl (Nat.le_of_ble_eq_true rfl) ?_
              refine pm_Fv.go 1 (f' := (24, 10, [(5, _), (10, _), (9, _), (8, _), (7, _), (6, _), (0, _), (1, _), (2, _), (3, _), (4, _)], [])) rfl ?_
              have qk : (od_mq (hq_g ar 190) a b c d) k ≠ 1 := by
                unfold od_mq
                rw [if_neg (by omega)]
                decide
              rw [if_neg qk, Int.add_zero] at cs
              refine pm_Fv.weak (ih (k + 1) s1 ad' (hq_w ar' 198 ((oD (hq_g ar 190)) k) (fo_tgs (fun p => oV (hq_g ar 190) ((oI (hq_g ar 190)) p) 6) (oD (hq_g ar 190)) k)) (by omega) (by rw [show ((k + 1 : Nat) : Int) = (k : Int) + 1 by omega, cs]; exact H1) ?_ (by rw [show ((k + 1 : Nat) : Int) = (k : Int) + 1 by omega]; exact td1)) rfl
              rw [show ((k + 1 : Nat) : Int) = (k : Int) + 1 by omega, cs]
              refine ⟨ho1, (len1 198).trans t8, t01, fun i i0 i1 => ?_, ?_, ?_, ?_, ?_, ?_, rm1⟩
              · rw [ff1 193 i (by decide), ff1 194 i (by decide), ff1 195 i (by decide), fd_a, if_neg qk]
                exact hf i i0 i1
              · rw [len1, len1]
                exact l4
              · rw [len1, len1]
                exact l5
              · rw [len1]
                exact l6
              · rw [len1]
                exact l7
              · rw [len1]
                exact l8
            · refine pm_Fv.go 1 (f' := (24, 134, [(10, _), (9, _), (8, _), (7, _), (6, _), (5, _), (0, _), (1, _), (2, _), (3, _), (4, _)], [_])) rfl ?_
              refine pm_Fv.gf rfl rfl H1.m0 H1.o0 rfl ?_
              refine pm_Fv.go 2 (f' := (24, 140, [(10, _), (9, _), (8, _), (7, _), (6, _), (5, _), (0, _), (1, _), (2, _), (3, _), (4, _)], [_, _, _])) rfl ?_
              refine pm_Fv.cv rfl rfl rfl rfl (by decide) (Nat.le_of_ble_eq_true rfl) (Nat.le_of_ble_eq_true rfl) H1.m188 H1.o188 (vv 5 (by decide) (by decide)) ?_
              refine pm_Fv.go 1 (f' := (24, 145, [(10, _), (9, _), (8, _), (7, _), (6, _), (5, _), (0, _), (1, _), (2, _), (3, _), (4, _)], [_, _])) rfl ?_
              refine pm_Fv.jlt rfl (by omega) rfl (fun h6 => ?_) (fun h6 => ?_)
              · refine pm_Fv.inc rfl rfl (Nat.le_of_ble_eq_true rfl) ?_
                refine pm_Fv.go 1 (f' := (24, 10, [(5, _), (10, _), (9, _), (8, _), (7, _), (6, _), (0, _), (1, _), (2, _), (3, _), (4, _)], [])) rfl ?_
                have qk : (od_mq (hq_g ar 190) a b c d) k ≠ 1 := by
                  unfold od_mq
                  rw [if_neg (by omega)]
                  decide
                rw [if_neg qk, Int.add_zero] at cs
                refine pm_Fv.weak (ih (k + 1) s1 ad' (hq_w ar' 198 ((oD (hq_g ar 190)) k) (fo_tgs (fun p => oV (hq_g ar 190) ((oI (hq_g ar 190)) p) 6) (oD (hq_g ar 190)) k)) (by omega) (by rw [show ((k + 1 : Nat) : Int) = (k : Int) + 1 by omega, cs]; exact H1) ?_ (by rw [show ((k + 1 : Nat) : Int) = (k : Int) + 1 by omega]; exact td1)) rfl
                rw [show ((k + 1 : Nat) : Int) = (k : Int) + 1 by omega, cs]
                refine ⟨ho1, (len1 198).trans t8, t01, fun i i0 i1 => ?_, ?_, ?_, ?_, ?_, ?_, rm1⟩
                · rw [ff1 193 i (by decide), ff1 194 i (by decide), ff1 195 i (by decide), fd_a, if_neg qk]
                  exact hf i i0 i1
                · rw [len1, len1]
                  exact l4
                · rw [len1, len1]
                  exact l5
                · rw [len1]
                  exact l6
                · rw [len1]
                  exact l7
                · rw [len1]
                  exact l8
              · refine pm_Fv.go 1 (f' := (24, 149, [(10, _), (9, _), (8, _), (7, _), (6, _), (5, _), (0, _), (1, _), (2, _), (3, _), (4, _)], [_])) rfl ?_
                refine pm_Fv.gf rfl rfl H1.m0 H1.o0 rfl ?_
                refine pm_Fv.go 3 (f' := (24, 156, [(10, _), (9, _), (8, _), (7, _), (6, _), (5, _), (0, _), (1, _), (2, _), (3, _), (4, _)], [_, _, _, _])) rfl ?_
                refine pm_Fv.cvF rfl rfl rfl rfl (by decide) (Nat.le_of_ble_eq_true rfl) (Nat.le_of_ble_eq_true rfl) H1.m192 H1.o192 (ev_fadd L xs H1 (a := (oI (hq_g ar 190)) k) (b := -1) (c := -1) (by omega) (by omega) (by omega) cr.1 (by rw [len1]; exact l8) (show fd_c (od_mq (hq_g ar 190) a b c d) k < 800 by omega) (by rw [len1, len1]; exact l4) (by rw [len1, len1]; exact l5) (by rw [len1]; exact l6) (by rw [len1]; exact l7)) (fun s2 q2 => ?_)
                obtain ⟨ad2, ar2, H2, K2, m2⟩ := q2
                refine pm_Fv.inc rfl rfl (Nat.le_of_ble_eq_true rfl) ?_
                refine pm_Fv.go 1 (f' := (24, 10, [(5, _), (10, _), (9, _), (8, _), (7, _), (6, _), (0, _), (1, _), (2, _), (3, _), (4, _)], [])) rfl ?_
                have qk : (od_mq (hq_g ar 190) a b c d) k = 1 := by
                  unfold od_mq
                  rw [if_pos (by omega)]
                rw [if_pos qk] at cs
                obtain ⟨k1, k2, k3, k4, k5, k6, k7⟩ := K2
                rw [show hq_u (hq_u z 9 (fd_c (od_mq (hq_g ar 190) a b c d) k)) 9 (hq_u z 9 (fd_c (od_mq (hq_g ar 190) a b c d) k) 9 + 1) = hq_u z 9 (fd_c (od_mq (hq_g ar 190) a b c d) k + 1) from by rw [hq_u_u]; rfl] at H2
                refine pm_Fv.weak (ih (k + 1) s2 ad2 ar2 (by omega) (by rw [show ((k + 1 : Nat) : Int) = (k : Int) + 1 by omega, cs]; exact H2) ?_ (by rw [show ((k + 1 : Nat) : Int) = (k : Int) + 1 by omega]; exact fun x x0 x1 hx => (hq_g_ne (k1 198 (by decide) (by decide) (by decide)) _).trans (td1 x x0 x1 hx))) rfl
                rw [show ((k + 1 : Nat) : Int) = (k : Int) + 1 by omega, cs]
                refine ⟨fun r a1 a2 a3 a4 => (k1 r a1 a2 a3).trans (ho1 r a1 a2 a3 a4), (congrArg Prod.fst (k1 198 (by decide) (by decide) (by decide))).trans ((len1 198).trans t8), (hq_g_ne (k1 198 (by decide) (by decide) (by decide)) _).trans t01, fun i i0 i1 => ?_, k3, k4, k5, k6, k7, hq_rm_tr rm1 m2⟩
                have kk := k2 i i0 (show i ≤ fd_c (od_mq (hq_g ar 190) a b c d) k by omega)
                have kk : hq_g ar2 193 i = (if i = fd_c (od_mq (hq_g ar 190) a b c d) k then (oI (hq_g ar 190)) k else hq_g (hq_w ar' 198 ((oD (hq_g ar 190)) k) (fo_tgs (fun p => oV (hq_g ar 190) ((oI (hq_g ar 190)) p) 6) (oD (hq_g ar 190)) k)) 193 i) ∧ hq_g ar2 194 i = (if i = fd_c (od_mq (hq_g ar 190) a b c d) k then -1 else hq_g (hq_w ar' 198 ((oD (hq_g ar 190)) k) (fo_tgs (fun p => oV (hq_g ar 190) ((oI (hq_g ar 190)) p) 6) (oD (hq_g ar 190)) k)) 194 i) ∧ hq_g ar2 195 i = (if i = fd_c (od_mq (hq_g ar 190) a b c d) k then -1 else hq_g (hq_w ar' 198 ((oD (hq_g ar 190)) k) (fo_tgs (fun p => oV (hq_g ar 190) ((oI (hq_g ar 190)) p) 6) (oD (hq_g ar 190)) k)) 195 i) := kk
                rw [kk.1, kk.2.1, kk.2.2, fd_a, if_pos qk]
                by_cases x : i = fd_c (od_mq (hq_g ar 190) a b c d) k
                · rw [if_pos x, if_pos x, if_pos x, x, iu_at]
                  exact ⟨rfl, rfl, rfl⟩
                · rw [if_neg x, if_neg x, if_neg x, iu_ne x, ff1 193 i (by decide), ff1 194 i (by decide), ff1 195 i (by decide)]
                  exact hf i i0 (by omega)
        · refine pm_Fv.go 4 (f' := (24, 125, [(10, _), (9, _), (8, _), (7, _), (6, _), (5, _), (0, _), (1, _), (2, _), (3, _), (4, _)], [_])) rfl ?_
          refine pm_Fv.zeq rfl (by omega) rfl (fun h7 => ?_) (fun h7 => ?_)
          · refine pm_Fv.inc rfl rfl (Nat.le_of_ble_eq_true rfl) ?_
            refine pm_Fv.go 1 (f' := (24, 10, [(5, _), (10, _), (9, _), (8, _), (7, _), (6, _), (0, _), (1, _), (2, _), (3, _), (4, _)], [])) rfl ?_
            have qk : (od_mq (hq_g ar 190) a b c d) k ≠ 1 := by
              unfold od_mq
              rw [if_neg (by omega)]
              decide
            rw [if_neg qk, Int.add_zero] at cs
            refine pm_Fv.weak (ih (k + 1) s1 ad' (hq_w ar' 198 ((oD (hq_g ar 190)) k) (fo_tgs (fun p => oV (hq_g ar 190) ((oI (hq_g ar 190)) p) 6) (oD (hq_g ar 190)) k)) (by omega) (by rw [show ((k + 1 : Nat) : Int) = (k : Int) + 1 by omega, cs]; exact H1) ?_ (by rw [show ((k + 1 : Nat) : Int) = (k : Int) + 1 by omega]; exact td1)) rfl
            rw [show ((k + 1 : Nat) : Int) = (k : Int) + 1 by omega, cs]
            refine ⟨ho1, (len1 198).trans t8, t01, fun i i0 i1 => ?_, ?_, ?_, ?_, ?_, ?_, rm1⟩
            · rw [ff1 193 i (by decide), ff1 194 i (by decide), ff1 195 i (by decide), fd_a, if_neg qk]
              exact hf i i0 i1
            · rw [len1, len1]
              exact l4
            · rw [len1, len1]
              exact l5
            · rw [len1]
              exact l6
            · rw [len1]
              exact l7
            · rw [len1]
              exact l8
          · refine pm_Fv.go 1 (f' := (24, 130, [(10, _), (9, _), (8, _), (7, _), (6, _), (5, _), (0, _), (1, _), (2, _), (3, _), (4, _)], [_])) rfl ?_
            refine pm_Fv.zeq rfl (by omega) rfl (fun h8 => ?_) (fun h8 => ?_)
            · refine pm_Fv.inc rfl rfl (Nat.le_of_ble_eq_true rfl) ?_
              refine pm_Fv.go 1 (f' := (24, 10, [(5, _), (10, _), (9, _), (8, _), (7, _), (6, _), (0, _), (1, _), (2, _), (3, _), (4, _)], [])) rfl ?_
              have qk : (od_mq (hq_g ar 190) a b c d) k ≠ 1 := by
                unfold od_mq
                rw [if_neg (by omega)]
                decide
              rw [if_neg qk, Int.add_zero] at cs
              refine pm_Fv.weak (ih (k + 1) s1 ad' (hq_w ar' 198 ((oD (hq_g ar 190)) k) (fo_tgs (fun p => oV (hq_g ar 190) ((oI (hq_g ar 190)) p) 6) (oD (hq_g ar 190)) k)) (by omega) (by rw [show ((k + 1 : Nat) : Int) = (k : Int) + 1 by omega, cs]; exact H1) ?_ (by rw [show ((k + 1 : Nat) : Int) = (k : Int) + 1 by omega]; exact td1)) rfl
              rw [show ((k + 1 : Nat) : Int) = (k : Int) + 1 by omega, cs]
              refine ⟨ho1, (len1 198).trans t8, t01, fun i i0 i1 => ?_, ?_, ?_, ?_, ?_, ?_, rm1⟩
              · rw [ff1 193 i (by decide), ff1 194 i (by decide), ff1 195 i (by decide), fd_a, if_neg qk]
                exact hf i i0 i1
              · rw [len1, len1]
                exact l4
              · rw [len1, len1]
                exact l5
              · rw [len1]
                exact l6
              · rw [len1]
                exact l7
              · rw [len1]
                exact l8
            · refine pm_Fv.go 1 (f' := (24, 134, [(10, _), (9, _), (8, _), (7, _), (6, _), (5, _), (0, _), (1, _), (2, _), (3, _), (4, _)], [_])) rfl ?_
              refine pm_Fv.gf rfl rfl H1.m0 H1.o0 rfl ?_
              refine pm_Fv.go 2 (f' := (24, 140, [(10, _), (9, _), (8, _), (7, _), (6, _), (5, _), (0, _), (1, _), (2, _), (3, _), (4, _)], [_, _, _])) rfl ?_
              refine pm_Fv.cv rfl rfl rfl rfl (by decide) (Nat.le_of_ble_eq_true rfl) (Nat.le_of_ble_eq_true rfl) H1.m188 H1.o188 (vv 5 (by decide) (by decide)) ?_
              refine pm_Fv.go 1 (f' := (24, 145, [(10, _), (9, _), (8, _), (7, _), (6, _), (5, _), (0, _), (1, _), (2, _), (3, _), (4, _)], [_, _])) rfl ?_
              refine pm_Fv.jlt rfl (by omega) rfl (fun h9 => ?_) (fun h9 => ?_)
              · refine pm_Fv.inc rfl rfl (Nat.le_of_ble_eq_true rfl) ?_
                refine pm_Fv.go 1 (f' := (24, 10, [(5, _), (10, _), (9, _), (8, _), (7, _), (6, _), (0, _), (1, _), (2, _), (3, _), (4, _)], [])) rfl ?_
                have qk : (od_mq (hq_g ar 190) a b c d) k ≠ 1 := by
                  unfold od_mq
                  rw [if_neg (by omega)]
                  decide
                rw [if_neg qk, Int.add_zero] at cs
                refine pm_Fv.weak (ih (k + 1) s1 ad' (hq_w ar' 198 ((oD (hq_g ar 190)) k) (fo_tgs (fun p => oV (hq_g ar 190) ((oI (hq_g ar 190)) p) 6) (oD (hq_g ar 190)) k)) (by omega) (by rw [show ((k + 1 : Nat) : Int) = (k : Int) + 1 by omega, cs]; exact H1) ?_ (by rw [show ((k + 1 : Nat) : Int) = (k : Int) + 1 by omega]; exact td1)) rfl
                rw [show ((k + 1 : Nat) : Int) = (k : Int) + 1 by omega, cs]
                refine ⟨ho1, (len1 198).trans t8, t01, fun i i0 i1 => ?_, ?_, ?_, ?_, ?_, ?_, rm1⟩
                · rw [ff1 193 i (by decide), ff1 194 i (by decide), ff1 195 i (by decide), fd_a, if_neg qk]
                  exact hf i i0 i1
                · rw [len1, len1]
                  exact l4
                · rw [len1, len1]
                  exact l5
                · rw [len1]
                  exact l6
                · rw [len1]
                  exact l7
                · rw [len1]
                  exact l8
              · refine pm_Fv.go 1 (f' := (24, 149, [(10, _), (9, _), (8, _), (7, _), (6, _), (5, _), (0, _), (1, _), (2, _), (3, _), (4, _)], [_])) rfl ?_
                refine pm_Fv.gf rfl rfl H1.m0 H1.o0 rfl ?_
                refine pm_Fv.go 3 (f' := (24, 156, [(10, _), (9, _), (8, _), (7, _), (6, _), (5, _), (0, _), (1, _), (2, _), (3, _), (4, _)], [_, _, _, _])) rfl ?_
                refine pm_Fv.cvF rfl rfl rfl rfl (by decide) (Nat.le_of_ble_eq_true rfl) (Nat.le_of_ble_eq_true rfl) H1.m192 H1.o192 (ev_fadd L xs H1 (a := (oI (hq_g ar 190)) k) (b := -1) (c := -1) (by omega) (by omega) (by omega) cr.1 (by rw [len1]; exact l8) (show fd_c (od_mq (hq_g ar 190) a b c d) k < 800 by omega) (by rw [len1, len1]; exact l4) (by rw [len1, len1]; exact l5) (by rw [len1]; exact l6) (by rw [len1]; exact l7)) (fun s2 q2 => ?_)
                obtain ⟨ad2, ar2, H2, K2, m2⟩ := q2
                refine pm_Fv.inc rfl rfl (Nat.le_of_ble_eq_true rfl) ?_
                refine pm_Fv.go 1 (f' := (24, 10, [(5, _), (10, _), (9, _), (8, _), (7, _), (6, _), (0, _), (1, _), (2, _), (3, _), (4, _)], [])) rfl ?_
                have qk : (od_mq (hq_g ar 190) a b c d) k = 1 := by
                  unfold od_mq
                  rw [if_pos (by omega)]
                rw [if_pos qk] at cs
                obtain ⟨k1, k2, k3, k4, k5, k6, k7⟩ := K2
                rw [show hq_u (hq_u z 9 (fd_c (od_mq (hq_g ar 190) a b c d) k)) 9 (hq_u z 9 (fd_c (od_mq (hq_g ar 190) a b c d) k) 9 + 1) = hq_u z 9 (fd_c (od_mq (hq_g ar 190) a b c d) k + 1) from by rw [hq_u_u]; rfl] at H2
                refine pm_Fv.weak (ih (k + 1) s2 ad2 ar2 (by omega) (by rw [show ((k + 1 : Nat) : Int) = (k : Int) + 1 by omega, cs]; exact H2) ?_ (by rw [show ((k + 1 : Nat) : Int) = (k : Int) + 1 by omega]; exact fun x x0 x1 hx => (hq_g_ne (k1 198 (by decide) (by decide) (by decide)) _).trans (td1 x x0 x1 hx))) rfl
                rw [show ((k + 1 : Nat) : Int) = (k : Int) + 1 by omega, cs]
                refine ⟨fun r a1 a2 a3 a4 => (k1 r a1 a2 a3).trans (ho1 r a1 a2 a3 a4), (congrArg Prod.fst (k1 198 (by decide) (by decide) (by decide))).trans ((len1 198).trans t8), (hq_g_ne (k1 198 (by decide) (by decide) (by decide)) _).trans t01, fun i i0 i1 => ?_, k3, k4, k5, k6, k7, hq_rm_tr rm1 m2⟩
                have kk := k2 i i0 (show i ≤ fd_c (od_mq (hq_g ar 190) a b c d) k by omega)
                have kk : hq_g ar2 193 i = (if i = fd_c (od_mq (hq_g ar 190) a b c d) k then (oI (hq_g ar 190)) k else hq_g (hq_w ar' 198 ((oD (hq_g ar 190)) k) (fo_tgs (fun p => oV (hq_g ar 190) ((oI (hq_g ar 190)) p) 6) (oD (hq_g ar 190)) k)) 193 i) ∧ hq_g ar2 194 i = (if i = fd_c (od_mq (hq_g ar 190) a b c d) k then -1 else hq_g (hq_w ar' 198 ((oD (hq_g ar 190)) k) (fo_tgs (fun p => oV (hq_g ar 190) ((oI (hq_g ar 190)) p) 6) (oD (hq_g ar 190)) k)) 194 i) ∧ hq_g ar2 195 i = (if i = fd_c (od_mq (hq_g ar 190) a b c d) k then -1 else hq_g (hq_w ar' 198 ((oD (hq_g ar 190)) k) (fo_tgs (fun p => oV (hq_g ar 190) ((oI (hq_g ar 190)) p) 6) (oD (hq_g ar 190)) k)) 195 i) := kk
                rw [kk.1, kk.2.1, kk.2.2, fd_a, if_pos qk]
                by_cases x : i = fd_c (od_mq (hq_g ar 190) a b c d) k
                · rw [if_pos x, if_pos x, if_pos x, x, iu_at]
                  exact ⟨rfl, rfl, rfl⟩
                · rw [if_neg x, if_neg x, if_neg x, iu_ne x, ff1 193 i (by decide), ff1 194 i (by decide), ff1 195 i (by decide)]
                  exact hf i i0 (by omega)
      · refine pm_Fv.go 2 (f' := (24, 87, [(8, _), (7, _), (6, _), (5, _), (0, _), (1, _), (2, _), (3, _), (4, _)], [_, _])) rfl ?_
        refine pm_Fv.iandx rfl ?_
        refine pm_Fv.zne rfl (by omega) rfl (fun h10 => ?_) (fun h10 => ?_)
        · refine pm_Fv.go 4 (f' := (24, 100, [(9, _), (8, _), (7, _), (6, _), (5, _), (0, _), (1, _), (2, _), (3, _), (4, _)], [_, _])) rfl ?_
          refine pm_Fv.gf rfl rfl H1.m0 H1.o0 rfl ?_
          refine pm_Fv.go 2 (f' := (24, 106, [(9, _), (8, _), (7, _), (6, _), (5, _), (0, _), (1, _), (2, _), (3, _), (4, _)], [_, _, _, _])) rfl ?_
          refine pm_Fv.cv rfl rfl rfl rfl (by decide) (Nat.le_of_ble_eq_true rfl) (Nat.le_of_ble_eq_true rfl) H1.m188 H1.o188 (vv 4 (by decide) (by decide)) ?_
          refine pm_Fv.ishr rfl ?_
          refine pm_Fv.go 1 (f' := (24, 111, [(9, _), (8, _), (7, _), (6, _), (5, _), (0, _), (1, _), (2, _), (3, _), (4, _)], [_, _])) rfl ?_
          refine pm_Fv.iandx rfl ?_
          refine pm_Fv.go 1 (f' := (24, 113, [(9, _), (8, _), (7, _), (6, _), (5, _), (0, _), (1, _), (2, _), (3, _), (4, _)], [_, _])) rfl ?_
          refine pm_Fv.jne rfl (by omega) rfl (fun h11 => ?_) (fun h11 => ?_)
          · refine pm_Fv.go 3 (f' := (24, 125, [(10, _), (9, _), (8, _), (7, _), (6, _), (5, _), (0, _), (1, _), (2, _), (3, _), (4, _)], [_])) rfl ?_
            refine pm_Fv.zeq rfl (by omega) rfl (fun h12 => ?_) (fun h12 => ?_)
            · refine pm_Fv.inc rfl rfl (Nat.le_of_ble_eq_true rfl) ?_
              refine pm_Fv.go 1 (f' := (24, 10, [(5, _), (10, _), (9, _), (8, _), (7, _), (6, _), (0, _), (1, _), (2, _), (3, _), (4, _)], [])) rfl ?_
              have qk : (od_mq (hq_g ar 190) a b c d) k ≠ 1 := by
                unfold od_mq
                rw [if_neg (by omega)]
                decide
              rw [if_neg qk, Int.add_zero] at cs
              refine pm_Fv.weak (ih (k + 1) s1 ad' (hq_w ar' 198 ((oD (hq_g ar 190)) k) (fo_tgs (fun p => oV (hq_g ar 190) ((oI (hq_g ar 190)) p) 6) (oD (hq_g ar 190)) k)) (by omega) (by rw [show ((k + 1 : Nat) : Int) = (k : Int) + 1 by omega, cs]; exact H1) ?_ (by rw [show ((k + 1 : Nat) : Int) = (k : Int) + 1 by omega]; exact td1)) rfl
              rw [show ((k + 1 : Nat) : Int) = (k : Int) + 1 by omega, cs]
              refine ⟨ho1, (len1 198).trans t8, t01, fun i i0 i1 => ?_, ?_, ?_, ?_, ?_, ?_, rm1⟩
              · rw [ff1 193 i (by decide), ff1 194 i (by decide), ff1 195 i (by decide), fd_a, if_neg qk]
                exact hf i i0 i1
              · rw [len1, len1]
                exact l4
              · rw [len1, len1]
                exact l5
              · rw [len1]
                exact l6
              · rw [len1]
                exact l7
              · rw [len1]
                exact l8
            · refine pm_Fv.go 1 (f' := (24, 130, [(10, _), (9, _), (8, _), (7, _), (6, _), (5, _), (0, _), (1, _), (2, _), (3, _), (4, _)], [_])) rfl ?_
              refine pm_Fv.zeq rfl (by omega) rfl (fun h13 => ?_) (fun h13 => ?_)
              · refine pm_Fv.inc rfl rfl (Nat.le_of_ble_eq_true rfl) ?_
                refine pm_Fv.go 1 (f' := (24, 10, [(5, _), (10, _), (9, _), (8, _), (7, _), (6, _), (0, _), (1, _), (2, _), (3, _), (4, _)], [])) rfl ?_
                have qk : (od_mq (hq_g ar 190) a b c d) k ≠ 1 := by
                  unfold od_mq
                  rw [if_neg (by omega)]
                  decide
                rw [if_neg qk, Int.add_zero] at cs
                refine pm_Fv.weak (ih (k + 1) s1 ad' (hq_w ar' 198 ((oD (hq_g ar 190)) k) (fo_tgs (fun p => oV (hq_g ar 190) ((oI (hq_g ar 190)) p) 6) (oD (hq_g ar 190)) k)) (by omega) (by rw [show ((k + 1 : Nat) : Int) = (k : Int) + 1 by omega, cs]; exact H1) ?_ (by rw [show ((k + 1 : Nat) : Int) = (k : Int) + 1 by omega]; exact td1)) rfl
                rw [show ((k + 1 : Nat) : Int) = (k : Int) + 1 by omega, cs]
                refine ⟨ho1, (len1 198).trans t8, t01, fun i i0 i1 => ?_, ?_, ?_, ?_, ?_, ?_, rm1⟩
                · rw [ff1 193 i (by decide), ff1 194 i (by decide), ff1 195 i (by decide), fd_a, if_neg qk]
                  exact hf i i0 i1
                · rw [len1, len1]
                  exact l4
                · rw [len1, len1]
                  exact l5
                · rw [len1]
                  exact l6
                · rw [len1]
                  exact l7
                · rw [len1]
                  exact l8
              · refine pm_Fv.go 1 (f' := (24, 134, [(10, _), (9, _), (8, _), (7, _), (6, _), (5, _), (0, _), (1, _), (2, _), (3, _), (4, _)], [_])) rfl ?_
                refine pm_Fv.gf rfl rfl H1.m0 H1.o0 rfl ?_
                refine pm_Fv.go 2 (f' := (24, 140, [(10, _), (9, _), (8, _), (7, _), (6, _), (5, _), (0, _), (1, _), (2, _), (3, _), (4, _)], [_, _, _])) rfl ?_
                refine pm_Fv.cv rfl rfl rfl rfl (by decide) (Nat.le_of_ble_eq_true rfl) (Nat.le_of_ble_eq_true rfl) H1.m188 H1.o188 (vv 5 (by decide) (by decide)) ?_
                refine pm_Fv.go 1 (f' := (24, 145, [(10, _), (9, _), (8, _), (7, _), (6, _), (5, _), (0, _), (1, _), (2, _), (3, _), (4, _)], [_, _])) rfl ?_
                refine pm_Fv.jlt rfl (by omega) rfl (fun h14 => ?_) (fun h14 => ?_)
                · refine pm_Fv.inc rfl rfl (Nat.le_of_ble_eq_true rfl) ?_
                  refine pm_Fv.go 1 (f' := (24, 10, [(5, _), (10, _), (9, _), (8, _), (7, _), (6, _), (0, _), (1, _), (2, _), (3, _), (4, _)], [])) rfl ?_
                  have qk : (od_mq (hq_g ar 190) a b c d) k ≠ 1 := by
                    unfold od_mq
                    rw [if_neg (by omega)]
                    decide
                  rw [if_neg qk, Int.add_zero] at cs
                  refine pm_Fv.weak (ih (k + 1) s1 ad' (hq_w ar' 198 ((oD (hq_g ar 190)) k) (fo_tgs (fun p => oV (hq_g ar 190) ((oI (hq_g ar 190)) p) 6) (oD (hq_g ar 190)) k)) (by omega) (by rw [show ((k + 1 : Nat) : Int) = (k : Int) + 1 by omega, cs]; exact H1) ?_ (by rw [show ((k + 1 : Nat) : Int) = (k : Int) + 1 by omega]; exact td1)) rfl
                  rw [show ((k + 1 : Nat) : Int) = (k : Int) + 1 by omega, cs]
                  refine ⟨ho1, (len1 198).trans t8, t01, fun i i0 i1 => ?_, ?_, ?_, ?_, ?_, ?_, rm1⟩
                  · rw [ff1 193 i (by decide), ff1 194 i (by decide), ff1 195 i (by decide), fd_a, if_neg qk]
                    exact hf i i0 i1
                  · rw [len1, len1]
                    exact l4
                  · rw [len1, len1]
                    exact l5
                  · rw [len1]
                    exact l6
                  · rw [len1]
                    exact l7
                  · rw [len1]
                    exact l8
                · refine pm_Fv.go 1 (f' := (24, 149, [(10, _), (9, _), (8, _), (7, _), (6, _), (5, _), (0, _), (1, _), (2, _), (3, _), (4, _)], [_])) rfl ?_
                  refine pm_Fv.gf rfl rfl H1.m0 H1.o0 rfl ?_
                  refine pm_Fv.go 3 (f' := (24, 156, [(10, _), (9, _), (8, _), (7, _), (6, _), (5, _), (0, _), (1, _), (2, _), (3, _), (4, _)], [_, _, _, _])) rfl ?_
                  refine pm_Fv.cvF rfl rfl rfl rfl (by decide) (Nat.le_of_ble_eq_true rfl) (Nat.le_of_ble_eq_true rfl) H1.m192 H1.o192 (ev_fadd L xs H1 (a := (oI (hq_g ar 190)) k) (b := -1) (c := -1) (by omega) (by omega) (by omega) cr.1 (by rw [len1]; exact l8) (show fd_c (od_mq (hq_g ar 190) a b c d) k < 800 by omega) (by rw [len1, len1]; exact l4) (by rw [len1, len1]; exact l5) (by rw [len1]; exact l6) (by rw [len1]; exact l7)) (fun s2 q2 => ?_)
                  obtain ⟨ad2, ar2, H2, K2, m2⟩ := q2
                  refine pm_Fv.inc rfl rfl (Nat.le_of_ble_eq_true rfl) ?_
                  refine pm_Fv.go 1 (f' := (24, 10, [(5, _), (10, _), (9, _), (8, _), (7, _), (6, _), (0, _), (1, _), (2, _), (3, _), (4, _)], [])) rfl ?_
                  have qk : (od_mq (hq_g ar 190) a b c d) k = 1 := by
                    unfold od_mq
                    rw [if_pos (by omega)]
                  rw [if_pos qk] at cs
                  obtain ⟨k1, k2, k3, k4, k5, k6, k7⟩ := K2
                  rw [show hq_u (hq_u z 9 (fd_c (od_mq (hq_g ar 190) a b c d) k)) 9 (hq_u z 9 (fd_c (od_mq (hq_g ar 190) a b c d) k) 9 + 1) = hq_u z 9 (fd_c (od_mq (hq_g ar 190) a b c d) k + 1) from by rw [hq_u_u]; rfl] at H2
                  refine pm_Fv.weak (ih (k + 1) s2 ad2 ar2 (by omega) (by rw [show ((k + 1 : Nat) : Int) = (k : Int) + 1 by omega, cs]; exact H2) ?_ (by rw [show ((k + 1 : Nat) : Int) = (k : Int) + 1 by omega]; exact fun x x0 x1 hx => (hq_g_ne (k1 198 (by decide) (by decide) (by decide)) _).trans (td1 x x0 x1 hx))) rfl
                  rw [show ((k + 1 : Nat) : Int) = (k : Int) + 1 by omega, cs]
                  refine ⟨fun r a1 a2 a3 a4 => (k1 r a1 a2 a3).trans (ho1 r a1 a2 a3 a4), (congrArg Prod.fst (k1 198 (by decide) (by decide) (by decide))).trans ((len1 198).trans t8), (hq_g_ne (k1 198 (by decide) (by decide) (by decide)) _).trans t01, fun i i0 i1 => ?_, k3, k4, k5, k6, k7, hq_rm_tr rm1 m2⟩
                  have kk := k2 i i0 (show i ≤ fd_c (od_mq (hq_g ar 190) a b c d) k by omega)
                  have kk : hq_g ar2 193 i = (if i = fd_c (od_mq (hq_g ar 190) a b c d) k then (oI (hq_g ar 190)) k else hq_g (hq_w ar' 198 ((oD (hq_g ar 190)) k) (fo_tgs (fun p => oV (hq_g ar 190) ((oI (hq_g ar 190)) p) 6) (oD (hq_g ar 190)) k)) 193 i) ∧ hq_g ar2 194 i = (if i = fd_c (od_mq (hq_g ar 190) a b c d) k then -1 else hq_g (hq_w ar' 198 ((oD (hq_g ar 190)) k) (fo_tgs (fun p => oV (hq_g ar 190) ((oI (hq_g ar 190)) p) 6) (oD (hq_g ar 190)) k)) 194 i) ∧ hq_g ar2 195 i = (if i = fd_c (od_mq (hq_g ar 190) a b c d) k then -1 else hq_g (hq_w ar' 198 ((oD (hq_g ar 190)) k) (fo_tgs (fun p => oV (hq_g ar 190) ((oI (hq_g ar 190)) p) 6) (oD (hq_g ar 190)) k)) 195 i) := kk
                  rw [kk.1, kk.2.1, kk.2.2, fd_a, if_pos qk]
                  by_cases x : i = fd_c (od_mq (hq_g ar 190) a b c d) k
                  · rw [if_pos x, if_pos x, if_pos x, x, iu_at]
                    exact ⟨rfl, rfl, rfl⟩
                  · rw [if_neg x, if_neg x, if_neg x, iu_ne x, ff1 193 i (by decide), ff1 194 i (by decide), ff1 195 i (by decide)]
                    exact hf i i0 (by omega)
          · refine pm_Fv.go 4 (f' := (24, 125, [(10, _), (9, _), (8, _), (7, _), (6, _), (5, _), (0, _), (1, _), (2, _), (3, _), (4, _)], [_])) rfl ?_
            refine pm_Fv.zeq rfl (by omega) rfl (fun h15 => ?_) (fun h15 => ?_)
            · refine pm_Fv.inc rfl rfl (Nat.le_of_ble_eq_true rfl) ?_
              refine pm_Fv.go 1 (f' := (24, 10, [(5, _), (10, _), (9, _), (8, _), (7, _), (6, _), (0, _), (1, _), (2, _), (3, _), (4, _)], [])) rfl ?_
              have qk : (od_mq (hq_g ar 190) a b c d) k ≠ 1 := by
                unfold od_mq
                rw [if_neg (by omega)]
                decide
              rw [if_neg qk, Int.add_zero] at cs
              refine pm_Fv.weak (ih (k + 1) s1 ad' (hq_w ar' 198 ((oD (hq_g ar 190)) k) (fo_tgs (fun p => oV (hq_g ar 190) ((oI (hq_g ar 190)) p) 6) (oD (hq_g ar 190)) k)) (by omega) (by rw [show ((k + 1 : Nat) : Int) = (k : Int) + 1 by omega, cs]; exact H1) ?_ (by rw [show ((k + 1 : Nat) : Int) = (k : Int) + 1 by omega]; exact td1)) rfl
              rw [show ((k + 1 : Nat) : Int) = (k : Int) + 1 by omega, cs]
              refine ⟨ho1, (len1 198).trans t8, t01, fun i i0 i1 => ?_, ?_, ?_, ?_, ?_, ?_, rm1⟩
              · rw [ff1 193 i (by decide), ff1 194 i (by decide), ff1 195 i (by decide), fd_a, if_neg qk]
                exact hf i i0 i1
              · rw [len1, len1]
                exact l4
              · rw [len1, len1]
                exact l5
              · rw [len1]
                exact l6
              · rw [len1]
                exact l7
              · rw [len1]
                exact l8
            · refine pm_Fv.go 1 (f' := (24, 130, [(10, _), (9, _), (8, _), (7, _), (6, _), (5, _), (0, _), (1, _), (2, _), (3, _), (4, _)], [_])) rfl ?_
              refine pm_Fv.zeq rfl (by omega) rfl (fun h16 => ?_) (fun h16 => ?_)
              · refine pm_Fv.inc rfl rfl (Nat.le_of_ble_eq_true rfl) ?_
                refine pm_Fv.go 1 (f' := (24, 10, [(5, _), (10, _), (9, _), (8, _), (7, _), (6, _), (0, _), (1, _), (2, _), (3, _), (4, _)], [])) rfl ?_
                have qk : (od_mq (hq_g ar 190) a b c d) k ≠ 1 := by
                  unfold od_mq
                  rw [if_neg (by omega)]
                  decide
                rw [if_neg qk, Int.add_zero] at cs
                refine pm_Fv.weak (ih (k + 1) s1 ad' (hq_w ar' 198 ((oD (hq_g ar 190)) k) (fo_tgs (fun p => oV (hq_g ar 190) ((oI (hq_g ar 190)) p) 6) (oD (hq_g ar 190)) k)) (by omega) (by rw [show ((k + 1 : Nat) : Int) = (k : Int) + 1 by omega, cs]; exact H1) ?_ (by rw [show ((k + 1 : Nat) : Int) = (k : Int) + 1 by omega]; exact td1)) rfl
                rw [show ((k + 1 : Nat) : Int) = (k : Int) + 1 by omega, cs]
                refine ⟨ho1, (len1 198).trans t8, t01, fun i i0 i1 => ?_, ?_, ?_, ?_, ?_, ?_, rm1⟩
                · rw [ff1 193 i (by decide), ff1 194 i (by decide), ff1 195 i (by decide), fd_a, if_neg qk]
                  exact hf i i0 i1
                · rw [len1, len1]
                  exact l4
                · rw [len1, len1]
                  exact l5
                · rw [len1]
                  exact l6
                · rw [len1]
                  exact l7
                · rw [len1]
                  exact l8
              · refine pm_Fv.go 1 (f' := (24, 134, [(10, _), (9, _), (8, _), (7, _), (6, _), (5, _), (0, _), (1, _), (2, _), (3, _), (4, _)], [_])) rfl ?_
                refine pm_Fv.gf rfl rfl H1.m0 H1.o0 rfl ?_
                refine pm_Fv.go 2 (f' := (24, 140, [(10, _), (9, _), (8, _), (7, _), (6, _), (5, _), (0, _), (1, _), (2, _), (3, _), (4, _)], [_, _, _])) rfl ?_
                refine pm_Fv.cv rfl rfl rfl rfl (by decide) (Nat.le_of_ble_eq_true rfl) (Nat.le_of_ble_eq_true rfl) H1.m188 H1.o188 (vv 5 (by decide) (by decide)) ?_
                refine pm_Fv.go 1 (f' := (24, 145, [(10, _), (9, _), (8, _), (7, _), (6, _), (5, _), (0, _), (1, _), (2, _), (3, _), (4, _)], [_, _])) rfl ?_
                refine pm_Fv.jlt rfl (by omega) rfl (fun h17 => ?_) (fun h17 => ?_)
                · refine pm_Fv.inc rfl rfl (Nat.le_of_ble_eq_true rfl) ?_
                  refine pm_Fv.go 1 (f' := (24, 10, [(5, _), (10, _), (9, _), (8, _), (7, _), (6, _), (0, _), (1, _), (2, _), (3, _), (4, _)], [])) rfl ?_
                  have qk : (od_mq (hq_g ar 190) a b c d) k ≠ 1 := by
                    unfold od_mq
                    rw [if_neg (by omega)]
                    decide
                  rw [if_neg qk, Int.add_zero] at cs
                  refine pm_Fv.weak (ih (k + 1) s1 ad' (hq_w ar' 198 ((oD (hq_g ar 190)) k) (fo_tgs (fun p => oV (hq_g ar 190) ((oI (hq_g ar 190)) p) 6) (oD (hq_g ar 190)) k)) (by omega) (by rw [show ((k + 1 : Nat) : Int) = (k : Int) + 1 by omega, cs]; exact H1) ?_ (by rw [show ((k + 1 : Nat) : Int) = (k : Int) + 1 by omega]; exact td1)) rfl
                  rw [show ((k + 1 : Nat) : Int) = (k : Int) + 1 by omega, cs]
                  refine ⟨ho1, (len1 198).trans t8, t01, fun i i0 i1 => ?_, ?_, ?_, ?_, ?_, ?_, rm1⟩
                  · rw [ff1 193 i (by decide), ff1 194 i (by decide), ff1 195 i (by decide), fd_a, if_neg qk]
                    exact hf i i0 i1
                  · rw [len1, len1]
                    exact l4
                  · rw [len1, len1]
                    exact l5
                  · rw [len1]
                    exact l6
                  · rw [len1]
                    exact l7
                  · rw [len1]
                    exact l8
                · refine pm_Fv.go 1 (f' := (24, 149, [(10, _), (9, _), (8, _), (7, _), (6, _), (5, _), (0, _), (1, _), (2, _), (3, _), (4, _)], [_])) rfl ?_
                  refine pm_Fv.gf rfl rfl H1.m0 H1.o0 rfl ?_
                  refine pm_Fv.go 3 (f' := (24, 156, [(10, _), (9, _), (8, _), (7, _), (6, _), (5, _), (0, _), (1, _), (2, _), (3, _), (4, _)], [_, _, _, _])) rfl ?_
                  refine pm_Fv.cvF rfl rfl rfl rfl (by decide) (Nat.le_of_ble_eq_true rfl) (Nat.le_of_ble_eq_true rfl) H1.m192 H1.o192 (ev_fadd L xs H1 (a := (oI (hq_g ar 190)) k) (b := -1) (c := -1) (by omega) (by omega) (by omega) cr.1 (by rw [len1]; exact l8) (show fd_c (od_mq (hq_g ar 190) a b c d) k < 800 by omega) (by rw [len1, len1]; exact l4) (by rw [len1, len1]; exact l5) (by rw [len1]; exact l6) (by rw [len1]; exact l7)) (fun s2 q2 => ?_)
                  obtain ⟨ad2, ar2, H2, K2, m2⟩ := q2
                  refine pm_Fv.inc rfl rfl (Nat.le_of_ble_eq_true rfl) ?_
                  refine pm_Fv.go 1 (f' := (24, 10, [(5, _), (10, _), (9, _), (8, _), (7, _), (6, _), (0, _), (1, _), (2, _), (3, _), (4, _)], [])) rfl ?_
                  have qk : (od_mq (hq_g ar 190) a b c d) k = 1 := by
                    unfold od_mq
                    rw [if_pos (by omega)]
                  rw [if_pos qk] at cs
                  obtain ⟨k1, k2, k3, k4, k5, k6, k7⟩ := K2
                  rw [show hq_u (hq_u z 9 (fd_c (od_mq (hq_g ar 190) a b c d) k)) 9 (hq_u z 9 (fd_c (od_mq (hq_g ar 190) a b c d) k) 9 + 1) = hq_u z 9 (fd_c (od_mq (hq_g ar 190) a b c d) k + 1) from by rw [hq_u_u]; rfl] at H2
                  refine pm_Fv.weak (ih (k + 1) s2 ad2 ar2 (by omega) (by rw [show ((k + 1 : Nat) : Int) = (k : Int) + 1 by omega, cs]; exact H2) ?_ (by rw [show ((k + 1 : Nat) : Int) = (k : Int) + 1 by omega]; exact fun x x0 x1 hx => (hq_g_ne (k1 198 (by decide) (by decide) (by decide)) _).trans (td1 x x0 x1 hx))) rfl
                  rw [show ((k + 1 : Nat) : Int) = (k : Int) + 1 by omega, cs]
                  refine ⟨fun r a1 a2 a3 a4 => (k1 r a1 a2 a3).trans (ho1 r a1 a2 a3 a4), (congrArg Prod.fst (k1 198 (by decide) (by decide) (by decide))).trans ((len1 198).trans t8), (hq_g_ne (k1 198 (by decide) (by decide) (by decide)) _).trans t01, fun i i0 i1 => ?_, k3, k4, k5, k6, k7, hq_rm_tr rm1 m2⟩
                  have kk := k2 i i0 (show i ≤ fd_c (od_mq (hq_g ar 190) a b c d) k by omega)
                  have kk : hq_g ar2 193 i = (if i = fd_c (od_mq (hq_g ar 190) a b c d) k then (oI (hq_g ar 190)) k else hq_g (hq_w ar' 198 ((oD (hq_g ar 190)) k) (fo_tgs (fun p => oV (hq_g ar 190) ((oI (hq_g ar 190)) p) 6) (oD (hq_g ar 190)) k)) 193 i) ∧ hq_g ar2 194 i = (if i = fd_c (od_mq (hq_g ar 190) a b c d) k then -1 else hq_g (hq_w ar' 198 ((oD (hq_g ar 190)) k) (fo_tgs (fun p => oV (hq_g ar 190) ((oI (hq_g ar 190)) p) 6) (oD (hq_g ar 190)) k)) 194 i) ∧ hq_g ar2 195 i = (if i = fd_c (od_mq (hq_g ar 190) a b c d) k then -1 else hq_g (hq_w ar' 198 ((oD (hq_g ar 190)) k) (fo_tgs (fun p => oV (hq_g ar 190) ((oI (hq_g ar 190)) p) 6) (oD (hq_g ar 190)) k)) 195 i) := kk
                  rw [kk.1, kk.2.1, kk.2.2, fd_a, if_pos qk]
                  by_cases x : i = fd_c (od_mq (hq_g ar 190) a b c d) k
                  · rw [if_pos x, if_pos x, if_pos x, x, iu_at]
                    exact ⟨rfl, rfl, rfl⟩
                  · rw [if_neg x, if_neg x, if_neg x, iu_ne x, ff1 193 i (by decide), ff1 194 i (by decide), ff1 195 i (by decide)]
                    exact hf i i0 (by omega)
        · refine pm_Fv.go 5 (f' := (24, 100, [(9, _), (8, _), (7, _), (6, _), (5, _), (0, _), (1, _), (2, _), (3, _), (4, _)], [_, _])) rfl ?_
          refine pm_Fv.gf rfl rfl H1.m0 H1.o0 rfl ?_
          refine pm_Fv.go 2 (f' := (24, 106, [(9, _), (8, _), (7, _), (6, _), (5, _), (0, _), (1, _), (2, _), (3, _), (4, _)], [_, _, _, _])) rfl ?_
          refine pm_Fv.cv rfl rfl rfl rfl (by decide) (Nat.le_of_ble_eq_true rfl) (Nat.le_of_ble_eq_true rfl) H1.m188 H1.o188 (vv 4 (by decide) (by decide)) ?_
          refine pm_Fv.ishr rfl ?_
          refine pm_Fv.go 1 (f' := (24, 111, [(9, _), (8, _), (7, _), (6, _), (5, _), (0, _), (1, _), (2, _), (3, _), (4, _)], [_, _])) rfl ?_
          refine pm_Fv.iandx rfl ?_
          refine pm_Fv.go 1 (f' := (24, 113, [(9, _), (8, _), (7, _), (6, _), (5, _), (0, _), (1, _), (2, _), (3, _), (4, _)], [_, _])) rfl ?_
          refine pm_Fv.jne rfl (by omega) rfl (fun h18 => ?_) (fun h18 => ?_)
          · refine pm_Fv.go 3 (f' := (24, 125, [(10, _), (9, _), (8, _), (7, _), (6, _), (5, _), (0, _), (1, _), (2, _), (3, _), (4, _)], [_])) rfl ?_
            refine pm_Fv.zeq rfl (by omega) rfl (fun h19 => ?_) (fun h19 => ?_)
            · refine pm_Fv.inc rfl rfl (Nat.le_of_ble_eq_true rfl) ?_
              refine pm_Fv.go 1 (f' := (24, 10, [(5, _), (10, _), (9, _), (8, _), (7, _), (6, _), (0, _), (1, _), (2, _), (3, _), (4, _)], [])) rfl ?_
              have qk : (od_mq (hq_g ar 190) a b c d) k ≠ 1 := by
                unfold od_mq
                rw [if_neg (by omega)]
                decide
              rw [if_neg qk, Int.add_zero] at cs
              refine pm_Fv.weak (ih (k + 1) s1 ad' (hq_w ar' 198 ((oD (hq_g ar 190)) k) (fo_tgs (fun p => oV (hq_g ar 190) ((oI (hq_g ar 190)) p) 6) (oD (hq_g ar 190)) k)) (by omega) (by rw [show ((k + 1 : Nat) : Int) = (k : Int) + 1 by omega, cs]; exact H1) ?_ (by rw [show ((k + 1 : Nat) : Int) = (k : Int) + 1 by omega]; exact td1)) rfl
              rw [show ((k + 1 : Nat) : Int) = (k : Int) + 1 by omega, cs]
              refine ⟨ho1, (len1 198).trans t8, t01, fun i i0 i1 => ?_, ?_, ?_, ?_, ?_, ?_, rm1⟩
              · rw [ff1 193 i (by decide), ff1 194 i (by decide), ff1 195 i (by decide), fd_a, if_neg qk]
                exact hf i i0 i1
              · rw [len1, len1]
                exact l4
              · rw [len1, len1]
                exact l5
              · rw [len1]
                exact l6
              · rw [len1]
                exact l7
              · rw [len1]
                exact l8
            · refine pm_Fv.go 1 (f' := (24, 130, [(10, _), (9, _), (8, _), (7, _), (6, _), (5, _), (0, _), (1, _), (2, _), (3, _), (4, _)], [_])) rfl ?_
              refine pm_Fv.zeq rfl (by omega) rfl (fun h20 => ?_) (fun h20 => ?_)
              · refine pm_Fv.inc rfl rfl (Nat.le_of_ble_eq_true rfl) ?_
                refine pm_Fv.go 1 (f' := (24, 10, [(5, _), (10, _), (9, _), (8, _), (7, _), (6, _), (0, _), (1, _), (2, _), (3, _), (4, _)], [])) rfl ?_
                have qk : (od_mq (hq_g ar 190) a b c d) k ≠ 1 := by
                  unfold od_mq
                  rw [if_neg (by omega)]
                  decide
                rw [if_neg qk, Int.add_zero] at cs
                refine pm_Fv.weak (ih (k + 1) s1 ad' (hq_w ar' 198 ((oD (hq_g ar 190)) k) (fo_tgs (fun p => oV (hq_g ar 190) ((oI (hq_g ar 190)) p) 6) (oD (hq_g ar 190)) k)) (by omega) (by rw [show ((k + 1 : Nat) : Int) = (k : Int) + 1 by omega, cs]; exact H1) ?_ (by rw [show ((k + 1 : Nat) : Int) = (k : Int) + 1 by omega]; exact td1)) rfl
                rw [show ((k + 1 : Nat) : Int) = (k : Int) + 1 by omega, cs]
                refine ⟨ho1, (len1 198).trans t8, t01, fun i i0 i1 => ?_, ?_, ?_, ?_, ?_, ?_, rm1⟩
                · rw [ff1 193 i (by decide), ff1 194 i (by decide), ff1 195 i (by decide), fd_a, if_neg qk]
                  exact hf i i0 i1
                · rw [len1, len1]
                  exact l4
                · rw [len1, len1]
                  exact l5
                · rw [len1]
                  exact l6
                · rw [len1]
                  exact l7
                · rw [len1]
                  exact l8
              · refine pm_Fv.go 1 (f' := (24, 134, [(10, _), (9, _), (8, _), (7, _), (6, _), (5, _), (0, _), (1, _), (2, _), (3, _), (4, _)], [_])) rfl ?_
                refine pm_Fv.gf rfl rfl H1.m0 H1.o0 rfl ?_
                refine pm_Fv.go 2 (f' := (24, 140, [(10, _), (9, _), (8, _), (7, _), (6, _), (5, _), (0, _), (1, _), (2, _), (3, _), (4, _)], [_, _, _])) rfl ?_
                refine pm_Fv.cv rfl rfl rfl rfl (by decide) (Nat.le_of_ble_eq_true rfl) (Nat.le_of_ble_eq_true rfl) H1.m188 H1.o188 (vv 5 (by decide) (by decide)) ?_
                refine pm_Fv.go 1 (f' := (24, 145, [(10, _), (9, _), (8, _), (7, _), (6, _), (5, _), (0, _), (1, _), (2, _), (3, _), (4, _)], [_, _])) rfl ?_
                refine pm_Fv.jlt rfl (by omega) rfl (fun h21 => ?_) (fun h21 => ?_)
                · refine pm_Fv.inc rfl rfl (Nat.le_of_ble_eq_true rfl) ?_
                  refine pm_Fv.go 1 (f' := (24, 10, [(5, _), (10, _), (9, _), (8, _), (7, _), (6, _), (0, _), (1, _), (2, _), (3, _), (4, _)], [])) rfl ?_
                  have qk : (od_mq (hq_g ar 190) a b c d) k ≠ 1 := by
                    unfold od_mq
                    rw [if_neg (by omega)]
                    decide
                  rw [if_neg qk, Int.add_zero] at cs
                  refine pm_Fv.weak (ih (k + 1) s1 ad' (hq_w ar' 198 ((oD (hq_g ar 190)) k) (fo_tgs (fun p => oV (hq_g ar 190) ((oI (hq_g ar 190)) p) 6) (oD (hq_g ar 190)) k)) (by omega) (by rw [show ((k + 1 : Nat) : Int) = (k : Int) + 1 by omega, cs]; exact H1) ?_ (by rw [show ((k + 1 : Nat) : Int) = (k : Int) + 1 by omega]; exact td1)) rfl
                  rw [show ((k + 1 : Nat) : Int) = (k : Int) + 1 by omega, cs]
                  refine ⟨ho1, (len1 198).trans t8, t01, fun i i0 i1 => ?_, ?_, ?_, ?_, ?_, ?_, rm1⟩
                  · rw [ff1 193 i (by decide), ff1 194 i (by decide), ff1 195 i (by decide), fd_a, if_neg qk]
                    exact hf i i0 i1
                  · rw [len1, len1]
                    exact l4
                  · rw [len1, len1]
                    exact l5
                  · rw [len1]
                    exact l6
                  · rw [len1]
                    exact l7
                  · rw [len1]
                    exact l8
                · refine pm_Fv.go 1 (f' := (24, 149, [(10, _), (9, _), (8, _), (7, _), (6, _), (5, _), (0, _), (1, _), (2, _), (3, _), (4, _)], [_])) rfl ?_
                  refine pm_Fv.gf rfl rfl H1.m0 H1.o0 rfl ?_
                  refine pm_Fv.go 3 (f' := (24, 156, [(10, _), (9, _), (8, _), (7, _), (6, _), (5, _), (0, _), (1, _), (2, _), (3, _), (4, _)], [_, _, _, _])) rfl ?_
                  refine pm_Fv.cvF rfl rfl rfl rfl (by decide) (Nat.le_of_ble_eq_true rfl) (Nat.le_of_ble_eq_true rfl) H1.m192 H1.o192 (ev_fadd L xs H1 (a := (oI (hq_g ar 190)) k) (b := -1) (c := -1) (by omega) (by omega) (by omega) cr.1 (by rw [len1]; exact l8) (show fd_c (od_mq (hq_g ar 190) a b c d) k < 800 by omega) (by rw [len1, len1]; exact l4) (by rw [len1, len1]; exact l5) (by rw [len1]; exact l6) (by rw [len1]; exact l7)) (fun s2 q2 => ?_)
                  obtain ⟨ad2, ar2, H2, K2, m2⟩ := q2
                  refine pm_Fv.inc rfl rfl (Nat.le_of_ble_eq_true rfl) ?_
                  refine pm_Fv.go 1 (f' := (24, 10, [(5, _), (10, _), (9, _), (8, _), (7, _), (6, _), (0, _), (1, _), (2, _), (3, _), (4, _)], [])) rfl ?_
                  have qk : (od_mq (hq_g ar 190) a b c d) k = 1 := by
                    unfold od_mq
                    rw [if_pos (by omega)]
                  rw [if_pos qk] at cs
                  obtain ⟨k1, k2, k3, k4, k5, k6, k7⟩ := K2
                  rw [show hq_u (hq_u z 9 (fd_c (od_mq (hq_g ar 190) a b c d) k)) 9 (hq_u z 9 (fd_c (od_mq (hq_g ar 190) a b c d) k) 9 + 1) = hq_u z 9 (fd_c (od_mq (hq_g ar 190) a b c d) k + 1) from by rw [hq_u_u]; rfl] at H2
                  refine pm_Fv.weak (ih (k + 1) s2 ad2 ar2 (by omega) (by rw [show ((k + 1 : Nat) : Int) = (k : Int) + 1 by omega, cs]; exact H2) ?_ (by rw [show ((k + 1 : Nat) : Int) = (k : Int) + 1 by omega]; exact fun x x0 x1 hx => (hq_g_ne (k1 198 (by decide) (by decide) (by decide)) _).trans (td1 x x0 x1 hx))) rfl
                  rw [show ((k + 1 : Nat) : Int) = (k : Int) + 1 by omega, cs]
                  refine ⟨fun r a1 a2 a3 a4 => (k1 r a1 a2 a3).trans (ho1 r a1 a2 a3 a4), (congrArg Prod.fst (k1 198 (by decide) (by decide) (by decide))).trans ((len1 198).trans t8), (hq_g_ne (k1 198 (by decide) (by decide) (by decide)) _).trans t01, fun i i0 i1 => ?_, k3, k4, k5, k6, k7, hq_rm_tr rm1 m2⟩
                  have kk := k2 i i0 (show i ≤ fd_c (od_mq (hq_g ar 190) a b c d) k by omega)
                  have kk : hq_g ar2 193 i = (if i = fd_c (od_mq (hq_g ar 190) a b c d) k then (oI (hq_g ar 190)) k else hq_g (hq_w ar' 198 ((oD (hq_g ar 190)) k) (fo_tgs (fun p => oV (hq_g ar 190) ((oI (hq_g ar 190)) p) 6) (oD (hq_g ar 190)) k)) 193 i) ∧ hq_g ar2 194 i = (if i = fd_c (od_mq (hq_g ar 190) a b c d) k then -1 else hq_g (hq_w ar' 198 ((oD (hq_g ar 190)) k) (fo_tgs (fun p => oV (hq_g ar 190) ((oI (hq_g ar 190)) p) 6) (oD (hq_g ar 190)) k)) 194 i) ∧ hq_g ar2 195 i = (if i = fd_c (od_mq (hq_g ar 190) a b c d) k then -1 else hq_g (hq_w ar' 198 ((oD (hq_g ar 190)) k) (fo_tgs (fun p => oV (hq_g ar 190) ((oI (hq_g ar 190)) p) 6) (oD (hq_g ar 190)) k)) 195 i) := kk
                  rw [kk.1, kk.2.1, kk.2.2, fd_a, if_pos qk]
                  by_cases x : i = fd_c (od_mq (hq_g ar 190) a b c d) k
                  · rw [if_pos x, if_pos x, if_pos x, x, iu_at]
                    exact ⟨rfl, rfl, rfl⟩
                  · rw [if_neg x, if_neg x, if_neg x, iu_ne x, ff1 193 i (by decide), ff1 194 i (by decide), ff1 195 i (by decide)]
                    exact hf i i0 (by omega)
          · refine pm_Fv.go 4 (f' := (24, 125, [(10, _), (9, _), (8, _), (7, _), (6, _), (5, _), (0, _), (1, _), (2, _), (3, _), (4, _)], [_])) rfl ?_
            refine pm_Fv.zeq rfl (by omega) rfl (fun h22 => ?_) (fun h22 => ?_)
            · refine pm_Fv.inc rfl rfl (Nat.le_of_ble_eq_true rfl) ?_
              refine pm_Fv.go 1 (f' := (24, 10, [(5, _), (10, _), (9, _), (8, _), (7, _), (6, _), (0, _), (1, _), (2, _), (3, _), (4, _)], [])) rfl ?_
              have qk : (od_mq (hq_g ar 190) a b c d) k ≠ 1 := by
                unfold od_mq
                rw [if_neg (by omega)]
                decide
              rw [if_neg qk, Int.add_zero] at cs
              refine pm_Fv.weak (ih (k + 1) s1 ad' (hq_w ar' 198 ((oD (hq_g ar 190)) k) (fo_tgs (fun p => oV (hq_g ar 190) ((oI (hq_g ar 190)) p) 6) (oD (hq_g ar 190)) k)) (by omega) (by rw [show ((k + 1 : Nat) : Int) = (k : Int) + 1 by omega, cs]; exact H1) ?_ (by rw [show ((k + 1 : Nat) : Int) = (k : Int) + 1 by omega]; exact td1)) rfl
              rw [show ((k + 1 : Nat) : Int) = (k : Int) + 1 by omega, cs]
              refine ⟨ho1, (len1 198).trans t8, t01, fun i i0 i1 => ?_, ?_, ?_, ?_, ?_, ?_, rm1⟩
              · rw [ff1 193 i (by decide), ff1 194 i (by decide), ff1 195 i (by decide), fd_a, if_neg qk]
                exact hf i i0 i1
              · rw [len1, len1]
                exact l4
              · rw [len1, len1]
                exact l5
              · rw [len1]
                exact l6
              · rw [len1]
                exact l7
              · rw [len1]
                exact l8
            · refine pm_Fv.go 1 (f' := (24, 130, [(10, _), (9, _), (8, _), (7, _), (6, _), (5, _), (0, _), (1, _), (2, _), (3, _), (4, _)], [_])) rfl ?_
              refine pm_Fv.zeq rfl (by omega) rfl (fun h23 => ?_) (fun h23 => ?_)
              · refine pm_Fv.inc rfl rfl (Nat.le_of_ble_eq_true rfl) ?_
                refine pm_Fv.go 1 (f' := (24, 10, [(5, _), (10, _), (9, _), (8, _), (7, _), (6, _), (0, _), (1, _), (2, _), (3, _), (4, _)], [])) rfl ?_
                have qk : (od_mq (hq_g ar 190) a b c d) k ≠ 1 := by
                  unfold od_mq
                  rw [if_neg (by omega)]
                  decide
                rw [if_neg qk, Int.add_zero] at cs
                refine pm_Fv.weak (ih (k + 1) s1 ad' (hq_w ar' 198 ((oD (hq_g ar 190)) k) (fo_tgs (fun p => oV (hq_g ar 190) ((oI (hq_g ar 190)) p) 6) (oD (hq_g ar 190)) k)) (by omega) (by rw [show ((k + 1 : Nat) : Int) = (k : Int) + 1 by omega, cs]; exact H1) ?_ (by rw [show ((k + 1 : Nat) : Int) = (k : Int) + 1 by omega]; exact td1)) rfl
                rw [show ((k + 1 : Nat) : Int) = (k : Int) + 1 by omega, cs]
                refine ⟨ho1, (len1 198).trans t8, t01, fun i i0 i1 => ?_, ?_, ?_, ?_, ?_, ?_, rm1⟩
                · rw [ff1 193 i (by decide), ff1 194 i (by decide), ff1 195 i (by decide), fd_a, if_neg qk]
                  exact hf i i0 i1
                · rw [len1, len1]
                  exact l4
                · rw [len1, len1]
                  exact l5
                · rw [len1]
                  exact l6
                · rw [len1]
                  exact l7
                · rw [len1]
                  exact l8
              · refine pm_Fv.go 1 (f' := (24, 134, [(10, _), (9, _), (8, _), (7, _), (6, _), (5, _), (0, _), (1, _), (2, _), (3, _), (4, _)], [_])) rfl ?_
                refine pm_Fv.gf rfl rfl H1.m0 H1.o0 rfl ?_
                refine pm_Fv.go 2 (f' := (24, 140, [(10, _), (9, _), (8, _), (7, _), (6, _), (5, _), (0, _), (1, _), (2, _), (3, _), (4, _)], [_, _, _])) rfl ?_
                refine pm_Fv.cv rfl rfl rfl rfl (by decide) (Nat.le_of_ble_eq_true rfl) (Nat.le_of_ble_eq_true rfl) H1.m188 H1.o188 (vv 5 (by decide) (by decide)) ?_
                refine pm_Fv.go 1 (f' := (24, 145, [(10, _), (9, _), (8, _), (7, _), (6, _), (5, _), (0, _), (1, _), (2, _), (3, _), (4, _)], [_, _])) rfl ?_
                refine pm_Fv.jlt rfl (by omega) rfl (fun h24 => ?_) (fun h24 => ?_)
                · refine pm_Fv.inc rfl rfl (Nat.le_of_ble_eq_true rfl) ?_
                  refine pm_Fv.go 1 (f' := (24, 10, [(5, _), (10, _), (9, _), (8, _), (7, _), (6, _), (0, _), (1, _), (2, _), (3, _), (4, _)], [])) rfl ?_
                  have qk : (od_mq (hq_g ar 190) a b c d) k ≠ 1 := by
                    unfold od_mq
                    rw [if_neg (by omega)]
                    decide
                  rw [if_neg qk, Int.add_zero] at cs
                  refine pm_Fv.weak (ih (k + 1) s1 ad' (hq_w ar' 198 ((oD (hq_g ar 190)) k) (fo_tgs (fun p => oV (hq_g ar 190) ((oI (hq_g ar 190)) p) 6) (oD (hq_g ar 190)) k)) (by omega) (by rw [show ((k + 1 : Nat) : Int) = (k : Int) + 1 by omega, cs]; exact H1) ?_ (by rw [show ((k + 1 : Nat) : Int) = (k : Int) + 1 by omega]; exact td1)) rfl
                  rw [show ((k + 1 : Nat) : Int) = (k : Int) + 1 by omega, cs]
                  refine ⟨ho1, (len1 198).trans t8, t01, fun i i0 i1 => ?_, ?_, ?_, ?_, ?_, ?_, rm1⟩
                  · rw [ff1 193 i (by decide), ff1 194 i (by decide), ff1 195 i (by decide), fd_a, if_neg qk]
                    exact hf i i0 i1
                  · rw [len1, len1]
                    exact l4
                  · rw [len1, len1]
                    exact l5
                  · rw [len1]
                    exact l6
                  · rw [len1]
                    exact l7
                  · rw [len1]
                    exact l8
                · refine pm_Fv.go 1 (f' := (24, 149, [(10, _), (9, _), (8, _), (7, _), (6, _), (5, _), (0, _), (1, _), (2, _), (3, _), (4, _)], [_])) rfl ?_
                  refine pm_Fv.gf rfl rfl H1.m0 H1.o0 rfl ?_
                  refine pm_Fv.go 3 (f' := (24, 156, [(10, _), (9, _), (8, _), (7, _), (6, _), (5, _), (0, _), (1, _), (2, _), (3, _), (4, _)], [_, _, _, _])) rfl ?_
                  refine pm_Fv.cvF rfl rfl rfl rfl (by decide) (Nat.le_of_ble_eq_true rfl) (Nat.le_of_ble_eq_true rfl) H1.m192 H1.o192 (ev_fadd L xs H1 (a := (oI (hq_g ar 190)) k) (b := -1) (c := -1) (by omega) (by omega) (by omega) cr.1 (by rw [len1]; exact l8) (show fd_c (od_mq (hq_g ar 190) a b c d) k < 800 by omega) (by rw [len1, len1]; exact l4) (by rw [len1, len1]; exact l5) (by rw [len1]; exact l6) (by rw [len1]; exact l7)) (fun s2 q2 => ?_)
                  obtain ⟨ad2, ar2, H2, K2, m2⟩ := q2
                  refine pm_Fv.inc rfl rfl (Nat.le_of_ble_eq_true rfl) ?_
                  refine pm_Fv.go 1 (f' := (24, 10, [(5, _), (10, _), (9, _), (8, _), (7, _), (6, _), (0, _), (1, _), (2, _), (3, _), (4, _)], [])) rfl ?_
                  have qk : (od_mq (hq_g ar 190) a b c d) k = 1 := by
                    unfold od_mq
                    rw [if_pos (by omega)]
                  rw [if_pos qk] at cs
                  obtain ⟨k1, k2, k3, k4, k5, k6, k7⟩ := K2
                  rw [show hq_u (hq_u z 9 (fd_c (od_mq (hq_g ar 190) a b c d) k)) 9 (hq_u z 9 (fd_c (od_mq (hq_g ar 190) a b c d) k) 9 + 1) = hq_u z 9 (fd_c (od_mq (hq_g ar 190) a b c d) k + 1) from by rw [hq_u_u]; rfl] at H2
                  refine pm_Fv.weak (ih (k + 1) s2 ad2 ar2 (by omega) (by rw [show ((k + 1 : Nat) : Int) = (k : Int) + 1 by omega, cs]; exact H2) ?_ (by rw [show ((k + 1 : Nat) : Int) = (k : Int) + 1 by omega]; exact fun x x0 x1 hx => (hq_g_ne (k1 198 (by decide) (by decide) (by decide)) _).trans (td1 x x0 x1 hx))) rfl
                  rw [show ((k + 1 : Nat) : Int) = (k : Int) + 1 by omega, cs]
                  refine ⟨fun r a1 a2 a3 a4 => (k1 r a1 a2 a3).trans (ho1 r a1 a2 a3 a4), (congrArg Prod.fst (k1 198 (by decide) (by decide) (by decide))).trans ((len1 198).trans t8), (hq_g_ne (k1 198 (by decide) (by decide) (by decide)) _).trans t01, fun i i0 i1 => ?_, k3, k4, k5, k6, k7, hq_rm_tr rm1 m2⟩
                  have kk := k2 i i0 (show i ≤ fd_c (od_mq (hq_g ar 190) a b c d) k by omega)
                  have kk : hq_g ar2 193 i = (if i = fd_c (od_mq (hq_g ar 190) a b c d) k then (oI (hq_g ar 190)) k else hq_g (hq_w ar' 198 ((oD (hq_g ar 190)) k) (fo_tgs (fun p => oV (hq_g ar 190) ((oI (hq_g ar 190)) p) 6) (oD (hq_g ar 190)) k)) 193 i) ∧ hq_g ar2 194 i = (if i = fd_c (od_mq (hq_g ar 190) a b c d) k then -1 else hq_g (hq_w ar' 198 ((oD (hq_g ar 190)) k) (fo_tgs (fun p => oV (hq_g ar 190) ((oI (hq_g ar 190)) p) 6) (oD (hq_g ar 190)) k)) 194 i) ∧ hq_g ar2 195 i = (if i = fd_c (od_mq (hq_g ar 190) a b c d) k then -1 else hq_g (hq_w ar' 198 ((oD (hq_g ar 190)) k) (fo_tgs (fun p => oV (hq_g ar 190) ((oI (hq_g ar 190)) p) 6) (oD (hq_g ar 190)) k)) 195 i) := kk
                  rw [kk.1, kk.2.1, kk.2.2, fd_a, if_pos qk]
                  by_cases x : i = fd_c (od_mq (hq_g ar 190) a b c d) k
                  · rw [if_pos x, if_pos x, if_pos x, x, iu_at]
                    exact ⟨rfl, rfl, rfl⟩
                  · rw [if_neg x, if_neg x, if_neg x, iu_ne x, ff1 193 i (by decide), ff1 194 i (by decide), ff1 195 i (by decide)]
                    exact hf i i0 (by omega)
theorem ev_dmatch (H : Hp σ ad z ar lr) (hl : od_L z ar) (N : od_N (hq_g ar 190) (z 8)) {a b c d : Int} (ha : -2147483648 ≤ a ∧ a ≤ 2147483647) (hd : -2147483648 ≤ d ∧ d ≤ 2147483647) (t8 : (ar 198).1 = 13) (t0 : hq_g ar 198 0 = 0) (l4 : (ar 194).1 = (ar 193).1) (l5 : (ar 195).1 = (ar 193).1) (l6 : 16 ≤ (ar 193).1 ∧ (ar 193).1 ≤ 1600) : pm_Fv (tq_P L xs) (pm_enter 24 [.ref 0, .int (zI a), .int (zI b), .int (zI c), .int (zI d)]) σ (fun o s => o = .inl (some (.int (zI (fd_c (od_mq (hq_g ar 190) a b c d) (hq_g ar 190 0))))) ∧ ∃ ad' ar', Hp s ad' (hq_u z 9 (fd_c (od_mq (hq_g ar 190) a b c d) (hq_g ar 190 0))) ar' lr ∧ (∀ r, r ≠ 193 → r ≠ 194 → r ≠ 195 → r ≠ 198 → ar' r = ar r) ∧ (ar' 198).1 = 13 ∧ hq_g ar' 198 0 = 0 ∧ (∀ i, 0 ≤ i → i < fd_c (od_mq (hq_g ar 190) a b c d) (hq_g ar 190 0) → hq_g ar' 193 i = fd_a (od_mq (hq_g ar 190) a b c d) (oI (hq_g ar 190)) (fun _ => 0) (hq_g ar 190 0).toNat i ∧ hq_g ar' 194 i = -1 ∧ hq_g ar' 195 i = -1) ∧ (ar' 194).1 = (ar' 193).1 ∧ (ar' 195).1 = (ar' 193).1 ∧ 16 ≤ (ar' 193).1 ∧ (ar' 193).1 ≤ 1600 ∧ fd_c (od_mq (hq_g ar 190) a b c d) (hq_g ar 190 0) ≤ ((ar' 193).1 : Int) ∧ hq_rm σ ar lr s ar' lr) := by
  show pm_Fv (tq_P L xs) (24, 0, [(0, .ref 0), (1, .int (zI a)), (2, .int (zI b)), (3, .int (zI c)), (4, .int (zI d))], []) σ _
  have n0 := N.W.2.1
  refine pm_Fv.go 1 (f' := (24, 1, [(0, _), (1, _), (2, _), (3, _), (4, _)], [_])) rfl ?_
  refine pm_Fv.gf rfl rfl H.m0 H.o0 rfl ?_
  refine pm_Fv.cvF rfl rfl rfl rfl (by decide) (Nat.le_of_ble_eq_true rfl) (Nat.le_of_ble_eq_true rfl) H.m192 H.o192 (ev_fclear L xs H) (fun s1 q1 => ?_)
  obtain ⟨H1, r1⟩ := q1
  refine pm_Fv.go 2 (f' := (24, 10, [(5, _), (0, _), (1, _), (2, _), (3, _), (4, _)], [])) rfl ?_
  refine pm_Fv.weak (ev_dmatchL (σ := σ) L xs (z := z) hl N ha hd (hq_g ar 190 0).toNat 0 s1 ad ar (by omega) (by rw [show ((0 : Nat) : Int) = 0 from rfl, fd_c_0]; exact H1) ?_ (fun x x0 x1 => absurd x1 (by omega))) rfl
  rw [show ((0 : Nat) : Int) = 0 from rfl, fd_c_0]
  exact ⟨fun _ _ _ _ _ => rfl, t8, t0, fun i i0 i1 => absurd i1 (by omega), l4, l5, l6.1, l6.2, by omega, hq_rm_refl r1⟩
end MS
