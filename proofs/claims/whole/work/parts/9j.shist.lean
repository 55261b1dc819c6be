/-! groups, undo, redo, match, agenda of both -/
def SB (L : Nat) (xs : Nat → Int32) (N : Nat) (σ : pm_S) (wi : Nat) (wa : List Value) (mi : Nat) (ma : List Value) : Prop := pm_Fv (tq_P L xs) (pm_enter wi wa) σ (fun o s => ∃ c : Int, (0 ≤ c ∧ c ≤ 4) ∧ o = .inl (some (.int (zI c))) ∧ (∃ ad z ar lr, Hp s ad z ar lr) ∧ pm_Fv (tq_P L xs) (pm_enter mi ma) s (fun o2 t => ∃ v : Int, (v = 0 ∨ v = 1) ∧ o2 = .inl (some (.int (zI v))) ∧ ∃ l, JX (N + 1) t c l ∧ (c = 0 → l = zL v)))
section JJ
variable (L : Nat) (xs : Nat → Int32)
variable {N : Nat} {σ s t : pm_S} {ad : Nat → Nat} {z z' : Nat → Int} {ar ar' : Nat → Nat × (Nat → Int32)} {lr lr' : Nat → Nat × (Nat → Int64)} {Cs : Int → Int → Int} {k0 : Int} {l0 : Int64}
theorem SB.ref (H : Hp σ ad z ar lr) (X : HX Cs z ar) (F : FX z ar lr) (cn : z 1 ≤ N ∧ z 21 ≤ N ∧ z 6 ≤ N) (rm : σ.2.2 + 357479 ≤ 6 * N + 2 * hq_po ar lr ∧ 4 * σ.2.1 + 356931 ≤ 4 * N + hq_po ar lr) {c v : Int} {ci wi mi : Nat} {wa ma : List Value} (hc : 1 ≤ c ∧ c ≤ 4) (vr : v = 0 ∨ v = 1) (D : pm_Ev (tq_P L xs) (pm_enter wi wa) σ (.inl (some (.int (zI c))), pm_add σ (.inr (ci, [])) 6)) (M : ∀ s, Hp s ad z ar lr → pm_Fv (tq_P L xs) (pm_enter mi ma) s (fun o t => o = .inl (some (.int (zI v))) ∧ Hp t ad (hq_u z 29 c) ar lr ∧ t.2 = s.2)) : SB L xs N σ wi wa mi ma := by
  refine pm_Fv.of D ⟨c, by omega, rfl, ⟨ad, z, ar, lr, H.add _ _⟩, (M _ (H.add _ _)).mono ?_⟩
  rintro o t ⟨rfl, Ht, rt⟩
  refine ⟨v, vr, rfl, _, jx_29 X F cn rm Ht rfl F.o1 ?_, fun h => absurd h (by omega)⟩
  rw [rt]
  exact ⟨Nat.le_refl _, Nat.le_refl _⟩
theorem hw_es_o {k : Nat} (h2 : k ≠ 2) (h3 : k ≠ 3) (h6 : k ≠ 6) : hw_es z k = z k := by
  unfold hw_es
  split
  · rw [hq_u_ne h3, hq_u_ne h6]
  · rw [hq_u_ne h2, hq_u_ne h6]
theorem mo_stz_o {k : Nat} (h0 : k ≠ 20) (h1 : k ≠ 21) (h2 : k ≠ 22) : mo_stz z k = z k := by
  unfold mo_stz
  split
  · rw [hq_u_ne h2, hq_u_ne h1]
  · rw [hq_u_ne h0, hq_u_ne h2, hq_u_ne h1]
theorem st_open (J : JX N σ k0 l0) (n5 : N ≤ 600)  : SV L xs N σ 186 [.ref 0] 107 [.ref 199] := by
  obtain ⟨ad, z, ar, lr, Cs, H, X, F, cn, e29, el, rm⟩ := J
  have hl := X.w.le
  have Nn := X.rr.N
  have M := X.mr
  have mh := X.mh
  rcases X.h5 with c | c
  · have z6 := X.h56 c
    refine (wr_openV L xs H (ev_dopen0 L xs H c)).mono ?_
    rintro o s ⟨rfl, Hs, rs⟩
    refine ⟨0, by decide, rfl, ⟨_, _, _, _, Hs⟩, (ev_mopen0 L xs Hs (mh.cg (fun _ _ _ => rfl) mh.n0 mh.n1 mh.o0 mh.o1 mh.op mh.e0 mh.e1) (show z 24 = 0 from X.op.trans c)).mono ?_⟩
    rintro o t ⟨rfl, Ht, rt⟩
    have c1 := cn.1
    have c2 := cn.2.1
    have c3 := cn.2.2
    have X2 := X.grp (z' := hq_u (hq_u (hq_u (hq_u z 5 1) 29 0) 24 1) 25 0) (fun k k5 k24 k25 k29 => by rw [hq_u_ne k25, hq_u_ne k24, hq_u_ne k29, hq_u_ne k5]) (Or.inr rfl) rfl (show (0 : Int) = z 6 from z6.symm) (fun h => absurd (show (1 : Int) = 0 from h) (by decide))
    obtain ⟨m1, m2⟩ := (hq_rm_len (σ := σ) (s := t) (ar := ar) (ar' := ar) (lr := lr) (lr' := lr) (rt.trans rs) (fun _ => rfl) rfl)
    exact ⟨rfl, _, ad, _, ar, lr, Cs, Ht, X2, F.cg rfl rfl rfl rfl rfl rfl rfl rfl rfl rfl rfl rfl rfl (fun _ _ => rfl), ⟨show z 1 ≤ ((N + 1 : Nat) : Int) by omega, show z 21 ≤ ((N + 1 : Nat) : Int) by omega, show z 6 ≤ ((N + 1 : Nat) : Int) by omega⟩, rfl, rfl, by omega, by omega⟩
  · exact SV.ref L xs H X F cn rm (by decide) (wr_open1 L xs H (ev_dopen1 L xs H c)) (fun s Hs => ev_mopen1 L xs Hs mh (X.op.trans c))
theorem st_close (J : JX N σ k0 l0) (n5 : N ≤ 600)  : SI L xs N σ 187 [.ref 0, .ref 208] 108 [.ref 199] := by
  obtain ⟨ad, z, ar, lr, Cs, H, X, F, cn, e29, el, rm⟩ := J
  have hl := X.w.le
  have Nn := X.rr.N
  have M := X.mr
  have mh := X.mh
  have w2 := X.w.h2
  have w3 := X.w.h3
  have w6 := X.w.h6
  have c1 := cn.1
  have c2 := cn.2.1
  have c3 := cn.2.2
  have ud := X.ud
  have l60 := X.l60
  have nl := X.nl
  rcases X.h5 with c | c
  · exact SI.ref L xs H X F cn rm (v := 0) (by decide) (by decide) (wr_close1 L xs H (ev_dclose1 L xs H c)) (fun s Hs => ev_mclose1 L xs Hs mh (X.op.trans c))
  · by_cases e : z 6 = 0
    · have D := ev_dclose0 L xs H c w2 w3 w6
      rw [if_pos e] at D
      rw [show hq_u z 5 0 3 = z 3 from rfl] at D
      refine (wr_closeN L xs H (v := z 3) (by omega) D (fun s q => ⟨_, _, _, _, q.1, F.o1⟩)).mono ?_
      rintro o s ⟨rfl, s0, ⟨H0, r0⟩, rs, hs⟩
      have Hs := hs _ _ _ _ H0
      refine ⟨0, by decide, rfl, ⟨_, _, _, _, Hs⟩, (ev_mclose0 L xs Hs (mh.cg (fun _ _ _ => rfl) mh.n0 mh.n1 mh.o0 mh.o1 mh.op mh.e0 mh.e1) (show z 24 = 1 from X.op.trans c) (show z 25 = 0 from X.ed.trans e)).mono ?_⟩
      rintro o t ⟨rfl, Ht, rt⟩
      have X2 := X.grp (z' := hq_u (hq_u (hq_u (hq_u z 5 0) 29 0) 24 0) 25 0) (fun k k5 k24 k25 k29 => by rw [hq_u_ne k25, hq_u_ne k24, hq_u_ne k29, hq_u_ne k5]) (Or.inl rfl) rfl (show (0 : Int) = z 6 from e.symm) (fun _ => e)
      obtain ⟨m1, m2⟩ := (hq_rm_len (σ := σ) (s := t) (ar := ar) (ar' := ar) (lr := lr) (lr' := ol_w lr (z 3)) (rt.trans (rs.trans r0)) (fun _ => rfl) rfl)
      refine ⟨z 3, by omega, by rw [show hq_u z 5 0 21 - hq_u z 5 0 20 = z 3 from ud.symm], _, ⟨ad, _, ar, _, Cs, Ht, X2, FX.lrw (F.cg rfl rfl rfl rfl rfl rfl rfl rfl rfl rfl rfl rfl rfl (fun _ _ => rfl)) F.kl F.o1, ⟨show z 1 ≤ ((N + 1 : Nat) : Int) by omega, show z 21 ≤ ((N + 1 : Nat) : Int) by omega, show z 6 ≤ ((N + 1 : Nat) : Int) by omega⟩, rfl, rfl, by omega, by omega⟩, fun _ => ol_w_v lr _⟩
    · have D := ev_dclose0 L xs H c w2 w3 w6
      rw [if_neg e] at D
      have e3 : hw_es (hq_u z 5 0) 3 = if z 3 < 60 then z 3 + 1 else z 3 := by
        unfold hw_es
        rw [show hq_u z 5 0 3 = z 3 from rfl]
        by_cases q : z 3 < 60
        · rw [if_pos q, if_pos q]
          rfl
        · rw [if_neg q, if_neg q]
          rfl
      have e2 : hw_es (hq_u z 5 0) 2 = if z 3 < 60 then z 2 else (z 2 + 1) % 61 := by
        unfold hw_es
        rw [show hq_u z 5 0 3 = z 3 from rfl]
        by_cases q : z 3 < 60
        · rw [if_pos q, if_pos q]
          rfl
        · rw [if_neg q, if_neg q]
          rfl
      have e6 : hw_es (hq_u z 5 0) 6 = 0 := by
        unfold hw_es
        split <;> rfl
      have r3 : 0 ≤ (if z 3 < 60 then z 3 + 1 else z 3) ∧ (if z 3 < 60 then z 3 + 1 else z 3) ≤ 60 := by
        split <;> omega
      rw [e3] at D
      refine (wr_closeN L xs H (v := if z 3 < 60 then z 3 + 1 else z 3) (by omega) D (fun s q => ⟨_, _, _, _, q.1, F.o1⟩)).mono ?_
      rintro o s ⟨rfl, s0, ⟨H0, r0⟩, rs, hs⟩
      have Hs := hs _ _ _ _ H0
      have o20 : hw_es (hq_u z 5 0) 20 = z 20 := hw_es_o (by decide) (by decide) (by decide)
      have o21 : hw_es (hq_u z 5 0) 21 = z 21 := hw_es_o (by decide) (by decide) (by decide)
      have o24 : hw_es (hq_u z 5 0) 24 = z 24 := hw_es_o (by decide) (by decide) (by decide)
      have o25 : hw_es (hq_u z 5 0) 25 = z 25 := hw_es_o (by decide) (by decide) (by decide)
      have mh2 : mo_H (hw_es (hq_u z 5 0)) ar := mh.cg (fun _ _ _ => rfl) (by rw [o21]; exact mh.n0) (by rw [o21]; exact mh.n1) (by rw [o20]; exact mh.o0) (by rw [o20, o21]; exact mh.o1) (by rw [o24]; exact mh.op) (by rw [o25]; exact mh.e0) (by rw [o25]; exact mh.e1)
      have ed := X.ed
      refine ⟨0, by decide, rfl, ⟨_, _, _, _, Hs⟩, (ev_mclose2 L xs Hs mh2 (by rw [o24]; exact X.op.trans c) (by rw [o25]; omega)).mono ?_⟩
      rintro o t ⟨rfl, Ht, rt⟩
      generalize hzz : hq_u (hq_u (hw_es (hq_u z 5 0)) 29 0) 24 0 = zz at Ht ⊢
      have p21 : zz 21 = z 21 := by rw [← hzz]; exact o21
      have p20 : zz 20 = z 20 := by rw [← hzz]; exact o20
      have s21 : mo_stz zz 21 = z 21 + 1 := by rw [mo_stz_21, p21]
      have s22 : mo_stz zz 22 = z 21 + 1 := by
        unfold mo_stz
        rw [p21]
        split <;> rfl
      have s20 : mo_stz zz 20 = if z 21 + 1 - z 20 ≤ 60 then z 20 else z 21 + 1 - 60 := by
        unfold mo_stz
        rw [p21, p20]
        by_cases q : z 21 + 1 - z 20 ≤ 60
        · rw [if_pos q, if_pos q]
          show zz 20 = _
          exact p20
        · rw [if_neg q, if_neg q]
          rfl
      rw [o21] at Ht
      have so : ∀ k, k ≠ 20 → k ≠ 21 → k ≠ 22 → k ≠ 25 → hq_u (mo_stz zz) 25 0 k = zz k := fun k a b d f => by rw [hq_u_ne f, mo_stz_o a b d]
      obtain ⟨Cs2, X2⟩ := X.cls (z' := hq_u (mo_stz zz) 25 0) (ar' := hq_cp ar 201 200 (5600 * ((z 21 + 1) % 61)) 0 5600) (by omega) (by omega) (fun k a2 a3 a5 a6 a20 a21 a22 a24 a25 a29 => by rw [so k a20 a21 a22 a25, ← hzz, hq_u_ne a24, hq_u_ne a29, hw_es_o a2 a3 a6, hq_u_ne a5]) (by rw [so 5 (by decide) (by decide) (by decide) (by decide), ← hzz, hq_u_ne (by decide), hq_u_ne (by decide), hw_es_o (by decide) (by decide) (by decide)]; rfl) (by rw [so 24 (by decide) (by decide) (by decide) (by decide), ← hzz]; rfl) rfl (by rw [so 6 (by decide) (by decide) (by decide) (by decide), ← hzz]; exact e6) (by rw [so 3 (by decide) (by decide) (by decide) (by decide), ← hzz]; exact e3) (by rw [so 2 (by decide) (by decide) (by decide) (by decide), ← hzz]; exact e2) (show mo_stz zz 21 = _ from s21) (show mo_stz zz 22 = _ from s22) (show mo_stz zz 20 = _ from s20) rfl
      have zo : ∀ k, k = 0 ∨ k = 1 ∨ k = 9 ∨ k = 26 ∨ k = 28 → hq_u (mo_stz zz) 25 0 k = z k := fun k hk => by rw [so k (by omega) (by omega) (by omega) (by omega), ← hzz, hq_u_ne (by omega), hq_u_ne (by omega), hw_es_o (by omega) (by omega) (by omega), hq_u_ne (by omega)]
      have len : ∀ r, (hq_cp ar 201 200 (5600 * ((z 21 + 1) % 61)) 0 5600 r).1 = (ar r).1 := fun r => hq_cp_len ar 201 200 _ _ _ r
      obtain ⟨m1, m2⟩ := (hq_rm_len (σ := σ) (s := t) (ar := ar) (ar' := hq_cp ar 201 200 (5600 * ((z 21 + 1) % 61)) 0 5600) (lr := lr) (lr' := ol_w lr (if z 3 < 60 then z 3 + 1 else z 3)) (rt.trans (rs.trans r0)) len rfl)
      refine ⟨if z 3 < 60 then z 3 + 1 else z 3, by omega, ?_, _, ⟨ad, _, _, _, Cs2, Ht, X2, FX.lrw (F.cg (zo 0 (by omega)) (zo 9 (by omega)) (zo 26 (by omega)) (zo 28 (by omega)) rfl rfl rfl rfl rfl rfl rfl (len 189) (len 207) (fun r _ => len r)) F.kl F.o1, ⟨?_, ?_, ?_⟩, ?_, rfl, by omega, by omega⟩, fun _ => ol_w_v lr _⟩
      · rw [s21, s20]
        by_cases q : z 3 < 60
        · rw [if_pos q, if_pos (by omega)]
          rw [show z 21 + 1 - z 20 = z 3 + 1 by omega]
        · rw [if_neg q, if_neg (by omega)]
          rw [show z 21 + 1 - (z 21 + 1 - 60) = z 3 by omega]
      · rw [zo 1 (by omega)]
        omega
      · rw [show hq_u (mo_stz zz) 25 0 21 = mo_stz zz 21 from rfl, s21]
        omega
      · rw [so 6 (by decide) (by decide) (by decide) (by decide), ← hzz]
        rw [show hq_u (hq_u (hw_es (hq_u z 5 0)) 29 0) 24 0 6 = hw_es (hq_u z 5 0) 6 from rfl, e6]
        omega
      · rw [so 29 (by decide) (by decide) (by decide) (by decide), ← hzz]
        rfl
theorem st_undo (J : JX N σ k0 l0) (n5 : N ≤ 600)  : SB L xs N σ 188 [.ref 0, .ref 208] 109 [.ref 199] := by
  obtain ⟨ad, z, ar, lr, Cs, H, X, F, cn, e29, el, rm⟩ := J
  have hl := X.w.le
  have Nn := X.rr.N
  have M := X.mr
  have mh := X.mh
  have w2 := X.w.h2
  have w3 := X.w.h3
  have le := hl.2
  have le1 := hl.1
  have m0 := X.w.m0
  have c1 := cn.1
  have c2 := cn.2.1
  have c3 := cn.2.2
  have ud := X.ud
  have rd := X.rd
  have l60 := X.l60
  have nl := X.nl
  have ol := X.ol
  have o0 := mh.o0
  have o1 := mh.o1
  rcases X.h5 with c | c
  · by_cases d : z 3 = 0
    · refine (wr_undoN L xs H (v := 0) (Or.inl rfl) (ev_dundoN L xs H c d) (fun s q => ⟨_, _, _, _, q.1, F.o1⟩)).mono ?_
      rintro o s ⟨rfl, s0, ⟨H0, r0⟩, rs, hs⟩
      have Hs := hs _ _ _ _ H0
      refine ⟨0, by decide, rfl, ⟨_, _, _, _, Hs⟩, (ev_mundoN L xs Hs mh (X.op.trans c) (by omega)).mono ?_⟩
      rintro o t ⟨rfl, Ht, rt⟩
      exact ⟨0, by decide, rfl, _, jx_29 X F cn rm Ht rfl F.o1 (by rw [rt, rs, r0]; omega), fun _ => ol_w_v lr _⟩
    · have jl := hi_j_lt (z 21 - 1)
      have cap := X.w.cap (hi_j (z 21 - 1)) jl
      have jj : ((hi_j (z 21 - 1) : Nat) : Int) = (z 21 - 1) % 61 := by
        unfold hi_j
        omega
      refine (wr_undoN L xs H (v := 1) (Or.inr rfl) (ev_dundo0 L xs H c (by omega) (j := hi_j (z 21 - 1)) (X.hu (z 21 - 1) (by omega) (by omega)) cap (by omega) (by omega) (by omega) w2 (by omega)) (fun s q => by
        obtain ⟨⟨ar9, H9, _⟩, _⟩ := q
        exact ⟨_, _, _, _, H9, F.o1⟩)).mono ?_
      rintro o s ⟨rfl, s0, ⟨⟨ar1, H0, oo, ll, xx⟩, r0⟩, rs, hs⟩
      have Hs := hs _ _ _ _ H0
      have mh1 : mo_H (hq_u (hq_u z 3 (z 3 - 1)) 4 (z 4 + 1)) ar1 := mh.cg (fun r _ _ => ll r) mh.n0 mh.n1 mh.o0 mh.o1 mh.op mh.e0 mh.e1
      refine ⟨0, by decide, rfl, ⟨_, _, _, _, Hs⟩, (ev_mundo0 L xs Hs mh1 (show z 24 = 0 from X.op.trans c) (show z 21 ≠ z 20 by omega)).mono ?_⟩
      rintro o t ⟨rfl, Ht, rt⟩
      rw [show (hq_u (hq_u z 3 (z 3 - 1)) 4 (z 4 + 1)) 21 = z 21 from rfl] at Ht
      have X2 := X.go (z' := hq_u (hq_u (hq_u (hq_u z 3 (z 3 - 1)) 4 (z 4 + 1)) 29 0) 21 (z 21 - 1)) (ar' := hq_cp ar1 200 201 0 (5600 * ((z 21 - 1) % 61)) 5600) c (by omega) (v := -1) (k := (z 21 - 1)) (Or.inl ⟨rfl, by omega, rfl⟩) (fun q a3 a4 a21 a29 => by rw [hq_u_ne a21, hq_u_ne a29, hq_u_ne a4, hq_u_ne a3]) (show z 3 - 1 = z 3 + (-1) by omega) (show z 4 + 1 = z 4 - (-1) by omega) (show z 21 - 1 = z 21 + (-1) by omega) oo ll xx rfl
      have len : ∀ r, (hq_cp ar1 200 201 0 (5600 * ((z 21 - 1) % 61)) 5600 r).1 = (ar r).1 := fun r => (hq_cp_len ar1 200 201 _ _ _ r).trans (ll r)
      have oo2 : ∀ r, 192 ≤ r → r ≠ 200 → hq_cp ar1 200 201 0 (5600 * ((z 21 - 1) % 61)) 5600 r = ar r := fun r r1 r2 => (hq_u_ne r2).trans (oo r (by omega) (by omega))
      obtain ⟨m1, m2⟩ := (hq_rm_len (σ := σ) (s := t) (ar := ar) (ar' := hq_cp ar1 200 201 0 (5600 * ((z 21 - 1) % 61)) 5600) (lr := lr) (lr' := ol_w lr 1) (rt.trans (rs.trans r0)) len rfl)
      exact ⟨1, by decide, rfl, _, ⟨ad, _, _, _, Cs, Ht, X2, FX.lrw (F.cg rfl rfl rfl rfl (oo2 193 (by decide) (by decide)) (oo2 194 (by decide) (by decide)) (oo2 195 (by decide) (by decide)) (oo2 198 (by decide) (by decide)) (oo2 204 (by decide) (by decide)) (oo2 205 (by decide) (by decide)) (oo2 206 (by decide) (by decide)) (len 189) (len 207) (fun r _ => len r)) F.kl F.o1, ⟨show z 1 ≤ ((N + 1 : Nat) : Int) by omega, show z 21 - 1 ≤ ((N + 1 : Nat) : Int) by omega, show z 6 ≤ ((N + 1 : Nat) : Int) by omega⟩, rfl, rfl, by omega, by omega⟩, fun _ => ol_w_v lr _⟩
  · exact SB.ref L xs H X F cn rm (v := 0) (by decide) (by decide) (wr_undo1 L xs H (ev_dundo1 L xs H c)) (fun s Hs => ev_mundo1 L xs Hs mh (X.op.trans c))
theorem st_redo (J : JX N σ k0 l0) (n5 : N ≤ 600)  : SB L xs N σ 189 [.ref 0, .ref 208] 110 [.ref 199] := by
  obtain ⟨ad, z, ar, lr, Cs, H, X, F, cn, e29, el, rm⟩ := J
  have hl := X.w.le
  have Nn := X.rr.N
  have M := X.mr
  have mh := X.mh
  have w2 := X.w.h2
  have w3 := X.w.h3
  have le := hl.2
  have le1 := hl.1
  have m0 := X.w.m0
  have c1 := cn.1
  have c2 := cn.2.1
  have c3 := cn.2.2
  have ud := X.ud
  have rd := X.rd
  have l60 := X.l60
  have nl := X.nl
  have ol := X.ol
  have o0 := mh.o0
  have o1 := mh.o1
  rcases X.h5 with c | c
  · by_cases d : z 4 = 0
    · refine (wr_redoN L xs H (v := 0) (Or.inl rfl) (ev_dredoN L xs H c d) (fun s q => ⟨_, _, _, _, q.1, F.o1⟩)).mono ?_
      rintro o s ⟨rfl, s0, ⟨H0, r0⟩, rs, hs⟩
      have Hs := hs _ _ _ _ H0
      refine ⟨0, by decide, rfl, ⟨_, _, _, _, Hs⟩, (ev_mredoN L xs Hs mh (X.op.trans c) (by omega) (by omega)).mono ?_⟩
      rintro o t ⟨rfl, Ht, rt⟩
      exact ⟨0, by decide, rfl, _, jx_29 X F cn rm Ht rfl F.o1 (by rw [rt, rs, r0]; omega), fun _ => ol_w_v lr _⟩
    · have jl := hi_j_lt (z 21)
      have cap := X.w.cap (hi_j (z 21)) jl
      have jj : ((hi_j (z 21) : Nat) : Int) = (z 21) % 61 := by
        unfold hi_j
        omega
      refine (wr_redoN L xs H (v := 1) (Or.inr rfl) (ev_dredo0 L xs H c w3 (by omega) (j := hi_j (z 21)) (X.hr (z 21) (by omega) (by omega)) cap (by omega) (by omega) (by omega) w2 (by omega)) (fun s q => by
        obtain ⟨⟨ar9, H9, _⟩, _⟩ := q
        exact ⟨_, _, _, _, H9, F.o1⟩)).mono ?_
      rintro o s ⟨rfl, s0, ⟨⟨ar1, H0, oo, ll, xx⟩, r0⟩, rs, hs⟩
      have Hs := hs _ _ _ _ H0
      have mh1 : mo_H (hq_u (hq_u z 3 (z 3 + 1)) 4 (z 4 - 1)) ar1 := mh.cg (fun r _ _ => ll r) mh.n0 mh.n1 mh.o0 mh.o1 mh.op mh.e0 mh.e1
      refine ⟨0, by decide, rfl, ⟨_, _, _, _, Hs⟩, (ev_mredo0 L xs Hs mh1 (show z 24 = 0 from X.op.trans c) (show z 21 ≤ z 22 ∧ z 22 < 90000 by omega) (show z 21 ≠ z 22 by omega)).mono ?_⟩
      rintro o t ⟨rfl, Ht, rt⟩
      rw [show (hq_u (hq_u z 3 (z 3 + 1)) 4 (z 4 - 1)) 21 = z 21 from rfl] at Ht
      have X2 := X.go (z' := hq_u (hq_u (hq_u (hq_u z 3 (z 3 + 1)) 4 (z 4 - 1)) 29 0) 21 (z 21 + 1)) (ar' := hq_cp ar1 200 201 0 (5600 * ((z 21 + 1) % 61)) 5600) c (by omega) (v := 1) (k := (z 21)) (Or.inr ⟨rfl, by omega, rfl⟩) (fun q a3 a4 a21 a29 => by rw [hq_u_ne a21, hq_u_ne a29, hq_u_ne a4, hq_u_ne a3]) (show z 3 + 1 = z 3 + (1) by omega) (show z 4 - 1 = z 4 - (1) by omega) (show z 21 + 1 = z 21 + (1) by omega) oo ll xx rfl
      have len : ∀ r, (hq_cp ar1 200 201 0 (5600 * ((z 21 + 1) % 61)) 5600 r).1 = (ar r).1 := fun r => (hq_cp_len ar1 200 201 _ _ _ r).trans (ll r)
      have oo2 : ∀ r, 192 ≤ r → r ≠ 200 → hq_cp ar1 200 201 0 (5600 * ((z 21 + 1) % 61)) 5600 r = ar r := fun r r1 r2 => (hq_u_ne r2).trans (oo r (by omega) (by omega))
      obtain ⟨m1, m2⟩ := (hq_rm_len (σ := σ) (s := t) (ar := ar) (ar' := hq_cp ar1 200 201 0 (5600 * ((z 21 + 1) % 61)) 5600) (lr := lr) (lr' := ol_w lr 1) (rt.trans (rs.trans r0)) len rfl)
      exact ⟨1, by decide, rfl, _, ⟨ad, _, _, _, Cs, Ht, X2, FX.lrw (F.cg rfl rfl rfl rfl (oo2 193 (by decide) (by decide)) (oo2 194 (by decide) (by decide)) (oo2 195 (by decide) (by decide)) (oo2 198 (by decide) (by decide)) (oo2 204 (by decide) (by decide)) (oo2 205 (by decide) (by decide)) (oo2 206 (by decide) (by decide)) (len 189) (len 207) (fun r _ => len r)) F.kl F.o1, ⟨show z 1 ≤ ((N + 1 : Nat) : Int) by omega, show z 21 + 1 ≤ ((N + 1 : Nat) : Int) by omega, show z 6 ≤ ((N + 1 : Nat) : Int) by omega⟩, rfl, rfl, by omega, by omega⟩, fun _ => ol_w_v lr _⟩
  · exact SB.ref L xs H X F cn rm (v := 0) (by decide) (by decide) (wr_redo1 L xs H (ev_dredo1 L xs H c)) (fun s Hs => ev_mredo1 L xs Hs mh (X.op.trans c))
end JJ
