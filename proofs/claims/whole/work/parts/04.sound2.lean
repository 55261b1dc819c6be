/-! the heap: what the pure machine's cells say of it, and the rows that read, write and make -/
def pm_em (z : Nat) (so : UInt32 → Nat) (cA : Nat → ClassId) : pm_E → va_E
  | .inl (k, n, .inl f) => .inl (cA k, n, .inl f)
  | .inl (k, n, .inr (.inl f)) => .inl (cA k, n, .inr (.inl f))
  | .inl (k, n, .inr (.inr (.inl f))) => .inl (cA k, n, .inr (.inr (.inl f)))
  | .inl (k, n, .inr (.inr (.inr (.inl f)))) => .inl (cA k, n, .inr (.inr (.inr (.inl f))))
  | .inl (k, n, .inr (.inr (.inr (.inr f)))) => .inl (cA k, n, .inr (.inr (.inr (.inr (fun j => (f j).map (fun a => z + a))))))
  | .inr (c, fs) => .inr (c, fs.map (pm_rv z so))
def pm_rel (z : Nat) (so : UInt32 → Nat) (cA : Nat → ClassId) (D : va_G) (cl : List vw_C) (H0 : Heap) (σ : pm_S) (H : Heap) : Prop :=
  H.size = z + σ.2.1 ∧ (∀ k, k < σ.2.1 → va_at D cl (z + k, pm_em z so cA (σ.1 k)) H) ∧ ∀ q : Nat, q < z → H[q]? = H0[q]?
theorem pm_rel.put {z : Nat} {so : UInt32 → Nat} {cA : Nat → ClassId} {D : va_G} {cl : List vw_C} {H0 H H1 : Heap} {σ : pm_S} {k : Nat} {x : pm_E} (h : pm_rel z so cA D cl H0 σ H) (hz : H1.size = H.size) (ho : ∀ q : Nat, q ≠ z + k → H1[q]? = H[q]?) (hx : va_at D cl (z + k, pm_em z so cA x) H1) : pm_rel z so cA D cl H0 (pm_set σ k x) H1 := by
  refine ⟨hz.trans h.1, fun j hj => ?_, fun q hq => ?_⟩
  · show va_at D cl (z + j, pm_em z so cA (if j = k then x else σ.1 j)) H1
    by_cases e : j = k
    · rw [if_pos e, e]; exact hx
    · rw [if_neg e]
      exact (h.2.1 j hj).kept (ho _ (by show z + j ≠ z + k; omega))
  · rw [ho q (by omega)]
    exact h.2.2 q hq
theorem pm_rel.add {z : Nat} {so : UInt32 → Nat} {cA : Nat → ClassId} {D : va_G} {cl : List vw_C} {H0 H H1 : Heap} {σ : pm_S} {n : Nat} {x : pm_E} (h : pm_rel z so cA D cl H0 σ H) (hz : H1.size = H.size + 1) (ho : ∀ q : Nat, q < H.size → H1[q]? = H[q]?) (hx : va_at D cl (z + σ.2.1, pm_em z so cA x) H1) : pm_rel z so cA D cl H0 (pm_add σ x n) H1 := by
  have hs := h.1
  refine ⟨by show H1.size = z + (σ.2.1 + 1); omega, fun j hj => ?_, fun q hq => ?_⟩
  · have hj : j < σ.2.1 + 1 := hj
    show va_at D cl (z + j, pm_em z so cA (if j = σ.2.1 then x else σ.1 j)) H1
    by_cases e : j = σ.2.1
    · rw [if_pos e, e]; exact hx
    · rw [if_neg e]
      exact (h.2.1 j (by omega)).kept (ho _ (by show z + j < H.size; omega))
  · rw [ho q (by omega)]
    exact h.2.2 q hq
theorem pm_one {D : va_G} {cl : List vw_C} {q : Nat × va_E} {H : Heap} (h : va_at D cl q H) : va_P D cl [q] H := by
  intro k x hk
  have hz : k < 1 := (List.getElem?_eq_some_iff.mp hk).1
  rw [show k = 0 by omega] at hk
  cases hk
  exact h
/-- what a field's site needs -/
def pm_fok (cl : List vw_C) (Ts Nw : List Cond) (own : String) (ini : Bool) (ix kd ci k : Nat) (ty : FieldType) : Prop :=
  ∃ (C : String) (T : u_T) (N : Nat) (ty0 : Nat → FieldType), cl[ci]? = some (C, T, N) ∧ k < N ∧ (∀ w ∈ u_ws C T N, w ∈ Ts) ∧ (∀ j, j < N → parseFieldDescriptor (T j).2.2.1 = some (ty0 j)) ∧ (∀ a, a < N → ∀ b, b < N → a ≠ b → (T a).2.1 ≠ (T b).2.1) ∧ ty0 k = ty ∧
  (Cond.fieldLink own ix (T k).1 (T k).2.1 (T k).2.2.1 ∈ Ts ∨ ∃ host, Cond.fieldLinkNest own ix (T k).1 (T k).2.1 (T k).2.2.1 host ∈ Nw) ∧
  (kd = 1 → (T k).2.2.2 = false) ∧ (kd ≠ 0 → kd ≠ 1 → ini = true ∧ (T k).2.2.2 = true ∧ (T k).1 = own ∧ Cond.fieldLink own ix (T k).1 (T k).2.1 (T k).2.2.1 ∈ Ts)
/-- what a class that is made needs -/
def pm_nok (z : Nat) (so : UInt32 → Nat) (cl : List vw_C) (Ts : List Cond) (own : String) (ix ci : Nat) (fs : List Value) : Prop :=
  ∃ (C : String) (T : u_T) (N : Nat) (ty0 : Nat → FieldType), cl[ci]? = some (C, T, N) ∧ (∀ w ∈ u_ws C T N, w ∈ Ts) ∧ (∀ j, j < N → parseFieldDescriptor (T j).2.2.1 = some (ty0 j)) ∧ Cond.classLink own ix C ∈ Ts ∧ Cond.instantiable C N ∈ Ts ∧ Cond.initialized C ∈ Ts ∧ fs.length = N ∧ ∀ j, j < N → defaultValue (ty0 j) = vp_V (fs.map (pm_rv z so)) j
theorem pm_ok_rv {z : Nat} {so : UInt32 → Nat} {ty : FieldType} {v : Value} (h : pm_ok ty v = true) : narrow ty (pm_rv z so v) = pm_rv z so v ∧ fits ty (pm_rv z so v) = true := by
  cases ty <;> cases v <;> first | exact Bool.noConfusion (show false = true from h) | exact ⟨rfl, rfl⟩ | skip
  rename_i x
  have hx : x = 0 ∨ x = 1 := by simpa [pm_ok] using h
  rcases hx with rfl | rfl
  · exact ⟨show Value.int ((0 : Int32) &&& 1) = Value.int 0 by decide, show (((0 : Int32) == 0) || ((0 : Int32) == 1)) = true by decide⟩
  · exact ⟨show Value.int ((1 : Int32) &&& 1) = Value.int 1 by decide, show (((1 : Int32) == 0) || ((1 : Int32) == 1)) = true by decide⟩
section PM2
variable {p : Program} {l : Launch} {e : Env} {R : Room} {s : State} {m : MethodId} {args : Array Value} {below : List Frame} {meth : Method} {c : Code} {H H0 : Heap} {locs : List Loc} {cells slots : Nat} {Q : State → Prop}
variable {cc : ByteArray} {pc pc' n nL mi z : Nat} {ls : Array Slot} {lv lv' : pm_L} {st st' rest : List Value} {σ σ' : pm_S} {so : UInt32 → Nat} {cA : Nat → ClassId} {D : va_G} {cl : List vw_C} {tys : List (ClassId × FieldType)} {P : pm_P} {i : Instr} {Ts Nw : List Cond} {own SC : String} {ini : Bool}
theorem pm_put_ok (hx : p.tables.exec = Jvm.exec) (hb : c.code = cc) (hown : s.vm.findClass own = some m.cls) (hts : ∀ w ∈ Ts, w.before args s = true) (hnw : ∀ w ∈ Nw, va_Nw w s) (hK : va_K D cl tys s) (hini : ini = true → meth.name = "<init>") {ix kd ci k a : Nat} {ty : FieldType} (hf : pm_fok cl Ts Nw own ini ix kd ci k ty) (hkd : kd ≠ 0) {fs : List Value} (hat : va_at D cl (a, .inr (ci, fs)) H) {v : Value} (hn : narrow ty v = v) (hfit : fits ty v = true) (hl : k < fs.length) (hd : decode cc pc = .ok (.putfield ix, 3))
    (kk : ∀ (H1 : Heap) (lc : Loc), H1.size = H.size → (∀ q : Nat, q ≠ a → H1[q]? = H[q]?) → va_at D cl (a, .inr (ci, fs.set k v)) H1 → lc.base = a → W p l e R s m args below meth c H1 (locs ++ [lc]) cells slots Q (F0 m (pc + 3) ls rest)) : W p l e R s m args below meth c H locs cells slots Q (F0 m pc ls (v :: .ref a :: rest)) := by
  obtain ⟨C, T, N, ty0, hc, hk, hin, hty, hnm, rfl, hlk, hk1, hk2⟩ := hf
  have hap := va_apart (own := own) hts hin ty0 hty hnm hK hc
  obtain ⟨r, h1, cell, q1, q2, q3, q4⟩ := hat
  have hr : r = (C, T, N) := Option.some.inj (h1.symm.trans hc)
  subst hr
  obtain ⟨hS, hfc, kC, hkC, hkind⟩ := hK.1 ci _ hc
  obtain ⟨cf, kf, fi, f, hi, hsl⟩ := hS k hk
  have hlay := hts _ (hin _ (u_in_lay hk))
  unfold u_lay at hlay
  have hst := (u_facts hfc hkC (u_lays hts hin hk) hi).1
  have key : ∀ H1 : Heap, H1[a]? = some (cell.setSlot f.slot v) → H1.size = H.size → (∀ q : Nat, q ≠ a → H1[q]? = H[q]?) → W p l e R s m args below meth c H1 (locs ++ [⟨a, f.slot⟩]) cells slots Q (F0 m (pc + 3) ls rest) := by
    intro H1 e1 e2 e3
    refine kk H1 ⟨a, f.slot⟩ e2 e3 ?_ rfl
    rw [hsl] at e1
    exact ⟨_, hc, t_OB.to (V := updV (vp_V fs) k v) ⟨_, e1, q2, q3, t_set q4 hap hk v⟩ (fun j _ => vp_updV_set hl v j)⟩
  by_cases hkd1 : kd = 1
  · have hfin := hk1 hkd1
    rw [if_neg (by rw [hfin]; decide)] at hlay
    have h6 := u_store hfc hkC hkind hlay hi (hty k hk) hn hfit
    rcases hlk with hlk | ⟨host, hlk⟩
    · exact W.putK hx hb (f := f) ⟨hown, hts _ hlk, ⟨_, _, _, hi⟩, hst⟩ (by rw [q2]; exact h6) q1 q3 (by rw [hsl]; exact k2_hasslot (q4 k hk)) rfl rfl hd key
    · exact va_WputK hx hb (f := f) hown (va_Nw.use rfl (hnw _ hlk)) hi hst (by rw [q2]; exact h6) q1 q3 (by rw [hsl]; exact k2_hasslot (q4 k hk)) rfl rfl hd key
  · obtain ⟨hi0, hfin, hdecl, hlk⟩ := hk2 hkd hkd1
    rw [if_pos hfin] at hlay
    have hcf : m.cls = cf := by
      obtain ⟨_, _, c', _, _, _, -, -, hf', -, -, -, hown2, -⟩ := Cond.laysFinal_spec hlay
      have e1 : c' = cf := by have := hi.symm.trans hf'; simp at this; exact this.1.symm
      rw [hdecl] at hown2
      rw [← e1]; exact Option.some.inj (hown.symm.trans hown2)
    have h6 := u_fits hfc hkC hkind (Or.inr hlay) hi (hty k hk) hn hfit
    exact W.putFinK hx hb hown (hts _ hlk) hi hst hcf (hini hi0) (by rw [q2]; exact h6) q1 q3 (by rw [hsl]; exact k2_hasslot (q4 k hk)) rfl rfl hd key
theorem pm_get_ok (hx : p.tables.exec = Jvm.exec) (hb : c.code = cc) (hown : s.vm.findClass own = some m.cls) (hts : ∀ w ∈ Ts, w.before args s = true) (hnw : ∀ w ∈ Nw, va_Nw w s) (hK : va_K D cl tys s) {ix kd ci k a : Nat} {ty : FieldType} (hf : pm_fok cl Ts Nw own ini ix kd ci k ty) {fs : List Value} (hat : va_at D cl (a, .inr (ci, fs)) H) {v : Value} (hv : fs[k]? = some v) (hd : decode cc pc = .ok (.getfield ix, 3))
    (kk : W p l e R s m args below meth c H locs cells slots Q (F0 m (pc + 3) ls (v :: rest))) : W p l e R s m args below meth c H locs cells slots Q (F0 m pc ls (.ref a :: rest)) := by
  obtain ⟨C, T, N, ty0, hc, hk, hin, hty, hnm, rfl, hlk, -, -⟩ := hf
  rcases hlk with hlk | ⟨host, hlk⟩
  · exact va_get hx hb hts hin hown hK (pm_one hat) 0 rfl hc k hk (hts _ hlk) (fun x h => h) hv hd kk
  · exact va_getN hx hb hts hin hown hK (pm_one hat) 0 rfl hc k hk (va_Nw.use rfl (hnw _ hlk)) (fun x h => h) hv hd kk
set_option maxHeartbeats 2000000 in
theorem pm_i5_ok (hx : p.tables.exec = Jvm.exec) (hb : c.code = cc) (hd : decode cc pc = .ok (i, n)) (hn : pm_ln i n = true) (hown : s.vm.findClass own = some m.cls) (hts : ∀ w ∈ Ts, w.before args s = true) (hnw : ∀ w ∈ Nw, va_Nw w s) (hK : va_K D cl [(cA 0, .int), (cA 1, .long), (cA 2, .object SC)] s) (hini : ini = true → meth.name = "<init>")
    (hfl : ∀ ix kd ci k ty, pm_fld P mi ix = some (kd, ci, k, ty) → pm_fok cl Ts Nw own ini ix kd ci k ty) (hold : ∀ a : UInt32, a < 3 → va_T .int (so a) (pm_old P a).1 (fun j => .int ((pm_old P a).2 j)) (fun _ => False) s H) (harc : ∀ ci, pm_arr P 0 0 = some ci → ∃ r : vw_C, cl[ci]? = some r ∧ r.1 = SC)
    (h : pm_i5 P mi pc lv st σ i = some (pc', lv', st', σ')) (hl : lv_has ls nL (pm_rl z so lv)) (hrel : pm_rel z so cA D cl H0 σ H) (hlocs : ∀ q ∈ locs, z ≤ q.base)
    (kk : ∀ (H1 : Heap) (locs1 : List Loc), lv_has ls nL (pm_rl z so lv') → pm_rel z so cA D cl H0 σ' H1 → (∀ q ∈ locs1, z ≤ q.base) → W p l e R s m args below meth c H1 locs1 cells slots Q (F0 m pc' ls (pm_rs z so st'))) : σ'.2 = σ.2 ∧ W p l e R s m args below meth c H locs cells slots Q (F0 m pc ls (pm_rs z so st)) := by
  have hlocs1 : ∀ {a k : Nat}, ∀ q ∈ locs ++ [(⟨z + a, k⟩ : Loc)], z ≤ q.base := by
    intro a k q hq
    rcases List.mem_append.mp hq with h | h
    · exact hlocs q h
    · rw [List.mem_singleton.mp h]; exact Nat.le_add_right _ _
  cases i <;> try (exact absurd (show (none : Option pm_N) = some _ from h) (by simp))
  case getfield ix =>
    have hn : n = 3 := by simpa [pm_ln] using hn
    subst hn
    dsimp only [pm_i5] at h
    split at h
    · next a r =>
      split at h
      · next ha =>
        split at h
        · next kd ci k ty cj fs hf he =>
          split at h
          · next hc =>
            subst hc
            split at h
            · next v hv =>
              cases h
              refine ⟨rfl, ?_⟩
              have hat := hrel.2.1 a ha
              rw [he] at hat
              exact pm_get_ok hx hb hown hts hnw hK (hfl _ _ _ _ _ hf) hat (by rw [List.getElem?_map, hv]; rfl) hd (kk H locs hl hrel hlocs)
            · cases h
          · cases h
        · cases h
      · cases h
    · cases h
  case putfield ix =>
    have hn : n = 3 := by simpa [pm_ln] using hn
    subst hn
    dsimp only [pm_i5] at h
    split at h
    · next v a r =>
      split at h
      · next ha =>
        split at h
        · next kd ci k ty cj fs hf he =>
          split at h
          · next hc =>
            obtain ⟨hc, hk, hok, hkd⟩ := hc
            subst hc
            cases h
            refine ⟨rfl, ?_⟩
            have hat := hrel.2.1 a ha
            rw [he] at hat
            obtain ⟨h1, h2⟩ := pm_ok_rv (z := z) (so := so) hok
            refine pm_put_ok hx hb hown hts hnw hK hini (hfl _ _ _ _ _ hf) hkd hat h1 h2 (by rw [List.length_map]; exact hk) hd fun H1 lc e2 e3 e4 e5 => ?_
            refine kk H1 _ hl (hrel.put e2 e3 ?_) ?_
            · rw [← List.map_set] at e4
              exact e4
            · intro q hq
              rcases List.mem_append.mp hq with h | h
              · exact hlocs q h
              · rw [List.mem_singleton.mp h, e5]; exact Nat.le_add_right _ _
          · cases h
        · cases h
      · cases h
    · cases h
  case iaload =>
    have hn : n = 1 := by simpa [pm_ln] using hn
    subst hn
    dsimp only [pm_i5] at h
    split at h
    · next j a r =>
      split at h
      · next ha =>
        split at h
        · next k f he =>
          split at h
          · cases h
          · next hj =>
            cases h
            refine ⟨rfl, ?_⟩
            have hat := hrel.2.1 a ha
            rw [he] at hat
            exact va_iald hx hb hK (pm_one hat) 0 0 rfl rfl hj hd (kk H locs hl hrel hlocs)
        · cases h
      · cases h
    · next j a r =>
      split at h
      · cases h
      · next hj =>
        cases h
        refine ⟨rfl, ?_⟩
        have ha : a < 3 := Decidable.byContradiction fun q => hj (Or.inl q)
        obtain ⟨cell, o1, o2, o3, o4, o5, o6, -⟩ := hold a ha
        have hlt : j.toNatClampNeg < (pm_old P a).1 := Nat.not_le.mp fun q => hj (Or.inr (Or.inr q))
        exact W.iald hx hb o1 o2 o3 (fun q => hj (Or.inr (q.imp id (fun q => Nat.le_trans o4 q)))) (o6 _ hlt) rfl rfl hd (kk H locs hl hrel hlocs)
    · cases h
  case laload =>
    have hn : n = 1 := by simpa [pm_ln] using hn
    subst hn
    dsimp only [pm_i5] at h
    split at h
    · next j a r =>
      split at h
      · next ha =>
        split at h
        · next k f he =>
          split at h
          · cases h
          · next hj =>
            cases h
            refine ⟨rfl, ?_⟩
            have hat := hrel.2.1 a ha
            rw [he] at hat
            exact va_lald hx hb hK (pm_one hat) 0 1 rfl rfl hj hd (kk H locs hl hrel hlocs)
        · cases h
      · cases h
    · cases h
  case aaload =>
    have hn : n = 1 := by simpa [pm_ln] using hn
    subst hn
    dsimp only [pm_i5] at h
    split at h
    · next j a r =>
      split at h
      · next ha =>
        split at h
        · next k f he =>
          split at h
          · cases h
          · next hj =>
            cases h
            refine ⟨rfl, ?_⟩
            have hat := hrel.2.1 a ha
            rw [he] at hat
            refine va_aldq hx hb hK (pm_one hat) 0 2 rfl rfl hj hd ?_
            have ev : va_rf ((f j.toNatClampNeg).map (fun a => z + a)) = pm_rv z so (pm_vr (f j.toNatClampNeg)) := by
              cases f j.toNatClampNeg <;> rfl
            show W p l e R s m args below meth c H locs cells slots Q (F0 m _ ls (va_rf ((f j.toNatClampNeg).map (fun a => z + a)) :: _))
            rw [ev]
            exact kk H locs hl hrel hlocs
        · cases h
      · cases h
    · cases h
  case iastore =>
    have hn : n = 1 := by simpa [pm_ln] using hn
    subst hn
    dsimp only [pm_i5] at h
    split at h
    · next x j a r =>
      split at h
      · next ha =>
        split at h
        · next k f he =>
          split at h
          · cases h
          · next hj =>
            cases h
            refine ⟨rfl, ?_⟩
            have hat := hrel.2.1 a ha
            rw [he] at hat
            refine W.iast hx hb hat ((hK.2 0 _ rfl).1 k (fun j => .int (f j))) (fun q => by cases q) (by show ¬ (j < 0 ∨ (arrV _ _ _).slots.size ≤ _); rw [arrV_size]; exact hj) rfl rfl hd fun H1 e1 e2 e3 => ?_
            refine kk H1 _ hl (hrel.put e2 e3 ?_) hlocs1
            show H1[z + a]? = some (vp_cell _ _)
            rw [e1]
            rw [vp_cell_i, vp_cell_i, arrV_store]
            congr 2
            funext q
            by_cases hq : q = j.toNatClampNeg <;> simp [updV, upd, hq]
        · cases h
      · cases h
    · cases h
  case lastore =>
    have hn : n = 1 := by simpa [pm_ln] using hn
    subst hn
    dsimp only [pm_i5] at h
    split at h
    · next x j a r =>
      split at h
      · next ha =>
        split at h
        · next k f he =>
          split at h
          · cases h
          · next hj =>
            cases h
            refine ⟨rfl, ?_⟩
            have hat := hrel.2.1 a ha
            rw [he] at hat
            refine W.last hx hb hat ((hK.2 1 _ rfl).1 k (fun j => .long (f j))) (fun q => by cases q) (by show ¬ (j < 0 ∨ (arrV _ _ _).slots.size ≤ _); rw [arrV_size]; exact hj) rfl rfl hd fun H1 e1 e2 e3 => ?_
            refine kk H1 _ hl (hrel.put e2 e3 ?_) hlocs1
            show H1[z + a]? = some (vp_cell _ _)
            rw [e1]
            rw [vp_cell_l, vp_cell_l, arrV_store]
            congr 2
            funext q
            by_cases hq : q = j.toNatClampNeg <;> simp [updV, vp_updL, hq]
        · cases h
      · cases h
    · cases h
  case aastore =>
    have hn : n = 1 := by simpa [pm_ln] using hn
    subst hn
    dsimp only [pm_i5] at h
    split at h
    · next x j a r =>
      split at h
      · next ha =>
        obtain ⟨ha, hxx⟩ := ha
        split at h
        · next k f cj vs ci he hex har =>
          split at h
          · cases h
          · next hj =>
            cases h
            refine ⟨rfl, ?_⟩
            have hat := hrel.2.1 a ha
            rw [he] at hat
            have hax := hrel.2.1 x hxx
            rw [hex] at hax
            obtain ⟨q0, hq0, hq1⟩ := harc ci har
            have hji : cj = ci := Decidable.byContradiction fun q => hj (Or.inr q)
            have hin : ¬ (j < 0 ∨ k ≤ j.toNatClampNeg) := fun q => hj (Or.inl q)
            subst hji
            obtain ⟨r', hr', cellV, g1, g2, g3, -⟩ := hax
            have hcls := (hK.1 cj q0 hq0).2
            obtain ⟨kA, comp, k1, k2, k3, -⟩ := (hK.2 2 _ rfl).2
            rw [hq1] at hcls
            have hcomp : comp = D.1 cj := Option.some.inj (k3.symm.trans hcls.1)
            subst hcomp
            obtain ⟨kC, hkC, -⟩ := hcls.2
            refine W.aast hx hb hat (fun q h => by cases h) (fun h => by cases h) k1 k2 rfl hkC ⟨fun q => hin (Or.inl q), by show _ < (arrV _ _ _).slots.size; rw [arrV_size]; exact Nat.not_le.mp fun q => hin (Or.inr q)⟩ g1 (fun q h => by rw [g3] at h; cases h) (by rw [g2]; exact hkC) (by rw [g2]; exact va_assign hcls) rfl rfl hd fun H1 e1 e2 e3 => ?_
            refine kk H1 _ hl (hrel.put e2 e3 ?_) hlocs1
            show H1[z + a]? = some (vp_cell _ _)
            rw [e1]
            rw [vp_cell_q, vp_cell_q, arrV_store]
            congr 2
            funext q
            by_cases hq : q = j.toNatClampNeg
            · subst hq
              simp [updV, va_up, va_rf]
            · simp [updV, va_up, hq]
        · cases h
      · cases h
    · cases h
  case arraylength =>
    have hn : n = 1 := by simpa [pm_ln] using hn
    subst hn
    dsimp only [pm_i5] at h
    split at h
    · next a r =>
      split at h
      · next ha =>
        split at h
        · next k f he =>
          cases h
          refine ⟨rfl, ?_⟩
          have hat := hrel.2.1 a ha
          rw [he] at hat
          exact va_alen hx hb hK (pm_one hat) 0 0 rfl rfl rfl hd (kk H locs hl hrel hlocs)
        · next k f he =>
          cases h
          refine ⟨rfl, ?_⟩
          have hat := hrel.2.1 a ha
          rw [he] at hat
          exact va_alen hx hb hK (pm_one hat) 0 1 rfl rfl rfl hd (kk H locs hl hrel hlocs)
        · cases h
      · cases h
    · next a r =>
      split at h
      · next ha =>
        cases h
        refine ⟨rfl, ?_⟩
        obtain ⟨cell, o1, o2, o3, o4, o5, o6, -⟩ := hold a ha
        exact W.alen hx hb o1 o2 o5 rfl rfl hd (kk H locs hl hrel hlocs)
      · cases h
    · cases h
end PM2
