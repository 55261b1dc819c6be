/-! the heap of desk and reference, by roles -/
theorem pm_set_at (σ : pm_S) (k : Nat) (x : pm_E) : (pm_set σ k x).1 k = x := if_pos rfl
theorem pm_set_ne {σ : pm_S} {k a : Nat} {x : pm_E} (h : a ≠ k) : (pm_set σ k x).1 a = σ.1 a := if_neg h
theorem pm_add_at (σ : pm_S) (x : pm_E) (n : Nat) : (pm_add σ x n).1 σ.2.1 = x := if_pos rfl
theorem pm_add_ne {σ : pm_S} {a : Nat} {x : pm_E} {n : Nat} (h : a ≠ σ.2.1) : (pm_add σ x n).1 a = σ.1 a := if_neg h
def hq_u {α : Type} (f : Nat → α) (k : Nat) (v : α) : Nat → α := fun j => if j = k then v else f j
theorem hq_u_at {α : Type} (f : Nat → α) (k : Nat) (v : α) : hq_u f k v k = v := if_pos rfl
theorem hq_u_ne {α : Type} {f : Nat → α} {k j : Nat} {v : α} (h : j ≠ k) : hq_u f k v j = f j := if_neg h
def hq_ring : Nat → Option Nat := fun j => if j < 61 then some (5 + 3 * j) else none
def hq_arr (a : Nat × (Nat → Int32)) : pm_E := .inl (0, a.1, .inl a.2)
def hq_lon (a : Nat × (Nat → Int64)) : pm_E := .inl (1, a.1, .inr (.inl a.2))
def hq_lay (ad : Nat → Nat) (z : Nat → Int) (ar : Nat → Nat × (Nat → Int32)) (lr : Nat → Nat × (Nat → Int64)) (r : Nat) : pm_E :=
  if r = 0 then .inr (0, [.ref 1, .ref 188, .ref 192, .ref 196, .ref 198, .int (zI (z 0))])
  else if r = 1 then .inr (1, [.ref (ad 190), .ref (ad 191), .int (zI (z 1)), .ref 4, .int (zI (z 2)), .int (zI (z 3)), .int (zI (z 4)), .int (zI (z 5)), .int (zI (z 6)), .int (zI (z 7))])
  else if r = 4 then .inl (2, 61, .inr (.inr (.inr (.inr hq_ring))))
  else if r = 188 then .inr (2, [.ref 1, .ref 189, .int (zI (z 8))])
  else if r = 192 then .inr (3, [.ref (ad 193), .ref (ad 194), .ref (ad 195), .int (zI (z 9))])
  else if r = 196 then .inr (4, [.ref (ad 197), .int (zI (z 10))])
  else if r = 197 then hq_lon (lr 0)
  else if r = 208 then hq_lon (lr 1)
  else if r = 199 then .inr (6, [.ref 200, .ref 201, .int (zI (z 20)), .int (zI (z 21)), .int (zI (z 22)), .int (zI (z 23)), .int (zI (z 24)), .int (zI (z 25)), .int (zI (z 26)), .ref 202, .ref 203, .int (zI (z 27)), .ref 204, .ref 205, .ref 206, .int (zI (z 28)), .ref 207, .int (zI (z 29))])
  else if 5 ≤ r ∧ r < 188 ∧ r % 3 = 2 then .inr (5, [.ref (ad (r + 1)), .ref (ad (r + 2)), .int (zI (z (100 + r)))])
  else hq_arr (ar r)
def hq_dyn (r : Nat) : Bool := r == 190 || r == 191 || r == 193 || r == 194 || r == 195 || r == 197 || (decide (5 ≤ r) && decide (r < 188) && !(r % 3 == 2))
def Hp (σ : pm_S) (ad : Nat → Nat) (z : Nat → Int) (ar : Nat → Nat × (Nat → Int32)) (lr : Nat → Nat × (Nat → Int64)) : Prop :=
  (∀ r, r < 209 → ad r < σ.2.1 ∧ σ.1 (ad r) = hq_lay ad z ar lr r) ∧ (∀ r s, r < 209 → s < 209 → ad r = ad s → r = s) ∧ (∀ r, hq_dyn r = false → ad r = r)
section HP
variable {σ : pm_S} {ad : Nat → Nat} {z : Nat → Int} {ar : Nat → Nat × (Nat → Int32)} {lr : Nat → Nat × (Nat → Int64)}
theorem Hp.lt (H : Hp σ ad z ar lr) {r : Nat} (hr : r < 209) : ad r < σ.2.1 := (H.1 r hr).1
theorem Hp.at (H : Hp σ ad z ar lr) {r : Nat} (hr : r < 209) : σ.1 (ad r) = hq_lay ad z ar lr r := (H.1 r hr).2
theorem Hp.flt (H : Hp σ ad z ar lr) {r : Nat} (hr : r < 209) (hd : hq_dyn r = false) : r < σ.2.1 := by
  have := H.lt hr
  rw [H.2.2 r hd] at this
  exact this
theorem Hp.fat (H : Hp σ ad z ar lr) {r : Nat} (hr : r < 209) (hd : hq_dyn r = false) : σ.1 r = hq_lay ad z ar lr r := by
  have := H.at hr
  rw [H.2.2 r hd] at this
  exact this
theorem Hp.set (H : Hp σ ad z ar lr) {r : Nat} (hr : r < 209) {x : pm_E} {z' : Nat → Int} {ar' : Nat → Nat × (Nat → Int32)} {lr' : Nat → Nat × (Nat → Int64)} (hx : ∀ s, s < 209 → hq_lay ad z' ar' lr' s = if s = r then x else hq_lay ad z ar lr s) : Hp (pm_set σ (ad r) x) ad z' ar' lr' := by
  refine ⟨fun s hs => ⟨H.lt hs, ?_⟩, H.2.1, H.2.2⟩
  rw [hx s hs]
  by_cases e : s = r
  · subst e
    rw [if_pos rfl]
    exact pm_set_at _ _ _
  · rw [if_neg e, pm_set_ne (fun q => e (H.2.1 s r hs hr q))]
    exact H.at hs
theorem Hp.fset (H : Hp σ ad z ar lr) {r : Nat} (hr : r < 209) (hd : hq_dyn r = false) {x : pm_E} {z' : Nat → Int} {ar' : Nat → Nat × (Nat → Int32)} {lr' : Nat → Nat × (Nat → Int64)} (hx : ∀ s, s < 209 → hq_lay ad z' ar' lr' s = if s = r then x else hq_lay ad z ar lr s) : Hp (pm_set σ r x) ad z' ar' lr' := by
  have := H.set hr hx
  rw [H.2.2 r hd] at this
  exact this
theorem Hp.add (H : Hp σ ad z ar lr) (x : pm_E) (n : Nat) : Hp (pm_add σ x n) ad z ar lr := by
  refine ⟨fun s hs => ⟨Nat.lt_succ_of_lt (H.lt hs), ?_⟩, H.2.1, H.2.2⟩
  rw [pm_add_ne (Nat.ne_of_lt (H.lt hs))]
  exact H.at hs
/-- a cell that bears no role may be written -/
theorem Hp.out (H : Hp σ ad z ar lr) {a : Nat} (ha : ∀ r, r < 209 → ad r ≠ a) (x : pm_E) : Hp (pm_set σ a x) ad z ar lr := by
  refine ⟨fun s hs => ⟨H.lt hs, ?_⟩, H.2.1, H.2.2⟩
  rw [pm_set_ne (ha s hs)]
  exact H.at hs
/-- a role moves to another cell: object o, which bears the reference, is written -/
theorem Hp.re (H : Hp σ ad z ar lr) {o r a : Nat} (ho : o < 209) (hr : r < 209) (hor : o ≠ r) (hdr : hq_dyn r = true) (ha : ∀ s, s < 209 → ad s ≠ a) (hl : a < σ.2.1) {x : pm_E} {z' : Nat → Int} {ar' : Nat → Nat × (Nat → Int32)} {lr' : Nat → Nat × (Nat → Int64)}
    (hx : ∀ s, s < 209 → hq_lay (hq_u ad r a) z' ar' lr' s = if s = o then x else if s = r then σ.1 a else hq_lay ad z ar lr s) : Hp (pm_set σ (ad o) x) (hq_u ad r a) z' ar' lr' := by
  refine ⟨fun s hs => ?_, fun s t hs ht e => ?_, fun s hd => ?_⟩
  · by_cases e : s = r
    · subst e
      rw [hq_u_at]
      refine ⟨hl, ?_⟩
      rw [pm_set_ne (fun q => ha o ho q.symm), hx s hs, if_neg (fun q => hor q.symm), if_pos rfl]
    · rw [hq_u_ne e]
      refine ⟨H.lt hs, ?_⟩
      rw [hx s hs]
      by_cases e2 : s = o
      · subst e2
        rw [if_pos rfl]
        exact pm_set_at _ _ _
      · rw [if_neg e2, if_neg e, pm_set_ne (fun q => e2 (H.2.1 s o hs ho q))]
        exact H.at hs
  · by_cases e1 : s = r
    · by_cases e2 : t = r
      · rw [e1, e2]
      · rw [e1, hq_u_at, hq_u_ne e2] at e
        exact absurd e.symm (ha t ht)
    · by_cases e2 : t = r
      · rw [e2, hq_u_at, hq_u_ne e1] at e
        exact absurd e (ha s hs)
      · rw [hq_u_ne e1, hq_u_ne e2] at e
        exact H.2.1 s t hs ht e
  · have e : s ≠ r := fun q => by
      rw [q, hdr] at hd
      cases hd
    rw [hq_u_ne e]
    exact H.2.2 s hd
end HP
