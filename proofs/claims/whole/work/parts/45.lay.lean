/-! writing a field or an array, in terms of roles -/
def hq_isA (r : Nat) : Bool := !(r == 0 || r == 1 || r == 4 || r == 188 || r == 192 || r == 196 || r == 197 || r == 208 || r == 199 || (decide (5 ≤ r) && decide (r < 188) && r % 3 == 2))
def hq_zo (k : Nat) : Nat := if k = 0 then 0 else if k < 8 then 1 else if k = 8 then 188 else if k = 9 then 192 else if k = 10 then 196 else if k < 100 then 199 else k - 100
section HL
variable {σ : pm_S} {ad : Nat → Nat} {z : Nat → Int} {ar : Nat → Nat × (Nat → Int32)} {lr : Nat → Nat × (Nat → Int64)}
theorem hq_isA_c {r : Nat} (h : hq_isA r = true) : r ≠ 0 ∧ r ≠ 1 ∧ r ≠ 4 ∧ r ≠ 188 ∧ r ≠ 192 ∧ r ≠ 196 ∧ r ≠ 197 ∧ r ≠ 208 ∧ r ≠ 199 ∧ ¬ (5 ≤ r ∧ r < 188 ∧ r % 3 = 2) := by
  unfold hq_isA at h
  simp at h
  omega
theorem hq_lay_A {r : Nat} (h : hq_isA r = true) : hq_lay ad z ar lr r = hq_arr (ar r) := by
  obtain ⟨h1, h2, h3, h4, h5, h6, h7, h8, h9, h10⟩ := hq_isA_c h
  unfold hq_lay
  rw [if_neg h1, if_neg h2, if_neg h3, if_neg h4, if_neg h5, if_neg h6, if_neg h7, if_neg h8, if_neg h9, if_neg h10]
theorem hq_lay_a {r : Nat} (h : hq_isA r = true) (a : Nat × (Nat → Int32)) (s : Nat) : hq_lay ad z (hq_u ar r a) lr s = if s = r then hq_arr a else hq_lay ad z ar lr s := by
  by_cases e : s = r
  · subst e
    rw [if_pos rfl, hq_lay_A h, hq_u_at]
  · rw [if_neg e]
    unfold hq_lay
    rw [hq_u_ne e]
theorem hq_lay_z {k : Nat} {v : Int} {s : Nat} (h : s ≠ hq_zo k) : hq_lay ad (hq_u z k v) ar lr s = hq_lay ad z ar lr s := by
  have e : ∀ j, hq_zo j = s → hq_u z k v j = z j := fun j hj => hq_u_ne (fun q => h (by rw [← q, hj]))
  unfold hq_lay
  by_cases q0 : s = 0
  · rw [if_pos q0, if_pos q0, e 0 q0.symm]
  · rw [if_neg q0, if_neg q0]
    by_cases q1 : s = 1
    · rw [if_pos q1, if_pos q1, e 1 q1.symm, e 2 q1.symm, e 3 q1.symm, e 4 q1.symm, e 5 q1.symm, e 6 q1.symm, e 7 q1.symm]
    · rw [if_neg q1, if_neg q1]
      by_cases q4 : s = 4
      · rw [if_pos q4, if_pos q4]
      · rw [if_neg q4, if_neg q4]
        by_cases q5 : s = 188
        · rw [if_pos q5, if_pos q5, e 8 q5.symm]
        · rw [if_neg q5, if_neg q5]
          by_cases q6 : s = 192
          · rw [if_pos q6, if_pos q6, e 9 q6.symm]
          · rw [if_neg q6, if_neg q6]
            by_cases q7 : s = 196
            · rw [if_pos q7, if_pos q7, e 10 q7.symm]
            · rw [if_neg q7, if_neg q7]
              by_cases q8 : s = 197
              · rw [if_pos q8, if_pos q8]
              · rw [if_neg q8, if_neg q8]
                by_cases q9 : s = 208
                · rw [if_pos q9, if_pos q9]
                · rw [if_neg q9, if_neg q9]
                  by_cases p0 : s = 199
                  · rw [if_pos p0, if_pos p0, e 20 p0.symm, e 21 p0.symm, e 22 p0.symm, e 23 p0.symm, e 24 p0.symm, e 25 p0.symm, e 26 p0.symm, e 27 p0.symm, e 28 p0.symm, e 29 p0.symm]
                  · rw [if_neg p0, if_neg p0]
                    by_cases p1 : 5 ≤ s ∧ s < 188 ∧ s % 3 = 2
                    · rw [if_pos p1, if_pos p1, e (100 + s) (by
                        unfold hq_zo
                        rw [if_neg (by omega), if_neg (by omega), if_neg (by omega), if_neg (by omega), if_neg (by omega), if_neg (by omega)]
                        omega)]
                    · rw [if_neg p1, if_neg p1]
/-- a field is written -/
theorem Hp.zset (H : Hp σ ad z ar lr) (k : Nat) (v : Int) (hr : hq_zo k < 209) (hd : hq_dyn (hq_zo k) = false) {o : Nat} (ho : hq_zo k = o) {x : pm_E} (hx : hq_lay ad (hq_u z k v) ar lr o = x) : Hp (pm_set σ o x) ad (hq_u z k v) ar lr := by
  subst ho
  refine H.fset hr hd (fun s _ => ?_)
  by_cases e : s = hq_zo k
  · rw [if_pos e, e, hx]
  · rw [if_neg e, hq_lay_z e]
/-- an array is written -/
theorem Hp.aset (H : Hp σ ad z ar lr) {r : Nat} (hr : r < 209) (hA : hq_isA r = true) (a : Nat × (Nat → Int32)) : Hp (pm_set σ (ad r) (hq_arr a)) ad z (hq_u ar r a) lr :=
  H.set hr (fun s _ => hq_lay_a hA a s)
theorem Hp.faset (H : Hp σ ad z ar lr) {r : Nat} (hr : r < 209) (hd : hq_dyn r = false) (hA : hq_isA r = true) (a : Nat × (Nat → Int32)) : Hp (pm_set σ r (hq_arr a)) ad z (hq_u ar r a) lr :=
  H.fset hr hd (fun s _ => hq_lay_a hA a s)
theorem Hp.aat (H : Hp σ ad z ar lr) {r : Nat} (hr : r < 209) (hA : hq_isA r = true) : σ.1 (ad r) = .inl (0, (ar r).1, .inl (ar r).2) := (H.at hr).trans (hq_lay_A hA)
theorem Hp.faat (H : Hp σ ad z ar lr) {r : Nat} (hr : r < 209) (hd : hq_dyn r = false) (hA : hq_isA r = true) : σ.1 r = .inl (0, (ar r).1, .inl (ar r).2) := (H.fat hr hd).trans (hq_lay_A hA)
end HL
