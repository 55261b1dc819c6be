/-! sums over runs of integers -/
def fs_n (f : Int → Int) (a : Int) : Nat → Int
  | 0 => 0
  | n + 1 => fs_n f a n + f (a + n)
def fs (f : Int → Int) (a b : Int) : Int := fs_n f a (b - a).toNat
theorem fs_0 {f : Int → Int} {a b : Int} (h : b ≤ a) : fs f a b = 0 := by
  unfold fs
  rw [show (b - a).toNat = 0 by omega, fs_n]
theorem fs_r {f : Int → Int} {a b : Int} (h : a ≤ b) : fs f a (b + 1) = fs f a b + f b := by
  unfold fs
  rw [show (b + 1 - a).toNat = (b - a).toNat + 1 by omega, fs_n, show a + ((b - a).toNat : Int) = b by omega]
/-- a claim of all sums from a on -/
theorem fs_ind {P : Int → Prop} {a : Int} (h0 : P a) (hs : ∀ b, a ≤ b → P b → P (b + 1)) : ∀ b, a ≤ b → P b := by
  have key : ∀ n : Nat, P (a + n) := by
    intro n
    induction n with
    | zero => rw [show a + ((0 : Nat) : Int) = a by omega]; exact h0
    | succ n ih => rw [show a + ((n + 1 : Nat) : Int) = a + n + 1 by omega]; exact hs _ (by omega) ih
  intro b h
  have := key (b - a).toNat
  rw [show a + ((b - a).toNat : Int) = b by omega] at this
  exact this
theorem fs_sp {f : Int → Int} {a b c : Int} (h1 : a ≤ b) (h2 : b ≤ c) : fs f a c = fs f a b + fs f b c := by
  refine fs_ind (P := fun c => fs f a c = fs f a b + fs f b c) ?_ ?_ c h2
  · show fs f a b = fs f a b + fs f b b
    rw [fs_0 (Int.le_refl b)]
    omega
  · intro d hd ih
    show fs f a (d + 1) = fs f a b + fs f b (d + 1)
    rw [fs_r (by omega), fs_r hd, ih]
    omega
theorem fs_l {f : Int → Int} {a b : Int} (h : a < b) : fs f a b = f a + fs f (a + 1) b := by
  rw [fs_sp (b := a + 1) (by omega) (by omega), fs_r (Int.le_refl a), fs_0 (Int.le_refl a)]
  omega
theorem fs_cg {f g : Int → Int} {a b : Int} (h : ∀ q, a ≤ q → q < b → f q = g q) : fs f a b = fs g a b := by
  by_cases c : a ≤ b
  · refine fs_ind (P := fun b => (∀ q, a ≤ q → q < b → f q = g q) → fs f a b = fs g a b) ?_ ?_ b c h
    · intro _
      show fs f a a = fs g a a
      rw [fs_0 (Int.le_refl a), fs_0 (Int.le_refl a)]
    · intro d hd ih hq
      show fs f a (d + 1) = fs g a (d + 1)
      rw [fs_r hd, fs_r hd, ih (fun q h1 h2 => hq q h1 (by omega)), hq d hd (by omega)]
  · rw [fs_0 (by omega), fs_0 (by omega)]
theorem fs_sh {f g : Int → Int} {a b k : Int} (h : ∀ q, a ≤ q → q < b → f q = g (q + k)) : fs f a b = fs g (a + k) (b + k) := by
  by_cases c : a ≤ b
  · refine fs_ind (P := fun b => (∀ q, a ≤ q → q < b → f q = g (q + k)) → fs f a b = fs g (a + k) (b + k)) ?_ ?_ b c h
    · intro _
      show fs f a a = fs g (a + k) (a + k)
      rw [fs_0 (Int.le_refl a), fs_0 (Int.le_refl _)]
    · intro d hd ih hq
      show fs f a (d + 1) = fs g (a + k) (d + 1 + k)
      rw [fs_r hd, show d + 1 + k = d + k + 1 by omega, fs_r (by omega), ih (fun q h1 h2 => hq q h1 (by omega)), hq d hd (by omega)]
  · rw [fs_0 (by omega), fs_0 (by omega)]
theorem fs_bd {f : Int → Int} {a b lo hi : Int} (hl : ∀ q, a ≤ q → q < b → lo ≤ f q) (hh : ∀ q, a ≤ q → q < b → f q ≤ hi) (h : a ≤ b) : lo * (b - a) ≤ fs f a b ∧ fs f a b ≤ hi * (b - a) := by
  refine fs_ind (P := fun b => (∀ q, a ≤ q → q < b → lo ≤ f q) → (∀ q, a ≤ q → q < b → f q ≤ hi) → lo * (b - a) ≤ fs f a b ∧ fs f a b ≤ hi * (b - a)) ?_ ?_ b h hl hh
  · intro _ _
    show lo * (a - a) ≤ fs f a a ∧ fs f a a ≤ hi * (a - a)
    rw [fs_0 (Int.le_refl a), Int.sub_self, Int.mul_zero, Int.mul_zero]
    omega
  · intro d hd ih h1 h2
    show lo * (d + 1 - a) ≤ fs f a (d + 1) ∧ fs f a (d + 1) ≤ hi * (d + 1 - a)
    have := ih (fun q q1 q2 => h1 q q1 (by omega)) (fun q q1 q2 => h2 q q1 (by omega))
    have a1 := h1 d hd (by omega)
    have a2 := h2 d hd (by omega)
    rw [fs_r hd, show d + 1 - a = d - a + 1 by omega, Int.mul_add, Int.mul_add]
    omega
theorem fs_z {f : Int → Int} {a b : Int} (h : ∀ q, a ≤ q → q < b → f q = 0) : fs f a b = 0 := by
  rw [fs_cg (g := fun _ => 0) h]
  by_cases c : a ≤ b
  · have := fs_bd (f := fun _ => 0) (lo := 0) (hi := 0) (a := a) (b := b) (fun _ _ _ => Int.le_refl _) (fun _ _ _ => Int.le_refl _) c
    rw [Int.zero_mul] at this
    omega
  · exact fs_0 (by omega)
theorem fs_nn {f : Int → Int} {a b : Int} (h : ∀ q, a ≤ q → q < b → 0 ≤ f q) : 0 ≤ fs f a b := by
  by_cases c : a ≤ b
  · refine fs_ind (P := fun b => (∀ q, a ≤ q → q < b → 0 ≤ f q) → 0 ≤ fs f a b) ?_ ?_ b c h
    · intro _
      show 0 ≤ fs f a a
      rw [fs_0 (Int.le_refl a)]
      exact Int.le_refl 0
    · intro d hd ih hq
      show 0 ≤ fs f a (d + 1)
      have := ih (fun q q1 q2 => hq q q1 (by omega))
      have := hq d hd (by omega)
      rw [fs_r hd]
      omega
  · rw [fs_0 (by omega)]
    exact Int.le_refl 0
/-- one place apart -/
theorem fs_pt {f : Int → Int} {a b x : Int} (h1 : a ≤ x) (h2 : x < b) : fs f a b = f x + fs (fun q => if q = x then 0 else f q) a b := by
  rw [fs_sp (f := f) (b := x) h1 (by omega), fs_l h2, fs_sp (f := fun q => if q = x then 0 else f q) (b := x) h1 (by omega), fs_l (f := fun q => if q = x then 0 else f q) h2, fs_cg (f := f) (g := fun q => if q = x then 0 else f q) (a := a) (b := x) (fun q _ q2 => (if_neg (by omega)).symm), fs_cg (f := f) (g := fun q => if q = x then 0 else f q) (a := x + 1) (b := b) (fun q q1 _ => (if_neg (by omega)).symm)]
  show fs _ a x + (f x + _) = f x + (fs _ a x + ((if x = x then 0 else f x) + _))
  rw [if_pos rfl]
  omega
/-- the sum over the places that a row names is the sum over the row -/
theorem fs_ri {I : Int → Int} {m : Int} : ∀ (n : Int), 0 ≤ n → ∀ g : Int → Int, (∀ p, 0 ≤ p → p < n → 0 ≤ I p ∧ I p < m) → (∀ p q, 0 ≤ p → p < n → 0 ≤ q → q < n → I p = I q → p = q) → (∀ e, 0 ≤ e → e < m → (∀ p, 0 ≤ p → p < n → I p ≠ e) → g e = 0) → fs g 0 m = fs (fun p => g (I p)) 0 n := by
  refine fs_ind ?_ ?_
  · intro g _ _ h3
    rw [fs_0 (f := fun p => g (I p)) (Int.le_refl 0)]
    exact fs_z (fun q q1 q2 => h3 q q1 q2 (fun p p1 p2 => absurd p1 (by omega)))
  · intro n hn ih g h1 h2 h3
    have hI := h1 n hn (by omega)
    rw [fs_pt hI.1 hI.2, fs_r hn, ih (fun q => if q = I n then 0 else g q) (fun p p1 p2 => h1 p p1 (by omega)) (fun p q p1 p2 q1 q2 => h2 p q p1 (by omega) q1 (by omega)) ?_, fs_cg (f := fun p => if I p = I n then 0 else g (I p)) (g := fun p => g (I p))]
    · omega
    · intro q q1 q2
      exact if_neg (fun c => absurd (h2 q n q1 (by omega) hn (by omega) c) (by omega))
    · intro e e1 e2 e3
      show (if e = I n then 0 else g e) = 0
      by_cases c : e = I n
      · exact if_pos c
      · rw [if_neg c]
        refine h3 e e1 e2 (fun p p1 p2 => ?_)
        by_cases d : p = n
        · rw [d]
          exact fun x => c x.symm
        · exact e3 p p1 (by omega)
/-- a row of different numbers below m is no longer than m -/
theorem fs_pg {I : Int → Int} {m n : Int} (hn : 0 ≤ n) (hm : 0 ≤ m) (h1 : ∀ p, 0 ≤ p → p < n → 0 ≤ I p ∧ I p < m) (h2 : ∀ p q, 0 ≤ p → p < n → 0 ≤ q → q < n → I p = I q → p = q) : n ≤ m := by
  have dec : ∀ e, Decidable (∃ p, 0 ≤ p ∧ p < n ∧ I p = e) := fun e => Classical.propDecidable _
  have k := fs_ri (I := I) (m := m) n hn (fun e => @ite Int (∃ p, 0 ≤ p ∧ p < n ∧ I p = e) (dec e) 1 0) h1 h2 (fun e _ _ h => if_neg (fun ⟨p, p1, p2, p3⟩ => h p p1 p2 p3))
  have a := fs_bd (f := fun e => @ite Int (∃ p, 0 ≤ p ∧ p < n ∧ I p = e) (dec e) 1 0) (a := 0) (b := m) (lo := 0) (hi := 1) (fun q _ _ => by show (0:Int) ≤ ite _ _ _; split <;> omega) (fun q _ _ => by show ite _ _ _ ≤ (1:Int); split <;> omega) hm
  have b := fs_bd (f := fun p => @ite Int (∃ x, 0 ≤ x ∧ x < n ∧ I x = I p) (dec (I p)) 1 0) (a := 0) (b := n) (lo := 1) (hi := 1) (fun q q1 q2 => by rw [if_pos ⟨q, q1, q2, rfl⟩]; omega) (fun q q1 q2 => by rw [if_pos ⟨q, q1, q2, rfl⟩]; omega) hn
  omega
