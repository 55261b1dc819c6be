/-! numbers: an int of the machine is zI of an integer -/
def zI (z : Int) : Int32 := Int32.ofInt z
theorem zI_x (x : Int32) : zI x.toInt = x := Int32.ofInt_toInt x
theorem zI_add (a b : Int) : zI a + zI b = zI (a + b) := (Int32.ofInt_add a b).symm
theorem zI_sub (a b : Int) : zI a - zI b = zI (a - b) := (Int32.ofInt_sub a b).symm
theorem zI_mul (a b : Int) : zI a * zI b = zI (a * b) := (Int32.ofInt_mul a b).symm
theorem zI_neg (a : Int) : - zI a = zI (-a) := (Int32.ofInt_neg a).symm
theorem zI_ti {z : Int} (h1 : -2147483648 ≤ z) (h2 : z ≤ 2147483647) : (zI z).toInt = z := Int32.toInt_ofInt_of_le (by omega) (by omega)
theorem zI_lo (x : Int32) : -2147483648 ≤ x.toInt := Int32.le_toInt x
theorem zI_hi (x : Int32) : x.toInt ≤ 2147483647 := Int.le_of_lt_add_one (Int32.toInt_lt x)
theorem zI_lt {a b : Int} (h1 : -2147483648 ≤ a) (h2 : a ≤ 2147483647) (h3 : -2147483648 ≤ b) (h4 : b ≤ 2147483647) : zI a < zI b ↔ a < b := by
  rw [Int32.lt_iff_toInt_lt, zI_ti h1 h2, zI_ti h3 h4]
theorem zI_le {a b : Int} (h1 : -2147483648 ≤ a) (h2 : a ≤ 2147483647) (h3 : -2147483648 ≤ b) (h4 : b ≤ 2147483647) : zI a ≤ zI b ↔ a ≤ b := by
  rw [Int32.le_iff_toInt_le, zI_ti h1 h2, zI_ti h3 h4]
theorem zI_inj {a b : Int} (h1 : -2147483648 ≤ a) (h2 : a ≤ 2147483647) (h3 : -2147483648 ≤ b) (h4 : b ≤ 2147483647) : zI a = zI b ↔ a = b := by
  rw [← Int32.toInt_inj, zI_ti h1 h2, zI_ti h3 h4]
theorem zI_lt' {x y : Int32} : x < y ↔ x.toInt < y.toInt := Int32.lt_iff_toInt_lt
theorem zI_le' {x y : Int32} : x ≤ y ↔ x.toInt ≤ y.toInt := Int32.le_iff_toInt_le
theorem zI_eq' {x y : Int32} : x = y ↔ x.toInt = y.toInt := Int32.toInt_inj.symm
theorem zI_nat {z : Int} (h1 : 0 ≤ z) (h2 : z ≤ 2147483647) : (zI z).toNatClampNeg = z.toNat := by
  rw [← Int32.toNat_toInt, zI_ti (by omega) h2]
theorem zI_ix {z : Int} {n : Nat} (h1 : 0 ≤ z) (h2 : z < n) (hn : n ≤ 2147483647) : ¬ (zI z < 0 ∨ n ≤ (zI z).toNatClampNeg) := by
  rw [zI_nat h1 (by omega), zI_lt', zI_ti (by omega) (by omega)]
  show ¬ (z < 0 ∨ n ≤ z.toNat)
  omega
theorem zI_div {a b : Int} (h1 : 0 ≤ a) (h2 : a ≤ 2147483647) (h3 : 0 < b) (h4 : b ≤ 2147483647) : zI a / zI b = zI (a / b) := by
  have q : zI (a.tdiv b) = zI a / zI b := Int32.ofInt_tdiv (by rw [Int32.toInt_minValue]; omega) (by rw [Int32.toInt_maxValue]; omega) (by rw [Int32.toInt_minValue]; omega) (by rw [Int32.toInt_maxValue]; omega)
  rw [← q, Int.tdiv_eq_ediv_of_nonneg h1]
theorem zI_rem {a b : Int} (h1 : 0 ≤ a) (h2 : a ≤ 2147483647) (h3 : 0 < b) (h4 : b ≤ 2147483647) : zI a - zI a / zI b * zI b = zI (a % b) := by
  rw [zI_div h1 h2 h3 h4, zI_mul, zI_sub]
  congr 1
  have := Int.mul_ediv_add_emod a b
  rw [Int.mul_comm] at this
  omega
theorem zI_ofNat (n : Nat) : Int32.ofNat n = zI n := Int32.ofInt_eq_ofNat.symm
/-! longs likewise -/
def zL (z : Int) : Int64 := Int64.ofInt z
theorem zL_x (x : Int64) : zL x.toInt = x := Int64.ofInt_toInt x
theorem zL_add (a b : Int) : zL a + zL b = zL (a + b) := (Int64.ofInt_add a b).symm
theorem zL_sub (a b : Int) : zL a - zL b = zL (a - b) := (Int64.ofInt_sub a b).symm
theorem zL_mul (a b : Int) : zL a * zL b = zL (a * b) := (Int64.ofInt_mul a b).symm
theorem zL_ti {z : Int} (h1 : -9223372036854775808 ≤ z) (h2 : z ≤ 9223372036854775807) : (zL z).toInt = z := Int64.toInt_ofInt_of_le (by omega) (by omega)
theorem zL_of (x : Int32) : x.toInt64 = zL x.toInt := (Int64.ofInt_int32ToInt x).symm
theorem zL_ofI {z : Int} (h1 : -2147483648 ≤ z) (h2 : z ≤ 2147483647) : (zI z).toInt64 = zL z := by
  rw [zL_of, zI_ti h1 h2]
theorem zL_to (z : Int) : (zL z).toInt32 = zI z := Int64.toInt32_ofInt
theorem zL_div {a b : Int} (h1 : 0 ≤ a) (h2 : a ≤ 9223372036854775807) (h3 : 0 < b) (h4 : b ≤ 9223372036854775807) : zL a / zL b = zL (a / b) := by
  have q : zL (a.tdiv b) = zL a / zL b := Int64.ofInt_tdiv (by rw [Int64.toInt_minValue]; omega) (by rw [Int64.toInt_maxValue]; omega) (by rw [Int64.toInt_minValue]; omega) (by rw [Int64.toInt_maxValue]; omega)
  rw [← q, Int.tdiv_eq_ediv_of_nonneg h1]
theorem zL_rem {a b : Int} (h1 : 0 ≤ a) (h2 : a ≤ 9223372036854775807) (h3 : 0 < b) (h4 : b ≤ 9223372036854775807) : zL a - zL a / zL b * zL b = zL (a % b) := by
  rw [zL_div h1 h2 h3 h4, zL_mul, zL_sub]
  congr 1
  have := Int.mul_ediv_add_emod a b
  rw [Int.mul_comm] at this
  omega
theorem zL_inj {a b : Int} (h1 : -9223372036854775808 ≤ a) (h2 : a ≤ 9223372036854775807) (h3 : -9223372036854775808 ≤ b) (h4 : b ≤ 9223372036854775807) : zL a = zL b ↔ a = b := by
  rw [← Int64.toInt_inj, zL_ti h1 h2, zL_ti h3 h4]
theorem zL_lt {a b : Int} (h1 : -9223372036854775808 ≤ a) (h2 : a ≤ 9223372036854775807) (h3 : -9223372036854775808 ≤ b) (h4 : b ≤ 9223372036854775807) : zL a < zL b ↔ a < b := by
  rw [Int64.lt_iff_toInt_lt, zL_ti h1 h2, zL_ti h3 h4]
