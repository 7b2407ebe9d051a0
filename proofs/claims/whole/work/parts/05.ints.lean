/-! whole numbers as ints and longs -/
theorem zi_add (x y : Int) : zi (x + y) = zi x + zi y := Int32.ofInt_add x y
theorem zi_sub (x y : Int) : zi (x - y) = zi x - zi y := Int32.ofInt_sub x y
theorem zi_mul (x y : Int) : zi (x * y) = zi x * zi y := Int32.ofInt_mul x y
theorem zl_add (x y : Int) : zl (x + y) = zl x + zl y := Int64.ofInt_add x y
theorem zl_sub (x y : Int) : zl (x - y) = zl x - zl y := Int64.ofInt_sub x y
theorem zl_mul (x y : Int) : zl (x * y) = zl x * zl y := Int64.ofInt_mul x y
theorem zi_toInt {x : Int} (h : -2147483648 ≤ x ∧ x ≤ 2147483647) : (zi x).toInt = x := Int32.toInt_ofInt_of_le (by omega) (by omega)
theorem zl_toInt {x : Int} (h : -9223372036854775808 ≤ x ∧ x ≤ 9223372036854775807) : (zl x).toInt = x := Int64.toInt_ofInt_of_le (by omega) (by omega)
theorem zi_of (x : Int32) : zi x.toInt = x := Int32.ofInt_toInt x
theorem zl_of (x : Int64) : zl x.toInt = x := Int64.ofInt_toInt x
theorem z32 (x : Int32) : -2147483648 ≤ x.toInt ∧ x.toInt ≤ 2147483647 := by
  have h1 := Int32.toInt_lt x
  have h2 := Int32.le_toInt x
  omega
theorem z64 (x : Int64) : -9223372036854775808 ≤ x.toInt ∧ x.toInt ≤ 9223372036854775807 := by
  have h1 := Int64.toInt_lt x
  have h2 := Int64.le_toInt x
  omega
theorem zi_lt {x y : Int} (hx : -2147483648 ≤ x ∧ x ≤ 2147483647) (hy : -2147483648 ≤ y ∧ y ≤ 2147483647) : zi x < zi y ↔ x < y := by
  rw [Int32.lt_iff_toInt_lt, zi_toInt hx, zi_toInt hy]
theorem zi_le {x y : Int} (hx : -2147483648 ≤ x ∧ x ≤ 2147483647) (hy : -2147483648 ≤ y ∧ y ≤ 2147483647) : zi x ≤ zi y ↔ x ≤ y := by
  rw [Int32.le_iff_toInt_le, zi_toInt hx, zi_toInt hy]
theorem zi_eq {x y : Int} (hx : -2147483648 ≤ x ∧ x ≤ 2147483647) (hy : -2147483648 ≤ y ∧ y ≤ 2147483647) : zi x = zi y ↔ x = y := by
  rw [← Int32.toInt_inj, zi_toInt hx, zi_toInt hy]
theorem zl_lt {x y : Int} (hx : -9223372036854775808 ≤ x ∧ x ≤ 9223372036854775807) (hy : -9223372036854775808 ≤ y ∧ y ≤ 9223372036854775807) : zl x < zl y ↔ x < y := by
  rw [Int64.lt_iff_toInt_lt, zl_toInt hx, zl_toInt hy]
theorem zl_le {x y : Int} (hx : -9223372036854775808 ≤ x ∧ x ≤ 9223372036854775807) (hy : -9223372036854775808 ≤ y ∧ y ≤ 9223372036854775807) : zl x ≤ zl y ↔ x ≤ y := by
  rw [Int64.le_iff_toInt_le, zl_toInt hx, zl_toInt hy]
theorem zl_eq {x y : Int} (hx : -9223372036854775808 ≤ x ∧ x ≤ 9223372036854775807) (hy : -9223372036854775808 ≤ y ∧ y ≤ 9223372036854775807) : zl x = zl y ↔ x = y := by
  rw [← Int64.toInt_inj, zl_toInt hx, zl_toInt hy]
theorem zi_0 : zi 0 = 0 := rfl
theorem zi_div {x y : Int} (hx : 0 ≤ x ∧ x ≤ 2147483647) (hy : 0 < y ∧ y ≤ 2147483647) : zi x / zi y = zi (x / y) := by
  have e1 : Int32.minValue.toInt = -2147483648 := by decide
  have e2 : Int32.maxValue.toInt = 2147483647 := by decide
  have h := Int32.ofInt_tdiv (a := x) (b := y) (by omega) (by omega) (by omega) (by omega)
  rw [Int.tdiv_eq_ediv_of_nonneg hx.1] at h
  exact h.symm
theorem zi_rem {x y : Int} (hx : 0 ≤ x ∧ x ≤ 2147483647) (hy : 0 < y ∧ y ≤ 2147483647) : zi x - zi x / zi y * zi y = zi (x % y) := by
  rw [zi_div hx hy, ← zi_mul, ← zi_sub]
  congr 1
  have := Int.emod_add_mul_ediv x y
  rw [Int.mul_comm] at this
  omega
theorem zi_clamp {x : Int} (h : 0 ≤ x ∧ x ≤ 2147483647) : (zi x).toNatClampNeg = x.toNat := by
  show (zi x).toInt.toNat = x.toNat
  rw [zi_toInt (by omega)]
theorem zi_in {x : Int} {n : Nat} (h : 0 ≤ x ∧ x < n) (hn : n ≤ 2147483647) : vp_in (zi x) n := by
  rw [vp_in_iff, zi_toInt (by omega)]
  exact h
theorem zi_l {x : Int} (h : -2147483648 ≤ x ∧ x ≤ 2147483647) : (zi x).toInt64 = zl x := by
  rw [← Int64.toInt_inj, Int32.toInt_toInt64, zi_toInt h, zl_toInt (by omega)]
theorem zl_i (x : Int) : (zl x).toInt32 = zi x := Int64.toInt32_ofInt
theorem zi_ne0 {y : Int} (hy : 0 < y ∧ y ≤ 2147483647) : ¬ zi y = 0 := by
  rw [← zi_0, zi_eq (by omega) (by omega)]
  omega
theorem zi_z {x : Int} (h : x = 0 ∨ x = 1) : narrow .boolean (.int (zi x)) = .int (zi x) ∧ fits .boolean (.int (zi x)) = true := by
  rcases h with rfl | rfl <;> decide
