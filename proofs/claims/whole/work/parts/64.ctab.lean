/-! words of the tables for constructors (laid by wip/whole/gen/cons.py) -/
theorem clL_7 : Cond.classLink RL 7 RX8 ∈ tblG := tgi 79 (by decide +kernel) rfl
theorem clX8_7 : Cond.classLink RX8 7 RX0 ∈ tblG := tgi 87 (by decide +kernel) rfl
theorem clX0_9 : Cond.classLink RX0 9 RX4 ∈ tblG := tgi 93 (by decide +kernel) rfl
theorem clX0_17 : Cond.classLink RX0 17 RX2 ∈ tblG := tgi 95 (by decide +kernel) rfl
theorem clX8_22 : Cond.classLink RX8 22 RX1 ∈ tblG := tgi 199 (by decide +kernel) rfl
theorem clX1_9 : Cond.classLink RX1 9 RX6 ∈ tblG := tgi 205 (by decide +kernel) rfl
theorem clX8_29 : Cond.classLink RX8 29 RX7 ∈ tblG := tgi 243 (by decide +kernel) rfl
theorem clX7_9 : Cond.classLink RX7 9 RX0 ∈ tblG := tgi 249 (by decide +kernel) rfl
theorem clX8_36 : Cond.classLink RX8 36 RX5 ∈ tblG := tgi 269 (by decide +kernel) rfl
theorem clL_10 : Cond.classLink RL 10 RX9 ∈ tblG := tgi 842 (by decide +kernel) rfl
theorem in7 : Cond.instantiable RX8 8 ∈ tblG ∧ Cond.initialized RX8 ∈ tblG := ⟨tgi 80 (by decide +kernel) rfl, tgi 62 (by decide +kernel) rfl⟩
theorem in0 : Cond.instantiable RX0 6 ∈ tblG ∧ Cond.initialized RX0 ∈ tblG := ⟨tgi 88 (by decide +kernel) rfl, tgi 63 (by decide +kernel) rfl⟩
theorem in3 : Cond.instantiable RX4 5 ∈ tblG ∧ Cond.initialized RX4 ∈ tblG := ⟨tgi 97 (by decide +kernel) rfl, tgi 64 (by decide +kernel) rfl⟩
theorem in2 : Cond.instantiable RX2 7 ∈ tblG ∧ Cond.initialized RX2 ∈ tblG := ⟨tgi 127 (by decide +kernel) rfl, tgi 65 (by decide +kernel) rfl⟩
theorem in1 : Cond.instantiable RX1 2 ∈ tblG ∧ Cond.initialized RX1 ∈ tblG := ⟨tgi 200 (by decide +kernel) rfl, tgi 66 (by decide +kernel) rfl⟩
theorem in5 : Cond.instantiable RX6 6 ∈ tblG ∧ Cond.initialized RX6 ∈ tblG := ⟨tgi 206 (by decide +kernel) rfl, tgi 67 (by decide +kernel) rfl⟩
theorem in6 : Cond.instantiable RX7 5 ∈ tblG ∧ Cond.initialized RX7 ∈ tblG := ⟨tgi 244 (by decide +kernel) rfl, tgi 68 (by decide +kernel) rfl⟩
theorem in4 : Cond.instantiable RX5 3 ∈ tblG ∧ Cond.initialized RX5 ∈ tblG := ⟨tgi 271 (by decide +kernel) rfl, tgi 69 (by decide +kernel) rfl⟩
theorem in8 : Cond.instantiable RX9 19 ∈ tblG ∧ Cond.initialized RX9 ∈ tblG := ⟨tgi 843 (by decide +kernel) rfl, tgi 70 (by decide +kernel) rfl⟩
theorem ar_int : Cond.arrayClass .int ∈ tblG := tgi 233 (by decide +kernel) rfl
theorem ar_long : Cond.arrayClass .long ∈ tblG := tgi 289 (by decide +kernel) rfl
theorem oi_w : Cond.instanceMethod Lib.objectInit ∈ tblG ∧ Cond.code Lib.objectInit ⟨#[0xb1]⟩ 1 none ∈ tblG := ⟨tgi 85 (by decide +kernel) rfl, tgi 86 (by decide +kernel) rfl⟩
theorem olX8 : Cond.methodLink RX8 1 Lib.objectInit ∈ tblG := tgi 84 (by decide +kernel) rfl
theorem olX0 : Cond.methodLink RX0 3 Lib.objectInit ∈ tblG := tgi 92 (by decide +kernel) rfl
theorem olX4 : Cond.methodLink RX4 3 Lib.objectInit ∈ tblG := tgi 101 (by decide +kernel) rfl
theorem olX2 : Cond.methodLink RX2 3 Lib.objectInit ∈ tblG := tgi 131 (by decide +kernel) rfl
theorem olX1 : Cond.methodLink RX1 3 Lib.objectInit ∈ tblG := tgi 204 (by decide +kernel) rfl
theorem olX6 : Cond.methodLink RX6 3 Lib.objectInit ∈ tblG := tgi 210 (by decide +kernel) rfl
theorem olX7 : Cond.methodLink RX7 3 Lib.objectInit ∈ tblG := tgi 248 (by decide +kernel) rfl
theorem olX5 : Cond.methodLink RX5 3 Lib.objectInit ∈ tblG := tgi 275 (by decide +kernel) rfl
theorem olX9 : Cond.methodLink RX9 1 Lib.objectInit ∈ tblG := tgi 847 (by decide +kernel) rfl
theorem jnX0 : zIn qX0_init 0 ∧ Cond.instanceMethod qX0_init.1 ∈ tblG ∧ qX0_init.1.name = "<init>" ∧ qX0_init.2.2.2 = none := ⟨⟨tgi 91 (by decide +kernel) rfl, tgi 63 (by decide +kernel) rfl, by decide +kernel⟩, tgi 90 (by decide +kernel) rfl, rfl, rfl⟩
theorem jnX1 : zIn qX1_init 0 ∧ Cond.instanceMethod qX1_init.1 ∈ tblG ∧ qX1_init.1.name = "<init>" ∧ qX1_init.2.2.2 = none := ⟨⟨tgi 203 (by decide +kernel) rfl, tgi 66 (by decide +kernel) rfl, by decide +kernel⟩, tgi 202 (by decide +kernel) rfl, rfl, rfl⟩
theorem jnX2 : zIn qX2_init 0 ∧ Cond.instanceMethod qX2_init.1 ∈ tblG ∧ qX2_init.1.name = "<init>" ∧ qX2_init.2.2.2 = none := ⟨⟨tgi 130 (by decide +kernel) rfl, tgi 65 (by decide +kernel) rfl, by decide +kernel⟩, tgi 129 (by decide +kernel) rfl, rfl, rfl⟩
theorem jnX4 : zIn qX4_init 0 ∧ Cond.instanceMethod qX4_init.1 ∈ tblG ∧ qX4_init.1.name = "<init>" ∧ qX4_init.2.2.2 = none := ⟨⟨tgi 100 (by decide +kernel) rfl, tgi 64 (by decide +kernel) rfl, by decide +kernel⟩, tgi 99 (by decide +kernel) rfl, rfl, rfl⟩
theorem jnX5 : zIn qX5_init 0 ∧ Cond.instanceMethod qX5_init.1 ∈ tblG ∧ qX5_init.1.name = "<init>" ∧ qX5_init.2.2.2 = none := ⟨⟨tgi 274 (by decide +kernel) rfl, tgi 69 (by decide +kernel) rfl, by decide +kernel⟩, tgi 273 (by decide +kernel) rfl, rfl, rfl⟩
theorem jnX6 : zIn qX6_init 0 ∧ Cond.instanceMethod qX6_init.1 ∈ tblG ∧ qX6_init.1.name = "<init>" ∧ qX6_init.2.2.2 = none := ⟨⟨tgi 209 (by decide +kernel) rfl, tgi 67 (by decide +kernel) rfl, by decide +kernel⟩, tgi 208 (by decide +kernel) rfl, rfl, rfl⟩
theorem jnX7 : zIn qX7_init 0 ∧ Cond.instanceMethod qX7_init.1 ∈ tblG ∧ qX7_init.1.name = "<init>" ∧ qX7_init.2.2.2 = none := ⟨⟨tgi 247 (by decide +kernel) rfl, tgi 68 (by decide +kernel) rfl, by decide +kernel⟩, tgi 246 (by decide +kernel) rfl, rfl, rfl⟩
theorem jnX8 : zIn qX8_init 0 ∧ Cond.instanceMethod qX8_init.1 ∈ tblG ∧ qX8_init.1.name = "<init>" ∧ qX8_init.2.2.2 = none := ⟨⟨tgi 83 (by decide +kernel) rfl, tgi 62 (by decide +kernel) rfl, by decide +kernel⟩, tgi 82 (by decide +kernel) rfl, rfl, rfl⟩
theorem jnX9 : zIn qX9_init 0 ∧ Cond.instanceMethod qX9_init.1 ∈ tblG ∧ qX9_init.1.name = "<init>" ∧ qX9_init.2.2.2 = none := ⟨⟨tgi 846 (by decide +kernel) rfl, tgi 70 (by decide +kernel) rfl, by decide +kernel⟩, tgi 845 (by decide +kernel) rfl, rfl, rfl⟩
theorem df0 : ∀ j, j < 6 → defaultValue (tyX0 j) = vp_V [.null, .null, .int (zi 0), .int (zi 0), .int (zi 0), .int (zi 0)] j := by
  intro j hj
  have h : j = 0 ∨ j = 1 ∨ j = 2 ∨ j = 3 ∨ j = 4 ∨ j = 5 := by omega
  rcases h with rfl | rfl | rfl | rfl | rfl | rfl <;> rfl
theorem df1 : ∀ j, j < 2 → defaultValue (tyX1 j) = vp_V [.null, .int (zi 0)] j := by
  intro j hj
  have h : j = 0 ∨ j = 1 := by omega
  rcases h with rfl | rfl <;> rfl
theorem df2 : ∀ j, j < 7 → defaultValue (tyX2 j) = vp_V [.int (zi 0), .int (zi 0), .int (zi 0), .int (zi 0), .int (zi 0), .int (zi 0), .int (zi 0)] j := by
  intro j hj
  have h : j = 0 ∨ j = 1 ∨ j = 2 ∨ j = 3 ∨ j = 4 ∨ j = 5 ∨ j = 6 := by omega
  rcases h with rfl | rfl | rfl | rfl | rfl | rfl | rfl <;> rfl
theorem df3 : ∀ j, j < 5 → defaultValue (tyX4 j) = vp_V [.int (zi 0), .int (zi 0), .int (zi 0), .int (zi 0), .int (zi 0)] j := by
  intro j hj
  have h : j = 0 ∨ j = 1 ∨ j = 2 ∨ j = 3 ∨ j = 4 := by omega
  rcases h with rfl | rfl | rfl | rfl | rfl <;> rfl
theorem df4 : ∀ j, j < 3 → defaultValue (tyX5 j) = vp_V [.null, .int (zi 0), .int (zi 0)] j := by
  intro j hj
  have h : j = 0 ∨ j = 1 ∨ j = 2 := by omega
  rcases h with rfl | rfl | rfl <;> rfl
theorem df5 : ∀ j, j < 6 → defaultValue (tyX6 j) = vp_V [.null, .int (zi 0), .int (zi 0), .int (zi 0), .int (zi 0), .int (zi 0)] j := by
  intro j hj
  have h : j = 0 ∨ j = 1 ∨ j = 2 ∨ j = 3 ∨ j = 4 ∨ j = 5 := by omega
  rcases h with rfl | rfl | rfl | rfl | rfl | rfl <;> rfl
theorem df6 : ∀ j, j < 5 → defaultValue (tyX7 j) = vp_V [.null, .null, .null, .null, .int (zi 0)] j := by
  intro j hj
  have h : j = 0 ∨ j = 1 ∨ j = 2 ∨ j = 3 ∨ j = 4 := by omega
  rcases h with rfl | rfl | rfl | rfl | rfl <;> rfl
theorem df7 : ∀ j, j < 8 → defaultValue (tyX8 j) = vp_V [.null, .null, .null, .null, .null, .null, .null, .int (zi 0)] j := by
  intro j hj
  have h : j = 0 ∨ j = 1 ∨ j = 2 ∨ j = 3 ∨ j = 4 ∨ j = 5 ∨ j = 6 ∨ j = 7 := by omega
  rcases h with rfl | rfl | rfl | rfl | rfl | rfl | rfl | rfl <;> rfl
theorem df8 : ∀ j, j < 19 → defaultValue (tyX9 j) = vp_V [.null, .null, .null, .null, .null, .int (zi 0), .null, .null, .int (zi 0), .null, .int (zi 0), .int (zi 0), .int (zi 0), .int (zi 0), .int (zi 0), .null, .null, .null, .null] j := by
  intro j hj
  have h : j = 0 ∨ j = 1 ∨ j = 2 ∨ j = 3 ∨ j = 4 ∨ j = 5 ∨ j = 6 ∨ j = 7 ∨ j = 8 ∨ j = 9 ∨ j = 10 ∨ j = 11 ∨ j = 12 ∨ j = 13 ∨ j = 14 ∨ j = 15 ∨ j = 16 ∨ j = 17 ∨ j = 18 := by omega
  rcases h with rfl | rfl | rfl | rfl | rfl | rfl | rfl | rfl | rfl | rfl | rfl | rfl | rfl | rfl | rfl | rfl | rfl | rfl | rfl <;> rfl
