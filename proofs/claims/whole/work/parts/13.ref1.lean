/-! the reference: leaves (laid by wip/whole/gen/ref1.py) -/
set_option maxRecDepth 100000 in
set_option maxHeartbeats 4000000 in
theorem m_in {Γ : zC} {l : Launch} {d : Nat} {μ : zMem} {v lo hi : Int} (hv : -9223372036854775808 ≤ v ∧ v ≤ 9223372036854775807) (hl : -9223372036854775808 ≤ lo ∧ lo ≤ 9223372036854775807) (hh : -9223372036854775808 ≤ hi ∧ hi ≤ 9223372036854775807) : zRet Γ l (d + 0) qX9_in [.long (zl v), .long (zl lo), .long (zl hi)] μ (some (.int (zi (zb (lo ≤ v ∧ v ≤ hi))))) μ := by
  refine zRet.mk 0 [.long (zl v), .null, .long (zl lo), .null, .long (zl hi), .null] RX9 rfl (by decide +kernel) (Nat.le_of_ble_eq_true rfl) rfl ?_
  intro p e s m below meth c C hr hlk
  refine zV_lload_n (i := 0) (n := 1) C dX9_in_0 rfl rfl rfl ?_
  refine zV_lload_n (i := 2) (n := 2) C dX9_in_1 rfl rfl rfl ?_
  refine zV_lcmp_lt (n := 6) C 17 dX9_in_2 dX9_in_3 (by decide) (by first | omega | exact zb_rg) (by first | omega | exact zb_rg) rfl (fun h2 => ?_) (fun h2 => ?_)
  · skip
    refine zV_iconst (n := 18) C dX9_in_17 rfl ?_
    exact zV_zreturn C hr hlk dX9_in_18 (by first | rfl | exact (zi_z zb_01).1 | exact (zi_z (by omega)).1) (by first | exact (congrArg (fun z => some (Value.int (zi z))) (zb_t (by omega)).symm) | exact (congrArg (fun z => some (Value.int (zi z))) (zb_f (by omega)).symm)) (by rfl)
  · skip
    refine zV_lload_n (i := 0) (n := 7) C dX9_in_6 rfl rfl rfl ?_
    refine zV_lload (n := 9) C dX9_in_7 rfl rfl ?_
    refine zV_lcmp_gt (n := 13) C 17 dX9_in_9 dX9_in_10 (by decide) (by first | omega | exact zb_rg) (by first | omega | exact zb_rg) rfl (fun h9 => ?_) (fun h9 => ?_)
    · skip
      refine zV_iconst (n := 18) C dX9_in_17 rfl ?_
      exact zV_zreturn C hr hlk dX9_in_18 (by first | rfl | exact (zi_z zb_01).1 | exact (zi_z (by omega)).1) (by first | exact (congrArg (fun z => some (Value.int (zi z))) (zb_t (by omega)).symm) | exact (congrArg (fun z => some (Value.int (zi z))) (zb_f (by omega)).symm)) (by rfl)
    · skip
      refine zV_iconst (n := 14) C dX9_in_13 rfl ?_
      refine zV_goto C 18 dX9_in_14 (by decide) ?_
      exact zV_zreturn C hr hlk dX9_in_18 (by first | rfl | exact (zi_z zb_01).1 | exact (zi_z (by omega)).1) (by first | exact (congrArg (fun z => some (Value.int (zi z))) (zb_t (by omega)).symm) | exact (congrArg (fun z => some (Value.int (zi z))) (zb_f (by omega)).symm)) (by rfl)

set_option maxRecDepth 100000 in
set_option maxHeartbeats 4000000 in
theorem m_isSeat {Γ : zC} {l : Launch} {d : Nat} {μ : zMem} {v : Int} (hv : -2147483648 ≤ v ∧ v ≤ 2147483647) : zRet Γ l (d + 1) qX9_isSeat [.int (zi v)] μ (some (.int (zi (zb (0 ≤ v ∧ v ≤ 2))))) μ := by
  refine zRet.mk 0 [.int (zi v)] RX9 rfl (by decide +kernel) (Nat.le_of_ble_eq_true rfl) rfl ?_
  intro p e s m below meth c C hr hlk
  refine zV_iload_n (i := 0) (n := 1) C dX9_isSeat_0 rfl rfl rfl ?_
  refine zV_i2l (n := 2) C dX9_isSeat_1 (by first | omega | exact zb_rg) rfl ?_
  refine zV_lconst (v := 0) (n := 3) C dX9_isSeat_2 rfl rfl ?_
  refine zV_ldc2 (n := 6) C dX9_isSeat_3 kX9_52 rfl ?_
  refine zV_callS3u (n := 9) C jX9_in lX9_54 (m_in (d := d) (by omega) (by omega) (by omega)) dX9_isSeat_6 (Nat.le_of_ble_eq_true rfl) (zfit_of (by omega) (by decide)) ⟨Nat.le_refl _, Nat.le_refl _⟩ rfl ?_
  exact zV_zreturn C hr hlk dX9_isSeat_9 (by first | rfl | exact (zi_z zb_01).1 | exact (zi_z (by omega)).1) (by rfl) (by rfl)

set_option maxRecDepth 100000 in
set_option maxHeartbeats 4000000 in
theorem m_isKind {Γ : zC} {l : Launch} {d : Nat} {μ : zMem} {v : Int} (hv : -2147483648 ≤ v ∧ v ≤ 2147483647) : zRet Γ l (d + 1) qX9_isKind [.int (zi v)] μ (some (.int (zi (zb (0 ≤ v ∧ v ≤ 5))))) μ := by
  refine zRet.mk 0 [.int (zi v)] RX9 rfl (by decide +kernel) (Nat.le_of_ble_eq_true rfl) rfl ?_
  intro p e s m below meth c C hr hlk
  refine zV_iload_n (i := 0) (n := 1) C dX9_isKind_0 rfl rfl rfl ?_
  refine zV_i2l (n := 2) C dX9_isKind_1 (by first | omega | exact zb_rg) rfl ?_
  refine zV_lconst (v := 0) (n := 3) C dX9_isKind_2 rfl rfl ?_
  refine zV_ldc2 (n := 6) C dX9_isKind_3 kX9_58 rfl ?_
  refine zV_callS3u (n := 9) C jX9_in lX9_54 (m_in (d := d) (by omega) (by omega) (by omega)) dX9_isKind_6 (Nat.le_of_ble_eq_true rfl) (zfit_of (by omega) (by decide)) ⟨Nat.le_refl _, Nat.le_refl _⟩ rfl ?_
  exact zV_zreturn C hr hlk dX9_isKind_9 (by first | rfl | exact (zi_z zb_01).1 | exact (zi_z (by omega)).1) (by rfl) (by rfl)

set_option maxRecDepth 100000 in
set_option maxHeartbeats 4000000 in
theorem m_isOne {Γ : zC} {l : Launch} {d : Nat} {μ : zMem} {v : Int} (hv : -2147483648 ≤ v ∧ v ≤ 2147483647) : zRet Γ l (d + 1) qX9_isOne [.int (zi v)] μ (some (.int (zi (zb (0 ≤ v ∧ v ≤ 3))))) μ := by
  refine zRet.mk 0 [.int (zi v)] RX9 rfl (by decide +kernel) (Nat.le_of_ble_eq_true rfl) rfl ?_
  intro p e s m below meth c C hr hlk
  refine zV_iload_n (i := 0) (n := 1) C dX9_isOne_0 rfl rfl rfl ?_
  refine zV_i2l (n := 2) C dX9_isOne_1 (by first | omega | exact zb_rg) rfl ?_
  refine zV_lconst (v := 0) (n := 3) C dX9_isOne_2 rfl rfl ?_
  refine zV_ldc2 (n := 6) C dX9_isOne_3 kX9_296 rfl ?_
  refine zV_callS3u (n := 9) C jX9_in lX9_54 (m_in (d := d) (by omega) (by omega) (by omega)) dX9_isOne_6 (Nat.le_of_ble_eq_true rfl) (zfit_of (by omega) (by decide)) ⟨Nat.le_refl _, Nat.le_refl _⟩ rfl ?_
  exact zV_zreturn C hr hlk dX9_isOne_9 (by first | rfl | exact (zi_z zb_01).1 | exact (zi_z (by omega)).1) (by rfl) (by rfl)

set_option maxRecDepth 100000 in
set_option maxHeartbeats 4000000 in
theorem m_isLetter {Γ : zC} {l : Launch} {d : Nat} {μ : zMem} {v : Int} (hv : -2147483648 ≤ v ∧ v ≤ 2147483647) : zRet Γ l (d + 1) qX9_isLetter [.int (zi v)] μ (some (.int (zi (zb (97 ≤ v ∧ v ≤ 122))))) μ := by
  refine zRet.mk 0 [.int (zi v)] RX9 rfl (by decide +kernel) (Nat.le_of_ble_eq_true rfl) rfl ?_
  intro p e s m below meth c C hr hlk
  refine zV_iload_n (i := 0) (n := 1) C dX9_isLetter_0 rfl rfl rfl ?_
  refine zV_i2l (n := 2) C dX9_isLetter_1 (by first | omega | exact zb_rg) rfl ?_
  refine zV_ldc2 (n := 5) C dX9_isLetter_2 kX9_193 rfl ?_
  refine zV_ldc2 (n := 8) C dX9_isLetter_5 kX9_195 rfl ?_
  refine zV_callS3u (n := 11) C jX9_in lX9_54 (m_in (d := d) (by omega) (by omega) (by omega)) dX9_isLetter_8 (Nat.le_of_ble_eq_true rfl) (zfit_of (by omega) (by decide)) ⟨Nat.le_refl _, Nat.le_refl _⟩ rfl ?_
  exact zV_zreturn C hr hlk dX9_isLetter_11 (by first | rfl | exact (zi_z zb_01).1 | exact (zi_z (by omega)).1) (by rfl) (by rfl)

set_option maxRecDepth 100000 in
set_option maxHeartbeats 4000000 in
theorem m_isDigit {Γ : zC} {l : Launch} {d : Nat} {μ : zMem} {v : Int} (hv : -2147483648 ≤ v ∧ v ≤ 2147483647) : zRet Γ l (d + 1) qX9_isDigit [.int (zi v)] μ (some (.int (zi (zb (48 ≤ v ∧ v ≤ 57))))) μ := by
  refine zRet.mk 0 [.int (zi v)] RX9 rfl (by decide +kernel) (Nat.le_of_ble_eq_true rfl) rfl ?_
  intro p e s m below meth c C hr hlk
  refine zV_iload_n (i := 0) (n := 1) C dX9_isDigit_0 rfl rfl rfl ?_
  refine zV_i2l (n := 2) C dX9_isDigit_1 (by first | omega | exact zb_rg) rfl ?_
  refine zV_ldc2 (n := 5) C dX9_isDigit_2 kX9_197 rfl ?_
  refine zV_ldc2 (n := 8) C dX9_isDigit_5 kX9_199 rfl ?_
  refine zV_callS3u (n := 11) C jX9_in lX9_54 (m_in (d := d) (by omega) (by omega) (by omega)) dX9_isDigit_8 (Nat.le_of_ble_eq_true rfl) (zfit_of (by omega) (by decide)) ⟨Nat.le_refl _, Nat.le_refl _⟩ rfl ?_
  exact zV_zreturn C hr hlk dX9_isDigit_11 (by first | rfl | exact (zi_z zb_01).1 | exact (zi_z (by omega)).1) (by rfl) (by rfl)

set_option maxRecDepth 100000 in
set_option maxHeartbeats 4000000 in
theorem m_spotOf {Γ : zC} {l : Launch} {d : Nat} {μ : zMem} {k w : Int} : zRet Γ l (d + 0) qX9_spotOf [.int (zi k), .int (zi w)] μ (some (.int (zi (4 + 5 * k + w)))) μ := by
  refine zRet.mk 0 [.int (zi k), .int (zi w)] RX9 rfl (by decide +kernel) (Nat.le_of_ble_eq_true rfl) rfl ?_
  intro p e s m below meth c C hr hlk
  refine zV_iconst (n := 1) C dX9_spotOf_0 rfl ?_
  refine zV_iconst (n := 2) C dX9_spotOf_1 rfl ?_
  refine zV_iload_n (i := 0) (n := 3) C dX9_spotOf_2 rfl rfl rfl ?_
  refine zV_imul (n := 4) C dX9_spotOf_3 rfl ?_
  refine zV_iadd (n := 5) C dX9_spotOf_4 rfl ?_
  refine zV_iload_n (i := 1) (n := 6) C dX9_spotOf_5 rfl rfl rfl ?_
  refine zV_iadd (n := 7) C dX9_spotOf_6 rfl ?_
  exact zV_ireturn C hr hlk dX9_spotOf_7 (by rfl) (by rfl)

set_option maxRecDepth 100000 in
set_option maxHeartbeats 4000000 in
theorem m_placeOf {Γ : zC} {l : Launch} {d : Nat} {μ : zMem} {x w : Int} : zRet Γ l (d + 0) qX9_placeOf [.int (zi x), .int (zi w)] μ (some (.int (zi (19 + 6 * x + w)))) μ := by
  refine zRet.mk 0 [.int (zi x), .int (zi w)] RX9 rfl (by decide +kernel) (Nat.le_of_ble_eq_true rfl) rfl ?_
  intro p e s m below meth c C hr hlk
  refine zV_bipush (n := 2) C dX9_placeOf_0 (by decide) rfl ?_
  refine zV_bipush (n := 4) C dX9_placeOf_2 (by decide) rfl ?_
  refine zV_iload_n (i := 0) (n := 5) C dX9_placeOf_4 rfl rfl rfl ?_
  refine zV_imul (n := 6) C dX9_placeOf_5 rfl ?_
  refine zV_iadd (n := 7) C dX9_placeOf_6 rfl ?_
  refine zV_iload_n (i := 1) (n := 8) C dX9_placeOf_7 rfl rfl rfl ?_
  refine zV_iadd (n := 9) C dX9_placeOf_8 rfl ?_
  exact zV_ireturn C hr hlk dX9_placeOf_9 (by rfl) (by rfl)

set_option maxRecDepth 100000 in
set_option maxHeartbeats 4000000 in
theorem m_its {Γ : zC} {l : Launch} {d : Nat} {μ : zMem} {k w : Int} (h : 0 ≤ 4 + 5 * k + w ∧ 4 + 5 * k + w < 55) : zRet Γ l (d + 1) qX9_its [.ref (za Γ 5 0), .int (zi k), .int (zi w)] μ (some (.int (zi (itS (μ 5 1) k w)))) μ := by
  refine zRet.mk 0 [.ref (za Γ 5 0), .int (zi k), .int (zi w)] RX9 rfl (by decide +kernel) (Nat.le_of_ble_eq_true rfl) rfl ?_
  intro p e s m below meth c C hr hlk
  refine zV_aload_n (i := 0) (n := 1) C dX9_its_0 rfl rfl rfl ?_
  refine zV_getP (f := 0) (n := 4) C zk8 fX9_7 dX9_its_1 zs_ref rfl (by decide) rfl ?_
  refine zV_iload_n (i := 1) (n := 5) C dX9_its_4 rfl rfl rfl ?_
  refine zV_iload_n (i := 2) (n := 6) C dX9_its_5 rfl rfl rfl ?_
  refine zV_callS2u (n := 9) C jX9_spotOf lX9_47 (m_spotOf (d := d) ) dX9_its_6 (Nat.le_of_ble_eq_true rfl) (zfit_of (by omega) (by decide)) ⟨Nat.le_refl _, Nat.le_refl _⟩ rfl ?_
  refine zV_iald (n := 10) C dX9_its_9 zs_s (by first | omega | exact zb_rg) (by decide) rfl ?_
  exact zV_ireturn C hr hlk dX9_its_10 (by rfl) (by rfl)

set_option maxRecDepth 100000 in
set_option maxHeartbeats 4000000 in
theorem m_told {Γ : zC} {l : Launch} {d : Nat} {μ : zMem} {x w : Int} (h : 0 ≤ 19 + 6 * x + w ∧ 19 + 6 * x + w < 55) : zRet Γ l (d + 1) qX9_told [.ref (za Γ 5 0), .int (zi x), .int (zi w)] μ (some (.int (zi (toS (μ 5 1) x w)))) μ := by
  refine zRet.mk 0 [.ref (za Γ 5 0), .int (zi x), .int (zi w)] RX9 rfl (by decide +kernel) (Nat.le_of_ble_eq_true rfl) rfl ?_
  intro p e s m below meth c C hr hlk
  refine zV_aload_n (i := 0) (n := 1) C dX9_told_0 rfl rfl rfl ?_
  refine zV_getP (f := 0) (n := 4) C zk8 fX9_7 dX9_told_1 zs_ref rfl (by decide) rfl ?_
  refine zV_iload_n (i := 1) (n := 5) C dX9_told_4 rfl rfl rfl ?_
  refine zV_iload_n (i := 2) (n := 6) C dX9_told_5 rfl rfl rfl ?_
  refine zV_callS2u (n := 9) C jX9_placeOf lX9_60 (m_placeOf (d := d) ) dX9_told_6 (Nat.le_of_ble_eq_true rfl) (zfit_of (by omega) (by decide)) ⟨Nat.le_refl _, Nat.le_refl _⟩ rfl ?_
  refine zV_iald (n := 10) C dX9_told_9 zs_s (by first | omega | exact zb_rg) (by decide) rfl ?_
  exact zV_ireturn C hr hlk dX9_told_10 (by rfl) (by rfl)

set_option maxRecDepth 100000 in
set_option maxHeartbeats 4000000 in
theorem m_isChild {Γ : zC} {l : Launch} {d : Nat} {μ : zMem} {x : Int} (hx : -2147483648 ≤ x ∧ x ≤ 2147483647) (h0 : 0 ≤ μ 5 1 0 ∧ μ 5 1 0 ≤ 6) : zRet Γ l (d + 1) qX9_isChild [.ref (za Γ 5 0), .int (zi x)] μ (some (.int (zi (zb (0 ≤ x ∧ x ≤ μ 5 1 0 - 1))))) μ := by
  refine zRet.mk 0 [.ref (za Γ 5 0), .int (zi x)] RX9 rfl (by decide +kernel) (Nat.le_of_ble_eq_true rfl) rfl ?_
  intro p e s m below meth c C hr hlk
  refine zV_iload_n (i := 1) (n := 1) C dX9_isChild_0 rfl rfl rfl ?_
  refine zV_i2l (n := 2) C dX9_isChild_1 (by first | omega | exact zb_rg) rfl ?_
  refine zV_lconst (v := 0) (n := 3) C dX9_isChild_2 rfl rfl ?_
  refine zV_aload_n (i := 0) (n := 4) C dX9_isChild_3 rfl rfl rfl ?_
  refine zV_getP (f := 0) (n := 7) C zk8 fX9_7 dX9_isChild_4 zs_ref rfl (by decide) rfl ?_
  refine zV_iconst (n := 8) C dX9_isChild_7 rfl ?_
  refine zV_iald (n := 9) C dX9_isChild_8 zs_s (by first | omega | exact zb_rg) (by decide) rfl ?_
  refine zV_iconst (n := 10) C dX9_isChild_9 rfl ?_
  refine zV_isub (n := 11) C dX9_isChild_10 rfl ?_
  refine zV_i2l (n := 12) C dX9_isChild_11 (by first | omega | exact zb_rg) rfl ?_
  refine zV_callS3u (n := 15) C jX9_in lX9_54 (m_in (d := d) (by omega) (by omega) (by omega)) dX9_isChild_12 (Nat.le_of_ble_eq_true rfl) (zfit_of (by omega) (by decide)) ⟨Nat.le_refl _, Nat.le_refl _⟩ rfl ?_
  exact zV_zreturn C hr hlk dX9_isChild_15 (by first | rfl | exact (zi_z zb_01).1 | exact (zi_z (by omega)).1) (by rfl) (by rfl)

set_option maxRecDepth 100000 in
set_option maxHeartbeats 4000000 in
theorem m_heldTo {Γ : zC} {l : Launch} {d : Nat} {μ : zMem} {a b : Int} (ha : -2147483648 ≤ a ∧ a ≤ 2147483647) (hb : -2147483648 ≤ b ∧ b ≤ 2147483647) : zRet Γ l (d + 0) qX9_heldTo [.int (zi a), .int (zi b)] μ (some (.int (zi (zmin a b)))) μ := by
  refine zRet.mk 0 [.int (zi a), .int (zi b)] RX9 rfl (by decide +kernel) (Nat.le_of_ble_eq_true rfl) rfl ?_
  intro p e s m below meth c C hr hlk
  refine zV_iload_n (i := 0) (n := 1) C dX9_heldTo_0 rfl rfl rfl ?_
  refine zV_iload_n (i := 1) (n := 2) C dX9_heldTo_1 rfl rfl rfl ?_
  refine zV_icmp_le (n := 5) C 9 dX9_heldTo_2 (by decide) (by first | omega | exact zb_rg) (by first | omega | exact zb_rg) rfl (fun h2 => ?_) (fun h2 => ?_)
  · skip
    refine zV_iload_n (i := 0) (n := 10) C dX9_heldTo_9 rfl rfl rfl ?_
    exact zV_ireturn C hr hlk dX9_heldTo_10 (by first | exact congrArg (fun z => some (Value.int (zi z))) (zmin_gt (by omega)).symm | exact congrArg (fun z => some (Value.int (zi z))) (zmin_le (by omega)).symm) (by rfl)
  · skip
    refine zV_iload_n (i := 1) (n := 6) C dX9_heldTo_5 rfl rfl rfl ?_
    refine zV_goto C 10 dX9_heldTo_6 (by decide) ?_
    exact zV_ireturn C hr hlk dX9_heldTo_10 (by first | exact congrArg (fun z => some (Value.int (zi z))) (zmin_gt (by omega)).symm | exact congrArg (fun z => some (Value.int (zi z))) (zmin_le (by omega)).symm) (by rfl)

set_option maxRecDepth 100000 in
set_option maxHeartbeats 4000000 in
theorem m_isUnder {Γ : zC} {l : Launch} {d : Nat} {μ : zMem} {a b : Int} (ha : 0 ≤ a ∧ a ≤ 5) (hb : 0 ≤ b ∧ b ≤ 5) : zRet Γ l (d + 0) qX9_isUnder [.int (zi a), .int (zi b)] μ (some (.int (zi (zb (rUnder a b))))) μ := by
  refine zRet.mk 0 [.int (zi a), .int (zi b)] RX9 rfl (by decide +kernel) (Nat.le_of_ble_eq_true rfl) rfl ?_
  intro p e s m below meth c C hr hlk
  refine zV_iload_n (i := 1) (n := 1) C dX9_isUnder_0 rfl rfl rfl ?_
  refine zV_if_eq (n := 4) C 21 dX9_isUnder_1 (by decide) (by first | omega | exact zb_rg) rfl (fun h1 => ?_) (fun h1 => ?_)
  · skip
    refine zV_iconst (n := 22) C dX9_isUnder_21 rfl ?_
    refine zV_goto C 26 dX9_isUnder_22 (by decide) ?_
    exact zV_zreturn C hr hlk dX9_isUnder_26 (by first | rfl | exact (zi_z zb_01).1 | exact (zi_z (by omega)).1) (by first | exact (congrArg (fun z => some (Value.int (zi z))) (zb_t (by omega)).symm) | exact (congrArg (fun z => some (Value.int (zi z))) (zb_f (by omega)).symm)) (by rfl)
  · skip
    refine zV_iload_n (i := 0) (n := 5) C dX9_isUnder_4 rfl rfl rfl ?_
    refine zV_iload_n (i := 1) (n := 6) C dX9_isUnder_5 rfl rfl rfl ?_
    refine zV_icmp_eq (n := 9) C 21 dX9_isUnder_6 (by decide) (by first | omega | exact zb_rg) (by first | omega | exact zb_rg) rfl (fun h6 => ?_) (fun h6 => ?_)
    · skip
      refine zV_iconst (n := 22) C dX9_isUnder_21 rfl ?_
      refine zV_goto C 26 dX9_isUnder_22 (by decide) ?_
      exact zV_zreturn C hr hlk dX9_isUnder_26 (by first | rfl | exact (zi_z zb_01).1 | exact (zi_z (by omega)).1) (by first | exact (congrArg (fun z => some (Value.int (zi z))) (zb_t (by omega)).symm) | exact (congrArg (fun z => some (Value.int (zi z))) (zb_f (by omega)).symm)) (by rfl)
    · skip
      refine zV_iload_n (i := 0) (n := 10) C dX9_isUnder_9 rfl rfl rfl ?_
      refine zV_iconst (n := 11) C dX9_isUnder_10 rfl ?_
      refine zV_icmp_le (n := 14) C 25 dX9_isUnder_11 (by decide) (by first | omega | exact zb_rg) (by first | omega | exact zb_rg) rfl (fun h11 => ?_) (fun h11 => ?_)
      · skip
        refine zV_iconst (n := 26) C dX9_isUnder_25 rfl ?_
        exact zV_zreturn C hr hlk dX9_isUnder_26 (by first | rfl | exact (zi_z zb_01).1 | exact (zi_z (by omega)).1) (by first | exact (congrArg (fun z => some (Value.int (zi z))) (zb_t (by omega)).symm) | exact (congrArg (fun z => some (Value.int (zi z))) (zb_f (by omega)).symm)) (by rfl)
      · skip
        refine zV_iload_n (i := 0) (n := 15) C dX9_isUnder_14 rfl rfl rfl ?_
        refine zV_iconst (n := 16) C dX9_isUnder_15 rfl ?_
        refine zV_isub (n := 17) C dX9_isUnder_16 rfl ?_
        refine zV_iload_n (i := 1) (n := 18) C dX9_isUnder_17 rfl rfl rfl ?_
        refine zV_icmp_ne (n := 21) C 25 dX9_isUnder_18 (by decide) (by first | omega | exact zb_rg) (by first | omega | exact zb_rg) rfl (fun h18 => ?_) (fun h18 => ?_)
        · skip
          refine zV_iconst (n := 26) C dX9_isUnder_25 rfl ?_
          exact zV_zreturn C hr hlk dX9_isUnder_26 (by first | rfl | exact (zi_z zb_01).1 | exact (zi_z (by omega)).1) (by first | exact (congrArg (fun z => some (Value.int (zi z))) (zb_t (by omega)).symm) | exact (congrArg (fun z => some (Value.int (zi z))) (zb_f (by omega)).symm)) (by rfl)
        · skip
          refine zV_iconst (n := 22) C dX9_isUnder_21 rfl ?_
          refine zV_goto C 26 dX9_isUnder_22 (by decide) ?_
          exact zV_zreturn C hr hlk dX9_isUnder_26 (by first | rfl | exact (zi_z zb_01).1 | exact (zi_z (by omega)).1) (by first | exact (congrArg (fun z => some (Value.int (zi z))) (zb_t (by omega)).symm) | exact (congrArg (fun z => some (Value.int (zi z))) (zb_f (by omega)).symm)) (by rfl)

set_option maxRecDepth 100000 in
set_option maxHeartbeats 4000000 in
theorem m_finds {Γ : zC} {l : Launch} {d : Nat} {μ : zMem} {x : Int} (hx : -1000000007 ≤ x ∧ x ≤ -1000000001) : zRet Γ l (d + 0) qX9_finds [.ref (za Γ 5 0), .int (zi x)] μ (some (.int (zi x))) (zset μ 5 5 (rFind (μ 5 5) x)) := by
  refine zRet.mk 0 [.ref (za Γ 5 0), .int (zi x)] RX9 rfl (by decide +kernel) (Nat.le_of_ble_eq_true rfl) rfl ?_
  intro p e s m below meth c C hr hlk
  refine zV_aload_n (i := 0) (n := 1) C dX9_finds_0 rfl rfl rfl ?_
  refine zV_getP (f := 4) (n := 4) C zk8 fX9_22 dX9_finds_1 zs_ref rfl (by decide) rfl ?_
  refine zV_ldc (n := 6) C dX9_finds_4 kX9_51 rfl ?_
  refine zV_iload_n (i := 1) (n := 7) C dX9_finds_6 rfl rfl rfl ?_
  refine zV_isub (n := 8) C dX9_finds_7 rfl ?_
  refine zV_dup2 (n := 9) C dX9_finds_8 rfl rfl rfl ?_
  refine zV_iald (n := 10) C dX9_finds_9 zs_stat (by omega) (by decide) rfl ?_
  refine zV_iconst (n := 11) C dX9_finds_10 rfl ?_
  refine zV_iadd (n := 12) C dX9_finds_11 rfl ?_
  refine zV_iast (n := 13) C dX9_finds_12 zs_stat (by omega) (by decide) rfl ?_
  refine zV_iload_n (i := 1) (n := 14) C dX9_finds_13 rfl rfl rfl ?_
  exact zV_ireturn C hr hlk dX9_finds_14 (by rfl) (by exact zup_zset)

set_option maxRecDepth 100000 in
set_option maxHeartbeats 4000000 in
theorem m_becomes {Γ : zC} {l : Launch} {d : Nat} {μ : zMem} {i v : Int} (hi : 0 ≤ i ∧ i < 55) : zRet Γ l (d + 0) qX9_becomes [.ref (za Γ 5 0), .int (zi i), .int (zi v)] μ (some (.int (zi (μ 5 1 i)))) (zset μ 5 1 (zfu (μ 5 1) i v)) := by
  refine zRet.mk 1 [.ref (za Γ 5 0), .int (zi i), .int (zi v), .null] RX9 rfl (by decide +kernel) (Nat.le_of_ble_eq_true rfl) rfl ?_
  intro p e s m below meth c C hr hlk
  refine zV_aload_n (i := 0) (n := 1) C dX9_becomes_0 rfl rfl rfl ?_
  refine zV_getP (f := 0) (n := 4) C zk8 fX9_7 dX9_becomes_1 zs_ref rfl (by decide) rfl ?_
  refine zV_iload_n (i := 1) (n := 5) C dX9_becomes_4 rfl rfl rfl ?_
  refine zV_iald (n := 6) C dX9_becomes_5 zs_s (by omega) (by decide) rfl ?_
  refine zS_istore_n_4_3 (n := 7) C dX9_becomes_6 rfl rfl ?_
  refine zV_aload_n (i := 0) (n := 8) C dX9_becomes_7 rfl rfl rfl ?_
  refine zV_getP (f := 0) (n := 11) C zk8 fX9_7 dX9_becomes_8 zs_ref rfl (by decide) rfl ?_
  refine zV_iload_n (i := 1) (n := 12) C dX9_becomes_11 rfl rfl rfl ?_
  refine zV_iload_n (i := 2) (n := 13) C dX9_becomes_12 rfl rfl rfl ?_
  refine zV_iast (n := 14) C dX9_becomes_13 zs_s (by omega) (by decide) rfl ?_
  refine zV_iload_n (i := 3) (n := 15) C dX9_becomes_14 rfl rfl rfl ?_
  exact zV_ireturn C hr hlk dX9_becomes_15 (by rfl) (by exact zup_zset)

set_option maxRecDepth 100000 in
set_option maxHeartbeats 4000000 in
theorem m_seatedAt_step {Γ : zC} {l : Launch} {d : Nat} {p : Program} {e : Env} {s : State} {m : MethodId} {args : Array Value} {below : List Frame} {meth : Method} {c : Code} {Q : State → Prop} (C : zCx Γ (zAA Γ) p s m args c RX9 cX9_seatedAt 4) {μ : zMem} {N : Int} (I : rInv N (μ 5 1)) {x f k : Int} (hx : -2147483648 ≤ x ∧ x ≤ 2147483647) (hk : 0 ≤ k ∧ k < 3) (K : zV Γ (zAA Γ) p l e (zRm (d + 2)) s m args below meth c 0 0 Q 4 [.ref (za Γ 5 0), .int (zi x), .int (zi (if itS (μ 5 1) k 4 = x then k else f)), .int (zi (k + 1))] [] μ) :
    zV Γ (zAA Γ) p l e (zRm (d + 2)) s m args below meth c 0 0 Q 4 [.ref (za Γ 5 0), .int (zi x), .int (zi f), .int (zi k)] [] μ := by
  have hs := I.2.2.2.2.1 k hk.1 hk.2
  have h0 := I.1
  refine zV_iload_n (i := 3) (n := 5) C dX9_seatedAt_4 rfl rfl rfl ?_
  refine zV_iconst (n := 6) C dX9_seatedAt_5 rfl ?_
  refine zV_icmp_ge (n := 9) C 31 dX9_seatedAt_6 (by decide) (by first | omega | exact zb_rg) (by first | omega | exact zb_rg) rfl (fun h => by exfalso; first | omega | exact zb_rg) (fun h6 => ?_)
  refine zV_aload_n (i := 0) (n := 10) C dX9_seatedAt_9 rfl rfl rfl ?_
  refine zV_iload_n (i := 3) (n := 11) C dX9_seatedAt_10 rfl rfl rfl ?_
  refine zV_iconst (n := 12) C dX9_seatedAt_11 rfl ?_
  refine zV_callV2u (n := 15) C zk8 jX9_its lX9_63 (m_its (d := d) (by omega)) dX9_seatedAt_12 zs_ref rfl (Nat.le_of_ble_eq_true rfl) (zfit_of (by omega) (by decide)) ⟨Nat.le_refl _, Nat.le_refl _⟩ rfl ?_
  refine zV_iload_n (i := 1) (n := 16) C dX9_seatedAt_15 rfl rfl rfl ?_
  refine zV_icmp_ne (n := 19) C 23 dX9_seatedAt_16 (by decide) (by first | omega | exact zb_rg) (by first | omega | exact zb_rg) rfl (fun h16 => ?_) (fun h16 => ?_)
  · skip
    refine zV_iload_n (i := 2) (n := 24) C dX9_seatedAt_23 rfl rfl rfl ?_
    refine zS_istore_n_4_2 (n := 25) C dX9_seatedAt_24 rfl rfl ?_
    refine zS_iinc_4_3 (n := 28) C dX9_seatedAt_25 rfl rfl ?_
    refine zV_goto C 4 dX9_seatedAt_28 (by decide) ?_
    first | (rw [if_pos h16] at K; exact K) | (rw [if_neg h16] at K; exact K)
  · skip
    refine zV_iload_n (i := 3) (n := 20) C dX9_seatedAt_19 rfl rfl rfl ?_
    refine zV_goto C 24 dX9_seatedAt_20 (by decide) ?_
    refine zS_istore_n_4_2 (n := 25) C dX9_seatedAt_24 rfl rfl ?_
    refine zS_iinc_4_3 (n := 28) C dX9_seatedAt_25 rfl rfl ?_
    refine zV_goto C 4 dX9_seatedAt_28 (by decide) ?_
    first | (rw [if_pos h16] at K; exact K) | (rw [if_neg h16] at K; exact K)

set_option maxRecDepth 100000 in
set_option maxHeartbeats 4000000 in
theorem m_seatedAt {Γ : zC} {l : Launch} {d : Nat} {μ : zMem} {N : Int} (I : rInv N (μ 5 1)) {x : Int} (hx : -2147483648 ≤ x ∧ x ≤ 2147483647) : zRet Γ l (d + 2) qX9_seatedAt [.ref (za Γ 5 0), .int (zi x)] μ (some (.int (zi (rAt (μ 5 1) x)))) μ := by
  refine zRet.mk 2 [.ref (za Γ 5 0), .int (zi x), .null, .null] RX9 rfl (by decide +kernel) (Nat.le_of_ble_eq_true rfl) rfl ?_
  intro p e s m below meth c C hr hlk
  refine zV_iconst (n := 1) C dX9_seatedAt_0 rfl ?_
  refine zS_istore_n_4_2 (n := 2) C dX9_seatedAt_1 rfl rfl ?_
  refine zV_iconst (n := 3) C dX9_seatedAt_2 rfl ?_
  refine zS_istore_n_4_3 (n := 4) C dX9_seatedAt_3 rfl rfl ?_
  refine m_seatedAt_step C I hx (by decide) ?_
  refine m_seatedAt_step C I hx (by decide) ?_
  refine m_seatedAt_step C I hx (by decide) ?_
  refine zV_iload_n (i := 3) (n := 5) C dX9_seatedAt_4 rfl rfl rfl ?_
  refine zV_iconst (n := 6) C dX9_seatedAt_5 rfl ?_
  refine zV_icmp_ge (n := 9) C 31 dX9_seatedAt_6 (by decide) (by omega) (by omega) rfl (fun h => ?_) (fun h => by exfalso; omega)
  refine zV_iload_n (i := 2) (n := 32) C dX9_seatedAt_31 rfl rfl rfl ?_
  exact zV_ireturn C hr hlk dX9_seatedAt_32 (by rfl) rfl

set_option maxRecDepth 100000 in
set_option maxHeartbeats 4000000 in
theorem m_isTaken {Γ : zC} {l : Launch} {d : Nat} {μ : zMem} {N : Int} (I : rInv N (μ 5 1)) {k : Int} (hk : 0 ≤ k ∧ k < 3) : zRet Γ l (d + 2) qX9_isTaken [.ref (za Γ 5 0), .int (zi k)] μ (some (.int (zi (zb (rTk (μ 5 1) k))))) μ := by
  refine zRet.mk 0 [.ref (za Γ 5 0), .int (zi k)] RX9 rfl (by decide +kernel) (Nat.le_of_ble_eq_true rfl) rfl ?_
  intro p e s m below meth c C hr hlk
  have hs := I.2.2.2.2.1 k hk.1 hk.2
  have h0 := I.1
  refine zV_aload_n (i := 0) (n := 1) C dX9_isTaken_0 rfl rfl rfl ?_
  refine zV_iload_n (i := 1) (n := 2) C dX9_isTaken_1 rfl rfl rfl ?_
  refine zV_iconst (n := 3) C dX9_isTaken_2 rfl ?_
  refine zV_callV2u (n := 6) C zk8 jX9_its lX9_63 (m_its (d := d) (by omega)) dX9_isTaken_3 zs_ref rfl (Nat.le_of_ble_eq_true rfl) (zfit_of (by omega) (by decide)) ⟨Nat.le_refl _, Nat.le_refl _⟩ rfl ?_
  refine zV_if_lt (n := 9) C 13 dX9_isTaken_6 (by decide) (by first | omega | exact zb_rg) rfl (fun h6 => ?_) (fun h6 => ?_)
  · skip
    refine zV_iconst (n := 14) C dX9_isTaken_13 rfl ?_
    exact zV_zreturn C hr hlk dX9_isTaken_14 (by first | rfl | exact (zi_z zb_01).1 | exact (zi_z (by omega)).1) (by first | exact (congrArg (fun z => some (Value.int (zi z))) (zb_t (by omega)).symm) | exact (congrArg (fun z => some (Value.int (zi z))) (zb_f (by omega)).symm)) (by rfl)
  · skip
    refine zV_iconst (n := 10) C dX9_isTaken_9 rfl ?_
    refine zV_goto C 14 dX9_isTaken_10 (by decide) ?_
    exact zV_zreturn C hr hlk dX9_isTaken_14 (by first | rfl | exact (zi_z zb_01).1 | exact (zi_z (by omega)).1) (by first | exact (congrArg (fun z => some (Value.int (zi z))) (zb_t (by omega)).symm) | exact (congrArg (fun z => some (Value.int (zi z))) (zb_f (by omega)).symm)) (by rfl)

set_option maxRecDepth 100000 in
set_option maxHeartbeats 4000000 in
theorem m_isNear {Γ : zC} {l : Launch} {d : Nat} {μ : zMem} {N : Int} (I : rInv N (μ 5 1)) {k : Int} (hk : 0 ≤ k ∧ k < 3) : zRet Γ l (d + 3) qX9_isNear [.ref (za Γ 5 0), .int (zi k)] μ (some (.int (zi (zb (rNear (μ 5 1) k))))) μ := by
  refine zRet.mk 0 [.ref (za Γ 5 0), .int (zi k)] RX9 rfl (by decide +kernel) (Nat.le_of_ble_eq_true rfl) rfl ?_
  intro p e s m below meth c C hr hlk
  refine zV_iload_n (i := 1) (n := 1) C dX9_isNear_0 rfl rfl rfl ?_
  refine zV_iconst (n := 2) C dX9_isNear_1 rfl ?_
  refine zV_icmp_ne (n := 5) C 29 dX9_isNear_2 (by decide) (by first | omega | exact zb_rg) (by first | omega | exact zb_rg) rfl (fun h2 => ?_) (fun h2 => ?_)
  · skip
    refine zV_aload_n (i := 0) (n := 30) C dX9_isNear_29 rfl rfl rfl ?_
    refine zV_iconst (n := 31) C dX9_isNear_30 rfl ?_
    refine zV_callV1u (n := 34) C zk8 jX9_isTaken lX9_88 (m_isTaken (d := d) I (by omega)) dX9_isNear_31 zs_ref rfl (Nat.le_of_ble_eq_true rfl) (zfit_of (by omega) (by decide)) ⟨Nat.le_refl _, Nat.le_refl _⟩ rfl ?_
    exact zV_zreturn C hr hlk dX9_isNear_34 (by first | rfl | exact (zi_z zb_01).1 | exact (zi_z (by omega)).1) (by first | exact congrArg (fun z => some (Value.int (zi z))) (zb_t (by omega)).symm | exact congrArg (fun z => some (Value.int (zi z))) (zb_f (by omega)).symm | exact congrArg (fun z => some (Value.int (zi z))) (zb_congr (by omega)).symm) (by rfl)
  · skip
    refine zV_aload_n (i := 0) (n := 6) C dX9_isNear_5 rfl rfl rfl ?_
    refine zV_iconst (n := 7) C dX9_isNear_6 rfl ?_
    refine zV_callV1u (n := 10) C zk8 jX9_isTaken lX9_88 (m_isTaken (d := d) I (by omega)) dX9_isNear_7 zs_ref rfl (Nat.le_of_ble_eq_true rfl) (zfit_of (by omega) (by decide)) ⟨Nat.le_refl _, Nat.le_refl _⟩ rfl ?_
    refine zV_if_ne (n := 13) C 21 dX9_isNear_10 (by decide) (by first | omega | exact zb_rg) rfl (fun h10 => ?_) (fun h10 => ?_)
    · skip
      simp only [zb_eq0, Decidable.not_not] at h10
      refine zV_iconst (n := 22) C dX9_isNear_21 rfl ?_
      refine zV_goto C 34 dX9_isNear_22 (by decide) ?_
      exact zV_zreturn C hr hlk dX9_isNear_34 (by first | rfl | exact (zi_z zb_01).1 | exact (zi_z (by omega)).1) (by first | exact congrArg (fun z => some (Value.int (zi z))) (zb_t (by omega)).symm | exact congrArg (fun z => some (Value.int (zi z))) (zb_f (by omega)).symm | exact congrArg (fun z => some (Value.int (zi z))) (zb_congr (by omega)).symm) (by rfl)
    · skip
      simp only [zb_eq0, Decidable.not_not] at h10
      refine zV_aload_n (i := 0) (n := 14) C dX9_isNear_13 rfl rfl rfl ?_
      refine zV_iconst (n := 15) C dX9_isNear_14 rfl ?_
      refine zV_callV1u (n := 18) C zk8 jX9_isTaken lX9_88 (m_isTaken (d := d) I (by omega)) dX9_isNear_15 zs_ref rfl (Nat.le_of_ble_eq_true rfl) (zfit_of (by omega) (by decide)) ⟨Nat.le_refl _, Nat.le_refl _⟩ rfl ?_
      refine zV_if_eq (n := 21) C 25 dX9_isNear_18 (by decide) (by first | omega | exact zb_rg) rfl (fun h18 => ?_) (fun h18 => ?_)
      · skip
        simp only [zb_eq0, Decidable.not_not] at h18
        refine zV_iconst (n := 26) C dX9_isNear_25 rfl ?_
        refine zV_goto C 34 dX9_isNear_26 (by decide) ?_
        exact zV_zreturn C hr hlk dX9_isNear_34 (by first | rfl | exact (zi_z zb_01).1 | exact (zi_z (by omega)).1) (by first | exact congrArg (fun z => some (Value.int (zi z))) (zb_t (by omega)).symm | exact congrArg (fun z => some (Value.int (zi z))) (zb_f (by omega)).symm | exact congrArg (fun z => some (Value.int (zi z))) (zb_congr (by omega)).symm) (by rfl)
      · skip
        simp only [zb_eq0, Decidable.not_not] at h18
        refine zV_iconst (n := 22) C dX9_isNear_21 rfl ?_
        refine zV_goto C 34 dX9_isNear_22 (by decide) ?_
        exact zV_zreturn C hr hlk dX9_isNear_34 (by first | rfl | exact (zi_z zb_01).1 | exact (zi_z (by omega)).1) (by first | exact congrArg (fun z => some (Value.int (zi z))) (zb_t (by omega)).symm | exact congrArg (fun z => some (Value.int (zi z))) (zb_f (by omega)).symm | exact congrArg (fun z => some (Value.int (zi z))) (zb_congr (by omega)).symm) (by rfl)

