/-! the class: its plain calls (laid by wip/whole/gen/cls5.py) -/
def bcE (a : Int32) : Int32 :=
  let sh := fun (x : Int32) (k : Int) => (x.toUInt32 >>> ((zi k).toUInt32 &&& Int32.toUInt32 31)).toInt32
  let a1 := a - (sh a 1 &&& zi 1431655765)
  let a2 := (a1 &&& zi 858993459) + (sh a1 2 &&& zi 858993459)
  let a3 := (a2 + sh a2 4) &&& zi 252645135
  let a4 := a3 + sh a3 8
  let a5 := a4 + sh a4 16
  a5 &&& zi 63
theorem bcE_tab : ∀ n : Nat, n < 64 → bcE (zi (n : Int)) = zi (rPop (n : Int)) := by decide +kernel
theorem bcE_eq {x : Int} (h : 0 ≤ x ∧ x < 64) : bcE (zi x) = zi (rPop x) := by
  have := bcE_tab x.toNat (by omega)
  rw [Int.toNat_of_nonneg h.1] at this
  exact this
set_option maxRecDepth 100000 in
set_option maxHeartbeats 4000000 in
theorem c_bitCount {Γ : zC} {l : Launch} {d : Nat} {μ : zMem} {x : Int} (hx : 0 ≤ x ∧ x < 64) : zRet Γ l (d + 0) qJ6_bitCount_0f7a4 [.int (zi x)] μ (some (.int (zi (rPop x)))) μ := by
  refine zRet.mk 0 [.int (zi x)] RJ6 rfl (by decide +kernel) (Nat.le_of_ble_eq_true rfl) rfl ?_
  intro p e s m below meth c C hr hlk
  refine zV_iload_n (i := 0) (n := 1) C dJ6_bitCount_0f7a4_0 rfl rfl rfl ?_
  refine zV_iload_n (i := 0) (n := 2) C dJ6_bitCount_0f7a4_1 rfl rfl rfl ?_
  refine zV_iconst (n := 3) C dJ6_bitCount_0f7a4_2 rfl ?_
  refine zV_iushr0 (n := 4) C dJ6_bitCount_0f7a4_3 rfl ?_
  refine zV_ldc_w (n := 7) C dJ6_bitCount_0f7a4_4 kJ6_265 rfl ?_
  refine zV_iand0 (n := 8) C dJ6_bitCount_0f7a4_7 rfl ?_
  refine zV_isub0 (n := 9) C dJ6_bitCount_0f7a4_8 rfl ?_
  refine zS_istore_n_1_0 (n := 10) C dJ6_bitCount_0f7a4_9 rfl ?_
  refine zV_iload_n (i := 0) (n := 11) C dJ6_bitCount_0f7a4_10 rfl rfl rfl ?_
  refine zV_ldc_w (n := 14) C dJ6_bitCount_0f7a4_11 kJ6_266 rfl ?_
  refine zV_iand0 (n := 15) C dJ6_bitCount_0f7a4_14 rfl ?_
  refine zV_iload_n (i := 0) (n := 16) C dJ6_bitCount_0f7a4_15 rfl rfl rfl ?_
  refine zV_iconst (n := 17) C dJ6_bitCount_0f7a4_16 rfl ?_
  refine zV_iushr0 (n := 18) C dJ6_bitCount_0f7a4_17 rfl ?_
  refine zV_ldc_w (n := 21) C dJ6_bitCount_0f7a4_18 kJ6_266 rfl ?_
  refine zV_iand0 (n := 22) C dJ6_bitCount_0f7a4_21 rfl ?_
  refine zV_iadd0 (n := 23) C dJ6_bitCount_0f7a4_22 rfl ?_
  refine zS_istore_n_1_0 (n := 24) C dJ6_bitCount_0f7a4_23 rfl ?_
  refine zV_iload_n (i := 0) (n := 25) C dJ6_bitCount_0f7a4_24 rfl rfl rfl ?_
  refine zV_iload_n (i := 0) (n := 26) C dJ6_bitCount_0f7a4_25 rfl rfl rfl ?_
  refine zV_iconst (n := 27) C dJ6_bitCount_0f7a4_26 rfl ?_
  refine zV_iushr0 (n := 28) C dJ6_bitCount_0f7a4_27 rfl ?_
  refine zV_iadd0 (n := 29) C dJ6_bitCount_0f7a4_28 rfl ?_
  refine zV_ldc_w (n := 32) C dJ6_bitCount_0f7a4_29 kJ6_267 rfl ?_
  refine zV_iand0 (n := 33) C dJ6_bitCount_0f7a4_32 rfl ?_
  refine zS_istore_n_1_0 (n := 34) C dJ6_bitCount_0f7a4_33 rfl ?_
  refine zV_iload_n (i := 0) (n := 35) C dJ6_bitCount_0f7a4_34 rfl rfl rfl ?_
  refine zV_iload_n (i := 0) (n := 36) C dJ6_bitCount_0f7a4_35 rfl rfl rfl ?_
  refine zV_bipush (n := 38) C dJ6_bitCount_0f7a4_36 (by decide) rfl ?_
  refine zV_iushr0 (n := 39) C dJ6_bitCount_0f7a4_38 rfl ?_
  refine zV_iadd0 (n := 40) C dJ6_bitCount_0f7a4_39 rfl ?_
  refine zS_istore_n_1_0 (n := 41) C dJ6_bitCount_0f7a4_40 rfl ?_
  refine zV_iload_n (i := 0) (n := 42) C dJ6_bitCount_0f7a4_41 rfl rfl rfl ?_
  refine zV_iload_n (i := 0) (n := 43) C dJ6_bitCount_0f7a4_42 rfl rfl rfl ?_
  refine zV_bipush (n := 45) C dJ6_bitCount_0f7a4_43 (by decide) rfl ?_
  refine zV_iushr0 (n := 46) C dJ6_bitCount_0f7a4_45 rfl ?_
  refine zV_iadd0 (n := 47) C dJ6_bitCount_0f7a4_46 rfl ?_
  refine zS_istore_n_1_0 (n := 48) C dJ6_bitCount_0f7a4_47 rfl ?_
  refine zV_iload_n (i := 0) (n := 49) C dJ6_bitCount_0f7a4_48 rfl rfl rfl ?_
  refine zV_bipush (n := 51) C dJ6_bitCount_0f7a4_49 (by decide) rfl ?_
  refine zV_iand0 (n := 52) C dJ6_bitCount_0f7a4_51 rfl ?_
  exact zV_ireturn C hr hlk dJ6_bitCount_0f7a4_52 (by exact congrArg (fun z => some (Value.int z)) (bcE_eq hx)) (by rfl)

set_option maxRecDepth 100000 in
set_option maxHeartbeats 4000000 in
theorem c_seat {Γ : zC} {l : Launch} {d : Nat} {μ : zMem} {S : Int → Int} {N : Int} (I : rInv N S) (hN : N ≤ 10000) {x : Int} (hx : -2147483648 ≤ x ∧ x ≤ 2147483647) {w : Int} (hw : -2147483648 ≤ w ∧ w ≤ 2147483647) {v : Int} (hv : -2147483648 ≤ v ∧ v ≤ 2147483647) : zRet Γ l (d + 1) qX8_seat [.ref (za Γ 4 0), .int (zi x), .int (zi w), .int (zi v)] (zcar μ 0 S) (some (.int (zi (if ((0 ≤ x ∧ x ≤ 2) ∧ 0 ≤ v ∧ ((w = 0 ∧ v ≤ 5) ∨ (w = 1 ∧ v ≤ 9) ∨ (w = 2 ∧ v ≤ 1))) then itS S x w else -1000000001)))) (if ((0 ≤ x ∧ x ≤ 2) ∧ 0 ≤ v ∧ ((w = 0 ∧ v ≤ 5) ∨ (w = 1 ∧ v ≤ 9) ∨ (w = 2 ∧ v ≤ 1))) then zcar μ 0 (zfu S (4 + 5 * x + w) v) else zset (zcar μ 0 S) 4 17 (rFind ((zcar μ 0 S) 4 17) (-1000000001))) := by
  refine zRet.mk 1 [.ref (za Γ 4 0), .int (zi x), .int (zi w), .int (zi v), .null] RX8 rfl (by decide +kernel) (Nat.le_of_ble_eq_true rfl) rfl ?_
  intro p e s m below meth c C hr hlk
  have h0 := I.1
  have h1 := I.2.1
  have h2 := I.2.2.1
  have h3 := I.2.2.2.1
  refine zV_iload_n (i := 1) (n := 1) C dX8_seat_0 rfl rfl rfl ?_
  refine zV_callS1u (n := 4) C jX8_isSeat lX8_51 (c_isSeat (d := d) (by omega)) dX8_seat_1 (Nat.le_of_ble_eq_true rfl) (zfit_of (by omega) (by decide)) ⟨Nat.le_refl _, Nat.le_refl _⟩ rfl ?_
  refine zV_if_eq (n := 7) C 28 dX8_seat_4 (by decide) (by first | omega | exact zb_rg) rfl (fun h4 => ?_) (fun h4 => ?_)
  · skip
    simp only [zb_eq0, Decidable.not_not] at h4
    refine zV_aload_n (i := 0) (n := 29) C dX8_seat_28 rfl rfl rfl ?_
    refine zV_iconst (n := 30) C dX8_seat_29 rfl ?_
    refine zV_callV1u (n := 33) C zk7 jX8_tell lX8_61 (c_tell (d := d) (f := 0) (code := -1000000001) (by decide) (by decide)) dX8_seat_30 zs_cls rfl (Nat.le_of_ble_eq_true rfl) (zfit_of (by omega) (by decide)) ⟨Nat.le_refl _, Nat.le_refl _⟩ rfl ?_
    exact zV_ireturn C hr hlk dX8_seat_33 (by first | exact congrArg (fun z => some (Value.int (zi z))) (zif_t (by omega) (rfl)) | exact congrArg (fun z => some (Value.int (zi z))) (zif_f (by omega) rfl)) (by first | exact zif_t (by omega) (rfl) | exact zif_f (by omega) rfl)
  · skip
    simp only [zb_eq0, Decidable.not_not] at h4
    refine zV_iload_n (i := 2) (n := 8) C dX8_seat_7 rfl rfl rfl ?_
    refine zV_if_lt (n := 11) C 28 dX8_seat_8 (by decide) (by first | omega | exact zb_rg) rfl (fun h8 => ?_) (fun h8 => ?_)
    · skip
      refine zV_aload_n (i := 0) (n := 29) C dX8_seat_28 rfl rfl rfl ?_
      refine zV_iconst (n := 30) C dX8_seat_29 rfl ?_
      refine zV_callV1u (n := 33) C zk7 jX8_tell lX8_61 (c_tell (d := d) (f := 0) (code := -1000000001) (by decide) (by decide)) dX8_seat_30 zs_cls rfl (Nat.le_of_ble_eq_true rfl) (zfit_of (by omega) (by decide)) ⟨Nat.le_refl _, Nat.le_refl _⟩ rfl ?_
      exact zV_ireturn C hr hlk dX8_seat_33 (by first | exact congrArg (fun z => some (Value.int (zi z))) (zif_t (by omega) (rfl)) | exact congrArg (fun z => some (Value.int (zi z))) (zif_f (by omega) rfl)) (by first | exact zif_t (by omega) (rfl) | exact zif_f (by omega) rfl)
    · skip
      refine zV_iload_n (i := 2) (n := 12) C dX8_seat_11 rfl rfl rfl ?_
      refine zV_iconst (n := 13) C dX8_seat_12 rfl ?_
      refine zV_icmp_gt (n := 16) C 28 dX8_seat_13 (by decide) (by first | omega | exact zb_rg) (by first | omega | exact zb_rg) rfl (fun h13 => ?_) (fun h13 => ?_)
      · skip
        refine zV_aload_n (i := 0) (n := 29) C dX8_seat_28 rfl rfl rfl ?_
        refine zV_iconst (n := 30) C dX8_seat_29 rfl ?_
        refine zV_callV1u (n := 33) C zk7 jX8_tell lX8_61 (c_tell (d := d) (f := 0) (code := -1000000001) (by decide) (by decide)) dX8_seat_30 zs_cls rfl (Nat.le_of_ble_eq_true rfl) (zfit_of (by omega) (by decide)) ⟨Nat.le_refl _, Nat.le_refl _⟩ rfl ?_
        exact zV_ireturn C hr hlk dX8_seat_33 (by first | exact congrArg (fun z => some (Value.int (zi z))) (zif_t (by omega) (rfl)) | exact congrArg (fun z => some (Value.int (zi z))) (zif_f (by omega) rfl)) (by first | exact zif_t (by omega) (rfl) | exact zif_f (by omega) rfl)
      · skip
        refine zV_iload_n (i := 3) (n := 17) C dX8_seat_16 rfl rfl rfl ?_
        refine zV_if_lt (n := 20) C 28 dX8_seat_17 (by decide) (by first | omega | exact zb_rg) rfl (fun h17 => ?_) (fun h17 => ?_)
        · skip
          refine zV_aload_n (i := 0) (n := 29) C dX8_seat_28 rfl rfl rfl ?_
          refine zV_iconst (n := 30) C dX8_seat_29 rfl ?_
          refine zV_callV1u (n := 33) C zk7 jX8_tell lX8_61 (c_tell (d := d) (f := 0) (code := -1000000001) (by decide) (by decide)) dX8_seat_30 zs_cls rfl (Nat.le_of_ble_eq_true rfl) (zfit_of (by omega) (by decide)) ⟨Nat.le_refl _, Nat.le_refl _⟩ rfl ?_
          exact zV_ireturn C hr hlk dX8_seat_33 (by first | exact congrArg (fun z => some (Value.int (zi z))) (zif_t (by omega) (rfl)) | exact congrArg (fun z => some (Value.int (zi z))) (zif_f (by omega) rfl)) (by first | exact zif_t (by omega) (rfl) | exact zif_f (by omega) rfl)
        · skip
          refine zV_iload_n (i := 3) (n := 21) C dX8_seat_20 rfl rfl rfl ?_
          refine zV_iload_n (i := 2) (n := 22) C dX8_seat_21 rfl rfl rfl ?_
          refine zV_callS1u (n := 25) C jX4_most lX8_55 (c_seat_most (d := d) (by omega)) dX8_seat_22 (Nat.le_of_ble_eq_true rfl) (zfit_of (by omega) (by decide)) ⟨Nat.le_refl _, Nat.le_refl _⟩ rfl ?_
          have hm : (w = 0 ∧ (if w = 0 then (5 : Int) else if w = 1 then 9 else 1) = 5) ∨ (w = 1 ∧ (if w = 0 then (5 : Int) else if w = 1 then 9 else 1) = 9) ∨ (w = 2 ∧ (if w = 0 then (5 : Int) else if w = 1 then 9 else 1) = 1) := by (repeat' split) <;> omega
          refine zV_icmp_le (n := 28) C 34 dX8_seat_25 (by decide) (by first | omega | exact zb_rg) (by first | omega | exact zb_rg) rfl (fun h25 => ?_) (fun h25 => ?_)
          · skip
            refine zV_aload_n (i := 0) (n := 35) C dX8_seat_34 rfl rfl rfl ?_
            refine zV_getP (f := 0) (n := 38) C zk7 fX8_10 dX8_seat_35 zs_cls rfl (by decide) rfl ?_
            refine zV_getP (f := 0) (n := 41) C zk0 fX8_64 dX8_seat_38 (zs_car (by omega)) rfl (by decide) rfl ?_
            refine zV_iload_n (i := 1) (n := 42) C dX8_seat_41 rfl rfl rfl ?_
            refine zV_aald (n := 43) C dX8_seat_42 (zs_carS (by omega)) (by first | omega | exact zb_rg) (by decide) (by decide) rfl ?_
            refine zV_iload_n (i := 2) (n := 44) C dX8_seat_43 rfl rfl rfl ?_
            refine zV_callV1u (n := 47) C zk3 jX4_get lX8_68 (c_seat_get (d := d) (by omega) I (by omega) (by omega)) dX8_seat_44 (zs_seat (by omega) (by omega)) rfl (Nat.le_of_ble_eq_true rfl) (zfit_of (by omega) (by decide)) ⟨Nat.le_refl _, Nat.le_refl _⟩ rfl ?_
            refine zS_istore_5_4 (n := 49) C dX8_seat_47 rfl rfl ?_
            refine zV_aload_n (i := 0) (n := 50) C dX8_seat_49 rfl rfl rfl ?_
            refine zV_getP (f := 0) (n := 53) C zk7 fX8_10 dX8_seat_50 zs_cls rfl (by decide) rfl ?_
            refine zV_getP (f := 0) (n := 56) C zk0 fX8_64 dX8_seat_53 (zs_car (by omega)) rfl (by decide) rfl ?_
            refine zV_iload_n (i := 1) (n := 57) C dX8_seat_56 rfl rfl rfl ?_
            refine zV_aald (n := 58) C dX8_seat_57 (zs_carS (by omega)) (by first | omega | exact zb_rg) (by decide) (by decide) rfl ?_
            refine zV_iload_n (i := 2) (n := 59) C dX8_seat_58 rfl rfl rfl ?_
            refine zV_iload_n (i := 3) (n := 60) C dX8_seat_59 rfl rfl rfl ?_
            refine zV_callV2v (n := 63) C zk3 jX4_put lX8_71 (c_seat_put (d := d) (by omega) (by omega) (by omega)) dX8_seat_60 (zs_seat (by omega) (by omega)) rfl (Nat.le_of_ble_eq_true rfl) (zfit_of (by omega) (by decide)) ⟨Nat.le_refl _, Nat.le_refl _⟩ rfl ?_
            refine zV_iload (n := 65) C dX8_seat_63 rfl rfl ?_
            exact zV_ireturn C hr hlk dX8_seat_65 (by first | exact congrArg (fun z => some (Value.int (zi z))) (zif_t (by omega) (rfl)) | exact congrArg (fun z => some (Value.int (zi z))) (zif_f (by omega) rfl)) (by first | exact zif_t (by omega) (rfl) | exact zif_f (by omega) rfl)
          · skip
            refine zV_aload_n (i := 0) (n := 29) C dX8_seat_28 rfl rfl rfl ?_
            refine zV_iconst (n := 30) C dX8_seat_29 rfl ?_
            refine zV_callV1u (n := 33) C zk7 jX8_tell lX8_61 (c_tell (d := d) (f := 0) (code := -1000000001) (by decide) (by decide)) dX8_seat_30 zs_cls rfl (Nat.le_of_ble_eq_true rfl) (zfit_of (by omega) (by decide)) ⟨Nat.le_refl _, Nat.le_refl _⟩ rfl ?_
            exact zV_ireturn C hr hlk dX8_seat_33 (by first | exact congrArg (fun z => some (Value.int (zi z))) (zif_t (by omega) (rfl)) | exact congrArg (fun z => some (Value.int (zi z))) (zif_f (by omega) rfl)) (by first | exact zif_t (by omega) (rfl) | exact zif_f (by omega) rfl)

set_option maxRecDepth 100000 in
set_option maxHeartbeats 4000000 in
theorem c_seatOf {Γ : zC} {l : Launch} {d : Nat} {μ : zMem} {S : Int → Int} {N : Int} (I : rInv N S) (hN : N ≤ 10000) {x : Int} (hx : -2147483648 ≤ x ∧ x ≤ 2147483647) {w : Int} (hw : -2147483648 ≤ w ∧ w ≤ 2147483647) : zRet Γ l (d + 1) qX8_seatOf [.ref (za Γ 4 0), .int (zi x), .int (zi w)] (zcar μ 0 S) (some (.int (zi (if ((0 ≤ x ∧ x ≤ 2) ∧ (0 ≤ w ∧ w ≤ 4)) then itS S x w else -1000000001)))) (if ((0 ≤ x ∧ x ≤ 2) ∧ (0 ≤ w ∧ w ≤ 4)) then (zcar μ 0 S) else zset (zcar μ 0 S) 4 17 (rFind ((zcar μ 0 S) 4 17) (-1000000001))) := by
  refine zRet.mk 0 [.ref (za Γ 4 0), .int (zi x), .int (zi w)] RX8 rfl (by decide +kernel) (Nat.le_of_ble_eq_true rfl) rfl ?_
  intro p e s m below meth c C hr hlk
  have h0 := I.1
  have h1 := I.2.1
  have h2 := I.2.2.1
  have h3 := I.2.2.2.1
  refine zV_iload_n (i := 1) (n := 1) C dX8_seatOf_0 rfl rfl rfl ?_
  refine zV_callS1u (n := 4) C jX8_isSeat lX8_51 (c_isSeat (d := d) (by omega)) dX8_seatOf_1 (Nat.le_of_ble_eq_true rfl) (zfit_of (by omega) (by decide)) ⟨Nat.le_refl _, Nat.le_refl _⟩ rfl ?_
  refine zV_if_eq (n := 7) C 16 dX8_seatOf_4 (by decide) (by first | omega | exact zb_rg) rfl (fun h4 => ?_) (fun h4 => ?_)
  · skip
    simp only [zb_eq0, Decidable.not_not] at h4
    refine zV_aload_n (i := 0) (n := 17) C dX8_seatOf_16 rfl rfl rfl ?_
    refine zV_iconst (n := 18) C dX8_seatOf_17 rfl ?_
    refine zV_callV1u (n := 21) C zk7 jX8_tell lX8_61 (c_tell (d := d) (f := 0) (code := -1000000001) (by decide) (by decide)) dX8_seatOf_18 zs_cls rfl (Nat.le_of_ble_eq_true rfl) (zfit_of (by omega) (by decide)) ⟨Nat.le_refl _, Nat.le_refl _⟩ rfl ?_
    exact zV_ireturn C hr hlk dX8_seatOf_21 (by first | exact congrArg (fun z => some (Value.int (zi z))) (zif_t (by omega) (rfl)) | exact congrArg (fun z => some (Value.int (zi z))) (zif_f (by omega) rfl)) (by first | exact zif_t (by omega) (rfl) | exact zif_f (by omega) rfl)
  · skip
    simp only [zb_eq0, Decidable.not_not] at h4
    refine zV_iload_n (i := 2) (n := 8) C dX8_seatOf_7 rfl rfl rfl ?_
    refine zV_if_lt (n := 11) C 16 dX8_seatOf_8 (by decide) (by first | omega | exact zb_rg) rfl (fun h8 => ?_) (fun h8 => ?_)
    · skip
      refine zV_aload_n (i := 0) (n := 17) C dX8_seatOf_16 rfl rfl rfl ?_
      refine zV_iconst (n := 18) C dX8_seatOf_17 rfl ?_
      refine zV_callV1u (n := 21) C zk7 jX8_tell lX8_61 (c_tell (d := d) (f := 0) (code := -1000000001) (by decide) (by decide)) dX8_seatOf_18 zs_cls rfl (Nat.le_of_ble_eq_true rfl) (zfit_of (by omega) (by decide)) ⟨Nat.le_refl _, Nat.le_refl _⟩ rfl ?_
      exact zV_ireturn C hr hlk dX8_seatOf_21 (by first | exact congrArg (fun z => some (Value.int (zi z))) (zif_t (by omega) (rfl)) | exact congrArg (fun z => some (Value.int (zi z))) (zif_f (by omega) rfl)) (by first | exact zif_t (by omega) (rfl) | exact zif_f (by omega) rfl)
    · skip
      refine zV_iload_n (i := 2) (n := 12) C dX8_seatOf_11 rfl rfl rfl ?_
      refine zV_iconst (n := 13) C dX8_seatOf_12 rfl ?_
      refine zV_icmp_le (n := 16) C 22 dX8_seatOf_13 (by decide) (by first | omega | exact zb_rg) (by first | omega | exact zb_rg) rfl (fun h13 => ?_) (fun h13 => ?_)
      · skip
        refine zV_aload_n (i := 0) (n := 23) C dX8_seatOf_22 rfl rfl rfl ?_
        refine zV_getP (f := 0) (n := 26) C zk7 fX8_10 dX8_seatOf_23 zs_cls rfl (by decide) rfl ?_
        refine zV_getP (f := 0) (n := 29) C zk0 fX8_64 dX8_seatOf_26 (zs_car (by omega)) rfl (by decide) rfl ?_
        refine zV_iload_n (i := 1) (n := 30) C dX8_seatOf_29 rfl rfl rfl ?_
        refine zV_aald (n := 31) C dX8_seatOf_30 (zs_carS (by omega)) (by first | omega | exact zb_rg) (by decide) (by decide) rfl ?_
        refine zV_iload_n (i := 2) (n := 32) C dX8_seatOf_31 rfl rfl rfl ?_
        refine zV_callV1u (n := 35) C zk3 jX4_get lX8_68 (c_seat_get (d := d) (by omega) I (by omega) (by omega)) dX8_seatOf_32 (zs_seat (by omega) (by omega)) rfl (Nat.le_of_ble_eq_true rfl) (zfit_of (by omega) (by decide)) ⟨Nat.le_refl _, Nat.le_refl _⟩ rfl ?_
        exact zV_ireturn C hr hlk dX8_seatOf_35 (by first | exact congrArg (fun z => some (Value.int (zi z))) (zif_t (by omega) (rfl)) | exact congrArg (fun z => some (Value.int (zi z))) (zif_f (by omega) rfl)) (by first | exact zif_t (by omega) (rfl) | exact zif_f (by omega) rfl)
      · skip
        refine zV_aload_n (i := 0) (n := 17) C dX8_seatOf_16 rfl rfl rfl ?_
        refine zV_iconst (n := 18) C dX8_seatOf_17 rfl ?_
        refine zV_callV1u (n := 21) C zk7 jX8_tell lX8_61 (c_tell (d := d) (f := 0) (code := -1000000001) (by decide) (by decide)) dX8_seatOf_18 zs_cls rfl (Nat.le_of_ble_eq_true rfl) (zfit_of (by omega) (by decide)) ⟨Nat.le_refl _, Nat.le_refl _⟩ rfl ?_
        exact zV_ireturn C hr hlk dX8_seatOf_21 (by first | exact congrArg (fun z => some (Value.int (zi z))) (zif_t (by omega) (rfl)) | exact congrArg (fun z => some (Value.int (zi z))) (zif_f (by omega) rfl)) (by first | exact zif_t (by omega) (rfl) | exact zif_f (by omega) rfl)

set_option maxRecDepth 100000 in
set_option maxHeartbeats 4000000 in
theorem c_rain {Γ : zC} {l : Launch} {d : Nat} {μ : zMem} {S : Int → Int} {N : Int} (I : rInv N S) (hN : N ≤ 10000) {v : Int} (hv : -2147483648 ≤ v ∧ v ≤ 2147483647) : zRet Γ l (d + 1) qX8_rain [.ref (za Γ 4 0), .int (zi v)] (zcar μ 0 S) (some (.int (zi (if (0 ≤ v ∧ v ≤ 9) then S 3 else -1000000001)))) (if (0 ≤ v ∧ v ≤ 9) then zcar μ 0 (zfu S 3 v) else zset (zcar μ 0 S) 4 17 (rFind ((zcar μ 0 S) 4 17) (-1000000001))) := by
  refine zRet.mk 1 [.ref (za Γ 4 0), .int (zi v), .null] RX8 rfl (by decide +kernel) (Nat.le_of_ble_eq_true rfl) rfl ?_
  intro p e s m below meth c C hr hlk
  have h0 := I.1
  have h1 := I.2.1
  have h2 := I.2.2.1
  have h3 := I.2.2.2.1
  refine zV_iload_n (i := 1) (n := 1) C dX8_rain_0 rfl rfl rfl ?_
  refine zV_if_lt (n := 4) C 10 dX8_rain_1 (by decide) (by first | omega | exact zb_rg) rfl (fun h1 => ?_) (fun h1 => ?_)
  · skip
    refine zV_aload_n (i := 0) (n := 11) C dX8_rain_10 rfl rfl rfl ?_
    refine zV_iconst (n := 12) C dX8_rain_11 rfl ?_
    refine zV_callV1u (n := 15) C zk7 jX8_tell lX8_61 (c_tell (d := d) (f := 0) (code := -1000000001) (by decide) (by decide)) dX8_rain_12 zs_cls rfl (Nat.le_of_ble_eq_true rfl) (zfit_of (by omega) (by decide)) ⟨Nat.le_refl _, Nat.le_refl _⟩ rfl ?_
    exact zV_ireturn C hr hlk dX8_rain_15 (by first | exact congrArg (fun z => some (Value.int (zi z))) (zif_t (by omega) (rfl)) | exact congrArg (fun z => some (Value.int (zi z))) (zif_f (by omega) rfl)) (by first | exact zif_t (by omega) (rfl) | exact zif_f (by omega) rfl)
  · skip
    refine zV_iload_n (i := 1) (n := 5) C dX8_rain_4 rfl rfl rfl ?_
    refine zV_bipush (n := 7) C dX8_rain_5 (by decide) rfl ?_
    refine zV_icmp_le (n := 10) C 16 dX8_rain_7 (by decide) (by first | omega | exact zb_rg) (by first | omega | exact zb_rg) rfl (fun h7 => ?_) (fun h7 => ?_)
    · skip
      refine zV_aload_n (i := 0) (n := 17) C dX8_rain_16 rfl rfl rfl ?_
      refine zV_getP (f := 0) (n := 20) C zk7 fX8_10 dX8_rain_17 zs_cls rfl (by decide) rfl ?_
      refine zV_getI (f := 3) (fi := 3) (n := 23) C zk0 fX8_75 dX8_rain_20 (zs_car (by omega)) rfl (by decide) rfl rfl ?_
      rw [zc_rain]
      refine zS_istore_n_3_2 (n := 24) C dX8_rain_23 rfl rfl ?_
      refine zV_aload_n (i := 0) (n := 25) C dX8_rain_24 rfl rfl rfl ?_
      refine zV_getP (f := 0) (n := 28) C zk7 fX8_10 dX8_rain_25 zs_cls rfl (by decide) rfl ?_
      refine zV_iload_n (i := 1) (n := 29) C dX8_rain_28 rfl rfl rfl ?_
      refine zV_putI (f := 3) (fi := 3) (n := 32) C zk0 fX8_75 dX8_rain_29 (zs_car (by omega)) rfl (by decide) rfl rfl rfl rfl ?_
      rw [zcu_head (i := 3) (by omega)]
      refine zV_iload_n (i := 2) (n := 33) C dX8_rain_32 rfl rfl rfl ?_
      exact zV_ireturn C hr hlk dX8_rain_33 (by first | exact congrArg (fun z => some (Value.int (zi z))) (zif_t (by omega) (rfl)) | exact congrArg (fun z => some (Value.int (zi z))) (zif_f (by omega) rfl)) (by first | exact zif_t (by omega) (rfl) | exact zif_f (by omega) rfl)
    · skip
      refine zV_aload_n (i := 0) (n := 11) C dX8_rain_10 rfl rfl rfl ?_
      refine zV_iconst (n := 12) C dX8_rain_11 rfl ?_
      refine zV_callV1u (n := 15) C zk7 jX8_tell lX8_61 (c_tell (d := d) (f := 0) (code := -1000000001) (by decide) (by decide)) dX8_rain_12 zs_cls rfl (Nat.le_of_ble_eq_true rfl) (zfit_of (by omega) (by decide)) ⟨Nat.le_refl _, Nat.le_refl _⟩ rfl ?_
      exact zV_ireturn C hr hlk dX8_rain_15 (by first | exact congrArg (fun z => some (Value.int (zi z))) (zif_t (by omega) (rfl)) | exact congrArg (fun z => some (Value.int (zi z))) (zif_f (by omega) rfl)) (by first | exact zif_t (by omega) (rfl) | exact zif_f (by omega) rfl)

set_option maxRecDepth 100000 in
set_option maxHeartbeats 4000000 in
theorem c_of {Γ : zC} {l : Launch} {d : Nat} {μ : zMem} {S : Int → Int} {N : Int} (I : rInv N S) (hN : N ≤ 10000) {x : Int} (hx : -2147483648 ≤ x ∧ x ≤ 2147483647) {w : Int} (hw : -2147483648 ≤ w ∧ w ≤ 2147483647) : zRet Γ l (d + 2) qX8_of [.ref (za Γ 4 0), .int (zi x), .int (zi w)] (zcar μ 0 S) (some (.int (zi (if ((0 ≤ x ∧ x ≤ S 0 - 1) ∧ (0 ≤ w ∧ w ≤ 7)) then if w ≤ 5 then toS S x w else if w = 6 then rAt S x else rFr S x else -1000000001)))) (if ((0 ≤ x ∧ x ≤ S 0 - 1) ∧ (0 ≤ w ∧ w ≤ 7)) then (zcar μ 0 S) else zset (zcar μ 0 S) 4 17 (rFind ((zcar μ 0 S) 4 17) (-1000000001))) := by
  refine zRet.mk 0 [.ref (za Γ 4 0), .int (zi x), .int (zi w)] RX8 rfl (by decide +kernel) (Nat.le_of_ble_eq_true rfl) rfl ?_
  intro p e s m below meth c C hr hlk
  have h0 := I.1
  have h1 := I.2.1
  have h2 := I.2.2.1
  have h3 := I.2.2.2.1
  refine zV_aload_n (i := 0) (n := 1) C dX8_of_0 rfl rfl rfl ?_
  refine zV_getP (f := 0) (n := 4) C zk7 fX8_10 dX8_of_1 zs_cls rfl (by decide) rfl ?_
  refine zV_iload_n (i := 1) (n := 5) C dX8_of_4 rfl rfl rfl ?_
  refine zV_callV1u (n := 8) C zk0 jX0_has lX8_89 (c_has (d := d) (by omega) I (by omega)) dX8_of_5 (zs_car (by omega)) rfl (Nat.le_of_ble_eq_true rfl) (zfit_of (by omega) (by decide)) ⟨Nat.le_refl _, Nat.le_refl _⟩ rfl ?_
  refine zV_if_eq (n := 11) C 21 dX8_of_8 (by decide) (by first | omega | exact zb_rg) rfl (fun h8 => ?_) (fun h8 => ?_)
  · skip
    simp only [zb_eq0, Decidable.not_not] at h8
    refine zV_aload_n (i := 0) (n := 22) C dX8_of_21 rfl rfl rfl ?_
    refine zV_iconst (n := 23) C dX8_of_22 rfl ?_
    refine zV_callV1u (n := 26) C zk7 jX8_tell lX8_61 (c_tell (d := d) (f := 0) (code := -1000000001) (by decide) (by decide)) dX8_of_23 zs_cls rfl (Nat.le_of_ble_eq_true rfl) (zfit_of (by omega) (by decide)) ⟨Nat.le_refl _, Nat.le_refl _⟩ rfl ?_
    exact zV_ireturn C hr hlk dX8_of_26 (by first | exact congrArg (fun z => some (Value.int (zi z))) (zif_t (by omega) (zif_f (by omega) (zif_f (by omega) rfl))) | exact congrArg (fun z => some (Value.int (zi z))) (zif_t (by omega) (by split <;> first | rfl | exact (if_pos (by omega)).symm)) | exact congrArg (fun z => some (Value.int (zi z))) (zif_f (by omega) rfl)) (by first | exact zif_t (by omega) (rfl) | exact zif_f (by omega) rfl)
  · skip
    simp only [zb_eq0, Decidable.not_not] at h8
    refine zV_iload_n (i := 2) (n := 12) C dX8_of_11 rfl rfl rfl ?_
    refine zV_if_lt (n := 15) C 21 dX8_of_12 (by decide) (by first | omega | exact zb_rg) rfl (fun h12 => ?_) (fun h12 => ?_)
    · skip
      refine zV_aload_n (i := 0) (n := 22) C dX8_of_21 rfl rfl rfl ?_
      refine zV_iconst (n := 23) C dX8_of_22 rfl ?_
      refine zV_callV1u (n := 26) C zk7 jX8_tell lX8_61 (c_tell (d := d) (f := 0) (code := -1000000001) (by decide) (by decide)) dX8_of_23 zs_cls rfl (Nat.le_of_ble_eq_true rfl) (zfit_of (by omega) (by decide)) ⟨Nat.le_refl _, Nat.le_refl _⟩ rfl ?_
      exact zV_ireturn C hr hlk dX8_of_26 (by first | exact congrArg (fun z => some (Value.int (zi z))) (zif_t (by omega) (zif_f (by omega) (zif_f (by omega) rfl))) | exact congrArg (fun z => some (Value.int (zi z))) (zif_t (by omega) (by split <;> first | rfl | exact (if_pos (by omega)).symm)) | exact congrArg (fun z => some (Value.int (zi z))) (zif_f (by omega) rfl)) (by first | exact zif_t (by omega) (rfl) | exact zif_f (by omega) rfl)
    · skip
      refine zV_iload_n (i := 2) (n := 16) C dX8_of_15 rfl rfl rfl ?_
      refine zV_bipush (n := 18) C dX8_of_16 (by decide) rfl ?_
      refine zV_icmp_le (n := 21) C 27 dX8_of_18 (by decide) (by first | omega | exact zb_rg) (by first | omega | exact zb_rg) rfl (fun h18 => ?_) (fun h18 => ?_)
      · skip
        refine zV_iload_n (i := 2) (n := 28) C dX8_of_27 rfl rfl rfl ?_
        refine zV_bipush (n := 30) C dX8_of_28 (by decide) rfl ?_
        refine zV_icmp_ne (n := 33) C 50 dX8_of_30 (by decide) (by first | omega | exact zb_rg) (by first | omega | exact zb_rg) rfl (fun h30 => ?_) (fun h30 => ?_)
        · skip
          refine zV_aload_n (i := 0) (n := 51) C dX8_of_50 rfl rfl rfl ?_
          refine zV_getP (f := 0) (n := 54) C zk7 fX8_10 dX8_of_51 zs_cls rfl (by decide) rfl ?_
          refine zV_getP (f := 1) (n := 57) C zk0 fX8_92 dX8_of_54 (zs_car (by omega)) rfl (by decide) rfl ?_
          refine zV_iload_n (i := 1) (n := 58) C dX8_of_57 rfl rfl rfl ?_
          refine zV_aald (n := 59) C dX8_of_58 (zs_carC (by omega)) (by first | omega | exact zb_rg) (by decide) (by decide) rfl ?_
          refine zV_iload_n (i := 2) (n := 60) C dX8_of_59 rfl rfl rfl ?_
          refine zV_callV1u (n := 63) C zk2 jX2_get lX8_100 (c_kid_get (d := d) (by omega) I (by omega) (by omega)) dX8_of_60 (zs_child (by omega) (by omega)) rfl (Nat.le_of_ble_eq_true rfl) (zfit_of (by omega) (by decide)) ⟨Nat.le_refl _, Nat.le_refl _⟩ rfl ?_
          exact zV_ireturn C hr hlk dX8_of_63 (by first | exact congrArg (fun z => some (Value.int (zi z))) (zif_t (by omega) (zif_f (by omega) (zif_f (by omega) rfl))) | exact congrArg (fun z => some (Value.int (zi z))) (zif_t (by omega) (by split <;> first | rfl | exact (if_pos (by omega)).symm)) | exact congrArg (fun z => some (Value.int (zi z))) (zif_f (by omega) rfl)) (by first | exact zif_t (by omega) (rfl) | exact zif_f (by omega) rfl)
        · skip
          refine zV_aload_n (i := 0) (n := 34) C dX8_of_33 rfl rfl rfl ?_
          refine zV_getP (f := 0) (n := 37) C zk7 fX8_10 dX8_of_34 zs_cls rfl (by decide) rfl ?_
          refine zV_aload_n (i := 0) (n := 38) C dX8_of_37 rfl rfl rfl ?_
          refine zV_getP (f := 0) (n := 41) C zk7 fX8_10 dX8_of_38 zs_cls rfl (by decide) rfl ?_
          refine zV_getP (f := 1) (n := 44) C zk0 fX8_92 dX8_of_41 (zs_car (by omega)) rfl (by decide) rfl ?_
          refine zV_iload_n (i := 1) (n := 45) C dX8_of_44 rfl rfl rfl ?_
          refine zV_aald (n := 46) C dX8_of_45 (zs_carC (by omega)) (by first | omega | exact zb_rg) (by decide) (by decide) rfl ?_
          refine zV_callV1u (n := 49) C zk0 jX0_fretsNow lX8_96 (c_fretsNow (d := d) (by omega) I (by omega) (by omega)) dX8_of_46 (zs_car (by omega)) rfl (Nat.le_of_ble_eq_true rfl) (zfit_of (by omega) (by decide)) ⟨Nat.le_refl _, Nat.le_refl _⟩ rfl ?_
          exact zV_ireturn C hr hlk dX8_of_49 (by first | exact congrArg (fun z => some (Value.int (zi z))) (zif_t (by omega) (zif_f (by omega) (zif_f (by omega) rfl))) | exact congrArg (fun z => some (Value.int (zi z))) (zif_t (by omega) (by split <;> first | rfl | exact (if_pos (by omega)).symm)) | exact congrArg (fun z => some (Value.int (zi z))) (zif_f (by omega) rfl)) (by first | exact zif_t (by omega) (rfl) | exact zif_f (by omega) rfl)
      · skip
        refine zV_aload_n (i := 0) (n := 22) C dX8_of_21 rfl rfl rfl ?_
        refine zV_iconst (n := 23) C dX8_of_22 rfl ?_
        refine zV_callV1u (n := 26) C zk7 jX8_tell lX8_61 (c_tell (d := d) (f := 0) (code := -1000000001) (by decide) (by decide)) dX8_of_23 zs_cls rfl (Nat.le_of_ble_eq_true rfl) (zfit_of (by omega) (by decide)) ⟨Nat.le_refl _, Nat.le_refl _⟩ rfl ?_
        exact zV_ireturn C hr hlk dX8_of_26 (by first | exact congrArg (fun z => some (Value.int (zi z))) (zif_t (by omega) (zif_f (by omega) (zif_f (by omega) rfl))) | exact congrArg (fun z => some (Value.int (zi z))) (zif_t (by omega) (by split <;> first | rfl | exact (if_pos (by omega)).symm)) | exact congrArg (fun z => some (Value.int (zi z))) (zif_f (by omega) rfl)) (by first | exact zif_t (by omega) (rfl) | exact zif_f (by omega) rfl)

set_option maxRecDepth 100000 in
set_option maxHeartbeats 4000000 in
theorem c_set {Γ : zC} {l : Launch} {d : Nat} {μ : zMem} {S : Int → Int} {N : Int} (I : rInv N S) (hN : N ≤ 10000) {x : Int} (hx : -2147483648 ≤ x ∧ x ≤ 2147483647) {w : Int} (hw : -2147483648 ≤ w ∧ w ≤ 2147483647) {v : Int} (hv : -2147483648 ≤ v ∧ v ≤ 2147483647) : zRet Γ l (d + 1) qX8_set [.ref (za Γ 4 0), .int (zi x), .int (zi w), .int (zi v)] (zcar μ 0 S) (some (.int (zi (if ((0 ≤ x ∧ x ≤ S 0 - 1) ∧ 0 ≤ v ∧ ((w = 1 ∧ v ≤ 99) ∨ (w = 2 ∧ v ≤ 9) ∨ (w = 3 ∧ v ≤ 1) ∨ (w = 4 ∧ v ≤ 9))) then toS S x w else -1000000001)))) (if ((0 ≤ x ∧ x ≤ S 0 - 1) ∧ 0 ≤ v ∧ ((w = 1 ∧ v ≤ 99) ∨ (w = 2 ∧ v ≤ 9) ∨ (w = 3 ∧ v ≤ 1) ∨ (w = 4 ∧ v ≤ 9))) then zcar μ 0 (zfu S (19 + 6 * x + w) v) else zset (zcar μ 0 S) 4 17 (rFind ((zcar μ 0 S) 4 17) (-1000000001))) := by
  refine zRet.mk 1 [.ref (za Γ 4 0), .int (zi x), .int (zi w), .int (zi v), .null] RX8 rfl (by decide +kernel) (Nat.le_of_ble_eq_true rfl) rfl ?_
  intro p e s m below meth c C hr hlk
  have h0 := I.1
  have h1 := I.2.1
  have h2 := I.2.2.1
  have h3 := I.2.2.2.1
  refine zV_aload_n (i := 0) (n := 1) C dX8_set_0 rfl rfl rfl ?_
  refine zV_getP (f := 0) (n := 4) C zk7 fX8_10 dX8_set_1 zs_cls rfl (by decide) rfl ?_
  refine zV_iload_n (i := 1) (n := 5) C dX8_set_4 rfl rfl rfl ?_
  refine zV_callV1u (n := 8) C zk0 jX0_has lX8_89 (c_has (d := d) (by omega) I (by omega)) dX8_set_5 (zs_car (by omega)) rfl (Nat.le_of_ble_eq_true rfl) (zfit_of (by omega) (by decide)) ⟨Nat.le_refl _, Nat.le_refl _⟩ rfl ?_
  refine zV_if_eq (n := 11) C 33 dX8_set_8 (by decide) (by first | omega | exact zb_rg) rfl (fun h8 => ?_) (fun h8 => ?_)
  · skip
    simp only [zb_eq0, Decidable.not_not] at h8
    refine zV_aload_n (i := 0) (n := 34) C dX8_set_33 rfl rfl rfl ?_
    refine zV_iconst (n := 35) C dX8_set_34 rfl ?_
    refine zV_callV1u (n := 38) C zk7 jX8_tell lX8_61 (c_tell (d := d) (f := 0) (code := -1000000001) (by decide) (by decide)) dX8_set_35 zs_cls rfl (Nat.le_of_ble_eq_true rfl) (zfit_of (by omega) (by decide)) ⟨Nat.le_refl _, Nat.le_refl _⟩ rfl ?_
    exact zV_ireturn C hr hlk dX8_set_38 (by first | exact congrArg (fun z => some (Value.int (zi z))) (zif_t (by omega) (rfl)) | exact congrArg (fun z => some (Value.int (zi z))) (zif_f (by omega) rfl)) (by first | exact zif_t (by omega) (rfl) | exact zif_f (by omega) rfl)
  · skip
    simp only [zb_eq0, Decidable.not_not] at h8
    refine zV_iload_n (i := 2) (n := 12) C dX8_set_11 rfl rfl rfl ?_
    refine zV_iconst (n := 13) C dX8_set_12 rfl ?_
    refine zV_icmp_lt (n := 16) C 33 dX8_set_13 (by decide) (by first | omega | exact zb_rg) (by first | omega | exact zb_rg) rfl (fun h13 => ?_) (fun h13 => ?_)
    · skip
      refine zV_aload_n (i := 0) (n := 34) C dX8_set_33 rfl rfl rfl ?_
      refine zV_iconst (n := 35) C dX8_set_34 rfl ?_
      refine zV_callV1u (n := 38) C zk7 jX8_tell lX8_61 (c_tell (d := d) (f := 0) (code := -1000000001) (by decide) (by decide)) dX8_set_35 zs_cls rfl (Nat.le_of_ble_eq_true rfl) (zfit_of (by omega) (by decide)) ⟨Nat.le_refl _, Nat.le_refl _⟩ rfl ?_
      exact zV_ireturn C hr hlk dX8_set_38 (by first | exact congrArg (fun z => some (Value.int (zi z))) (zif_t (by omega) (rfl)) | exact congrArg (fun z => some (Value.int (zi z))) (zif_f (by omega) rfl)) (by first | exact zif_t (by omega) (rfl) | exact zif_f (by omega) rfl)
    · skip
      refine zV_iload_n (i := 2) (n := 17) C dX8_set_16 rfl rfl rfl ?_
      refine zV_iconst (n := 18) C dX8_set_17 rfl ?_
      refine zV_icmp_gt (n := 21) C 33 dX8_set_18 (by decide) (by first | omega | exact zb_rg) (by first | omega | exact zb_rg) rfl (fun h18 => ?_) (fun h18 => ?_)
      · skip
        refine zV_aload_n (i := 0) (n := 34) C dX8_set_33 rfl rfl rfl ?_
        refine zV_iconst (n := 35) C dX8_set_34 rfl ?_
        refine zV_callV1u (n := 38) C zk7 jX8_tell lX8_61 (c_tell (d := d) (f := 0) (code := -1000000001) (by decide) (by decide)) dX8_set_35 zs_cls rfl (Nat.le_of_ble_eq_true rfl) (zfit_of (by omega) (by decide)) ⟨Nat.le_refl _, Nat.le_refl _⟩ rfl ?_
        exact zV_ireturn C hr hlk dX8_set_38 (by first | exact congrArg (fun z => some (Value.int (zi z))) (zif_t (by omega) (rfl)) | exact congrArg (fun z => some (Value.int (zi z))) (zif_f (by omega) rfl)) (by first | exact zif_t (by omega) (rfl) | exact zif_f (by omega) rfl)
      · skip
        refine zV_iload_n (i := 3) (n := 22) C dX8_set_21 rfl rfl rfl ?_
        refine zV_if_lt (n := 25) C 33 dX8_set_22 (by decide) (by first | omega | exact zb_rg) rfl (fun h22 => ?_) (fun h22 => ?_)
        · skip
          refine zV_aload_n (i := 0) (n := 34) C dX8_set_33 rfl rfl rfl ?_
          refine zV_iconst (n := 35) C dX8_set_34 rfl ?_
          refine zV_callV1u (n := 38) C zk7 jX8_tell lX8_61 (c_tell (d := d) (f := 0) (code := -1000000001) (by decide) (by decide)) dX8_set_35 zs_cls rfl (Nat.le_of_ble_eq_true rfl) (zfit_of (by omega) (by decide)) ⟨Nat.le_refl _, Nat.le_refl _⟩ rfl ?_
          exact zV_ireturn C hr hlk dX8_set_38 (by first | exact congrArg (fun z => some (Value.int (zi z))) (zif_t (by omega) (rfl)) | exact congrArg (fun z => some (Value.int (zi z))) (zif_f (by omega) rfl)) (by first | exact zif_t (by omega) (rfl) | exact zif_f (by omega) rfl)
        · skip
          refine zV_iload_n (i := 3) (n := 26) C dX8_set_25 rfl rfl rfl ?_
          refine zV_iload_n (i := 2) (n := 27) C dX8_set_26 rfl rfl rfl ?_
          refine zV_callS1u (n := 30) C jX2_most lX8_103 (c_kid_most (d := d) (by omega)) dX8_set_27 (Nat.le_of_ble_eq_true rfl) (zfit_of (by omega) (by decide)) ⟨Nat.le_refl _, Nat.le_refl _⟩ rfl ?_
          have hm : (w = 1 ∧ (if w = 1 then (99 : Int) else if w = 3 then 1 else 9) = 99) ∨ (w = 3 ∧ (if w = 1 then (99 : Int) else if w = 3 then 1 else 9) = 1) ∨ ((w = 2 ∨ w = 4) ∧ (if w = 1 then (99 : Int) else if w = 3 then 1 else 9) = 9) := by (repeat' split) <;> omega
          refine zV_icmp_le (n := 33) C 39 dX8_set_30 (by decide) (by first | omega | exact zb_rg) (by first | omega | exact zb_rg) rfl (fun h30 => ?_) (fun h30 => ?_)
          · skip
            refine zV_aload_n (i := 0) (n := 40) C dX8_set_39 rfl rfl rfl ?_
            refine zV_getP (f := 0) (n := 43) C zk7 fX8_10 dX8_set_40 zs_cls rfl (by decide) rfl ?_
            refine zV_getP (f := 1) (n := 46) C zk0 fX8_92 dX8_set_43 (zs_car (by omega)) rfl (by decide) rfl ?_
            refine zV_iload_n (i := 1) (n := 47) C dX8_set_46 rfl rfl rfl ?_
            refine zV_aald (n := 48) C dX8_set_47 (zs_carC (by omega)) (by first | omega | exact zb_rg) (by decide) (by decide) rfl ?_
            refine zV_iload_n (i := 2) (n := 49) C dX8_set_48 rfl rfl rfl ?_
            refine zV_callV1u (n := 52) C zk2 jX2_get lX8_100 (c_kid_get (d := d) (by omega) I (by omega) (by omega)) dX8_set_49 (zs_child (by omega) (by omega)) rfl (Nat.le_of_ble_eq_true rfl) (zfit_of (by omega) (by decide)) ⟨Nat.le_refl _, Nat.le_refl _⟩ rfl ?_
            rw [if_pos (show w ≤ 5 from by omega)]
            refine zS_istore_5_4 (n := 54) C dX8_set_52 rfl rfl ?_
            refine zV_aload_n (i := 0) (n := 55) C dX8_set_54 rfl rfl rfl ?_
            refine zV_getP (f := 0) (n := 58) C zk7 fX8_10 dX8_set_55 zs_cls rfl (by decide) rfl ?_
            refine zV_getP (f := 1) (n := 61) C zk0 fX8_92 dX8_set_58 (zs_car (by omega)) rfl (by decide) rfl ?_
            refine zV_iload_n (i := 1) (n := 62) C dX8_set_61 rfl rfl rfl ?_
            refine zV_aald (n := 63) C dX8_set_62 (zs_carC (by omega)) (by first | omega | exact zb_rg) (by decide) (by decide) rfl ?_
            refine zV_iload_n (i := 2) (n := 64) C dX8_set_63 rfl rfl rfl ?_
            refine zV_iload_n (i := 3) (n := 65) C dX8_set_64 rfl rfl rfl ?_
            refine zV_callV2v (n := 68) C zk2 jX2_put lX8_104 (c_kid_put (d := d) (by omega) I (by omega) (by omega)) dX8_set_65 (zs_child (by omega) (by omega)) rfl (Nat.le_of_ble_eq_true rfl) (zfit_of (by omega) (by decide)) ⟨Nat.le_refl _, Nat.le_refl _⟩ rfl ?_
            refine zV_iload (n := 70) C dX8_set_68 rfl rfl ?_
            exact zV_ireturn C hr hlk dX8_set_70 (by first | exact congrArg (fun z => some (Value.int (zi z))) (zif_t (by omega) (rfl)) | exact congrArg (fun z => some (Value.int (zi z))) (zif_f (by omega) rfl)) (by first | exact zif_t (by omega) (rfl) | exact zif_f (by omega) rfl)
          · skip
            refine zV_aload_n (i := 0) (n := 34) C dX8_set_33 rfl rfl rfl ?_
            refine zV_iconst (n := 35) C dX8_set_34 rfl ?_
            refine zV_callV1u (n := 38) C zk7 jX8_tell lX8_61 (c_tell (d := d) (f := 0) (code := -1000000001) (by decide) (by decide)) dX8_set_35 zs_cls rfl (Nat.le_of_ble_eq_true rfl) (zfit_of (by omega) (by decide)) ⟨Nat.le_refl _, Nat.le_refl _⟩ rfl ?_
            exact zV_ireturn C hr hlk dX8_set_38 (by first | exact congrArg (fun z => some (Value.int (zi z))) (zif_t (by omega) (rfl)) | exact congrArg (fun z => some (Value.int (zi z))) (zif_f (by omega) rfl)) (by first | exact zif_t (by omega) (rfl) | exact zif_f (by omega) rfl)

set_option maxRecDepth 100000 in
set_option maxHeartbeats 4000000 in
theorem c_turn {Γ : zC} {l : Launch} {d : Nat} {μ : zMem} {S : Int → Int} {N : Int} (I : rInv N S) (hN : N ≤ 10000) {x : Int} (hx : -2147483648 ≤ x ∧ x ≤ 2147483647) {v : Int} (hv : -2147483648 ≤ v ∧ v ≤ 2147483647) : zRet Γ l (d + 1) qX8_turn [.ref (za Γ 4 0), .int (zi x), .int (zi v)] (zcar μ 0 S) (some (.int (zi (if ((0 ≤ x ∧ x ≤ S 0 - 1) ∧ (0 ≤ v ∧ v ≤ 5)) then toS S x 0 else -1000000001)))) (if ((0 ≤ x ∧ x ≤ S 0 - 1) ∧ (0 ≤ v ∧ v ≤ 5)) then zcar μ 0 (zfu S (19 + 6 * x + 0) v) else zset (zcar μ 0 S) 4 17 (rFind ((zcar μ 0 S) 4 17) (-1000000001))) := by
  refine zRet.mk 1 [.ref (za Γ 4 0), .int (zi x), .int (zi v), .null] RX8 rfl (by decide +kernel) (Nat.le_of_ble_eq_true rfl) rfl ?_
  intro p e s m below meth c C hr hlk
  have h0 := I.1
  have h1 := I.2.1
  have h2 := I.2.2.1
  have h3 := I.2.2.2.1
  refine zV_aload_n (i := 0) (n := 1) C dX8_turn_0 rfl rfl rfl ?_
  refine zV_getP (f := 0) (n := 4) C zk7 fX8_10 dX8_turn_1 zs_cls rfl (by decide) rfl ?_
  refine zV_iload_n (i := 1) (n := 5) C dX8_turn_4 rfl rfl rfl ?_
  refine zV_callV1u (n := 8) C zk0 jX0_has lX8_89 (c_has (d := d) (by omega) I (by omega)) dX8_turn_5 (zs_car (by omega)) rfl (Nat.le_of_ble_eq_true rfl) (zfit_of (by omega) (by decide)) ⟨Nat.le_refl _, Nat.le_refl _⟩ rfl ?_
  refine zV_if_eq (n := 11) C 18 dX8_turn_8 (by decide) (by first | omega | exact zb_rg) rfl (fun h8 => ?_) (fun h8 => ?_)
  · skip
    simp only [zb_eq0, Decidable.not_not] at h8
    refine zV_aload_n (i := 0) (n := 19) C dX8_turn_18 rfl rfl rfl ?_
    refine zV_iconst (n := 20) C dX8_turn_19 rfl ?_
    refine zV_callV1u (n := 23) C zk7 jX8_tell lX8_61 (c_tell (d := d) (f := 0) (code := -1000000001) (by decide) (by decide)) dX8_turn_20 zs_cls rfl (Nat.le_of_ble_eq_true rfl) (zfit_of (by omega) (by decide)) ⟨Nat.le_refl _, Nat.le_refl _⟩ rfl ?_
    exact zV_ireturn C hr hlk dX8_turn_23 (by first | exact congrArg (fun z => some (Value.int (zi z))) (zif_t (by omega) (rfl)) | exact congrArg (fun z => some (Value.int (zi z))) (zif_f (by omega) rfl)) (by first | exact zif_t (by omega) (rfl) | exact zif_f (by omega) rfl)
  · skip
    simp only [zb_eq0, Decidable.not_not] at h8
    refine zV_iload_n (i := 2) (n := 12) C dX8_turn_11 rfl rfl rfl ?_
    refine zV_callS1u (n := 15) C jX8_isKind lX8_79 (c_isKind (d := d) (by omega)) dX8_turn_12 (Nat.le_of_ble_eq_true rfl) (zfit_of (by omega) (by decide)) ⟨Nat.le_refl _, Nat.le_refl _⟩ rfl ?_
    refine zV_if_ne (n := 18) C 24 dX8_turn_15 (by decide) (by first | omega | exact zb_rg) rfl (fun h15 => ?_) (fun h15 => ?_)
    · skip
      simp only [zb_eq0, Decidable.not_not] at h15
      refine zV_aload_n (i := 0) (n := 25) C dX8_turn_24 rfl rfl rfl ?_
      refine zV_getP (f := 0) (n := 28) C zk7 fX8_10 dX8_turn_25 zs_cls rfl (by decide) rfl ?_
      refine zV_getP (f := 1) (n := 31) C zk0 fX8_92 dX8_turn_28 (zs_car (by omega)) rfl (by decide) rfl ?_
      refine zV_iload_n (i := 1) (n := 32) C dX8_turn_31 rfl rfl rfl ?_
      refine zV_aald (n := 33) C dX8_turn_32 (zs_carC (by omega)) (by first | omega | exact zb_rg) (by decide) (by decide) rfl ?_
      refine zV_getI (f := 0) (fi := 0) (n := 36) C zk2 fX8_105 dX8_turn_33 (zs_child (by omega) (by omega)) rfl (by decide) rfl rfl ?_
      rw [zc_kid (by omega) (by omega)]
      refine zS_istore_n_4_3 (n := 37) C dX8_turn_36 rfl rfl ?_
      refine zV_aload_n (i := 0) (n := 38) C dX8_turn_37 rfl rfl rfl ?_
      refine zV_getP (f := 0) (n := 41) C zk7 fX8_10 dX8_turn_38 zs_cls rfl (by decide) rfl ?_
      refine zV_getP (f := 1) (n := 44) C zk0 fX8_92 dX8_turn_41 (zs_car (by omega)) rfl (by decide) rfl ?_
      refine zV_iload_n (i := 1) (n := 45) C dX8_turn_44 rfl rfl rfl ?_
      refine zV_aald (n := 46) C dX8_turn_45 (zs_carC (by omega)) (by first | omega | exact zb_rg) (by decide) (by decide) rfl ?_
      refine zV_iload_n (i := 2) (n := 47) C dX8_turn_46 rfl rfl rfl ?_
      refine zV_putI (f := 0) (fi := 0) (n := 50) C zk2 fX8_105 dX8_turn_47 (zs_child (by omega) (by omega)) rfl (by decide) rfl rfl rfl rfl ?_
      rw [zcu_kid (by omega) (by omega)]
      refine zV_iload_n (i := 3) (n := 51) C dX8_turn_50 rfl rfl rfl ?_
      exact zV_ireturn C hr hlk dX8_turn_51 (by first | exact congrArg (fun z => some (Value.int (zi z))) (zif_t (by omega) (rfl)) | exact congrArg (fun z => some (Value.int (zi z))) (zif_f (by omega) rfl)) (by first | exact zif_t (by omega) (rfl) | exact zif_f (by omega) rfl)
    · skip
      simp only [zb_eq0, Decidable.not_not] at h15
      refine zV_aload_n (i := 0) (n := 19) C dX8_turn_18 rfl rfl rfl ?_
      refine zV_iconst (n := 20) C dX8_turn_19 rfl ?_
      refine zV_callV1u (n := 23) C zk7 jX8_tell lX8_61 (c_tell (d := d) (f := 0) (code := -1000000001) (by decide) (by decide)) dX8_turn_20 zs_cls rfl (Nat.le_of_ble_eq_true rfl) (zfit_of (by omega) (by decide)) ⟨Nat.le_refl _, Nat.le_refl _⟩ rfl ?_
      exact zV_ireturn C hr hlk dX8_turn_23 (by first | exact congrArg (fun z => some (Value.int (zi z))) (zif_t (by omega) (rfl)) | exact congrArg (fun z => some (Value.int (zi z))) (zif_f (by omega) rfl)) (by first | exact zif_t (by omega) (rfl) | exact zif_f (by omega) rfl)

set_option maxRecDepth 100000 in
set_option maxHeartbeats 4000000 in
theorem c_seconds {Γ : zC} {l : Launch} {d : Nat} {μ : zMem} {S : Int → Int} {N : Int} (I : rInv N S) (hN : N ≤ 10000) {x : Int} (hx : -2147483648 ≤ x ∧ x ≤ 2147483647) {k : Int} (hk : -2147483648 ≤ k ∧ k ≤ 2147483647) : zRet Γ l (d + 3) qX8_seconds [.ref (za Γ 4 0), .int (zi x), .int (zi k)] (zcar μ 0 S) (some (.int (zi (if ((0 ≤ x ∧ x ≤ S 0 - 1) ∧ (0 ≤ k ∧ k ≤ 2)) then rSec S x k else -1000000001)))) (if ((0 ≤ x ∧ x ≤ S 0 - 1) ∧ (0 ≤ k ∧ k ≤ 2)) then (zcar μ 0 S) else zset (zcar μ 0 S) 4 17 (rFind ((zcar μ 0 S) 4 17) (-1000000001))) := by
  refine zRet.mk 0 [.ref (za Γ 4 0), .int (zi x), .int (zi k)] RX8 rfl (by decide +kernel) (Nat.le_of_ble_eq_true rfl) rfl ?_
  intro p e s m below meth c C hr hlk
  have h0 := I.1
  have h1 := I.2.1
  have h2 := I.2.2.1
  have h3 := I.2.2.2.1
  refine zV_aload_n (i := 0) (n := 1) C dX8_seconds_0 rfl rfl rfl ?_
  refine zV_getP (f := 0) (n := 4) C zk7 fX8_10 dX8_seconds_1 zs_cls rfl (by decide) rfl ?_
  refine zV_iload_n (i := 1) (n := 5) C dX8_seconds_4 rfl rfl rfl ?_
  refine zV_callV1u (n := 8) C zk0 jX0_has lX8_89 (c_has (d := d) (by omega) I (by omega)) dX8_seconds_5 (zs_car (by omega)) rfl (Nat.le_of_ble_eq_true rfl) (zfit_of (by omega) (by decide)) ⟨Nat.le_refl _, Nat.le_refl _⟩ rfl ?_
  refine zV_if_eq (n := 11) C 18 dX8_seconds_8 (by decide) (by first | omega | exact zb_rg) rfl (fun h8 => ?_) (fun h8 => ?_)
  · skip
    simp only [zb_eq0, Decidable.not_not] at h8
    refine zV_aload_n (i := 0) (n := 19) C dX8_seconds_18 rfl rfl rfl ?_
    refine zV_iconst (n := 20) C dX8_seconds_19 rfl ?_
    refine zV_callV1u (n := 23) C zk7 jX8_tell lX8_61 (c_tell (d := d) (f := 0) (code := -1000000001) (by decide) (by decide)) dX8_seconds_20 zs_cls rfl (Nat.le_of_ble_eq_true rfl) (zfit_of (by omega) (by decide)) ⟨Nat.le_refl _, Nat.le_refl _⟩ rfl ?_
    exact zV_ireturn C hr hlk dX8_seconds_23 (by first | exact congrArg (fun z => some (Value.int (zi z))) (zif_t (by omega) (rfl)) | exact congrArg (fun z => some (Value.int (zi z))) (zif_f (by omega) rfl)) (by first | exact zif_t (by omega) (rfl) | exact zif_f (by omega) rfl)
  · skip
    simp only [zb_eq0, Decidable.not_not] at h8
    refine zV_iload_n (i := 2) (n := 12) C dX8_seconds_11 rfl rfl rfl ?_
    refine zV_callS1u (n := 15) C jX8_isSeat lX8_51 (c_isSeat (d := d) (by omega)) dX8_seconds_12 (Nat.le_of_ble_eq_true rfl) (zfit_of (by omega) (by decide)) ⟨Nat.le_refl _, Nat.le_refl _⟩ rfl ?_
    refine zV_if_ne (n := 18) C 24 dX8_seconds_15 (by decide) (by first | omega | exact zb_rg) rfl (fun h15 => ?_) (fun h15 => ?_)
    · skip
      simp only [zb_eq0, Decidable.not_not] at h15
      refine zV_aload_n (i := 0) (n := 25) C dX8_seconds_24 rfl rfl rfl ?_
      refine zV_getP (f := 0) (n := 28) C zk7 fX8_10 dX8_seconds_25 zs_cls rfl (by decide) rfl ?_
      refine zV_iload_n (i := 1) (n := 29) C dX8_seconds_28 rfl rfl rfl ?_
      refine zV_iload_n (i := 2) (n := 30) C dX8_seconds_29 rfl rfl rfl ?_
      refine zV_callV2u (n := 33) C zk0 jX0_secondsFor lX8_117 (c_secondsFor (d := d) (by omega) I (by omega) (by omega)) dX8_seconds_30 (zs_car (by omega)) rfl (Nat.le_of_ble_eq_true rfl) (zfit_of (by omega) (by decide)) ⟨Nat.le_refl _, Nat.le_refl _⟩ rfl ?_
      exact zV_ireturn C hr hlk dX8_seconds_33 (by first | exact congrArg (fun z => some (Value.int (zi z))) (zif_t (by omega) (rfl)) | exact congrArg (fun z => some (Value.int (zi z))) (zif_f (by omega) rfl)) (by first | exact zif_t (by omega) (rfl) | exact zif_f (by omega) rfl)
    · skip
      simp only [zb_eq0, Decidable.not_not] at h15
      refine zV_aload_n (i := 0) (n := 19) C dX8_seconds_18 rfl rfl rfl ?_
      refine zV_iconst (n := 20) C dX8_seconds_19 rfl ?_
      refine zV_callV1u (n := 23) C zk7 jX8_tell lX8_61 (c_tell (d := d) (f := 0) (code := -1000000001) (by decide) (by decide)) dX8_seconds_20 zs_cls rfl (Nat.le_of_ble_eq_true rfl) (zfit_of (by omega) (by decide)) ⟨Nat.le_refl _, Nat.le_refl _⟩ rfl ?_
      exact zV_ireturn C hr hlk dX8_seconds_23 (by first | exact congrArg (fun z => some (Value.int (zi z))) (zif_t (by omega) (rfl)) | exact congrArg (fun z => some (Value.int (zi z))) (zif_f (by omega) rfl)) (by first | exact zif_t (by omega) (rfl) | exact zif_f (by omega) rfl)

set_option maxRecDepth 100000 in
set_option maxHeartbeats 4000000 in
theorem c_snug {Γ : zC} {l : Launch} {d : Nat} {μ : zMem} {S : Int → Int} {N : Int} (I : rInv N S) (hN : N ≤ 10000) {x : Int} (hx : -2147483648 ≤ x ∧ x ≤ 2147483647) {k : Int} (hk : -2147483648 ≤ k ∧ k ≤ 2147483647) : zRet Γ l (d + 2) qX8_snug [.ref (za Γ 4 0), .int (zi x), .int (zi k)] (zcar μ 0 S) (some (.int (zi (if ((0 ≤ x ∧ x ≤ S 0 - 1) ∧ (0 ≤ k ∧ k ≤ 2)) then rSnug S x k else -1000000001)))) (if ((0 ≤ x ∧ x ≤ S 0 - 1) ∧ (0 ≤ k ∧ k ≤ 2)) then (zcar μ 0 S) else zset (zcar μ 0 S) 4 17 (rFind ((zcar μ 0 S) 4 17) (-1000000001))) := by
  refine zRet.mk 0 [.ref (za Γ 4 0), .int (zi x), .int (zi k)] RX8 rfl (by decide +kernel) (Nat.le_of_ble_eq_true rfl) rfl ?_
  intro p e s m below meth c C hr hlk
  have h0 := I.1
  have h1 := I.2.1
  have h2 := I.2.2.1
  have h3 := I.2.2.2.1
  refine zV_aload_n (i := 0) (n := 1) C dX8_snug_0 rfl rfl rfl ?_
  refine zV_getP (f := 0) (n := 4) C zk7 fX8_10 dX8_snug_1 zs_cls rfl (by decide) rfl ?_
  refine zV_iload_n (i := 1) (n := 5) C dX8_snug_4 rfl rfl rfl ?_
  refine zV_callV1u (n := 8) C zk0 jX0_has lX8_89 (c_has (d := d) (by omega) I (by omega)) dX8_snug_5 (zs_car (by omega)) rfl (Nat.le_of_ble_eq_true rfl) (zfit_of (by omega) (by decide)) ⟨Nat.le_refl _, Nat.le_refl _⟩ rfl ?_
  refine zV_if_eq (n := 11) C 18 dX8_snug_8 (by decide) (by first | omega | exact zb_rg) rfl (fun h8 => ?_) (fun h8 => ?_)
  · skip
    simp only [zb_eq0, Decidable.not_not] at h8
    refine zV_aload_n (i := 0) (n := 19) C dX8_snug_18 rfl rfl rfl ?_
    refine zV_iconst (n := 20) C dX8_snug_19 rfl ?_
    refine zV_callV1u (n := 23) C zk7 jX8_tell lX8_61 (c_tell (d := d) (f := 0) (code := -1000000001) (by decide) (by decide)) dX8_snug_20 zs_cls rfl (Nat.le_of_ble_eq_true rfl) (zfit_of (by omega) (by decide)) ⟨Nat.le_refl _, Nat.le_refl _⟩ rfl ?_
    exact zV_ireturn C hr hlk dX8_snug_23 (by first | exact congrArg (fun z => some (Value.int (zi z))) (zif_t (by omega) (rfl)) | exact congrArg (fun z => some (Value.int (zi z))) (zif_f (by omega) rfl)) (by first | exact zif_t (by omega) (rfl) | exact zif_f (by omega) rfl)
  · skip
    simp only [zb_eq0, Decidable.not_not] at h8
    refine zV_iload_n (i := 2) (n := 12) C dX8_snug_11 rfl rfl rfl ?_
    refine zV_callS1u (n := 15) C jX8_isSeat lX8_51 (c_isSeat (d := d) (by omega)) dX8_snug_12 (Nat.le_of_ble_eq_true rfl) (zfit_of (by omega) (by decide)) ⟨Nat.le_refl _, Nat.le_refl _⟩ rfl ?_
    refine zV_if_ne (n := 18) C 24 dX8_snug_15 (by decide) (by first | omega | exact zb_rg) rfl (fun h15 => ?_) (fun h15 => ?_)
    · skip
      simp only [zb_eq0, Decidable.not_not] at h15
      refine zV_aload_n (i := 0) (n := 25) C dX8_snug_24 rfl rfl rfl ?_
      refine zV_getP (f := 0) (n := 28) C zk7 fX8_10 dX8_snug_25 zs_cls rfl (by decide) rfl ?_
      refine zV_iload_n (i := 1) (n := 29) C dX8_snug_28 rfl rfl rfl ?_
      refine zV_iload_n (i := 2) (n := 30) C dX8_snug_29 rfl rfl rfl ?_
      refine zV_callV2u (n := 33) C zk0 jX0_snugFor lX8_121 (c_snugFor (d := d) (by omega) I (by omega) (by omega)) dX8_snug_30 (zs_car (by omega)) rfl (Nat.le_of_ble_eq_true rfl) (zfit_of (by omega) (by decide)) ⟨Nat.le_refl _, Nat.le_refl _⟩ rfl ?_
      exact zV_ireturn C hr hlk dX8_snug_33 (by first | exact congrArg (fun z => some (Value.int (zi z))) (zif_t (by omega) (rfl)) | exact congrArg (fun z => some (Value.int (zi z))) (zif_f (by omega) rfl)) (by first | exact zif_t (by omega) (rfl) | exact zif_f (by omega) rfl)
    · skip
      simp only [zb_eq0, Decidable.not_not] at h15
      refine zV_aload_n (i := 0) (n := 19) C dX8_snug_18 rfl rfl rfl ?_
      refine zV_iconst (n := 20) C dX8_snug_19 rfl ?_
      refine zV_callV1u (n := 23) C zk7 jX8_tell lX8_61 (c_tell (d := d) (f := 0) (code := -1000000001) (by decide) (by decide)) dX8_snug_20 zs_cls rfl (Nat.le_of_ble_eq_true rfl) (zfit_of (by omega) (by decide)) ⟨Nat.le_refl _, Nat.le_refl _⟩ rfl ?_
      exact zV_ireturn C hr hlk dX8_snug_23 (by first | exact congrArg (fun z => some (Value.int (zi z))) (zif_t (by omega) (rfl)) | exact congrArg (fun z => some (Value.int (zi z))) (zif_f (by omega) rfl)) (by first | exact zif_t (by omega) (rfl) | exact zif_f (by omega) rfl)

set_option maxRecDepth 100000 in
set_option maxHeartbeats 4000000 in
theorem c_bribe {Γ : zC} {l : Launch} {d : Nat} {μ : zMem} {S : Int → Int} {N : Int} (I : rInv N S) (hN : N ≤ 10000) {x : Int} (hx : -2147483648 ≤ x ∧ x ≤ 2147483647) : zRet Γ l (d + 2) qX8_bribe [.ref (za Γ 4 0), .int (zi x)] (zcar μ 0 S) (some (.int (zi (if (0 ≤ x ∧ x ≤ S 0 - 1) then toS (rBr S x) x 2 else -1000000001)))) (if (0 ≤ x ∧ x ≤ S 0 - 1) then zcar μ 0 (rBr S x) else zset (zcar μ 0 S) 4 17 (rFind ((zcar μ 0 S) 4 17) (-1000000001))) := by
  refine zRet.mk 0 [.ref (za Γ 4 0), .int (zi x)] RX8 rfl (by decide +kernel) (Nat.le_of_ble_eq_true rfl) rfl ?_
  intro p e s m below meth c C hr hlk
  have h0 := I.1
  have h1 := I.2.1
  have h2 := I.2.2.1
  have h3 := I.2.2.2.1
  refine zV_aload_n (i := 0) (n := 1) C dX8_bribe_0 rfl rfl rfl ?_
  refine zV_getP (f := 0) (n := 4) C zk7 fX8_10 dX8_bribe_1 zs_cls rfl (by decide) rfl ?_
  refine zV_iload_n (i := 1) (n := 5) C dX8_bribe_4 rfl rfl rfl ?_
  refine zV_callV1u (n := 8) C zk0 jX0_has lX8_89 (c_has (d := d) (by omega) I (by omega)) dX8_bribe_5 (zs_car (by omega)) rfl (Nat.le_of_ble_eq_true rfl) (zfit_of (by omega) (by decide)) ⟨Nat.le_refl _, Nat.le_refl _⟩ rfl ?_
  refine zV_if_ne (n := 11) C 17 dX8_bribe_8 (by decide) (by first | omega | exact zb_rg) rfl (fun h8 => ?_) (fun h8 => ?_)
  · skip
    simp only [zb_eq0, Decidable.not_not] at h8
    refine zV_aload_n (i := 0) (n := 18) C dX8_bribe_17 rfl rfl rfl ?_
    refine zV_getP (f := 0) (n := 21) C zk7 fX8_10 dX8_bribe_18 zs_cls rfl (by decide) rfl ?_
    refine zV_iload_n (i := 1) (n := 22) C dX8_bribe_21 rfl rfl rfl ?_
    refine zV_callV1v (n := 25) C zk0 jX0_giveBribe lX8_143 (c_giveBribe (d := d) (by omega) I (by omega)) dX8_bribe_22 (zs_car (by omega)) rfl (Nat.le_of_ble_eq_true rfl) (zfit_of (by omega) (by decide)) ⟨Nat.le_refl _, Nat.le_refl _⟩ rfl ?_
    have hb0 : rBr S x 0 = S 0 := rBr_0 (by omega)
    refine zV_aload_n (i := 0) (n := 26) C dX8_bribe_25 rfl rfl rfl ?_
    refine zV_getP (f := 0) (n := 29) C zk7 fX8_10 dX8_bribe_26 zs_cls rfl (by decide) rfl ?_
    refine zV_getP (f := 1) (n := 32) C zk0 fX8_92 dX8_bribe_29 (zs_car (by omega)) rfl (by decide) rfl ?_
    refine zV_iload_n (i := 1) (n := 33) C dX8_bribe_32 rfl rfl rfl ?_
    refine zV_aald (n := 34) C dX8_bribe_33 (zs_carC (by omega)) (by first | omega | exact zb_rg) (by decide) (by decide) rfl ?_
    refine zV_getI (f := 2) (fi := 2) (n := 37) C zk2 fX8_114 dX8_bribe_34 (zs_child (by omega) (by omega)) rfl (by decide) rfl rfl ?_
    rw [zc_kid (by omega) (by omega)]
    exact zV_ireturn C hr hlk dX8_bribe_37 (by first | exact congrArg (fun z => some (Value.int (zi z))) (zif_t (by omega) (rfl)) | exact congrArg (fun z => some (Value.int (zi z))) (zif_f (by omega) rfl)) (by first | exact zif_t (by omega) (rfl) | exact zif_f (by omega) rfl)
  · skip
    simp only [zb_eq0, Decidable.not_not] at h8
    refine zV_aload_n (i := 0) (n := 12) C dX8_bribe_11 rfl rfl rfl ?_
    refine zV_iconst (n := 13) C dX8_bribe_12 rfl ?_
    refine zV_callV1u (n := 16) C zk7 jX8_tell lX8_61 (c_tell (d := d) (f := 0) (code := -1000000001) (by decide) (by decide)) dX8_bribe_13 zs_cls rfl (Nat.le_of_ble_eq_true rfl) (zfit_of (by omega) (by decide)) ⟨Nat.le_refl _, Nat.le_refl _⟩ rfl ?_
    exact zV_ireturn C hr hlk dX8_bribe_16 (by first | exact congrArg (fun z => some (Value.int (zi z))) (zif_t (by omega) (rfl)) | exact congrArg (fun z => some (Value.int (zi z))) (zif_f (by omega) rfl)) (by first | exact zif_t (by omega) (rfl) | exact zif_f (by omega) rfl)

set_option maxRecDepth 100000 in
set_option maxHeartbeats 4000000 in
theorem c_as {Γ : zC} {l : Launch} {d : Nat} {μ : zMem} {S : Int → Int} {N : Int} (I : rInv N S) (hN : N ≤ 10000) {x : Int} (hx : -2147483648 ≤ x ∧ x ≤ 2147483647) {v : Int} (hv : -2147483648 ≤ v ∧ v ≤ 2147483647) : zRet Γ l (d + 2) qX8_as [.ref (za Γ 4 0), .int (zi x), .int (zi v)] (zcar μ 0 S) (some (.int (zi (if ((0 ≤ x ∧ x ≤ S 0 - 1) ∧ (0 ≤ v ∧ v ≤ 5)) then (if rUnder (toS S x 0) v then toS S x 2 else -1000000003) else -1000000001)))) (if ((0 ≤ x ∧ x ≤ S 0 - 1) ∧ (0 ≤ v ∧ v ≤ 5)) then (if rUnder (toS S x 0) v then (zcar μ 0 S) else zset (zcar μ 0 S) 4 17 (rFind ((zcar μ 0 S) 4 17) (-1000000003))) else zset (zcar μ 0 S) 4 17 (rFind ((zcar μ 0 S) 4 17) (-1000000001))) := by
  refine zRet.mk 0 [.ref (za Γ 4 0), .int (zi x), .int (zi v)] RX8 rfl (by decide +kernel) (Nat.le_of_ble_eq_true rfl) rfl ?_
  intro p e s m below meth c C hr hlk
  have h0 := I.1
  have h1 := I.2.1
  have h2 := I.2.2.1
  have h3 := I.2.2.2.1
  refine zV_aload_n (i := 0) (n := 1) C dX8_as_0 rfl rfl rfl ?_
  refine zV_getP (f := 0) (n := 4) C zk7 fX8_10 dX8_as_1 zs_cls rfl (by decide) rfl ?_
  refine zV_iload_n (i := 1) (n := 5) C dX8_as_4 rfl rfl rfl ?_
  refine zV_callV1u (n := 8) C zk0 jX0_has lX8_89 (c_has (d := d) (by omega) I (by omega)) dX8_as_5 (zs_car (by omega)) rfl (Nat.le_of_ble_eq_true rfl) (zfit_of (by omega) (by decide)) ⟨Nat.le_refl _, Nat.le_refl _⟩ rfl ?_
  refine zV_if_eq (n := 11) C 18 dX8_as_8 (by decide) (by first | omega | exact zb_rg) rfl (fun h8 => ?_) (fun h8 => ?_)
  · skip
    simp only [zb_eq0, Decidable.not_not] at h8
    refine zV_aload_n (i := 0) (n := 19) C dX8_as_18 rfl rfl rfl ?_
    refine zV_iconst (n := 20) C dX8_as_19 rfl ?_
    refine zV_callV1u (n := 23) C zk7 jX8_tell lX8_61 (c_tell (d := d) (f := 0) (code := -1000000001) (by decide) (by decide)) dX8_as_20 zs_cls rfl (Nat.le_of_ble_eq_true rfl) (zfit_of (by omega) (by decide)) ⟨Nat.le_refl _, Nat.le_refl _⟩ rfl ?_
    exact zV_ireturn C hr hlk dX8_as_23 (by first | exact congrArg (fun z => some (Value.int (zi z))) (zif_t (by omega) (zif_t (by omega) (rfl))) | exact congrArg (fun z => some (Value.int (zi z))) (zif_t (by omega) (zif_f (by omega) rfl)) | exact congrArg (fun z => some (Value.int (zi z))) (zif_f (by omega) rfl)) (by first | exact zif_t (by omega) (zif_t (by omega) (rfl)) | exact zif_t (by omega) (zif_f (by omega) rfl) | exact zif_f (by omega) rfl)
  · skip
    simp only [zb_eq0, Decidable.not_not] at h8
    refine zV_iload_n (i := 2) (n := 12) C dX8_as_11 rfl rfl rfl ?_
    refine zV_callS1u (n := 15) C jX8_isKind lX8_79 (c_isKind (d := d) (by omega)) dX8_as_12 (Nat.le_of_ble_eq_true rfl) (zfit_of (by omega) (by decide)) ⟨Nat.le_refl _, Nat.le_refl _⟩ rfl ?_
    refine zV_if_ne (n := 18) C 24 dX8_as_15 (by decide) (by first | omega | exact zb_rg) rfl (fun h15 => ?_) (fun h15 => ?_)
    · skip
      simp only [zb_eq0, Decidable.not_not] at h15
      have hc := I.2.2.2.2.2.1 x (by omega) (by omega)
      refine zV_aload_n (i := 0) (n := 25) C dX8_as_24 rfl rfl rfl ?_
      refine zV_getP (f := 0) (n := 28) C zk7 fX8_10 dX8_as_25 zs_cls rfl (by decide) rfl ?_
      refine zV_getP (f := 1) (n := 31) C zk0 fX8_92 dX8_as_28 (zs_car (by omega)) rfl (by decide) rfl ?_
      refine zV_iload_n (i := 1) (n := 32) C dX8_as_31 rfl rfl rfl ?_
      refine zV_aald (n := 33) C dX8_as_32 (zs_carC (by omega)) (by first | omega | exact zb_rg) (by decide) (by decide) rfl ?_
      refine zV_getI (f := 0) (fi := 0) (n := 36) C zk2 fX8_105 dX8_as_33 (zs_child (by omega) (by omega)) rfl (by decide) rfl rfl ?_
      rw [zc_kid (by omega) (by omega)]
      refine zV_iload_n (i := 2) (n := 37) C dX8_as_36 rfl rfl rfl ?_
      refine zV_callS2u (n := 40) C jX3_isOneOf lX8_108 (c_isOneOf (d := d) (by omega) (by omega)) dX8_as_37 (Nat.le_of_ble_eq_true rfl) (zfit_of (by omega) (by decide)) ⟨Nat.le_refl _, Nat.le_refl _⟩ rfl ?_
      refine zV_if_ne (n := 43) C 49 dX8_as_40 (by decide) (by first | omega | exact zb_rg) rfl (fun h40 => ?_) (fun h40 => ?_)
      · skip
        simp only [zb_eq0, Decidable.not_not] at h40
        refine zV_aload_n (i := 0) (n := 50) C dX8_as_49 rfl rfl rfl ?_
        refine zV_getP (f := 0) (n := 53) C zk7 fX8_10 dX8_as_50 zs_cls rfl (by decide) rfl ?_
        refine zV_getP (f := 1) (n := 56) C zk0 fX8_92 dX8_as_53 (zs_car (by omega)) rfl (by decide) rfl ?_
        refine zV_iload_n (i := 1) (n := 57) C dX8_as_56 rfl rfl rfl ?_
        refine zV_aald (n := 58) C dX8_as_57 (zs_carC (by omega)) (by first | omega | exact zb_rg) (by decide) (by decide) rfl ?_
        refine zV_getI (f := 2) (fi := 2) (n := 61) C zk2 fX8_114 dX8_as_58 (zs_child (by omega) (by omega)) rfl (by decide) rfl rfl ?_
        rw [zc_kid (by omega) (by omega)]
        exact zV_ireturn C hr hlk dX8_as_61 (by first | exact congrArg (fun z => some (Value.int (zi z))) (zif_t (by omega) (zif_t (by omega) (rfl))) | exact congrArg (fun z => some (Value.int (zi z))) (zif_t (by omega) (zif_f (by omega) rfl)) | exact congrArg (fun z => some (Value.int (zi z))) (zif_f (by omega) rfl)) (by first | exact zif_t (by omega) (zif_t (by omega) (rfl)) | exact zif_t (by omega) (zif_f (by omega) rfl) | exact zif_f (by omega) rfl)
      · skip
        simp only [zb_eq0, Decidable.not_not] at h40
        refine zV_aload_n (i := 0) (n := 44) C dX8_as_43 rfl rfl rfl ?_
        refine zV_iconst (n := 45) C dX8_as_44 rfl ?_
        refine zV_callV1u (n := 48) C zk7 jX8_tell lX8_61 (c_tell (d := d) (f := 2) (code := -1000000003) (by decide) (by decide)) dX8_as_45 zs_cls rfl (Nat.le_of_ble_eq_true rfl) (zfit_of (by omega) (by decide)) ⟨Nat.le_refl _, Nat.le_refl _⟩ rfl ?_
        exact zV_ireturn C hr hlk dX8_as_48 (by first | exact congrArg (fun z => some (Value.int (zi z))) (zif_t (by omega) (zif_t (by omega) (rfl))) | exact congrArg (fun z => some (Value.int (zi z))) (zif_t (by omega) (zif_f (by omega) rfl)) | exact congrArg (fun z => some (Value.int (zi z))) (zif_f (by omega) rfl)) (by first | exact zif_t (by omega) (zif_t (by omega) (rfl)) | exact zif_t (by omega) (zif_f (by omega) rfl) | exact zif_f (by omega) rfl)
    · skip
      simp only [zb_eq0, Decidable.not_not] at h15
      refine zV_aload_n (i := 0) (n := 19) C dX8_as_18 rfl rfl rfl ?_
      refine zV_iconst (n := 20) C dX8_as_19 rfl ?_
      refine zV_callV1u (n := 23) C zk7 jX8_tell lX8_61 (c_tell (d := d) (f := 0) (code := -1000000001) (by decide) (by decide)) dX8_as_20 zs_cls rfl (Nat.le_of_ble_eq_true rfl) (zfit_of (by omega) (by decide)) ⟨Nat.le_refl _, Nat.le_refl _⟩ rfl ?_
      exact zV_ireturn C hr hlk dX8_as_23 (by first | exact congrArg (fun z => some (Value.int (zi z))) (zif_t (by omega) (zif_t (by omega) (rfl))) | exact congrArg (fun z => some (Value.int (zi z))) (zif_t (by omega) (zif_f (by omega) rfl)) | exact congrArg (fun z => some (Value.int (zi z))) (zif_f (by omega) rfl)) (by first | exact zif_t (by omega) (zif_t (by omega) (rfl)) | exact zif_t (by omega) (zif_f (by omega) rfl) | exact zif_f (by omega) rfl)

set_option maxRecDepth 100000 in
set_option maxHeartbeats 4000000 in
theorem c_click {Γ : zC} {l : Launch} {d : Nat} {μ : zMem} {S : Int → Int} {N : Int} (I : rInv N S) (hN : N ≤ 10000) {x : Int} (hx : -2147483648 ≤ x ∧ x ≤ 2147483647) {k : Int} (hk : -2147483648 ≤ k ∧ k ≤ 2147483647) : zRet Γ l (d + 3) qX8_click [.ref (za Γ 4 0), .int (zi x), .int (zi k)] (zcar μ 0 S) (some (.int (zi (if ((0 ≤ x ∧ x ≤ S 0 - 1) ∧ (0 ≤ k ∧ k ≤ 2)) then (if (rAt S x < 0 ∧ ¬ rTk S k) then toS (rClick S x k) x 5 else -1000000005) else -1000000001)))) (if ((0 ≤ x ∧ x ≤ S 0 - 1) ∧ (0 ≤ k ∧ k ≤ 2)) then (if (rAt S x < 0 ∧ ¬ rTk S k) then zcar μ 0 (rClick S x k) else zset (zcar μ 0 S) 4 17 (rFind ((zcar μ 0 S) 4 17) (-1000000005))) else zset (zcar μ 0 S) 4 17 (rFind ((zcar μ 0 S) 4 17) (-1000000001))) := by
  refine zRet.mk 0 [.ref (za Γ 4 0), .int (zi x), .int (zi k)] RX8 rfl (by decide +kernel) (Nat.le_of_ble_eq_true rfl) rfl ?_
  intro p e s m below meth c C hr hlk
  have ha := rAt_rg S x
  have h0 := I.1
  have h1 := I.2.1
  have h2 := I.2.2.1
  have h3 := I.2.2.2.1
  refine zV_aload_n (i := 0) (n := 1) C dX8_click_0 rfl rfl rfl ?_
  refine zV_getP (f := 0) (n := 4) C zk7 fX8_10 dX8_click_1 zs_cls rfl (by decide) rfl ?_
  refine zV_iload_n (i := 1) (n := 5) C dX8_click_4 rfl rfl rfl ?_
  refine zV_callV1u (n := 8) C zk0 jX0_has lX8_89 (c_has (d := d) (by omega) I (by omega)) dX8_click_5 (zs_car (by omega)) rfl (Nat.le_of_ble_eq_true rfl) (zfit_of (by omega) (by decide)) ⟨Nat.le_refl _, Nat.le_refl _⟩ rfl ?_
  refine zV_if_eq (n := 11) C 18 dX8_click_8 (by decide) (by first | omega | exact zb_rg) rfl (fun h8 => ?_) (fun h8 => ?_)
  · skip
    simp only [zb_eq0, Decidable.not_not] at h8
    refine zV_aload_n (i := 0) (n := 19) C dX8_click_18 rfl rfl rfl ?_
    refine zV_iconst (n := 20) C dX8_click_19 rfl ?_
    refine zV_callV1u (n := 23) C zk7 jX8_tell lX8_61 (c_tell (d := d) (f := 0) (code := -1000000001) (by decide) (by decide)) dX8_click_20 zs_cls rfl (Nat.le_of_ble_eq_true rfl) (zfit_of (by omega) (by decide)) ⟨Nat.le_refl _, Nat.le_refl _⟩ rfl ?_
    exact zV_ireturn C hr hlk dX8_click_23 (by first | exact congrArg (fun z => some (Value.int (zi z))) (zif_t (by omega) (zif_t (by omega) (rfl))) | exact congrArg (fun z => some (Value.int (zi z))) (zif_t (by omega) (zif_f (by omega) rfl)) | exact congrArg (fun z => some (Value.int (zi z))) (zif_f (by omega) rfl)) (by first | exact zif_t (by omega) (zif_t (by omega) (rfl)) | exact zif_t (by omega) (zif_f (by omega) rfl) | exact zif_f (by omega) rfl)
  · skip
    simp only [zb_eq0, Decidable.not_not] at h8
    refine zV_iload_n (i := 2) (n := 12) C dX8_click_11 rfl rfl rfl ?_
    refine zV_callS1u (n := 15) C jX8_isSeat lX8_51 (c_isSeat (d := d) (by omega)) dX8_click_12 (Nat.le_of_ble_eq_true rfl) (zfit_of (by omega) (by decide)) ⟨Nat.le_refl _, Nat.le_refl _⟩ rfl ?_
    refine zV_if_ne (n := 18) C 24 dX8_click_15 (by decide) (by first | omega | exact zb_rg) rfl (fun h15 => ?_) (fun h15 => ?_)
    · skip
      simp only [zb_eq0, Decidable.not_not] at h15
      refine zV_aload_n (i := 0) (n := 25) C dX8_click_24 rfl rfl rfl ?_
      refine zV_getP (f := 0) (n := 28) C zk7 fX8_10 dX8_click_25 zs_cls rfl (by decide) rfl ?_
      refine zV_getP (f := 1) (n := 31) C zk0 fX8_92 dX8_click_28 (zs_car (by omega)) rfl (by decide) rfl ?_
      refine zV_iload_n (i := 1) (n := 32) C dX8_click_31 rfl rfl rfl ?_
      refine zV_aald (n := 33) C dX8_click_32 (zs_carC (by omega)) (by first | omega | exact zb_rg) (by decide) (by decide) rfl ?_
      refine zV_callV0u (n := 36) C zk2 jX2_sits lX8_124 (c_kid_sits (d := d) (by omega) I (by omega)) dX8_click_33 (zs_child (by omega) (by omega)) rfl (Nat.le_of_ble_eq_true rfl) (zfit_of (by omega) (by decide)) ⟨Nat.le_refl _, Nat.le_refl _⟩ rfl ?_
      refine zV_if_ne (n := 39) C 54 dX8_click_36 (by decide) (by first | omega | exact zb_rg) rfl (fun h36 => ?_) (fun h36 => ?_)
      · skip
        simp only [zb_eq0, Decidable.not_not] at h36
        refine zV_aload_n (i := 0) (n := 55) C dX8_click_54 rfl rfl rfl ?_
        refine zV_iconst (n := 56) C dX8_click_55 rfl ?_
        refine zV_callV1u (n := 59) C zk7 jX8_tell lX8_61 (c_tell (d := d) (f := 4) (code := -1000000005) (by decide) (by decide)) dX8_click_56 zs_cls rfl (Nat.le_of_ble_eq_true rfl) (zfit_of (by omega) (by decide)) ⟨Nat.le_refl _, Nat.le_refl _⟩ rfl ?_
        exact zV_ireturn C hr hlk dX8_click_59 (by first | exact congrArg (fun z => some (Value.int (zi z))) (zif_t (by omega) (zif_t (by omega) (rfl))) | exact congrArg (fun z => some (Value.int (zi z))) (zif_t (by omega) (zif_f (by omega) rfl)) | exact congrArg (fun z => some (Value.int (zi z))) (zif_f (by omega) rfl)) (by first | exact zif_t (by omega) (zif_t (by omega) (rfl)) | exact zif_t (by omega) (zif_f (by omega) rfl) | exact zif_f (by omega) rfl)
      · skip
        simp only [zb_eq0, Decidable.not_not] at h36
        refine zV_aload_n (i := 0) (n := 40) C dX8_click_39 rfl rfl rfl ?_
        refine zV_getP (f := 0) (n := 43) C zk7 fX8_10 dX8_click_40 zs_cls rfl (by decide) rfl ?_
        refine zV_getP (f := 0) (n := 46) C zk0 fX8_64 dX8_click_43 (zs_car (by omega)) rfl (by decide) rfl ?_
        refine zV_iload_n (i := 2) (n := 47) C dX8_click_46 rfl rfl rfl ?_
        refine zV_aald (n := 48) C dX8_click_47 (zs_carS (by omega)) (by first | omega | exact zb_rg) (by decide) (by decide) rfl ?_
        refine zV_callV0u (n := 51) C zk3 jX4_isTaken lX8_127 (c_seat_isTaken (d := d) (by omega) I (by omega)) dX8_click_48 (zs_seat (by omega) (by omega)) rfl (Nat.le_of_ble_eq_true rfl) (zfit_of (by omega) (by decide)) ⟨Nat.le_refl _, Nat.le_refl _⟩ rfl ?_
        refine zV_if_eq (n := 54) C 60 dX8_click_51 (by decide) (by first | omega | exact zb_rg) rfl (fun h51 => ?_) (fun h51 => ?_)
        · skip
          simp only [zb_eq0, Decidable.not_not] at h51
          have hs := I.2.2.2.2.1 k (by omega) (by omega)
          refine zV_aload_n (i := 0) (n := 61) C dX8_click_60 rfl rfl rfl ?_
          refine zV_getP (f := 0) (n := 64) C zk7 fX8_10 dX8_click_61 zs_cls rfl (by decide) rfl ?_
          refine zV_iload_n (i := 1) (n := 65) C dX8_click_64 rfl rfl rfl ?_
          refine zV_iload_n (i := 2) (n := 66) C dX8_click_65 rfl rfl rfl ?_
          refine zV_callV2v (n := 69) C zk0 jX0_clickIn lX8_130 (c_clickIn (d := d) (by omega) I (by omega) (by omega) (by omega) (by omega)) dX8_click_66 (zs_car (by omega)) rfl (Nat.le_of_ble_eq_true rfl) (zfit_of (by omega) (by decide)) ⟨Nat.le_refl _, Nat.le_refl _⟩ rfl ?_
          have hb0 := rClick_0 (S := S) (x := x) (k := k) (by omega) (by omega)
          refine zV_aload_n (i := 0) (n := 70) C dX8_click_69 rfl rfl rfl ?_
          refine zV_getP (f := 0) (n := 73) C zk7 fX8_10 dX8_click_70 zs_cls rfl (by decide) rfl ?_
          refine zV_getP (f := 1) (n := 76) C zk0 fX8_92 dX8_click_73 (zs_car (by omega)) rfl (by decide) rfl ?_
          refine zV_iload_n (i := 1) (n := 77) C dX8_click_76 rfl rfl rfl ?_
          refine zV_aald (n := 78) C dX8_click_77 (zs_carC (by omega)) (by first | omega | exact zb_rg) (by decide) (by decide) rfl ?_
          refine zV_getI (f := 5) (fi := 5) (n := 81) C zk2 fX8_133 dX8_click_78 (zs_child (by omega) (by omega)) rfl (by decide) rfl rfl ?_
          rw [zc_kid (by omega) (by omega)]
          exact zV_ireturn C hr hlk dX8_click_81 (by first | exact congrArg (fun z => some (Value.int (zi z))) (zif_t (by omega) (zif_t (by omega) (rfl))) | exact congrArg (fun z => some (Value.int (zi z))) (zif_t (by omega) (zif_f (by omega) rfl)) | exact congrArg (fun z => some (Value.int (zi z))) (zif_f (by omega) rfl)) (by first | exact zif_t (by omega) (zif_t (by omega) (rfl)) | exact zif_t (by omega) (zif_f (by omega) rfl) | exact zif_f (by omega) rfl)
        · skip
          simp only [zb_eq0, Decidable.not_not] at h51
          refine zV_aload_n (i := 0) (n := 55) C dX8_click_54 rfl rfl rfl ?_
          refine zV_iconst (n := 56) C dX8_click_55 rfl ?_
          refine zV_callV1u (n := 59) C zk7 jX8_tell lX8_61 (c_tell (d := d) (f := 4) (code := -1000000005) (by decide) (by decide)) dX8_click_56 zs_cls rfl (Nat.le_of_ble_eq_true rfl) (zfit_of (by omega) (by decide)) ⟨Nat.le_refl _, Nat.le_refl _⟩ rfl ?_
          exact zV_ireturn C hr hlk dX8_click_59 (by first | exact congrArg (fun z => some (Value.int (zi z))) (zif_t (by omega) (zif_t (by omega) (rfl))) | exact congrArg (fun z => some (Value.int (zi z))) (zif_t (by omega) (zif_f (by omega) rfl)) | exact congrArg (fun z => some (Value.int (zi z))) (zif_f (by omega) rfl)) (by first | exact zif_t (by omega) (zif_t (by omega) (rfl)) | exact zif_t (by omega) (zif_f (by omega) rfl) | exact zif_f (by omega) rfl)
    · skip
      simp only [zb_eq0, Decidable.not_not] at h15
      refine zV_aload_n (i := 0) (n := 19) C dX8_click_18 rfl rfl rfl ?_
      refine zV_iconst (n := 20) C dX8_click_19 rfl ?_
      refine zV_callV1u (n := 23) C zk7 jX8_tell lX8_61 (c_tell (d := d) (f := 0) (code := -1000000001) (by decide) (by decide)) dX8_click_20 zs_cls rfl (Nat.le_of_ble_eq_true rfl) (zfit_of (by omega) (by decide)) ⟨Nat.le_refl _, Nat.le_refl _⟩ rfl ?_
      exact zV_ireturn C hr hlk dX8_click_23 (by first | exact congrArg (fun z => some (Value.int (zi z))) (zif_t (by omega) (zif_t (by omega) (rfl))) | exact congrArg (fun z => some (Value.int (zi z))) (zif_t (by omega) (zif_f (by omega) rfl)) | exact congrArg (fun z => some (Value.int (zi z))) (zif_f (by omega) rfl)) (by first | exact zif_t (by omega) (zif_t (by omega) (rfl)) | exact zif_t (by omega) (zif_f (by omega) rfl) | exact zif_f (by omega) rfl)

set_option maxRecDepth 100000 in
set_option maxHeartbeats 4000000 in
theorem c_letOut {Γ : zC} {l : Launch} {d : Nat} {μ : zMem} {S : Int → Int} {N : Int} (I : rInv N S) (hN : N ≤ 10000) {x : Int} (hx : -2147483648 ≤ x ∧ x ≤ 2147483647) : zRet Γ l (d + 2) qX8_letOut [.ref (za Γ 4 0), .int (zi x)] (zcar μ 0 S) (some (.int (zi (if (0 ≤ x ∧ x ≤ S 0 - 1) then (if 0 ≤ rAt S x then rAt S x else -1000000005) else -1000000001)))) (if (0 ≤ x ∧ x ≤ S 0 - 1) then (if 0 ≤ rAt S x then zcar μ 0 (rOut S (rAt S x)) else zset (zcar μ 0 S) 4 17 (rFind ((zcar μ 0 S) 4 17) (-1000000005))) else zset (zcar μ 0 S) 4 17 (rFind ((zcar μ 0 S) 4 17) (-1000000001))) := by
  refine zRet.mk 1 [.ref (za Γ 4 0), .int (zi x), .null] RX8 rfl (by decide +kernel) (Nat.le_of_ble_eq_true rfl) rfl ?_
  intro p e s m below meth c C hr hlk
  have ha := rAt_rg S x
  have h0 := I.1
  have h1 := I.2.1
  have h2 := I.2.2.1
  have h3 := I.2.2.2.1
  refine zV_aload_n (i := 0) (n := 1) C dX8_letOut_0 rfl rfl rfl ?_
  refine zV_getP (f := 0) (n := 4) C zk7 fX8_10 dX8_letOut_1 zs_cls rfl (by decide) rfl ?_
  refine zV_iload_n (i := 1) (n := 5) C dX8_letOut_4 rfl rfl rfl ?_
  refine zV_callV1u (n := 8) C zk0 jX0_has lX8_89 (c_has (d := d) (by omega) I (by omega)) dX8_letOut_5 (zs_car (by omega)) rfl (Nat.le_of_ble_eq_true rfl) (zfit_of (by omega) (by decide)) ⟨Nat.le_refl _, Nat.le_refl _⟩ rfl ?_
  refine zV_if_ne (n := 11) C 17 dX8_letOut_8 (by decide) (by first | omega | exact zb_rg) rfl (fun h8 => ?_) (fun h8 => ?_)
  · skip
    simp only [zb_eq0, Decidable.not_not] at h8
    refine zV_aload_n (i := 0) (n := 18) C dX8_letOut_17 rfl rfl rfl ?_
    refine zV_getP (f := 0) (n := 21) C zk7 fX8_10 dX8_letOut_18 zs_cls rfl (by decide) rfl ?_
    refine zV_getP (f := 1) (n := 24) C zk0 fX8_92 dX8_letOut_21 (zs_car (by omega)) rfl (by decide) rfl ?_
    refine zV_iload_n (i := 1) (n := 25) C dX8_letOut_24 rfl rfl rfl ?_
    refine zV_aald (n := 26) C dX8_letOut_25 (zs_carC (by omega)) (by first | omega | exact zb_rg) (by decide) (by decide) rfl ?_
    refine zV_getI (f := 6) (fi := 6) (n := 29) C zk2 fX8_136 dX8_letOut_26 (zs_child (by omega) (by omega)) rfl (by decide) rfl rfl ?_
    rw [zc_place (by omega)]
    refine zS_istore_n_3_2 (n := 30) C dX8_letOut_29 rfl rfl ?_
    refine zV_iload_n (i := 2) (n := 31) C dX8_letOut_30 rfl rfl rfl ?_
    refine zV_callS1u (n := 34) C jX8_isSeat lX8_51 (c_isSeat (d := d) (by omega)) dX8_letOut_31 (Nat.le_of_ble_eq_true rfl) (zfit_of (by omega) (by decide)) ⟨Nat.le_refl _, Nat.le_refl _⟩ rfl ?_
    refine zV_if_ne (n := 37) C 43 dX8_letOut_34 (by decide) (by first | omega | exact zb_rg) rfl (fun h34 => ?_) (fun h34 => ?_)
    · skip
      simp only [zb_eq0, Decidable.not_not] at h34
      refine zV_aload_n (i := 0) (n := 44) C dX8_letOut_43 rfl rfl rfl ?_
      refine zV_getP (f := 0) (n := 47) C zk7 fX8_10 dX8_letOut_44 zs_cls rfl (by decide) rfl ?_
      refine zV_iload_n (i := 2) (n := 48) C dX8_letOut_47 rfl rfl rfl ?_
      refine zV_callV1v (n := 51) C zk0 jX0_getOut lX8_139 (c_getOut (d := d) (by omega) I (by omega) (rAt_tk (by omega) (by omega))) dX8_letOut_48 (zs_car (by omega)) rfl (Nat.le_of_ble_eq_true rfl) (zfit_of (by omega) (by decide)) ⟨Nat.le_refl _, Nat.le_refl _⟩ rfl ?_
      refine zV_iload_n (i := 2) (n := 52) C dX8_letOut_51 rfl rfl rfl ?_
      exact zV_ireturn C hr hlk dX8_letOut_52 (by first | exact congrArg (fun z => some (Value.int (zi z))) (zif_t (by omega) (zif_t (by omega) (rfl))) | exact congrArg (fun z => some (Value.int (zi z))) (zif_t (by omega) (zif_f (by omega) rfl)) | exact congrArg (fun z => some (Value.int (zi z))) (zif_f (by omega) rfl)) (by first | exact zif_t (by omega) (zif_t (by omega) (rfl)) | exact zif_t (by omega) (zif_f (by omega) rfl) | exact zif_f (by omega) rfl)
    · skip
      simp only [zb_eq0, Decidable.not_not] at h34
      refine zV_aload_n (i := 0) (n := 38) C dX8_letOut_37 rfl rfl rfl ?_
      refine zV_iconst (n := 39) C dX8_letOut_38 rfl ?_
      refine zV_callV1u (n := 42) C zk7 jX8_tell lX8_61 (c_tell (d := d) (f := 4) (code := -1000000005) (by decide) (by decide)) dX8_letOut_39 zs_cls rfl (Nat.le_of_ble_eq_true rfl) (zfit_of (by omega) (by decide)) ⟨Nat.le_refl _, Nat.le_refl _⟩ rfl ?_
      exact zV_ireturn C hr hlk dX8_letOut_42 (by first | exact congrArg (fun z => some (Value.int (zi z))) (zif_t (by omega) (zif_t (by omega) (rfl))) | exact congrArg (fun z => some (Value.int (zi z))) (zif_t (by omega) (zif_f (by omega) rfl)) | exact congrArg (fun z => some (Value.int (zi z))) (zif_f (by omega) rfl)) (by first | exact zif_t (by omega) (zif_t (by omega) (rfl)) | exact zif_t (by omega) (zif_f (by omega) rfl) | exact zif_f (by omega) rfl)
  · skip
    simp only [zb_eq0, Decidable.not_not] at h8
    refine zV_aload_n (i := 0) (n := 12) C dX8_letOut_11 rfl rfl rfl ?_
    refine zV_iconst (n := 13) C dX8_letOut_12 rfl ?_
    refine zV_callV1u (n := 16) C zk7 jX8_tell lX8_61 (c_tell (d := d) (f := 0) (code := -1000000001) (by decide) (by decide)) dX8_letOut_13 zs_cls rfl (Nat.le_of_ble_eq_true rfl) (zfit_of (by omega) (by decide)) ⟨Nat.le_refl _, Nat.le_refl _⟩ rfl ?_
    exact zV_ireturn C hr hlk dX8_letOut_16 (by first | exact congrArg (fun z => some (Value.int (zi z))) (zif_t (by omega) (zif_t (by omega) (rfl))) | exact congrArg (fun z => some (Value.int (zi z))) (zif_t (by omega) (zif_f (by omega) rfl)) | exact congrArg (fun z => some (Value.int (zi z))) (zif_f (by omega) rfl)) (by first | exact zif_t (by omega) (zif_t (by omega) (rfl)) | exact zif_t (by omega) (zif_f (by omega) rfl) | exact zif_f (by omega) rfl)

set_option maxRecDepth 100000 in
set_option maxHeartbeats 4000000 in
theorem c_child {Γ : zC} {l : Launch} {d : Nat} {μ : zMem} {S : Int → Int} {N : Int} (I : rInv N S) (hN : N ≤ 10000) {v : Int} (hv : -2147483648 ≤ v ∧ v ≤ 2147483647) : zRet Γ l (d + 2) qX8_child [.ref (za Γ 4 0), .int (zi v)] (zcar μ 0 S) (some (.int (zi (if (0 ≤ v ∧ v ≤ 5) then (if (¬ S 0 = 6) then S 0 else -1000000002) else -1000000001)))) (if (0 ≤ v ∧ v ≤ 5) then (if (¬ S 0 = 6) then zcar μ 0 (rAdd S v) else zset (zcar μ 0 S) 4 17 (rFind ((zcar μ 0 S) 4 17) (-1000000002))) else zset (zcar μ 0 S) 4 17 (rFind ((zcar μ 0 S) 4 17) (-1000000001))) := by
  refine zRet.mk 0 [.ref (za Γ 4 0), .int (zi v)] RX8 rfl (by decide +kernel) (Nat.le_of_ble_eq_true rfl) rfl ?_
  intro p e s m below meth c C hr hlk
  have h0 := I.1
  have h1 := I.2.1
  have h2 := I.2.2.1
  have h3 := I.2.2.2.1
  refine zV_iload_n (i := 1) (n := 1) C dX8_child_0 rfl rfl rfl ?_
  refine zV_callS1u (n := 4) C jX8_isKind lX8_79 (c_isKind (d := d) (by omega)) dX8_child_1 (Nat.le_of_ble_eq_true rfl) (zfit_of (by omega) (by decide)) ⟨Nat.le_refl _, Nat.le_refl _⟩ rfl ?_
  refine zV_if_ne (n := 7) C 13 dX8_child_4 (by decide) (by first | omega | exact zb_rg) rfl (fun h4 => ?_) (fun h4 => ?_)
  · skip
    simp only [zb_eq0, Decidable.not_not] at h4
    refine zV_aload_n (i := 0) (n := 14) C dX8_child_13 rfl rfl rfl ?_
    refine zV_getP (f := 0) (n := 17) C zk7 fX8_10 dX8_child_14 zs_cls rfl (by decide) rfl ?_
    refine zV_callV0u (n := 20) C zk0 jX0_isFull lX8_82 (c_isFull (d := d) (by omega) I) dX8_child_17 (zs_car (by omega)) rfl (Nat.le_of_ble_eq_true rfl) (zfit_of (by omega) (by decide)) ⟨Nat.le_refl _, Nat.le_refl _⟩ rfl ?_
    refine zV_if_eq (n := 23) C 29 dX8_child_20 (by decide) (by first | omega | exact zb_rg) rfl (fun h20 => ?_) (fun h20 => ?_)
    · skip
      simp only [zb_eq0, Decidable.not_not] at h20
      refine zV_aload_n (i := 0) (n := 30) C dX8_child_29 rfl rfl rfl ?_
      refine zV_getP (f := 0) (n := 33) C zk7 fX8_10 dX8_child_30 zs_cls rfl (by decide) rfl ?_
      refine zV_iload_n (i := 1) (n := 34) C dX8_child_33 rfl rfl rfl ?_
      refine zV_callV1u (n := 37) C zk0 jX0_add lX8_86 (c_add (d := d) (by omega) I (by omega)) dX8_child_34 (zs_car (by omega)) rfl (Nat.le_of_ble_eq_true rfl) (zfit_of (by omega) (by decide)) ⟨Nat.le_refl _, Nat.le_refl _⟩ rfl ?_
      exact zV_ireturn C hr hlk dX8_child_37 (by first | exact congrArg (fun z => some (Value.int (zi z))) (zif_t (by omega) (zif_t (by omega) (rfl))) | exact congrArg (fun z => some (Value.int (zi z))) (zif_t (by omega) (zif_f (by omega) rfl)) | exact congrArg (fun z => some (Value.int (zi z))) (zif_f (by omega) rfl)) (by first | exact zif_t (by omega) (zif_t (by omega) (rfl)) | exact zif_t (by omega) (zif_f (by omega) rfl) | exact zif_f (by omega) rfl)
    · skip
      simp only [zb_eq0, Decidable.not_not] at h20
      refine zV_aload_n (i := 0) (n := 24) C dX8_child_23 rfl rfl rfl ?_
      refine zV_iconst (n := 25) C dX8_child_24 rfl ?_
      refine zV_callV1u (n := 28) C zk7 jX8_tell lX8_61 (c_tell (d := d) (f := 1) (code := -1000000002) (by decide) (by decide)) dX8_child_25 zs_cls rfl (Nat.le_of_ble_eq_true rfl) (zfit_of (by omega) (by decide)) ⟨Nat.le_refl _, Nat.le_refl _⟩ rfl ?_
      exact zV_ireturn C hr hlk dX8_child_28 (by first | exact congrArg (fun z => some (Value.int (zi z))) (zif_t (by omega) (zif_t (by omega) (rfl))) | exact congrArg (fun z => some (Value.int (zi z))) (zif_t (by omega) (zif_f (by omega) rfl)) | exact congrArg (fun z => some (Value.int (zi z))) (zif_f (by omega) rfl)) (by first | exact zif_t (by omega) (zif_t (by omega) (rfl)) | exact zif_t (by omega) (zif_f (by omega) rfl) | exact zif_f (by omega) rfl)
  · skip
    simp only [zb_eq0, Decidable.not_not] at h4
    refine zV_aload_n (i := 0) (n := 8) C dX8_child_7 rfl rfl rfl ?_
    refine zV_iconst (n := 9) C dX8_child_8 rfl ?_
    refine zV_callV1u (n := 12) C zk7 jX8_tell lX8_61 (c_tell (d := d) (f := 0) (code := -1000000001) (by decide) (by decide)) dX8_child_9 zs_cls rfl (Nat.le_of_ble_eq_true rfl) (zfit_of (by omega) (by decide)) ⟨Nat.le_refl _, Nat.le_refl _⟩ rfl ?_
    exact zV_ireturn C hr hlk dX8_child_12 (by first | exact congrArg (fun z => some (Value.int (zi z))) (zif_t (by omega) (zif_t (by omega) (rfl))) | exact congrArg (fun z => some (Value.int (zi z))) (zif_t (by omega) (zif_f (by omega) rfl)) | exact congrArg (fun z => some (Value.int (zi z))) (zif_f (by omega) rfl)) (by first | exact zif_t (by omega) (zif_t (by omega) (rfl)) | exact zif_t (by omega) (zif_f (by omega) rfl) | exact zif_f (by omega) rfl)

set_option maxRecDepth 100000 in
set_option maxHeartbeats 4000000 in
theorem c_drive {Γ : zC} {l : Launch} {d : Nat} {μ : zMem} {S : Int → Int} {N : Int} (I : rInv N S) (hN : N ≤ 10000) {n : Int} (hn : -2147483648 ≤ n ∧ n ≤ 2147483647) : zRet Γ l (d + 5) qX8_drive [.ref (za Γ 4 0), .int (zi n)] (zcar μ 0 S) (some (.int (zi (if (1 ≤ n ∧ n ≤ 60) then (if (S 1 + n ≤ 9999) then rSit (rGo n.toNat S) else -1000000005) else -1000000001)))) (if (1 ≤ n ∧ n ≤ 60) then (if (S 1 + n ≤ 9999) then zcar μ 0 (rGo n.toNat S) else zset (zcar μ 0 S) 4 17 (rFind ((zcar μ 0 S) 4 17) (-1000000005))) else zset (zcar μ 0 S) 4 17 (rFind ((zcar μ 0 S) 4 17) (-1000000001))) := by
  refine zRet.mk 0 [.ref (za Γ 4 0), .int (zi n)] RX8 rfl (by decide +kernel) (Nat.le_of_ble_eq_true rfl) rfl ?_
  intro p e s m below meth c C hr hlk
  have h0 := I.1
  have h1 := I.2.1
  have h2 := I.2.2.1
  have h3 := I.2.2.2.1
  refine zV_iload_n (i := 1) (n := 1) C dX8_drive_0 rfl rfl rfl ?_
  refine zV_iconst (n := 2) C dX8_drive_1 rfl ?_
  refine zV_icmp_lt (n := 5) C 11 dX8_drive_2 (by decide) (by first | omega | exact zb_rg) (by first | omega | exact zb_rg) rfl (fun h2 => ?_) (fun h2 => ?_)
  · skip
    refine zV_aload_n (i := 0) (n := 12) C dX8_drive_11 rfl rfl rfl ?_
    refine zV_iconst (n := 13) C dX8_drive_12 rfl ?_
    refine zV_callV1u (n := 16) C zk7 jX8_tell lX8_61 (c_tell (d := d) (f := 0) (code := -1000000001) (by decide) (by decide)) dX8_drive_13 zs_cls rfl (Nat.le_of_ble_eq_true rfl) (zfit_of (by omega) (by decide)) ⟨Nat.le_refl _, Nat.le_refl _⟩ rfl ?_
    exact zV_ireturn C hr hlk dX8_drive_16 (by first | exact congrArg (fun z => some (Value.int (zi z))) (zif_t (by omega) (zif_t (by omega) (rfl))) | exact congrArg (fun z => some (Value.int (zi z))) (zif_t (by omega) (zif_f (by omega) rfl)) | exact congrArg (fun z => some (Value.int (zi z))) (zif_f (by omega) rfl)) (by first | exact zif_t (by omega) (zif_t (by omega) (rfl)) | exact zif_t (by omega) (zif_f (by omega) rfl) | exact zif_f (by omega) rfl)
  · skip
    refine zV_iload_n (i := 1) (n := 6) C dX8_drive_5 rfl rfl rfl ?_
    refine zV_bipush (n := 8) C dX8_drive_6 (by decide) rfl ?_
    refine zV_icmp_le (n := 11) C 17 dX8_drive_8 (by decide) (by first | omega | exact zb_rg) (by first | omega | exact zb_rg) rfl (fun h8 => ?_) (fun h8 => ?_)
    · skip
      refine zV_aload_n (i := 0) (n := 18) C dX8_drive_17 rfl rfl rfl ?_
      refine zV_getP (f := 0) (n := 21) C zk7 fX8_10 dX8_drive_18 zs_cls rfl (by decide) rfl ?_
      refine zV_getI (f := 4) (fi := 4) (n := 24) C zk0 fX8_146 dX8_drive_21 (zs_car (by omega)) rfl (by decide) rfl rfl ?_
      rw [zc_min]
      refine zV_iload_n (i := 1) (n := 25) C dX8_drive_24 rfl rfl rfl ?_
      refine zV_iadd (n := 26) C dX8_drive_25 rfl ?_
      refine zV_sipush (n := 29) C dX8_drive_26 (by decide) rfl ?_
      refine zV_icmp_le (n := 32) C 38 dX8_drive_29 (by decide) (by first | omega | exact zb_rg) (by first | omega | exact zb_rg) rfl (fun h29 => ?_) (fun h29 => ?_)
      · skip
        refine zV_aload_n (i := 0) (n := 39) C dX8_drive_38 rfl rfl rfl ?_
        refine zV_getP (f := 0) (n := 42) C zk7 fX8_10 dX8_drive_39 zs_cls rfl (by decide) rfl ?_
        refine zV_iload_n (i := 1) (n := 43) C dX8_drive_42 rfl rfl rfl ?_
        refine zV_callV1v (n := 46) C zk0 jX0_passMinutes lX8_149 (c_passMinutes (d := d) (by omega) I (by omega) (by omega)) dX8_drive_43 (zs_car (by omega)) rfl (Nat.le_of_ble_eq_true rfl) (zfit_of (by omega) (by decide)) ⟨Nat.le_refl _, Nat.le_refl _⟩ rfl ?_
        have I : rInv (N + n.toNat) (rGo n.toNat S) := rGo_inv (S := S) I
        refine zV_aload_n (i := 0) (n := 47) C dX8_drive_46 rfl rfl rfl ?_
        refine zV_getP (f := 0) (n := 50) C zk7 fX8_10 dX8_drive_47 zs_cls rfl (by decide) rfl ?_
        refine zV_callV0u (n := 53) C zk0 jX0_sitting lX8_152 (c_sitting (d := d) (by omega) I) dX8_drive_50 (zs_car (by omega)) rfl (Nat.le_of_ble_eq_true rfl) (zfit_of (by omega) (by decide)) ⟨Nat.le_refl _, Nat.le_refl _⟩ rfl ?_
        exact zV_ireturn C hr hlk dX8_drive_53 (by first | exact congrArg (fun z => some (Value.int (zi z))) (zif_t (by omega) (zif_t (by omega) (rfl))) | exact congrArg (fun z => some (Value.int (zi z))) (zif_t (by omega) (zif_f (by omega) rfl)) | exact congrArg (fun z => some (Value.int (zi z))) (zif_f (by omega) rfl)) (by first | exact zif_t (by omega) (zif_t (by omega) (rfl)) | exact zif_t (by omega) (zif_f (by omega) rfl) | exact zif_f (by omega) rfl)
      · skip
        refine zV_aload_n (i := 0) (n := 33) C dX8_drive_32 rfl rfl rfl ?_
        refine zV_iconst (n := 34) C dX8_drive_33 rfl ?_
        refine zV_callV1u (n := 37) C zk7 jX8_tell lX8_61 (c_tell (d := d) (f := 4) (code := -1000000005) (by decide) (by decide)) dX8_drive_34 zs_cls rfl (Nat.le_of_ble_eq_true rfl) (zfit_of (by omega) (by decide)) ⟨Nat.le_refl _, Nat.le_refl _⟩ rfl ?_
        exact zV_ireturn C hr hlk dX8_drive_37 (by first | exact congrArg (fun z => some (Value.int (zi z))) (zif_t (by omega) (zif_t (by omega) (rfl))) | exact congrArg (fun z => some (Value.int (zi z))) (zif_t (by omega) (zif_f (by omega) rfl)) | exact congrArg (fun z => some (Value.int (zi z))) (zif_f (by omega) rfl)) (by first | exact zif_t (by omega) (zif_t (by omega) (rfl)) | exact zif_t (by omega) (zif_f (by omega) rfl) | exact zif_f (by omega) rfl)
    · skip
      refine zV_aload_n (i := 0) (n := 12) C dX8_drive_11 rfl rfl rfl ?_
      refine zV_iconst (n := 13) C dX8_drive_12 rfl ?_
      refine zV_callV1u (n := 16) C zk7 jX8_tell lX8_61 (c_tell (d := d) (f := 0) (code := -1000000001) (by decide) (by decide)) dX8_drive_13 zs_cls rfl (Nat.le_of_ble_eq_true rfl) (zfit_of (by omega) (by decide)) ⟨Nat.le_refl _, Nat.le_refl _⟩ rfl ?_
      exact zV_ireturn C hr hlk dX8_drive_16 (by first | exact congrArg (fun z => some (Value.int (zi z))) (zif_t (by omega) (zif_t (by omega) (rfl))) | exact congrArg (fun z => some (Value.int (zi z))) (zif_t (by omega) (zif_f (by omega) rfl)) | exact congrArg (fun z => some (Value.int (zi z))) (zif_f (by omega) rfl)) (by first | exact zif_t (by omega) (zif_t (by omega) (rfl)) | exact zif_t (by omega) (zif_f (by omega) rfl) | exact zif_f (by omega) rfl)

set_option maxRecDepth 100000 in
set_option maxHeartbeats 4000000 in
theorem c_now {Γ : zC} {l : Launch} {d : Nat} {μ : zMem} {S : Int → Int} {N : Int} (I : rInv N S) (hN : N ≤ 10000) {w : Int} (hw : -2147483648 ≤ w ∧ w ≤ 2147483647) : zRet Γ l (d + 2) qX8_now [.ref (za Γ 4 0), .int (zi w)] (zcar μ 0 S) (some (.int (zi (if (0 ≤ w ∧ w ≤ 5) then if w ≤ 2 then S (1 + w) else if w = 3 then rSit S else if w = 4 then rSumF S 2 (S 0).toNat 0 0 else rSumF S 5 (S 0).toNat 0 0 else -1000000001)))) (if (0 ≤ w ∧ w ≤ 5) then (zcar μ 0 S) else zset (zcar μ 0 S) 4 17 (rFind ((zcar μ 0 S) 4 17) (-1000000001))) := by
  refine zRet.mk 0 [.ref (za Γ 4 0), .int (zi w)] RX8 rfl (by decide +kernel) (Nat.le_of_ble_eq_true rfl) rfl ?_
  intro p e s m below meth c C hr hlk
  have h0 := I.1
  have h1 := I.2.1
  have h2 := I.2.2.1
  have h3 := I.2.2.2.1
  refine zV_iload_n (i := 1) (n := 1) C dX8_now_0 rfl rfl rfl ?_
  have hsw1 : w = 0 ∨ w = 1 ∨ w = 2 ∨ w = 3 ∨ w = 4 ∨ w = 5 ∨ (w < 0 ∨ 5 < w) := by omega
  rcases hsw1 with hsw | hsw | hsw | hsw | hsw | hsw | hsw
  · skip
    refine zV_tswIn C 40 dX8_now_1 (by omega) (by omega) (by omega) (by rw [hsw]; rfl) (by decide) ?_
    refine zV_aload_n (i := 0) (n := 41) C dX8_now_40 rfl rfl rfl ?_
    refine zV_getP (f := 0) (n := 44) C zk7 fX8_10 dX8_now_41 zs_cls rfl (by decide) rfl ?_
    refine zV_getI (f := 4) (fi := 4) (n := 47) C zk0 fX8_146 dX8_now_44 (zs_car (by omega)) rfl (by decide) rfl rfl ?_
    rw [zc_min]
    exact zV_ireturn C hr hlk dX8_now_47 (by first | exact congrArg (fun z => some (Value.int (zi z))) (zif_t (by omega) (zif_t (by omega) (by rw [hsw]; rfl))) | exact congrArg (fun z => some (Value.int (zi z))) (zif_t (by omega) (zif_f (by omega) (zif_t (by omega) rfl))) | exact congrArg (fun z => some (Value.int (zi z))) (zif_t (by omega) (zif_f (by omega) (zif_f (by omega) (zif_t (by omega) rfl)))) | exact congrArg (fun z => some (Value.int (zi z))) (zif_t (by omega) (zif_f (by omega) (zif_f (by omega) (zif_f (by omega) rfl)))) | exact congrArg (fun z => some (Value.int (zi z))) (zif_f (by omega) rfl)) (by first | exact zif_t (by omega) (rfl) | exact zif_f (by omega) rfl)
  · skip
    refine zV_tswIn C 48 dX8_now_1 (by omega) (by omega) (by omega) (by rw [hsw]; rfl) (by decide) ?_
    refine zV_aload_n (i := 0) (n := 49) C dX8_now_48 rfl rfl rfl ?_
    refine zV_getP (f := 0) (n := 52) C zk7 fX8_10 dX8_now_49 zs_cls rfl (by decide) rfl ?_
    refine zV_getI (f := 5) (fi := 5) (n := 55) C zk0 fX8_156 dX8_now_52 (zs_car (by omega)) rfl (by decide) rfl rfl ?_
    rw [zc_spent]
    exact zV_ireturn C hr hlk dX8_now_55 (by first | exact congrArg (fun z => some (Value.int (zi z))) (zif_t (by omega) (zif_t (by omega) (by rw [hsw]; rfl))) | exact congrArg (fun z => some (Value.int (zi z))) (zif_t (by omega) (zif_f (by omega) (zif_t (by omega) rfl))) | exact congrArg (fun z => some (Value.int (zi z))) (zif_t (by omega) (zif_f (by omega) (zif_f (by omega) (zif_t (by omega) rfl)))) | exact congrArg (fun z => some (Value.int (zi z))) (zif_t (by omega) (zif_f (by omega) (zif_f (by omega) (zif_f (by omega) rfl)))) | exact congrArg (fun z => some (Value.int (zi z))) (zif_f (by omega) rfl)) (by first | exact zif_t (by omega) (rfl) | exact zif_f (by omega) rfl)
  · skip
    refine zV_tswIn C 56 dX8_now_1 (by omega) (by omega) (by omega) (by rw [hsw]; rfl) (by decide) ?_
    refine zV_aload_n (i := 0) (n := 57) C dX8_now_56 rfl rfl rfl ?_
    refine zV_getP (f := 0) (n := 60) C zk7 fX8_10 dX8_now_57 zs_cls rfl (by decide) rfl ?_
    refine zV_getI (f := 3) (fi := 3) (n := 63) C zk0 fX8_75 dX8_now_60 (zs_car (by omega)) rfl (by decide) rfl rfl ?_
    rw [zc_rain]
    exact zV_ireturn C hr hlk dX8_now_63 (by first | exact congrArg (fun z => some (Value.int (zi z))) (zif_t (by omega) (zif_t (by omega) (by rw [hsw]; rfl))) | exact congrArg (fun z => some (Value.int (zi z))) (zif_t (by omega) (zif_f (by omega) (zif_t (by omega) rfl))) | exact congrArg (fun z => some (Value.int (zi z))) (zif_t (by omega) (zif_f (by omega) (zif_f (by omega) (zif_t (by omega) rfl)))) | exact congrArg (fun z => some (Value.int (zi z))) (zif_t (by omega) (zif_f (by omega) (zif_f (by omega) (zif_f (by omega) rfl)))) | exact congrArg (fun z => some (Value.int (zi z))) (zif_f (by omega) rfl)) (by first | exact zif_t (by omega) (rfl) | exact zif_f (by omega) rfl)
  · skip
    refine zV_tswIn C 64 dX8_now_1 (by omega) (by omega) (by omega) (by rw [hsw]; rfl) (by decide) ?_
    refine zV_aload_n (i := 0) (n := 65) C dX8_now_64 rfl rfl rfl ?_
    refine zV_getP (f := 0) (n := 68) C zk7 fX8_10 dX8_now_65 zs_cls rfl (by decide) rfl ?_
    refine zV_callV0u (n := 71) C zk0 jX0_sitting lX8_152 (c_sitting (d := d) (by omega) I) dX8_now_68 (zs_car (by omega)) rfl (Nat.le_of_ble_eq_true rfl) (zfit_of (by omega) (by decide)) ⟨Nat.le_refl _, Nat.le_refl _⟩ rfl ?_
    exact zV_ireturn C hr hlk dX8_now_71 (by first | exact congrArg (fun z => some (Value.int (zi z))) (zif_t (by omega) (zif_t (by omega) (by rw [hsw]; rfl))) | exact congrArg (fun z => some (Value.int (zi z))) (zif_t (by omega) (zif_f (by omega) (zif_t (by omega) rfl))) | exact congrArg (fun z => some (Value.int (zi z))) (zif_t (by omega) (zif_f (by omega) (zif_f (by omega) (zif_t (by omega) rfl)))) | exact congrArg (fun z => some (Value.int (zi z))) (zif_t (by omega) (zif_f (by omega) (zif_f (by omega) (zif_f (by omega) rfl)))) | exact congrArg (fun z => some (Value.int (zi z))) (zif_f (by omega) rfl)) (by first | exact zif_t (by omega) (rfl) | exact zif_f (by omega) rfl)
  · skip
    refine zV_tswIn C 72 dX8_now_1 (by omega) (by omega) (by omega) (by rw [hsw]; rfl) (by decide) ?_
    refine zV_aload_n (i := 0) (n := 73) C dX8_now_72 rfl rfl rfl ?_
    refine zV_getP (f := 0) (n := 76) C zk7 fX8_10 dX8_now_73 zs_cls rfl (by decide) rfl ?_
    refine zV_callV0u (n := 79) C zk0 jX0_moods lX8_159 (c_moods (d := d) (by omega) I) dX8_now_76 (zs_car (by omega)) rfl (Nat.le_of_ble_eq_true rfl) (zfit_of (by omega) (by decide)) ⟨Nat.le_refl _, Nat.le_refl _⟩ rfl ?_
    exact zV_ireturn C hr hlk dX8_now_79 (by first | exact congrArg (fun z => some (Value.int (zi z))) (zif_t (by omega) (zif_t (by omega) (by rw [hsw]; rfl))) | exact congrArg (fun z => some (Value.int (zi z))) (zif_t (by omega) (zif_f (by omega) (zif_t (by omega) rfl))) | exact congrArg (fun z => some (Value.int (zi z))) (zif_t (by omega) (zif_f (by omega) (zif_f (by omega) (zif_t (by omega) rfl)))) | exact congrArg (fun z => some (Value.int (zi z))) (zif_t (by omega) (zif_f (by omega) (zif_f (by omega) (zif_f (by omega) rfl)))) | exact congrArg (fun z => some (Value.int (zi z))) (zif_f (by omega) rfl)) (by first | exact zif_t (by omega) (rfl) | exact zif_f (by omega) rfl)
  · skip
    refine zV_tswIn C 80 dX8_now_1 (by omega) (by omega) (by omega) (by rw [hsw]; rfl) (by decide) ?_
    refine zV_aload_n (i := 0) (n := 81) C dX8_now_80 rfl rfl rfl ?_
    refine zV_getP (f := 0) (n := 84) C zk7 fX8_10 dX8_now_81 zs_cls rfl (by decide) rfl ?_
    refine zV_callV0u (n := 87) C zk0 jX0_tights lX8_162 (c_tights (d := d) (by omega) I) dX8_now_84 (zs_car (by omega)) rfl (Nat.le_of_ble_eq_true rfl) (zfit_of (by omega) (by decide)) ⟨Nat.le_refl _, Nat.le_refl _⟩ rfl ?_
    exact zV_ireturn C hr hlk dX8_now_87 (by first | exact congrArg (fun z => some (Value.int (zi z))) (zif_t (by omega) (zif_t (by omega) (by rw [hsw]; rfl))) | exact congrArg (fun z => some (Value.int (zi z))) (zif_t (by omega) (zif_f (by omega) (zif_t (by omega) rfl))) | exact congrArg (fun z => some (Value.int (zi z))) (zif_t (by omega) (zif_f (by omega) (zif_f (by omega) (zif_t (by omega) rfl)))) | exact congrArg (fun z => some (Value.int (zi z))) (zif_t (by omega) (zif_f (by omega) (zif_f (by omega) (zif_f (by omega) rfl)))) | exact congrArg (fun z => some (Value.int (zi z))) (zif_f (by omega) rfl)) (by first | exact zif_t (by omega) (rfl) | exact zif_f (by omega) rfl)
  · skip
    refine zV_tswOut C 88 dX8_now_1 (by omega) (by omega) (by decide) ?_
    refine zV_aload_n (i := 0) (n := 89) C dX8_now_88 rfl rfl rfl ?_
    refine zV_iconst (n := 90) C dX8_now_89 rfl ?_
    refine zV_callV1u (n := 93) C zk7 jX8_tell lX8_61 (c_tell (d := d) (f := 0) (code := -1000000001) (by decide) (by decide)) dX8_now_90 zs_cls rfl (Nat.le_of_ble_eq_true rfl) (zfit_of (by omega) (by decide)) ⟨Nat.le_refl _, Nat.le_refl _⟩ rfl ?_
    exact zV_ireturn C hr hlk dX8_now_93 (by first | exact congrArg (fun z => some (Value.int (zi z))) (zif_t (by omega) (zif_t (by omega) (by rw [hsw]; rfl))) | exact congrArg (fun z => some (Value.int (zi z))) (zif_t (by omega) (zif_f (by omega) (zif_t (by omega) rfl))) | exact congrArg (fun z => some (Value.int (zi z))) (zif_t (by omega) (zif_f (by omega) (zif_f (by omega) (zif_t (by omega) rfl)))) | exact congrArg (fun z => some (Value.int (zi z))) (zif_t (by omega) (zif_f (by omega) (zif_f (by omega) (zif_f (by omega) rfl)))) | exact congrArg (fun z => some (Value.int (zi z))) (zif_f (by omega) rfl)) (by first | exact zif_t (by omega) (rfl) | exact zif_f (by omega) rfl)

set_option maxRecDepth 100000 in
set_option maxHeartbeats 4000000 in
theorem c_count {Γ : zC} {l : Launch} {d : Nat} {μ : zMem} {S : Int → Int} {N : Int} (I : rInv N S) (hN : N ≤ 10000) {w : Int} (hw : -2147483648 ≤ w ∧ w ≤ 2147483647) : zRet Γ l (d + 2) qX8_count [.ref (za Γ 4 0), .int (zi w)] (zcar μ 0 S) (some (.int (zi (if (0 ≤ w ∧ w ≤ 3) then if w = 0 then S 0 else if w = 1 then μ 4 2 1 else if w = 2 then rPop (rSit S) else rWears S else -1000000001)))) (if (0 ≤ w ∧ w ≤ 3) then (zcar μ 0 S) else zset (zcar μ 0 S) 4 17 (rFind ((zcar μ 0 S) 4 17) (-1000000001))) := by
  refine zRet.mk 0 [.ref (za Γ 4 0), .int (zi w)] RX8 rfl (by decide +kernel) (Nat.le_of_ble_eq_true rfl) rfl ?_
  intro p e s m below meth c C hr hlk
  have hz := rSit_rg I
  have h0 := I.1
  have h1 := I.2.1
  have h2 := I.2.2.1
  have h3 := I.2.2.2.1
  refine zV_iload_n (i := 1) (n := 1) C dX8_count_0 rfl rfl rfl ?_
  have hsw1 : w = 0 ∨ w = 1 ∨ w = 2 ∨ w = 3 ∨ (w < 0 ∨ 3 < w) := by omega
  rcases hsw1 with hsw | hsw | hsw | hsw | hsw
  · skip
    refine zV_tswIn C 32 dX8_count_1 (by omega) (by omega) (by omega) (by rw [hsw]; rfl) (by decide) ?_
    refine zV_aload_n (i := 0) (n := 33) C dX8_count_32 rfl rfl rfl ?_
    refine zV_getP (f := 0) (n := 36) C zk7 fX8_10 dX8_count_33 zs_cls rfl (by decide) rfl ?_
    refine zV_getI (f := 2) (fi := 2) (n := 39) C zk0 fX8_206 dX8_count_36 (zs_car (by omega)) rfl (by decide) rfl rfl ?_
    rw [zc_cnt]
    exact zV_ireturn C hr hlk dX8_count_39 (by first | exact congrArg (fun z => some (Value.int (zi z))) (zif_t (by omega) (zif_t (by omega) rfl)) | exact congrArg (fun z => some (Value.int (zi z))) (zif_t (by omega) (zif_f (by omega) (zif_t (by omega) rfl))) | exact congrArg (fun z => some (Value.int (zi z))) (zif_t (by omega) (zif_f (by omega) (zif_f (by omega) (zif_t (by omega) rfl)))) | exact congrArg (fun z => some (Value.int (zi z))) (zif_t (by omega) (zif_f (by omega) (zif_f (by omega) (zif_f (by omega) rfl)))) | exact congrArg (fun z => some (Value.int (zi z))) (zif_f (by omega) rfl)) (by first | exact zif_t (by omega) (rfl) | exact zif_f (by omega) rfl)
  · skip
    refine zV_tswIn C 40 dX8_count_1 (by omega) (by omega) (by omega) (by rw [hsw]; rfl) (by decide) ?_
    refine zV_aload_n (i := 0) (n := 41) C dX8_count_40 rfl rfl rfl ?_
    refine zV_getP (f := 3) (n := 44) C zk7 fX8_25 dX8_count_41 zs_cls rfl (by decide) rfl ?_
    refine zV_getP (f := 0) (n := 47) C zk1 fX8_209 dX8_count_44 zs_txt rfl (by decide) rfl ?_
    refine zV_getI (f := 1) (fi := 1) (n := 50) C zk5 fX8_213 dX8_count_47 zs_tape rfl (by decide) rfl rfl ?_
    exact zV_ireturn C hr hlk dX8_count_50 (by first | exact congrArg (fun z => some (Value.int (zi z))) (zif_t (by omega) (zif_t (by omega) rfl)) | exact congrArg (fun z => some (Value.int (zi z))) (zif_t (by omega) (zif_f (by omega) (zif_t (by omega) rfl))) | exact congrArg (fun z => some (Value.int (zi z))) (zif_t (by omega) (zif_f (by omega) (zif_f (by omega) (zif_t (by omega) rfl)))) | exact congrArg (fun z => some (Value.int (zi z))) (zif_t (by omega) (zif_f (by omega) (zif_f (by omega) (zif_f (by omega) rfl)))) | exact congrArg (fun z => some (Value.int (zi z))) (zif_f (by omega) rfl)) (by first | exact zif_t (by omega) (rfl) | exact zif_f (by omega) rfl)
  · skip
    refine zV_tswIn C 51 dX8_count_1 (by omega) (by omega) (by omega) (by rw [hsw]; rfl) (by decide) ?_
    refine zV_aload_n (i := 0) (n := 52) C dX8_count_51 rfl rfl rfl ?_
    refine zV_getP (f := 0) (n := 55) C zk7 fX8_10 dX8_count_52 zs_cls rfl (by decide) rfl ?_
    refine zV_callV0u (n := 58) C zk0 jX0_sitting lX8_152 (c_sitting (d := d) (by omega) I) dX8_count_55 (zs_car (by omega)) rfl (Nat.le_of_ble_eq_true rfl) (zfit_of (by omega) (by decide)) ⟨Nat.le_refl _, Nat.le_refl _⟩ rfl ?_
    refine zV_callS1u (n := 61) C jJ6_bitCount_0f7a4 lX8_181 (c_bitCount (d := d) (by omega)) dX8_count_58 (Nat.le_of_ble_eq_true rfl) (zfit_of (by omega) (by decide)) ⟨Nat.le_refl _, Nat.le_refl _⟩ rfl ?_
    exact zV_ireturn C hr hlk dX8_count_61 (by first | exact congrArg (fun z => some (Value.int (zi z))) (zif_t (by omega) (zif_t (by omega) rfl)) | exact congrArg (fun z => some (Value.int (zi z))) (zif_t (by omega) (zif_f (by omega) (zif_t (by omega) rfl))) | exact congrArg (fun z => some (Value.int (zi z))) (zif_t (by omega) (zif_f (by omega) (zif_f (by omega) (zif_t (by omega) rfl)))) | exact congrArg (fun z => some (Value.int (zi z))) (zif_t (by omega) (zif_f (by omega) (zif_f (by omega) (zif_f (by omega) rfl)))) | exact congrArg (fun z => some (Value.int (zi z))) (zif_f (by omega) rfl)) (by first | exact zif_t (by omega) (rfl) | exact zif_f (by omega) rfl)
  · skip
    refine zV_tswIn C 62 dX8_count_1 (by omega) (by omega) (by omega) (by rw [hsw]; rfl) (by decide) ?_
    refine zV_aload_n (i := 0) (n := 63) C dX8_count_62 rfl rfl rfl ?_
    refine zV_getP (f := 0) (n := 66) C zk7 fX8_10 dX8_count_63 zs_cls rfl (by decide) rfl ?_
    refine zV_callV0u (n := 69) C zk0 jX0_wears lX8_265 (c_wears (d := d) (by omega)) dX8_count_66 (zs_car (by omega)) rfl (Nat.le_of_ble_eq_true rfl) (zfit_of (by omega) (by decide)) ⟨Nat.le_refl _, Nat.le_refl _⟩ rfl ?_
    exact zV_ireturn C hr hlk dX8_count_69 (by first | exact congrArg (fun z => some (Value.int (zi z))) (zif_t (by omega) (zif_t (by omega) rfl)) | exact congrArg (fun z => some (Value.int (zi z))) (zif_t (by omega) (zif_f (by omega) (zif_t (by omega) rfl))) | exact congrArg (fun z => some (Value.int (zi z))) (zif_t (by omega) (zif_f (by omega) (zif_f (by omega) (zif_t (by omega) rfl)))) | exact congrArg (fun z => some (Value.int (zi z))) (zif_t (by omega) (zif_f (by omega) (zif_f (by omega) (zif_f (by omega) rfl)))) | exact congrArg (fun z => some (Value.int (zi z))) (zif_f (by omega) rfl)) (by first | exact zif_t (by omega) (rfl) | exact zif_f (by omega) rfl)
  · skip
    refine zV_tswOut C 70 dX8_count_1 (by omega) (by omega) (by decide) ?_
    refine zV_aload_n (i := 0) (n := 71) C dX8_count_70 rfl rfl rfl ?_
    refine zV_iconst (n := 72) C dX8_count_71 rfl ?_
    refine zV_callV1u (n := 75) C zk7 jX8_tell lX8_61 (c_tell (d := d) (f := 0) (code := -1000000001) (by decide) (by decide)) dX8_count_72 zs_cls rfl (Nat.le_of_ble_eq_true rfl) (zfit_of (by omega) (by decide)) ⟨Nat.le_refl _, Nat.le_refl _⟩ rfl ?_
    exact zV_ireturn C hr hlk dX8_count_75 (by first | exact congrArg (fun z => some (Value.int (zi z))) (zif_t (by omega) (zif_t (by omega) rfl)) | exact congrArg (fun z => some (Value.int (zi z))) (zif_t (by omega) (zif_f (by omega) (zif_t (by omega) rfl))) | exact congrArg (fun z => some (Value.int (zi z))) (zif_t (by omega) (zif_f (by omega) (zif_f (by omega) (zif_t (by omega) rfl)))) | exact congrArg (fun z => some (Value.int (zi z))) (zif_t (by omega) (zif_f (by omega) (zif_f (by omega) (zif_f (by omega) rfl)))) | exact congrArg (fun z => some (Value.int (zi z))) (zif_f (by omega) rfl)) (by first | exact zif_t (by omega) (rfl) | exact zif_f (by omega) rfl)

set_option maxRecDepth 100000 in
set_option maxHeartbeats 4000000 in
theorem c_quick {Γ : zC} {l : Launch} {d : Nat} {μ : zMem} {S : Int → Int} {N : Int} (I : rInv N S) {x : Int} (hx : -2147483648 ≤ x ∧ x ≤ 2147483647) : zRet Γ l (d + 4) qX8_quick [.ref (za Γ 4 0), .int (zi x)] (zcar μ 0 S) (some (.int (zi (if rWS S x = 0 then rQuick S x else rWS S x)))) (if rWS S x = 0 then (zcar μ 0 S) else zset (zcar μ 0 S) 4 17 (rFind ((zcar μ 0 S) 4 17) (rWS S x))) := by
  refine zRet.mk 1 [.ref (za Γ 4 0), .int (zi x), .null] RX8 rfl (by decide +kernel) (Nat.le_of_ble_eq_true rfl) rfl ?_
  intro p e s m below meth c C hr hlk
  have h0 := I.1
  have h1 := I.2.1
  have h2 := I.2.2.1
  have h3 := I.2.2.2.1
  have ha := rAt_rg S x
  refine zV_aload_n (i := 0) (n := 1) C dX8_quick_0 rfl rfl rfl ?_
  refine zV_getP (f := 0) (n := 4) C zk7 fX8_10 dX8_quick_1 zs_cls rfl (by decide) rfl ?_
  refine zV_iload_n (i := 1) (n := 5) C dX8_quick_4 rfl rfl rfl ?_
  refine zV_callV1u (n := 8) C zk0 jX0_has lX8_89 (c_has (d := d) (by omega) I (by omega)) dX8_quick_5 (zs_car (by omega)) rfl (Nat.le_of_ble_eq_true rfl) (zfit_of (by omega) (by decide)) ⟨Nat.le_refl _, Nat.le_refl _⟩ rfl ?_
  refine zV_if_ne (n := 11) C 17 dX8_quick_8 (by decide) (by first | omega | exact zb_rg) rfl (fun h8 => ?_) (fun h8 => ?_)
  · skip
    simp only [zb_eq0, Decidable.not_not] at h8
    refine zV_aload_n (i := 0) (n := 18) C dX8_quick_17 rfl rfl rfl ?_
    refine zV_getP (f := 0) (n := 21) C zk7 fX8_10 dX8_quick_18 zs_cls rfl (by decide) rfl ?_
    refine zV_getP (f := 1) (n := 24) C zk0 fX8_92 dX8_quick_21 (zs_car (by omega)) rfl (by decide) rfl ?_
    refine zV_iload_n (i := 1) (n := 25) C dX8_quick_24 rfl rfl rfl ?_
    refine zV_aald (n := 26) C dX8_quick_25 (zs_carC (by omega)) (by first | omega | exact zb_rg) (by decide) (by decide) rfl ?_
    refine zV_callV0u (n := 29) C zk2 jX2_sits lX8_124 (c_kid_sits (d := d) (by omega) I (by omega)) dX8_quick_26 (zs_child (by omega) (by omega)) rfl (Nat.le_of_ble_eq_true rfl) (zfit_of (by omega) (by decide)) ⟨Nat.le_refl _, Nat.le_refl _⟩ rfl ?_
    refine zV_if_eq (n := 32) C 38 dX8_quick_29 (by decide) (by first | omega | exact zb_rg) rfl (fun h29 => ?_) (fun h29 => ?_)
    · skip
      simp only [zb_eq0, Decidable.not_not] at h29
      refine zV_aload_n (i := 0) (n := 39) C dX8_quick_38 rfl rfl rfl ?_
      refine zV_getP (f := 0) (n := 42) C zk7 fX8_10 dX8_quick_39 zs_cls rfl (by decide) rfl ?_
      refine zV_iload_n (i := 1) (n := 43) C dX8_quick_42 rfl rfl rfl ?_
      refine zV_callV1u (n := 46) C zk0 jX0_quickestSeat lX8_172 (c_quickestSeat (d := d) (by omega) I (by omega)) dX8_quick_43 (zs_car (by omega)) rfl (Nat.le_of_ble_eq_true rfl) (zfit_of (by omega) (by decide)) ⟨Nat.le_refl _, Nat.le_refl _⟩ rfl ?_
      refine zS_istore_n_3_2 (n := 47) C dX8_quick_46 rfl rfl ?_
      have hq := rQuick_none (S := S) (x := x)
      refine zV_iload_n (i := 2) (n := 48) C dX8_quick_47 rfl rfl rfl ?_
      refine zV_iconst (n := 49) C dX8_quick_48 rfl ?_
      refine zV_icmp_ne (n := 52) C 60 dX8_quick_49 (by decide) (by first | omega | exact zb_rg) (by first | omega | exact zb_rg) rfl (fun h49 => ?_) (fun h49 => ?_)
      · skip
        refine zV_iload_n (i := 2) (n := 61) C dX8_quick_60 rfl rfl rfl ?_
        exact zV_ireturn C hr hlk dX8_quick_61 (by first | exact congrArg (fun z => some (Value.int (zi z))) (by rw [show rWS S x = -1000000004 from by unfold rWS; rw [if_pos (show rCh S x from by omega), if_neg (by omega)]; exact if_pos (by omega)]; rfl) | exact congrArg (fun z => some (Value.int (zi z))) (zif_t (by unfold rWS; rw [if_pos (show rCh S x from by omega), if_neg (by omega)]; exact if_neg (by omega)) rfl)) (by first | exact (by rw [show rWS S x = -1000000004 from by unfold rWS; rw [if_pos (show rCh S x from by omega), if_neg (by omega)]; exact if_pos (by omega)]; rfl) | exact zif_t (by unfold rWS; rw [if_pos (show rCh S x from by omega), if_neg (by omega)]; exact if_neg (by omega)) rfl)
      · skip
        refine zV_aload_n (i := 0) (n := 53) C dX8_quick_52 rfl rfl rfl ?_
        refine zV_iconst (n := 54) C dX8_quick_53 rfl ?_
        refine zV_callV1u (n := 57) C zk7 jX8_tell lX8_61 (c_tell (d := d) (f := 3) (code := -1000000004) (by decide) (by decide)) dX8_quick_54 zs_cls rfl (Nat.le_of_ble_eq_true rfl) (zfit_of (by omega) (by decide)) ⟨Nat.le_refl _, Nat.le_refl _⟩ rfl ?_
        refine zV_goto C 61 dX8_quick_57 (by decide) ?_
        exact zV_ireturn C hr hlk dX8_quick_61 (by first | exact congrArg (fun z => some (Value.int (zi z))) (by rw [show rWS S x = -1000000004 from by unfold rWS; rw [if_pos (show rCh S x from by omega), if_neg (by omega)]; exact if_pos (by omega)]; rfl) | exact congrArg (fun z => some (Value.int (zi z))) (zif_t (by unfold rWS; rw [if_pos (show rCh S x from by omega), if_neg (by omega)]; exact if_neg (by omega)) rfl)) (by first | exact (by rw [show rWS S x = -1000000004 from by unfold rWS; rw [if_pos (show rCh S x from by omega), if_neg (by omega)]; exact if_pos (by omega)]; rfl) | exact zif_t (by unfold rWS; rw [if_pos (show rCh S x from by omega), if_neg (by omega)]; exact if_neg (by omega)) rfl)
    · skip
      simp only [zb_eq0, Decidable.not_not] at h29
      refine zV_aload_n (i := 0) (n := 33) C dX8_quick_32 rfl rfl rfl ?_
      refine zV_iconst (n := 34) C dX8_quick_33 rfl ?_
      refine zV_callV1u (n := 37) C zk7 jX8_tell lX8_61 (c_tell (d := d) (f := 4) (code := -1000000005) (by decide) (by decide)) dX8_quick_34 zs_cls rfl (Nat.le_of_ble_eq_true rfl) (zfit_of (by omega) (by decide)) ⟨Nat.le_refl _, Nat.le_refl _⟩ rfl ?_
      exact zV_ireturn C hr hlk dX8_quick_37 (by exact congrArg (fun z => some (Value.int (zi z))) (by rw [show rWS S x = -1000000005 from by unfold rWS; rw [if_pos (by omega)]; exact if_pos (by omega)]; rfl)) (by rw [show rWS S x = -1000000005 from by unfold rWS; rw [if_pos (by omega)]; exact if_pos (by omega)]; rfl)
  · skip
    simp only [zb_eq0, Decidable.not_not] at h8
    refine zV_aload_n (i := 0) (n := 12) C dX8_quick_11 rfl rfl rfl ?_
    refine zV_iconst (n := 13) C dX8_quick_12 rfl ?_
    refine zV_callV1u (n := 16) C zk7 jX8_tell lX8_61 (c_tell (d := d) (f := 0) (code := -1000000001) (by decide) (by decide)) dX8_quick_13 zs_cls rfl (Nat.le_of_ble_eq_true rfl) (zfit_of (by omega) (by decide)) ⟨Nat.le_refl _, Nat.le_refl _⟩ rfl ?_
    exact zV_ireturn C hr hlk dX8_quick_16 (by exact congrArg (fun z => some (Value.int (zi z))) (by rw [show rWS S x = -1000000001 from by unfold rWS; exact if_neg (by omega)]; rfl)) (by rw [show rWS S x = -1000000001 from by unfold rWS; exact if_neg (by omega)]; rfl)

set_option maxRecDepth 100000 in
set_option maxHeartbeats 4000000 in
theorem c_safe {Γ : zC} {l : Launch} {d : Nat} {μ : zMem} {S : Int → Int} {N : Int} (I : rInv N S) {x : Int} (hx : -2147483648 ≤ x ∧ x ≤ 2147483647) : zRet Γ l (d + 3) qX8_safe [.ref (za Γ 4 0), .int (zi x)] (zcar μ 0 S) (some (.int (zi (if rWS S x = 0 then rSafe S x else rWS S x)))) (if rWS S x = 0 then (zcar μ 0 S) else zset (zcar μ 0 S) 4 17 (rFind ((zcar μ 0 S) 4 17) (rWS S x))) := by
  refine zRet.mk 1 [.ref (za Γ 4 0), .int (zi x), .null] RX8 rfl (by decide +kernel) (Nat.le_of_ble_eq_true rfl) rfl ?_
  intro p e s m below meth c C hr hlk
  have h0 := I.1
  have h1 := I.2.1
  have h2 := I.2.2.1
  have h3 := I.2.2.2.1
  have ha := rAt_rg S x
  refine zV_aload_n (i := 0) (n := 1) C dX8_safe_0 rfl rfl rfl ?_
  refine zV_getP (f := 0) (n := 4) C zk7 fX8_10 dX8_safe_1 zs_cls rfl (by decide) rfl ?_
  refine zV_iload_n (i := 1) (n := 5) C dX8_safe_4 rfl rfl rfl ?_
  refine zV_callV1u (n := 8) C zk0 jX0_has lX8_89 (c_has (d := d) (by omega) I (by omega)) dX8_safe_5 (zs_car (by omega)) rfl (Nat.le_of_ble_eq_true rfl) (zfit_of (by omega) (by decide)) ⟨Nat.le_refl _, Nat.le_refl _⟩ rfl ?_
  refine zV_if_ne (n := 11) C 17 dX8_safe_8 (by decide) (by first | omega | exact zb_rg) rfl (fun h8 => ?_) (fun h8 => ?_)
  · skip
    simp only [zb_eq0, Decidable.not_not] at h8
    refine zV_aload_n (i := 0) (n := 18) C dX8_safe_17 rfl rfl rfl ?_
    refine zV_getP (f := 0) (n := 21) C zk7 fX8_10 dX8_safe_18 zs_cls rfl (by decide) rfl ?_
    refine zV_getP (f := 1) (n := 24) C zk0 fX8_92 dX8_safe_21 (zs_car (by omega)) rfl (by decide) rfl ?_
    refine zV_iload_n (i := 1) (n := 25) C dX8_safe_24 rfl rfl rfl ?_
    refine zV_aald (n := 26) C dX8_safe_25 (zs_carC (by omega)) (by first | omega | exact zb_rg) (by decide) (by decide) rfl ?_
    refine zV_callV0u (n := 29) C zk2 jX2_sits lX8_124 (c_kid_sits (d := d) (by omega) I (by omega)) dX8_safe_26 (zs_child (by omega) (by omega)) rfl (Nat.le_of_ble_eq_true rfl) (zfit_of (by omega) (by decide)) ⟨Nat.le_refl _, Nat.le_refl _⟩ rfl ?_
    refine zV_if_eq (n := 32) C 38 dX8_safe_29 (by decide) (by first | omega | exact zb_rg) rfl (fun h29 => ?_) (fun h29 => ?_)
    · skip
      simp only [zb_eq0, Decidable.not_not] at h29
      refine zV_aload_n (i := 0) (n := 39) C dX8_safe_38 rfl rfl rfl ?_
      refine zV_getP (f := 0) (n := 42) C zk7 fX8_10 dX8_safe_39 zs_cls rfl (by decide) rfl ?_
      refine zV_iload_n (i := 1) (n := 43) C dX8_safe_42 rfl rfl rfl ?_
      refine zV_callV1u (n := 46) C zk0 jX0_snuggestSeat lX8_175 (c_snuggestSeat (d := d) (by omega) I (by omega)) dX8_safe_43 (zs_car (by omega)) rfl (Nat.le_of_ble_eq_true rfl) (zfit_of (by omega) (by decide)) ⟨Nat.le_refl _, Nat.le_refl _⟩ rfl ?_
      refine zS_istore_n_3_2 (n := 47) C dX8_safe_46 rfl rfl ?_
      have hq := rSafe_none (S := S) (x := x)
      refine zV_iload_n (i := 2) (n := 48) C dX8_safe_47 rfl rfl rfl ?_
      refine zV_iconst (n := 49) C dX8_safe_48 rfl ?_
      refine zV_icmp_ne (n := 52) C 60 dX8_safe_49 (by decide) (by first | omega | exact zb_rg) (by first | omega | exact zb_rg) rfl (fun h49 => ?_) (fun h49 => ?_)
      · skip
        refine zV_iload_n (i := 2) (n := 61) C dX8_safe_60 rfl rfl rfl ?_
        exact zV_ireturn C hr hlk dX8_safe_61 (by first | exact congrArg (fun z => some (Value.int (zi z))) (by rw [show rWS S x = -1000000004 from by unfold rWS; rw [if_pos (show rCh S x from by omega), if_neg (by omega)]; exact if_pos (by omega)]; rfl) | exact congrArg (fun z => some (Value.int (zi z))) (zif_t (by unfold rWS; rw [if_pos (show rCh S x from by omega), if_neg (by omega)]; exact if_neg (by omega)) rfl)) (by first | exact (by rw [show rWS S x = -1000000004 from by unfold rWS; rw [if_pos (show rCh S x from by omega), if_neg (by omega)]; exact if_pos (by omega)]; rfl) | exact zif_t (by unfold rWS; rw [if_pos (show rCh S x from by omega), if_neg (by omega)]; exact if_neg (by omega)) rfl)
      · skip
        refine zV_aload_n (i := 0) (n := 53) C dX8_safe_52 rfl rfl rfl ?_
        refine zV_iconst (n := 54) C dX8_safe_53 rfl ?_
        refine zV_callV1u (n := 57) C zk7 jX8_tell lX8_61 (c_tell (d := d) (f := 3) (code := -1000000004) (by decide) (by decide)) dX8_safe_54 zs_cls rfl (Nat.le_of_ble_eq_true rfl) (zfit_of (by omega) (by decide)) ⟨Nat.le_refl _, Nat.le_refl _⟩ rfl ?_
        refine zV_goto C 61 dX8_safe_57 (by decide) ?_
        exact zV_ireturn C hr hlk dX8_safe_61 (by first | exact congrArg (fun z => some (Value.int (zi z))) (by rw [show rWS S x = -1000000004 from by unfold rWS; rw [if_pos (show rCh S x from by omega), if_neg (by omega)]; exact if_pos (by omega)]; rfl) | exact congrArg (fun z => some (Value.int (zi z))) (zif_t (by unfold rWS; rw [if_pos (show rCh S x from by omega), if_neg (by omega)]; exact if_neg (by omega)) rfl)) (by first | exact (by rw [show rWS S x = -1000000004 from by unfold rWS; rw [if_pos (show rCh S x from by omega), if_neg (by omega)]; exact if_pos (by omega)]; rfl) | exact zif_t (by unfold rWS; rw [if_pos (show rCh S x from by omega), if_neg (by omega)]; exact if_neg (by omega)) rfl)
    · skip
      simp only [zb_eq0, Decidable.not_not] at h29
      refine zV_aload_n (i := 0) (n := 33) C dX8_safe_32 rfl rfl rfl ?_
      refine zV_iconst (n := 34) C dX8_safe_33 rfl ?_
      refine zV_callV1u (n := 37) C zk7 jX8_tell lX8_61 (c_tell (d := d) (f := 4) (code := -1000000005) (by decide) (by decide)) dX8_safe_34 zs_cls rfl (Nat.le_of_ble_eq_true rfl) (zfit_of (by omega) (by decide)) ⟨Nat.le_refl _, Nat.le_refl _⟩ rfl ?_
      exact zV_ireturn C hr hlk dX8_safe_37 (by exact congrArg (fun z => some (Value.int (zi z))) (by rw [show rWS S x = -1000000005 from by unfold rWS; rw [if_pos (by omega)]; exact if_pos (by omega)]; rfl)) (by rw [show rWS S x = -1000000005 from by unfold rWS; rw [if_pos (by omega)]; exact if_pos (by omega)]; rfl)
  · skip
    simp only [zb_eq0, Decidable.not_not] at h8
    refine zV_aload_n (i := 0) (n := 12) C dX8_safe_11 rfl rfl rfl ?_
    refine zV_iconst (n := 13) C dX8_safe_12 rfl ?_
    refine zV_callV1u (n := 16) C zk7 jX8_tell lX8_61 (c_tell (d := d) (f := 0) (code := -1000000001) (by decide) (by decide)) dX8_safe_13 zs_cls rfl (Nat.le_of_ble_eq_true rfl) (zfit_of (by omega) (by decide)) ⟨Nat.le_refl _, Nat.le_refl _⟩ rfl ?_
    exact zV_ireturn C hr hlk dX8_safe_16 (by exact congrArg (fun z => some (Value.int (zi z))) (by rw [show rWS S x = -1000000001 from by unfold rWS; exact if_neg (by omega)]; rfl)) (by rw [show rWS S x = -1000000001 from by unfold rWS; exact if_neg (by omega)]; rfl)

