/-! the class: seats, children, kinds (laid by wip/whole/gen/cls1.py) -/
set_option maxRecDepth 100000 in
set_option maxHeartbeats 4000000 in
theorem c_isSeat {Γ : zC} {l : Launch} {d : Nat} {μ : zMem} {v : Int} (hv : -2147483648 ≤ v ∧ v ≤ 2147483647) : zRet Γ l (d + 0) qX8_isSeat [.int (zi v)] μ (some (.int (zi (zb (0 ≤ v ∧ v ≤ 2))))) μ := by
  refine zRet.mk 0 [.int (zi v)] RX8 rfl (by decide +kernel) (Nat.le_of_ble_eq_true rfl) rfl ?_
  intro p e s m below meth c C hr hlk
  refine zV_iload_n (i := 0) (n := 1) C dX8_isSeat_0 rfl rfl rfl ?_
  refine zV_if_lt (n := 4) C 13 dX8_isSeat_1 (by decide) (by first | omega | exact zb_rg) rfl (fun h1 => ?_) (fun h1 => ?_)
  · skip
    refine zV_iconst (n := 14) C dX8_isSeat_13 rfl ?_
    exact zV_zreturn C hr hlk dX8_isSeat_14 (by first | rfl | exact (zi_z zb_01).1 | exact (zi_z (by omega)).1) (by first | exact (congrArg (fun z => some (Value.int (zi z))) (zb_t (by omega)).symm) | exact (congrArg (fun z => some (Value.int (zi z))) (zb_f (by omega)).symm)) (by rfl)
  · skip
    refine zV_iload_n (i := 0) (n := 5) C dX8_isSeat_4 rfl rfl rfl ?_
    refine zV_iconst (n := 6) C dX8_isSeat_5 rfl ?_
    refine zV_icmp_ge (n := 9) C 13 dX8_isSeat_6 (by decide) (by first | omega | exact zb_rg) (by first | omega | exact zb_rg) rfl (fun h6 => ?_) (fun h6 => ?_)
    · skip
      refine zV_iconst (n := 14) C dX8_isSeat_13 rfl ?_
      exact zV_zreturn C hr hlk dX8_isSeat_14 (by first | rfl | exact (zi_z zb_01).1 | exact (zi_z (by omega)).1) (by first | exact (congrArg (fun z => some (Value.int (zi z))) (zb_t (by omega)).symm) | exact (congrArg (fun z => some (Value.int (zi z))) (zb_f (by omega)).symm)) (by rfl)
    · skip
      refine zV_iconst (n := 10) C dX8_isSeat_9 rfl ?_
      refine zV_goto C 14 dX8_isSeat_10 (by decide) ?_
      exact zV_zreturn C hr hlk dX8_isSeat_14 (by first | rfl | exact (zi_z zb_01).1 | exact (zi_z (by omega)).1) (by first | exact (congrArg (fun z => some (Value.int (zi z))) (zb_t (by omega)).symm) | exact (congrArg (fun z => some (Value.int (zi z))) (zb_f (by omega)).symm)) (by rfl)

set_option maxRecDepth 100000 in
set_option maxHeartbeats 4000000 in
theorem c_isKind {Γ : zC} {l : Launch} {d : Nat} {μ : zMem} {v : Int} (hv : -2147483648 ≤ v ∧ v ≤ 2147483647) : zRet Γ l (d + 0) qX8_isKind [.int (zi v)] μ (some (.int (zi (zb (0 ≤ v ∧ v ≤ 5))))) μ := by
  refine zRet.mk 0 [.int (zi v)] RX8 rfl (by decide +kernel) (Nat.le_of_ble_eq_true rfl) rfl ?_
  intro p e s m below meth c C hr hlk
  refine zV_iload_n (i := 0) (n := 1) C dX8_isKind_0 rfl rfl rfl ?_
  refine zV_if_lt (n := 4) C 14 dX8_isKind_1 (by decide) (by first | omega | exact zb_rg) rfl (fun h1 => ?_) (fun h1 => ?_)
  · skip
    refine zV_iconst (n := 15) C dX8_isKind_14 rfl ?_
    exact zV_zreturn C hr hlk dX8_isKind_15 (by first | rfl | exact (zi_z zb_01).1 | exact (zi_z (by omega)).1) (by first | exact (congrArg (fun z => some (Value.int (zi z))) (zb_t (by omega)).symm) | exact (congrArg (fun z => some (Value.int (zi z))) (zb_f (by omega)).symm)) (by rfl)
  · skip
    refine zV_iload_n (i := 0) (n := 5) C dX8_isKind_4 rfl rfl rfl ?_
    refine zV_bipush (n := 7) C dX8_isKind_5 (by decide) rfl ?_
    refine zV_icmp_ge (n := 10) C 14 dX8_isKind_7 (by decide) (by first | omega | exact zb_rg) (by first | omega | exact zb_rg) rfl (fun h7 => ?_) (fun h7 => ?_)
    · skip
      refine zV_iconst (n := 15) C dX8_isKind_14 rfl ?_
      exact zV_zreturn C hr hlk dX8_isKind_15 (by first | rfl | exact (zi_z zb_01).1 | exact (zi_z (by omega)).1) (by first | exact (congrArg (fun z => some (Value.int (zi z))) (zb_t (by omega)).symm) | exact (congrArg (fun z => some (Value.int (zi z))) (zb_f (by omega)).symm)) (by rfl)
    · skip
      refine zV_iconst (n := 11) C dX8_isKind_10 rfl ?_
      refine zV_goto C 15 dX8_isKind_11 (by decide) ?_
      exact zV_zreturn C hr hlk dX8_isKind_15 (by first | rfl | exact (zi_z zb_01).1 | exact (zi_z (by omega)).1) (by first | exact (congrArg (fun z => some (Value.int (zi z))) (zb_t (by omega)).symm) | exact (congrArg (fun z => some (Value.int (zi z))) (zb_f (by omega)).symm)) (by rfl)

set_option maxRecDepth 100000 in
set_option maxHeartbeats 4000000 in
theorem c_isSheet {Γ : zC} {l : Launch} {d : Nat} {μ : zMem} {v : Int} (hv : -2147483648 ≤ v ∧ v ≤ 2147483647) : zRet Γ l (d + 0) qX8_isSheet [.int (zi v)] μ (some (.int (zi (zb (0 ≤ v ∧ v ≤ 3))))) μ := by
  refine zRet.mk 0 [.int (zi v)] RX8 rfl (by decide +kernel) (Nat.le_of_ble_eq_true rfl) rfl ?_
  intro p e s m below meth c C hr hlk
  refine zV_iload_n (i := 0) (n := 1) C dX8_isSheet_0 rfl rfl rfl ?_
  refine zV_if_lt (n := 4) C 13 dX8_isSheet_1 (by decide) (by first | omega | exact zb_rg) rfl (fun h1 => ?_) (fun h1 => ?_)
  · skip
    refine zV_iconst (n := 14) C dX8_isSheet_13 rfl ?_
    exact zV_zreturn C hr hlk dX8_isSheet_14 (by first | rfl | exact (zi_z zb_01).1 | exact (zi_z (by omega)).1) (by first | exact (congrArg (fun z => some (Value.int (zi z))) (zb_t (by omega)).symm) | exact (congrArg (fun z => some (Value.int (zi z))) (zb_f (by omega)).symm)) (by rfl)
  · skip
    refine zV_iload_n (i := 0) (n := 5) C dX8_isSheet_4 rfl rfl rfl ?_
    refine zV_iconst (n := 6) C dX8_isSheet_5 rfl ?_
    refine zV_icmp_ge (n := 9) C 13 dX8_isSheet_6 (by decide) (by first | omega | exact zb_rg) (by first | omega | exact zb_rg) rfl (fun h6 => ?_) (fun h6 => ?_)
    · skip
      refine zV_iconst (n := 14) C dX8_isSheet_13 rfl ?_
      exact zV_zreturn C hr hlk dX8_isSheet_14 (by first | rfl | exact (zi_z zb_01).1 | exact (zi_z (by omega)).1) (by first | exact (congrArg (fun z => some (Value.int (zi z))) (zb_t (by omega)).symm) | exact (congrArg (fun z => some (Value.int (zi z))) (zb_f (by omega)).symm)) (by rfl)
    · skip
      refine zV_iconst (n := 10) C dX8_isSheet_9 rfl ?_
      refine zV_goto C 14 dX8_isSheet_10 (by decide) ?_
      exact zV_zreturn C hr hlk dX8_isSheet_14 (by first | rfl | exact (zi_z zb_01).1 | exact (zi_z (by omega)).1) (by first | exact (congrArg (fun z => some (Value.int (zi z))) (zb_t (by omega)).symm) | exact (congrArg (fun z => some (Value.int (zi z))) (zb_f (by omega)).symm)) (by rfl)

set_option maxRecDepth 100000 in
set_option maxHeartbeats 4000000 in
theorem c_seat_isTaken {Γ : zC} {l : Launch} {d : Nat} {μ : zMem} {g : Nat} (hg : g < 4) {S : Int → Int} {N : Int} (I : rInv N S) {k : Int} (hk : 0 ≤ k ∧ k < 3)  : zRet Γ l (d + 0) qX4_isTaken [.ref (za Γ g (3 + k))] (zcar μ g S) (some (.int (zi (zb (rTk S k))))) (zcar μ g S) := by
  refine zRet.mk 0 [.ref (za Γ g (3 + k))] RX4 rfl (by decide +kernel) (Nat.le_of_ble_eq_true rfl) rfl ?_
  intro p e s m below meth c C hr hlk
  have hs := I.2.2.2.2.1 k hk.1 hk.2
  have h0 := I.1
  have h1 := I.2.1
  have h2 := I.2.2.1
  have h3 := I.2.2.2.1
  refine zV_aload_n (i := 0) (n := 1) C dX4_isTaken_0 rfl rfl rfl ?_
  refine zV_getI (f := 4) (fi := 4) (n := 4) C zk3 fX4_24 dX4_isTaken_1 (zs_seat (by omega) (by omega)) rfl (by decide) rfl rfl ?_
  rw [zc_seat (by omega) (by omega)]
  refine zV_iconst (n := 5) C dX4_isTaken_4 rfl ?_
  refine zV_icmp_eq (n := 8) C 12 dX4_isTaken_5 (by decide) (by first | omega | exact zb_rg) (by first | omega | exact zb_rg) rfl (fun h5 => ?_) (fun h5 => ?_)
  · skip
    refine zV_iconst (n := 13) C dX4_isTaken_12 rfl ?_
    exact zV_zreturn C hr hlk dX4_isTaken_13 (by first | rfl | exact (zi_z zb_01).1 | exact (zi_z (by omega)).1) (by first | exact (congrArg (fun z => some (Value.int (zi z))) (zb_t (by omega)).symm) | exact (congrArg (fun z => some (Value.int (zi z))) (zb_f (by omega)).symm)) (by rfl)
  · skip
    refine zV_iconst (n := 9) C dX4_isTaken_8 rfl ?_
    refine zV_goto C 13 dX4_isTaken_9 (by decide) ?_
    exact zV_zreturn C hr hlk dX4_isTaken_13 (by first | rfl | exact (zi_z zb_01).1 | exact (zi_z (by omega)).1) (by first | exact (congrArg (fun z => some (Value.int (zi z))) (zb_t (by omega)).symm) | exact (congrArg (fun z => some (Value.int (zi z))) (zb_f (by omega)).symm)) (by rfl)

set_option maxRecDepth 100000 in
set_option maxHeartbeats 4000000 in
theorem c_seat_get {Γ : zC} {l : Launch} {d : Nat} {μ : zMem} {g : Nat} (hg : g < 4) {S : Int → Int} {N : Int} (I : rInv N S) {k : Int} (hk : 0 ≤ k ∧ k < 3) {w : Int} (hw : 0 ≤ w ∧ w ≤ 4) : zRet Γ l (d + 0) qX4_get [.ref (za Γ g (3 + k)), .int (zi w)] (zcar μ g S) (some (.int (zi (itS S k w)))) (zcar μ g S) := by
  refine zRet.mk 0 [.ref (za Γ g (3 + k)), .int (zi w)] RX4 rfl (by decide +kernel) (Nat.le_of_ble_eq_true rfl) rfl ?_
  intro p e s m below meth c C hr hlk
  have hs := I.2.2.2.2.1 k hk.1 hk.2
  refine zV_iload_n (i := 1) (n := 1) C dX4_get_0 rfl rfl rfl ?_
  have hsw1 : w = 0 ∨ w = 1 ∨ w = 2 ∨ w = 3 ∨ (w < 0 ∨ 3 < w) := by omega
  rcases hsw1 with hsw | hsw | hsw | hsw | hsw
  · skip
    refine zV_tswIn C 32 dX4_get_1 (by omega) (by omega) (by omega) (by rw [hsw]; rfl) (by decide) ?_
    refine zV_aload_n (i := 0) (n := 33) C dX4_get_32 rfl rfl rfl ?_
    refine zV_getI (f := 0) (fi := 0) (n := 36) C zk3 fX4_9 dX4_get_33 (zs_seat (by omega) (by omega)) rfl (by decide) rfl rfl ?_
    rw [zc_seat (by omega) (by omega)]
    exact zV_ireturn C hr hlk dX4_get_36 (by first | rw [hsw] | rw [show w = 4 from by omega]) (by rfl)
  · skip
    refine zV_tswIn C 37 dX4_get_1 (by omega) (by omega) (by omega) (by rw [hsw]; rfl) (by decide) ?_
    refine zV_aload_n (i := 0) (n := 38) C dX4_get_37 rfl rfl rfl ?_
    refine zV_getI (f := 1) (fi := 1) (n := 41) C zk3 fX4_15 dX4_get_38 (zs_seat (by omega) (by omega)) rfl (by decide) rfl rfl ?_
    rw [zc_seat (by omega) (by omega)]
    exact zV_ireturn C hr hlk dX4_get_41 (by first | rw [hsw] | rw [show w = 4 from by omega]) (by rfl)
  · skip
    refine zV_tswIn C 42 dX4_get_1 (by omega) (by omega) (by omega) (by rw [hsw]; rfl) (by decide) ?_
    refine zV_aload_n (i := 0) (n := 43) C dX4_get_42 rfl rfl rfl ?_
    refine zV_getI (f := 2) (fi := 2) (n := 46) C zk3 fX4_18 dX4_get_43 (zs_seat (by omega) (by omega)) rfl (by decide) rfl rfl ?_
    rw [zc_seat (by omega) (by omega)]
    exact zV_ireturn C hr hlk dX4_get_46 (by first | rw [hsw] | rw [show w = 4 from by omega]) (by rfl)
  · skip
    refine zV_tswIn C 47 dX4_get_1 (by omega) (by omega) (by omega) (by rw [hsw]; rfl) (by decide) ?_
    refine zV_aload_n (i := 0) (n := 48) C dX4_get_47 rfl rfl rfl ?_
    refine zV_getI (f := 3) (fi := 3) (n := 51) C zk3 fX4_21 dX4_get_48 (zs_seat (by omega) (by omega)) rfl (by decide) rfl rfl ?_
    rw [zc_seat (by omega) (by omega)]
    exact zV_ireturn C hr hlk dX4_get_51 (by first | rw [hsw] | rw [show w = 4 from by omega]) (by rfl)
  · skip
    refine zV_tswOut C 52 dX4_get_1 (by omega) (by omega) (by decide) ?_
    refine zV_aload_n (i := 0) (n := 53) C dX4_get_52 rfl rfl rfl ?_
    refine zV_getI (f := 4) (fi := 4) (n := 56) C zk3 fX4_24 dX4_get_53 (zs_seat (by omega) (by omega)) rfl (by decide) rfl rfl ?_
    rw [zc_seat (by omega) (by omega)]
    exact zV_ireturn C hr hlk dX4_get_56 (by first | rw [hsw] | rw [show w = 4 from by omega]) (by rfl)

set_option maxRecDepth 100000 in
set_option maxHeartbeats 4000000 in
theorem c_seat_most {Γ : zC} {l : Launch} {d : Nat} {μ : zMem} {w : Int} (hw : 0 ≤ w ∧ w ≤ 2) : zRet Γ l (d + 0) qX4_most [.int (zi w)] μ (some (.int (zi (if w = 0 then 5 else if w = 1 then 9 else 1)))) μ := by
  refine zRet.mk 0 [.int (zi w)] RX4 rfl (by decide +kernel) (Nat.le_of_ble_eq_true rfl) rfl ?_
  intro p e s m below meth c C hr hlk
  refine zV_iload_n (i := 0) (n := 1) C dX4_most_0 rfl rfl rfl ?_
  have hsw1 : w = 0 ∨ w = 1 ∨ (¬ w = 0 ∧ ¬ w = 1) := by omega
  rcases hsw1 with hsw | hsw | hsw
  · skip
    refine zV_lsw (off := 27) C 28 dX4_most_1 (by omega) rfl (by rw [hsw]; first | done | rfl) (by decide) ?_
    refine zV_iconst (n := 29) C dX4_most_28 rfl ?_
    exact zV_ireturn C hr hlk dX4_most_29 (by first | exact congrArg (fun z => some (Value.int (zi z))) (zif_t (by omega) rfl) | exact congrArg (fun z => some (Value.int (zi z))) (zif_f (by omega) (zif_t (by omega) rfl)) | exact congrArg (fun z => some (Value.int (zi z))) (zif_f (by omega) (zif_f (by omega) rfl))) (by rfl)
  · skip
    refine zV_lsw (off := 29) C 30 dX4_most_1 (by omega) rfl (by rw [hsw]; first | done | rfl) (by decide) ?_
    refine zV_bipush (n := 32) C dX4_most_30 (by decide) rfl ?_
    exact zV_ireturn C hr hlk dX4_most_32 (by first | exact congrArg (fun z => some (Value.int (zi z))) (zif_t (by omega) rfl) | exact congrArg (fun z => some (Value.int (zi z))) (zif_f (by omega) (zif_t (by omega) rfl)) | exact congrArg (fun z => some (Value.int (zi z))) (zif_f (by omega) (zif_f (by omega) rfl))) (by rfl)
  · skip
    refine zV_lsw (off := 32) C 33 dX4_most_1 (by omega) rfl (by rw [Op.lookupswitch.offset_cons, if_neg (fun q => hsw.1 q.symm), Op.lookupswitch.offset_cons, if_neg (fun q => hsw.2 q.symm)]; rfl) (by decide) ?_
    refine zV_iconst (n := 34) C dX4_most_33 rfl ?_
    exact zV_ireturn C hr hlk dX4_most_34 (by first | exact congrArg (fun z => some (Value.int (zi z))) (zif_t (by omega) rfl) | exact congrArg (fun z => some (Value.int (zi z))) (zif_f (by omega) (zif_t (by omega) rfl)) | exact congrArg (fun z => some (Value.int (zi z))) (zif_f (by omega) (zif_f (by omega) rfl))) (by rfl)

set_option maxRecDepth 100000 in
set_option maxHeartbeats 4000000 in
theorem c_seat_put {Γ : zC} {l : Launch} {d : Nat} {μ : zMem} {g : Nat} (hg : g < 4) {S : Int → Int} {k : Int} (hk : 0 ≤ k ∧ k < 3) {w v : Int} (hw : 0 ≤ w ∧ w ≤ 2) : zRet Γ l (d + 0) qX4_put [.ref (za Γ g (3 + k)), .int (zi w), .int (zi v)] (zcar μ g S) none (zcar μ g (zfu S (4 + 5 * k + w) v)) := by
  refine zRet.mk 0 [.ref (za Γ g (3 + k)), .int (zi w), .int (zi v)] RX4 rfl (by decide +kernel) (Nat.le_of_ble_eq_true rfl) rfl ?_
  intro p e s m below meth c C hr hlk
  refine zV_iload_n (i := 1) (n := 1) C dX4_put_0 rfl rfl rfl ?_
  have hsw1 : w = 0 ∨ w = 1 ∨ (¬ w = 0 ∧ ¬ w = 1) := by omega
  rcases hsw1 with hsw | hsw | hsw
  · skip
    refine zV_lsw (off := 27) C 28 dX4_put_1 (by omega) rfl (by rw [hsw]; first | done | rfl) (by decide) ?_
    refine zV_aload_n (i := 0) (n := 29) C dX4_put_28 rfl rfl rfl ?_
    refine zV_iload_n (i := 2) (n := 30) C dX4_put_29 rfl rfl rfl ?_
    refine zV_putI (f := 0) (fi := 0) (n := 33) C zk3 fX4_9 dX4_put_30 (zs_seat (by omega) (by omega)) rfl (by decide) rfl rfl rfl rfl ?_
    rw [zcu_seat (by omega) (by omega)]
    refine zV_goto C 49 dX4_put_33 (by decide) ?_
    exact zV_return C hr hlk dX4_put_49 (by rfl) (by first | rw [hsw] | rw [show w = 2 from by omega])
  · skip
    refine zV_lsw (off := 35) C 36 dX4_put_1 (by omega) rfl (by rw [hsw]; first | done | rfl) (by decide) ?_
    refine zV_aload_n (i := 0) (n := 37) C dX4_put_36 rfl rfl rfl ?_
    refine zV_iload_n (i := 2) (n := 38) C dX4_put_37 rfl rfl rfl ?_
    refine zV_putI (f := 1) (fi := 1) (n := 41) C zk3 fX4_15 dX4_put_38 (zs_seat (by omega) (by omega)) rfl (by decide) rfl rfl rfl rfl ?_
    rw [zcu_seat (by omega) (by omega)]
    refine zV_goto C 49 dX4_put_41 (by decide) ?_
    exact zV_return C hr hlk dX4_put_49 (by rfl) (by first | rw [hsw] | rw [show w = 2 from by omega])
  · skip
    refine zV_lsw (off := 43) C 44 dX4_put_1 (by omega) rfl (by rw [Op.lookupswitch.offset_cons, if_neg (fun q => hsw.1 q.symm), Op.lookupswitch.offset_cons, if_neg (fun q => hsw.2 q.symm)]; rfl) (by decide) ?_
    refine zV_aload_n (i := 0) (n := 45) C dX4_put_44 rfl rfl rfl ?_
    refine zV_iload_n (i := 2) (n := 46) C dX4_put_45 rfl rfl rfl ?_
    refine zV_putI (f := 2) (fi := 2) (n := 49) C zk3 fX4_18 dX4_put_46 (zs_seat (by omega) (by omega)) rfl (by decide) rfl rfl rfl rfl ?_
    rw [zcu_seat (by omega) (by omega)]
    exact zV_return C hr hlk dX4_put_49 (by rfl) (by first | rw [hsw] | rw [show w = 2 from by omega])

set_option maxRecDepth 100000 in
set_option maxHeartbeats 4000000 in
theorem c_kid_sits {Γ : zC} {l : Launch} {d : Nat} {μ : zMem} {g : Nat} (hg : g < 4) {S : Int → Int} {N : Int} (I : rInv N S) {x : Int} (hx : 0 ≤ x ∧ x < S 0)  : zRet Γ l (d + 0) qX2_sits [.ref (za Γ g (6 + x))] (zcar μ g S) (some (.int (zi (zb (0 ≤ rAt S x))))) (zcar μ g S) := by
  refine zRet.mk 0 [.ref (za Γ g (6 + x))] RX2 rfl (by decide +kernel) (Nat.le_of_ble_eq_true rfl) rfl ?_
  intro p e s m below meth c C hr hlk
  have h0 := I.1
  have h1 := I.2.1
  have h2 := I.2.2.1
  have h3 := I.2.2.2.1
  have ha := rAt_rg S x
  refine zV_aload_n (i := 0) (n := 1) C dX2_sits_0 rfl rfl rfl ?_
  refine zV_getI (f := 6) (fi := 6) (n := 4) C zk2 fX2_30 dX2_sits_1 (zs_child (by omega) (by omega)) rfl (by decide) rfl rfl ?_
  rw [zc_place (by omega)]
  refine zV_iconst (n := 5) C dX2_sits_4 rfl ?_
  refine zV_icmp_eq (n := 8) C 12 dX2_sits_5 (by decide) (by first | omega | exact zb_rg) (by first | omega | exact zb_rg) rfl (fun h5 => ?_) (fun h5 => ?_)
  · skip
    refine zV_iconst (n := 13) C dX2_sits_12 rfl ?_
    exact zV_zreturn C hr hlk dX2_sits_13 (by first | rfl | exact (zi_z zb_01).1 | exact (zi_z (by omega)).1) (by first | exact (congrArg (fun z => some (Value.int (zi z))) (zb_t (by omega)).symm) | exact (congrArg (fun z => some (Value.int (zi z))) (zb_f (by omega)).symm)) (by rfl)
  · skip
    refine zV_iconst (n := 9) C dX2_sits_8 rfl ?_
    refine zV_goto C 13 dX2_sits_9 (by decide) ?_
    exact zV_zreturn C hr hlk dX2_sits_13 (by first | rfl | exact (zi_z zb_01).1 | exact (zi_z (by omega)).1) (by first | exact (congrArg (fun z => some (Value.int (zi z))) (zb_t (by omega)).symm) | exact (congrArg (fun z => some (Value.int (zi z))) (zb_f (by omega)).symm)) (by rfl)

set_option maxRecDepth 100000 in
set_option maxHeartbeats 4000000 in
theorem c_kid_get {Γ : zC} {l : Launch} {d : Nat} {μ : zMem} {g : Nat} (hg : g < 4) {S : Int → Int} {N : Int} (I : rInv N S) {x : Int} (hx : 0 ≤ x ∧ x < S 0) {w : Int} (hw : 0 ≤ w ∧ w ≤ 6) : zRet Γ l (d + 0) qX2_get [.ref (za Γ g (6 + x)), .int (zi w)] (zcar μ g S) (some (.int (zi (if w ≤ 5 then toS S x w else rAt S x)))) (zcar μ g S) := by
  refine zRet.mk 0 [.ref (za Γ g (6 + x)), .int (zi w)] RX2 rfl (by decide +kernel) (Nat.le_of_ble_eq_true rfl) rfl ?_
  intro p e s m below meth c C hr hlk
  have h0 := I.1
  have h1 := I.2.1
  have h2 := I.2.2.1
  have h3 := I.2.2.2.1
  refine zV_iload_n (i := 1) (n := 1) C dX2_get_0 rfl rfl rfl ?_
  have hsw1 : w = 0 ∨ w = 1 ∨ w = 2 ∨ w = 3 ∨ w = 4 ∨ w = 5 ∨ (w < 0 ∨ 5 < w) := by omega
  rcases hsw1 with hsw | hsw | hsw | hsw | hsw | hsw | hsw
  · skip
    refine zV_tswIn C 40 dX2_get_1 (by omega) (by omega) (by omega) (by rw [hsw]; rfl) (by decide) ?_
    refine zV_aload_n (i := 0) (n := 41) C dX2_get_40 rfl rfl rfl ?_
    refine zV_getI (f := 0) (fi := 0) (n := 44) C zk2 fX2_9 dX2_get_41 (zs_child (by omega) (by omega)) rfl (by decide) rfl rfl ?_
    rw [zc_kid (by omega) (by omega)]
    exact zV_ireturn C hr hlk dX2_get_44 (by first | exact congrArg (fun z => some (Value.int (zi z))) (zif_t (by omega) (by rw [hsw])) | exact congrArg (fun z => some (Value.int (zi z))) (zif_f (by omega) rfl)) (by rfl)
  · skip
    refine zV_tswIn C 45 dX2_get_1 (by omega) (by omega) (by omega) (by rw [hsw]; rfl) (by decide) ?_
    refine zV_aload_n (i := 0) (n := 46) C dX2_get_45 rfl rfl rfl ?_
    refine zV_getI (f := 1) (fi := 1) (n := 49) C zk2 fX2_15 dX2_get_46 (zs_child (by omega) (by omega)) rfl (by decide) rfl rfl ?_
    rw [zc_kid (by omega) (by omega)]
    exact zV_ireturn C hr hlk dX2_get_49 (by first | exact congrArg (fun z => some (Value.int (zi z))) (zif_t (by omega) (by rw [hsw])) | exact congrArg (fun z => some (Value.int (zi z))) (zif_f (by omega) rfl)) (by rfl)
  · skip
    refine zV_tswIn C 50 dX2_get_1 (by omega) (by omega) (by omega) (by rw [hsw]; rfl) (by decide) ?_
    refine zV_aload_n (i := 0) (n := 51) C dX2_get_50 rfl rfl rfl ?_
    refine zV_getI (f := 2) (fi := 2) (n := 54) C zk2 fX2_18 dX2_get_51 (zs_child (by omega) (by omega)) rfl (by decide) rfl rfl ?_
    rw [zc_kid (by omega) (by omega)]
    exact zV_ireturn C hr hlk dX2_get_54 (by first | exact congrArg (fun z => some (Value.int (zi z))) (zif_t (by omega) (by rw [hsw])) | exact congrArg (fun z => some (Value.int (zi z))) (zif_f (by omega) rfl)) (by rfl)
  · skip
    refine zV_tswIn C 55 dX2_get_1 (by omega) (by omega) (by omega) (by rw [hsw]; rfl) (by decide) ?_
    refine zV_aload_n (i := 0) (n := 56) C dX2_get_55 rfl rfl rfl ?_
    refine zV_getI (f := 3) (fi := 3) (n := 59) C zk2 fX2_21 dX2_get_56 (zs_child (by omega) (by omega)) rfl (by decide) rfl rfl ?_
    rw [zc_kid (by omega) (by omega)]
    exact zV_ireturn C hr hlk dX2_get_59 (by first | exact congrArg (fun z => some (Value.int (zi z))) (zif_t (by omega) (by rw [hsw])) | exact congrArg (fun z => some (Value.int (zi z))) (zif_f (by omega) rfl)) (by rfl)
  · skip
    refine zV_tswIn C 60 dX2_get_1 (by omega) (by omega) (by omega) (by rw [hsw]; rfl) (by decide) ?_
    refine zV_aload_n (i := 0) (n := 61) C dX2_get_60 rfl rfl rfl ?_
    refine zV_getI (f := 4) (fi := 4) (n := 64) C zk2 fX2_24 dX2_get_61 (zs_child (by omega) (by omega)) rfl (by decide) rfl rfl ?_
    rw [zc_kid (by omega) (by omega)]
    exact zV_ireturn C hr hlk dX2_get_64 (by first | exact congrArg (fun z => some (Value.int (zi z))) (zif_t (by omega) (by rw [hsw])) | exact congrArg (fun z => some (Value.int (zi z))) (zif_f (by omega) rfl)) (by rfl)
  · skip
    refine zV_tswIn C 65 dX2_get_1 (by omega) (by omega) (by omega) (by rw [hsw]; rfl) (by decide) ?_
    refine zV_aload_n (i := 0) (n := 66) C dX2_get_65 rfl rfl rfl ?_
    refine zV_getI (f := 5) (fi := 5) (n := 69) C zk2 fX2_27 dX2_get_66 (zs_child (by omega) (by omega)) rfl (by decide) rfl rfl ?_
    rw [zc_kid (by omega) (by omega)]
    exact zV_ireturn C hr hlk dX2_get_69 (by first | exact congrArg (fun z => some (Value.int (zi z))) (zif_t (by omega) (by rw [hsw])) | exact congrArg (fun z => some (Value.int (zi z))) (zif_f (by omega) rfl)) (by rfl)
  · skip
    refine zV_tswOut C 70 dX2_get_1 (by omega) (by omega) (by decide) ?_
    refine zV_aload_n (i := 0) (n := 71) C dX2_get_70 rfl rfl rfl ?_
    refine zV_getI (f := 6) (fi := 6) (n := 74) C zk2 fX2_30 dX2_get_71 (zs_child (by omega) (by omega)) rfl (by decide) rfl rfl ?_
    rw [zc_place (by omega)]
    exact zV_ireturn C hr hlk dX2_get_74 (by first | exact congrArg (fun z => some (Value.int (zi z))) (zif_t (by omega) (by rw [hsw])) | exact congrArg (fun z => some (Value.int (zi z))) (zif_f (by omega) rfl)) (by rfl)

set_option maxRecDepth 100000 in
set_option maxHeartbeats 4000000 in
theorem c_kid_most {Γ : zC} {l : Launch} {d : Nat} {μ : zMem} {w : Int} (hw : 1 ≤ w ∧ w ≤ 4) : zRet Γ l (d + 0) qX2_most [.int (zi w)] μ (some (.int (zi (if w = 1 then 99 else if w = 3 then 1 else 9)))) μ := by
  refine zRet.mk 0 [.int (zi w)] RX2 rfl (by decide +kernel) (Nat.le_of_ble_eq_true rfl) rfl ?_
  intro p e s m below meth c C hr hlk
  refine zV_iload_n (i := 0) (n := 1) C dX2_most_0 rfl rfl rfl ?_
  have hsw1 : w = 1 ∨ w = 2 ∨ w = 3 ∨ (w < 1 ∨ 3 < w) := by omega
  rcases hsw1 with hsw | hsw | hsw | hsw
  · skip
    refine zV_tswIn C 28 dX2_most_1 (by omega) (by omega) (by omega) (by rw [hsw]; rfl) (by decide) ?_
    refine zV_bipush (n := 30) C dX2_most_28 (by decide) rfl ?_
    exact zV_ireturn C hr hlk dX2_most_30 (by first | exact congrArg (fun z => some (Value.int (zi z))) (zif_t (by omega) rfl) | exact congrArg (fun z => some (Value.int (zi z))) (zif_f (by omega) (zif_t (by omega) rfl)) | exact congrArg (fun z => some (Value.int (zi z))) (zif_f (by omega) (zif_f (by omega) rfl))) (by rfl)
  · skip
    refine zV_tswIn C 31 dX2_most_1 (by omega) (by omega) (by omega) (by rw [hsw]; rfl) (by decide) ?_
    refine zV_bipush (n := 33) C dX2_most_31 (by decide) rfl ?_
    exact zV_ireturn C hr hlk dX2_most_33 (by first | exact congrArg (fun z => some (Value.int (zi z))) (zif_t (by omega) rfl) | exact congrArg (fun z => some (Value.int (zi z))) (zif_f (by omega) (zif_t (by omega) rfl)) | exact congrArg (fun z => some (Value.int (zi z))) (zif_f (by omega) (zif_f (by omega) rfl))) (by rfl)
  · skip
    refine zV_tswIn C 34 dX2_most_1 (by omega) (by omega) (by omega) (by rw [hsw]; rfl) (by decide) ?_
    refine zV_iconst (n := 35) C dX2_most_34 rfl ?_
    exact zV_ireturn C hr hlk dX2_most_35 (by first | exact congrArg (fun z => some (Value.int (zi z))) (zif_t (by omega) rfl) | exact congrArg (fun z => some (Value.int (zi z))) (zif_f (by omega) (zif_t (by omega) rfl)) | exact congrArg (fun z => some (Value.int (zi z))) (zif_f (by omega) (zif_f (by omega) rfl))) (by rfl)
  · skip
    refine zV_tswOut C 36 dX2_most_1 (by omega) (by omega) (by decide) ?_
    refine zV_bipush (n := 38) C dX2_most_36 (by decide) rfl ?_
    exact zV_ireturn C hr hlk dX2_most_38 (by first | exact congrArg (fun z => some (Value.int (zi z))) (zif_t (by omega) rfl) | exact congrArg (fun z => some (Value.int (zi z))) (zif_f (by omega) (zif_t (by omega) rfl)) | exact congrArg (fun z => some (Value.int (zi z))) (zif_f (by omega) (zif_f (by omega) rfl))) (by rfl)

set_option maxRecDepth 100000 in
set_option maxHeartbeats 4000000 in
theorem c_kid_put {Γ : zC} {l : Launch} {d : Nat} {μ : zMem} {g : Nat} (hg : g < 4) {S : Int → Int} {N : Int} (I : rInv N S) {x : Int} (hx : 0 ≤ x ∧ x < S 0) {w v : Int} (hw : 1 ≤ w ∧ w ≤ 4) : zRet Γ l (d + 0) qX2_put [.ref (za Γ g (6 + x)), .int (zi w), .int (zi v)] (zcar μ g S) none (zcar μ g (zfu S (19 + 6 * x + w) v)) := by
  refine zRet.mk 0 [.ref (za Γ g (6 + x)), .int (zi w), .int (zi v)] RX2 rfl (by decide +kernel) (Nat.le_of_ble_eq_true rfl) rfl ?_
  intro p e s m below meth c C hr hlk
  have h0 := I.1
  have h1 := I.2.1
  have h2 := I.2.2.1
  have h3 := I.2.2.2.1
  refine zV_iload_n (i := 1) (n := 1) C dX2_put_0 rfl rfl rfl ?_
  have hsw1 : w = 1 ∨ w = 2 ∨ w = 3 ∨ (w < 1 ∨ 3 < w) := by omega
  rcases hsw1 with hsw | hsw | hsw | hsw
  · skip
    refine zV_tswIn C 28 dX2_put_1 (by omega) (by omega) (by omega) (by rw [hsw]; rfl) (by decide) ?_
    refine zV_aload_n (i := 0) (n := 29) C dX2_put_28 rfl rfl rfl ?_
    refine zV_iload_n (i := 2) (n := 30) C dX2_put_29 rfl rfl rfl ?_
    refine zV_putI (f := 1) (fi := 1) (n := 33) C zk2 fX2_15 dX2_put_30 (zs_child (by omega) (by omega)) rfl (by decide) rfl rfl rfl rfl ?_
    rw [zcu_kid (by omega) (by omega)]
    refine zV_goto C 57 dX2_put_33 (by decide) ?_
    exact zV_return C hr hlk dX2_put_57 (by rfl) (by first | rw [hsw] | rw [show w = 4 from by omega])
  · skip
    refine zV_tswIn C 36 dX2_put_1 (by omega) (by omega) (by omega) (by rw [hsw]; rfl) (by decide) ?_
    refine zV_aload_n (i := 0) (n := 37) C dX2_put_36 rfl rfl rfl ?_
    refine zV_iload_n (i := 2) (n := 38) C dX2_put_37 rfl rfl rfl ?_
    refine zV_putI (f := 2) (fi := 2) (n := 41) C zk2 fX2_18 dX2_put_38 (zs_child (by omega) (by omega)) rfl (by decide) rfl rfl rfl rfl ?_
    rw [zcu_kid (by omega) (by omega)]
    refine zV_goto C 57 dX2_put_41 (by decide) ?_
    exact zV_return C hr hlk dX2_put_57 (by rfl) (by first | rw [hsw] | rw [show w = 4 from by omega])
  · skip
    refine zV_tswIn C 44 dX2_put_1 (by omega) (by omega) (by omega) (by rw [hsw]; rfl) (by decide) ?_
    refine zV_aload_n (i := 0) (n := 45) C dX2_put_44 rfl rfl rfl ?_
    refine zV_iload_n (i := 2) (n := 46) C dX2_put_45 rfl rfl rfl ?_
    refine zV_putI (f := 3) (fi := 3) (n := 49) C zk2 fX2_21 dX2_put_46 (zs_child (by omega) (by omega)) rfl (by decide) rfl rfl rfl rfl ?_
    rw [zcu_kid (by omega) (by omega)]
    refine zV_goto C 57 dX2_put_49 (by decide) ?_
    exact zV_return C hr hlk dX2_put_57 (by rfl) (by first | rw [hsw] | rw [show w = 4 from by omega])
  · skip
    refine zV_tswOut C 52 dX2_put_1 (by omega) (by omega) (by decide) ?_
    refine zV_aload_n (i := 0) (n := 53) C dX2_put_52 rfl rfl rfl ?_
    refine zV_iload_n (i := 2) (n := 54) C dX2_put_53 rfl rfl rfl ?_
    refine zV_putI (f := 4) (fi := 4) (n := 57) C zk2 fX2_24 dX2_put_54 (zs_child (by omega) (by omega)) rfl (by decide) rfl rfl rfl rfl ?_
    rw [zcu_kid (by omega) (by omega)]
    exact zV_return C hr hlk dX2_put_57 (by rfl) (by first | rw [hsw] | rw [show w = 4 from by omega])

set_option maxRecDepth 100000 in
set_option maxHeartbeats 4000000 in
theorem c_takes {Γ : zC} {l : Launch} {d : Nat} {μ : zMem} {g : Nat} (hg : g < 4) {S : Int → Int} {N : Int} (I : rInv N S) {x : Int} (hx : 0 ≤ x ∧ x < S 0) {k : Int} (hk : 0 ≤ k ∧ k < 3) {kd : Int} (hkd : 0 ≤ kd ∧ kd ≤ 5) : zRet Γ l (d + 0) qX3_takes [.int (zi kd), .ref (za Γ g (6 + x)), .ref (za Γ g (3 + k))] (zcar μ g S) (some (.int (zi (rTakes S kd x k)))) (zcar μ g S) := by
  refine zRet.mk 3 [.int (zi kd), .ref (za Γ g (6 + x)), .ref (za Γ g (3 + k)), .null, .null, .null] RX3 rfl (by decide +kernel) (Nat.le_of_ble_eq_true rfl) rfl ?_
  intro p e s m below meth c C hr hlk
  have h0 := I.1
  have h1 := I.2.1
  have h2 := I.2.2.1
  have h3 := I.2.2.2.1
  have hc := I.2.2.2.2.2.1 x hx.1 (by omega)
  have hs := I.2.2.2.2.1 k hk.1 hk.2
  refine zV_bipush (n := 2) C dX3_takes_0 (by decide) rfl ?_
  refine zS_istore_n_6_3 (n := 3) C dX3_takes_2 rfl rfl ?_
  refine zV_iload_n (i := 3) (n := 4) C dX3_takes_3 rfl rfl rfl ?_
  refine zV_iconst (n := 5) C dX3_takes_4 rfl ?_
  refine zV_aload_n (i := 1) (n := 6) C dX3_takes_5 rfl rfl rfl ?_
  refine zV_getI (f := 4) (fi := 4) (n := 9) C zk2 fX3_19 dX3_takes_6 (zs_child (by omega) (by omega)) rfl (by decide) rfl rfl ?_
  rw [zc_kid (by omega) (by omega)]
  refine zV_imul (n := 10) C dX3_takes_9 rfl ?_
  refine zV_iadd (n := 11) C dX3_takes_10 rfl ?_
  refine zS_istore_6_4 (n := 13) C dX3_takes_11 rfl rfl ?_
  refine zV_iload_n (i := 3) (n := 14) C dX3_takes_13 rfl rfl rfl ?_
  refine zV_iconst (n := 15) C dX3_takes_14 rfl ?_
  refine zV_idiv (n := 16) C dX3_takes_15 (by first | omega | exact zb_rg) (by first | omega | exact zb_rg) rfl ?_
  refine zS_istore_6_5 (n := 18) C dX3_takes_16 rfl rfl ?_
  refine zV_iload_n (i := 0) (n := 19) C dX3_takes_18 rfl rfl rfl ?_
  have hsw19 : kd = 1 ∨ kd = 2 ∨ kd = 3 ∨ kd = 4 ∨ kd = 5 ∨ (kd < 1 ∨ 5 < kd) := by omega
  rcases hsw19 with hsw | hsw | hsw | hsw | hsw | hsw
  · skip
    refine zV_tswIn C 52 dX3_takes_19 (by omega) (by omega) (by omega) (by rw [hsw]; rfl) (by decide) ?_
    refine zV_iload (n := 54) C dX3_takes_52 rfl rfl ?_
    exact zV_ireturn C hr hlk dX3_takes_54 (by exact congrArg (fun z => some (Value.int (zi z))) (by unfold rTakes; (repeat' split) <;> omega)) (by rfl)
  · skip
    refine zV_tswIn C 55 dX3_takes_19 (by omega) (by omega) (by omega) (by rw [hsw]; rfl) (by decide) ?_
    refine zV_iload (n := 57) C dX3_takes_55 rfl rfl ?_
    exact zV_ireturn C hr hlk dX3_takes_57 (by exact congrArg (fun z => some (Value.int (zi z))) (by unfold rTakes; (repeat' split) <;> omega)) (by rfl)
  · skip
    refine zV_tswIn C 58 dX3_takes_19 (by omega) (by omega) (by omega) (by rw [hsw]; rfl) (by decide) ?_
    refine zV_aload_n (i := 2) (n := 59) C dX3_takes_58 rfl rfl rfl ?_
    refine zV_getI (f := 2) (fi := 2) (n := 62) C zk3 fX3_25 dX3_takes_59 (zs_seat (by omega) (by omega)) rfl (by decide) rfl rfl ?_
    rw [zc_seat (by omega) (by omega)]
    refine zV_iconst (n := 63) C dX3_takes_62 rfl ?_
    refine zV_icmp_ne (n := 66) C 70 dX3_takes_63 (by decide) (by first | omega | exact zb_rg) (by first | omega | exact zb_rg) rfl (fun h63 => ?_) (fun h63 => ?_)
    · skip
      refine zV_iload_n (i := 3) (n := 71) C dX3_takes_70 rfl rfl rfl ?_
      refine zV_iconst (n := 72) C dX3_takes_71 rfl ?_
      refine zV_iadd (n := 73) C dX3_takes_72 rfl ?_
      exact zV_ireturn C hr hlk dX3_takes_73 (by exact congrArg (fun z => some (Value.int (zi z))) (by unfold rTakes; (repeat' split) <;> omega)) (by rfl)
    · skip
      refine zV_iload_n (i := 3) (n := 67) C dX3_takes_66 rfl rfl rfl ?_
      refine zV_goto C 73 dX3_takes_67 (by decide) ?_
      exact zV_ireturn C hr hlk dX3_takes_73 (by exact congrArg (fun z => some (Value.int (zi z))) (by unfold rTakes; (repeat' split) <;> omega)) (by rfl)
  · skip
    refine zV_tswIn C 74 dX3_takes_19 (by omega) (by omega) (by omega) (by rw [hsw]; rfl) (by decide) ?_
    refine zV_aload_n (i := 1) (n := 75) C dX3_takes_74 rfl rfl rfl ?_
    refine zV_getI (f := 2) (fi := 2) (n := 78) C zk2 fX3_30 dX3_takes_75 (zs_child (by omega) (by omega)) rfl (by decide) rfl rfl ?_
    rw [zc_kid (by omega) (by omega)]
    refine zV_iconst (n := 79) C dX3_takes_78 rfl ?_
    refine zV_icmp_ge (n := 82) C 89 dX3_takes_79 (by decide) (by first | omega | exact zb_rg) (by first | omega | exact zb_rg) rfl (fun h79 => ?_) (fun h79 => ?_)
    · skip
      refine zV_iload (n := 91) C dX3_takes_89 rfl rfl ?_
      exact zV_ireturn C hr hlk dX3_takes_91 (by exact congrArg (fun z => some (Value.int (zi z))) (by unfold rTakes; (repeat' split) <;> omega)) (by rfl)
    · skip
      refine zV_iconst (n := 83) C dX3_takes_82 rfl ?_
      refine zV_iload (n := 85) C dX3_takes_83 rfl rfl ?_
      refine zV_imul (n := 86) C dX3_takes_85 rfl ?_
      refine zV_goto C 91 dX3_takes_86 (by decide) ?_
      exact zV_ireturn C hr hlk dX3_takes_91 (by exact congrArg (fun z => some (Value.int (zi z))) (by unfold rTakes; (repeat' split) <;> omega)) (by rfl)
  · skip
    refine zV_tswIn C 92 dX3_takes_19 (by omega) (by omega) (by omega) (by rw [hsw]; rfl) (by decide) ?_
    refine zV_aload_n (i := 1) (n := 93) C dX3_takes_92 rfl rfl rfl ?_
    refine zV_getI (f := 2) (fi := 2) (n := 96) C zk2 fX3_30 dX3_takes_93 (zs_child (by omega) (by omega)) rfl (by decide) rfl rfl ?_
    rw [zc_kid (by omega) (by omega)]
    refine zV_bipush (n := 98) C dX3_takes_96 (by decide) rfl ?_
    refine zV_icmp_lt (n := 101) C 105 dX3_takes_98 (by decide) (by first | omega | exact zb_rg) (by first | omega | exact zb_rg) rfl (fun h98 => ?_) (fun h98 => ?_)
    · skip
      refine zV_iload (n := 107) C dX3_takes_105 rfl rfl ?_
      exact zV_ireturn C hr hlk dX3_takes_107 (by exact congrArg (fun z => some (Value.int (zi z))) (by unfold rTakes; (repeat' split) <;> omega)) (by rfl)
    · skip
      refine zV_iconst (n := 102) C dX3_takes_101 rfl ?_
      refine zV_goto C 107 dX3_takes_102 (by decide) ?_
      exact zV_ireturn C hr hlk dX3_takes_107 (by exact congrArg (fun z => some (Value.int (zi z))) (by unfold rTakes; (repeat' split) <;> omega)) (by rfl)
  · skip
    refine zV_tswOut C 108 dX3_takes_19 (by omega) (by omega) (by decide) ?_
    refine zV_iload_n (i := 3) (n := 109) C dX3_takes_108 rfl rfl rfl ?_
    exact zV_ireturn C hr hlk dX3_takes_109 (by exact congrArg (fun z => some (Value.int (zi z))) (by unfold rTakes; (repeat' split) <;> omega)) (by rfl)

set_option maxRecDepth 100000 in
set_option maxHeartbeats 4000000 in
theorem c_snugs {Γ : zC} {l : Launch} {d : Nat} {μ : zMem} {g : Nat} (hg : g < 4) {S : Int → Int} {N : Int} (I : rInv N S) {x : Int} (hx : 0 ≤ x ∧ x < S 0) {k : Int} (hk : 0 ≤ k ∧ k < 3)  : zRet Γ l (d + 0) qX3_snugs [.int (zi (toS S x 0)), .ref (za Γ g (6 + x)), .ref (za Γ g (3 + k))] (zcar μ g S) (some (.int (zi (rSnugs S x k + 3 * toS S x 3)))) (zcar μ g S) := by
  refine zRet.mk 2 [.int (zi (toS S x 0)), .ref (za Γ g (6 + x)), .ref (za Γ g (3 + k)), .null, .null] RX3 rfl (by decide +kernel) (Nat.le_of_ble_eq_true rfl) rfl ?_
  intro p e s m below meth c C hr hlk
  have h0 := I.1
  have h1 := I.2.1
  have h2 := I.2.2.1
  have h3 := I.2.2.2.1
  have hc := I.2.2.2.2.2.1 x hx.1 (by omega)
  have hs := I.2.2.2.2.1 k hk.1 hk.2
  refine zV_bipush (n := 2) C dX3_snugs_0 (by decide) rfl ?_
  refine zV_aload_n (i := 2) (n := 3) C dX3_snugs_2 rfl rfl rfl ?_
  refine zV_getI (f := 0) (fi := 0) (n := 6) C zk3 fX3_33 dX3_snugs_3 (zs_seat (by omega) (by omega)) rfl (by decide) rfl rfl ?_
  rw [zc_seat (by omega) (by omega)]
  refine zV_isub (n := 7) C dX3_snugs_6 rfl ?_
  refine zS_istore_n_5_3 (n := 8) C dX3_snugs_7 rfl rfl ?_
  refine zV_iload_n (i := 3) (n := 9) C dX3_snugs_8 rfl rfl rfl ?_
  refine zV_aload_n (i := 1) (n := 10) C dX3_snugs_9 rfl rfl rfl ?_
  refine zV_getI (f := 1) (fi := 1) (n := 13) C zk2 fX3_36 dX3_snugs_10 (zs_child (by omega) (by omega)) rfl (by decide) rfl rfl ?_
  rw [zc_kid (by omega) (by omega)]
  refine zV_bipush (n := 15) C dX3_snugs_13 (by decide) rfl ?_
  refine zV_idiv (n := 16) C dX3_snugs_15 (by first | omega | exact zb_rg) (by first | omega | exact zb_rg) rfl ?_
  refine zV_isub (n := 17) C dX3_snugs_16 rfl ?_
  refine zS_istore_5_4 (n := 19) C dX3_snugs_17 rfl rfl ?_
  refine zV_iload_n (i := 0) (n := 20) C dX3_snugs_19 rfl rfl rfl ?_
  have hsw20 : toS S x 0 = 1 ∨ toS S x 0 = 2 ∨ toS S x 0 = 3 ∨ toS S x 0 = 4 ∨ toS S x 0 = 5 ∨ (toS S x 0 < 1 ∨ 5 < toS S x 0) := by omega
  rcases hsw20 with hsw | hsw | hsw | hsw | hsw | hsw
  · skip
    refine zV_tswIn C 56 dX3_snugs_20 (by omega) (by omega) (by omega) (by rw [hsw]; rfl) (by decide) ?_
    refine zV_iload_n (i := 3) (n := 57) C dX3_snugs_56 rfl rfl rfl ?_
    refine zV_aload_n (i := 1) (n := 58) C dX3_snugs_57 rfl rfl rfl ?_
    refine zV_getI (f := 4) (fi := 4) (n := 61) C zk2 fX3_19 dX3_snugs_58 (zs_child (by omega) (by omega)) rfl (by decide) rfl rfl ?_
    rw [zc_kid (by omega) (by omega)]
    refine zV_iconst (n := 62) C dX3_snugs_61 rfl ?_
    refine zV_idiv (n := 63) C dX3_snugs_62 (by first | omega | exact zb_rg) (by first | omega | exact zb_rg) rfl ?_
    refine zV_isub (n := 64) C dX3_snugs_63 rfl ?_
    exact zV_ireturn C hr hlk dX3_snugs_64 (by exact congrArg (fun z => some (Value.int (zi z))) (by unfold rSnugs; (repeat' split) <;> omega)) (by rfl)
  · skip
    refine zV_tswIn C 65 dX3_snugs_20 (by omega) (by omega) (by omega) (by rw [hsw]; rfl) (by decide) ?_
    refine zV_iload (n := 67) C dX3_snugs_65 rfl rfl ?_
    exact zV_ireturn C hr hlk dX3_snugs_67 (by exact congrArg (fun z => some (Value.int (zi z))) (by unfold rSnugs; (repeat' split) <;> omega)) (by rfl)
  · skip
    refine zV_tswIn C 68 dX3_snugs_20 (by omega) (by omega) (by omega) (by rw [hsw]; rfl) (by decide) ?_
    refine zV_aload_n (i := 2) (n := 69) C dX3_snugs_68 rfl rfl rfl ?_
    refine zV_getI (f := 2) (fi := 2) (n := 72) C zk3 fX3_25 dX3_snugs_69 (zs_seat (by omega) (by omega)) rfl (by decide) rfl rfl ?_
    rw [zc_seat (by omega) (by omega)]
    refine zV_iconst (n := 73) C dX3_snugs_72 rfl ?_
    refine zV_icmp_ne (n := 76) C 80 dX3_snugs_73 (by decide) (by first | omega | exact zb_rg) (by first | omega | exact zb_rg) rfl (fun h73 => ?_) (fun h73 => ?_)
    · skip
      refine zV_iload_n (i := 3) (n := 81) C dX3_snugs_80 rfl rfl rfl ?_
      refine zV_iconst (n := 82) C dX3_snugs_81 rfl ?_
      refine zV_isub (n := 83) C dX3_snugs_82 rfl ?_
      exact zV_ireturn C hr hlk dX3_snugs_83 (by exact congrArg (fun z => some (Value.int (zi z))) (by unfold rSnugs; (repeat' split) <;> omega)) (by rfl)
    · skip
      refine zV_iload_n (i := 3) (n := 77) C dX3_snugs_76 rfl rfl rfl ?_
      refine zV_goto C 83 dX3_snugs_77 (by decide) ?_
      exact zV_ireturn C hr hlk dX3_snugs_83 (by exact congrArg (fun z => some (Value.int (zi z))) (by unfold rSnugs; (repeat' split) <;> omega)) (by rfl)
  · skip
    refine zV_tswIn C 56 dX3_snugs_20 (by omega) (by omega) (by omega) (by rw [hsw]; rfl) (by decide) ?_
    refine zV_iload_n (i := 3) (n := 57) C dX3_snugs_56 rfl rfl rfl ?_
    refine zV_aload_n (i := 1) (n := 58) C dX3_snugs_57 rfl rfl rfl ?_
    refine zV_getI (f := 4) (fi := 4) (n := 61) C zk2 fX3_19 dX3_snugs_58 (zs_child (by omega) (by omega)) rfl (by decide) rfl rfl ?_
    rw [zc_kid (by omega) (by omega)]
    refine zV_iconst (n := 62) C dX3_snugs_61 rfl ?_
    refine zV_idiv (n := 63) C dX3_snugs_62 (by first | omega | exact zb_rg) (by first | omega | exact zb_rg) rfl ?_
    refine zV_isub (n := 64) C dX3_snugs_63 rfl ?_
    exact zV_ireturn C hr hlk dX3_snugs_64 (by exact congrArg (fun z => some (Value.int (zi z))) (by unfold rSnugs; (repeat' split) <;> omega)) (by rfl)
  · skip
    refine zV_tswIn C 84 dX3_snugs_20 (by omega) (by omega) (by omega) (by rw [hsw]; rfl) (by decide) ?_
    refine zV_iload (n := 86) C dX3_snugs_84 rfl rfl ?_
    refine zV_iconst (n := 87) C dX3_snugs_86 rfl ?_
    refine zV_isub (n := 88) C dX3_snugs_87 rfl ?_
    exact zV_ireturn C hr hlk dX3_snugs_88 (by exact congrArg (fun z => some (Value.int (zi z))) (by unfold rSnugs; (repeat' split) <;> omega)) (by rfl)
  · skip
    refine zV_tswOut C 89 dX3_snugs_20 (by omega) (by omega) (by decide) ?_
    refine zV_iload_n (i := 3) (n := 90) C dX3_snugs_89 rfl rfl rfl ?_
    exact zV_ireturn C hr hlk dX3_snugs_90 (by exact congrArg (fun z => some (Value.int (zi z))) (by unfold rSnugs; (repeat' split) <;> omega)) (by rfl)

set_option maxRecDepth 100000 in
set_option maxHeartbeats 4000000 in
theorem c_frets {Γ : zC} {l : Launch} {d : Nat} {μ : zMem} {kd mi ti al : Int} (hkd : 0 ≤ kd ∧ kd ≤ 5) (hmi : 0 ≤ mi ∧ mi ≤ 20000) (hti : 0 ≤ ti ∧ ti ≤ 9) (hal : al = 0 ∨ al = 1) : zRet Γ l (d + 0) qX3_frets [.int (zi kd), .int (zi mi), .int (zi ti), .int (zi al)] μ (some (.int (zi (cFr kd mi ti al)))) μ := by
  refine zRet.mk 2 [.int (zi kd), .int (zi mi), .int (zi ti), .int (zi al), .null, .null] RX3 rfl (by decide +kernel) (Nat.le_of_ble_eq_true rfl) rfl ?_
  intro p e s m below meth c C hr hlk
  refine zV_iload_n (i := 1) (n := 1) C dX3_frets_0 rfl rfl rfl ?_
  refine zV_iconst (n := 2) C dX3_frets_1 rfl ?_
  refine zV_irem (n := 3) C dX3_frets_2 (by first | omega | exact zb_rg) (by first | omega | exact zb_rg) rfl ?_
  refine zV_if_ne (n := 6) C 10 dX3_frets_3 (by decide) (by first | omega | exact zb_rg) rfl (fun h3 => ?_) (fun h3 => ?_)
  · skip
    refine zV_iconst (n := 11) C dX3_frets_10 rfl ?_
    refine zS_istore_6_4 (n := 13) C dX3_frets_11 rfl rfl ?_
    refine zV_iload_n (i := 2) (n := 14) C dX3_frets_13 rfl rfl rfl ?_
    refine zV_bipush (n := 16) C dX3_frets_14 (by decide) rfl ?_
    refine zV_icmp_le (n := 19) C 26 dX3_frets_16 (by decide) (by first | omega | exact zb_rg) (by first | omega | exact zb_rg) rfl (fun h16 => ?_) (fun h16 => ?_)
    · skip
      refine zV_iload (n := 28) C dX3_frets_26 rfl rfl ?_
      refine zS_istore_6_5 (n := 30) C dX3_frets_28 rfl rfl ?_
      refine zV_iload_n (i := 0) (n := 31) C dX3_frets_30 rfl rfl rfl ?_
      have hsw31 : kd = 1 ∨ kd = 2 ∨ kd = 3 ∨ kd = 4 ∨ (kd < 1 ∨ 4 < kd) := by omega
      rcases hsw31 with hsw | hsw | hsw | hsw | hsw
      · skip
        refine zV_tswIn C 60 dX3_frets_31 (by omega) (by omega) (by omega) (by rw [hsw]; rfl) (by decide) ?_
        refine zV_iload (n := 62) C dX3_frets_60 rfl rfl ?_
        exact zV_ireturn C hr hlk dX3_frets_62 (by exact congrArg (fun z => some (Value.int (zi z))) (by unfold cFr; (repeat' split) <;> omega)) (by rfl)
      · skip
        refine zV_tswIn C 82 dX3_frets_31 (by omega) (by omega) (by omega) (by rw [hsw]; rfl) (by decide) ?_
        refine zV_iload (n := 84) C dX3_frets_82 rfl rfl ?_
        exact zV_ireturn C hr hlk dX3_frets_84 (by exact congrArg (fun z => some (Value.int (zi z))) (by unfold cFr; (repeat' split) <;> omega)) (by rfl)
      · skip
        refine zV_tswIn C 63 dX3_frets_31 (by omega) (by omega) (by omega) (by rw [hsw]; rfl) (by decide) ?_
        refine zV_iload_n (i := 3) (n := 64) C dX3_frets_63 rfl rfl rfl ?_
        refine zV_if_eq (n := 67) C 74 dX3_frets_64 (by decide) (by first | omega | exact zb_rg) rfl (fun h64 => ?_) (fun h64 => ?_)
        · skip
          refine zV_iload (n := 76) C dX3_frets_74 rfl rfl ?_
          exact zV_ireturn C hr hlk dX3_frets_76 (by exact congrArg (fun z => some (Value.int (zi z))) (by unfold cFr; (repeat' split) <;> omega)) (by rfl)
        · skip
          refine zV_iload (n := 69) C dX3_frets_67 rfl rfl ?_
          refine zV_iconst (n := 70) C dX3_frets_69 rfl ?_
          refine zV_iadd (n := 71) C dX3_frets_70 rfl ?_
          refine zV_goto C 76 dX3_frets_71 (by decide) ?_
          exact zV_ireturn C hr hlk dX3_frets_76 (by exact congrArg (fun z => some (Value.int (zi z))) (by unfold cFr; (repeat' split) <;> omega)) (by rfl)
      · skip
        refine zV_tswIn C 77 dX3_frets_31 (by omega) (by omega) (by omega) (by rw [hsw]; rfl) (by decide) ?_
        refine zV_iconst (n := 78) C dX3_frets_77 rfl ?_
        refine zV_iload (n := 80) C dX3_frets_78 rfl rfl ?_
        refine zV_imul (n := 81) C dX3_frets_80 rfl ?_
        exact zV_ireturn C hr hlk dX3_frets_81 (by exact congrArg (fun z => some (Value.int (zi z))) (by unfold cFr; (repeat' split) <;> omega)) (by rfl)
      · skip
        refine zV_tswOut C 82 dX3_frets_31 (by omega) (by omega) (by decide) ?_
        refine zV_iload (n := 84) C dX3_frets_82 rfl rfl ?_
        exact zV_ireturn C hr hlk dX3_frets_84 (by exact congrArg (fun z => some (Value.int (zi z))) (by unfold cFr; (repeat' split) <;> omega)) (by rfl)
    · skip
      refine zV_iload (n := 21) C dX3_frets_19 rfl rfl ?_
      refine zV_iconst (n := 22) C dX3_frets_21 rfl ?_
      refine zV_iadd (n := 23) C dX3_frets_22 rfl ?_
      refine zV_goto C 28 dX3_frets_23 (by decide) ?_
      refine zS_istore_6_5 (n := 30) C dX3_frets_28 rfl rfl ?_
      refine zV_iload_n (i := 0) (n := 31) C dX3_frets_30 rfl rfl rfl ?_
      have hsw31 : kd = 1 ∨ kd = 2 ∨ kd = 3 ∨ kd = 4 ∨ (kd < 1 ∨ 4 < kd) := by omega
      rcases hsw31 with hsw | hsw | hsw | hsw | hsw
      · skip
        refine zV_tswIn C 60 dX3_frets_31 (by omega) (by omega) (by omega) (by rw [hsw]; rfl) (by decide) ?_
        refine zV_iload (n := 62) C dX3_frets_60 rfl rfl ?_
        exact zV_ireturn C hr hlk dX3_frets_62 (by exact congrArg (fun z => some (Value.int (zi z))) (by unfold cFr; (repeat' split) <;> omega)) (by rfl)
      · skip
        refine zV_tswIn C 82 dX3_frets_31 (by omega) (by omega) (by omega) (by rw [hsw]; rfl) (by decide) ?_
        refine zV_iload (n := 84) C dX3_frets_82 rfl rfl ?_
        exact zV_ireturn C hr hlk dX3_frets_84 (by exact congrArg (fun z => some (Value.int (zi z))) (by unfold cFr; (repeat' split) <;> omega)) (by rfl)
      · skip
        refine zV_tswIn C 63 dX3_frets_31 (by omega) (by omega) (by omega) (by rw [hsw]; rfl) (by decide) ?_
        refine zV_iload_n (i := 3) (n := 64) C dX3_frets_63 rfl rfl rfl ?_
        refine zV_if_eq (n := 67) C 74 dX3_frets_64 (by decide) (by first | omega | exact zb_rg) rfl (fun h64 => ?_) (fun h64 => ?_)
        · skip
          refine zV_iload (n := 76) C dX3_frets_74 rfl rfl ?_
          exact zV_ireturn C hr hlk dX3_frets_76 (by exact congrArg (fun z => some (Value.int (zi z))) (by unfold cFr; (repeat' split) <;> omega)) (by rfl)
        · skip
          refine zV_iload (n := 69) C dX3_frets_67 rfl rfl ?_
          refine zV_iconst (n := 70) C dX3_frets_69 rfl ?_
          refine zV_iadd (n := 71) C dX3_frets_70 rfl ?_
          refine zV_goto C 76 dX3_frets_71 (by decide) ?_
          exact zV_ireturn C hr hlk dX3_frets_76 (by exact congrArg (fun z => some (Value.int (zi z))) (by unfold cFr; (repeat' split) <;> omega)) (by rfl)
      · skip
        refine zV_tswIn C 77 dX3_frets_31 (by omega) (by omega) (by omega) (by rw [hsw]; rfl) (by decide) ?_
        refine zV_iconst (n := 78) C dX3_frets_77 rfl ?_
        refine zV_iload (n := 80) C dX3_frets_78 rfl rfl ?_
        refine zV_imul (n := 81) C dX3_frets_80 rfl ?_
        exact zV_ireturn C hr hlk dX3_frets_81 (by exact congrArg (fun z => some (Value.int (zi z))) (by unfold cFr; (repeat' split) <;> omega)) (by rfl)
      · skip
        refine zV_tswOut C 82 dX3_frets_31 (by omega) (by omega) (by decide) ?_
        refine zV_iload (n := 84) C dX3_frets_82 rfl rfl ?_
        exact zV_ireturn C hr hlk dX3_frets_84 (by exact congrArg (fun z => some (Value.int (zi z))) (by unfold cFr; (repeat' split) <;> omega)) (by rfl)
  · skip
    refine zV_iconst (n := 7) C dX3_frets_6 rfl ?_
    refine zV_goto C 11 dX3_frets_7 (by decide) ?_
    refine zS_istore_6_4 (n := 13) C dX3_frets_11 rfl rfl ?_
    refine zV_iload_n (i := 2) (n := 14) C dX3_frets_13 rfl rfl rfl ?_
    refine zV_bipush (n := 16) C dX3_frets_14 (by decide) rfl ?_
    refine zV_icmp_le (n := 19) C 26 dX3_frets_16 (by decide) (by first | omega | exact zb_rg) (by first | omega | exact zb_rg) rfl (fun h16 => ?_) (fun h16 => ?_)
    · skip
      refine zV_iload (n := 28) C dX3_frets_26 rfl rfl ?_
      refine zS_istore_6_5 (n := 30) C dX3_frets_28 rfl rfl ?_
      refine zV_iload_n (i := 0) (n := 31) C dX3_frets_30 rfl rfl rfl ?_
      have hsw31 : kd = 1 ∨ kd = 2 ∨ kd = 3 ∨ kd = 4 ∨ (kd < 1 ∨ 4 < kd) := by omega
      rcases hsw31 with hsw | hsw | hsw | hsw | hsw
      · skip
        refine zV_tswIn C 60 dX3_frets_31 (by omega) (by omega) (by omega) (by rw [hsw]; rfl) (by decide) ?_
        refine zV_iload (n := 62) C dX3_frets_60 rfl rfl ?_
        exact zV_ireturn C hr hlk dX3_frets_62 (by exact congrArg (fun z => some (Value.int (zi z))) (by unfold cFr; (repeat' split) <;> omega)) (by rfl)
      · skip
        refine zV_tswIn C 82 dX3_frets_31 (by omega) (by omega) (by omega) (by rw [hsw]; rfl) (by decide) ?_
        refine zV_iload (n := 84) C dX3_frets_82 rfl rfl ?_
        exact zV_ireturn C hr hlk dX3_frets_84 (by exact congrArg (fun z => some (Value.int (zi z))) (by unfold cFr; (repeat' split) <;> omega)) (by rfl)
      · skip
        refine zV_tswIn C 63 dX3_frets_31 (by omega) (by omega) (by omega) (by rw [hsw]; rfl) (by decide) ?_
        refine zV_iload_n (i := 3) (n := 64) C dX3_frets_63 rfl rfl rfl ?_
        refine zV_if_eq (n := 67) C 74 dX3_frets_64 (by decide) (by first | omega | exact zb_rg) rfl (fun h64 => ?_) (fun h64 => ?_)
        · skip
          refine zV_iload (n := 76) C dX3_frets_74 rfl rfl ?_
          exact zV_ireturn C hr hlk dX3_frets_76 (by exact congrArg (fun z => some (Value.int (zi z))) (by unfold cFr; (repeat' split) <;> omega)) (by rfl)
        · skip
          refine zV_iload (n := 69) C dX3_frets_67 rfl rfl ?_
          refine zV_iconst (n := 70) C dX3_frets_69 rfl ?_
          refine zV_iadd (n := 71) C dX3_frets_70 rfl ?_
          refine zV_goto C 76 dX3_frets_71 (by decide) ?_
          exact zV_ireturn C hr hlk dX3_frets_76 (by exact congrArg (fun z => some (Value.int (zi z))) (by unfold cFr; (repeat' split) <;> omega)) (by rfl)
      · skip
        refine zV_tswIn C 77 dX3_frets_31 (by omega) (by omega) (by omega) (by rw [hsw]; rfl) (by decide) ?_
        refine zV_iconst (n := 78) C dX3_frets_77 rfl ?_
        refine zV_iload (n := 80) C dX3_frets_78 rfl rfl ?_
        refine zV_imul (n := 81) C dX3_frets_80 rfl ?_
        exact zV_ireturn C hr hlk dX3_frets_81 (by exact congrArg (fun z => some (Value.int (zi z))) (by unfold cFr; (repeat' split) <;> omega)) (by rfl)
      · skip
        refine zV_tswOut C 82 dX3_frets_31 (by omega) (by omega) (by decide) ?_
        refine zV_iload (n := 84) C dX3_frets_82 rfl rfl ?_
        exact zV_ireturn C hr hlk dX3_frets_84 (by exact congrArg (fun z => some (Value.int (zi z))) (by unfold cFr; (repeat' split) <;> omega)) (by rfl)
    · skip
      refine zV_iload (n := 21) C dX3_frets_19 rfl rfl ?_
      refine zV_iconst (n := 22) C dX3_frets_21 rfl ?_
      refine zV_iadd (n := 23) C dX3_frets_22 rfl ?_
      refine zV_goto C 28 dX3_frets_23 (by decide) ?_
      refine zS_istore_6_5 (n := 30) C dX3_frets_28 rfl rfl ?_
      refine zV_iload_n (i := 0) (n := 31) C dX3_frets_30 rfl rfl rfl ?_
      have hsw31 : kd = 1 ∨ kd = 2 ∨ kd = 3 ∨ kd = 4 ∨ (kd < 1 ∨ 4 < kd) := by omega
      rcases hsw31 with hsw | hsw | hsw | hsw | hsw
      · skip
        refine zV_tswIn C 60 dX3_frets_31 (by omega) (by omega) (by omega) (by rw [hsw]; rfl) (by decide) ?_
        refine zV_iload (n := 62) C dX3_frets_60 rfl rfl ?_
        exact zV_ireturn C hr hlk dX3_frets_62 (by exact congrArg (fun z => some (Value.int (zi z))) (by unfold cFr; (repeat' split) <;> omega)) (by rfl)
      · skip
        refine zV_tswIn C 82 dX3_frets_31 (by omega) (by omega) (by omega) (by rw [hsw]; rfl) (by decide) ?_
        refine zV_iload (n := 84) C dX3_frets_82 rfl rfl ?_
        exact zV_ireturn C hr hlk dX3_frets_84 (by exact congrArg (fun z => some (Value.int (zi z))) (by unfold cFr; (repeat' split) <;> omega)) (by rfl)
      · skip
        refine zV_tswIn C 63 dX3_frets_31 (by omega) (by omega) (by omega) (by rw [hsw]; rfl) (by decide) ?_
        refine zV_iload_n (i := 3) (n := 64) C dX3_frets_63 rfl rfl rfl ?_
        refine zV_if_eq (n := 67) C 74 dX3_frets_64 (by decide) (by first | omega | exact zb_rg) rfl (fun h64 => ?_) (fun h64 => ?_)
        · skip
          refine zV_iload (n := 76) C dX3_frets_74 rfl rfl ?_
          exact zV_ireturn C hr hlk dX3_frets_76 (by exact congrArg (fun z => some (Value.int (zi z))) (by unfold cFr; (repeat' split) <;> omega)) (by rfl)
        · skip
          refine zV_iload (n := 69) C dX3_frets_67 rfl rfl ?_
          refine zV_iconst (n := 70) C dX3_frets_69 rfl ?_
          refine zV_iadd (n := 71) C dX3_frets_70 rfl ?_
          refine zV_goto C 76 dX3_frets_71 (by decide) ?_
          exact zV_ireturn C hr hlk dX3_frets_76 (by exact congrArg (fun z => some (Value.int (zi z))) (by unfold cFr; (repeat' split) <;> omega)) (by rfl)
      · skip
        refine zV_tswIn C 77 dX3_frets_31 (by omega) (by omega) (by omega) (by rw [hsw]; rfl) (by decide) ?_
        refine zV_iconst (n := 78) C dX3_frets_77 rfl ?_
        refine zV_iload (n := 80) C dX3_frets_78 rfl rfl ?_
        refine zV_imul (n := 81) C dX3_frets_80 rfl ?_
        exact zV_ireturn C hr hlk dX3_frets_81 (by exact congrArg (fun z => some (Value.int (zi z))) (by unfold cFr; (repeat' split) <;> omega)) (by rfl)
      · skip
        refine zV_tswOut C 82 dX3_frets_31 (by omega) (by omega) (by decide) ?_
        refine zV_iload (n := 84) C dX3_frets_82 rfl rfl ?_
        exact zV_ireturn C hr hlk dX3_frets_84 (by exact congrArg (fun z => some (Value.int (zi z))) (by unfold cFr; (repeat' split) <;> omega)) (by rfl)

theorem zab_rg {k : Int} (h : 0 ≤ k ∧ k ≤ 5) : -1 ≤ zabove k.toNat ∧ zabove k.toNat ≤ 5 := by
  have h6 : k = 0 ∨ k = 1 ∨ k = 2 ∨ k = 3 ∨ k = 4 ∨ k = 5 := by omega
  rcases h6 with rfl | rfl | rfl | rfl | rfl | rfl <;> decide
set_option maxRecDepth 100000 in
set_option maxHeartbeats 4000000 in
theorem c_isOneOf_loop {Γ : zC} {l : Launch} {d : Nat} {p : Program} {e : Env} {s : State} {m : MethodId} {args : Array Value} {below : List Frame} {meth : Method} {c : Code} {Q : State → Prop} (C : zCx Γ (zAA Γ) p s m args c RX3 cX3_isOneOf 4) {μ : zMem} {v0 w : Int} (hw : 0 ≤ w ∧ w ≤ 5) :
    ∀ (i : Nat) (k n : Int) (hk : -1 ≤ k ∧ k ≤ 5) (h0 : 0 ≤ n) (hi : n + i = 6) (K1 : cIs w i k = 1 → ∀ k n : Int, zV Γ (zAA Γ) p l e (zRm (d + 1)) s m args below meth c 0 0 Q 23 [.int (zi v0), .int (zi w), .int (zi k), .int (zi n)] [.int (zi 1)] μ) (K0 : cIs w i k = 0 → ∀ k n : Int, zV Γ (zAA Γ) p l e (zRm (d + 1)) s m args below meth c 0 0 Q 37 [.int (zi v0), .int (zi w), .int (zi k), .int (zi n)] [.int (zi 0)] μ), zV Γ (zAA Γ) p l e (zRm (d + 1)) s m args below meth c 0 0 Q 4 [.int (zi v0), .int (zi w), .int (zi k), .int (zi n)] [] μ := by
  intro i
  induction i with
  | zero =>
    intro k n hk h0 hi K1 K0
    have hn : n = 6 := by omega
    subst hn
    refine zV_iload_n (i := 3) (n := 5) C dX3_isOneOf_4 rfl rfl rfl ?_
    refine zV_bipush (n := 7) C dX3_isOneOf_5 (by decide) rfl ?_
    refine zV_icmp_ge (n := 10) C 36 dX3_isOneOf_7 (by decide) (by first | omega | exact zb_rg) (by first | omega | exact zb_rg) rfl (fun h7 => ?_) (fun h => by exfalso; first | omega | exact zb_rg)
    refine zV_iconst (n := 37) C dX3_isOneOf_36 rfl ?_
    exact K0 rfl _ _
  | succ i ih =>
    intro k n hk h0 hi K1 K0
    refine zV_iload_n (i := 3) (n := 5) C dX3_isOneOf_4 rfl rfl rfl ?_
    refine zV_bipush (n := 7) C dX3_isOneOf_5 (by decide) rfl ?_
    refine zV_icmp_ge (n := 10) C 36 dX3_isOneOf_7 (by decide) (by first | omega | exact zb_rg) (by first | omega | exact zb_rg) rfl (fun h => by exfalso; first | omega | exact zb_rg) (fun h7 => ?_)
    refine zV_iload_n (i := 2) (n := 11) C dX3_isOneOf_10 rfl rfl rfl ?_
    refine zV_callN1u (n := 14) C jX8_isKind (by decide) (c_isKind (d := d) (by omega)) dX3_isOneOf_11 (Nat.le_of_ble_eq_true rfl) (zfit_of (by omega) (by decide)) ⟨Nat.le_refl _, Nat.le_refl _⟩ rfl ?_
    refine zV_if_eq (n := 17) C 36 dX3_isOneOf_14 (by decide) (by first | omega | exact zb_rg) rfl (fun h14 => ?_) (fun h14 => ?_)
    · skip
      simp only [zb_eq0, Decidable.not_not] at h14
      refine zV_iconst (n := 37) C dX3_isOneOf_36 rfl ?_
      exact K0 (by rw [cIs]; exact if_neg h14) _ _
    · skip
      simp only [zb_eq0, Decidable.not_not] at h14
      refine zV_iload_n (i := 2) (n := 18) C dX3_isOneOf_17 rfl rfl rfl ?_
      refine zV_iload_n (i := 1) (n := 19) C dX3_isOneOf_18 rfl rfl rfl ?_
      refine zV_icmp_ne (n := 22) C 24 dX3_isOneOf_19 (by decide) (by first | omega | exact zb_rg) (by first | omega | exact zb_rg) rfl (fun h19 => ?_) (fun h19 => ?_)
      · skip
        refine zV_getT (n := 27) C fX3_13 dX3_isOneOf_24 rfl ?_
        refine zV_iload_n (i := 2) (n := 28) C dX3_isOneOf_27 rfl rfl rfl ?_
        refine zV_ialdT (n := 29) C dX3_isOneOf_28 (by first | omega | exact zb_rg) rfl rfl ?_
        refine zS_istore_n_4_2 (n := 30) C dX3_isOneOf_29 rfl rfl ?_
        refine zS_iinc_4_3 (n := 33) C dX3_isOneOf_30 rfl rfl ?_
        refine zV_goto C 4 dX3_isOneOf_33 (by decide) ?_
        refine ih _ _ (zab_rg (by omega)) (by omega) (by omega) (fun q => K1 (by rw [cIs, if_pos h14, if_neg h19]; exact q)) (fun q => K0 (by rw [cIs, if_pos h14, if_neg h19]; exact q))
      · skip
        refine zV_iconst (n := 23) C dX3_isOneOf_22 rfl ?_
        exact K1 (by rw [cIs, if_pos h14]; exact if_pos h19) _ _

set_option maxRecDepth 100000 in
set_option maxHeartbeats 4000000 in
theorem c_isOneOf {Γ : zC} {l : Launch} {d : Nat} {μ : zMem} {k w : Int} (hk : 0 ≤ k ∧ k ≤ 5) (hw : 0 ≤ w ∧ w ≤ 5) : zRet Γ l (d + 1) qX3_isOneOf [.int (zi k), .int (zi w)] μ (some (.int (zi (zb (rUnder k w))))) μ := by
  refine zRet.mk 2 [.int (zi k), .int (zi w), .null, .null] RX3 rfl (by decide +kernel) (Nat.le_of_ble_eq_true rfl) rfl ?_
  intro p e s m below meth c C hr hlk
  refine zV_iload_n (i := 0) (n := 1) C dX3_isOneOf_0 rfl rfl rfl ?_
  refine zS_istore_n_4_2 (n := 2) C dX3_isOneOf_1 rfl rfl ?_
  refine zV_iconst (n := 3) C dX3_isOneOf_2 rfl ?_
  refine zS_istore_n_4_3 (n := 4) C dX3_isOneOf_3 rfl rfl ?_
  refine c_isOneOf_loop C hw 6 k 0 (by omega) (by omega) (by omega) (fun q k n => ?_) (fun q k n => ?_)
  · exact zV_zreturn C hr hlk dX3_isOneOf_23 rfl (congrArg (fun z => some (Value.int (zi z))) (by rw [← cIs_eq hk hw]; exact q.symm)) rfl
  · exact zV_zreturn C hr hlk dX3_isOneOf_37 rfl (congrArg (fun z => some (Value.int (zi z))) (by rw [← cIs_eq hk hw]; exact q.symm)) rfl

