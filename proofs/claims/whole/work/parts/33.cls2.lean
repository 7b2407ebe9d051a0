/-! the class: its cars (laid by wip/whole/gen/cls2.py) -/
set_option maxRecDepth 100000 in
set_option maxHeartbeats 4000000 in
theorem c_has {Γ : zC} {l : Launch} {d : Nat} {μ : zMem} {g : Nat} (hg : g < 4) {S : Int → Int} {N : Int} (I : rInv N S) {x : Int} (hx : -2147483648 ≤ x ∧ x ≤ 2147483647)  : zRet Γ l (d + 0) qX0_has [.ref (za Γ g 0), .int (zi x)] (zcar μ g S) (some (.int (zi (zb (rCh S x))))) (zcar μ g S) := by
  refine zRet.mk 0 [.ref (za Γ g 0), .int (zi x)] RX0 rfl (by decide +kernel) (Nat.le_of_ble_eq_true rfl) rfl ?_
  intro p e s m below meth c C hr hlk
  have h0 := I.1
  have h1 := I.2.1
  have h2 := I.2.2.1
  have h3 := I.2.2.2.1
  refine zV_iload_n (i := 1) (n := 1) C dX0_has_0 rfl rfl rfl ?_
  refine zV_if_lt (n := 4) C 16 dX0_has_1 (by decide) (by first | omega | exact zb_rg) rfl (fun h1 => ?_) (fun h1 => ?_)
  · skip
    refine zV_iconst (n := 17) C dX0_has_16 rfl ?_
    exact zV_zreturn C hr hlk dX0_has_17 (by first | rfl | exact (zi_z zb_01).1 | exact (zi_z (by omega)).1) (by first | exact (congrArg (fun z => some (Value.int (zi z))) (zb_t (by omega)).symm) | exact (congrArg (fun z => some (Value.int (zi z))) (zb_f (by omega)).symm)) (by rfl)
  · skip
    refine zV_iload_n (i := 1) (n := 5) C dX0_has_4 rfl rfl rfl ?_
    refine zV_aload_n (i := 0) (n := 6) C dX0_has_5 rfl rfl rfl ?_
    refine zV_getI (f := 2) (fi := 2) (n := 9) C zk0 fX0_23 dX0_has_6 (zs_car (by omega)) rfl (by decide) rfl rfl ?_
    rw [zc_cnt]
    refine zV_icmp_ge (n := 12) C 16 dX0_has_9 (by decide) (by first | omega | exact zb_rg) (by first | omega | exact zb_rg) rfl (fun h9 => ?_) (fun h9 => ?_)
    · skip
      refine zV_iconst (n := 17) C dX0_has_16 rfl ?_
      exact zV_zreturn C hr hlk dX0_has_17 (by first | rfl | exact (zi_z zb_01).1 | exact (zi_z (by omega)).1) (by first | exact (congrArg (fun z => some (Value.int (zi z))) (zb_t (by omega)).symm) | exact (congrArg (fun z => some (Value.int (zi z))) (zb_f (by omega)).symm)) (by rfl)
    · skip
      refine zV_iconst (n := 13) C dX0_has_12 rfl ?_
      refine zV_goto C 17 dX0_has_13 (by decide) ?_
      exact zV_zreturn C hr hlk dX0_has_17 (by first | rfl | exact (zi_z zb_01).1 | exact (zi_z (by omega)).1) (by first | exact (congrArg (fun z => some (Value.int (zi z))) (zb_t (by omega)).symm) | exact (congrArg (fun z => some (Value.int (zi z))) (zb_f (by omega)).symm)) (by rfl)

set_option maxRecDepth 100000 in
set_option maxHeartbeats 4000000 in
theorem c_hasSet {Γ : zC} {l : Launch} {d : Nat} {μ : zMem} {g : Nat} (hg : g < 4) {S : Int → Int} {N : Int} (I : rInv N S) {x : Int} (hx : -2147483648 ≤ x ∧ x ≤ 2147483647)  : zRet Γ l (d + 0) qX0_hasSet [.ref (za Γ g 0), .int (zi x)] (zcar μ g S) (some (.int (zi (zb (0 ≤ x ∧ x ≤ rP2 (S 0) - 1))))) (zcar μ g S) := by
  refine zRet.mk 0 [.ref (za Γ g 0), .int (zi x)] RX0 rfl (by decide +kernel) (Nat.le_of_ble_eq_true rfl) rfl ?_
  intro p e s m below meth c C hr hlk
  have h0 := I.1
  have h1 := I.2.1
  have h2 := I.2.2.1
  have h3 := I.2.2.2.1
  have hp := rP2_rg (S 0)
  refine zV_iload_n (i := 1) (n := 1) C dX0_hasSet_0 rfl rfl rfl ?_
  refine zV_if_lt (n := 4) C 18 dX0_hasSet_1 (by decide) (by first | omega | exact zb_rg) rfl (fun h1 => ?_) (fun h1 => ?_)
  · skip
    refine zV_iconst (n := 19) C dX0_hasSet_18 rfl ?_
    exact zV_zreturn C hr hlk dX0_hasSet_19 (by first | rfl | exact (zi_z zb_01).1 | exact (zi_z (by omega)).1) (by first | exact (congrArg (fun z => some (Value.int (zi z))) (zb_t (by omega)).symm) | exact (congrArg (fun z => some (Value.int (zi z))) (zb_f (by omega)).symm)) (by rfl)
  · skip
    refine zV_iload_n (i := 1) (n := 5) C dX0_hasSet_4 rfl rfl rfl ?_
    refine zV_iconst (n := 6) C dX0_hasSet_5 rfl ?_
    refine zV_aload_n (i := 0) (n := 7) C dX0_hasSet_6 rfl rfl rfl ?_
    refine zV_getI (f := 2) (fi := 2) (n := 10) C zk0 fX0_23 dX0_hasSet_7 (zs_car (by omega)) rfl (by decide) rfl rfl ?_
    rw [zc_cnt]
    refine zV_ishl (n := 11) C dX0_hasSet_10 (rP2_sh (by omega)) rfl ?_
    refine zV_icmp_ge (n := 14) C 18 dX0_hasSet_11 (by decide) (by first | omega | exact zb_rg) (by first | omega | exact zb_rg) rfl (fun h11 => ?_) (fun h11 => ?_)
    · skip
      refine zV_iconst (n := 19) C dX0_hasSet_18 rfl ?_
      exact zV_zreturn C hr hlk dX0_hasSet_19 (by first | rfl | exact (zi_z zb_01).1 | exact (zi_z (by omega)).1) (by first | exact (congrArg (fun z => some (Value.int (zi z))) (zb_t (by omega)).symm) | exact (congrArg (fun z => some (Value.int (zi z))) (zb_f (by omega)).symm)) (by rfl)
    · skip
      refine zV_iconst (n := 15) C dX0_hasSet_14 rfl ?_
      refine zV_goto C 19 dX0_hasSet_15 (by decide) ?_
      exact zV_zreturn C hr hlk dX0_hasSet_19 (by first | rfl | exact (zi_z zb_01).1 | exact (zi_z (by omega)).1) (by first | exact (congrArg (fun z => some (Value.int (zi z))) (zb_t (by omega)).symm) | exact (congrArg (fun z => some (Value.int (zi z))) (zb_f (by omega)).symm)) (by rfl)

set_option maxRecDepth 100000 in
set_option maxHeartbeats 4000000 in
theorem c_isFull {Γ : zC} {l : Launch} {d : Nat} {μ : zMem} {g : Nat} (hg : g < 4) {S : Int → Int} {N : Int} (I : rInv N S)  : zRet Γ l (d + 0) qX0_isFull [.ref (za Γ g 0)] (zcar μ g S) (some (.int (zi (zb (6 ≤ S 0))))) (zcar μ g S) := by
  refine zRet.mk 0 [.ref (za Γ g 0)] RX0 rfl (by decide +kernel) (Nat.le_of_ble_eq_true rfl) rfl ?_
  intro p e s m below meth c C hr hlk
  have h0 := I.1
  have h1 := I.2.1
  have h2 := I.2.2.1
  have h3 := I.2.2.2.1
  refine zV_aload_n (i := 0) (n := 1) C dX0_isFull_0 rfl rfl rfl ?_
  refine zV_getI (f := 2) (fi := 2) (n := 4) C zk0 fX0_23 dX0_isFull_1 (zs_car (by omega)) rfl (by decide) rfl rfl ?_
  rw [zc_cnt]
  refine zV_bipush (n := 6) C dX0_isFull_4 (by decide) rfl ?_
  refine zV_icmp_lt (n := 9) C 13 dX0_isFull_6 (by decide) (by first | omega | exact zb_rg) (by first | omega | exact zb_rg) rfl (fun h6 => ?_) (fun h6 => ?_)
  · skip
    refine zV_iconst (n := 14) C dX0_isFull_13 rfl ?_
    exact zV_zreturn C hr hlk dX0_isFull_14 (by first | rfl | exact (zi_z zb_01).1 | exact (zi_z (by omega)).1) (by first | exact (congrArg (fun z => some (Value.int (zi z))) (zb_t (by omega)).symm) | exact (congrArg (fun z => some (Value.int (zi z))) (zb_f (by omega)).symm)) (by rfl)
  · skip
    refine zV_iconst (n := 10) C dX0_isFull_9 rfl ?_
    refine zV_goto C 14 dX0_isFull_10 (by decide) ?_
    exact zV_zreturn C hr hlk dX0_isFull_14 (by first | rfl | exact (zi_z zb_01).1 | exact (zi_z (by omega)).1) (by first | exact (congrArg (fun z => some (Value.int (zi z))) (zb_t (by omega)).symm) | exact (congrArg (fun z => some (Value.int (zi z))) (zb_f (by omega)).symm)) (by rfl)

set_option maxRecDepth 100000 in
set_option maxHeartbeats 4000000 in
theorem c_takenBeside_step {Γ : zC} {l : Launch} {d : Nat} {p : Program} {e : Env} {s : State} {m : MethodId} {args : Array Value} {below : List Frame} {meth : Method} {c : Code} {Q : State → Prop} (C : zCx Γ (zAA Γ) p s m args c RX0 cX0_takenBeside 5) {μ : zMem} {g : Nat} (hg : g < 4) {S : Int → Int} {N : Int} (I : rInv N S) {k : Int} (hk : 0 ≤ k ∧ k < 3) {t j : Int} (hj : 0 ≤ j ∧ j < 3) {v4 : Value} (KK : ∀ v4 : Value, zV Γ (zAA Γ) p l e (zRm (d + 0)) s m args below meth c 0 0 Q 4 [.ref (za Γ g 0), .int (zi k), .int (zi (t + cB1 S k j)), .int (zi (j + 1)), v4] [] (zcar μ g S)) :
    zV Γ (zAA Γ) p l e (zRm (d + 0)) s m args below meth c 0 0 Q 4 [.ref (za Γ g 0), .int (zi k), .int (zi t), .int (zi j), v4] [] (zcar μ g S) := by
  have hs := I.2.2.2.2.1 j hj.1 hj.2
  have h0 := I.1
  refine zV_iload_n (i := 3) (n := 5) C dX0_takenBeside_4 rfl rfl rfl ?_
  refine zV_iconst (n := 6) C dX0_takenBeside_5 rfl ?_
  refine zV_icmp_ge (n := 9) C 57 dX0_takenBeside_6 (by decide) (by first | omega | exact zb_rg) (by first | omega | exact zb_rg) rfl (fun h => by exfalso; first | omega | exact zb_rg) (fun h6 => ?_)
  refine zV_iload_n (i := 3) (n := 10) C dX0_takenBeside_9 rfl rfl rfl ?_
  refine zV_iload_n (i := 1) (n := 11) C dX0_takenBeside_10 rfl rfl rfl ?_
  refine zV_iconst (n := 12) C dX0_takenBeside_11 rfl ?_
  refine zV_isub (n := 13) C dX0_takenBeside_12 rfl ?_
  refine zV_icmp_eq (n := 16) C 23 dX0_takenBeside_13 (by decide) (by first | omega | exact zb_rg) (by first | omega | exact zb_rg) rfl (fun h13 => ?_) (fun h13 => ?_)
  · skip
    refine zV_iconst (n := 24) C dX0_takenBeside_23 rfl ?_
    refine zV_goto C 28 dX0_takenBeside_24 (by decide) ?_
    refine zS_istore_5_4 (n := 30) C dX0_takenBeside_28 rfl rfl ?_
    refine zV_iload (n := 32) C dX0_takenBeside_30 rfl rfl ?_
    refine zV_if_eq (n := 35) C 51 dX0_takenBeside_32 (by decide) (by first | omega | exact zb_rg) rfl (fun h32 => ?_) (fun h32 => ?_)
    · skip
      refine zS_iinc_5_3 (n := 54) C dX0_takenBeside_51 rfl rfl ?_
      refine zV_goto C 4 dX0_takenBeside_54 (by decide) ?_
      first | (exfalso; omega) | (have K9 := KK (.int (zi 0)); rw [show cB1 S k j = 0 from by unfold cB1; exact if_neg (by omega), Int.add_zero] at K9; exact K9)
    · skip
      refine zV_aload_n (i := 0) (n := 36) C dX0_takenBeside_35 rfl rfl rfl ?_
      refine zV_getP (f := 0) (n := 39) C zk0 fX0_11 dX0_takenBeside_36 (zs_car (by omega)) rfl (by decide) rfl ?_
      refine zV_iload_n (i := 3) (n := 40) C dX0_takenBeside_39 rfl rfl rfl ?_
      refine zV_aald (n := 41) C dX0_takenBeside_40 (zs_carS (by omega)) (by first | omega | exact zb_rg) (by decide) (by decide) rfl ?_
      refine zV_getI (f := 4) (fi := 4) (n := 44) C zk3 fX0_75 dX0_takenBeside_41 (zs_seat (by omega) (by omega)) rfl (by decide) rfl rfl ?_
      rw [zc_seat (by omega) (by omega)]
      refine zV_iconst (n := 45) C dX0_takenBeside_44 rfl ?_
      refine zV_icmp_eq (n := 48) C 51 dX0_takenBeside_45 (by decide) (by first | omega | exact zb_rg) (by first | omega | exact zb_rg) rfl (fun h45 => ?_) (fun h45 => ?_)
      · skip
        refine zS_iinc_5_3 (n := 54) C dX0_takenBeside_51 rfl rfl ?_
        refine zV_goto C 4 dX0_takenBeside_54 (by decide) ?_
        first | (exfalso; omega) | (have K9 := KK (.int (zi 1)); rw [show cB1 S k j = 0 from by unfold cB1; exact if_neg (by omega), Int.add_zero] at K9; exact K9)
      · skip
        refine zS_iinc_5_2 (n := 51) C dX0_takenBeside_48 rfl rfl ?_
        refine zS_iinc_5_3 (n := 54) C dX0_takenBeside_51 rfl rfl ?_
        refine zV_goto C 4 dX0_takenBeside_54 (by decide) ?_
        first | (exfalso; omega) | (have K9 := KK (.int (zi 1)); rw [show cB1 S k j = 1 from by unfold cB1; exact if_pos (by omega)] at K9; exact K9)
  · skip
    refine zV_iload_n (i := 3) (n := 17) C dX0_takenBeside_16 rfl rfl rfl ?_
    refine zV_iload_n (i := 1) (n := 18) C dX0_takenBeside_17 rfl rfl rfl ?_
    refine zV_iconst (n := 19) C dX0_takenBeside_18 rfl ?_
    refine zV_iadd (n := 20) C dX0_takenBeside_19 rfl ?_
    refine zV_icmp_ne (n := 23) C 27 dX0_takenBeside_20 (by decide) (by first | omega | exact zb_rg) (by first | omega | exact zb_rg) rfl (fun h20 => ?_) (fun h20 => ?_)
    · skip
      refine zV_iconst (n := 28) C dX0_takenBeside_27 rfl ?_
      refine zS_istore_5_4 (n := 30) C dX0_takenBeside_28 rfl rfl ?_
      refine zV_iload (n := 32) C dX0_takenBeside_30 rfl rfl ?_
      refine zV_if_eq (n := 35) C 51 dX0_takenBeside_32 (by decide) (by first | omega | exact zb_rg) rfl (fun h32 => ?_) (fun h32 => ?_)
      · skip
        refine zS_iinc_5_3 (n := 54) C dX0_takenBeside_51 rfl rfl ?_
        refine zV_goto C 4 dX0_takenBeside_54 (by decide) ?_
        first | (exfalso; omega) | (have K9 := KK (.int (zi 0)); rw [show cB1 S k j = 0 from by unfold cB1; exact if_neg (by omega), Int.add_zero] at K9; exact K9)
      · skip
        refine zV_aload_n (i := 0) (n := 36) C dX0_takenBeside_35 rfl rfl rfl ?_
        refine zV_getP (f := 0) (n := 39) C zk0 fX0_11 dX0_takenBeside_36 (zs_car (by omega)) rfl (by decide) rfl ?_
        refine zV_iload_n (i := 3) (n := 40) C dX0_takenBeside_39 rfl rfl rfl ?_
        refine zV_aald (n := 41) C dX0_takenBeside_40 (zs_carS (by omega)) (by first | omega | exact zb_rg) (by decide) (by decide) rfl ?_
        refine zV_getI (f := 4) (fi := 4) (n := 44) C zk3 fX0_75 dX0_takenBeside_41 (zs_seat (by omega) (by omega)) rfl (by decide) rfl rfl ?_
        rw [zc_seat (by omega) (by omega)]
        refine zV_iconst (n := 45) C dX0_takenBeside_44 rfl ?_
        refine zV_icmp_eq (n := 48) C 51 dX0_takenBeside_45 (by decide) (by first | omega | exact zb_rg) (by first | omega | exact zb_rg) rfl (fun h45 => ?_) (fun h45 => ?_)
        · skip
          refine zS_iinc_5_3 (n := 54) C dX0_takenBeside_51 rfl rfl ?_
          refine zV_goto C 4 dX0_takenBeside_54 (by decide) ?_
          first | (exfalso; omega) | (have K9 := KK (.int (zi 1)); rw [show cB1 S k j = 0 from by unfold cB1; exact if_neg (by omega), Int.add_zero] at K9; exact K9)
        · skip
          refine zS_iinc_5_2 (n := 51) C dX0_takenBeside_48 rfl rfl ?_
          refine zS_iinc_5_3 (n := 54) C dX0_takenBeside_51 rfl rfl ?_
          refine zV_goto C 4 dX0_takenBeside_54 (by decide) ?_
          first | (exfalso; omega) | (have K9 := KK (.int (zi 1)); rw [show cB1 S k j = 1 from by unfold cB1; exact if_pos (by omega)] at K9; exact K9)
    · skip
      refine zV_iconst (n := 24) C dX0_takenBeside_23 rfl ?_
      refine zV_goto C 28 dX0_takenBeside_24 (by decide) ?_
      refine zS_istore_5_4 (n := 30) C dX0_takenBeside_28 rfl rfl ?_
      refine zV_iload (n := 32) C dX0_takenBeside_30 rfl rfl ?_
      refine zV_if_eq (n := 35) C 51 dX0_takenBeside_32 (by decide) (by first | omega | exact zb_rg) rfl (fun h32 => ?_) (fun h32 => ?_)
      · skip
        refine zS_iinc_5_3 (n := 54) C dX0_takenBeside_51 rfl rfl ?_
        refine zV_goto C 4 dX0_takenBeside_54 (by decide) ?_
        first | (exfalso; omega) | (have K9 := KK (.int (zi 0)); rw [show cB1 S k j = 0 from by unfold cB1; exact if_neg (by omega), Int.add_zero] at K9; exact K9)
      · skip
        refine zV_aload_n (i := 0) (n := 36) C dX0_takenBeside_35 rfl rfl rfl ?_
        refine zV_getP (f := 0) (n := 39) C zk0 fX0_11 dX0_takenBeside_36 (zs_car (by omega)) rfl (by decide) rfl ?_
        refine zV_iload_n (i := 3) (n := 40) C dX0_takenBeside_39 rfl rfl rfl ?_
        refine zV_aald (n := 41) C dX0_takenBeside_40 (zs_carS (by omega)) (by first | omega | exact zb_rg) (by decide) (by decide) rfl ?_
        refine zV_getI (f := 4) (fi := 4) (n := 44) C zk3 fX0_75 dX0_takenBeside_41 (zs_seat (by omega) (by omega)) rfl (by decide) rfl rfl ?_
        rw [zc_seat (by omega) (by omega)]
        refine zV_iconst (n := 45) C dX0_takenBeside_44 rfl ?_
        refine zV_icmp_eq (n := 48) C 51 dX0_takenBeside_45 (by decide) (by first | omega | exact zb_rg) (by first | omega | exact zb_rg) rfl (fun h45 => ?_) (fun h45 => ?_)
        · skip
          refine zS_iinc_5_3 (n := 54) C dX0_takenBeside_51 rfl rfl ?_
          refine zV_goto C 4 dX0_takenBeside_54 (by decide) ?_
          first | (exfalso; omega) | (have K9 := KK (.int (zi 1)); rw [show cB1 S k j = 0 from by unfold cB1; exact if_neg (by omega), Int.add_zero] at K9; exact K9)
        · skip
          refine zS_iinc_5_2 (n := 51) C dX0_takenBeside_48 rfl rfl ?_
          refine zS_iinc_5_3 (n := 54) C dX0_takenBeside_51 rfl rfl ?_
          refine zV_goto C 4 dX0_takenBeside_54 (by decide) ?_
          first | (exfalso; omega) | (have K9 := KK (.int (zi 1)); rw [show cB1 S k j = 1 from by unfold cB1; exact if_pos (by omega)] at K9; exact K9)

set_option maxRecDepth 100000 in
set_option maxHeartbeats 4000000 in
theorem c_takenBeside {Γ : zC} {l : Launch} {d : Nat} {μ : zMem} {g : Nat} (hg : g < 4) {S : Int → Int} {N : Int} (I : rInv N S) {k : Int} (hk : 0 ≤ k ∧ k < 3)  : zRet Γ l (d + 0) qX0_takenBeside [.ref (za Γ g 0), .int (zi k)] (zcar μ g S) (some (.int (zi (cBes S k)))) (zcar μ g S) := by
  refine zRet.mk 3 [.ref (za Γ g 0), .int (zi k), .null, .null, .null] RX0 rfl (by decide +kernel) (Nat.le_of_ble_eq_true rfl) rfl ?_
  intro p e s m below meth c C hr hlk
  refine zV_iconst (n := 1) C dX0_takenBeside_0 rfl ?_
  refine zS_istore_n_5_2 (n := 2) C dX0_takenBeside_1 rfl rfl ?_
  refine zV_iconst (n := 3) C dX0_takenBeside_2 rfl ?_
  refine zS_istore_n_5_3 (n := 4) C dX0_takenBeside_3 rfl rfl ?_
  refine c_takenBeside_step C hg I hk (by omega) (fun v4 => ?_)
  refine c_takenBeside_step C hg I hk (by omega) (fun v4 => ?_)
  refine c_takenBeside_step C hg I hk (by omega) (fun v4 => ?_)
  refine zV_iload_n (i := 3) (n := 5) C dX0_takenBeside_4 rfl rfl rfl ?_
  refine zV_iconst (n := 6) C dX0_takenBeside_5 rfl ?_
  refine zV_icmp_ge (n := 9) C 57 dX0_takenBeside_6 (by decide) (by omega) (by omega) rfl (fun h => ?_) (fun h => by exfalso; omega)
  refine zV_iload_n (i := 2) (n := 58) C dX0_takenBeside_57 rfl rfl rfl ?_
  exact zV_ireturn C hr hlk dX0_takenBeside_58 rfl rfl

set_option maxRecDepth 100000 in
set_option maxHeartbeats 4000000 in
theorem c_secondsAs {Γ : zC} {l : Launch} {d : Nat} {μ : zMem} {g : Nat} (hg : g < 4) {S : Int → Int} {N : Int} (I : rInv N S) {x : Int} (hx : 0 ≤ x ∧ x < S 0) {k : Int} (hk : 0 ≤ k ∧ k < 3) {kd : Int} (hkd : 0 ≤ kd ∧ kd ≤ 5) : zRet Γ l (d + 1) qX0_secondsAs [.ref (za Γ g 0), .int (zi kd), .int (zi x), .int (zi k)] (zcar μ g S) (some (.int (zi (rSecK S kd x k)))) (zcar μ g S) := by
  refine zRet.mk 2 [.ref (za Γ g 0), .int (zi kd), .int (zi x), .int (zi k), .null, .null] RX0 rfl (by decide +kernel) (Nat.le_of_ble_eq_true rfl) rfl ?_
  intro p e s m below meth c C hr hlk
  have h0 := I.1
  have h1 := I.2.1
  have h2 := I.2.2.1
  have h3 := I.2.2.2.1
  have hc := I.2.2.2.2.2.1 x hx.1 (by omega)
  have hs := I.2.2.2.2.1 k hk.1 hk.2
  refine zV_aload_n (i := 0) (n := 1) C dX0_secondsAs_0 rfl rfl rfl ?_
  refine zV_getP (f := 0) (n := 4) C zk0 fX0_11 dX0_secondsAs_1 (zs_car (by omega)) rfl (by decide) rfl ?_
  refine zV_iload_n (i := 3) (n := 5) C dX0_secondsAs_4 rfl rfl rfl ?_
  refine zV_aald (n := 6) C dX0_secondsAs_5 (zs_carS (by omega)) (by first | omega | exact zb_rg) (by decide) (by decide) rfl ?_
  refine zS_astore_6_4 (n := 8) C dX0_secondsAs_6 rfl rfl ?_
  refine zV_aload_n (i := 0) (n := 9) C dX0_secondsAs_8 rfl rfl rfl ?_
  refine zV_getP (f := 1) (n := 12) C zk0 fX0_19 dX0_secondsAs_9 (zs_car (by omega)) rfl (by decide) rfl ?_
  refine zV_iload_n (i := 2) (n := 13) C dX0_secondsAs_12 rfl rfl rfl ?_
  refine zV_aald (n := 14) C dX0_secondsAs_13 (zs_carC (by omega)) (by first | omega | exact zb_rg) (by decide) (by decide) rfl ?_
  refine zS_astore_6_5 (n := 16) C dX0_secondsAs_14 rfl rfl ?_
  refine zV_iload_n (i := 1) (n := 17) C dX0_secondsAs_16 rfl rfl rfl ?_
  refine zV_aload (n := 19) C dX0_secondsAs_17 rfl rfl ?_
  refine zV_aload (n := 21) C dX0_secondsAs_19 rfl rfl ?_
  refine zV_callS3u (n := 24) C jX3_takes lX0_56 (c_takes (d := d) hg I (by omega) (by omega) (by omega)) dX0_secondsAs_21 (Nat.le_of_ble_eq_true rfl) (zfit_of (by omega) (by decide)) ⟨Nat.le_refl _, Nat.le_refl _⟩ rfl ?_
  refine zV_iconst (n := 25) C dX0_secondsAs_24 rfl ?_
  refine zV_aload (n := 27) C dX0_secondsAs_25 rfl rfl ?_
  refine zV_getI (f := 0) (fi := 0) (n := 30) C zk3 fX0_62 dX0_secondsAs_27 (zs_seat (by omega) (by omega)) rfl (by decide) rfl rfl ?_
  rw [zc_seat (by omega) (by omega)]
  refine zV_imul (n := 31) C dX0_secondsAs_30 rfl ?_
  refine zV_iadd (n := 32) C dX0_secondsAs_31 rfl ?_
  refine zV_iconst (n := 33) C dX0_secondsAs_32 rfl ?_
  refine zV_aload (n := 35) C dX0_secondsAs_33 rfl rfl ?_
  refine zV_getI (f := 1) (fi := 1) (n := 38) C zk3 fX0_65 dX0_secondsAs_35 (zs_seat (by omega) (by omega)) rfl (by decide) rfl rfl ?_
  rw [zc_seat (by omega) (by omega)]
  refine zV_imul (n := 39) C dX0_secondsAs_38 rfl ?_
  refine zV_iadd (n := 40) C dX0_secondsAs_39 rfl ?_
  refine zV_iconst (n := 41) C dX0_secondsAs_40 rfl ?_
  refine zV_aload (n := 43) C dX0_secondsAs_41 rfl rfl ?_
  refine zV_getI (f := 3) (fi := 3) (n := 46) C zk2 fX0_68 dX0_secondsAs_43 (zs_child (by omega) (by omega)) rfl (by decide) rfl rfl ?_
  rw [zc_kid (by omega) (by omega)]
  refine zV_imul (n := 47) C dX0_secondsAs_46 rfl ?_
  refine zV_iadd (n := 48) C dX0_secondsAs_47 rfl ?_
  refine zV_aload_n (i := 0) (n := 49) C dX0_secondsAs_48 rfl rfl rfl ?_
  refine zV_getI (f := 3) (fi := 3) (n := 52) C zk0 fX0_27 dX0_secondsAs_49 (zs_car (by omega)) rfl (by decide) rfl rfl ?_
  rw [zc_rain]
  refine zV_iadd (n := 53) C dX0_secondsAs_52 rfl ?_
  refine zV_iload_n (i := 3) (n := 54) C dX0_secondsAs_53 rfl rfl rfl ?_
  refine zV_iconst (n := 55) C dX0_secondsAs_54 rfl ?_
  refine zV_icmp_ne (n := 58) C 63 dX0_secondsAs_55 (by decide) (by first | omega | exact zb_rg) (by first | omega | exact zb_rg) rfl (fun h55 => ?_) (fun h55 => ?_)
  · skip
    refine zV_iconst (n := 64) C dX0_secondsAs_63 rfl ?_
    refine zV_aload_n (i := 0) (n := 65) C dX0_secondsAs_64 rfl rfl rfl ?_
    refine zV_iload_n (i := 3) (n := 66) C dX0_secondsAs_65 rfl rfl rfl ?_
    refine zV_callV1u (n := 69) C zk0 jX0_takenBeside lX0_71 (c_takenBeside (d := d) hg I (by omega)) dX0_secondsAs_66 (zs_car (by omega)) rfl (Nat.le_of_ble_eq_true rfl) (zfit_of (by omega) (by decide)) ⟨Nat.le_refl _, Nat.le_refl _⟩ rfl ?_
    refine zV_imul (n := 70) C dX0_secondsAs_69 rfl ?_
    refine zV_iadd (n := 71) C dX0_secondsAs_70 rfl ?_
    exact zV_ireturn C hr hlk dX0_secondsAs_71 (by exact congrArg (fun z => some (Value.int (zi z))) (by unfold rSecK; have hw := cBes_way I hk; split at hw <;> omega)) (by rfl)
  · skip
    refine zV_bipush (n := 60) C dX0_secondsAs_58 (by decide) rfl ?_
    refine zV_goto C 64 dX0_secondsAs_60 (by decide) ?_
    refine zV_aload_n (i := 0) (n := 65) C dX0_secondsAs_64 rfl rfl rfl ?_
    refine zV_iload_n (i := 3) (n := 66) C dX0_secondsAs_65 rfl rfl rfl ?_
    refine zV_callV1u (n := 69) C zk0 jX0_takenBeside lX0_71 (c_takenBeside (d := d) hg I (by omega)) dX0_secondsAs_66 (zs_car (by omega)) rfl (Nat.le_of_ble_eq_true rfl) (zfit_of (by omega) (by decide)) ⟨Nat.le_refl _, Nat.le_refl _⟩ rfl ?_
    refine zV_imul (n := 70) C dX0_secondsAs_69 rfl ?_
    refine zV_iadd (n := 71) C dX0_secondsAs_70 rfl ?_
    exact zV_ireturn C hr hlk dX0_secondsAs_71 (by exact congrArg (fun z => some (Value.int (zi z))) (by unfold rSecK; have hw := cBes_way I hk; split at hw <;> omega)) (by rfl)

set_option maxRecDepth 100000 in
set_option maxHeartbeats 4000000 in
theorem c_secondsFor {Γ : zC} {l : Launch} {d : Nat} {μ : zMem} {g : Nat} (hg : g < 4) {S : Int → Int} {N : Int} (I : rInv N S) {x : Int} (hx : 0 ≤ x ∧ x < S 0) {k : Int} (hk : 0 ≤ k ∧ k < 3)  : zRet Γ l (d + 2) qX0_secondsFor [.ref (za Γ g 0), .int (zi x), .int (zi k)] (zcar μ g S) (some (.int (zi (rSec S x k)))) (zcar μ g S) := by
  refine zRet.mk 0 [.ref (za Γ g 0), .int (zi x), .int (zi k)] RX0 rfl (by decide +kernel) (Nat.le_of_ble_eq_true rfl) rfl ?_
  intro p e s m below meth c C hr hlk
  have h0 := I.1
  have h1 := I.2.1
  have h2 := I.2.2.1
  have h3 := I.2.2.2.1
  have hc := I.2.2.2.2.2.1 x hx.1 (by omega)
  refine zV_aload_n (i := 0) (n := 1) C dX0_secondsFor_0 rfl rfl rfl ?_
  refine zV_aload_n (i := 0) (n := 2) C dX0_secondsFor_1 rfl rfl rfl ?_
  refine zV_getP (f := 1) (n := 5) C zk0 fX0_19 dX0_secondsFor_2 (zs_car (by omega)) rfl (by decide) rfl ?_
  refine zV_iload_n (i := 1) (n := 6) C dX0_secondsFor_5 rfl rfl rfl ?_
  refine zV_aald (n := 7) C dX0_secondsFor_6 (zs_carC (by omega)) (by first | omega | exact zb_rg) (by decide) (by decide) rfl ?_
  refine zV_getI (f := 0) (fi := 0) (n := 10) C zk2 fX0_49 dX0_secondsFor_7 (zs_child (by omega) (by omega)) rfl (by decide) rfl rfl ?_
  rw [zc_kid (by omega) (by omega)]
  refine zV_iload_n (i := 1) (n := 11) C dX0_secondsFor_10 rfl rfl rfl ?_
  refine zV_iload_n (i := 2) (n := 12) C dX0_secondsFor_11 rfl rfl rfl ?_
  refine zV_callV3u (n := 15) C zk0 jX0_secondsAs lX0_52 (c_secondsAs (d := d) hg I (by omega) (by omega) (by omega)) dX0_secondsFor_12 (zs_car (by omega)) rfl (Nat.le_of_ble_eq_true rfl) (zfit_of (by omega) (by decide)) ⟨Nat.le_refl _, Nat.le_refl _⟩ rfl ?_
  exact zV_ireturn C hr hlk dX0_secondsFor_15 (by rfl) (by rfl)

set_option maxRecDepth 100000 in
set_option maxHeartbeats 4000000 in
theorem c_snugFor {Γ : zC} {l : Launch} {d : Nat} {μ : zMem} {g : Nat} (hg : g < 4) {S : Int → Int} {N : Int} (I : rInv N S) {x : Int} (hx : 0 ≤ x ∧ x < S 0) {k : Int} (hk : 0 ≤ k ∧ k < 3)  : zRet Γ l (d + 1) qX0_snugFor [.ref (za Γ g 0), .int (zi x), .int (zi k)] (zcar μ g S) (some (.int (zi (rSnug S x k)))) (zcar μ g S) := by
  refine zRet.mk 1 [.ref (za Γ g 0), .int (zi x), .int (zi k), .null] RX0 rfl (by decide +kernel) (Nat.le_of_ble_eq_true rfl) rfl ?_
  intro p e s m below meth c C hr hlk
  have h0 := I.1
  have h1 := I.2.1
  have h2 := I.2.2.1
  have h3 := I.2.2.2.1
  have hc := I.2.2.2.2.2.1 x hx.1 (by omega)
  have hs := I.2.2.2.2.1 k hk.1 hk.2
  have hz : -20 ≤ rSnugs S x k ∧ rSnugs S x k ≤ 9 := by unfold rSnugs; (repeat' split) <;> omega
  refine zV_aload_n (i := 0) (n := 1) C dX0_snugFor_0 rfl rfl rfl ?_
  refine zV_getP (f := 1) (n := 4) C zk0 fX0_19 dX0_snugFor_1 (zs_car (by omega)) rfl (by decide) rfl ?_
  refine zV_iload_n (i := 1) (n := 5) C dX0_snugFor_4 rfl rfl rfl ?_
  refine zV_aald (n := 6) C dX0_snugFor_5 (zs_carC (by omega)) (by first | omega | exact zb_rg) (by decide) (by decide) rfl ?_
  refine zS_astore_n_4_3 (n := 7) C dX0_snugFor_6 rfl rfl ?_
  refine zV_iconst (n := 8) C dX0_snugFor_7 rfl ?_
  refine zV_aload_n (i := 3) (n := 9) C dX0_snugFor_8 rfl rfl rfl ?_
  refine zV_getI (f := 0) (fi := 0) (n := 12) C zk2 fX0_49 dX0_snugFor_9 (zs_child (by omega) (by omega)) rfl (by decide) rfl rfl ?_
  rw [zc_kid (by omega) (by omega)]
  refine zV_aload_n (i := 3) (n := 13) C dX0_snugFor_12 rfl rfl rfl ?_
  refine zV_aload_n (i := 0) (n := 14) C dX0_snugFor_13 rfl rfl rfl ?_
  refine zV_getP (f := 0) (n := 17) C zk0 fX0_11 dX0_snugFor_14 (zs_car (by omega)) rfl (by decide) rfl ?_
  refine zV_iload_n (i := 2) (n := 18) C dX0_snugFor_17 rfl rfl rfl ?_
  refine zV_aald (n := 19) C dX0_snugFor_18 (zs_carS (by omega)) (by first | omega | exact zb_rg) (by decide) (by decide) rfl ?_
  refine zV_callS3u (n := 22) C jX3_snugs lX0_78 (c_snugs (d := d) hg I (by omega) (by omega)) dX0_snugFor_19 (Nat.le_of_ble_eq_true rfl) (zfit_of (by omega) (by decide)) ⟨Nat.le_refl _, Nat.le_refl _⟩ rfl ?_
  refine zV_iconst (n := 23) C dX0_snugFor_22 rfl ?_
  refine zV_aload_n (i := 3) (n := 24) C dX0_snugFor_23 rfl rfl rfl ?_
  refine zV_getI (f := 3) (fi := 3) (n := 27) C zk2 fX0_68 dX0_snugFor_24 (zs_child (by omega) (by omega)) rfl (by decide) rfl rfl ?_
  rw [zc_kid (by omega) (by omega)]
  refine zV_imul (n := 28) C dX0_snugFor_27 rfl ?_
  refine zV_isub (n := 29) C dX0_snugFor_28 rfl ?_
  refine zV_mmax (n := 32) C lX0_81 dX0_snugFor_29 (by first | omega | exact zb_rg) (by first | omega | exact zb_rg) (Nat.le_of_ble_eq_true rfl) (zfit_of (by omega) (by decide)) ⟨Nat.le_refl _, Nat.le_refl _⟩ rfl ?_
  exact zV_ireturn C hr hlk dX0_snugFor_32 (by exact congrArg (fun z => some (Value.int (zi z))) (by unfold zmax rSnug; split <;> split <;> omega)) (by rfl)

set_option maxRecDepth 100000 in
set_option maxHeartbeats 4000000 in
theorem c_fretsNow {Γ : zC} {l : Launch} {d : Nat} {μ : zMem} {g : Nat} (hg : g < 4) {S : Int → Int} {N : Int} (I : rInv N S) {x : Int} (hx : 0 ≤ x ∧ x < S 0) (hN : N ≤ 20000) : zRet Γ l (d + 1) qX0_fretsNow [.ref (za Γ g 0), .ref (za Γ g (6 + x))] (zcar μ g S) (some (.int (zi (rFr S x)))) (zcar μ g S) := by
  refine zRet.mk 1 [.ref (za Γ g 0), .ref (za Γ g (6 + x)), .null] RX0 rfl (by decide +kernel) (Nat.le_of_ble_eq_true rfl) rfl ?_
  intro p e s m below meth c C hr hlk
  have h0 := I.1
  have h1 := I.2.1
  have h2 := I.2.2.1
  have h3 := I.2.2.2.1
  have hc := I.2.2.2.2.2.1 x hx.1 (by omega)
  have ha := rAt_rg S x
  refine zV_aload_n (i := 1) (n := 1) C dX0_fretsNow_0 rfl rfl rfl ?_
  refine zV_callV0u (n := 4) C zk2 jX2_sits lX0_87 (c_kid_sits (d := d) hg I (by omega)) dX0_fretsNow_1 (zs_child (by omega) (by omega)) rfl (Nat.le_of_ble_eq_true rfl) (zfit_of (by omega) (by decide)) ⟨Nat.le_refl _, Nat.le_refl _⟩ rfl ?_
  refine zV_if_eq (n := 7) C 18 dX0_fretsNow_4 (by decide) (by first | omega | exact zb_rg) rfl (fun h4 => ?_) (fun h4 => ?_)
  · skip
    simp only [zb_eq0, Decidable.not_not] at h4
    refine zV_iconst (n := 19) C dX0_fretsNow_18 rfl ?_
    refine zV_goto C 23 dX0_fretsNow_19 (by decide) ?_
    refine zS_istore_n_3_2 (n := 24) C dX0_fretsNow_23 rfl rfl ?_
    refine zV_aload_n (i := 1) (n := 25) C dX0_fretsNow_24 rfl rfl rfl ?_
    refine zV_getI (f := 0) (fi := 0) (n := 28) C zk2 fX0_49 dX0_fretsNow_25 (zs_child (by omega) (by omega)) rfl (by decide) rfl rfl ?_
    rw [zc_kid (by omega) (by omega)]
    refine zV_aload_n (i := 0) (n := 29) C dX0_fretsNow_28 rfl rfl rfl ?_
    refine zV_getI (f := 4) (fi := 4) (n := 32) C zk0 fX0_30 dX0_fretsNow_29 (zs_car (by omega)) rfl (by decide) rfl rfl ?_
    rw [zc_min]
    refine zV_aload_n (i := 1) (n := 33) C dX0_fretsNow_32 rfl rfl rfl ?_
    refine zV_getI (f := 5) (fi := 5) (n := 36) C zk2 fX0_94 dX0_fretsNow_33 (zs_child (by omega) (by omega)) rfl (by decide) rfl rfl ?_
    rw [zc_kid (by omega) (by omega)]
    refine zV_iload_n (i := 2) (n := 37) C dX0_fretsNow_36 rfl rfl rfl ?_
    refine zV_callS4u (n := 40) C jX3_frets lX0_97 (c_frets (d := d) (by omega) (by omega) (by omega) (by omega)) dX0_fretsNow_37 (Nat.le_of_ble_eq_true rfl) (zfit_of (by omega) (by decide)) ⟨Nat.le_refl _, Nat.le_refl _⟩ rfl ?_
    exact zV_ireturn C hr hlk dX0_fretsNow_40 (by first | exact congrArg (fun z => some (Value.int (zi z))) (cFr_eq (zb_t (by omega)).symm) | exact congrArg (fun z => some (Value.int (zi z))) (cFr_eq (zb_f (by omega)).symm)) (by rfl)
  · skip
    simp only [zb_eq0, Decidable.not_not] at h4
    refine zV_aload_n (i := 0) (n := 8) C dX0_fretsNow_7 rfl rfl rfl ?_
    refine zV_aload_n (i := 1) (n := 9) C dX0_fretsNow_8 rfl rfl rfl ?_
    refine zV_getI (f := 6) (fi := 6) (n := 12) C zk2 fX0_91 dX0_fretsNow_9 (zs_child (by omega) (by omega)) rfl (by decide) rfl rfl ?_
    rw [zc_place (by omega)]
    refine zV_callV1u (n := 15) C zk0 jX0_takenBeside lX0_71 (c_takenBeside (d := d) hg I (by omega)) dX0_fretsNow_12 (zs_car (by omega)) rfl (Nat.le_of_ble_eq_true rfl) (zfit_of (by omega) (by decide)) ⟨Nat.le_refl _, Nat.le_refl _⟩ rfl ?_
    have hb := cBes_near I (k := rAt S x) (by omega)
    refine zV_if_ne (n := 18) C 22 dX0_fretsNow_15 (by decide) (by first | omega | exact zb_rg) rfl (fun h15 => ?_) (fun h15 => ?_)
    · skip
      refine zV_iconst (n := 23) C dX0_fretsNow_22 rfl ?_
      refine zS_istore_n_3_2 (n := 24) C dX0_fretsNow_23 rfl rfl ?_
      refine zV_aload_n (i := 1) (n := 25) C dX0_fretsNow_24 rfl rfl rfl ?_
      refine zV_getI (f := 0) (fi := 0) (n := 28) C zk2 fX0_49 dX0_fretsNow_25 (zs_child (by omega) (by omega)) rfl (by decide) rfl rfl ?_
      rw [zc_kid (by omega) (by omega)]
      refine zV_aload_n (i := 0) (n := 29) C dX0_fretsNow_28 rfl rfl rfl ?_
      refine zV_getI (f := 4) (fi := 4) (n := 32) C zk0 fX0_30 dX0_fretsNow_29 (zs_car (by omega)) rfl (by decide) rfl rfl ?_
      rw [zc_min]
      refine zV_aload_n (i := 1) (n := 33) C dX0_fretsNow_32 rfl rfl rfl ?_
      refine zV_getI (f := 5) (fi := 5) (n := 36) C zk2 fX0_94 dX0_fretsNow_33 (zs_child (by omega) (by omega)) rfl (by decide) rfl rfl ?_
      rw [zc_kid (by omega) (by omega)]
      refine zV_iload_n (i := 2) (n := 37) C dX0_fretsNow_36 rfl rfl rfl ?_
      refine zV_callS4u (n := 40) C jX3_frets lX0_97 (c_frets (d := d) (by omega) (by omega) (by omega) (by omega)) dX0_fretsNow_37 (Nat.le_of_ble_eq_true rfl) (zfit_of (by omega) (by decide)) ⟨Nat.le_refl _, Nat.le_refl _⟩ rfl ?_
      exact zV_ireturn C hr hlk dX0_fretsNow_40 (by first | exact congrArg (fun z => some (Value.int (zi z))) (cFr_eq (zb_t (by omega)).symm) | exact congrArg (fun z => some (Value.int (zi z))) (cFr_eq (zb_f (by omega)).symm)) (by rfl)
    · skip
      refine zV_iconst (n := 19) C dX0_fretsNow_18 rfl ?_
      refine zV_goto C 23 dX0_fretsNow_19 (by decide) ?_
      refine zS_istore_n_3_2 (n := 24) C dX0_fretsNow_23 rfl rfl ?_
      refine zV_aload_n (i := 1) (n := 25) C dX0_fretsNow_24 rfl rfl rfl ?_
      refine zV_getI (f := 0) (fi := 0) (n := 28) C zk2 fX0_49 dX0_fretsNow_25 (zs_child (by omega) (by omega)) rfl (by decide) rfl rfl ?_
      rw [zc_kid (by omega) (by omega)]
      refine zV_aload_n (i := 0) (n := 29) C dX0_fretsNow_28 rfl rfl rfl ?_
      refine zV_getI (f := 4) (fi := 4) (n := 32) C zk0 fX0_30 dX0_fretsNow_29 (zs_car (by omega)) rfl (by decide) rfl rfl ?_
      rw [zc_min]
      refine zV_aload_n (i := 1) (n := 33) C dX0_fretsNow_32 rfl rfl rfl ?_
      refine zV_getI (f := 5) (fi := 5) (n := 36) C zk2 fX0_94 dX0_fretsNow_33 (zs_child (by omega) (by omega)) rfl (by decide) rfl rfl ?_
      rw [zc_kid (by omega) (by omega)]
      refine zV_iload_n (i := 2) (n := 37) C dX0_fretsNow_36 rfl rfl rfl ?_
      refine zV_callS4u (n := 40) C jX3_frets lX0_97 (c_frets (d := d) (by omega) (by omega) (by omega) (by omega)) dX0_fretsNow_37 (Nat.le_of_ble_eq_true rfl) (zfit_of (by omega) (by decide)) ⟨Nat.le_refl _, Nat.le_refl _⟩ rfl ?_
      exact zV_ireturn C hr hlk dX0_fretsNow_40 (by first | exact congrArg (fun z => some (Value.int (zi z))) (cFr_eq (zb_t (by omega)).symm) | exact congrArg (fun z => some (Value.int (zi z))) (cFr_eq (zb_f (by omega)).symm)) (by rfl)

theorem rClick_cls {S S1 S2 S3 S4 : Int → Int} {x k : Int} (h1 : zfu S 2 (zmin (S 2 + rSec S x k) 99999) = S1) (h2 : zfu S1 (19 + 6 * x + 5) (rSnug S1 x k) = S2) (h3 : zfu S2 (4 + 5 * k + 4) x = S3) (h4 : zfu S3 (4 + 5 * k + 3) (zmin (itS S3 k 3 + 1) 9999) = S4) : rClick S x k = if rUnder (toS S4 x 0) 1 then zfu S4 (19 + 6 * x + 4) (zmin (toS S4 x 4 + 1) 9) else S4 := by
  have e : zfu (zfu S2 (4 + 5 * k + 3) (zmin (itS S2 k 3 + 1) 9999)) (4 + 5 * k + 4) x = S4 := by
    rw [← h4, ← h3, itS_ne (by omega), zfu_comm (by omega)]
  unfold rClick
  simp only [h1, h2, e]
set_option maxRecDepth 100000 in
set_option maxHeartbeats 4000000 in
theorem c_clickIn {Γ : zC} {l : Launch} {d : Nat} {μ : zMem} {g : Nat} (hg : g < 4) {S : Int → Int} {N : Int} (I : rInv N S) {x : Int} (hx : 0 ≤ x ∧ x < S 0) {k : Int} (hk : 0 ≤ k ∧ k < 3) (hn : rAt S x = -1) (hf : itS S k 4 = -1) : zRet Γ l (d + 2) qX0_clickIn [.ref (za Γ g 0), .int (zi x), .int (zi k)] (zcar μ g S) none (zcar μ g (rClick S x k)) := by
  refine zRet.mk 2 [.ref (za Γ g 0), .int (zi x), .int (zi k), .null, .null] RX0 rfl (by decide +kernel) (Nat.le_of_ble_eq_true rfl) rfl ?_
  intro p e s m below meth c C hr hlk
  have h0 := I.1
  have h1 := I.2.1
  have h2 := I.2.2.1
  have h3 := I.2.2.2.1
  have hc := I.2.2.2.2.2.1 x hx.1 (by omega)
  have hs := I.2.2.2.2.1 k hk.1 hk.2
  have hq := rSec_rg I (x := x) (k := k) (by omega) hk
  have z1 := zmin_rg (a := S 2 + rSec S x k) (b := 99999) (by omega) (by omega)
  refine zV_aload_n (i := 0) (n := 1) C dX0_clickIn_0 rfl rfl rfl ?_
  refine zV_getP (f := 1) (n := 4) C zk0 fX0_19 dX0_clickIn_1 (zs_car (by omega)) rfl (by decide) rfl ?_
  refine zV_iload_n (i := 1) (n := 5) C dX0_clickIn_4 rfl rfl rfl ?_
  refine zV_aald (n := 6) C dX0_clickIn_5 (zs_carC (by omega)) (by first | omega | exact zb_rg) (by decide) (by decide) rfl ?_
  refine zS_astore_n_5_3 (n := 7) C dX0_clickIn_6 rfl rfl ?_
  refine zV_aload_n (i := 0) (n := 8) C dX0_clickIn_7 rfl rfl rfl ?_
  refine zV_getP (f := 0) (n := 11) C zk0 fX0_11 dX0_clickIn_8 (zs_car (by omega)) rfl (by decide) rfl ?_
  refine zV_iload_n (i := 2) (n := 12) C dX0_clickIn_11 rfl rfl rfl ?_
  refine zV_aald (n := 13) C dX0_clickIn_12 (zs_carS (by omega)) (by first | omega | exact zb_rg) (by decide) (by decide) rfl ?_
  refine zS_astore_5_4 (n := 15) C dX0_clickIn_13 rfl rfl ?_
  refine zV_aload_n (i := 0) (n := 16) C dX0_clickIn_15 rfl rfl rfl ?_
  refine zV_ldc (n := 18) C dX0_clickIn_16 kX0_101 rfl ?_
  refine zV_aload_n (i := 0) (n := 19) C dX0_clickIn_18 rfl rfl rfl ?_
  refine zV_getI (f := 5) (fi := 5) (n := 22) C zk0 fX0_33 dX0_clickIn_19 (zs_car (by omega)) rfl (by decide) rfl rfl ?_
  rw [zc_spent]
  refine zV_aload_n (i := 0) (n := 23) C dX0_clickIn_22 rfl rfl rfl ?_
  refine zV_aload_n (i := 3) (n := 24) C dX0_clickIn_23 rfl rfl rfl ?_
  refine zV_getI (f := 0) (fi := 0) (n := 27) C zk2 fX0_49 dX0_clickIn_24 (zs_child (by omega) (by omega)) rfl (by decide) rfl rfl ?_
  rw [zc_kid (by omega) (by omega)]
  refine zV_iload_n (i := 1) (n := 28) C dX0_clickIn_27 rfl rfl rfl ?_
  refine zV_iload_n (i := 2) (n := 29) C dX0_clickIn_28 rfl rfl rfl ?_
  refine zV_callV3u (n := 32) C zk0 jX0_secondsAs lX0_52 (c_secondsAs (d := d) hg I (by omega) (by omega) (by omega)) dX0_clickIn_29 (zs_car (by omega)) rfl (Nat.le_of_ble_eq_true rfl) (zfit_of (by omega) (by decide)) ⟨Nat.le_refl _, Nat.le_refl _⟩ rfl ?_
  rw [show rSecK S (toS S x 0) x k = rSec S x k from rfl]
  refine zV_iadd (n := 33) C dX0_clickIn_32 rfl ?_
  refine zV_mmin (n := 36) C lX0_102 dX0_clickIn_33 (by first | omega | exact zb_rg) (by first | omega | exact zb_rg) (Nat.le_of_ble_eq_true rfl) (zfit_of (by omega) (by decide)) ⟨Nat.le_refl _, Nat.le_refl _⟩ rfl ?_
  refine zV_putI (f := 5) (fi := 5) (n := 39) C zk0 fX0_33 dX0_clickIn_36 (zs_car (by omega)) rfl (by decide) rfl rfl rfl rfl ?_
  rw [zcu_head (i := 2) (by omega)]
  have J1 : rInv N (zfu S 2 (zmin (S 2 + rSec S x k) 99999)) := rInv_one I (by omega)
  generalize hS1 : zfu S 2 (zmin (S 2 + rSec S x k) 99999) = S1 at J1 ⊢
  have I := J1
  have hc := J1.2.2.2.2.2.1 x hx.1 (by omega)
  have hs := J1.2.2.2.2.1 k hk.1 hk.2
  have z0 := J1.1
  have c1 : S1 0 = S 0 := by rw [← hS1]; first | exact zfu_ne (by omega) | (rw [zfu_ne (by omega)]; assumption)
  have hx1 : 0 ≤ x ∧ x < S1 0 := by omega
  have e1 : rAt S1 x = -1 := by rw [← hS1, rAt_up (by omega)]; exact hn
  have f1 : itS S1 k 4 = -1 := by rw [← hS1, itS_ne (by omega)]; exact hf
  have z2 := rSnug_rg J1 (c := x) (k := k) (by omega) hk
  refine zV_aload_n (i := 3) (n := 40) C dX0_clickIn_39 rfl rfl rfl ?_
  refine zV_aload_n (i := 0) (n := 41) C dX0_clickIn_40 rfl rfl rfl ?_
  refine zV_iload_n (i := 1) (n := 42) C dX0_clickIn_41 rfl rfl rfl ?_
  refine zV_iload_n (i := 2) (n := 43) C dX0_clickIn_42 rfl rfl rfl ?_
  refine zV_callV2u (n := 46) C zk0 jX0_snugFor lX0_105 (c_snugFor (d := d) hg I (by omega) (by omega)) dX0_clickIn_43 (zs_car (by omega)) rfl (Nat.le_of_ble_eq_true rfl) (zfit_of (by omega) (by decide)) ⟨Nat.le_refl _, Nat.le_refl _⟩ rfl ?_
  refine zV_putI (f := 5) (fi := 5) (n := 49) C zk2 fX0_94 dX0_clickIn_46 (zs_child (by omega) (by omega)) rfl (by decide) rfl rfl rfl rfl ?_
  rw [zcu_kid (by omega) (by omega)]
  have J2 : rInv N (zfu S1 (19 + 6 * x + 5) (rSnug S1 x k)) := rInv_kid J1 (by omega) (by omega) (by simpa using z2)
  generalize hS2 : zfu S1 (19 + 6 * x + 5) (rSnug S1 x k) = S2 at J2 ⊢
  have I := J2
  have hc := J2.2.2.2.2.2.1 x hx.1 (by omega)
  have hs := J2.2.2.2.2.1 k hk.1 hk.2
  have z0 := J2.1
  have c2 : S2 0 = S 0 := by rw [← hS2]; first | exact zfu_ne (by omega) | (rw [zfu_ne (by omega)]; assumption)
  have hx2 : 0 ≤ x ∧ x < S2 0 := by omega
  have e2 : rAt S2 x = -1 := by rw [← hS2, rAt_up (by omega)]; exact e1
  have f2 : itS S2 k 4 = -1 := by rw [← hS2, itS_ne (by omega)]; exact f1
  refine zV_aload_n (i := 3) (n := 50) C dX0_clickIn_49 rfl rfl rfl ?_
  refine zV_iload_n (i := 2) (n := 51) C dX0_clickIn_50 rfl rfl rfl ?_
  refine zV_putI (f := 6) (fi := 6) (n := 54) C zk2 fX0_91 dX0_clickIn_51 (zs_child (by omega) (by omega)) rfl (by decide) rfl rfl rfl rfl ?_
  refine zV_aload (n := 56) C dX0_clickIn_54 rfl rfl ?_
  refine zV_iload_n (i := 1) (n := 57) C dX0_clickIn_56 rfl rfl rfl ?_
  refine zV_putI (f := 4) (fi := 4) (n := 60) C zk3 fX0_75 dX0_clickIn_57 (zs_seat (by omega) (by omega)) rfl (by decide) rfl rfl rfl rfl ?_
  rw [zcu_sit hx2 hk f2 (fun k9 a b => rAt_no (by omega) ⟨a, b⟩)]
  have J3 : rInv N (zfu S2 (4 + 5 * k + 4) x) := rInv_sit J2 hk (by omega) e2
  generalize hS3 : zfu S2 (4 + 5 * k + 4) x = S3 at J3 ⊢
  have I := J3
  have hc := J3.2.2.2.2.2.1 x hx.1 (by omega)
  have hs := J3.2.2.2.2.1 k hk.1 hk.2
  have z0 := J3.1
  have c3 : S3 0 = S 0 := by rw [← hS3]; first | exact zfu_ne (by omega) | (rw [zfu_ne (by omega)]; assumption)
  have hx3 : 0 ≤ x ∧ x < S3 0 := by omega
  have z3 := zmin_rg (a := itS S3 k 3 + 1) (b := 9999) (by omega) (by omega)
  refine zV_aload (n := 62) C dX0_clickIn_60 rfl rfl ?_
  refine zV_sipush (n := 65) C dX0_clickIn_62 (by decide) rfl ?_
  refine zV_aload (n := 67) C dX0_clickIn_65 rfl rfl ?_
  refine zV_getI (f := 3) (fi := 3) (n := 70) C zk3 fX0_108 dX0_clickIn_67 (zs_seat (by omega) (by omega)) rfl (by decide) rfl rfl ?_
  rw [zc_seat (by omega) (by omega)]
  refine zV_iconst (n := 71) C dX0_clickIn_70 rfl ?_
  refine zV_iadd (n := 72) C dX0_clickIn_71 rfl ?_
  refine zV_mmin (n := 75) C lX0_102 dX0_clickIn_72 (by first | omega | exact zb_rg) (by first | omega | exact zb_rg) (Nat.le_of_ble_eq_true rfl) (zfit_of (by omega) (by decide)) ⟨Nat.le_refl _, Nat.le_refl _⟩ rfl ?_
  refine zV_putI (f := 3) (fi := 3) (n := 78) C zk3 fX0_108 dX0_clickIn_75 (zs_seat (by omega) (by omega)) rfl (by decide) rfl rfl rfl rfl ?_
  rw [zcu_seat (by omega) (by omega)]
  have J4 : rInv N (zfu S3 (4 + 5 * k + 3) (zmin (itS S3 k 3 + 1) 9999)) := rInv_st J3 hk (by omega) (by simp; omega)
  generalize hS4 : zfu S3 (4 + 5 * k + 3) (zmin (itS S3 k 3 + 1) 9999) = S4 at J4 ⊢
  have I := J4
  have hc := J4.2.2.2.2.2.1 x hx.1 (by omega)
  have hs := J4.2.2.2.2.1 k hk.1 hk.2
  have z0 := J4.1
  have c4 : S4 0 = S 0 := by rw [← hS4]; first | exact zfu_ne (by omega) | (rw [zfu_ne (by omega)]; assumption)
  have hx4 : 0 ≤ x ∧ x < S4 0 := by omega
  have z5 := zmin_rg (a := toS S4 x 4 + 1) (b := 9) (by omega) (by omega)
  refine zV_aload_n (i := 3) (n := 79) C dX0_clickIn_78 rfl rfl rfl ?_
  refine zV_getI (f := 0) (fi := 0) (n := 82) C zk2 fX0_49 dX0_clickIn_79 (zs_child (by omega) (by omega)) rfl (by decide) rfl rfl ?_
  rw [zc_kid (by omega) (by omega)]
  refine zV_iconst (n := 83) C dX0_clickIn_82 rfl ?_
  refine zV_callS2u (n := 86) C jX3_isOneOf lX0_111 (c_isOneOf (d := d) (by omega) (by omega)) dX0_clickIn_83 (Nat.le_of_ble_eq_true rfl) (zfit_of (by omega) (by decide)) ⟨Nat.le_refl _, Nat.le_refl _⟩ rfl ?_
  refine zV_if_eq (n := 89) C 104 dX0_clickIn_86 (by decide) (by first | omega | exact zb_rg) rfl (fun h86 => ?_) (fun h86 => ?_)
  · skip
    simp only [zb_eq0, Decidable.not_not] at h86
    exact zV_return C hr hlk dX0_clickIn_104 (by rfl) (by rw [rClick_cls hS1 hS2 hS3 hS4]; first | rw [if_pos h86] | rw [if_neg h86])
  · skip
    simp only [zb_eq0, Decidable.not_not] at h86
    refine zV_aload_n (i := 3) (n := 90) C dX0_clickIn_89 rfl rfl rfl ?_
    refine zV_bipush (n := 92) C dX0_clickIn_90 (by decide) rfl ?_
    refine zV_aload_n (i := 3) (n := 93) C dX0_clickIn_92 rfl rfl rfl ?_
    refine zV_getI (f := 4) (fi := 4) (n := 96) C zk2 fX0_115 dX0_clickIn_93 (zs_child (by omega) (by omega)) rfl (by decide) rfl rfl ?_
    rw [zc_kid (by omega) (by omega)]
    refine zV_iconst (n := 97) C dX0_clickIn_96 rfl ?_
    refine zV_iadd (n := 98) C dX0_clickIn_97 rfl ?_
    refine zV_mmin (n := 101) C lX0_102 dX0_clickIn_98 (by first | omega | exact zb_rg) (by first | omega | exact zb_rg) (Nat.le_of_ble_eq_true rfl) (zfit_of (by omega) (by decide)) ⟨Nat.le_refl _, Nat.le_refl _⟩ rfl ?_
    refine zV_putI (f := 4) (fi := 4) (n := 104) C zk2 fX0_115 dX0_clickIn_101 (zs_child (by omega) (by omega)) rfl (by decide) rfl rfl rfl rfl ?_
    rw [zcu_kid (by omega) (by omega)]
    exact zV_return C hr hlk dX0_clickIn_104 (by rfl) (by rw [rClick_cls hS1 hS2 hS3 hS4]; first | rw [if_pos h86] | rw [if_neg h86])

set_option maxRecDepth 100000 in
set_option maxHeartbeats 4000000 in
theorem c_getOut {Γ : zC} {l : Launch} {d : Nat} {μ : zMem} {g : Nat} (hg : g < 4) {S : Int → Int} {N : Int} (I : rInv N S) {k : Int} (hk : 0 ≤ k ∧ k < 3) (ht : rTk S k) : zRet Γ l (d + 1) qX0_getOut [.ref (za Γ g 0), .int (zi k)] (zcar μ g S) none (zcar μ g (rOut S k)) := by
  refine zRet.mk 1 [.ref (za Γ g 0), .int (zi k), .null] RX0 rfl (by decide +kernel) (Nat.le_of_ble_eq_true rfl) rfl ?_
  intro p e s m below meth c C hr hlk
  have h0 := I.1
  have h1 := I.2.1
  have h2 := I.2.2.1
  have h3 := I.2.2.2.1
  have hs := I.2.2.2.2.1 k hk.1 hk.2
  have hu := fun k9 a b => I.2.2.2.2.2.2 k k9 hk.1 hk.2 a b
  refine zV_aload_n (i := 0) (n := 1) C dX0_getOut_0 rfl rfl rfl ?_
  refine zV_getP (f := 0) (n := 4) C zk0 fX0_11 dX0_getOut_1 (zs_car (by omega)) rfl (by decide) rfl ?_
  refine zV_iload_n (i := 1) (n := 5) C dX0_getOut_4 rfl rfl rfl ?_
  refine zV_aald (n := 6) C dX0_getOut_5 (zs_carS (by omega)) (by first | omega | exact zb_rg) (by decide) (by decide) rfl ?_
  refine zV_getI (f := 4) (fi := 4) (n := 9) C zk3 fX0_75 dX0_getOut_6 (zs_seat (by omega) (by omega)) rfl (by decide) rfl rfl ?_
  rw [zc_seat (by omega) (by omega)]
  refine zS_istore_n_3_2 (n := 10) C dX0_getOut_9 rfl rfl ?_
  refine zV_aload_n (i := 0) (n := 11) C dX0_getOut_10 rfl rfl rfl ?_
  refine zV_iload_n (i := 2) (n := 12) C dX0_getOut_11 rfl rfl rfl ?_
  refine zV_callV1u (n := 15) C zk0 jX0_has lX0_118 (c_has (d := d) hg I (by omega)) dX0_getOut_12 (zs_car (by omega)) rfl (Nat.le_of_ble_eq_true rfl) (zfit_of (by omega) (by decide)) ⟨Nat.le_refl _, Nat.le_refl _⟩ rfl ?_
  refine zV_if_eq (n := 18) C 38 dX0_getOut_15 (by decide) (by first | omega | exact zb_rg) rfl (fun h => by simp only [zb_eq0, Decidable.not_not] at h; exfalso; omega) (fun h15 => ?_)
  simp only [zb_eq0, Decidable.not_not] at h15
  refine zV_aload_n (i := 0) (n := 19) C dX0_getOut_18 rfl rfl rfl ?_
  refine zV_getP (f := 1) (n := 22) C zk0 fX0_19 dX0_getOut_19 (zs_car (by omega)) rfl (by decide) rfl ?_
  refine zV_iload_n (i := 2) (n := 23) C dX0_getOut_22 rfl rfl rfl ?_
  refine zV_aald (n := 24) C dX0_getOut_23 (zs_carC (by omega)) (by first | omega | exact zb_rg) (by decide) (by decide) rfl ?_
  refine zV_iconst (n := 25) C dX0_getOut_24 rfl ?_
  refine zV_putI (f := 5) (fi := 5) (n := 28) C zk2 fX0_94 dX0_getOut_25 (zs_child (by omega) (by omega)) rfl (by decide) rfl rfl rfl rfl ?_
  rw [zcu_kid (by omega) (by omega)]
  have c1 : zfu S (19 + 6 * itS S k 4 + 5) 0 0 = S 0 := zfu_ne (by omega)
  have w1 : itS (zfu S (19 + 6 * itS S k 4 + 5) 0) k 4 = itS S k 4 := itS_ne (by omega)
  refine zV_aload_n (i := 0) (n := 29) C dX0_getOut_28 rfl rfl rfl ?_
  refine zV_getP (f := 1) (n := 32) C zk0 fX0_19 dX0_getOut_29 (zs_car (by omega)) rfl (by decide) rfl ?_
  refine zV_iload_n (i := 2) (n := 33) C dX0_getOut_32 rfl rfl rfl ?_
  refine zV_aald (n := 34) C dX0_getOut_33 (zs_carC (by omega)) (by first | omega | exact zb_rg) (by decide) (by decide) rfl ?_
  refine zV_iconst (n := 35) C dX0_getOut_34 rfl ?_
  refine zV_putI (f := 6) (fi := 6) (n := 38) C zk2 fX0_91 dX0_getOut_35 (zs_child (by omega) (by omega)) rfl (by decide) rfl rfl rfl rfl ?_
  refine zV_aload_n (i := 0) (n := 39) C dX0_getOut_38 rfl rfl rfl ?_
  refine zV_getP (f := 0) (n := 42) C zk0 fX0_11 dX0_getOut_39 (zs_car (by omega)) rfl (by decide) rfl ?_
  refine zV_iload_n (i := 1) (n := 43) C dX0_getOut_42 rfl rfl rfl ?_
  refine zV_aald (n := 44) C dX0_getOut_43 (zs_carS (by omega)) (by first | omega | exact zb_rg) (by decide) (by decide) rfl ?_
  refine zV_iconst (n := 45) C dX0_getOut_44 rfl ?_
  refine zV_putI (f := 4) (fi := 4) (n := 48) C zk3 fX0_75 dX0_getOut_45 (zs_seat (by omega) (by omega)) rfl (by decide) rfl rfl rfl rfl ?_
  rw [zcu_rise (S := zfu S (19 + 6 * itS S k 4 + 5) 0) (x := itS S k 4) (by omega) hk w1 (fun k9 a b => by rw [w1, itS_ne (by omega)]; exact hu k9 a b)]
  exact zV_return C hr hlk dX0_getOut_48 (by rfl) (by rfl)

set_option maxRecDepth 100000 in
set_option maxHeartbeats 4000000 in
theorem c_giveBribe {Γ : zC} {l : Launch} {d : Nat} {μ : zMem} {g : Nat} (hg : g < 4) {S : Int → Int} {N : Int} (I : rInv N S) {x : Int} (hx : 0 ≤ x ∧ x < S 0)  : zRet Γ l (d + 1) qX0_giveBribe [.ref (za Γ g 0), .int (zi x)] (zcar μ g S) none (zcar μ g (rBr S x)) := by
  refine zRet.mk 2 [.ref (za Γ g 0), .int (zi x), .null, .null] RX0 rfl (by decide +kernel) (Nat.le_of_ble_eq_true rfl) rfl ?_
  intro p e s m below meth c C hr hlk
  have h0 := I.1
  have h1 := I.2.1
  have h2 := I.2.2.1
  have h3 := I.2.2.2.1
  have hc := I.2.2.2.2.2.1 x hx.1 (by omega)
  have ha := rAt_rg S x
  have z1 := zmin_rg (a := toS S x 2 + 3) (b := 9) (by omega) (by omega)
  refine zV_aload_n (i := 0) (n := 1) C dX0_giveBribe_0 rfl rfl rfl ?_
  refine zV_getP (f := 1) (n := 4) C zk0 fX0_19 dX0_giveBribe_1 (zs_car (by omega)) rfl (by decide) rfl ?_
  refine zV_iload_n (i := 1) (n := 5) C dX0_giveBribe_4 rfl rfl rfl ?_
  refine zV_aald (n := 6) C dX0_giveBribe_5 (zs_carC (by omega)) (by first | omega | exact zb_rg) (by decide) (by decide) rfl ?_
  refine zS_astore_n_4_2 (n := 7) C dX0_giveBribe_6 rfl rfl ?_
  refine zV_aload_n (i := 2) (n := 8) C dX0_giveBribe_7 rfl rfl rfl ?_
  refine zV_bipush (n := 10) C dX0_giveBribe_8 (by decide) rfl ?_
  refine zV_aload_n (i := 2) (n := 11) C dX0_giveBribe_10 rfl rfl rfl ?_
  refine zV_getI (f := 2) (fi := 2) (n := 14) C zk2 fX0_122 dX0_giveBribe_11 (zs_child (by omega) (by omega)) rfl (by decide) rfl rfl ?_
  rw [zc_kid (by omega) (by omega)]
  refine zV_iconst (n := 15) C dX0_giveBribe_14 rfl ?_
  refine zV_iadd (n := 16) C dX0_giveBribe_15 rfl ?_
  refine zV_mmin (n := 19) C lX0_102 dX0_giveBribe_16 (by first | omega | exact zb_rg) (by first | omega | exact zb_rg) (Nat.le_of_ble_eq_true rfl) (zfit_of (by omega) (by decide)) ⟨Nat.le_refl _, Nat.le_refl _⟩ rfl ?_
  refine zV_putI (f := 2) (fi := 2) (n := 22) C zk2 fX0_122 dX0_giveBribe_19 (zs_child (by omega) (by omega)) rfl (by decide) rfl rfl rfl rfl ?_
  rw [zcu_kid (by omega) (by omega)]
  have J1 : rInv N (zfu S (19 + 6 * x + 2) (zmin (toS S x 2 + 3) 9)) := rInv_kid I (by omega) (by omega) (by simp; omega)
  have e1 : rAt (zfu S (19 + 6 * x + 2) (zmin (toS S x 2 + 3) 9)) x = rAt S x := rAt_up (by omega)
  generalize hS1 : zfu S (19 + 6 * x + 2) (zmin (toS S x 2 + 3) 9) = S1 at J1 e1 ⊢
  have c1 : S1 0 = S 0 := by rw [← hS1]; exact zfu_ne (by omega)
  refine zV_aload_n (i := 2) (n := 23) C dX0_giveBribe_22 rfl rfl rfl ?_
  refine zV_getI (f := 6) (fi := 6) (n := 26) C zk2 fX0_91 dX0_giveBribe_23 (zs_child (by omega) (by omega)) rfl (by decide) rfl rfl ?_
  rw [zc_place (by omega)]
  rw [e1]
  refine zV_callN1u (n := 29) C jX8_isSeat (by decide) (c_isSeat (d := d) (by omega)) dX0_giveBribe_26 (Nat.le_of_ble_eq_true rfl) (zfit_of (by omega) (by decide)) ⟨Nat.le_refl _, Nat.le_refl _⟩ rfl ?_
  refine zV_if_eq (n := 32) C 57 dX0_giveBribe_29 (by decide) (by first | omega | exact zb_rg) rfl (fun h29 => ?_) (fun h29 => ?_)
  · skip
    simp only [zb_eq0, Decidable.not_not] at h29
    exact zV_return C hr hlk dX0_giveBribe_57 (by rfl) (by subst hS1; simp only [rBr]; first | rw [if_pos (by omega)] | rw [if_neg (by omega)])
  · skip
    simp only [zb_eq0, Decidable.not_not] at h29
    refine zV_aload_n (i := 0) (n := 33) C dX0_giveBribe_32 rfl rfl rfl ?_
    refine zV_getP (f := 0) (n := 36) C zk0 fX0_11 dX0_giveBribe_33 (zs_car (by omega)) rfl (by decide) rfl ?_
    refine zV_aload_n (i := 2) (n := 37) C dX0_giveBribe_36 rfl rfl rfl ?_
    refine zV_getI (f := 6) (fi := 6) (n := 40) C zk2 fX0_91 dX0_giveBribe_37 (zs_child (by omega) (by omega)) rfl (by decide) rfl rfl ?_
    rw [zc_place (by omega)]
    rw [e1]
    have hs := J1.2.2.2.2.1 (rAt S x) (by omega) (by omega)
    have z2 := zmin_rg (a := itS S1 (rAt S x) 1 + 1) (b := 9) (by omega) (by omega)
    refine zV_aald (n := 41) C dX0_giveBribe_40 (zs_carS (by omega)) (by first | omega | exact zb_rg) (by decide) (by decide) rfl ?_
    refine zS_astore_n_4_3 (n := 42) C dX0_giveBribe_41 rfl rfl ?_
    refine zV_aload_n (i := 3) (n := 43) C dX0_giveBribe_42 rfl rfl rfl ?_
    refine zV_bipush (n := 45) C dX0_giveBribe_43 (by decide) rfl ?_
    refine zV_aload_n (i := 3) (n := 46) C dX0_giveBribe_45 rfl rfl rfl ?_
    refine zV_getI (f := 1) (fi := 1) (n := 49) C zk3 fX0_65 dX0_giveBribe_46 (zs_seat (by omega) (by omega)) rfl (by decide) rfl rfl ?_
    rw [zc_seat (by omega) (by omega)]
    refine zV_iconst (n := 50) C dX0_giveBribe_49 rfl ?_
    refine zV_iadd (n := 51) C dX0_giveBribe_50 rfl ?_
    refine zV_mmin (n := 54) C lX0_102 dX0_giveBribe_51 (by first | omega | exact zb_rg) (by first | omega | exact zb_rg) (Nat.le_of_ble_eq_true rfl) (zfit_of (by omega) (by decide)) ⟨Nat.le_refl _, Nat.le_refl _⟩ rfl ?_
    refine zV_putI (f := 1) (fi := 1) (n := 57) C zk3 fX0_65 dX0_giveBribe_54 (zs_seat (by omega) (by omega)) rfl (by decide) rfl rfl rfl rfl ?_
    rw [zcu_seat (by omega) (by omega)]
    exact zV_return C hr hlk dX0_giveBribe_57 (by rfl) (by subst hS1; simp only [rBr]; first | rw [if_pos (by omega)] | rw [if_neg (by omega)])

