/-! the class: sheets, tape (laid by wip/whole/gen/cls7.py) -/
set_option maxRecDepth 100000 in
set_option maxHeartbeats 4000000 in
theorem c_isMissing {Γ : zC} {l : Launch} {d : Nat} {μ : zMem} {j : Int} (hj : 0 ≤ j ∧ j < 4) {b : Int} (hb : μ 4 (9 + j) 1 = b) (hr : b = 0 ∨ b = 8 ∨ b = 16 ∨ b = 64)  : zRet Γ l (d + 0) qX5_isMissing [.ref (za Γ 4 (9 + j))] μ (some (.int (zi (zb (b = 0))))) μ := by
  refine zRet.mk 0 [.ref (za Γ 4 (9 + j))] RX5 rfl (by decide +kernel) (Nat.le_of_ble_eq_true rfl) rfl ?_
  intro p e s m below meth c C hr hlk
  refine zV_aload_n (i := 0) (n := 1) C dX5_isMissing_0 rfl rfl rfl ?_
  refine zV_getI (f := 1) (fi := 1) (n := 4) C zk4 fX5_15 dX5_isMissing_1 (zs_sheet (by omega)) rfl (by decide) rfl rfl ?_
  rw [hb]
  refine zV_if_ne (n := 7) C 11 dX5_isMissing_4 (by decide) (by first | omega | exact zb_rg) rfl (fun h4 => ?_) (fun h4 => ?_)
  · skip
    refine zV_iconst (n := 12) C dX5_isMissing_11 rfl ?_
    exact zV_zreturn C hr hlk dX5_isMissing_12 (by first | rfl | exact (zi_z zb_01).1 | exact (zi_z (by omega)).1) (by first | exact (congrArg (fun z => some (Value.int (zi z))) (zb_t (by omega)).symm) | exact (congrArg (fun z => some (Value.int (zi z))) (zb_f (by omega)).symm)) (by rfl)
  · skip
    refine zV_iconst (n := 8) C dX5_isMissing_7 rfl ?_
    refine zV_goto C 12 dX5_isMissing_8 (by decide) ?_
    exact zV_zreturn C hr hlk dX5_isMissing_12 (by first | rfl | exact (zi_z zb_01).1 | exact (zi_z (by omega)).1) (by first | exact (congrArg (fun z => some (Value.int (zi z))) (zb_t (by omega)).symm) | exact (congrArg (fun z => some (Value.int (zi z))) (zb_f (by omega)).symm)) (by rfl)

set_option maxRecDepth 100000 in
set_option maxHeartbeats 4000000 in
theorem c_holds {Γ : zC} {l : Launch} {d : Nat} {μ : zMem} {j : Int} (hj : 0 ≤ j ∧ j < 4) {z f n : Int} (hz : μ 4 (9 + j) 2 = z) (hr : 0 ≤ z ∧ z ≤ 40) (hf : -2147483648 ≤ f ∧ f ≤ 2147483647) (hn : -2147483648 ≤ n ∧ n ≤ 2147483647) : zRet Γ l (d + 0) qX5_holds [.ref (za Γ 4 (9 + j)), .int (zi f), .int (zi n)] μ (some (.int (zi (zb (0 ≤ f ∧ 0 ≤ n ∧ n ≤ z - f))))) μ := by
  refine zRet.mk 0 [.ref (za Γ 4 (9 + j)), .int (zi f), .int (zi n)] RX5 rfl (by decide +kernel) (Nat.le_of_ble_eq_true rfl) rfl ?_
  intro p e s m below meth c C hr hlk
  refine zV_iload_n (i := 1) (n := 1) C dX5_holds_0 rfl rfl rfl ?_
  refine zV_if_lt (n := 4) C 30 dX5_holds_1 (by decide) (by first | omega | exact zb_rg) rfl (fun h1 => ?_) (fun h1 => ?_)
  · skip
    refine zV_iconst (n := 31) C dX5_holds_30 rfl ?_
    exact zV_zreturn C hr hlk dX5_holds_31 (by first | rfl | exact (zi_z zb_01).1 | exact (zi_z (by omega)).1) (by first | exact (congrArg (fun z => some (Value.int (zi z))) (zb_t (by omega)).symm) | exact (congrArg (fun z => some (Value.int (zi z))) (zb_f (by omega)).symm)) (by rfl)
  · skip
    refine zV_iload_n (i := 2) (n := 5) C dX5_holds_4 rfl rfl rfl ?_
    refine zV_if_lt (n := 8) C 30 dX5_holds_5 (by decide) (by first | omega | exact zb_rg) rfl (fun h5 => ?_) (fun h5 => ?_)
    · skip
      refine zV_iconst (n := 31) C dX5_holds_30 rfl ?_
      exact zV_zreturn C hr hlk dX5_holds_31 (by first | rfl | exact (zi_z zb_01).1 | exact (zi_z (by omega)).1) (by first | exact (congrArg (fun z => some (Value.int (zi z))) (zb_t (by omega)).symm) | exact (congrArg (fun z => some (Value.int (zi z))) (zb_f (by omega)).symm)) (by rfl)
    · skip
      refine zV_iload_n (i := 2) (n := 9) C dX5_holds_8 rfl rfl rfl ?_
      refine zV_aload_n (i := 0) (n := 10) C dX5_holds_9 rfl rfl rfl ?_
      refine zV_getI (f := 2) (fi := 2) (n := 13) C zk4 fX5_19 dX5_holds_10 (zs_sheet (by omega)) rfl (by decide) rfl rfl ?_
      rw [hz]
      refine zV_icmp_gt (n := 16) C 30 dX5_holds_13 (by decide) (by first | omega | exact zb_rg) (by first | omega | exact zb_rg) rfl (fun h13 => ?_) (fun h13 => ?_)
      · skip
        refine zV_iconst (n := 31) C dX5_holds_30 rfl ?_
        exact zV_zreturn C hr hlk dX5_holds_31 (by first | rfl | exact (zi_z zb_01).1 | exact (zi_z (by omega)).1) (by first | exact (congrArg (fun z => some (Value.int (zi z))) (zb_t (by omega)).symm) | exact (congrArg (fun z => some (Value.int (zi z))) (zb_f (by omega)).symm)) (by rfl)
      · skip
        refine zV_iload_n (i := 1) (n := 17) C dX5_holds_16 rfl rfl rfl ?_
        refine zV_aload_n (i := 0) (n := 18) C dX5_holds_17 rfl rfl rfl ?_
        refine zV_getI (f := 2) (fi := 2) (n := 21) C zk4 fX5_19 dX5_holds_18 (zs_sheet (by omega)) rfl (by decide) rfl rfl ?_
        rw [hz]
        refine zV_iload_n (i := 2) (n := 22) C dX5_holds_21 rfl rfl rfl ?_
        refine zV_isub (n := 23) C dX5_holds_22 rfl ?_
        refine zV_icmp_gt (n := 26) C 30 dX5_holds_23 (by decide) (by first | omega | exact zb_rg) (by first | omega | exact zb_rg) rfl (fun h23 => ?_) (fun h23 => ?_)
        · skip
          refine zV_iconst (n := 31) C dX5_holds_30 rfl ?_
          exact zV_zreturn C hr hlk dX5_holds_31 (by first | rfl | exact (zi_z zb_01).1 | exact (zi_z (by omega)).1) (by first | exact (congrArg (fun z => some (Value.int (zi z))) (zb_t (by omega)).symm) | exact (congrArg (fun z => some (Value.int (zi z))) (zb_f (by omega)).symm)) (by rfl)
        · skip
          refine zV_iconst (n := 27) C dX5_holds_26 rfl ?_
          refine zV_goto C 31 dX5_holds_27 (by decide) ?_
          exact zV_zreturn C hr hlk dX5_holds_31 (by first | rfl | exact (zi_z zb_01).1 | exact (zi_z (by omega)).1) (by first | exact (congrArg (fun z => some (Value.int (zi z))) (zb_t (by omega)).symm) | exact (congrArg (fun z => some (Value.int (zi z))) (zb_f (by omega)).symm)) (by rfl)

set_option maxRecDepth 100000 in
set_option maxHeartbeats 4000000 in
theorem c_sheet_put {Γ : zC} {l : Launch} {d : Nat} {μ : zMem} {j : Int} (hj : 0 ≤ j ∧ j < 4) {b i v : Int} (hb : μ 4 (9 + j) 1 = b) (hr : b = 0 ∨ b = 8 ∨ b = 16 ∨ b = 64) (hi : 0 ≤ i ∧ i < 40) (hv : -9223372036854775808 ≤ v ∧ v ≤ 9223372036854775807) : zRet Γ l (d + 0) qX5_put [.ref (za Γ 4 (9 + j)), .int (zi i), .long (zl v)] μ none (zup μ 4 (13 + j) i (rNar b v)) := by
  refine zRet.mk 0 [.ref (za Γ 4 (9 + j)), .int (zi i), .long (zl v), .null] RX5 rfl (by decide +kernel) (Nat.le_of_ble_eq_true rfl) rfl ?_
  intro p e s m below meth c C hr hlk
  refine zV_aload_n (i := 0) (n := 1) C dX5_put_0 rfl rfl rfl ?_
  refine zV_getI (f := 1) (fi := 1) (n := 4) C zk4 fX5_15 dX5_put_1 (zs_sheet (by omega)) rfl (by decide) rfl rfl ?_
  rw [hb]
  refine zV_bipush (n := 6) C dX5_put_4 (by decide) rfl ?_
  refine zV_icmp_ne (n := 9) C 22 dX5_put_6 (by decide) (by first | omega | exact zb_rg) (by first | omega | exact zb_rg) rfl (fun h6 => ?_) (fun h6 => ?_)
  · skip
    refine zV_aload_n (i := 0) (n := 23) C dX5_put_22 rfl rfl rfl ?_
    refine zV_getI (f := 1) (fi := 1) (n := 26) C zk4 fX5_15 dX5_put_23 (zs_sheet (by omega)) rfl (by decide) rfl rfl ?_
    rw [hb]
    refine zV_bipush (n := 28) C dX5_put_26 (by decide) rfl ?_
    refine zV_icmp_ne (n := 31) C 44 dX5_put_28 (by decide) (by first | omega | exact zb_rg) (by first | omega | exact zb_rg) rfl (fun h28 => ?_) (fun h28 => ?_)
    · skip
      refine zV_aload_n (i := 0) (n := 45) C dX5_put_44 rfl rfl rfl ?_
      refine zV_getP (f := 0) (n := 48) C zk4 fX5_9 dX5_put_45 (zs_sheet (by omega)) rfl (by decide) rfl ?_
      refine zV_iload_n (i := 1) (n := 49) C dX5_put_48 rfl rfl rfl ?_
      refine zV_lload_n (i := 2) (n := 50) C dX5_put_49 rfl rfl rfl ?_
      refine zV_last (n := 51) C dX5_put_50 (zs_nums (by omega)) (by first | omega | exact zb_rg) (by decide) rfl ?_
      exact zV_return C hr hlk dX5_put_51 (by rfl) (by exact congrArg (zup μ 4 (13 + j) i) (by unfold rNar; (repeat' split) <;> first | rfl | (exfalso; omega)))
    · skip
      refine zV_aload_n (i := 0) (n := 32) C dX5_put_31 rfl rfl rfl ?_
      refine zV_getP (f := 0) (n := 35) C zk4 fX5_9 dX5_put_32 (zs_sheet (by omega)) rfl (by decide) rfl ?_
      refine zV_iload_n (i := 1) (n := 36) C dX5_put_35 rfl rfl rfl ?_
      refine zV_lload_n (i := 2) (n := 37) C dX5_put_36 rfl rfl rfl ?_
      refine zV_l2i (n := 38) C dX5_put_37 rfl ?_
      refine zV_i2s (n := 39) C dX5_put_38 (z_i2s v) rfl ?_
      have r16 := bm16_rg v
      refine zV_i2l (n := 40) C dX5_put_39 (by first | omega | exact zb_rg) rfl ?_
      refine zV_last (n := 41) C dX5_put_40 (zs_nums (by omega)) (by first | omega | exact zb_rg) (by decide) rfl ?_
      refine zV_goto C 51 dX5_put_41 (by decide) ?_
      exact zV_return C hr hlk dX5_put_51 (by rfl) (by exact congrArg (zup μ 4 (13 + j) i) (by unfold rNar; (repeat' split) <;> first | rfl | (exfalso; omega)))
  · skip
    refine zV_aload_n (i := 0) (n := 10) C dX5_put_9 rfl rfl rfl ?_
    refine zV_getP (f := 0) (n := 13) C zk4 fX5_9 dX5_put_10 (zs_sheet (by omega)) rfl (by decide) rfl ?_
    refine zV_iload_n (i := 1) (n := 14) C dX5_put_13 rfl rfl rfl ?_
    refine zV_lload_n (i := 2) (n := 15) C dX5_put_14 rfl rfl rfl ?_
    refine zV_l2i (n := 16) C dX5_put_15 rfl ?_
    refine zV_i2b (n := 17) C dX5_put_16 (z_i2b v) rfl ?_
    have r8 := bm8_rg v
    refine zV_i2l (n := 18) C dX5_put_17 (by first | omega | exact zb_rg) rfl ?_
    refine zV_last (n := 19) C dX5_put_18 (zs_nums (by omega)) (by first | omega | exact zb_rg) (by decide) rfl ?_
    refine zV_goto C 51 dX5_put_19 (by decide) ?_
    exact zV_return C hr hlk dX5_put_51 (by rfl) (by exact congrArg (zup μ 4 (13 + j) i) (by unfold rNar; (repeat' split) <;> first | rfl | (exfalso; omega)))

set_option maxRecDepth 100000 in
set_option maxHeartbeats 4000000 in
theorem c_make_loop {Γ : zC} {l : Launch} {d : Nat} {p : Program} {e : Env} {s : State} {m : MethodId} {args : Array Value} {below : List Frame} {meth : Method} {c : Code} {Q : State → Prop} (C : zCx Γ (zAA Γ) p s m args c RX5 cX5_make 4) {ν : zMem} {j : Int} (hj : 0 ≤ j ∧ j < 4) {b n : Int} :
    ∀ (i : Nat) (k : Int) (h0 : 0 ≤ k) (hi : k + i = 40) (KK : zV Γ (zAA Γ) p l e (zRm (d + 0)) s m args below meth c 0 0 Q 31 [.ref (za Γ 4 (9 + j)), .int (zi b), .int (zi n), .int (zi 40)] [] (zset ν 4 (13 + j) (fun i => if 0 ≤ i ∧ i < 0 + 40 then 0 else ν 4 (13 + j) i))), zV Γ (zAA Γ) p l e (zRm (d + 0)) s m args below meth c 0 0 Q 12 [.ref (za Γ 4 (9 + j)), .int (zi b), .int (zi n), .int (zi k)] [] (zset ν 4 (13 + j) (fun i => if 0 ≤ i ∧ i < 0 + k then 0 else ν 4 (13 + j) i)) := by
  intro i
  induction i with
  | zero =>
    intro k h0 hi KK
    have hk : k = 40 := by omega
    subst hk
    refine zV_iload_n (i := 3) (n := 13) C dX5_make_12 rfl rfl rfl ?_
    refine zV_bipush (n := 15) C dX5_make_13 (by decide) rfl ?_
    refine zV_icmp_ge (n := 18) C 31 dX5_make_15 (by decide) (by first | omega | exact zb_rg) (by first | omega | exact zb_rg) rfl (fun h15 => ?_) (fun h => by exfalso; first | omega | exact zb_rg)
    exact KK
  | succ i ih =>
    intro k h0 hi KK
    refine zV_iload_n (i := 3) (n := 13) C dX5_make_12 rfl rfl rfl ?_
    refine zV_bipush (n := 15) C dX5_make_13 (by decide) rfl ?_
    refine zV_icmp_ge (n := 18) C 31 dX5_make_15 (by decide) (by first | omega | exact zb_rg) (by first | omega | exact zb_rg) rfl (fun h => by exfalso; first | omega | exact zb_rg) (fun h15 => ?_)
    refine zV_aload_n (i := 0) (n := 19) C dX5_make_18 rfl rfl rfl ?_
    refine zV_getP (f := 0) (n := 22) C zk4 fX5_9 dX5_make_19 (zs_sheet (by omega)) rfl (by decide) rfl ?_
    refine zV_iload_n (i := 3) (n := 23) C dX5_make_22 rfl rfl rfl ?_
    refine zV_lconst (v := 0) (n := 24) C dX5_make_23 rfl rfl ?_
    refine zV_last (n := 25) C dX5_make_24 (zs_nums (by omega)) (by first | omega | exact zb_rg) (by decide) rfl ?_
    rw [zup_set, show zfu (fun i => if 0 ≤ i ∧ i < 0 + k then 0 else ν 4 (13 + j) i) k 0 = (fun i => if 0 ≤ i ∧ i < 0 + (k + 1) then 0 else ν 4 (13 + j) i) from by have e9 := rRow_step (F := ν 4 (13 + j)) (a := 0) (k := k) h0; rw [show (0 : Int) + k = k from Int.zero_add k] at e9 ⊢; exact e9]
    refine zS_iinc_4_3 (n := 28) C dX5_make_25 rfl rfl ?_
    refine zV_goto C 12 dX5_make_28 (by decide) ?_
    exact ih (k + 1) (by omega) (by omega) KK

set_option maxRecDepth 100000 in
set_option maxHeartbeats 4000000 in
theorem c_make {Γ : zC} {l : Launch} {d : Nat} {μ : zMem} {j : Int} (hj : 0 ≤ j ∧ j < 4) {b n : Int} : zRet Γ l (d + 0) qX5_make [.ref (za Γ 4 (9 + j)), .int (zi b), .int (zi n)] μ none (zset (zup (zup μ 4 (9 + j) 1 b) 4 (9 + j) 2 n) 4 (13 + j) (fun i => if 0 ≤ i ∧ i < 0 + 40 then 0 else (zup (zup μ 4 (9 + j) 1 b) 4 (9 + j) 2 n) 4 (13 + j) i)) := by
  refine zRet.mk 1 [.ref (za Γ 4 (9 + j)), .int (zi b), .int (zi n), .null] RX5 rfl (by decide +kernel) (Nat.le_of_ble_eq_true rfl) rfl ?_
  intro p e s m below meth c C hr hlk
  refine zV_aload_n (i := 0) (n := 1) C dX5_make_0 rfl rfl rfl ?_
  refine zV_iload_n (i := 1) (n := 2) C dX5_make_1 rfl rfl rfl ?_
  refine zV_putI (f := 1) (fi := 1) (n := 5) C zk4 fX5_15 dX5_make_2 (zs_sheet (by omega)) rfl (by decide) rfl rfl rfl rfl ?_
  refine zV_aload_n (i := 0) (n := 6) C dX5_make_5 rfl rfl rfl ?_
  refine zV_iload_n (i := 2) (n := 7) C dX5_make_6 rfl rfl rfl ?_
  refine zV_putI (f := 2) (fi := 2) (n := 10) C zk4 fX5_19 dX5_make_7 (zs_sheet (by omega)) rfl (by decide) rfl rfl rfl rfl ?_
  refine zV_iconst (n := 11) C dX5_make_10 rfl ?_
  refine zS_istore_n_4_3 (n := 12) C dX5_make_11 rfl rfl ?_
  refine zV_eqm (μ' := zset (zup (zup μ 4 (9 + j) 1 b) 4 (9 + j) 2 n) 4 (13 + j) (fun i => if 0 ≤ i ∧ i < 0 + 0 then 0 else (zup (zup μ 4 (9 + j) 1 b) 4 (9 + j) 2 n) 4 (13 + j) i)) zst0.symm ?_
  refine c_make_loop (ν := (zup (zup μ 4 (9 + j) 1 b) 4 (9 + j) 2 n)) C hj 40 0 (by omega) (by omega) ?_
  exact zV_return C hr hlk dX5_make_31 rfl rfl

set_option maxRecDepth 100000 in
set_option maxHeartbeats 4000000 in
theorem c_sheet {Γ : zC} {l : Launch} {d : Nat} {μ : zMem} {B Z M : Int → Int} (hS : rSh B Z M) {j : Int} (hj : -2147483648 ≤ j ∧ j ≤ 2147483647) {b : Int} (hb : -2147483648 ≤ b ∧ b ≤ 2147483647) {n : Int} (hn : -2147483648 ≤ n ∧ n ≤ 2147483647) : zRet Γ l (d + 1) qX8_sheet [.ref (za Γ 4 0), .int (zi j), .int (zi b), .int (zi n)] (zsht μ B Z M) (some (.int (zi (if ((0 ≤ j ∧ j ≤ 3) ∧ (b = 0 ∨ b = 8 ∨ b = 16 ∨ b = 64)) then (if n < 0 then -1000000007 else if 40 < n then -1000000001 else (if b = 0 then 0 else n)) else -1000000001)))) (if ((0 ≤ j ∧ j ≤ 3) ∧ (b = 0 ∨ b = 8 ∨ b = 16 ∨ b = 64)) then (if n < 0 then zset (zsht μ B Z M) 4 17 (rFind ((zsht μ B Z M) 4 17) (-1000000007)) else if 40 < n then zset (zsht μ B Z M) 4 17 (rFind ((zsht μ B Z M) 4 17) (-1000000001)) else (zsht μ (zfu B j b) (zfu Z j (if b = 0 then 0 else n)) (fun i => if (40 * j) ≤ i ∧ i < (40 * j) + 40 then 0 else M i))) else zset (zsht μ B Z M) 4 17 (rFind ((zsht μ B Z M) 4 17) (-1000000001))) := by
  refine zRet.mk 0 [.ref (za Γ 4 0), .int (zi j), .int (zi b), .int (zi n)] RX8 rfl (by decide +kernel) (Nat.le_of_ble_eq_true rfl) rfl ?_
  intro p e s m below meth c C hr hlk
  refine zV_iload_n (i := 1) (n := 1) C dX8_sheet_0 rfl rfl rfl ?_
  refine zV_callS1u (n := 4) C jX8_isSheet lX8_230 (c_isSheet (d := d) (by omega)) dX8_sheet_1 (Nat.le_of_ble_eq_true rfl) (zfit_of (by omega) (by decide)) ⟨Nat.le_refl _, Nat.le_refl _⟩ rfl ?_
  refine zV_if_eq (n := 7) C 29 dX8_sheet_4 (by decide) (by first | omega | exact zb_rg) rfl (fun h4 => ?_) (fun h4 => ?_)
  · skip
    simp only [zb_eq0, Decidable.not_not] at h4
    refine zV_aload_n (i := 0) (n := 30) C dX8_sheet_29 rfl rfl rfl ?_
    refine zV_iconst (n := 31) C dX8_sheet_30 rfl ?_
    refine zV_callV1u (n := 34) C zk7 jX8_tell lX8_61 (c_tell (d := d) (f := 0) (code := -1000000001) (by decide) (by decide)) dX8_sheet_31 zs_cls rfl (Nat.le_of_ble_eq_true rfl) (zfit_of (by omega) (by decide)) ⟨Nat.le_refl _, Nat.le_refl _⟩ rfl ?_
    exact zV_ireturn C hr hlk dX8_sheet_34 (by first | exact congrArg (fun z => some (Value.int (zi z))) (zif_t (by omega) (zif_t (by omega) rfl)) | exact congrArg (fun z => some (Value.int (zi z))) (zif_t (by omega) (zif_f (by omega) (zif_t (by omega) rfl))) | exact congrArg (fun z => some (Value.int (zi z))) (zif_t (by omega) (zif_f (by omega) (zif_f (by omega) (if_pos rfl)))) | exact congrArg (fun z => some (Value.int (zi z))) (zif_f (by omega) rfl)) (by first | exact zif_t (by omega) (zif_t (by omega) rfl) | exact zif_t (by omega) (zif_f (by omega) (zif_t (by omega) rfl)) | exact zif_t (by omega) (zif_f (by omega) (zif_f (by omega) (rfl))) | exact zif_f (by omega) rfl)
  · skip
    simp only [zb_eq0, Decidable.not_not] at h4
    refine zV_iload_n (i := 2) (n := 8) C dX8_sheet_7 rfl rfl rfl ?_
    refine zV_if_eq (n := 11) C 35 dX8_sheet_8 (by decide) (by first | omega | exact zb_rg) rfl (fun h8 => ?_) (fun h8 => ?_)
    · skip
      refine zV_iload_n (i := 3) (n := 36) C dX8_sheet_35 rfl rfl rfl ?_
      refine zV_if_ge (n := 39) C 46 dX8_sheet_36 (by decide) (by first | omega | exact zb_rg) rfl (fun h36 => ?_) (fun h36 => ?_)
      · skip
        refine zV_iload_n (i := 3) (n := 47) C dX8_sheet_46 rfl rfl rfl ?_
        refine zV_bipush (n := 49) C dX8_sheet_47 (by decide) rfl ?_
        refine zV_icmp_le (n := 52) C 58 dX8_sheet_49 (by decide) (by first | omega | exact zb_rg) (by first | omega | exact zb_rg) rfl (fun h49 => ?_) (fun h49 => ?_)
        · skip
          refine zV_aload_n (i := 0) (n := 59) C dX8_sheet_58 rfl rfl rfl ?_
          refine zV_getP (f := 5) (n := 62) C zk7 fX8_38 dX8_sheet_59 zs_cls rfl (by decide) rfl ?_
          refine zV_iload_n (i := 1) (n := 63) C dX8_sheet_62 rfl rfl rfl ?_
          refine zV_aald (n := 64) C dX8_sheet_63 zs_sheets (by first | omega | exact zb_rg) (by decide) (by decide) rfl ?_
          refine zV_iload_n (i := 2) (n := 65) C dX8_sheet_64 rfl rfl rfl ?_
          refine zV_iload_n (i := 2) (n := 66) C dX8_sheet_65 rfl rfl rfl ?_
          refine zV_if_ne (n := 69) C 73 dX8_sheet_66 (by decide) (by first | omega | exact zb_rg) rfl (fun h66 => ?_) (fun h66 => ?_)
          · skip
            refine zV_iload_n (i := 3) (n := 74) C dX8_sheet_73 rfl rfl rfl ?_
            refine zV_callV2v (n := 77) C zk4 jX5_make lX8_233 (c_make (d := d) (j := j) (by omega)) dX8_sheet_74 (zs_sheet (by omega)) rfl (Nat.le_of_ble_eq_true rfl) (zfit_of (by omega) (by decide)) ⟨Nat.le_refl _, Nat.le_refl _⟩ rfl ?_
            have e1 : ∀ q : Int, q = (if b = 0 then 0 else n) → zset (zup (zup (zsht μ B Z M) 4 (9 + j) 1 b) 4 (9 + j) 2 q) 4 (13 + j) (fun i => if 0 ≤ i ∧ i < 0 + 40 then 0 else zup (zup (zsht μ B Z M) 4 (9 + j) 1 b) 4 (9 + j) 2 q 4 (13 + j) i) = (zsht μ (zfu B j b) (zfu Z j (if b = 0 then 0 else n)) (fun i => if (40 * j) ≤ i ∧ i < (40 * j) + 40 then 0 else M i)) := by
              intro q hq
              subst hq
              rw [zsu_b (by omega), zsu_z (by omega)]
              exact zss_n (by omega) (fun i a b => by rw [if_pos (by omega), if_pos (by omega)]) (fun i a => by rw [if_neg (by omega)]; unfold zsht; rw [if_neg (by omega), if_neg (by omega), if_neg (by omega)]) (fun i a => if_neg a)
            rw [e1 _ (by first | exact (if_pos (by omega)).symm | exact (if_neg (by omega)).symm)]
            refine zV_aload_n (i := 0) (n := 78) C dX8_sheet_77 rfl rfl rfl ?_
            refine zV_getP (f := 5) (n := 81) C zk7 fX8_38 dX8_sheet_78 zs_cls rfl (by decide) rfl ?_
            refine zV_iload_n (i := 1) (n := 82) C dX8_sheet_81 rfl rfl rfl ?_
            refine zV_aald (n := 83) C dX8_sheet_82 zs_sheets (by first | omega | exact zb_rg) (by decide) (by decide) rfl ?_
            refine zV_getI (f := 2) (fi := 2) (n := 86) C zk4 fX8_236 dX8_sheet_83 (zs_sheet (by omega)) rfl (by decide) rfl rfl ?_
            rw [zsz (by omega)]
            exact zV_ireturn C hr hlk dX8_sheet_86 (by first | exact congrArg (fun z => some (Value.int (zi z))) (zif_t (by omega) (zif_t (by omega) rfl)) | exact congrArg (fun z => some (Value.int (zi z))) (zif_t (by omega) (zif_f (by omega) (zif_t (by omega) rfl))) | exact congrArg (fun z => some (Value.int (zi z))) (zif_t (by omega) (zif_f (by omega) (zif_f (by omega) (if_pos rfl)))) | exact congrArg (fun z => some (Value.int (zi z))) (zif_f (by omega) rfl)) (by first | exact zif_t (by omega) (zif_t (by omega) rfl) | exact zif_t (by omega) (zif_f (by omega) (zif_t (by omega) rfl)) | exact zif_t (by omega) (zif_f (by omega) (zif_f (by omega) (rfl))) | exact zif_f (by omega) rfl)
          · skip
            refine zV_iconst (n := 70) C dX8_sheet_69 rfl ?_
            refine zV_goto C 74 dX8_sheet_70 (by decide) ?_
            refine zV_callV2v (n := 77) C zk4 jX5_make lX8_233 (c_make (d := d) (j := j) (by omega)) dX8_sheet_74 (zs_sheet (by omega)) rfl (Nat.le_of_ble_eq_true rfl) (zfit_of (by omega) (by decide)) ⟨Nat.le_refl _, Nat.le_refl _⟩ rfl ?_
            have e1 : ∀ q : Int, q = (if b = 0 then 0 else n) → zset (zup (zup (zsht μ B Z M) 4 (9 + j) 1 b) 4 (9 + j) 2 q) 4 (13 + j) (fun i => if 0 ≤ i ∧ i < 0 + 40 then 0 else zup (zup (zsht μ B Z M) 4 (9 + j) 1 b) 4 (9 + j) 2 q 4 (13 + j) i) = (zsht μ (zfu B j b) (zfu Z j (if b = 0 then 0 else n)) (fun i => if (40 * j) ≤ i ∧ i < (40 * j) + 40 then 0 else M i)) := by
              intro q hq
              subst hq
              rw [zsu_b (by omega), zsu_z (by omega)]
              exact zss_n (by omega) (fun i a b => by rw [if_pos (by omega), if_pos (by omega)]) (fun i a => by rw [if_neg (by omega)]; unfold zsht; rw [if_neg (by omega), if_neg (by omega), if_neg (by omega)]) (fun i a => if_neg a)
            rw [e1 _ (by first | exact (if_pos (by omega)).symm | exact (if_neg (by omega)).symm)]
            refine zV_aload_n (i := 0) (n := 78) C dX8_sheet_77 rfl rfl rfl ?_
            refine zV_getP (f := 5) (n := 81) C zk7 fX8_38 dX8_sheet_78 zs_cls rfl (by decide) rfl ?_
            refine zV_iload_n (i := 1) (n := 82) C dX8_sheet_81 rfl rfl rfl ?_
            refine zV_aald (n := 83) C dX8_sheet_82 zs_sheets (by first | omega | exact zb_rg) (by decide) (by decide) rfl ?_
            refine zV_getI (f := 2) (fi := 2) (n := 86) C zk4 fX8_236 dX8_sheet_83 (zs_sheet (by omega)) rfl (by decide) rfl rfl ?_
            rw [zsz (by omega)]
            exact zV_ireturn C hr hlk dX8_sheet_86 (by first | exact congrArg (fun z => some (Value.int (zi z))) (zif_t (by omega) (zif_t (by omega) rfl)) | exact congrArg (fun z => some (Value.int (zi z))) (zif_t (by omega) (zif_f (by omega) (zif_t (by omega) rfl))) | exact congrArg (fun z => some (Value.int (zi z))) (zif_t (by omega) (zif_f (by omega) (zif_f (by omega) (if_pos rfl)))) | exact congrArg (fun z => some (Value.int (zi z))) (zif_f (by omega) rfl)) (by first | exact zif_t (by omega) (zif_t (by omega) rfl) | exact zif_t (by omega) (zif_f (by omega) (zif_t (by omega) rfl)) | exact zif_t (by omega) (zif_f (by omega) (zif_f (by omega) (rfl))) | exact zif_f (by omega) rfl)
        · skip
          refine zV_aload_n (i := 0) (n := 53) C dX8_sheet_52 rfl rfl rfl ?_
          refine zV_iconst (n := 54) C dX8_sheet_53 rfl ?_
          refine zV_callV1u (n := 57) C zk7 jX8_tell lX8_61 (c_tell (d := d) (f := 0) (code := -1000000001) (by decide) (by decide)) dX8_sheet_54 zs_cls rfl (Nat.le_of_ble_eq_true rfl) (zfit_of (by omega) (by decide)) ⟨Nat.le_refl _, Nat.le_refl _⟩ rfl ?_
          exact zV_ireturn C hr hlk dX8_sheet_57 (by first | exact congrArg (fun z => some (Value.int (zi z))) (zif_t (by omega) (zif_t (by omega) rfl)) | exact congrArg (fun z => some (Value.int (zi z))) (zif_t (by omega) (zif_f (by omega) (zif_t (by omega) rfl))) | exact congrArg (fun z => some (Value.int (zi z))) (zif_t (by omega) (zif_f (by omega) (zif_f (by omega) (if_pos rfl)))) | exact congrArg (fun z => some (Value.int (zi z))) (zif_f (by omega) rfl)) (by first | exact zif_t (by omega) (zif_t (by omega) rfl) | exact zif_t (by omega) (zif_f (by omega) (zif_t (by omega) rfl)) | exact zif_t (by omega) (zif_f (by omega) (zif_f (by omega) (rfl))) | exact zif_f (by omega) rfl)
      · skip
        refine zV_aload_n (i := 0) (n := 40) C dX8_sheet_39 rfl rfl rfl ?_
        refine zV_bipush (n := 42) C dX8_sheet_40 (by decide) rfl ?_
        refine zV_callV1u (n := 45) C zk7 jX8_tell lX8_61 (c_tell (d := d) (f := 6) (code := -1000000007) (by decide) (by decide)) dX8_sheet_42 zs_cls rfl (Nat.le_of_ble_eq_true rfl) (zfit_of (by omega) (by decide)) ⟨Nat.le_refl _, Nat.le_refl _⟩ rfl ?_
        exact zV_ireturn C hr hlk dX8_sheet_45 (by first | exact congrArg (fun z => some (Value.int (zi z))) (zif_t (by omega) (zif_t (by omega) rfl)) | exact congrArg (fun z => some (Value.int (zi z))) (zif_t (by omega) (zif_f (by omega) (zif_t (by omega) rfl))) | exact congrArg (fun z => some (Value.int (zi z))) (zif_t (by omega) (zif_f (by omega) (zif_f (by omega) (if_pos rfl)))) | exact congrArg (fun z => some (Value.int (zi z))) (zif_f (by omega) rfl)) (by first | exact zif_t (by omega) (zif_t (by omega) rfl) | exact zif_t (by omega) (zif_f (by omega) (zif_t (by omega) rfl)) | exact zif_t (by omega) (zif_f (by omega) (zif_f (by omega) (rfl))) | exact zif_f (by omega) rfl)
    · skip
      refine zV_iload_n (i := 2) (n := 12) C dX8_sheet_11 rfl rfl rfl ?_
      refine zV_bipush (n := 14) C dX8_sheet_12 (by decide) rfl ?_
      refine zV_icmp_eq (n := 17) C 35 dX8_sheet_14 (by decide) (by first | omega | exact zb_rg) (by first | omega | exact zb_rg) rfl (fun h14 => ?_) (fun h14 => ?_)
      · skip
        refine zV_iload_n (i := 3) (n := 36) C dX8_sheet_35 rfl rfl rfl ?_
        refine zV_if_ge (n := 39) C 46 dX8_sheet_36 (by decide) (by first | omega | exact zb_rg) rfl (fun h36 => ?_) (fun h36 => ?_)
        · skip
          refine zV_iload_n (i := 3) (n := 47) C dX8_sheet_46 rfl rfl rfl ?_
          refine zV_bipush (n := 49) C dX8_sheet_47 (by decide) rfl ?_
          refine zV_icmp_le (n := 52) C 58 dX8_sheet_49 (by decide) (by first | omega | exact zb_rg) (by first | omega | exact zb_rg) rfl (fun h49 => ?_) (fun h49 => ?_)
          · skip
            refine zV_aload_n (i := 0) (n := 59) C dX8_sheet_58 rfl rfl rfl ?_
            refine zV_getP (f := 5) (n := 62) C zk7 fX8_38 dX8_sheet_59 zs_cls rfl (by decide) rfl ?_
            refine zV_iload_n (i := 1) (n := 63) C dX8_sheet_62 rfl rfl rfl ?_
            refine zV_aald (n := 64) C dX8_sheet_63 zs_sheets (by first | omega | exact zb_rg) (by decide) (by decide) rfl ?_
            refine zV_iload_n (i := 2) (n := 65) C dX8_sheet_64 rfl rfl rfl ?_
            refine zV_iload_n (i := 2) (n := 66) C dX8_sheet_65 rfl rfl rfl ?_
            refine zV_if_ne (n := 69) C 73 dX8_sheet_66 (by decide) (by first | omega | exact zb_rg) rfl (fun h66 => ?_) (fun h66 => ?_)
            · skip
              refine zV_iload_n (i := 3) (n := 74) C dX8_sheet_73 rfl rfl rfl ?_
              refine zV_callV2v (n := 77) C zk4 jX5_make lX8_233 (c_make (d := d) (j := j) (by omega)) dX8_sheet_74 (zs_sheet (by omega)) rfl (Nat.le_of_ble_eq_true rfl) (zfit_of (by omega) (by decide)) ⟨Nat.le_refl _, Nat.le_refl _⟩ rfl ?_
              have e1 : ∀ q : Int, q = (if b = 0 then 0 else n) → zset (zup (zup (zsht μ B Z M) 4 (9 + j) 1 b) 4 (9 + j) 2 q) 4 (13 + j) (fun i => if 0 ≤ i ∧ i < 0 + 40 then 0 else zup (zup (zsht μ B Z M) 4 (9 + j) 1 b) 4 (9 + j) 2 q 4 (13 + j) i) = (zsht μ (zfu B j b) (zfu Z j (if b = 0 then 0 else n)) (fun i => if (40 * j) ≤ i ∧ i < (40 * j) + 40 then 0 else M i)) := by
                intro q hq
                subst hq
                rw [zsu_b (by omega), zsu_z (by omega)]
                exact zss_n (by omega) (fun i a b => by rw [if_pos (by omega), if_pos (by omega)]) (fun i a => by rw [if_neg (by omega)]; unfold zsht; rw [if_neg (by omega), if_neg (by omega), if_neg (by omega)]) (fun i a => if_neg a)
              rw [e1 _ (by first | exact (if_pos (by omega)).symm | exact (if_neg (by omega)).symm)]
              refine zV_aload_n (i := 0) (n := 78) C dX8_sheet_77 rfl rfl rfl ?_
              refine zV_getP (f := 5) (n := 81) C zk7 fX8_38 dX8_sheet_78 zs_cls rfl (by decide) rfl ?_
              refine zV_iload_n (i := 1) (n := 82) C dX8_sheet_81 rfl rfl rfl ?_
              refine zV_aald (n := 83) C dX8_sheet_82 zs_sheets (by first | omega | exact zb_rg) (by decide) (by decide) rfl ?_
              refine zV_getI (f := 2) (fi := 2) (n := 86) C zk4 fX8_236 dX8_sheet_83 (zs_sheet (by omega)) rfl (by decide) rfl rfl ?_
              rw [zsz (by omega)]
              exact zV_ireturn C hr hlk dX8_sheet_86 (by first | exact congrArg (fun z => some (Value.int (zi z))) (zif_t (by omega) (zif_t (by omega) rfl)) | exact congrArg (fun z => some (Value.int (zi z))) (zif_t (by omega) (zif_f (by omega) (zif_t (by omega) rfl))) | exact congrArg (fun z => some (Value.int (zi z))) (zif_t (by omega) (zif_f (by omega) (zif_f (by omega) (if_pos rfl)))) | exact congrArg (fun z => some (Value.int (zi z))) (zif_f (by omega) rfl)) (by first | exact zif_t (by omega) (zif_t (by omega) rfl) | exact zif_t (by omega) (zif_f (by omega) (zif_t (by omega) rfl)) | exact zif_t (by omega) (zif_f (by omega) (zif_f (by omega) (rfl))) | exact zif_f (by omega) rfl)
            · skip
              refine zV_iconst (n := 70) C dX8_sheet_69 rfl ?_
              refine zV_goto C 74 dX8_sheet_70 (by decide) ?_
              refine zV_callV2v (n := 77) C zk4 jX5_make lX8_233 (c_make (d := d) (j := j) (by omega)) dX8_sheet_74 (zs_sheet (by omega)) rfl (Nat.le_of_ble_eq_true rfl) (zfit_of (by omega) (by decide)) ⟨Nat.le_refl _, Nat.le_refl _⟩ rfl ?_
              have e1 : ∀ q : Int, q = (if b = 0 then 0 else n) → zset (zup (zup (zsht μ B Z M) 4 (9 + j) 1 b) 4 (9 + j) 2 q) 4 (13 + j) (fun i => if 0 ≤ i ∧ i < 0 + 40 then 0 else zup (zup (zsht μ B Z M) 4 (9 + j) 1 b) 4 (9 + j) 2 q 4 (13 + j) i) = (zsht μ (zfu B j b) (zfu Z j (if b = 0 then 0 else n)) (fun i => if (40 * j) ≤ i ∧ i < (40 * j) + 40 then 0 else M i)) := by
                intro q hq
                subst hq
                rw [zsu_b (by omega), zsu_z (by omega)]
                exact zss_n (by omega) (fun i a b => by rw [if_pos (by omega), if_pos (by omega)]) (fun i a => by rw [if_neg (by omega)]; unfold zsht; rw [if_neg (by omega), if_neg (by omega), if_neg (by omega)]) (fun i a => if_neg a)
              rw [e1 _ (by first | exact (if_pos (by omega)).symm | exact (if_neg (by omega)).symm)]
              refine zV_aload_n (i := 0) (n := 78) C dX8_sheet_77 rfl rfl rfl ?_
              refine zV_getP (f := 5) (n := 81) C zk7 fX8_38 dX8_sheet_78 zs_cls rfl (by decide) rfl ?_
              refine zV_iload_n (i := 1) (n := 82) C dX8_sheet_81 rfl rfl rfl ?_
              refine zV_aald (n := 83) C dX8_sheet_82 zs_sheets (by first | omega | exact zb_rg) (by decide) (by decide) rfl ?_
              refine zV_getI (f := 2) (fi := 2) (n := 86) C zk4 fX8_236 dX8_sheet_83 (zs_sheet (by omega)) rfl (by decide) rfl rfl ?_
              rw [zsz (by omega)]
              exact zV_ireturn C hr hlk dX8_sheet_86 (by first | exact congrArg (fun z => some (Value.int (zi z))) (zif_t (by omega) (zif_t (by omega) rfl)) | exact congrArg (fun z => some (Value.int (zi z))) (zif_t (by omega) (zif_f (by omega) (zif_t (by omega) rfl))) | exact congrArg (fun z => some (Value.int (zi z))) (zif_t (by omega) (zif_f (by omega) (zif_f (by omega) (if_pos rfl)))) | exact congrArg (fun z => some (Value.int (zi z))) (zif_f (by omega) rfl)) (by first | exact zif_t (by omega) (zif_t (by omega) rfl) | exact zif_t (by omega) (zif_f (by omega) (zif_t (by omega) rfl)) | exact zif_t (by omega) (zif_f (by omega) (zif_f (by omega) (rfl))) | exact zif_f (by omega) rfl)
          · skip
            refine zV_aload_n (i := 0) (n := 53) C dX8_sheet_52 rfl rfl rfl ?_
            refine zV_iconst (n := 54) C dX8_sheet_53 rfl ?_
            refine zV_callV1u (n := 57) C zk7 jX8_tell lX8_61 (c_tell (d := d) (f := 0) (code := -1000000001) (by decide) (by decide)) dX8_sheet_54 zs_cls rfl (Nat.le_of_ble_eq_true rfl) (zfit_of (by omega) (by decide)) ⟨Nat.le_refl _, Nat.le_refl _⟩ rfl ?_
            exact zV_ireturn C hr hlk dX8_sheet_57 (by first | exact congrArg (fun z => some (Value.int (zi z))) (zif_t (by omega) (zif_t (by omega) rfl)) | exact congrArg (fun z => some (Value.int (zi z))) (zif_t (by omega) (zif_f (by omega) (zif_t (by omega) rfl))) | exact congrArg (fun z => some (Value.int (zi z))) (zif_t (by omega) (zif_f (by omega) (zif_f (by omega) (if_pos rfl)))) | exact congrArg (fun z => some (Value.int (zi z))) (zif_f (by omega) rfl)) (by first | exact zif_t (by omega) (zif_t (by omega) rfl) | exact zif_t (by omega) (zif_f (by omega) (zif_t (by omega) rfl)) | exact zif_t (by omega) (zif_f (by omega) (zif_f (by omega) (rfl))) | exact zif_f (by omega) rfl)
        · skip
          refine zV_aload_n (i := 0) (n := 40) C dX8_sheet_39 rfl rfl rfl ?_
          refine zV_bipush (n := 42) C dX8_sheet_40 (by decide) rfl ?_
          refine zV_callV1u (n := 45) C zk7 jX8_tell lX8_61 (c_tell (d := d) (f := 6) (code := -1000000007) (by decide) (by decide)) dX8_sheet_42 zs_cls rfl (Nat.le_of_ble_eq_true rfl) (zfit_of (by omega) (by decide)) ⟨Nat.le_refl _, Nat.le_refl _⟩ rfl ?_
          exact zV_ireturn C hr hlk dX8_sheet_45 (by first | exact congrArg (fun z => some (Value.int (zi z))) (zif_t (by omega) (zif_t (by omega) rfl)) | exact congrArg (fun z => some (Value.int (zi z))) (zif_t (by omega) (zif_f (by omega) (zif_t (by omega) rfl))) | exact congrArg (fun z => some (Value.int (zi z))) (zif_t (by omega) (zif_f (by omega) (zif_f (by omega) (if_pos rfl)))) | exact congrArg (fun z => some (Value.int (zi z))) (zif_f (by omega) rfl)) (by first | exact zif_t (by omega) (zif_t (by omega) rfl) | exact zif_t (by omega) (zif_f (by omega) (zif_t (by omega) rfl)) | exact zif_t (by omega) (zif_f (by omega) (zif_f (by omega) (rfl))) | exact zif_f (by omega) rfl)
      · skip
        refine zV_iload_n (i := 2) (n := 18) C dX8_sheet_17 rfl rfl rfl ?_
        refine zV_bipush (n := 20) C dX8_sheet_18 (by decide) rfl ?_
        refine zV_icmp_eq (n := 23) C 35 dX8_sheet_20 (by decide) (by first | omega | exact zb_rg) (by first | omega | exact zb_rg) rfl (fun h20 => ?_) (fun h20 => ?_)
        · skip
          refine zV_iload_n (i := 3) (n := 36) C dX8_sheet_35 rfl rfl rfl ?_
          refine zV_if_ge (n := 39) C 46 dX8_sheet_36 (by decide) (by first | omega | exact zb_rg) rfl (fun h36 => ?_) (fun h36 => ?_)
          · skip
            refine zV_iload_n (i := 3) (n := 47) C dX8_sheet_46 rfl rfl rfl ?_
            refine zV_bipush (n := 49) C dX8_sheet_47 (by decide) rfl ?_
            refine zV_icmp_le (n := 52) C 58 dX8_sheet_49 (by decide) (by first | omega | exact zb_rg) (by first | omega | exact zb_rg) rfl (fun h49 => ?_) (fun h49 => ?_)
            · skip
              refine zV_aload_n (i := 0) (n := 59) C dX8_sheet_58 rfl rfl rfl ?_
              refine zV_getP (f := 5) (n := 62) C zk7 fX8_38 dX8_sheet_59 zs_cls rfl (by decide) rfl ?_
              refine zV_iload_n (i := 1) (n := 63) C dX8_sheet_62 rfl rfl rfl ?_
              refine zV_aald (n := 64) C dX8_sheet_63 zs_sheets (by first | omega | exact zb_rg) (by decide) (by decide) rfl ?_
              refine zV_iload_n (i := 2) (n := 65) C dX8_sheet_64 rfl rfl rfl ?_
              refine zV_iload_n (i := 2) (n := 66) C dX8_sheet_65 rfl rfl rfl ?_
              refine zV_if_ne (n := 69) C 73 dX8_sheet_66 (by decide) (by first | omega | exact zb_rg) rfl (fun h66 => ?_) (fun h66 => ?_)
              · skip
                refine zV_iload_n (i := 3) (n := 74) C dX8_sheet_73 rfl rfl rfl ?_
                refine zV_callV2v (n := 77) C zk4 jX5_make lX8_233 (c_make (d := d) (j := j) (by omega)) dX8_sheet_74 (zs_sheet (by omega)) rfl (Nat.le_of_ble_eq_true rfl) (zfit_of (by omega) (by decide)) ⟨Nat.le_refl _, Nat.le_refl _⟩ rfl ?_
                have e1 : ∀ q : Int, q = (if b = 0 then 0 else n) → zset (zup (zup (zsht μ B Z M) 4 (9 + j) 1 b) 4 (9 + j) 2 q) 4 (13 + j) (fun i => if 0 ≤ i ∧ i < 0 + 40 then 0 else zup (zup (zsht μ B Z M) 4 (9 + j) 1 b) 4 (9 + j) 2 q 4 (13 + j) i) = (zsht μ (zfu B j b) (zfu Z j (if b = 0 then 0 else n)) (fun i => if (40 * j) ≤ i ∧ i < (40 * j) + 40 then 0 else M i)) := by
                  intro q hq
                  subst hq
                  rw [zsu_b (by omega), zsu_z (by omega)]
                  exact zss_n (by omega) (fun i a b => by rw [if_pos (by omega), if_pos (by omega)]) (fun i a => by rw [if_neg (by omega)]; unfold zsht; rw [if_neg (by omega), if_neg (by omega), if_neg (by omega)]) (fun i a => if_neg a)
                rw [e1 _ (by first | exact (if_pos (by omega)).symm | exact (if_neg (by omega)).symm)]
                refine zV_aload_n (i := 0) (n := 78) C dX8_sheet_77 rfl rfl rfl ?_
                refine zV_getP (f := 5) (n := 81) C zk7 fX8_38 dX8_sheet_78 zs_cls rfl (by decide) rfl ?_
                refine zV_iload_n (i := 1) (n := 82) C dX8_sheet_81 rfl rfl rfl ?_
                refine zV_aald (n := 83) C dX8_sheet_82 zs_sheets (by first | omega | exact zb_rg) (by decide) (by decide) rfl ?_
                refine zV_getI (f := 2) (fi := 2) (n := 86) C zk4 fX8_236 dX8_sheet_83 (zs_sheet (by omega)) rfl (by decide) rfl rfl ?_
                rw [zsz (by omega)]
                exact zV_ireturn C hr hlk dX8_sheet_86 (by first | exact congrArg (fun z => some (Value.int (zi z))) (zif_t (by omega) (zif_t (by omega) rfl)) | exact congrArg (fun z => some (Value.int (zi z))) (zif_t (by omega) (zif_f (by omega) (zif_t (by omega) rfl))) | exact congrArg (fun z => some (Value.int (zi z))) (zif_t (by omega) (zif_f (by omega) (zif_f (by omega) (if_pos rfl)))) | exact congrArg (fun z => some (Value.int (zi z))) (zif_f (by omega) rfl)) (by first | exact zif_t (by omega) (zif_t (by omega) rfl) | exact zif_t (by omega) (zif_f (by omega) (zif_t (by omega) rfl)) | exact zif_t (by omega) (zif_f (by omega) (zif_f (by omega) (rfl))) | exact zif_f (by omega) rfl)
              · skip
                refine zV_iconst (n := 70) C dX8_sheet_69 rfl ?_
                refine zV_goto C 74 dX8_sheet_70 (by decide) ?_
                refine zV_callV2v (n := 77) C zk4 jX5_make lX8_233 (c_make (d := d) (j := j) (by omega)) dX8_sheet_74 (zs_sheet (by omega)) rfl (Nat.le_of_ble_eq_true rfl) (zfit_of (by omega) (by decide)) ⟨Nat.le_refl _, Nat.le_refl _⟩ rfl ?_
                have e1 : ∀ q : Int, q = (if b = 0 then 0 else n) → zset (zup (zup (zsht μ B Z M) 4 (9 + j) 1 b) 4 (9 + j) 2 q) 4 (13 + j) (fun i => if 0 ≤ i ∧ i < 0 + 40 then 0 else zup (zup (zsht μ B Z M) 4 (9 + j) 1 b) 4 (9 + j) 2 q 4 (13 + j) i) = (zsht μ (zfu B j b) (zfu Z j (if b = 0 then 0 else n)) (fun i => if (40 * j) ≤ i ∧ i < (40 * j) + 40 then 0 else M i)) := by
                  intro q hq
                  subst hq
                  rw [zsu_b (by omega), zsu_z (by omega)]
                  exact zss_n (by omega) (fun i a b => by rw [if_pos (by omega), if_pos (by omega)]) (fun i a => by rw [if_neg (by omega)]; unfold zsht; rw [if_neg (by omega), if_neg (by omega), if_neg (by omega)]) (fun i a => if_neg a)
                rw [e1 _ (by first | exact (if_pos (by omega)).symm | exact (if_neg (by omega)).symm)]
                refine zV_aload_n (i := 0) (n := 78) C dX8_sheet_77 rfl rfl rfl ?_
                refine zV_getP (f := 5) (n := 81) C zk7 fX8_38 dX8_sheet_78 zs_cls rfl (by decide) rfl ?_
                refine zV_iload_n (i := 1) (n := 82) C dX8_sheet_81 rfl rfl rfl ?_
                refine zV_aald (n := 83) C dX8_sheet_82 zs_sheets (by first | omega | exact zb_rg) (by decide) (by decide) rfl ?_
                refine zV_getI (f := 2) (fi := 2) (n := 86) C zk4 fX8_236 dX8_sheet_83 (zs_sheet (by omega)) rfl (by decide) rfl rfl ?_
                rw [zsz (by omega)]
                exact zV_ireturn C hr hlk dX8_sheet_86 (by first | exact congrArg (fun z => some (Value.int (zi z))) (zif_t (by omega) (zif_t (by omega) rfl)) | exact congrArg (fun z => some (Value.int (zi z))) (zif_t (by omega) (zif_f (by omega) (zif_t (by omega) rfl))) | exact congrArg (fun z => some (Value.int (zi z))) (zif_t (by omega) (zif_f (by omega) (zif_f (by omega) (if_pos rfl)))) | exact congrArg (fun z => some (Value.int (zi z))) (zif_f (by omega) rfl)) (by first | exact zif_t (by omega) (zif_t (by omega) rfl) | exact zif_t (by omega) (zif_f (by omega) (zif_t (by omega) rfl)) | exact zif_t (by omega) (zif_f (by omega) (zif_f (by omega) (rfl))) | exact zif_f (by omega) rfl)
            · skip
              refine zV_aload_n (i := 0) (n := 53) C dX8_sheet_52 rfl rfl rfl ?_
              refine zV_iconst (n := 54) C dX8_sheet_53 rfl ?_
              refine zV_callV1u (n := 57) C zk7 jX8_tell lX8_61 (c_tell (d := d) (f := 0) (code := -1000000001) (by decide) (by decide)) dX8_sheet_54 zs_cls rfl (Nat.le_of_ble_eq_true rfl) (zfit_of (by omega) (by decide)) ⟨Nat.le_refl _, Nat.le_refl _⟩ rfl ?_
              exact zV_ireturn C hr hlk dX8_sheet_57 (by first | exact congrArg (fun z => some (Value.int (zi z))) (zif_t (by omega) (zif_t (by omega) rfl)) | exact congrArg (fun z => some (Value.int (zi z))) (zif_t (by omega) (zif_f (by omega) (zif_t (by omega) rfl))) | exact congrArg (fun z => some (Value.int (zi z))) (zif_t (by omega) (zif_f (by omega) (zif_f (by omega) (if_pos rfl)))) | exact congrArg (fun z => some (Value.int (zi z))) (zif_f (by omega) rfl)) (by first | exact zif_t (by omega) (zif_t (by omega) rfl) | exact zif_t (by omega) (zif_f (by omega) (zif_t (by omega) rfl)) | exact zif_t (by omega) (zif_f (by omega) (zif_f (by omega) (rfl))) | exact zif_f (by omega) rfl)
          · skip
            refine zV_aload_n (i := 0) (n := 40) C dX8_sheet_39 rfl rfl rfl ?_
            refine zV_bipush (n := 42) C dX8_sheet_40 (by decide) rfl ?_
            refine zV_callV1u (n := 45) C zk7 jX8_tell lX8_61 (c_tell (d := d) (f := 6) (code := -1000000007) (by decide) (by decide)) dX8_sheet_42 zs_cls rfl (Nat.le_of_ble_eq_true rfl) (zfit_of (by omega) (by decide)) ⟨Nat.le_refl _, Nat.le_refl _⟩ rfl ?_
            exact zV_ireturn C hr hlk dX8_sheet_45 (by first | exact congrArg (fun z => some (Value.int (zi z))) (zif_t (by omega) (zif_t (by omega) rfl)) | exact congrArg (fun z => some (Value.int (zi z))) (zif_t (by omega) (zif_f (by omega) (zif_t (by omega) rfl))) | exact congrArg (fun z => some (Value.int (zi z))) (zif_t (by omega) (zif_f (by omega) (zif_f (by omega) (if_pos rfl)))) | exact congrArg (fun z => some (Value.int (zi z))) (zif_f (by omega) rfl)) (by first | exact zif_t (by omega) (zif_t (by omega) rfl) | exact zif_t (by omega) (zif_f (by omega) (zif_t (by omega) rfl)) | exact zif_t (by omega) (zif_f (by omega) (zif_f (by omega) (rfl))) | exact zif_f (by omega) rfl)
        · skip
          refine zV_iload_n (i := 2) (n := 24) C dX8_sheet_23 rfl rfl rfl ?_
          refine zV_bipush (n := 26) C dX8_sheet_24 (by decide) rfl ?_
          refine zV_icmp_eq (n := 29) C 35 dX8_sheet_26 (by decide) (by first | omega | exact zb_rg) (by first | omega | exact zb_rg) rfl (fun h26 => ?_) (fun h26 => ?_)
          · skip
            refine zV_iload_n (i := 3) (n := 36) C dX8_sheet_35 rfl rfl rfl ?_
            refine zV_if_ge (n := 39) C 46 dX8_sheet_36 (by decide) (by first | omega | exact zb_rg) rfl (fun h36 => ?_) (fun h36 => ?_)
            · skip
              refine zV_iload_n (i := 3) (n := 47) C dX8_sheet_46 rfl rfl rfl ?_
              refine zV_bipush (n := 49) C dX8_sheet_47 (by decide) rfl ?_
              refine zV_icmp_le (n := 52) C 58 dX8_sheet_49 (by decide) (by first | omega | exact zb_rg) (by first | omega | exact zb_rg) rfl (fun h49 => ?_) (fun h49 => ?_)
              · skip
                refine zV_aload_n (i := 0) (n := 59) C dX8_sheet_58 rfl rfl rfl ?_
                refine zV_getP (f := 5) (n := 62) C zk7 fX8_38 dX8_sheet_59 zs_cls rfl (by decide) rfl ?_
                refine zV_iload_n (i := 1) (n := 63) C dX8_sheet_62 rfl rfl rfl ?_
                refine zV_aald (n := 64) C dX8_sheet_63 zs_sheets (by first | omega | exact zb_rg) (by decide) (by decide) rfl ?_
                refine zV_iload_n (i := 2) (n := 65) C dX8_sheet_64 rfl rfl rfl ?_
                refine zV_iload_n (i := 2) (n := 66) C dX8_sheet_65 rfl rfl rfl ?_
                refine zV_if_ne (n := 69) C 73 dX8_sheet_66 (by decide) (by first | omega | exact zb_rg) rfl (fun h66 => ?_) (fun h66 => ?_)
                · skip
                  refine zV_iload_n (i := 3) (n := 74) C dX8_sheet_73 rfl rfl rfl ?_
                  refine zV_callV2v (n := 77) C zk4 jX5_make lX8_233 (c_make (d := d) (j := j) (by omega)) dX8_sheet_74 (zs_sheet (by omega)) rfl (Nat.le_of_ble_eq_true rfl) (zfit_of (by omega) (by decide)) ⟨Nat.le_refl _, Nat.le_refl _⟩ rfl ?_
                  have e1 : ∀ q : Int, q = (if b = 0 then 0 else n) → zset (zup (zup (zsht μ B Z M) 4 (9 + j) 1 b) 4 (9 + j) 2 q) 4 (13 + j) (fun i => if 0 ≤ i ∧ i < 0 + 40 then 0 else zup (zup (zsht μ B Z M) 4 (9 + j) 1 b) 4 (9 + j) 2 q 4 (13 + j) i) = (zsht μ (zfu B j b) (zfu Z j (if b = 0 then 0 else n)) (fun i => if (40 * j) ≤ i ∧ i < (40 * j) + 40 then 0 else M i)) := by
                    intro q hq
                    subst hq
                    rw [zsu_b (by omega), zsu_z (by omega)]
                    exact zss_n (by omega) (fun i a b => by rw [if_pos (by omega), if_pos (by omega)]) (fun i a => by rw [if_neg (by omega)]; unfold zsht; rw [if_neg (by omega), if_neg (by omega), if_neg (by omega)]) (fun i a => if_neg a)
                  rw [e1 _ (by first | exact (if_pos (by omega)).symm | exact (if_neg (by omega)).symm)]
                  refine zV_aload_n (i := 0) (n := 78) C dX8_sheet_77 rfl rfl rfl ?_
                  refine zV_getP (f := 5) (n := 81) C zk7 fX8_38 dX8_sheet_78 zs_cls rfl (by decide) rfl ?_
                  refine zV_iload_n (i := 1) (n := 82) C dX8_sheet_81 rfl rfl rfl ?_
                  refine zV_aald (n := 83) C dX8_sheet_82 zs_sheets (by first | omega | exact zb_rg) (by decide) (by decide) rfl ?_
                  refine zV_getI (f := 2) (fi := 2) (n := 86) C zk4 fX8_236 dX8_sheet_83 (zs_sheet (by omega)) rfl (by decide) rfl rfl ?_
                  rw [zsz (by omega)]
                  exact zV_ireturn C hr hlk dX8_sheet_86 (by first | exact congrArg (fun z => some (Value.int (zi z))) (zif_t (by omega) (zif_t (by omega) rfl)) | exact congrArg (fun z => some (Value.int (zi z))) (zif_t (by omega) (zif_f (by omega) (zif_t (by omega) rfl))) | exact congrArg (fun z => some (Value.int (zi z))) (zif_t (by omega) (zif_f (by omega) (zif_f (by omega) (if_pos rfl)))) | exact congrArg (fun z => some (Value.int (zi z))) (zif_f (by omega) rfl)) (by first | exact zif_t (by omega) (zif_t (by omega) rfl) | exact zif_t (by omega) (zif_f (by omega) (zif_t (by omega) rfl)) | exact zif_t (by omega) (zif_f (by omega) (zif_f (by omega) (rfl))) | exact zif_f (by omega) rfl)
                · skip
                  refine zV_iconst (n := 70) C dX8_sheet_69 rfl ?_
                  refine zV_goto C 74 dX8_sheet_70 (by decide) ?_
                  refine zV_callV2v (n := 77) C zk4 jX5_make lX8_233 (c_make (d := d) (j := j) (by omega)) dX8_sheet_74 (zs_sheet (by omega)) rfl (Nat.le_of_ble_eq_true rfl) (zfit_of (by omega) (by decide)) ⟨Nat.le_refl _, Nat.le_refl _⟩ rfl ?_
                  have e1 : ∀ q : Int, q = (if b = 0 then 0 else n) → zset (zup (zup (zsht μ B Z M) 4 (9 + j) 1 b) 4 (9 + j) 2 q) 4 (13 + j) (fun i => if 0 ≤ i ∧ i < 0 + 40 then 0 else zup (zup (zsht μ B Z M) 4 (9 + j) 1 b) 4 (9 + j) 2 q 4 (13 + j) i) = (zsht μ (zfu B j b) (zfu Z j (if b = 0 then 0 else n)) (fun i => if (40 * j) ≤ i ∧ i < (40 * j) + 40 then 0 else M i)) := by
                    intro q hq
                    subst hq
                    rw [zsu_b (by omega), zsu_z (by omega)]
                    exact zss_n (by omega) (fun i a b => by rw [if_pos (by omega), if_pos (by omega)]) (fun i a => by rw [if_neg (by omega)]; unfold zsht; rw [if_neg (by omega), if_neg (by omega), if_neg (by omega)]) (fun i a => if_neg a)
                  rw [e1 _ (by first | exact (if_pos (by omega)).symm | exact (if_neg (by omega)).symm)]
                  refine zV_aload_n (i := 0) (n := 78) C dX8_sheet_77 rfl rfl rfl ?_
                  refine zV_getP (f := 5) (n := 81) C zk7 fX8_38 dX8_sheet_78 zs_cls rfl (by decide) rfl ?_
                  refine zV_iload_n (i := 1) (n := 82) C dX8_sheet_81 rfl rfl rfl ?_
                  refine zV_aald (n := 83) C dX8_sheet_82 zs_sheets (by first | omega | exact zb_rg) (by decide) (by decide) rfl ?_
                  refine zV_getI (f := 2) (fi := 2) (n := 86) C zk4 fX8_236 dX8_sheet_83 (zs_sheet (by omega)) rfl (by decide) rfl rfl ?_
                  rw [zsz (by omega)]
                  exact zV_ireturn C hr hlk dX8_sheet_86 (by first | exact congrArg (fun z => some (Value.int (zi z))) (zif_t (by omega) (zif_t (by omega) rfl)) | exact congrArg (fun z => some (Value.int (zi z))) (zif_t (by omega) (zif_f (by omega) (zif_t (by omega) rfl))) | exact congrArg (fun z => some (Value.int (zi z))) (zif_t (by omega) (zif_f (by omega) (zif_f (by omega) (if_pos rfl)))) | exact congrArg (fun z => some (Value.int (zi z))) (zif_f (by omega) rfl)) (by first | exact zif_t (by omega) (zif_t (by omega) rfl) | exact zif_t (by omega) (zif_f (by omega) (zif_t (by omega) rfl)) | exact zif_t (by omega) (zif_f (by omega) (zif_f (by omega) (rfl))) | exact zif_f (by omega) rfl)
              · skip
                refine zV_aload_n (i := 0) (n := 53) C dX8_sheet_52 rfl rfl rfl ?_
                refine zV_iconst (n := 54) C dX8_sheet_53 rfl ?_
                refine zV_callV1u (n := 57) C zk7 jX8_tell lX8_61 (c_tell (d := d) (f := 0) (code := -1000000001) (by decide) (by decide)) dX8_sheet_54 zs_cls rfl (Nat.le_of_ble_eq_true rfl) (zfit_of (by omega) (by decide)) ⟨Nat.le_refl _, Nat.le_refl _⟩ rfl ?_
                exact zV_ireturn C hr hlk dX8_sheet_57 (by first | exact congrArg (fun z => some (Value.int (zi z))) (zif_t (by omega) (zif_t (by omega) rfl)) | exact congrArg (fun z => some (Value.int (zi z))) (zif_t (by omega) (zif_f (by omega) (zif_t (by omega) rfl))) | exact congrArg (fun z => some (Value.int (zi z))) (zif_t (by omega) (zif_f (by omega) (zif_f (by omega) (if_pos rfl)))) | exact congrArg (fun z => some (Value.int (zi z))) (zif_f (by omega) rfl)) (by first | exact zif_t (by omega) (zif_t (by omega) rfl) | exact zif_t (by omega) (zif_f (by omega) (zif_t (by omega) rfl)) | exact zif_t (by omega) (zif_f (by omega) (zif_f (by omega) (rfl))) | exact zif_f (by omega) rfl)
            · skip
              refine zV_aload_n (i := 0) (n := 40) C dX8_sheet_39 rfl rfl rfl ?_
              refine zV_bipush (n := 42) C dX8_sheet_40 (by decide) rfl ?_
              refine zV_callV1u (n := 45) C zk7 jX8_tell lX8_61 (c_tell (d := d) (f := 6) (code := -1000000007) (by decide) (by decide)) dX8_sheet_42 zs_cls rfl (Nat.le_of_ble_eq_true rfl) (zfit_of (by omega) (by decide)) ⟨Nat.le_refl _, Nat.le_refl _⟩ rfl ?_
              exact zV_ireturn C hr hlk dX8_sheet_45 (by first | exact congrArg (fun z => some (Value.int (zi z))) (zif_t (by omega) (zif_t (by omega) rfl)) | exact congrArg (fun z => some (Value.int (zi z))) (zif_t (by omega) (zif_f (by omega) (zif_t (by omega) rfl))) | exact congrArg (fun z => some (Value.int (zi z))) (zif_t (by omega) (zif_f (by omega) (zif_f (by omega) (if_pos rfl)))) | exact congrArg (fun z => some (Value.int (zi z))) (zif_f (by omega) rfl)) (by first | exact zif_t (by omega) (zif_t (by omega) rfl) | exact zif_t (by omega) (zif_f (by omega) (zif_t (by omega) rfl)) | exact zif_t (by omega) (zif_f (by omega) (zif_f (by omega) (rfl))) | exact zif_f (by omega) rfl)
          · skip
            refine zV_aload_n (i := 0) (n := 30) C dX8_sheet_29 rfl rfl rfl ?_
            refine zV_iconst (n := 31) C dX8_sheet_30 rfl ?_
            refine zV_callV1u (n := 34) C zk7 jX8_tell lX8_61 (c_tell (d := d) (f := 0) (code := -1000000001) (by decide) (by decide)) dX8_sheet_31 zs_cls rfl (Nat.le_of_ble_eq_true rfl) (zfit_of (by omega) (by decide)) ⟨Nat.le_refl _, Nat.le_refl _⟩ rfl ?_
            exact zV_ireturn C hr hlk dX8_sheet_34 (by first | exact congrArg (fun z => some (Value.int (zi z))) (zif_t (by omega) (zif_t (by omega) rfl)) | exact congrArg (fun z => some (Value.int (zi z))) (zif_t (by omega) (zif_f (by omega) (zif_t (by omega) rfl))) | exact congrArg (fun z => some (Value.int (zi z))) (zif_t (by omega) (zif_f (by omega) (zif_f (by omega) (if_pos rfl)))) | exact congrArg (fun z => some (Value.int (zi z))) (zif_f (by omega) rfl)) (by first | exact zif_t (by omega) (zif_t (by omega) rfl) | exact zif_t (by omega) (zif_f (by omega) (zif_t (by omega) rfl)) | exact zif_t (by omega) (zif_f (by omega) (zif_f (by omega) (rfl))) | exact zif_f (by omega) rfl)

set_option maxRecDepth 100000 in
set_option maxHeartbeats 4000000 in
theorem c_write {Γ : zC} {l : Launch} {d : Nat} {μ : zMem} {B Z M : Int → Int} (hS : rSh B Z M) {j : Int} (hj : -2147483648 ≤ j ∧ j ≤ 2147483647) {i : Int} (hi : -2147483648 ≤ i ∧ i ≤ 2147483647) {v : Int} (hv : -9223372036854775808 ≤ v ∧ v ≤ 9223372036854775807) : zRet Γ l (d + 1) qX8_write [.ref (za Γ 4 0), .int (zi j), .int (zi i), .long (zl v)] (zsht μ B Z M) (some (.long (zl (if rWsh B j = 0 then (if (0 ≤ i ∧ i ≤ Z j - 1) then M (40 * j + i) else -1000000001) else rWsh B j)))) (if rWsh B j = 0 then (if (0 ≤ i ∧ i ≤ Z j - 1) then zsht μ B Z (zfu M (40 * j + i) (rNar (B j) v)) else zset (zsht μ B Z M) 4 17 (rFind ((zsht μ B Z M) 4 17) (-1000000001))) else zset (zsht μ B Z M) 4 17 (rFind ((zsht μ B Z M) 4 17) (rWsh B j))) := by
  refine zRet.mk 2 [.ref (za Γ 4 0), .int (zi j), .int (zi i), .long (zl v), .null, .null, .null] RX8 rfl (by decide +kernel) (Nat.le_of_ble_eq_true rfl) rfl ?_
  intro p e s m below meth c C hr hlk
  refine zV_iload_n (i := 1) (n := 1) C dX8_write_0 rfl rfl rfl ?_
  refine zV_callS1u (n := 4) C jX8_isSheet lX8_230 (c_isSheet (d := d) (by omega)) dX8_write_1 (Nat.le_of_ble_eq_true rfl) (zfit_of (by omega) (by decide)) ⟨Nat.le_refl _, Nat.le_refl _⟩ rfl ?_
  refine zV_if_ne (n := 7) C 14 dX8_write_4 (by decide) (by first | omega | exact zb_rg) rfl (fun h4 => ?_) (fun h4 => ?_)
  · skip
    simp only [zb_eq0, Decidable.not_not] at h4
    refine zV_aload_n (i := 0) (n := 15) C dX8_write_14 rfl rfl rfl ?_
    refine zV_getP (f := 5) (n := 18) C zk7 fX8_38 dX8_write_15 zs_cls rfl (by decide) rfl ?_
    refine zV_iload_n (i := 1) (n := 19) C dX8_write_18 rfl rfl rfl ?_
    refine zV_aald (n := 20) C dX8_write_19 zs_sheets (by first | omega | exact zb_rg) (by decide) (by decide) rfl ?_
    refine zV_callV0u (n := 23) C zk4 jX5_isMissing lX8_237 (c_isMissing (d := d) (j := j) (b := B j) (by omega) (zsb (by omega)) (hS.1 j (by omega) (by omega)).1) dX8_write_20 (zs_sheet (by omega)) rfl (Nat.le_of_ble_eq_true rfl) (zfit_of (by omega) (by decide)) ⟨Nat.le_refl _, Nat.le_refl _⟩ rfl ?_
    refine zV_if_eq (n := 26) C 33 dX8_write_23 (by decide) (by first | omega | exact zb_rg) rfl (fun h23 => ?_) (fun h23 => ?_)
    · skip
      simp only [zb_eq0, Decidable.not_not] at h23
      refine zV_iload_n (i := 2) (n := 34) C dX8_write_33 rfl rfl rfl ?_
      refine zV_if_lt (n := 37) C 50 dX8_write_34 (by decide) (by first | omega | exact zb_rg) rfl (fun h34 => ?_) (fun h34 => ?_)
      · skip
        refine zV_aload_n (i := 0) (n := 51) C dX8_write_50 rfl rfl rfl ?_
        refine zV_iconst (n := 52) C dX8_write_51 rfl ?_
        refine zV_callV1u (n := 55) C zk7 jX8_tell lX8_61 (c_tell (d := d) (f := 0) (code := -1000000001) (by decide) (by decide)) dX8_write_52 zs_cls rfl (Nat.le_of_ble_eq_true rfl) (zfit_of (by omega) (by decide)) ⟨Nat.le_refl _, Nat.le_refl _⟩ rfl ?_
        refine zV_i2l (n := 56) C dX8_write_55 (by first | omega | exact zb_rg) rfl ?_
        exact zV_lreturn C hr hlk dX8_write_56 (by exact congrArg (fun z => some (Value.long (zl z))) (zif_t (by unfold rWsh; rw [if_pos (by omega)]; exact if_neg (by omega)) (zif_f (by omega) rfl))) (by exact zif_t (by unfold rWsh; rw [if_pos (by omega)]; exact if_neg (by omega)) (zif_f (by omega) rfl))
      · skip
        have hz := (hS.1 j (by omega) (by omega)).2
        refine zV_iload_n (i := 2) (n := 38) C dX8_write_37 rfl rfl rfl ?_
        refine zV_aload_n (i := 0) (n := 39) C dX8_write_38 rfl rfl rfl ?_
        refine zV_getP (f := 5) (n := 42) C zk7 fX8_38 dX8_write_39 zs_cls rfl (by decide) rfl ?_
        refine zV_iload_n (i := 1) (n := 43) C dX8_write_42 rfl rfl rfl ?_
        refine zV_aald (n := 44) C dX8_write_43 zs_sheets (by first | omega | exact zb_rg) (by decide) (by decide) rfl ?_
        refine zV_getI (f := 2) (fi := 2) (n := 47) C zk4 fX8_236 dX8_write_44 (zs_sheet (by omega)) rfl (by decide) rfl rfl ?_
        rw [zsz (by omega)]
        refine zV_icmp_lt (n := 50) C 57 dX8_write_47 (by decide) (by first | omega | exact zb_rg) (by first | omega | exact zb_rg) rfl (fun h47 => ?_) (fun h47 => ?_)
        · skip
          refine zV_aload_n (i := 0) (n := 58) C dX8_write_57 rfl rfl rfl ?_
          refine zV_getP (f := 5) (n := 61) C zk7 fX8_38 dX8_write_58 zs_cls rfl (by decide) rfl ?_
          refine zV_iload_n (i := 1) (n := 62) C dX8_write_61 rfl rfl rfl ?_
          refine zV_aald (n := 63) C dX8_write_62 zs_sheets (by first | omega | exact zb_rg) (by decide) (by decide) rfl ?_
          refine zV_getP (f := 0) (n := 66) C zk4 fX8_240 dX8_write_63 (zs_sheet (by omega)) rfl (by decide) rfl ?_
          refine zV_iload_n (i := 2) (n := 67) C dX8_write_66 rfl rfl rfl ?_
          refine zV_lald (n := 68) C dX8_write_67 (zs_nums (by omega)) (by first | omega | exact zb_rg) (by decide) rfl ?_
          rw [zsn (by omega) (by omega)]
          refine zS_lstore_7_5 (n := 70) C dX8_write_68 rfl rfl ?_
          refine zV_aload_n (i := 0) (n := 71) C dX8_write_70 rfl rfl rfl ?_
          refine zV_getP (f := 5) (n := 74) C zk7 fX8_38 dX8_write_71 zs_cls rfl (by decide) rfl ?_
          refine zV_iload_n (i := 1) (n := 75) C dX8_write_74 rfl rfl rfl ?_
          refine zV_aald (n := 76) C dX8_write_75 zs_sheets (by first | omega | exact zb_rg) (by decide) (by decide) rfl ?_
          refine zV_iload_n (i := 2) (n := 77) C dX8_write_76 rfl rfl rfl ?_
          refine zV_lload_n (i := 3) (n := 78) C dX8_write_77 rfl rfl rfl ?_
          refine zV_callV2v (n := 81) C zk4 jX5_put lX8_244 (c_sheet_put (d := d) (j := j) (b := B j) (by omega) (zsb (by omega)) (hS.1 j (by omega) (by omega)).1 (by omega) (by omega)) dX8_write_78 (zs_sheet (by omega)) rfl (Nat.le_of_ble_eq_true rfl) (zfit_of (by omega) (by decide)) ⟨Nat.le_refl _, Nat.le_refl _⟩ rfl ?_
          rw [zsu_n (by omega) (by omega)]
          refine zV_lload (n := 83) C dX8_write_81 rfl rfl ?_
          exact zV_lreturn C hr hlk dX8_write_83 (by exact congrArg (fun z => some (Value.long (zl z))) (zif_t (by unfold rWsh; rw [if_pos (by omega)]; exact if_neg (by omega)) (zif_t (by omega) rfl))) (by exact zif_t (by unfold rWsh; rw [if_pos (by omega)]; exact if_neg (by omega)) (zif_t (by omega) rfl))
        · skip
          refine zV_aload_n (i := 0) (n := 51) C dX8_write_50 rfl rfl rfl ?_
          refine zV_iconst (n := 52) C dX8_write_51 rfl ?_
          refine zV_callV1u (n := 55) C zk7 jX8_tell lX8_61 (c_tell (d := d) (f := 0) (code := -1000000001) (by decide) (by decide)) dX8_write_52 zs_cls rfl (Nat.le_of_ble_eq_true rfl) (zfit_of (by omega) (by decide)) ⟨Nat.le_refl _, Nat.le_refl _⟩ rfl ?_
          refine zV_i2l (n := 56) C dX8_write_55 (by first | omega | exact zb_rg) rfl ?_
          exact zV_lreturn C hr hlk dX8_write_56 (by exact congrArg (fun z => some (Value.long (zl z))) (zif_t (by unfold rWsh; rw [if_pos (by omega)]; exact if_neg (by omega)) (zif_f (by omega) rfl))) (by exact zif_t (by unfold rWsh; rw [if_pos (by omega)]; exact if_neg (by omega)) (zif_f (by omega) rfl))
    · skip
      simp only [zb_eq0, Decidable.not_not] at h23
      refine zV_aload_n (i := 0) (n := 27) C dX8_write_26 rfl rfl rfl ?_
      refine zV_iconst (n := 28) C dX8_write_27 rfl ?_
      refine zV_callV1u (n := 31) C zk7 jX8_tell lX8_61 (c_tell (d := d) (f := 5) (code := -1000000006) (by decide) (by decide)) dX8_write_28 zs_cls rfl (Nat.le_of_ble_eq_true rfl) (zfit_of (by omega) (by decide)) ⟨Nat.le_refl _, Nat.le_refl _⟩ rfl ?_
      refine zV_i2l (n := 32) C dX8_write_31 (by first | omega | exact zb_rg) rfl ?_
      exact zV_lreturn C hr hlk dX8_write_32 (by exact congrArg (fun z => some (Value.long (zl z))) (by rw [show rWsh B j = -1000000006 from by unfold rWsh; rw [if_pos (by omega)]; exact if_pos (by omega)]; rfl)) (by rw [show rWsh B j = -1000000006 from by unfold rWsh; rw [if_pos (by omega)]; exact if_pos (by omega)]; rfl)
  · skip
    simp only [zb_eq0, Decidable.not_not] at h4
    refine zV_aload_n (i := 0) (n := 8) C dX8_write_7 rfl rfl rfl ?_
    refine zV_iconst (n := 9) C dX8_write_8 rfl ?_
    refine zV_callV1u (n := 12) C zk7 jX8_tell lX8_61 (c_tell (d := d) (f := 0) (code := -1000000001) (by decide) (by decide)) dX8_write_9 zs_cls rfl (Nat.le_of_ble_eq_true rfl) (zfit_of (by omega) (by decide)) ⟨Nat.le_refl _, Nat.le_refl _⟩ rfl ?_
    refine zV_i2l (n := 13) C dX8_write_12 (by first | omega | exact zb_rg) rfl ?_
    exact zV_lreturn C hr hlk dX8_write_13 (by exact congrArg (fun z => some (Value.long (zl z))) (by rw [show rWsh B j = -1000000001 from by unfold rWsh; exact if_neg (by omega)]; rfl)) (by rw [show rWsh B j = -1000000001 from by unfold rWsh; exact if_neg (by omega)]; rfl)

set_option maxRecDepth 100000 in
set_option maxHeartbeats 4000000 in
theorem c_copy {Γ : zC} {l : Launch} {d : Nat} {μ : zMem} {B Z M : Int → Int} (hS : rSh B Z M) {j : Int} (hj : -2147483648 ≤ j ∧ j ≤ 2147483647) {f : Int} (hf : -2147483648 ≤ f ∧ f ≤ 2147483647) {t : Int} (ht : -2147483648 ≤ t ∧ t ≤ 2147483647) {o : Int} (ho : -2147483648 ≤ o ∧ o ≤ 2147483647) {n : Int} (hn : -2147483648 ≤ n ∧ n ≤ 2147483647) : zRet Γ l (d + 1) qX8_copy [.ref (za Γ 4 0), .int (zi j), .int (zi f), .int (zi t), .int (zi o), .int (zi n)] (zsht μ B Z M) (some (.int (zi (if ((0 ≤ j ∧ j ≤ 3) ∧ (0 ≤ t ∧ t ≤ 3)) then (if (¬ B j = 0 ∧ ¬ B t = 0) then (if (B j = B t) then (if (0 ≤ f ∧ 0 ≤ o ∧ 0 ≤ n ∧ n ≤ Z j - f ∧ n ≤ Z t - o) then n else -1000000001) else -1000000003) else -1000000006) else -1000000001)))) (if ((0 ≤ j ∧ j ≤ 3) ∧ (0 ≤ t ∧ t ≤ 3)) then (if (¬ B j = 0 ∧ ¬ B t = 0) then (if (B j = B t) then (if (0 ≤ f ∧ 0 ≤ o ∧ 0 ≤ n ∧ n ≤ Z j - f ∧ n ≤ Z t - o) then zsht μ B Z (rCopy M (40 * j + f) (40 * t + o) n) else zset (zsht μ B Z M) 4 17 (rFind ((zsht μ B Z M) 4 17) (-1000000001))) else zset (zsht μ B Z M) 4 17 (rFind ((zsht μ B Z M) 4 17) (-1000000003))) else zset (zsht μ B Z M) 4 17 (rFind ((zsht μ B Z M) 4 17) (-1000000006))) else zset (zsht μ B Z M) 4 17 (rFind ((zsht μ B Z M) 4 17) (-1000000001))) := by
  refine zRet.mk 0 [.ref (za Γ 4 0), .int (zi j), .int (zi f), .int (zi t), .int (zi o), .int (zi n)] RX8 rfl (by decide +kernel) (Nat.le_of_ble_eq_true rfl) rfl ?_
  intro p e s m below meth c C hr hlk
  refine zV_iload_n (i := 1) (n := 1) C dX8_copy_0 rfl rfl rfl ?_
  refine zV_callS1u (n := 4) C jX8_isSheet lX8_230 (c_isSheet (d := d) (by omega)) dX8_copy_1 (Nat.le_of_ble_eq_true rfl) (zfit_of (by omega) (by decide)) ⟨Nat.le_refl _, Nat.le_refl _⟩ rfl ?_
  refine zV_if_eq (n := 7) C 14 dX8_copy_4 (by decide) (by first | omega | exact zb_rg) rfl (fun h4 => ?_) (fun h4 => ?_)
  · skip
    simp only [zb_eq0, Decidable.not_not] at h4
    refine zV_aload_n (i := 0) (n := 15) C dX8_copy_14 rfl rfl rfl ?_
    refine zV_iconst (n := 16) C dX8_copy_15 rfl ?_
    refine zV_callV1u (n := 19) C zk7 jX8_tell lX8_61 (c_tell (d := d) (f := 0) (code := -1000000001) (by decide) (by decide)) dX8_copy_16 zs_cls rfl (Nat.le_of_ble_eq_true rfl) (zfit_of (by omega) (by decide)) ⟨Nat.le_refl _, Nat.le_refl _⟩ rfl ?_
    exact zV_ireturn C hr hlk dX8_copy_19 (by first | exact congrArg (fun z => some (Value.int (zi z))) (zif_t (by omega) (zif_t (by omega) (zif_t (by omega) (zif_t (by omega) (rfl))))) | exact congrArg (fun z => some (Value.int (zi z))) (zif_t (by omega) (zif_t (by omega) (zif_t (by omega) (zif_f (by omega) rfl)))) | exact congrArg (fun z => some (Value.int (zi z))) (zif_t (by omega) (zif_t (by omega) (zif_f (by omega) rfl))) | exact congrArg (fun z => some (Value.int (zi z))) (zif_t (by omega) (zif_f (by omega) rfl)) | exact congrArg (fun z => some (Value.int (zi z))) (zif_f (by omega) rfl)) (by first | exact zif_t (by omega) (zif_t (by omega) (zif_t (by omega) (zif_t (by omega) (rfl)))) | exact zif_t (by omega) (zif_t (by omega) (zif_t (by omega) (zif_f (by omega) rfl))) | exact zif_t (by omega) (zif_t (by omega) (zif_f (by omega) rfl)) | exact zif_t (by omega) (zif_f (by omega) rfl) | exact zif_f (by omega) rfl)
  · skip
    simp only [zb_eq0, Decidable.not_not] at h4
    refine zV_iload_n (i := 3) (n := 8) C dX8_copy_7 rfl rfl rfl ?_
    refine zV_callS1u (n := 11) C jX8_isSheet lX8_230 (c_isSheet (d := d) (by omega)) dX8_copy_8 (Nat.le_of_ble_eq_true rfl) (zfit_of (by omega) (by decide)) ⟨Nat.le_refl _, Nat.le_refl _⟩ rfl ?_
    refine zV_if_ne (n := 14) C 20 dX8_copy_11 (by decide) (by first | omega | exact zb_rg) rfl (fun h11 => ?_) (fun h11 => ?_)
    · skip
      simp only [zb_eq0, Decidable.not_not] at h11
      refine zV_aload_n (i := 0) (n := 21) C dX8_copy_20 rfl rfl rfl ?_
      refine zV_getP (f := 5) (n := 24) C zk7 fX8_38 dX8_copy_21 zs_cls rfl (by decide) rfl ?_
      refine zV_iload_n (i := 1) (n := 25) C dX8_copy_24 rfl rfl rfl ?_
      refine zV_aald (n := 26) C dX8_copy_25 zs_sheets (by first | omega | exact zb_rg) (by decide) (by decide) rfl ?_
      refine zV_callV0u (n := 29) C zk4 jX5_isMissing lX8_237 (c_isMissing (d := d) (j := j) (b := B j) (by omega) (zsb (by omega)) (hS.1 j (by omega) (by omega)).1) dX8_copy_26 (zs_sheet (by omega)) rfl (Nat.le_of_ble_eq_true rfl) (zfit_of (by omega) (by decide)) ⟨Nat.le_refl _, Nat.le_refl _⟩ rfl ?_
      refine zV_if_ne (n := 32) C 44 dX8_copy_29 (by decide) (by first | omega | exact zb_rg) rfl (fun h29 => ?_) (fun h29 => ?_)
      · skip
        simp only [zb_eq0, Decidable.not_not] at h29
        refine zV_aload_n (i := 0) (n := 45) C dX8_copy_44 rfl rfl rfl ?_
        refine zV_iconst (n := 46) C dX8_copy_45 rfl ?_
        refine zV_callV1u (n := 49) C zk7 jX8_tell lX8_61 (c_tell (d := d) (f := 5) (code := -1000000006) (by decide) (by decide)) dX8_copy_46 zs_cls rfl (Nat.le_of_ble_eq_true rfl) (zfit_of (by omega) (by decide)) ⟨Nat.le_refl _, Nat.le_refl _⟩ rfl ?_
        exact zV_ireturn C hr hlk dX8_copy_49 (by first | exact congrArg (fun z => some (Value.int (zi z))) (zif_t (by omega) (zif_t (by omega) (zif_t (by omega) (zif_t (by omega) (rfl))))) | exact congrArg (fun z => some (Value.int (zi z))) (zif_t (by omega) (zif_t (by omega) (zif_t (by omega) (zif_f (by omega) rfl)))) | exact congrArg (fun z => some (Value.int (zi z))) (zif_t (by omega) (zif_t (by omega) (zif_f (by omega) rfl))) | exact congrArg (fun z => some (Value.int (zi z))) (zif_t (by omega) (zif_f (by omega) rfl)) | exact congrArg (fun z => some (Value.int (zi z))) (zif_f (by omega) rfl)) (by first | exact zif_t (by omega) (zif_t (by omega) (zif_t (by omega) (zif_t (by omega) (rfl)))) | exact zif_t (by omega) (zif_t (by omega) (zif_t (by omega) (zif_f (by omega) rfl))) | exact zif_t (by omega) (zif_t (by omega) (zif_f (by omega) rfl)) | exact zif_t (by omega) (zif_f (by omega) rfl) | exact zif_f (by omega) rfl)
      · skip
        simp only [zb_eq0, Decidable.not_not] at h29
        refine zV_aload_n (i := 0) (n := 33) C dX8_copy_32 rfl rfl rfl ?_
        refine zV_getP (f := 5) (n := 36) C zk7 fX8_38 dX8_copy_33 zs_cls rfl (by decide) rfl ?_
        refine zV_iload_n (i := 3) (n := 37) C dX8_copy_36 rfl rfl rfl ?_
        refine zV_aald (n := 38) C dX8_copy_37 zs_sheets (by first | omega | exact zb_rg) (by decide) (by decide) rfl ?_
        refine zV_callV0u (n := 41) C zk4 jX5_isMissing lX8_237 (c_isMissing (d := d) (j := t) (b := B t) (by omega) (zsb (by omega)) (hS.1 t (by omega) (by omega)).1) dX8_copy_38 (zs_sheet (by omega)) rfl (Nat.le_of_ble_eq_true rfl) (zfit_of (by omega) (by decide)) ⟨Nat.le_refl _, Nat.le_refl _⟩ rfl ?_
        refine zV_if_eq (n := 44) C 50 dX8_copy_41 (by decide) (by first | omega | exact zb_rg) rfl (fun h41 => ?_) (fun h41 => ?_)
        · skip
          simp only [zb_eq0, Decidable.not_not] at h41
          have hb1 := (hS.1 j (by omega) (by omega)).1
          have hb2 := (hS.1 t (by omega) (by omega)).1
          refine zV_aload_n (i := 0) (n := 51) C dX8_copy_50 rfl rfl rfl ?_
          refine zV_getP (f := 5) (n := 54) C zk7 fX8_38 dX8_copy_51 zs_cls rfl (by decide) rfl ?_
          refine zV_iload_n (i := 1) (n := 55) C dX8_copy_54 rfl rfl rfl ?_
          refine zV_aald (n := 56) C dX8_copy_55 zs_sheets (by first | omega | exact zb_rg) (by decide) (by decide) rfl ?_
          refine zV_getI (f := 1) (fi := 1) (n := 59) C zk4 fX8_247 dX8_copy_56 (zs_sheet (by omega)) rfl (by decide) rfl rfl ?_
          rw [zsb (by omega)]
          refine zV_aload_n (i := 0) (n := 60) C dX8_copy_59 rfl rfl rfl ?_
          refine zV_getP (f := 5) (n := 63) C zk7 fX8_38 dX8_copy_60 zs_cls rfl (by decide) rfl ?_
          refine zV_iload_n (i := 3) (n := 64) C dX8_copy_63 rfl rfl rfl ?_
          refine zV_aald (n := 65) C dX8_copy_64 zs_sheets (by first | omega | exact zb_rg) (by decide) (by decide) rfl ?_
          refine zV_getI (f := 1) (fi := 1) (n := 68) C zk4 fX8_247 dX8_copy_65 (zs_sheet (by omega)) rfl (by decide) rfl rfl ?_
          rw [zsb (by omega)]
          refine zV_icmp_eq (n := 71) C 77 dX8_copy_68 (by decide) (by first | omega | exact zb_rg) (by first | omega | exact zb_rg) rfl (fun h68 => ?_) (fun h68 => ?_)
          · skip
            have hz1 := (hS.1 j (by omega) (by omega)).2
            have hz2 := (hS.1 t (by omega) (by omega)).2
            refine zV_aload_n (i := 0) (n := 78) C dX8_copy_77 rfl rfl rfl ?_
            refine zV_getP (f := 5) (n := 81) C zk7 fX8_38 dX8_copy_78 zs_cls rfl (by decide) rfl ?_
            refine zV_iload_n (i := 1) (n := 82) C dX8_copy_81 rfl rfl rfl ?_
            refine zV_aald (n := 83) C dX8_copy_82 zs_sheets (by first | omega | exact zb_rg) (by decide) (by decide) rfl ?_
            refine zV_iload_n (i := 2) (n := 84) C dX8_copy_83 rfl rfl rfl ?_
            refine zV_iload (n := 86) C dX8_copy_84 rfl rfl ?_
            refine zV_callV2u (n := 89) C zk4 jX5_holds lX8_250 (c_holds (d := d) (j := j) (z := Z j) (by omega) (zsz (by omega)) (hS.1 j (by omega) (by omega)).2 hf hn) dX8_copy_86 (zs_sheet (by omega)) rfl (Nat.le_of_ble_eq_true rfl) (zfit_of (by omega) (by decide)) ⟨Nat.le_refl _, Nat.le_refl _⟩ rfl ?_
            refine zV_if_eq (n := 92) C 108 dX8_copy_89 (by decide) (by first | omega | exact zb_rg) rfl (fun h89 => ?_) (fun h89 => ?_)
            · skip
              simp only [zb_eq0, Decidable.not_not] at h89
              refine zV_aload_n (i := 0) (n := 109) C dX8_copy_108 rfl rfl rfl ?_
              refine zV_iconst (n := 110) C dX8_copy_109 rfl ?_
              refine zV_callV1u (n := 113) C zk7 jX8_tell lX8_61 (c_tell (d := d) (f := 0) (code := -1000000001) (by decide) (by decide)) dX8_copy_110 zs_cls rfl (Nat.le_of_ble_eq_true rfl) (zfit_of (by omega) (by decide)) ⟨Nat.le_refl _, Nat.le_refl _⟩ rfl ?_
              exact zV_ireturn C hr hlk dX8_copy_113 (by first | exact congrArg (fun z => some (Value.int (zi z))) (zif_t (by omega) (zif_t (by omega) (zif_t (by omega) (zif_t (by omega) (rfl))))) | exact congrArg (fun z => some (Value.int (zi z))) (zif_t (by omega) (zif_t (by omega) (zif_t (by omega) (zif_f (by omega) rfl)))) | exact congrArg (fun z => some (Value.int (zi z))) (zif_t (by omega) (zif_t (by omega) (zif_f (by omega) rfl))) | exact congrArg (fun z => some (Value.int (zi z))) (zif_t (by omega) (zif_f (by omega) rfl)) | exact congrArg (fun z => some (Value.int (zi z))) (zif_f (by omega) rfl)) (by first | exact zif_t (by omega) (zif_t (by omega) (zif_t (by omega) (zif_t (by omega) (rfl)))) | exact zif_t (by omega) (zif_t (by omega) (zif_t (by omega) (zif_f (by omega) rfl))) | exact zif_t (by omega) (zif_t (by omega) (zif_f (by omega) rfl)) | exact zif_t (by omega) (zif_f (by omega) rfl) | exact zif_f (by omega) rfl)
            · skip
              simp only [zb_eq0, Decidable.not_not] at h89
              refine zV_aload_n (i := 0) (n := 93) C dX8_copy_92 rfl rfl rfl ?_
              refine zV_getP (f := 5) (n := 96) C zk7 fX8_38 dX8_copy_93 zs_cls rfl (by decide) rfl ?_
              refine zV_iload_n (i := 3) (n := 97) C dX8_copy_96 rfl rfl rfl ?_
              refine zV_aald (n := 98) C dX8_copy_97 zs_sheets (by first | omega | exact zb_rg) (by decide) (by decide) rfl ?_
              refine zV_iload (n := 100) C dX8_copy_98 rfl rfl ?_
              refine zV_iload (n := 102) C dX8_copy_100 rfl rfl ?_
              refine zV_callV2u (n := 105) C zk4 jX5_holds lX8_250 (c_holds (d := d) (j := t) (z := Z t) (by omega) (zsz (by omega)) (hS.1 t (by omega) (by omega)).2 ho hn) dX8_copy_102 (zs_sheet (by omega)) rfl (Nat.le_of_ble_eq_true rfl) (zfit_of (by omega) (by decide)) ⟨Nat.le_refl _, Nat.le_refl _⟩ rfl ?_
              refine zV_if_ne (n := 108) C 114 dX8_copy_105 (by decide) (by first | omega | exact zb_rg) rfl (fun h105 => ?_) (fun h105 => ?_)
              · skip
                simp only [zb_eq0, Decidable.not_not] at h105
                refine zV_aload_n (i := 0) (n := 115) C dX8_copy_114 rfl rfl rfl ?_
                refine zV_getP (f := 5) (n := 118) C zk7 fX8_38 dX8_copy_115 zs_cls rfl (by decide) rfl ?_
                refine zV_iload_n (i := 1) (n := 119) C dX8_copy_118 rfl rfl rfl ?_
                refine zV_aald (n := 120) C dX8_copy_119 zs_sheets (by first | omega | exact zb_rg) (by decide) (by decide) rfl ?_
                refine zV_getP (f := 0) (n := 123) C zk4 fX8_240 dX8_copy_120 (zs_sheet (by omega)) rfl (by decide) rfl ?_
                refine zV_iload_n (i := 2) (n := 124) C dX8_copy_123 rfl rfl rfl ?_
                refine zV_aload_n (i := 0) (n := 125) C dX8_copy_124 rfl rfl rfl ?_
                refine zV_getP (f := 5) (n := 128) C zk7 fX8_38 dX8_copy_125 zs_cls rfl (by decide) rfl ?_
                refine zV_iload_n (i := 3) (n := 129) C dX8_copy_128 rfl rfl rfl ?_
                refine zV_aald (n := 130) C dX8_copy_129 zs_sheets (by first | omega | exact zb_rg) (by decide) (by decide) rfl ?_
                refine zV_getP (f := 0) (n := 133) C zk4 fX8_240 dX8_copy_130 (zs_sheet (by omega)) rfl (by decide) rfl ?_
                refine zV_iload (n := 135) C dX8_copy_133 rfl rfl ?_
                refine zV_iload (n := 137) C dX8_copy_135 rfl rfl ?_
                refine zV_copyl (n := 140) C lX8_253 dX8_copy_137 (zs_nums (by omega)) (zs_nums (by omega)) (by omega) (by decide) (Nat.le_of_ble_eq_true rfl) (zfit_of (by omega) (by decide)) rfl ?_
                have e9 : zset (zsht μ B Z M) 4 (13 + t) (fun i => if o ≤ i ∧ i < o + n then zsht μ B Z M 4 (13 + j) (f + (i - o)) else zsht μ B Z M 4 (13 + t) i) = zsht μ B Z (rCopy M (40 * j + f) (40 * t + o) n) := by
                  refine zss_n (by omega) (fun i a b => ?_) (fun i a => ?_) (fun i a => ?_)
                  · unfold rCopy
                    by_cases h : o ≤ i ∧ i < o + n
                    · rw [if_pos h, if_pos (by omega), zsn (by omega) (by omega)]
                      congr 1
                      omega
                    · rw [if_neg h, if_neg (by omega), zsn (by omega) (by omega)]
                  · rw [if_neg (by omega)]
                    unfold zsht
                    rw [if_neg (by omega), if_neg (by omega), if_neg (by omega)]
                  · unfold rCopy
                    rw [if_neg (by omega)]
                rw [e9]
                refine zV_iload (n := 142) C dX8_copy_140 rfl rfl ?_
                exact zV_ireturn C hr hlk dX8_copy_142 (by first | exact congrArg (fun z => some (Value.int (zi z))) (zif_t (by omega) (zif_t (by omega) (zif_t (by omega) (zif_t (by omega) (rfl))))) | exact congrArg (fun z => some (Value.int (zi z))) (zif_t (by omega) (zif_t (by omega) (zif_t (by omega) (zif_f (by omega) rfl)))) | exact congrArg (fun z => some (Value.int (zi z))) (zif_t (by omega) (zif_t (by omega) (zif_f (by omega) rfl))) | exact congrArg (fun z => some (Value.int (zi z))) (zif_t (by omega) (zif_f (by omega) rfl)) | exact congrArg (fun z => some (Value.int (zi z))) (zif_f (by omega) rfl)) (by first | exact zif_t (by omega) (zif_t (by omega) (zif_t (by omega) (zif_t (by omega) (rfl)))) | exact zif_t (by omega) (zif_t (by omega) (zif_t (by omega) (zif_f (by omega) rfl))) | exact zif_t (by omega) (zif_t (by omega) (zif_f (by omega) rfl)) | exact zif_t (by omega) (zif_f (by omega) rfl) | exact zif_f (by omega) rfl)
              · skip
                simp only [zb_eq0, Decidable.not_not] at h105
                refine zV_aload_n (i := 0) (n := 109) C dX8_copy_108 rfl rfl rfl ?_
                refine zV_iconst (n := 110) C dX8_copy_109 rfl ?_
                refine zV_callV1u (n := 113) C zk7 jX8_tell lX8_61 (c_tell (d := d) (f := 0) (code := -1000000001) (by decide) (by decide)) dX8_copy_110 zs_cls rfl (Nat.le_of_ble_eq_true rfl) (zfit_of (by omega) (by decide)) ⟨Nat.le_refl _, Nat.le_refl _⟩ rfl ?_
                exact zV_ireturn C hr hlk dX8_copy_113 (by first | exact congrArg (fun z => some (Value.int (zi z))) (zif_t (by omega) (zif_t (by omega) (zif_t (by omega) (zif_t (by omega) (rfl))))) | exact congrArg (fun z => some (Value.int (zi z))) (zif_t (by omega) (zif_t (by omega) (zif_t (by omega) (zif_f (by omega) rfl)))) | exact congrArg (fun z => some (Value.int (zi z))) (zif_t (by omega) (zif_t (by omega) (zif_f (by omega) rfl))) | exact congrArg (fun z => some (Value.int (zi z))) (zif_t (by omega) (zif_f (by omega) rfl)) | exact congrArg (fun z => some (Value.int (zi z))) (zif_f (by omega) rfl)) (by first | exact zif_t (by omega) (zif_t (by omega) (zif_t (by omega) (zif_t (by omega) (rfl)))) | exact zif_t (by omega) (zif_t (by omega) (zif_t (by omega) (zif_f (by omega) rfl))) | exact zif_t (by omega) (zif_t (by omega) (zif_f (by omega) rfl)) | exact zif_t (by omega) (zif_f (by omega) rfl) | exact zif_f (by omega) rfl)
          · skip
            refine zV_aload_n (i := 0) (n := 72) C dX8_copy_71 rfl rfl rfl ?_
            refine zV_iconst (n := 73) C dX8_copy_72 rfl ?_
            refine zV_callV1u (n := 76) C zk7 jX8_tell lX8_61 (c_tell (d := d) (f := 2) (code := -1000000003) (by decide) (by decide)) dX8_copy_73 zs_cls rfl (Nat.le_of_ble_eq_true rfl) (zfit_of (by omega) (by decide)) ⟨Nat.le_refl _, Nat.le_refl _⟩ rfl ?_
            exact zV_ireturn C hr hlk dX8_copy_76 (by first | exact congrArg (fun z => some (Value.int (zi z))) (zif_t (by omega) (zif_t (by omega) (zif_t (by omega) (zif_t (by omega) (rfl))))) | exact congrArg (fun z => some (Value.int (zi z))) (zif_t (by omega) (zif_t (by omega) (zif_t (by omega) (zif_f (by omega) rfl)))) | exact congrArg (fun z => some (Value.int (zi z))) (zif_t (by omega) (zif_t (by omega) (zif_f (by omega) rfl))) | exact congrArg (fun z => some (Value.int (zi z))) (zif_t (by omega) (zif_f (by omega) rfl)) | exact congrArg (fun z => some (Value.int (zi z))) (zif_f (by omega) rfl)) (by first | exact zif_t (by omega) (zif_t (by omega) (zif_t (by omega) (zif_t (by omega) (rfl)))) | exact zif_t (by omega) (zif_t (by omega) (zif_t (by omega) (zif_f (by omega) rfl))) | exact zif_t (by omega) (zif_t (by omega) (zif_f (by omega) rfl)) | exact zif_t (by omega) (zif_f (by omega) rfl) | exact zif_f (by omega) rfl)
        · skip
          simp only [zb_eq0, Decidable.not_not] at h41
          refine zV_aload_n (i := 0) (n := 45) C dX8_copy_44 rfl rfl rfl ?_
          refine zV_iconst (n := 46) C dX8_copy_45 rfl ?_
          refine zV_callV1u (n := 49) C zk7 jX8_tell lX8_61 (c_tell (d := d) (f := 5) (code := -1000000006) (by decide) (by decide)) dX8_copy_46 zs_cls rfl (Nat.le_of_ble_eq_true rfl) (zfit_of (by omega) (by decide)) ⟨Nat.le_refl _, Nat.le_refl _⟩ rfl ?_
          exact zV_ireturn C hr hlk dX8_copy_49 (by first | exact congrArg (fun z => some (Value.int (zi z))) (zif_t (by omega) (zif_t (by omega) (zif_t (by omega) (zif_t (by omega) (rfl))))) | exact congrArg (fun z => some (Value.int (zi z))) (zif_t (by omega) (zif_t (by omega) (zif_t (by omega) (zif_f (by omega) rfl)))) | exact congrArg (fun z => some (Value.int (zi z))) (zif_t (by omega) (zif_t (by omega) (zif_f (by omega) rfl))) | exact congrArg (fun z => some (Value.int (zi z))) (zif_t (by omega) (zif_f (by omega) rfl)) | exact congrArg (fun z => some (Value.int (zi z))) (zif_f (by omega) rfl)) (by first | exact zif_t (by omega) (zif_t (by omega) (zif_t (by omega) (zif_t (by omega) (rfl)))) | exact zif_t (by omega) (zif_t (by omega) (zif_t (by omega) (zif_f (by omega) rfl))) | exact zif_t (by omega) (zif_t (by omega) (zif_f (by omega) rfl)) | exact zif_t (by omega) (zif_f (by omega) rfl) | exact zif_f (by omega) rfl)
    · skip
      simp only [zb_eq0, Decidable.not_not] at h11
      refine zV_aload_n (i := 0) (n := 15) C dX8_copy_14 rfl rfl rfl ?_
      refine zV_iconst (n := 16) C dX8_copy_15 rfl ?_
      refine zV_callV1u (n := 19) C zk7 jX8_tell lX8_61 (c_tell (d := d) (f := 0) (code := -1000000001) (by decide) (by decide)) dX8_copy_16 zs_cls rfl (Nat.le_of_ble_eq_true rfl) (zfit_of (by omega) (by decide)) ⟨Nat.le_refl _, Nat.le_refl _⟩ rfl ?_
      exact zV_ireturn C hr hlk dX8_copy_19 (by first | exact congrArg (fun z => some (Value.int (zi z))) (zif_t (by omega) (zif_t (by omega) (zif_t (by omega) (zif_t (by omega) (rfl))))) | exact congrArg (fun z => some (Value.int (zi z))) (zif_t (by omega) (zif_t (by omega) (zif_t (by omega) (zif_f (by omega) rfl)))) | exact congrArg (fun z => some (Value.int (zi z))) (zif_t (by omega) (zif_t (by omega) (zif_f (by omega) rfl))) | exact congrArg (fun z => some (Value.int (zi z))) (zif_t (by omega) (zif_f (by omega) rfl)) | exact congrArg (fun z => some (Value.int (zi z))) (zif_f (by omega) rfl)) (by first | exact zif_t (by omega) (zif_t (by omega) (zif_t (by omega) (zif_t (by omega) (rfl)))) | exact zif_t (by omega) (zif_t (by omega) (zif_t (by omega) (zif_f (by omega) rfl))) | exact zif_t (by omega) (zif_t (by omega) (zif_f (by omega) rfl)) | exact zif_t (by omega) (zif_f (by omega) rfl) | exact zif_f (by omega) rfl)

set_option maxRecDepth 100000 in
set_option maxHeartbeats 4000000 in
theorem c_lays_loop {Γ : zC} {l : Launch} {d : Nat} {p : Program} {e : Env} {s : State} {m : MethodId} {args : Array Value} {below : List Frame} {meth : Method} {c : Code} {Q : State → Prop} (C : zCx Γ (zAA Γ) p s m args c RX8 cX8_lays 6) {μ : zMem} {B Z M : Int → Int} (hS : rSh B Z M) {j : Int} (hj : 0 ≤ j ∧ j < 4) {c0 : Int} (hc0 : 0 ≤ c0 ∧ c0 ≤ 6) {nn : Int} (hnn : (nn = Z j ∨ nn = c0) ∧ nn ≤ Z j ∧ nn ≤ c0) :
    ∀ (i : Nat) (k a : Int) (T : Int → Int) (v4 v5 : Value) (hT : T 0 = c0) (h0 : 0 ≤ k) (hi : k + i = nn) (KK : ∀ v4 v5 : Value, zV Γ (zAA Γ) p l e (zRm (d + 1)) s m args below meth c 0 0 Q 112 [.ref (za Γ 4 0), .int (zi j), .int (zi (rLayN M (40 * j) i k a)), .int (zi nn), v4, v5] [] (zcar (zsht μ B Z M) 0 (rLayS M (40 * j) i k T))), zV Γ (zAA Γ) p l e (zRm (d + 1)) s m args below meth c 0 0 Q 35 [.ref (za Γ 4 0), .int (zi j), .int (zi a), .int (zi k), v4, v5] [] (zcar (zsht μ B Z M) 0 T) := by
  intro i
  induction i with
  | zero =>
    intro k a T v4 v5 hT h0 hi KK
    have hk : k = nn := by omega
    subst hk
    have hz := (hS.1 j (by omega) (by omega)).2
    refine zV_iload_n (i := 3) (n := 36) C dX8_lays_35 rfl rfl rfl ?_
    refine zV_aload_n (i := 0) (n := 37) C dX8_lays_36 rfl rfl rfl ?_
    refine zV_getP (f := 0) (n := 40) C zk7 fX8_10 dX8_lays_37 zs_cls rfl (by decide) rfl ?_
    refine zV_getI (f := 2) (fi := 2) (n := 43) C zk0 fX8_206 dX8_lays_40 (zs_car (by omega)) rfl (by decide) rfl rfl ?_
    rw [zc_cnt]
    rw [hT]
    refine zV_icmp_ge (n := 46) C 112 dX8_lays_43 (by decide) (by first | omega | exact zb_rg) (by first | omega | exact zb_rg) rfl (fun h43 => ?_) (fun h43 => ?_)
    · skip
      exact KK _ _
    · skip
      refine zV_iload_n (i := 3) (n := 47) C dX8_lays_46 rfl rfl rfl ?_
      refine zV_aload_n (i := 0) (n := 48) C dX8_lays_47 rfl rfl rfl ?_
      refine zV_getP (f := 5) (n := 51) C zk7 fX8_38 dX8_lays_48 zs_cls rfl (by decide) rfl ?_
      refine zV_iload_n (i := 1) (n := 52) C dX8_lays_51 rfl rfl rfl ?_
      refine zV_aald (n := 53) C dX8_lays_52 zs_sheets (by first | omega | exact zb_rg) (by decide) (by decide) rfl ?_
      refine zV_getI (f := 2) (fi := 2) (n := 56) C zk4 fX8_236 dX8_lays_53 (zs_sheet (by omega)) rfl (by decide) rfl rfl ?_
      rw [zcz1 (by decide) (by omega)]
      refine zV_icmp_ge (n := 59) C 112 dX8_lays_56 (by decide) (by first | omega | exact zb_rg) (by first | omega | exact zb_rg) rfl (fun h56 => ?_) (fun h => by exfalso; first | omega | exact zb_rg)
      exact KK _ _
  | succ i ih =>
    intro k a T v4 v5 hT h0 hi KK
    have hz := (hS.1 j (by omega) (by omega)).2
    have hm := hS.2 (40 * j + k) (by omega) (by omega)
    refine zV_iload_n (i := 3) (n := 36) C dX8_lays_35 rfl rfl rfl ?_
    refine zV_aload_n (i := 0) (n := 37) C dX8_lays_36 rfl rfl rfl ?_
    refine zV_getP (f := 0) (n := 40) C zk7 fX8_10 dX8_lays_37 zs_cls rfl (by decide) rfl ?_
    refine zV_getI (f := 2) (fi := 2) (n := 43) C zk0 fX8_206 dX8_lays_40 (zs_car (by omega)) rfl (by decide) rfl rfl ?_
    rw [zc_cnt]
    rw [hT]
    refine zV_icmp_ge (n := 46) C 112 dX8_lays_43 (by decide) (by first | omega | exact zb_rg) (by first | omega | exact zb_rg) rfl (fun h => by exfalso; first | omega | exact zb_rg) (fun h43 => ?_)
    refine zV_iload_n (i := 3) (n := 47) C dX8_lays_46 rfl rfl rfl ?_
    refine zV_aload_n (i := 0) (n := 48) C dX8_lays_47 rfl rfl rfl ?_
    refine zV_getP (f := 5) (n := 51) C zk7 fX8_38 dX8_lays_48 zs_cls rfl (by decide) rfl ?_
    refine zV_iload_n (i := 1) (n := 52) C dX8_lays_51 rfl rfl rfl ?_
    refine zV_aald (n := 53) C dX8_lays_52 zs_sheets (by first | omega | exact zb_rg) (by decide) (by decide) rfl ?_
    refine zV_getI (f := 2) (fi := 2) (n := 56) C zk4 fX8_236 dX8_lays_53 (zs_sheet (by omega)) rfl (by decide) rfl rfl ?_
    rw [zcz1 (by decide) (by omega)]
    refine zV_icmp_ge (n := 59) C 112 dX8_lays_56 (by decide) (by first | omega | exact zb_rg) (by first | omega | exact zb_rg) rfl (fun h => by exfalso; first | omega | exact zb_rg) (fun h56 => ?_)
    refine zV_aload_n (i := 0) (n := 60) C dX8_lays_59 rfl rfl rfl ?_
    refine zV_getP (f := 5) (n := 63) C zk7 fX8_38 dX8_lays_60 zs_cls rfl (by decide) rfl ?_
    refine zV_iload_n (i := 1) (n := 64) C dX8_lays_63 rfl rfl rfl ?_
    refine zV_aald (n := 65) C dX8_lays_64 zs_sheets (by first | omega | exact zb_rg) (by decide) (by decide) rfl ?_
    refine zV_getP (f := 0) (n := 68) C zk4 fX8_240 dX8_lays_65 (zs_sheet (by omega)) rfl (by decide) rfl ?_
    refine zV_iload_n (i := 3) (n := 69) C dX8_lays_68 rfl rfl rfl ?_
    refine zV_lald (n := 70) C dX8_lays_69 (zs_nums (by omega)) (by first | omega | exact zb_rg) (by decide) rfl ?_
    rw [zcn1 (by decide) (by omega) (by omega)]
    refine zS_lstore_6_4 (n := 72) C dX8_lays_70 rfl rfl ?_
    refine zV_lload (n := 74) C dX8_lays_72 rfl rfl ?_
    refine zV_lconst (v := 0) (n := 75) C dX8_lays_74 rfl rfl ?_
    refine zV_lcmp_lt (n := 79) C 106 dX8_lays_75 dX8_lays_76 (by decide) (by first | omega | exact zb_rg) (by first | omega | exact zb_rg) rfl (fun h75 => ?_) (fun h75 => ?_)
    · skip
      refine zS_iinc_6_3 (n := 109) C dX8_lays_106 rfl rfl ?_
      refine zV_goto C 35 dX8_lays_109 (by decide) ?_
      have K9 := ih (k + 1) a T (.long (zl (M (40 * j + k)))) .null hT (by omega) (by omega) (fun v4 v5 => by have K8 := KK v4 v5; unfold rLayN rLayS at K8; rw [if_neg (by omega), if_neg (by omega), Int.add_zero] at K8; exact K8)
      exact K9
    · skip
      refine zV_lload (n := 81) C dX8_lays_79 rfl rfl ?_
      refine zV_ldc2 (n := 84) C dX8_lays_81 kX8_259 rfl ?_
      refine zV_lcmp_gt (n := 88) C 106 dX8_lays_84 dX8_lays_85 (by decide) (by first | omega | exact zb_rg) (by first | omega | exact zb_rg) rfl (fun h84 => ?_) (fun h84 => ?_)
      · skip
        refine zS_iinc_6_3 (n := 109) C dX8_lays_106 rfl rfl ?_
        refine zV_goto C 35 dX8_lays_109 (by decide) ?_
        have K9 := ih (k + 1) a T (.long (zl (M (40 * j + k)))) .null hT (by omega) (by omega) (fun v4 v5 => by have K8 := KK v4 v5; unfold rLayN rLayS at K8; rw [if_neg (by omega), if_neg (by omega), Int.add_zero] at K8; exact K8)
        exact K9
      · skip
        refine zV_aload_n (i := 0) (n := 89) C dX8_lays_88 rfl rfl rfl ?_
        refine zV_getP (f := 0) (n := 92) C zk7 fX8_10 dX8_lays_89 zs_cls rfl (by decide) rfl ?_
        refine zV_getP (f := 1) (n := 95) C zk0 fX8_92 dX8_lays_92 (zs_car (by omega)) rfl (by decide) rfl ?_
        refine zV_iload_n (i := 3) (n := 96) C dX8_lays_95 rfl rfl rfl ?_
        refine zV_aald (n := 97) C dX8_lays_96 (zs_carC (by omega)) (by first | omega | exact zb_rg) (by decide) (by decide) rfl ?_
        refine zV_lload (n := 99) C dX8_lays_97 rfl rfl ?_
        refine zV_l2i (n := 100) C dX8_lays_99 rfl ?_
        refine zV_putI (f := 2) (fi := 2) (n := 103) C zk2 fX8_114 dX8_lays_100 (zs_child (by omega) (by omega)) rfl (by decide) rfl rfl rfl rfl ?_
        rw [zcu_kid (by omega) (by omega)]
        refine zS_iinc_6_2 (n := 106) C dX8_lays_103 rfl rfl ?_
        refine zS_iinc_6_3 (n := 109) C dX8_lays_106 rfl rfl ?_
        refine zV_goto C 35 dX8_lays_109 (by decide) ?_
        have K9 := ih (k + 1) (a + 1) (zfu T (19 + 6 * k + 2) (M (40 * j + k))) (.long (zl (M (40 * j + k)))) .null (by rw [zfu_ne (by omega)]; exact hT) (by omega) (by omega) (fun v4 v5 => by have K8 := KK v4 v5; unfold rLayN rLayS at K8; rw [if_pos (by omega), if_pos (by omega)] at K8; exact K8)
        exact K9

set_option maxRecDepth 100000 in
set_option maxHeartbeats 4000000 in
theorem c_lays {Γ : zC} {l : Launch} {d : Nat} {μ : zMem} {S : Int → Int} {N : Int} (I : rInv N S) {B Z M : Int → Int} (hS : rSh B Z M) {j : Int} (hj : -2147483648 ≤ j ∧ j ≤ 2147483647) : zRet Γ l (d + 1) qX8_lays [.ref (za Γ 4 0), .int (zi j)] (zcar (zsht μ B Z M) 0 S) (some (.int (zi (if rWsh B j = 0 then rLayN M (40 * j) (if Z j < S 0 then Z j else S 0).toNat 0 0 else rWsh B j)))) (if rWsh B j = 0 then (zcar (zsht μ B Z M) 0 (rLayS M (40 * j) (if Z j < S 0 then Z j else S 0).toNat 0 S)) else zset (zcar (zsht μ B Z M) 0 S) 4 17 (rFind ((zcar (zsht μ B Z M) 0 S) 4 17) (rWsh B j))) := by
  refine zRet.mk 4 [.ref (za Γ 4 0), .int (zi j), .null, .null, .null, .null] RX8 rfl (by decide +kernel) (Nat.le_of_ble_eq_true rfl) rfl ?_
  intro p e s m below meth c C hr hlk
  have h0 := I.1
  have h1 := I.2.1
  have h2 := I.2.2.1
  have h3 := I.2.2.2.1
  refine zV_iload_n (i := 1) (n := 1) C dX8_lays_0 rfl rfl rfl ?_
  refine zV_callS1u (n := 4) C jX8_isSheet lX8_230 (c_isSheet (d := d) (by omega)) dX8_lays_1 (Nat.le_of_ble_eq_true rfl) (zfit_of (by omega) (by decide)) ⟨Nat.le_refl _, Nat.le_refl _⟩ rfl ?_
  refine zV_if_ne (n := 7) C 13 dX8_lays_4 (by decide) (by first | omega | exact zb_rg) rfl (fun h4 => ?_) (fun h4 => ?_)
  · skip
    simp only [zb_eq0, Decidable.not_not] at h4
    refine zV_aload_n (i := 0) (n := 14) C dX8_lays_13 rfl rfl rfl ?_
    refine zV_getP (f := 5) (n := 17) C zk7 fX8_38 dX8_lays_14 zs_cls rfl (by decide) rfl ?_
    refine zV_iload_n (i := 1) (n := 18) C dX8_lays_17 rfl rfl rfl ?_
    refine zV_aald (n := 19) C dX8_lays_18 zs_sheets (by first | omega | exact zb_rg) (by decide) (by decide) rfl ?_
    refine zV_callV0u (n := 22) C zk4 jX5_isMissing lX8_237 (c_isMissing (d := d) (j := j) (b := B j) (by omega) (by rw [zc_ne (by decide), zsb (by omega)]) (hS.1 j (by omega) (by omega)).1) dX8_lays_19 (zs_sheet (by omega)) rfl (Nat.le_of_ble_eq_true rfl) (zfit_of (by omega) (by decide)) ⟨Nat.le_refl _, Nat.le_refl _⟩ rfl ?_
    refine zV_if_eq (n := 25) C 31 dX8_lays_22 (by decide) (by first | omega | exact zb_rg) rfl (fun h22 => ?_) (fun h22 => ?_)
    · skip
      simp only [zb_eq0, Decidable.not_not] at h22
      refine zV_iconst (n := 32) C dX8_lays_31 rfl ?_
      refine zS_istore_n_6_2 (n := 33) C dX8_lays_32 rfl rfl ?_
      refine zV_iconst (n := 34) C dX8_lays_33 rfl ?_
      refine zS_istore_n_6_3 (n := 35) C dX8_lays_34 rfl rfl ?_
      have hz := (hS.1 j (by omega) (by omega)).2
      have hnn : ((if Z j < S 0 then Z j else S 0) = Z j ∨ (if Z j < S 0 then Z j else S 0) = S 0) ∧ (if Z j < S 0 then Z j else S 0) ≤ Z j ∧ (if Z j < S 0 then Z j else S 0) ≤ S 0 ∧ 0 ≤ (if Z j < S 0 then Z j else S 0) := by split <;> omega
      refine c_lays_loop C hS (by omega) h0 (nn := (if Z j < S 0 then Z j else S 0)) (by omega) (if Z j < S 0 then Z j else S 0).toNat 0 0 S .null .null rfl (by omega) (by omega) (fun v4 v5 => ?_)
      refine zV_iload_n (i := 2) (n := 113) C dX8_lays_112 rfl rfl rfl ?_
      exact zV_ireturn C hr hlk dX8_lays_113 (by first | exact congrArg (fun z => some (Value.int (zi z))) (zif_t (by unfold rWsh; rw [if_pos (by omega)]; exact if_neg (by omega)) rfl)) (by exact zif_t (by unfold rWsh; rw [if_pos (by omega)]; exact if_neg (by omega)) rfl)
    · skip
      simp only [zb_eq0, Decidable.not_not] at h22
      refine zV_aload_n (i := 0) (n := 26) C dX8_lays_25 rfl rfl rfl ?_
      refine zV_iconst (n := 27) C dX8_lays_26 rfl ?_
      refine zV_callV1u (n := 30) C zk7 jX8_tell lX8_61 (c_tell (d := d) (f := 5) (code := -1000000006) (by decide) (by decide)) dX8_lays_27 zs_cls rfl (Nat.le_of_ble_eq_true rfl) (zfit_of (by omega) (by decide)) ⟨Nat.le_refl _, Nat.le_refl _⟩ rfl ?_
      exact zV_ireturn C hr hlk dX8_lays_30 (by exact congrArg (fun z => some (Value.int (zi z))) (by rw [show rWsh B j = -1000000006 from by unfold rWsh; rw [if_pos (by omega)]; exact if_pos (by omega)]; rfl)) (by rw [show rWsh B j = -1000000006 from by unfold rWsh; rw [if_pos (by omega)]; exact if_pos (by omega)]; rfl)
  · skip
    simp only [zb_eq0, Decidable.not_not] at h4
    refine zV_aload_n (i := 0) (n := 8) C dX8_lays_7 rfl rfl rfl ?_
    refine zV_iconst (n := 9) C dX8_lays_8 rfl ?_
    refine zV_callV1u (n := 12) C zk7 jX8_tell lX8_61 (c_tell (d := d) (f := 0) (code := -1000000001) (by decide) (by decide)) dX8_lays_9 zs_cls rfl (Nat.le_of_ble_eq_true rfl) (zfit_of (by omega) (by decide)) ⟨Nat.le_refl _, Nat.le_refl _⟩ rfl ?_
    exact zV_ireturn C hr hlk dX8_lays_12 (by exact congrArg (fun z => some (Value.int (zi z))) (by rw [show rWsh B j = -1000000001 from by unfold rWsh; exact if_neg (by omega)]; rfl)) (by rw [show rWsh B j = -1000000001 from by unfold rWsh; exact if_neg (by omega)]; rfl)

set_option maxRecDepth 100000 in
set_option maxHeartbeats 4000000 in
theorem c_book_loop {Γ : zC} {l : Launch} {d : Nat} {p : Program} {e : Env} {s : State} {m : MethodId} {args : Array Value} {below : List Frame} {meth : Method} {c : Code} {Q : State → Prop} (C : zCx Γ (zAA Γ) p s m args c RX8 cX8_book 4) {μ : zMem} {S B Z : Int → Int} {j : Int} (hj : 0 ≤ j ∧ j < 4) {x : Int} (hb : B j = 0 ∨ B j = 8 ∨ B j = 16 ∨ B j = 64) (hz : 0 ≤ Z j ∧ Z j ≤ 40) :
    ∀ (i : Nat) (k N : Int) (T M : Int → Int) (J : rInv N T) (hN : N + i ≤ 20000) (hx : 0 ≤ x ∧ x < T 0) (h0 : 0 ≤ k) (hi : k + i = Z j) (KK : zV Γ (zAA Γ) p l e (zRm (d + 4)) s m args below meth c 0 0 Q 110 [.ref (za Γ 4 0), .int (zi j), .int (zi x), .int (zi (Z j))] [] (zcar (zcar (zsht μ B Z (rBook x (40 * j) i k T M)) 0 S) 2 (rGo i T))), zV Γ (zAA Γ) p l e (zRm (d + 4)) s m args below meth c 0 0 Q 61 [.ref (za Γ 4 0), .int (zi j), .int (zi x), .int (zi k)] [] (zcar (zcar (zsht μ B Z M) 0 S) 2 T) := by
  intro i
  induction i with
  | zero =>
    intro k N T M J hN hx h0 hi KK
    have hk : k = Z j := by omega
    subst hk
    refine zV_iload_n (i := 3) (n := 62) C dX8_book_61 rfl rfl rfl ?_
    refine zV_aload_n (i := 0) (n := 63) C dX8_book_62 rfl rfl rfl ?_
    refine zV_getP (f := 5) (n := 66) C zk7 fX8_38 dX8_book_63 zs_cls rfl (by decide) rfl ?_
    refine zV_iload_n (i := 1) (n := 67) C dX8_book_66 rfl rfl rfl ?_
    refine zV_aald (n := 68) C dX8_book_67 zs_sheets (by first | omega | exact zb_rg) (by decide) (by decide) rfl ?_
    refine zV_getI (f := 2) (fi := 2) (n := 71) C zk4 fX8_236 dX8_book_68 (zs_sheet (by omega)) rfl (by decide) rfl rfl ?_
    rw [zcz2 (by decide) (by decide) (by omega)]
    refine zV_icmp_ge (n := 74) C 110 dX8_book_71 (by decide) (by first | omega | exact zb_rg) (by first | omega | exact zb_rg) rfl (fun h71 => ?_) (fun h => by exfalso; first | omega | exact zb_rg)
    exact KK
  | succ i ih =>
    intro k N T M J hN hx h0 hi KK
    have z0 := J.1
    have hc := J.2.2.2.2.2.1 x hx.1 (by omega)
    refine zV_iload_n (i := 3) (n := 62) C dX8_book_61 rfl rfl rfl ?_
    refine zV_aload_n (i := 0) (n := 63) C dX8_book_62 rfl rfl rfl ?_
    refine zV_getP (f := 5) (n := 66) C zk7 fX8_38 dX8_book_63 zs_cls rfl (by decide) rfl ?_
    refine zV_iload_n (i := 1) (n := 67) C dX8_book_66 rfl rfl rfl ?_
    refine zV_aald (n := 68) C dX8_book_67 zs_sheets (by first | omega | exact zb_rg) (by decide) (by decide) rfl ?_
    refine zV_getI (f := 2) (fi := 2) (n := 71) C zk4 fX8_236 dX8_book_68 (zs_sheet (by omega)) rfl (by decide) rfl rfl ?_
    rw [zcz2 (by decide) (by decide) (by omega)]
    refine zV_icmp_ge (n := 74) C 110 dX8_book_71 (by decide) (by first | omega | exact zb_rg) (by first | omega | exact zb_rg) rfl (fun h => by exfalso; first | omega | exact zb_rg) (fun h71 => ?_)
    refine zV_aload_n (i := 0) (n := 75) C dX8_book_74 rfl rfl rfl ?_
    refine zV_getP (f := 5) (n := 78) C zk7 fX8_38 dX8_book_75 zs_cls rfl (by decide) rfl ?_
    refine zV_iload_n (i := 1) (n := 79) C dX8_book_78 rfl rfl rfl ?_
    refine zV_aald (n := 80) C dX8_book_79 zs_sheets (by first | omega | exact zb_rg) (by decide) (by decide) rfl ?_
    refine zV_iload_n (i := 3) (n := 81) C dX8_book_80 rfl rfl rfl ?_
    refine zV_aload_n (i := 0) (n := 82) C dX8_book_81 rfl rfl rfl ?_
    refine zV_getP (f := 2) (n := 85) C zk7 fX8_19 dX8_book_82 zs_cls rfl (by decide) rfl ?_
    refine zV_getP (f := 1) (n := 88) C zk0 fX8_92 dX8_book_85 (zs_car (by omega)) rfl (by decide) rfl ?_
    refine zV_iload_n (i := 2) (n := 89) C dX8_book_88 rfl rfl rfl ?_
    refine zV_aald (n := 90) C dX8_book_89 (zs_carC (by omega)) (by first | omega | exact zb_rg) (by decide) (by decide) rfl ?_
    refine zV_getI (f := 2) (fi := 2) (n := 93) C zk2 fX8_114 dX8_book_90 (zs_child (by omega) (by omega)) rfl (by decide) rfl rfl ?_
    rw [zc_kid (by omega) (by omega)]
    refine zV_i2l (n := 94) C dX8_book_93 (by first | omega | exact zb_rg) rfl ?_
    refine zV_callV2v (n := 97) C zk4 jX5_put lX8_244 (c_sheet_put (d := d) (j := j) (b := B j) (by omega) (by rw [zc_ne (by decide), zc_ne (by decide), zsb (by omega)]) hb (by omega) (by omega)) dX8_book_94 (zs_sheet (by omega)) rfl (Nat.le_of_ble_eq_true rfl) (zfit_of (by omega) (by decide)) ⟨Nat.le_refl _, Nat.le_refl _⟩ rfl ?_
    rw [rNar_small (by omega), zcu_4 (by decide), zcu_4 (by decide), zsu_n (by omega) (by omega)]
    have I := J
    refine zV_aload_n (i := 0) (n := 98) C dX8_book_97 rfl rfl rfl ?_
    refine zV_getP (f := 2) (n := 101) C zk7 fX8_19 dX8_book_98 zs_cls rfl (by decide) rfl ?_
    refine zV_callV0v (n := 104) C zk0 jX0_passMinute lX8_169 (c_passMinute (d := d) (by omega) I (by omega)) dX8_book_101 (zs_car (by omega)) rfl (Nat.le_of_ble_eq_true rfl) (zfit_of (by omega) (by decide)) ⟨Nat.le_refl _, Nat.le_refl _⟩ rfl ?_
    refine zS_iinc_4_3 (n := 107) C dX8_book_104 rfl rfl ?_
    refine zV_goto C 61 dX8_book_107 (by decide) ?_
    have e0 := rMin_0 J
    exact ih (k + 1) (N + 1) (rMin T) _ (rMin_inv J) (by omega) (by omega) (by omega) (by omega) KK

set_option maxRecDepth 100000 in
set_option maxHeartbeats 4000000 in
theorem c_book {Γ : zC} {l : Launch} {d : Nat} {μ : zMem} {S : Int → Int} {N : Int} (I : rInv N S) (hN : N ≤ 10000) {B Z M : Int → Int} (hS : rSh B Z M) {j : Int} (hj : -2147483648 ≤ j ∧ j ≤ 2147483647) {x : Int} (hx : -2147483648 ≤ x ∧ x ≤ 2147483647) : zRet Γ l (d + 4) qX8_book [.ref (za Γ 4 0), .int (zi j), .int (zi x)] (zcar (zsht μ B Z M) 0 S) (some (.int (zi (if rWbk B S j x = 0 then Z j else rWbk B S j x)))) (if rWbk B S j x = 0 then (zcar (zcar (zsht μ B Z (rBook x (40 * j) (Z j).toNat 0 S M)) 2 (rGo (Z j).toNat S)) 0 S) else zset (zcar (zsht μ B Z M) 0 S) 4 17 (rFind ((zcar (zsht μ B Z M) 0 S) 4 17) (rWbk B S j x))) := by
  refine zRet.mk 1 [.ref (za Γ 4 0), .int (zi j), .int (zi x), .null] RX8 rfl (by decide +kernel) (Nat.le_of_ble_eq_true rfl) rfl ?_
  intro p e s m below meth c C hr hlk
  have h0 := I.1
  have h1 := I.2.1
  have h2 := I.2.2.1
  have h3 := I.2.2.2.1
  refine zV_iload_n (i := 1) (n := 1) C dX8_book_0 rfl rfl rfl ?_
  refine zV_callS1u (n := 4) C jX8_isSheet lX8_230 (c_isSheet (d := d) (by omega)) dX8_book_1 (Nat.le_of_ble_eq_true rfl) (zfit_of (by omega) (by decide)) ⟨Nat.le_refl _, Nat.le_refl _⟩ rfl ?_
  refine zV_if_ne (n := 7) C 13 dX8_book_4 (by decide) (by first | omega | exact zb_rg) rfl (fun h4 => ?_) (fun h4 => ?_)
  · skip
    simp only [zb_eq0, Decidable.not_not] at h4
    refine zV_aload_n (i := 0) (n := 14) C dX8_book_13 rfl rfl rfl ?_
    refine zV_getP (f := 5) (n := 17) C zk7 fX8_38 dX8_book_14 zs_cls rfl (by decide) rfl ?_
    refine zV_iload_n (i := 1) (n := 18) C dX8_book_17 rfl rfl rfl ?_
    refine zV_aald (n := 19) C dX8_book_18 zs_sheets (by first | omega | exact zb_rg) (by decide) (by decide) rfl ?_
    refine zV_callV0u (n := 22) C zk4 jX5_isMissing lX8_237 (c_isMissing (d := d) (j := j) (b := B j) (by omega) (by rw [zc_ne (by decide), zsb (by omega)]) (hS.1 j (by omega) (by omega)).1) dX8_book_19 (zs_sheet (by omega)) rfl (Nat.le_of_ble_eq_true rfl) (zfit_of (by omega) (by decide)) ⟨Nat.le_refl _, Nat.le_refl _⟩ rfl ?_
    refine zV_if_eq (n := 25) C 31 dX8_book_22 (by decide) (by first | omega | exact zb_rg) rfl (fun h22 => ?_) (fun h22 => ?_)
    · skip
      simp only [zb_eq0, Decidable.not_not] at h22
      refine zV_aload_n (i := 0) (n := 32) C dX8_book_31 rfl rfl rfl ?_
      refine zV_getP (f := 0) (n := 35) C zk7 fX8_10 dX8_book_32 zs_cls rfl (by decide) rfl ?_
      refine zV_iload_n (i := 2) (n := 36) C dX8_book_35 rfl rfl rfl ?_
      refine zV_callV1u (n := 39) C zk0 jX0_has lX8_89 (c_has (d := d) (by omega) I (by omega)) dX8_book_36 (zs_car (by omega)) rfl (Nat.le_of_ble_eq_true rfl) (zfit_of (by omega) (by decide)) ⟨Nat.le_refl _, Nat.le_refl _⟩ rfl ?_
      refine zV_if_ne (n := 42) C 48 dX8_book_39 (by decide) (by first | omega | exact zb_rg) rfl (fun h39 => ?_) (fun h39 => ?_)
      · skip
        simp only [zb_eq0, Decidable.not_not] at h39
        refine zV_aload_n (i := 0) (n := 49) C dX8_book_48 rfl rfl rfl ?_
        refine zV_getP (f := 2) (n := 52) C zk7 fX8_19 dX8_book_49 zs_cls rfl (by decide) rfl ?_
        refine zV_aload_n (i := 0) (n := 53) C dX8_book_52 rfl rfl rfl ?_
        refine zV_getP (f := 0) (n := 56) C zk7 fX8_10 dX8_book_53 zs_cls rfl (by decide) rfl ?_
        refine zV_callV1v (n := 59) C zk0 jX0_become lX8_165 (c_become (d := d) (by omega) (by omega) (by omega) I) dX8_book_56 (zs_car (by omega)) rfl (Nat.le_of_ble_eq_true rfl) (zfit_of (by omega) (by decide)) ⟨Nat.le_refl _, Nat.le_refl _⟩ rfl ?_
        refine zV_iconst (n := 60) C dX8_book_59 rfl ?_
        refine zS_istore_n_4_3 (n := 61) C dX8_book_60 rfl rfl ?_
        have hz := (hS.1 j (by omega) (by omega)).2
        have hb := (hS.1 j (by omega) (by omega)).1
        refine c_book_loop C (by omega) hb hz (Z j).toNat 0 N S M I (by omega) (by omega) (by omega) (by omega) ?_
        refine zV_eqm (zcar_comm (by decide)) ?_
        refine zV_aload_n (i := 0) (n := 111) C dX8_book_110 rfl rfl rfl ?_
        refine zV_getP (f := 5) (n := 114) C zk7 fX8_38 dX8_book_111 zs_cls rfl (by decide) rfl ?_
        refine zV_iload_n (i := 1) (n := 115) C dX8_book_114 rfl rfl rfl ?_
        refine zV_aald (n := 116) C dX8_book_115 zs_sheets (by first | omega | exact zb_rg) (by decide) (by decide) rfl ?_
        refine zV_getI (f := 2) (fi := 2) (n := 119) C zk4 fX8_236 dX8_book_116 (zs_sheet (by omega)) rfl (by decide) rfl rfl ?_
        rw [zcz2 (by decide) (by decide) (by omega)]
        exact zV_ireturn C hr hlk dX8_book_119 (by first | exact congrArg (fun z => some (Value.int (zi z))) (zif_t (by unfold rWbk; rw [if_pos (show rWsh B j = 0 from by unfold rWsh; rw [if_pos (by omega)]; exact if_neg (by omega))]; exact if_pos (by omega)) rfl)) (by exact zif_t (by unfold rWbk; rw [if_pos (show rWsh B j = 0 from by unfold rWsh; rw [if_pos (by omega)]; exact if_neg (by omega))]; exact if_pos (by omega)) rfl)
      · skip
        simp only [zb_eq0, Decidable.not_not] at h39
        refine zV_aload_n (i := 0) (n := 43) C dX8_book_42 rfl rfl rfl ?_
        refine zV_iconst (n := 44) C dX8_book_43 rfl ?_
        refine zV_callV1u (n := 47) C zk7 jX8_tell lX8_61 (c_tell (d := d) (f := 0) (code := -1000000001) (by decide) (by decide)) dX8_book_44 zs_cls rfl (Nat.le_of_ble_eq_true rfl) (zfit_of (by omega) (by decide)) ⟨Nat.le_refl _, Nat.le_refl _⟩ rfl ?_
        exact zV_ireturn C hr hlk dX8_book_47 (by exact congrArg (fun z => some (Value.int (zi z))) (by rw [show rWbk B S j x = -1000000001 from by unfold rWbk; rw [if_pos (show rWsh B j = 0 from by unfold rWsh; rw [if_pos (by omega)]; exact if_neg (by omega))]; exact if_neg (by omega)]; rfl)) (by rw [show rWbk B S j x = -1000000001 from by unfold rWbk; rw [if_pos (show rWsh B j = 0 from by unfold rWsh; rw [if_pos (by omega)]; exact if_neg (by omega))]; exact if_neg (by omega)]; rfl)
    · skip
      simp only [zb_eq0, Decidable.not_not] at h22
      refine zV_aload_n (i := 0) (n := 26) C dX8_book_25 rfl rfl rfl ?_
      refine zV_iconst (n := 27) C dX8_book_26 rfl ?_
      refine zV_callV1u (n := 30) C zk7 jX8_tell lX8_61 (c_tell (d := d) (f := 5) (code := -1000000006) (by decide) (by decide)) dX8_book_27 zs_cls rfl (Nat.le_of_ble_eq_true rfl) (zfit_of (by omega) (by decide)) ⟨Nat.le_refl _, Nat.le_refl _⟩ rfl ?_
      exact zV_ireturn C hr hlk dX8_book_30 (by exact congrArg (fun z => some (Value.int (zi z))) (by rw [show rWbk B S j x = -1000000006 from by unfold rWbk; rw [show rWsh B j = -1000000006 from by unfold rWsh; rw [if_pos (by omega)]; exact if_pos (by omega)]; rfl]; rfl)) (by rw [show rWbk B S j x = -1000000006 from by unfold rWbk; rw [show rWsh B j = -1000000006 from by unfold rWsh; rw [if_pos (by omega)]; exact if_pos (by omega)]; rfl]; rfl)
  · skip
    simp only [zb_eq0, Decidable.not_not] at h4
    refine zV_aload_n (i := 0) (n := 8) C dX8_book_7 rfl rfl rfl ?_
    refine zV_iconst (n := 9) C dX8_book_8 rfl ?_
    refine zV_callV1u (n := 12) C zk7 jX8_tell lX8_61 (c_tell (d := d) (f := 0) (code := -1000000001) (by decide) (by decide)) dX8_book_9 zs_cls rfl (Nat.le_of_ble_eq_true rfl) (zfit_of (by omega) (by decide)) ⟨Nat.le_refl _, Nat.le_refl _⟩ rfl ?_
    exact zV_ireturn C hr hlk dX8_book_12 (by exact congrArg (fun z => some (Value.int (zi z))) (by rw [show rWbk B S j x = -1000000001 from by unfold rWbk; rw [show rWsh B j = -1000000001 from by unfold rWsh; exact if_neg (by omega)]; rfl]; rfl)) (by rw [show rWbk B S j x = -1000000001 from by unfold rWbk; rw [show rWsh B j = -1000000001 from by unfold rWsh; exact if_neg (by omega)]; rfl]; rfl)

set_option maxRecDepth 100000 in
set_option maxHeartbeats 4000000 in
theorem c_trialTells_loop {Γ : zC} {l : Launch} {d : Nat} {p : Program} {e : Env} {s : State} {m : MethodId} {args : Array Value} {below : List Frame} {meth : Method} {c : Code} {Q : State → Prop} (C : zCx Γ (zAA Γ) p s m args c RX8 cX8_trialTells 4) {μ : zMem} {j : Int} (hj : 0 ≤ j ∧ j < 4) {x z : Int} {M : Int → Int} (hZ : μ 4 (9 + j) 2 = z) (hz : 0 ≤ z ∧ z ≤ 40) (hM : ∀ i : Int, 0 ≤ i → i < 40 → μ 4 (13 + j) i = M (40 * j + i)) (hr : ∀ i : Int, 0 ≤ i → i < 160 → -9223372036854775808 ≤ M i ∧ M i ≤ 9223372036854775807) :
    ∀ (i : Nat) (k N : Int) (T : Int → Int) (J : rInv N T) (hN : N + i ≤ 20000) (hx : 0 ≤ x ∧ x < T 0) (h0 : 0 ≤ k) (hi : k + i = z) (K1 : rIb M x (40 * j) i k T = 1 → zV Γ (zAA Γ) p l e (zRm (d + 4)) s m args below meth c 0 0 Q 48 [.ref (za Γ 4 0), .ref (za Γ 4 (9 + j)), .int (zi x), .int (zi z)] [] (zcar μ 2 (rIbS M x (40 * j) i k T))) (K0 : rIb M x (40 * j) i k T = 0 → ∀ q : Int, zV Γ (zAA Γ) p l e (zRm (d + 4)) s m args below meth c 0 0 Q 33 [.ref (za Γ 4 0), .ref (za Γ 4 (9 + j)), .int (zi x), .int (zi q)] [] (zcar μ 2 (rIbS M x (40 * j) i k T))), zV Γ (zAA Γ) p l e (zRm (d + 4)) s m args below meth c 0 0 Q 2 [.ref (za Γ 4 0), .ref (za Γ 4 (9 + j)), .int (zi x), .int (zi k)] [] (zcar μ 2 T) := by
  intro i
  induction i with
  | zero =>
    intro k N T J hN hx h0 hi K1 K0
    have hk : k = z := by omega
    subst hk
    refine zV_iload_n (i := 3) (n := 3) C dX8_trialTells_2 rfl rfl rfl ?_
    refine zV_aload_n (i := 1) (n := 4) C dX8_trialTells_3 rfl rfl rfl ?_
    refine zV_getI (f := 2) (fi := 2) (n := 7) C zk4 fX8_236 dX8_trialTells_4 (zs_sheet (by omega)) rfl (by decide) rfl rfl ?_
    rw [zc_ne (by decide), hZ]
    refine zV_icmp_ge (n := 10) C 48 dX8_trialTells_7 (by decide) (by first | omega | exact zb_rg) (by first | omega | exact zb_rg) rfl (fun h7 => ?_) (fun h => by exfalso; first | omega | exact zb_rg)
    exact K1 rfl
  | succ i ih =>
    intro k N T J hN hx h0 hi K1 K0
    have z0 := J.1
    have hc := J.2.2.2.2.2.1 x hx.1 (by omega)
    have hm := hr (40 * j + k) (by omega) (by omega)
    have I := J
    refine zV_iload_n (i := 3) (n := 3) C dX8_trialTells_2 rfl rfl rfl ?_
    refine zV_aload_n (i := 1) (n := 4) C dX8_trialTells_3 rfl rfl rfl ?_
    refine zV_getI (f := 2) (fi := 2) (n := 7) C zk4 fX8_236 dX8_trialTells_4 (zs_sheet (by omega)) rfl (by decide) rfl rfl ?_
    rw [zc_ne (by decide), hZ]
    refine zV_icmp_ge (n := 10) C 48 dX8_trialTells_7 (by decide) (by first | omega | exact zb_rg) (by first | omega | exact zb_rg) rfl (fun h => by exfalso; first | omega | exact zb_rg) (fun h7 => ?_)
    refine zV_aload_n (i := 1) (n := 11) C dX8_trialTells_10 rfl rfl rfl ?_
    refine zV_getP (f := 0) (n := 14) C zk4 fX8_240 dX8_trialTells_11 (zs_sheet (by omega)) rfl (by decide) rfl ?_
    refine zV_iload_n (i := 3) (n := 15) C dX8_trialTells_14 rfl rfl rfl ?_
    refine zV_lald (n := 16) C dX8_trialTells_15 (zs_nums (by omega)) (by first | omega | exact zb_rg) (by decide) rfl ?_
    rw [zc_ne (by decide), hM k (by omega) (by omega)]
    refine zV_aload_n (i := 0) (n := 17) C dX8_trialTells_16 rfl rfl rfl ?_
    refine zV_getP (f := 2) (n := 20) C zk7 fX8_19 dX8_trialTells_17 zs_cls rfl (by decide) rfl ?_
    refine zV_getP (f := 1) (n := 23) C zk0 fX8_92 dX8_trialTells_20 (zs_car (by omega)) rfl (by decide) rfl ?_
    refine zV_iload_n (i := 2) (n := 24) C dX8_trialTells_23 rfl rfl rfl ?_
    refine zV_aald (n := 25) C dX8_trialTells_24 (zs_carC (by omega)) (by first | omega | exact zb_rg) (by decide) (by decide) rfl ?_
    refine zV_getI (f := 2) (fi := 2) (n := 28) C zk2 fX8_114 dX8_trialTells_25 (zs_child (by omega) (by omega)) rfl (by decide) rfl rfl ?_
    rw [zc_kid (by omega) (by omega)]
    refine zV_i2l (n := 29) C dX8_trialTells_28 (by first | omega | exact zb_rg) rfl ?_
    refine zV_lcmp_eq (n := 33) C 35 dX8_trialTells_29 dX8_trialTells_30 (by decide) (by first | omega | exact zb_rg) (by first | omega | exact zb_rg) rfl (fun h29 => ?_) (fun h29 => ?_)
    · skip
      refine zV_aload_n (i := 0) (n := 36) C dX8_trialTells_35 rfl rfl rfl ?_
      refine zV_getP (f := 2) (n := 39) C zk7 fX8_19 dX8_trialTells_36 zs_cls rfl (by decide) rfl ?_
      refine zV_callV0v (n := 42) C zk0 jX0_passMinute lX8_169 (c_passMinute (d := d) (by omega) I (by omega)) dX8_trialTells_39 (zs_car (by omega)) rfl (Nat.le_of_ble_eq_true rfl) (zfit_of (by omega) (by decide)) ⟨Nat.le_refl _, Nat.le_refl _⟩ rfl ?_
      refine zS_iinc_4_3 (n := 45) C dX8_trialTells_42 rfl rfl ?_
      refine zV_goto C 2 dX8_trialTells_45 (by decide) ?_
      have e1 : rIb M x (40 * j) (i + 1) k T = rIb M x (40 * j) i (k + 1) (rMin T) := by rw [rIb]; exact if_pos h29
      have e2 : rIbS M x (40 * j) (i + 1) k T = rIbS M x (40 * j) i (k + 1) (rMin T) := by rw [rIbS]; exact if_pos h29
      rw [e1, e2] at K0 K1
      have e0 := rMin_0 J
      exact ih (k + 1) (N + 1) (rMin T) (rMin_inv J) (by omega) (by omega) (by omega) (by omega) K1 K0
    · skip
      have e1 : rIb M x (40 * j) (i + 1) k T = 0 := by rw [rIb]; exact if_neg h29
      have e2 : rIbS M x (40 * j) (i + 1) k T = T := by rw [rIbS]; exact if_neg h29
      rw [e2] at K0
      exact K0 e1 k

set_option maxRecDepth 100000 in
set_option maxHeartbeats 4000000 in
theorem c_trialTells {Γ : zC} {l : Launch} {d : Nat} {μ : zMem} {S : Int → Int} {N : Int} (I : rInv N S) (hN : N ≤ 10000) {j : Int} (hj : 0 ≤ j ∧ j < 4) {x z : Int} {M : Int → Int} (hx : 0 ≤ x ∧ x < S 0) (hZ : μ 4 (9 + j) 2 = z) (hz : 0 ≤ z ∧ z ≤ 40) (hM : ∀ i : Int, 0 ≤ i → i < 40 → μ 4 (13 + j) i = M (40 * j + i)) (hr9 : ∀ i : Int, 0 ≤ i → i < 160 → -9223372036854775808 ≤ M i ∧ M i ≤ 9223372036854775807) : zRet Γ l (d + 4) qX8_trialTells [.ref (za Γ 4 0), .ref (za Γ 4 (9 + j)), .int (zi x)] (zcar μ 2 S) (some (.int (zi (rIb M x (40 * j) z.toNat 0 S)))) (zcar μ 2 (rIbS M x (40 * j) z.toNat 0 S)) := by
  refine zRet.mk 1 [.ref (za Γ 4 0), .ref (za Γ 4 (9 + j)), .int (zi x), .null] RX8 rfl (by decide +kernel) (Nat.le_of_ble_eq_true rfl) rfl ?_
  intro p e s m below meth c C hr hlk
  refine zV_iconst (n := 1) C dX8_trialTells_0 rfl ?_
  refine zS_istore_n_4_3 (n := 2) C dX8_trialTells_1 rfl rfl ?_
  refine c_trialTells_loop C hj hZ hz hM hr9 z.toNat 0 N S I (by omega) (by omega) (by omega) (by omega) (fun hV => ?_) (fun hV q => ?_)
  · skip
    refine zV_iconst (n := 49) C dX8_trialTells_48 rfl ?_
    exact zV_zreturn C hr hlk dX8_trialTells_49 (by first | rfl | exact (zi_z zb_01).1 | exact (zi_z (by omega)).1) (by exact congrArg (fun z => some (Value.int (zi z))) hV.symm) (by rfl)
  · skip
    refine zV_iconst (n := 34) C dX8_trialTells_33 rfl ?_
    exact zV_zreturn C hr hlk dX8_trialTells_34 (by first | rfl | exact (zi_z zb_01).1 | exact (zi_z (by omega)).1) (by exact congrArg (fun z => some (Value.int (zi z))) hV.symm) (by rfl)

theorem rIbS_0 {M : Int → Int} {x a : Int} : ∀ {i : Nat} {k : Int} {N : Int} {S : Int → Int}, rInv N S → rIbS M x a i k S 0 = S 0 := by
  intro i
  induction i with
  | zero => intro k N S _; rfl
  | succ i ih =>
    intro k N S I
    unfold rIbS
    split
    · rw [ih (rMin_inv I), rMin_0 I]
    · rfl
theorem rdm {tg a t : Int} (h : tg = 1 ∨ tg = 10) (ht : 0 ≤ t) (h2 : t < tg) : (tg * a + t) / tg = a ∧ (tg * a + t) % tg = t := by
  rcases h with rfl | rfl <;> constructor <;> omega
set_option maxRecDepth 100000 in
set_option maxHeartbeats 4000000 in
theorem c_read_in {Γ : zC} {l : Launch} {d : Nat} {p : Program} {e : Env} {s : State} {m : MethodId} {args : Array Value} {below : List Frame} {meth : Method} {c : Code} {Q : State → Prop} (C : zCx Γ (zAA Γ) p s m args c RX8 cX8_read 7) {μ : zMem} {S : Int → Int} {N : Int} (I : rInv N S) (hN : N ≤ 10000) {B Z M : Int → Int} (hS : rSh B Z M) {j : Int} (hj : 0 ≤ j ∧ j < 4) {x tg V : Int} (hx : 0 ≤ x ∧ x < S 0) (htg : tg = 1 ∨ tg = 10) (hB : ∀ f : Int, μ 4 (9 + j) f = zsht μ B Z M 4 (9 + j) f) (hM : ∀ i : Int, 0 ≤ i → i < 40 → μ 4 (13 + j) i = M (40 * j + i)) {a : Int} (ha : 0 ≤ a ∧ a < 6) {r : Nat} :
    ∀ (i : Nat) (t n : Int) (ν : zMem) (hν : ∀ X : Int → Int, X 0 = S 0 → zcar ν 2 X = zcar μ 2 X) (hf : ν 4 = μ 4) (h9 : i = 0 → a = 5 → ν = zcar μ 2 (rIbS M x (40 * j) (Z j).toNat 0 (zfu (zfu S (19 + 6 * x + 0) 5) (19 + 6 * x + 5) (tg - 1)))) (h0 : 0 ≤ t) (hn : 0 ≤ n ∧ n ≤ tg * a + t) (hi : t + i = tg) (hV : rRd M x (40 * j) tg (Z j).toNat S (i + r) (tg * a + t) n = V) (KK : ∀ (n : Int) (ν : zMem), (∀ X : Int → Int, X 0 = S 0 → zcar ν 2 X = zcar μ 2 X) → ν 4 = μ 4 → (a = 5 → ν = zcar μ 2 (rIbS M x (40 * j) (Z j).toNat 0 (zfu (zfu S (19 + 6 * x + 0) 5) (19 + 6 * x + 5) (tg - 1)))) → (0 ≤ n ∧ n ≤ tg * a + tg) → rRd M x (40 * j) tg (Z j).toNat S r (tg * a + tg) n = V → zV Γ (zAA Γ) p l e (zRm (d + 5)) s m args below meth c 0 0 Q 154 [.ref (za Γ 4 0), .int (zi j), .int (zi x), .int (zi (tg - 1)), .int (zi n), .int (zi a), .int (zi tg)] [] (zcar ν 0 S)), zV Γ (zAA Γ) p l e (zRm (d + 5)) s m args below meth c 0 0 Q 86 [.ref (za Γ 4 0), .int (zi j), .int (zi x), .int (zi (tg - 1)), .int (zi n), .int (zi a), .int (zi t)] [] (zcar ν 0 S) := by
  intro i
  induction i with
  | zero =>
    intro t n ν hν hf h9 h0 hn hi hV KK
    have ht : t = tg := by omega
    subst ht
    refine zV_iload (n := 88) C dX8_read_86 rfl rfl ?_
    refine zV_iload_n (i := 3) (n := 89) C dX8_read_88 rfl rfl rfl ?_
    refine zV_icmp_gt (n := 92) C 154 dX8_read_89 (by decide) (by first | omega | exact zb_rg) (by first | omega | exact zb_rg) rfl (fun h89 => ?_) (fun h => by exfalso; first | omega | exact zb_rg)
    exact KK n ν hν hf (h9 rfl) hn (by rw [← hV, Nat.zero_add])
  | succ i ih =>
    intro t n ν hν hf h9 h0 hn hi hV KK
    have z0 := I.1
    have q : rInv N (zfu (zfu S (19 + 6 * x + 0) a) (19 + 6 * x + 5) t) ∧ (zfu (zfu S (19 + 6 * x + 0) a) (19 + 6 * x + 5) t) 0 = S 0 := ⟨rInv_kid (rInv_kid I (by omega) (by omega) (by simp; omega)) (by omega) (by omega) (by simp; omega), by rw [zfu_ne (by omega), zfu_ne (by omega)]⟩
    have e0 := q.2
    have hu : zfu S (19 + 6 * x + 0) a 0 = S 0 := zfu_ne (by omega)
    refine zV_iload (n := 88) C dX8_read_86 rfl rfl ?_
    refine zV_iload_n (i := 3) (n := 89) C dX8_read_88 rfl rfl rfl ?_
    refine zV_icmp_gt (n := 92) C 154 dX8_read_89 (by decide) (by first | omega | exact zb_rg) (by first | omega | exact zb_rg) rfl (fun h => by exfalso; first | omega | exact zb_rg) (fun h89 => ?_)
    refine zV_aload_n (i := 0) (n := 93) C dX8_read_92 rfl rfl rfl ?_
    refine zV_getP (f := 2) (n := 96) C zk7 fX8_19 dX8_read_93 zs_cls rfl (by decide) rfl ?_
    refine zV_aload_n (i := 0) (n := 97) C dX8_read_96 rfl rfl rfl ?_
    refine zV_getP (f := 0) (n := 100) C zk7 fX8_10 dX8_read_97 zs_cls rfl (by decide) rfl ?_
    refine zV_callV1v (n := 103) C zk0 jX0_become lX8_165 (c_become (d := d) (by omega) (by omega) (by omega) I) dX8_read_100 (zs_car (by omega)) rfl (Nat.le_of_ble_eq_true rfl) (zfit_of (by omega) (by decide)) ⟨Nat.le_refl _, Nat.le_refl _⟩ rfl ?_
    refine zV_aload_n (i := 0) (n := 104) C dX8_read_103 rfl rfl rfl ?_
    refine zV_getP (f := 2) (n := 107) C zk7 fX8_19 dX8_read_104 zs_cls rfl (by decide) rfl ?_
    refine zV_getP (f := 1) (n := 110) C zk0 fX8_92 dX8_read_107 (zs_car (by omega)) rfl (by decide) rfl ?_
    refine zV_iload_n (i := 2) (n := 111) C dX8_read_110 rfl rfl rfl ?_
    refine zV_aald (n := 112) C dX8_read_111 (zs_carC (by omega)) (by first | omega | exact zb_rg) (by decide) (by decide) rfl ?_
    refine zV_iload (n := 114) C dX8_read_112 rfl rfl ?_
    refine zV_putI (f := 0) (fi := 0) (n := 117) C zk2 fX8_105 dX8_read_114 (zs_child (by omega) (by omega)) rfl (by decide) rfl rfl rfl rfl ?_
    rw [zcu_kid (by omega) (by omega)]
    refine zV_aload_n (i := 0) (n := 118) C dX8_read_117 rfl rfl rfl ?_
    refine zV_getP (f := 2) (n := 121) C zk7 fX8_19 dX8_read_118 zs_cls rfl (by decide) rfl ?_
    refine zV_getP (f := 1) (n := 124) C zk0 fX8_92 dX8_read_121 (zs_car (by omega)) rfl (by decide) rfl ?_
    refine zV_iload_n (i := 2) (n := 125) C dX8_read_124 rfl rfl rfl ?_
    refine zV_aald (n := 126) C dX8_read_125 (zs_carC (by omega)) (by first | omega | exact zb_rg) (by decide) (by decide) rfl ?_
    refine zV_iload (n := 128) C dX8_read_126 rfl rfl ?_
    refine zV_putI (f := 5) (fi := 5) (n := 131) C zk2 fX8_133 dX8_read_128 (zs_child (by omega) (by omega)) rfl (by decide) rfl rfl rfl rfl ?_
    rw [zcu_kid (by omega) (by omega)]
    refine zV_aload_n (i := 0) (n := 132) C dX8_read_131 rfl rfl rfl ?_
    refine zV_aload_n (i := 0) (n := 133) C dX8_read_132 rfl rfl rfl ?_
    refine zV_getP (f := 5) (n := 136) C zk7 fX8_38 dX8_read_133 zs_cls rfl (by decide) rfl ?_
    refine zV_iload_n (i := 1) (n := 137) C dX8_read_136 rfl rfl rfl ?_
    refine zV_aald (n := 138) C dX8_read_137 zs_sheets (by first | omega | exact zb_rg) (by decide) (by decide) rfl ?_
    refine zV_iload_n (i := 2) (n := 139) C dX8_read_138 rfl rfl rfl ?_
    refine zV_callV2u (n := 142) C zk7 jX8_trialTells lX8_261 (c_trialTells (d := d) (z := Z j) (M := M) q.1 hN (by omega) (by omega) (by rw [zc_ne (by decide), hf, hB, zsz (by omega)]) (hS.1 j (by omega) (by omega)).2 (fun i a b => by rw [zc_ne (by decide), hf]; exact hM i a b) hS.2) dX8_read_139 zs_cls rfl (Nat.le_of_ble_eq_true rfl) (zfit_of (by omega) (by decide)) ⟨Nat.le_refl _, Nat.le_refl _⟩ rfl ?_
    have hq := rIb_rg (M := M) (x := x) (a := 40 * j) (i := (Z j).toNat) (k := 0) (S := (zfu (zfu S (19 + 6 * x + 0) a) (19 + 6 * x + 5) t))
    refine zV_if_eq (n := 145) C 148 dX8_read_142 (by decide) (by first | omega | exact zb_rg) rfl (fun h142 => ?_) (fun h142 => ?_)
    · skip
      refine zS_iinc_7_6 (n := 151) C dX8_read_148 rfl rfl ?_
      refine zV_goto C 86 dX8_read_151 (by decide) ?_
      have e1 : rIbS M x (40 * j) (Z j).toNat 0 (zfu (zfu S (19 + 6 * x + 0) a) (19 + 6 * x + 5) t) 0 = S 0 := (rIbS_0 q.1).trans q.2
      refine zV_eqm (zcar_comm (by decide)) ?_
      refine zV_eqm (by rw [hν _ e1]) ?_
      have hdm := rdm (tg := tg) (a := a) (t := t) htg (by omega) (by omega)
      exact ih (t + 1) n (zcar μ 2 (rIbS M x (40 * j) (Z j).toNat 0 (zfu (zfu S (19 + 6 * x + 0) a) (19 + 6 * x + 5) t))) (fun X hX => zcar_car (hX.trans e1.symm)) (zc_ne (by decide)) (fun q8 q9 => by have et : t = tg - 1 := (by omega); subst et; subst q9; rfl) (by omega) (by omega) (by omega) (by rw [← hV, show i + 1 + r = (i + r) + 1 from by omega, rRd, hdm.1, hdm.2, show rIb M x (40 * j) (Z j).toNat 0 (zfu (zfu S (19 + 6 * x + 0) a) (19 + 6 * x + 5) t) = 0 from h142, Int.add_zero]; congr 1; omega) KK
    · skip
      refine zS_iinc_7_4 (n := 148) C dX8_read_145 rfl rfl ?_
      refine zS_iinc_7_6 (n := 151) C dX8_read_148 rfl rfl ?_
      refine zV_goto C 86 dX8_read_151 (by decide) ?_
      have e1 : rIbS M x (40 * j) (Z j).toNat 0 (zfu (zfu S (19 + 6 * x + 0) a) (19 + 6 * x + 5) t) 0 = S 0 := (rIbS_0 q.1).trans q.2
      refine zV_eqm (zcar_comm (by decide)) ?_
      refine zV_eqm (by rw [hν _ e1]) ?_
      have hdm := rdm (tg := tg) (a := a) (t := t) htg (by omega) (by omega)
      exact ih (t + 1) (n + 1) (zcar μ 2 (rIbS M x (40 * j) (Z j).toNat 0 (zfu (zfu S (19 + 6 * x + 0) a) (19 + 6 * x + 5) t))) (fun X hX => zcar_car (hX.trans e1.symm)) (zc_ne (by decide)) (fun q8 q9 => by have et : t = tg - 1 := (by omega); subst et; subst q9; rfl) (by omega) (by omega) (by omega) (by rw [← hV, show i + 1 + r = (i + r) + 1 from by omega, rRd, hdm.1, hdm.2, hq.resolve_left h142]; congr 1; omega) KK

set_option maxRecDepth 100000 in
set_option maxHeartbeats 4000000 in
theorem c_read_loop {Γ : zC} {l : Launch} {d : Nat} {p : Program} {e : Env} {s : State} {m : MethodId} {args : Array Value} {below : List Frame} {meth : Method} {c : Code} {Q : State → Prop} (C : zCx Γ (zAA Γ) p s m args c RX8 cX8_read 7) {μ : zMem} {S : Int → Int} {N : Int} (I : rInv N S) (hN : N ≤ 10000) {B Z M : Int → Int} (hS : rSh B Z M) {j : Int} (hj : 0 ≤ j ∧ j < 4) {x tg V : Int} (hx : 0 ≤ x ∧ x < S 0) (htg : tg = 1 ∨ tg = 10) (hB : ∀ f : Int, μ 4 (9 + j) f = zsht μ B Z M 4 (9 + j) f) (hM : ∀ i : Int, 0 ≤ i → i < 40 → μ 4 (13 + j) i = M (40 * j + i))  :
    ∀ (i : Nat) (a n : Int) (v6 : Value) (ν : zMem) (hν : ∀ X : Int → Int, X 0 = S 0 → zcar ν 2 X = zcar μ 2 X) (hf : ν 4 = μ 4) (h9 : i = 0 → ν = zcar μ 2 (rIbS M x (40 * j) (Z j).toNat 0 (zfu (zfu S (19 + 6 * x + 0) 5) (19 + 6 * x + 5) (tg - 1)))) (h0 : 0 ≤ a) (hn : 0 ≤ n ∧ n ≤ tg * a) (hi : a + i = 6) (hV : rRd M x (40 * j) tg (Z j).toNat S (tg.toNat * i) (tg * a) n = V) (KK : ∀ v6 : Value, zV Γ (zAA Γ) p l e (zRm (d + 5)) s m args below meth c 0 0 Q 160 [.ref (za Γ 4 0), .int (zi j), .int (zi x), .int (zi (tg - 1)), .int (zi V), .int (zi 6), v6] [] (zcar (zcar μ 2 (rIbS M x (40 * j) (Z j).toNat 0 (zfu (zfu S (19 + 6 * x + 0) 5) (19 + 6 * x + 5) (tg - 1)))) 0 S)), zV Γ (zAA Γ) p l e (zRm (d + 5)) s m args below meth c 0 0 Q 76 [.ref (za Γ 4 0), .int (zi j), .int (zi x), .int (zi (tg - 1)), .int (zi n), .int (zi a), v6] [] (zcar ν 0 S) := by
  intro i
  induction i with
  | zero =>
    intro a n v6 ν hν hf h9 h0 hn hi hV KK
    have ha : a = 6 := by omega
    subst ha
    refine zV_eqm (by rw [h9 rfl]) ?_
    have hV2 : n = V := hV
    subst hV2
    refine zV_iload (n := 78) C dX8_read_76 rfl rfl ?_
    refine zV_bipush (n := 80) C dX8_read_78 (by decide) rfl ?_
    refine zV_icmp_ge (n := 83) C 160 dX8_read_80 (by decide) (by first | omega | exact zb_rg) (by first | omega | exact zb_rg) rfl (fun h80 => ?_) (fun h => by exfalso; first | omega | exact zb_rg)
    exact KK _
  | succ i ih =>
    intro a n v6 ν hν hf h9 h0 hn hi hV KK
    have z0 := I.1
    refine zV_iload (n := 78) C dX8_read_76 rfl rfl ?_
    refine zV_bipush (n := 80) C dX8_read_78 (by decide) rfl ?_
    refine zV_icmp_ge (n := 83) C 160 dX8_read_80 (by decide) (by first | omega | exact zb_rg) (by first | omega | exact zb_rg) rfl (fun h => by exfalso; first | omega | exact zb_rg) (fun h80 => ?_)
    refine zV_iconst (n := 84) C dX8_read_83 rfl ?_
    refine zS_istore_7_6 (n := 86) C dX8_read_84 rfl rfl ?_
    refine c_read_in (V := V) C I hN hS hj hx htg hB hM (a := a) (by omega) (r := tg.toNat * i) tg.toNat 0 n ν hν hf (fun q => by omega) (by omega) (by omega) (by omega) (by rw [← hV, Int.add_zero, show tg.toNat + tg.toNat * i = tg.toNat * (i + 1) from by rw [Nat.mul_add, Nat.mul_one, Nat.add_comm]]) (fun n ν hν hf h9 hn hV => ?_)
    refine zS_iinc_7_5 (n := 157) C dX8_read_154 rfl rfl ?_
    refine zV_goto C 76 dX8_read_157 (by decide) ?_
    exact ih (a + 1) n _ ν hν hf (fun q8 => h9 (by omega)) (by omega) ⟨hn.1, by rw [Int.mul_add, Int.mul_one]; exact hn.2⟩ (by omega) (by rw [Int.mul_add, Int.mul_one]; exact hV) KK

set_option maxRecDepth 100000 in
set_option maxHeartbeats 4000000 in
theorem c_read {Γ : zC} {l : Launch} {d : Nat} {μ : zMem} {S : Int → Int} {N : Int} (I : rInv N S) (hN : N ≤ 10000) {B Z M : Int → Int} (hS : rSh B Z M) {j : Int} (hj : -2147483648 ≤ j ∧ j ≤ 2147483647) {x : Int} (hx : -2147483648 ≤ x ∧ x ≤ 2147483647) : zRet Γ l (d + 5) qX8_read [.ref (za Γ 4 0), .int (zi j), .int (zi x)] (zcar (zsht μ B Z M) 0 S) (some (.int (zi (if rWbk B S j x = 0 then (rRd M x (40 * j) (if rAt S x < 0 then (1 : Int) else 10) (Z j).toNat S (6 * (if rAt S x < 0 then (1 : Int) else 10)).toNat 0 0) else rWbk B S j x)))) (if rWbk B S j x = 0 then (zcar (zcar (zsht μ B Z M) 2 (rIbS M x (40 * j) (Z j).toNat 0 (zfu (zfu S (19 + 6 * x + 0) 5) (19 + 6 * x + 5) ((if rAt S x < 0 then (1 : Int) else 10) - 1)))) 0 S) else zset (zcar (zsht μ B Z M) 0 S) 4 17 (rFind ((zcar (zsht μ B Z M) 0 S) 4 17) (rWbk B S j x))) := by
  refine zRet.mk 4 [.ref (za Γ 4 0), .int (zi j), .int (zi x), .null, .null, .null, .null] RX8 rfl (by decide +kernel) (Nat.le_of_ble_eq_true rfl) rfl ?_
  intro p e s m below meth c C hr hlk
  have h0 := I.1
  have h1 := I.2.1
  have h2 := I.2.2.1
  have h3 := I.2.2.2.1
  have ha := rAt_rg S x
  refine zV_iload_n (i := 1) (n := 1) C dX8_read_0 rfl rfl rfl ?_
  refine zV_callS1u (n := 4) C jX8_isSheet lX8_230 (c_isSheet (d := d) (by omega)) dX8_read_1 (Nat.le_of_ble_eq_true rfl) (zfit_of (by omega) (by decide)) ⟨Nat.le_refl _, Nat.le_refl _⟩ rfl ?_
  refine zV_if_ne (n := 7) C 13 dX8_read_4 (by decide) (by first | omega | exact zb_rg) rfl (fun h4 => ?_) (fun h4 => ?_)
  · skip
    simp only [zb_eq0, Decidable.not_not] at h4
    refine zV_aload_n (i := 0) (n := 14) C dX8_read_13 rfl rfl rfl ?_
    refine zV_getP (f := 5) (n := 17) C zk7 fX8_38 dX8_read_14 zs_cls rfl (by decide) rfl ?_
    refine zV_iload_n (i := 1) (n := 18) C dX8_read_17 rfl rfl rfl ?_
    refine zV_aald (n := 19) C dX8_read_18 zs_sheets (by first | omega | exact zb_rg) (by decide) (by decide) rfl ?_
    refine zV_callV0u (n := 22) C zk4 jX5_isMissing lX8_237 (c_isMissing (d := d) (j := j) (b := B j) (by omega) (by rw [zc_ne (by decide), zsb (by omega)]) (hS.1 j (by omega) (by omega)).1) dX8_read_19 (zs_sheet (by omega)) rfl (Nat.le_of_ble_eq_true rfl) (zfit_of (by omega) (by decide)) ⟨Nat.le_refl _, Nat.le_refl _⟩ rfl ?_
    refine zV_if_eq (n := 25) C 31 dX8_read_22 (by decide) (by first | omega | exact zb_rg) rfl (fun h22 => ?_) (fun h22 => ?_)
    · skip
      simp only [zb_eq0, Decidable.not_not] at h22
      refine zV_aload_n (i := 0) (n := 32) C dX8_read_31 rfl rfl rfl ?_
      refine zV_getP (f := 0) (n := 35) C zk7 fX8_10 dX8_read_32 zs_cls rfl (by decide) rfl ?_
      refine zV_iload_n (i := 2) (n := 36) C dX8_read_35 rfl rfl rfl ?_
      refine zV_callV1u (n := 39) C zk0 jX0_has lX8_89 (c_has (d := d) (by omega) I (by omega)) dX8_read_36 (zs_car (by omega)) rfl (Nat.le_of_ble_eq_true rfl) (zfit_of (by omega) (by decide)) ⟨Nat.le_refl _, Nat.le_refl _⟩ rfl ?_
      refine zV_if_ne (n := 42) C 48 dX8_read_39 (by decide) (by first | omega | exact zb_rg) rfl (fun h39 => ?_) (fun h39 => ?_)
      · skip
        simp only [zb_eq0, Decidable.not_not] at h39
        refine zV_aload_n (i := 0) (n := 49) C dX8_read_48 rfl rfl rfl ?_
        refine zV_getP (f := 0) (n := 52) C zk7 fX8_10 dX8_read_49 zs_cls rfl (by decide) rfl ?_
        refine zV_getP (f := 1) (n := 55) C zk0 fX8_92 dX8_read_52 (zs_car (by omega)) rfl (by decide) rfl ?_
        refine zV_iload_n (i := 2) (n := 56) C dX8_read_55 rfl rfl rfl ?_
        refine zV_aald (n := 57) C dX8_read_56 (zs_carC (by omega)) (by first | omega | exact zb_rg) (by decide) (by decide) rfl ?_
        refine zV_callV0u (n := 60) C zk2 jX2_sits lX8_124 (c_kid_sits (d := d) (by omega) I (by omega)) dX8_read_57 (zs_child (by omega) (by omega)) rfl (Nat.le_of_ble_eq_true rfl) (zfit_of (by omega) (by decide)) ⟨Nat.le_refl _, Nat.le_refl _⟩ rfl ?_
        refine zV_if_eq (n := 63) C 68 dX8_read_60 (by decide) (by first | omega | exact zb_rg) rfl (fun h60 => ?_) (fun h60 => ?_)
        · skip
          simp only [zb_eq0, Decidable.not_not] at h60
          refine zV_iconst (n := 69) C dX8_read_68 rfl ?_
          refine zS_istore_n_7_3 (n := 70) C dX8_read_69 rfl rfl ?_
          refine zV_iconst (n := 71) C dX8_read_70 rfl ?_
          refine zS_istore_7_4 (n := 73) C dX8_read_71 rfl rfl ?_
          refine zV_iconst (n := 74) C dX8_read_73 rfl ?_
          refine zS_istore_7_5 (n := 76) C dX8_read_74 rfl rfl ?_
          have etg : (if rAt S x < 0 then (1 : Int) else 10) = 1 := by exact if_pos (by omega)
          rw [etg]
          have z0 := I.1
          refine c_read_loop (tg := 1) (V := rRd M x (40 * j) 1 (Z j).toNat S (6 * (1 : Int)).toNat 0 0) (μ := (zsht μ B Z M)) C I hN hS (by omega) (by omega) (by decide) (fun f => by rw [zsht_zsht]) (fun i a b => zsn (by omega) (by omega)) 6 0 0 .null (zsht μ B Z M) (fun X _ => rfl) rfl (fun q => by omega) (by omega) (by omega) (by omega) (by rfl) (fun v6 => ?_)
          refine zV_iload (n := 162) C dX8_read_160 rfl rfl ?_
          exact zV_ireturn C hr hlk dX8_read_162 (by exact congrArg (fun z => some (Value.int (zi z))) (zif_t (by unfold rWbk; rw [if_pos (show rWsh B j = 0 from by unfold rWsh; rw [if_pos (by omega)]; exact if_neg (by omega))]; exact if_pos (by omega)) rfl)) (by exact zif_t (by unfold rWbk; rw [if_pos (show rWsh B j = 0 from by unfold rWsh; rw [if_pos (by omega)]; exact if_neg (by omega))]; exact if_pos (by omega)) rfl)
        · skip
          simp only [zb_eq0, Decidable.not_not] at h60
          refine zV_bipush (n := 65) C dX8_read_63 (by decide) rfl ?_
          refine zV_goto C 69 dX8_read_65 (by decide) ?_
          refine zS_istore_n_7_3 (n := 70) C dX8_read_69 rfl rfl ?_
          refine zV_iconst (n := 71) C dX8_read_70 rfl ?_
          refine zS_istore_7_4 (n := 73) C dX8_read_71 rfl rfl ?_
          refine zV_iconst (n := 74) C dX8_read_73 rfl ?_
          refine zS_istore_7_5 (n := 76) C dX8_read_74 rfl rfl ?_
          have etg : (if rAt S x < 0 then (1 : Int) else 10) = 10 := by exact if_neg (by omega)
          rw [etg]
          have z0 := I.1
          refine c_read_loop (tg := 10) (V := rRd M x (40 * j) 10 (Z j).toNat S (6 * (10 : Int)).toNat 0 0) (μ := (zsht μ B Z M)) C I hN hS (by omega) (by omega) (by decide) (fun f => by rw [zsht_zsht]) (fun i a b => zsn (by omega) (by omega)) 6 0 0 .null (zsht μ B Z M) (fun X _ => rfl) rfl (fun q => by omega) (by omega) (by omega) (by omega) (by rfl) (fun v6 => ?_)
          refine zV_iload (n := 162) C dX8_read_160 rfl rfl ?_
          exact zV_ireturn C hr hlk dX8_read_162 (by exact congrArg (fun z => some (Value.int (zi z))) (zif_t (by unfold rWbk; rw [if_pos (show rWsh B j = 0 from by unfold rWsh; rw [if_pos (by omega)]; exact if_neg (by omega))]; exact if_pos (by omega)) rfl)) (by exact zif_t (by unfold rWbk; rw [if_pos (show rWsh B j = 0 from by unfold rWsh; rw [if_pos (by omega)]; exact if_neg (by omega))]; exact if_pos (by omega)) rfl)
      · skip
        simp only [zb_eq0, Decidable.not_not] at h39
        refine zV_aload_n (i := 0) (n := 43) C dX8_read_42 rfl rfl rfl ?_
        refine zV_iconst (n := 44) C dX8_read_43 rfl ?_
        refine zV_callV1u (n := 47) C zk7 jX8_tell lX8_61 (c_tell (d := d) (f := 0) (code := -1000000001) (by decide) (by decide)) dX8_read_44 zs_cls rfl (Nat.le_of_ble_eq_true rfl) (zfit_of (by omega) (by decide)) ⟨Nat.le_refl _, Nat.le_refl _⟩ rfl ?_
        exact zV_ireturn C hr hlk dX8_read_47 (by exact congrArg (fun z => some (Value.int (zi z))) (by rw [show rWbk B S j x = -1000000001 from by unfold rWbk; rw [if_pos (show rWsh B j = 0 from by unfold rWsh; rw [if_pos (by omega)]; exact if_neg (by omega))]; exact if_neg (by omega)]; rfl)) (by rw [show rWbk B S j x = -1000000001 from by unfold rWbk; rw [if_pos (show rWsh B j = 0 from by unfold rWsh; rw [if_pos (by omega)]; exact if_neg (by omega))]; exact if_neg (by omega)]; rfl)
    · skip
      simp only [zb_eq0, Decidable.not_not] at h22
      refine zV_aload_n (i := 0) (n := 26) C dX8_read_25 rfl rfl rfl ?_
      refine zV_iconst (n := 27) C dX8_read_26 rfl ?_
      refine zV_callV1u (n := 30) C zk7 jX8_tell lX8_61 (c_tell (d := d) (f := 5) (code := -1000000006) (by decide) (by decide)) dX8_read_27 zs_cls rfl (Nat.le_of_ble_eq_true rfl) (zfit_of (by omega) (by decide)) ⟨Nat.le_refl _, Nat.le_refl _⟩ rfl ?_
      exact zV_ireturn C hr hlk dX8_read_30 (by exact congrArg (fun z => some (Value.int (zi z))) (by rw [show rWbk B S j x = -1000000006 from by unfold rWbk; rw [show rWsh B j = -1000000006 from by unfold rWsh; rw [if_pos (by omega)]; exact if_pos (by omega)]; rfl]; rfl)) (by rw [show rWbk B S j x = -1000000006 from by unfold rWbk; rw [show rWsh B j = -1000000006 from by unfold rWsh; rw [if_pos (by omega)]; exact if_pos (by omega)]; rfl]; rfl)
  · skip
    simp only [zb_eq0, Decidable.not_not] at h4
    refine zV_aload_n (i := 0) (n := 8) C dX8_read_7 rfl rfl rfl ?_
    refine zV_iconst (n := 9) C dX8_read_8 rfl ?_
    refine zV_callV1u (n := 12) C zk7 jX8_tell lX8_61 (c_tell (d := d) (f := 0) (code := -1000000001) (by decide) (by decide)) dX8_read_9 zs_cls rfl (Nat.le_of_ble_eq_true rfl) (zfit_of (by omega) (by decide)) ⟨Nat.le_refl _, Nat.le_refl _⟩ rfl ?_
    exact zV_ireturn C hr hlk dX8_read_12 (by exact congrArg (fun z => some (Value.int (zi z))) (by rw [show rWbk B S j x = -1000000001 from by unfold rWbk; rw [show rWsh B j = -1000000001 from by unfold rWsh; exact if_neg (by omega)]; rfl]; rfl)) (by rw [show rWbk B S j x = -1000000001 from by unfold rWbk; rw [show rWsh B j = -1000000001 from by unfold rWsh; exact if_neg (by omega)]; rfl]; rfl)

set_option maxRecDepth 100000 in
set_option maxHeartbeats 4000000 in
theorem c_tape_add {Γ : zC} {l : Launch} {d : Nat} {μ : zMem} {T F : Int → Int} {q v : Int} (hF : F 1 = q) (hq : 0 ≤ q ∧ q < 120) : zRet Γ l (d + 0) qX6_add [.ref (za Γ 4 2), .int (zi v)] (zset (zset μ 4 3 T) 4 2 F) none (zset (zset μ 4 3 (zfu T q v)) 4 2 (zfu F 1 (q + 1))) := by
  refine zRet.mk 0 [.ref (za Γ 4 2), .int (zi v)] RX6 rfl (by decide +kernel) (Nat.le_of_ble_eq_true rfl) rfl ?_
  intro p e s m below meth c C hr hlk
  refine zV_aload_n (i := 0) (n := 1) C dX6_add_0 rfl rfl rfl ?_
  refine zV_getI (f := 1) (fi := 1) (n := 4) C zk5 fX6_15 dX6_add_1 zs_tape rfl (by decide) rfl rfl ?_
  rw [zset_at, hF]
  refine zV_bipush (n := 6) C dX6_add_4 (by decide) rfl ?_
  refine zV_icmp_ge (n := 9) C 29 dX6_add_6 (by decide) (by first | omega | exact zb_rg) (by first | omega | exact zb_rg) rfl (fun h => by exfalso; first | omega | exact zb_rg) (fun h6 => ?_)
  refine zV_aload_n (i := 0) (n := 10) C dX6_add_9 rfl rfl rfl ?_
  refine zV_getP (f := 0) (n := 13) C zk5 fX6_9 dX6_add_10 zs_tape rfl (by decide) rfl ?_
  refine zV_aload_n (i := 0) (n := 14) C dX6_add_13 rfl rfl rfl ?_
  refine zV_getI (f := 1) (fi := 1) (n := 17) C zk5 fX6_15 dX6_add_14 zs_tape rfl (by decide) rfl rfl ?_
  rw [zset_at, hF]
  refine zV_iload_n (i := 1) (n := 18) C dX6_add_17 rfl rfl rfl ?_
  refine zV_iast (n := 19) C dX6_add_18 zs_byt (by first | omega | exact zb_rg) (by decide) rfl ?_
  rw [zup_under (by decide)]
  refine zV_aload_n (i := 0) (n := 20) C dX6_add_19 rfl rfl rfl ?_
  refine zV_dup (n := 21) C dX6_add_20 rfl rfl ?_
  refine zV_getI (f := 1) (fi := 1) (n := 24) C zk5 fX6_15 dX6_add_21 zs_tape rfl (by decide) rfl rfl ?_
  rw [zset_at, hF]
  refine zV_iconst (n := 25) C dX6_add_24 rfl ?_
  refine zV_iadd (n := 26) C dX6_add_25 rfl ?_
  refine zV_putI (f := 1) (fi := 1) (n := 29) C zk5 fX6_15 dX6_add_26 zs_tape rfl (by decide) rfl rfl rfl rfl ?_
  rw [zup_set]
  exact zV_return C hr hlk dX6_add_29 (by rfl) (by rfl)

set_option maxRecDepth 100000 in
set_option maxHeartbeats 4000000 in
theorem c_feed_loop {Γ : zC} {l : Launch} {d : Nat} {p : Program} {e : Env} {s : State} {m : MethodId} {args : Array Value} {below : List Frame} {meth : Method} {c : Code} {Q : State → Prop} (C : zCx Γ (zAA Γ) p s m args c RX8 cX8_feed 4) {μ : zMem} {b : Int32} {n : Int} :
    ∀ (i : Nat) (k q : Int) (T F : Int → Int) (hF : F 1 = q) (h0 : 0 ≤ q) (hi : (k + 1) = i) (hk : k ≤ 3) (hq : q + i ≤ 120) (KK : zV Γ (zAA Γ) p l e (zRm (d + 1)) s m args below meth c 0 0 Q 73 [.ref (za Γ 4 0), .int b, .int (zi n), .int (zi (-1))] [] (zset (zset μ 4 3 (rFeed b i T q)) 4 2 (zfu F 1 (q + i)))), zV Γ (zAA Γ) p l e (zRm (d + 1)) s m args below meth c 0 0 Q 43 [.ref (za Γ 4 0), .int b, .int (zi n), .int (zi k)] [] (zset (zset μ 4 3 T) 4 2 F) := by
  intro i
  induction i with
  | zero =>
    intro k q T F hF h0 hi hk hq KK
    have hk : k = -1 := by omega
    subst hk
    rw [show zfu F 1 (q + ((0 : Nat) : Int)) = F from zfu_self (by rw [hF]; omega)] at KK
    refine zV_iload_n (i := 3) (n := 44) C dX8_feed_43 rfl rfl rfl ?_
    refine zV_if_lt (n := 47) C 73 dX8_feed_44 (by decide) (by first | omega | exact zb_rg) rfl (fun h44 => ?_) (fun h => by exfalso; first | omega | exact zb_rg)
    exact KK
  | succ i ih =>
    intro k q T F hF h0 hi hk hq KK
    have e9 : k = (i : Int) := by omega
    subst e9
    refine zV_iload_n (i := 3) (n := 44) C dX8_feed_43 rfl rfl rfl ?_
    refine zV_if_lt (n := 47) C 73 dX8_feed_44 (by decide) (by first | omega | exact zb_rg) rfl (fun h => by exfalso; first | omega | exact zb_rg) (fun h44 => ?_)
    refine zV_aload_n (i := 0) (n := 48) C dX8_feed_47 rfl rfl rfl ?_
    refine zV_getP (f := 3) (n := 51) C zk7 fX8_25 dX8_feed_48 zs_cls rfl (by decide) rfl ?_
    refine zV_getP (f := 0) (n := 54) C zk1 fX8_209 dX8_feed_51 zs_txt rfl (by decide) rfl ?_
    refine zV_iload_n (i := 1) (n := 55) C dX8_feed_54 rfl rfl rfl ?_
    refine zV_bipush (n := 57) C dX8_feed_55 (by decide) rfl ?_
    refine zV_iload_n (i := 3) (n := 58) C dX8_feed_57 rfl rfl rfl ?_
    refine zV_imul (n := 59) C dX8_feed_58 rfl ?_
    refine zV_iushr0 (n := 60) C dX8_feed_59 rfl ?_
    refine zV_sipush (n := 63) C dX8_feed_60 (by decide) rfl ?_
    refine zV_iand0 (n := 64) C dX8_feed_63 rfl ?_
    rw [rByte_u (by omega)]
    refine zV_callV1v (n := 67) C zk5 jX6_add lX8_218 (c_tape_add (d := d) hF (by omega)) dX8_feed_64 zs_tape rfl (Nat.le_of_ble_eq_true rfl) (zfit_of (by omega) (by decide)) ⟨Nat.le_refl _, Nat.le_refl _⟩ rfl ?_
    refine zS_iinc_4_3 (n := 70) C dX8_feed_67 rfl rfl ?_
    refine zV_goto C 43 dX8_feed_70 (by decide) ?_
    rw [rFeed, show zfu F 1 (q + ((i + 1 : Nat) : Int)) = zfu (zfu F 1 (q + 1)) 1 (q + 1 + (i : Int)) from by rw [zfu_fu]; congr 1; omega] at KK
    exact ih _ (q + 1) _ (zfu F 1 (q + 1)) zfu_at (by omega) (by omega) (by omega) (by omega) KK

set_option maxRecDepth 100000 in
set_option maxHeartbeats 4000000 in
theorem c_feed {Γ : zC} {l : Launch} {d : Nat} {μ : zMem} (h10 : 0 ≤ μ 4 2 1 ∧ μ 4 2 1 ≤ 120) {b : Int32} {n : Int} (hn : -2147483648 ≤ n ∧ n ≤ 2147483647) : zRet Γ l (d + 1) qX8_feed [.ref (za Γ 4 0), .int b, .int (zi n)] μ (some (.int (zi (if (1 ≤ n ∧ n ≤ 4) then (if (μ 4 2 1 + n ≤ 120) then μ 4 2 1 + n else -1000000002) else -1000000001)))) (if (1 ≤ n ∧ n ≤ 4) then (if (μ 4 2 1 + n ≤ 120) then (zset (zset μ 4 3 (rFeed b n.toNat (μ 4 3) (μ 4 2 1))) 4 2 (zfu (μ 4 2) 1 (μ 4 2 1 + n))) else zset μ 4 17 (rFind (μ 4 17) (-1000000002))) else zset μ 4 17 (rFind (μ 4 17) (-1000000001))) := by
  refine zRet.mk 1 [.ref (za Γ 4 0), .int b, .int (zi n), .null] RX8 rfl (by decide +kernel) (Nat.le_of_ble_eq_true rfl) rfl ?_
  intro p e s m below meth c C hr hlk
  refine zV_iload_n (i := 2) (n := 1) C dX8_feed_0 rfl rfl rfl ?_
  refine zV_iconst (n := 2) C dX8_feed_1 rfl ?_
  refine zV_icmp_lt (n := 5) C 10 dX8_feed_2 (by decide) (by first | omega | exact zb_rg) (by first | omega | exact zb_rg) rfl (fun h2 => ?_) (fun h2 => ?_)
  · skip
    refine zV_aload_n (i := 0) (n := 11) C dX8_feed_10 rfl rfl rfl ?_
    refine zV_iconst (n := 12) C dX8_feed_11 rfl ?_
    refine zV_callV1u (n := 15) C zk7 jX8_tell lX8_61 (c_tell (d := d) (f := 0) (code := -1000000001) (by decide) (by decide)) dX8_feed_12 zs_cls rfl (Nat.le_of_ble_eq_true rfl) (zfit_of (by omega) (by decide)) ⟨Nat.le_refl _, Nat.le_refl _⟩ rfl ?_
    exact zV_ireturn C hr hlk dX8_feed_15 (by first | exact congrArg (fun z => some (Value.int (zi z))) (zif_t (by omega) (zif_t (by omega) (rfl))) | exact congrArg (fun z => some (Value.int (zi z))) (zif_t (by omega) (zif_f (by omega) rfl)) | exact congrArg (fun z => some (Value.int (zi z))) (zif_f (by omega) rfl)) (by first | exact zif_t (by omega) (zif_t (by omega) (rfl)) | exact zif_t (by omega) (zif_f (by omega) rfl) | exact zif_f (by omega) rfl)
  · skip
    refine zV_iload_n (i := 2) (n := 6) C dX8_feed_5 rfl rfl rfl ?_
    refine zV_iconst (n := 7) C dX8_feed_6 rfl ?_
    refine zV_icmp_le (n := 10) C 16 dX8_feed_7 (by decide) (by first | omega | exact zb_rg) (by first | omega | exact zb_rg) rfl (fun h7 => ?_) (fun h7 => ?_)
    · skip
      refine zV_aload_n (i := 0) (n := 17) C dX8_feed_16 rfl rfl rfl ?_
      refine zV_getP (f := 3) (n := 20) C zk7 fX8_25 dX8_feed_17 zs_cls rfl (by decide) rfl ?_
      refine zV_getP (f := 0) (n := 23) C zk1 fX8_209 dX8_feed_20 zs_txt rfl (by decide) rfl ?_
      refine zV_getI (f := 1) (fi := 1) (n := 26) C zk5 fX8_213 dX8_feed_23 zs_tape rfl (by decide) rfl rfl ?_
      refine zV_iload_n (i := 2) (n := 27) C dX8_feed_26 rfl rfl rfl ?_
      refine zV_iadd (n := 28) C dX8_feed_27 rfl ?_
      refine zV_bipush (n := 30) C dX8_feed_28 (by decide) rfl ?_
      refine zV_icmp_le (n := 33) C 39 dX8_feed_30 (by decide) (by first | omega | exact zb_rg) (by first | omega | exact zb_rg) rfl (fun h30 => ?_) (fun h30 => ?_)
      · skip
        refine zV_iload_n (i := 2) (n := 40) C dX8_feed_39 rfl rfl rfl ?_
        refine zV_iconst (n := 41) C dX8_feed_40 rfl ?_
        refine zV_isub (n := 42) C dX8_feed_41 rfl ?_
        refine zS_istore_n_4_3 (n := 43) C dX8_feed_42 rfl rfl ?_
        refine zV_eqm (μ' := zset (zset μ 4 3 (μ 4 3)) 4 2 (μ 4 2)) (by rw [zset_self, zset_self]) ?_
        refine c_feed_loop C n.toNat (n - 1) (μ 4 2 1) (μ 4 3) (μ 4 2) rfl (by omega) (by omega) (by omega) (by omega) ?_
        rw [show ((n.toNat : Nat) : Int) = n from by omega]
        refine zV_aload_n (i := 0) (n := 74) C dX8_feed_73 rfl rfl rfl ?_
        refine zV_getP (f := 3) (n := 77) C zk7 fX8_25 dX8_feed_74 zs_cls rfl (by decide) rfl ?_
        refine zV_getP (f := 0) (n := 80) C zk1 fX8_209 dX8_feed_77 zs_txt rfl (by decide) rfl ?_
        refine zV_getI (f := 1) (fi := 1) (n := 83) C zk5 fX8_213 dX8_feed_80 zs_tape rfl (by decide) rfl rfl ?_
        rw [zset_at, zfu_at]
        exact zV_ireturn C hr hlk dX8_feed_83 (by first | exact congrArg (fun z => some (Value.int (zi z))) (zif_t (by omega) (zif_t (by omega) rfl))) (by exact zif_t (by omega) (zif_t (by omega) rfl))
      · skip
        refine zV_aload_n (i := 0) (n := 34) C dX8_feed_33 rfl rfl rfl ?_
        refine zV_iconst (n := 35) C dX8_feed_34 rfl ?_
        refine zV_callV1u (n := 38) C zk7 jX8_tell lX8_61 (c_tell (d := d) (f := 1) (code := -1000000002) (by decide) (by decide)) dX8_feed_35 zs_cls rfl (Nat.le_of_ble_eq_true rfl) (zfit_of (by omega) (by decide)) ⟨Nat.le_refl _, Nat.le_refl _⟩ rfl ?_
        exact zV_ireturn C hr hlk dX8_feed_38 (by first | exact congrArg (fun z => some (Value.int (zi z))) (zif_t (by omega) (zif_t (by omega) (rfl))) | exact congrArg (fun z => some (Value.int (zi z))) (zif_t (by omega) (zif_f (by omega) rfl)) | exact congrArg (fun z => some (Value.int (zi z))) (zif_f (by omega) rfl)) (by first | exact zif_t (by omega) (zif_t (by omega) (rfl)) | exact zif_t (by omega) (zif_f (by omega) rfl) | exact zif_f (by omega) rfl)
    · skip
      refine zV_aload_n (i := 0) (n := 11) C dX8_feed_10 rfl rfl rfl ?_
      refine zV_iconst (n := 12) C dX8_feed_11 rfl ?_
      refine zV_callV1u (n := 15) C zk7 jX8_tell lX8_61 (c_tell (d := d) (f := 0) (code := -1000000001) (by decide) (by decide)) dX8_feed_12 zs_cls rfl (Nat.le_of_ble_eq_true rfl) (zfit_of (by omega) (by decide)) ⟨Nat.le_refl _, Nat.le_refl _⟩ rfl ?_
      exact zV_ireturn C hr hlk dX8_feed_15 (by first | exact congrArg (fun z => some (Value.int (zi z))) (zif_t (by omega) (zif_t (by omega) (rfl))) | exact congrArg (fun z => some (Value.int (zi z))) (zif_t (by omega) (zif_f (by omega) rfl)) | exact congrArg (fun z => some (Value.int (zi z))) (zif_f (by omega) rfl)) (by first | exact zif_t (by omega) (zif_t (by omega) (rfl)) | exact zif_t (by omega) (zif_f (by omega) rfl) | exact zif_f (by omega) rfl)

