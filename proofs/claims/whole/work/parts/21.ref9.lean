/-! the reference: sheets (laid by wip/whole/gen/ref9.py) -/
set_option maxRecDepth 100000 in
set_option maxHeartbeats 4000000 in
theorem m_wrongSheet {Γ : zC} {l : Launch} {d : Nat} {μ : zMem} (hS : rSh (μ 5 9) (μ 5 10) (μ 5 11)) {j : Int} (hj : -2147483648 ≤ j ∧ j ≤ 2147483647) : zRet Γ l (d + 2) qX9_wrongSheet [.ref (za Γ 5 0), .int (zi j)] μ (some (.int (zi (rWsh (μ 5 9) j)))) μ := by
  refine zRet.mk 0 [.ref (za Γ 5 0), .int (zi j)] RX9 rfl (by decide +kernel) (Nat.le_of_ble_eq_true rfl) rfl ?_
  intro p e s m below meth c C hr hlk
  refine zV_iload_n (i := 1) (n := 1) C dX9_wrongSheet_0 rfl rfl rfl ?_
  refine zV_callS1u (n := 4) C jX9_isOne lX9_298 (m_isOne (d := d) (by omega)) dX9_wrongSheet_1 (Nat.le_of_ble_eq_true rfl) (zfit_of (by omega) (by decide)) ⟨Nat.le_refl _, Nat.le_refl _⟩ rfl ?_
  refine zV_if_ne (n := 7) C 12 dX9_wrongSheet_4 (by decide) (by first | omega | exact zb_rg) rfl (fun h4 => ?_) (fun h4 => ?_)
  · skip
    simp only [zb_eq0, Decidable.not_not] at h4
    have hb := (hS.1 j (by omega) (by omega)).1
    refine zV_aload_n (i := 0) (n := 13) C dX9_wrongSheet_12 rfl rfl rfl ?_
    refine zV_getP (f := 15) (n := 16) C zk8 fX9_34 dX9_wrongSheet_13 zs_ref rfl (by decide) rfl ?_
    refine zV_iload_n (i := 1) (n := 17) C dX9_wrongSheet_16 rfl rfl rfl ?_
    refine zV_iald (n := 18) C dX9_wrongSheet_17 zs_bitsOf (by first | omega | exact zb_rg) (by decide) rfl ?_
    refine zV_if_ne (n := 21) C 27 dX9_wrongSheet_18 (by decide) (by first | omega | exact zb_rg) rfl (fun h18 => ?_) (fun h18 => ?_)
    · skip
      refine zV_iconst (n := 28) C dX9_wrongSheet_27 rfl ?_
      exact zV_ireturn C hr hlk dX9_wrongSheet_28 (by exact congrArg (fun z => some (Value.int (zi z))) (by unfold rWsh; (repeat' split) <;> omega)) (by rfl)
    · skip
      refine zV_ldc_w (n := 24) C dX9_wrongSheet_21 kX9_301 rfl ?_
      refine zV_goto C 28 dX9_wrongSheet_24 (by decide) ?_
      exact zV_ireturn C hr hlk dX9_wrongSheet_28 (by exact congrArg (fun z => some (Value.int (zi z))) (by unfold rWsh; (repeat' split) <;> omega)) (by rfl)
  · skip
    simp only [zb_eq0, Decidable.not_not] at h4
    refine zV_ldc (n := 9) C dX9_wrongSheet_7 kX9_51 rfl ?_
    refine zV_goto C 28 dX9_wrongSheet_9 (by decide) ?_
    exact zV_ireturn C hr hlk dX9_wrongSheet_28 (by exact congrArg (fun z => some (Value.int (zi z))) (by unfold rWsh; (repeat' split) <;> omega)) (by rfl)

set_option maxRecDepth 100000 in
set_option maxHeartbeats 4000000 in
theorem m_narrowed {Γ : zC} {l : Launch} {d : Nat} {μ : zMem} {b v : Int} (hb : b = 0 ∨ b = 8 ∨ b = 16 ∨ b = 64) (hv : -9223372036854775808 ≤ v ∧ v ≤ 9223372036854775807) : zRet Γ l (d + 0) qX9_narrowed [.int (zi b), .long (zl v)] μ (some (.long (zl (rNar b v)))) μ := by
  refine zRet.mk 0 [.int (zi b), .long (zl v), .null] RX9 rfl (by decide +kernel) (Nat.le_of_ble_eq_true rfl) rfl ?_
  intro p e s m below meth c C hr hlk
  have h8 := bm8_rg v
  have h16 := bm16_rg v
  refine zV_iload_n (i := 0) (n := 1) C dX9_narrowed_0 rfl rfl rfl ?_
  refine zV_bipush (n := 3) C dX9_narrowed_1 (by decide) rfl ?_
  refine zV_icmp_ne (n := 6) C 13 dX9_narrowed_3 (by decide) (by first | omega | exact zb_rg) (by first | omega | exact zb_rg) rfl (fun h3 => ?_) (fun h3 => ?_)
  · skip
    refine zV_iload_n (i := 0) (n := 14) C dX9_narrowed_13 rfl rfl rfl ?_
    refine zV_bipush (n := 16) C dX9_narrowed_14 (by decide) rfl ?_
    refine zV_icmp_ne (n := 19) C 26 dX9_narrowed_16 (by decide) (by first | omega | exact zb_rg) (by first | omega | exact zb_rg) rfl (fun h16 => ?_) (fun h16 => ?_)
    · skip
      refine zV_lload_n (i := 1) (n := 27) C dX9_narrowed_26 rfl rfl rfl ?_
      exact zV_lreturn C hr hlk dX9_narrowed_27 (by exact congrArg (fun z => some (Value.long (zl z))) (by unfold rNar; first | exact zif_t (by omega) rfl | exact zif_f (by omega) (zif_t (by omega) rfl) | exact zif_f (by omega) (zif_f (by omega) rfl))) (by rfl)
    · skip
      refine zV_lload_n (i := 1) (n := 20) C dX9_narrowed_19 rfl rfl rfl ?_
      refine zV_l2i (n := 21) C dX9_narrowed_20 rfl ?_
      refine zV_i2s (n := 22) C dX9_narrowed_21 (z_i2s v) rfl ?_
      refine zV_i2l (n := 23) C dX9_narrowed_22 (by first | omega | exact zb_rg) rfl ?_
      refine zV_goto C 27 dX9_narrowed_23 (by decide) ?_
      exact zV_lreturn C hr hlk dX9_narrowed_27 (by exact congrArg (fun z => some (Value.long (zl z))) (by unfold rNar; first | exact zif_t (by omega) rfl | exact zif_f (by omega) (zif_t (by omega) rfl) | exact zif_f (by omega) (zif_f (by omega) rfl))) (by rfl)
  · skip
    refine zV_lload_n (i := 1) (n := 7) C dX9_narrowed_6 rfl rfl rfl ?_
    refine zV_l2i (n := 8) C dX9_narrowed_7 rfl ?_
    refine zV_i2b (n := 9) C dX9_narrowed_8 (z_i2b v) rfl ?_
    refine zV_i2l (n := 10) C dX9_narrowed_9 (by first | omega | exact zb_rg) rfl ?_
    refine zV_goto C 27 dX9_narrowed_10 (by decide) ?_
    exact zV_lreturn C hr hlk dX9_narrowed_27 (by exact congrArg (fun z => some (Value.long (zl z))) (by unfold rNar; first | exact zif_t (by omega) rfl | exact zif_f (by omega) (zif_t (by omega) rfl) | exact zif_f (by omega) (zif_f (by omega) rfl))) (by rfl)

set_option maxRecDepth 100000 in
set_option maxHeartbeats 4000000 in
theorem m_wrongBook {Γ : zC} {l : Launch} {d : Nat} {μ : zMem} {N : Int} (I : rInv N (μ 5 1)) (hS : rSh (μ 5 9) (μ 5 10) (μ 5 11)) {j : Int} (hj : -2147483648 ≤ j ∧ j ≤ 2147483647) {x : Int} (hx : -2147483648 ≤ x ∧ x ≤ 2147483647) : zRet Γ l (d + 3) qX9_wrongBook [.ref (za Γ 5 0), .int (zi j), .int (zi x)] μ (some (.int (zi (rWbk (μ 5 9) (μ 5 1) j x)))) μ := by
  refine zRet.mk 1 [.ref (za Γ 5 0), .int (zi j), .int (zi x), .null] RX9 rfl (by decide +kernel) (Nat.le_of_ble_eq_true rfl) rfl ?_
  intro p e s m below meth c C hr hlk
  have h0 := I.1
  have hw := rWsh_rg (μ 5 9) j
  refine zV_aload_n (i := 0) (n := 1) C dX9_wrongBook_0 rfl rfl rfl ?_
  refine zV_iload_n (i := 1) (n := 2) C dX9_wrongBook_1 rfl rfl rfl ?_
  refine zV_callV1u (n := 5) C zk8 jX9_wrongSheet lX9_302 (m_wrongSheet (d := d) hS (by omega)) dX9_wrongBook_2 zs_ref rfl (Nat.le_of_ble_eq_true rfl) (zfit_of (by omega) (by decide)) ⟨Nat.le_refl _, Nat.le_refl _⟩ rfl ?_
  refine zS_istore_n_4_3 (n := 6) C dX9_wrongBook_5 rfl rfl ?_
  refine zV_iload_n (i := 3) (n := 7) C dX9_wrongBook_6 rfl rfl rfl ?_
  refine zV_if_eq (n := 10) C 14 dX9_wrongBook_7 (by decide) (by first | omega | exact zb_rg) rfl (fun h7 => ?_) (fun h7 => ?_)
  · skip
    refine zV_aload_n (i := 0) (n := 15) C dX9_wrongBook_14 rfl rfl rfl ?_
    refine zV_iload_n (i := 2) (n := 16) C dX9_wrongBook_15 rfl rfl rfl ?_
    refine zV_callV1u (n := 19) C zk8 jX9_isChild lX9_100 (m_isChild (d := d) (by omega) (by omega)) dX9_wrongBook_16 zs_ref rfl (Nat.le_of_ble_eq_true rfl) (zfit_of (by omega) (by decide)) ⟨Nat.le_refl _, Nat.le_refl _⟩ rfl ?_
    refine zV_if_eq (n := 22) C 26 dX9_wrongBook_19 (by decide) (by first | omega | exact zb_rg) rfl (fun h19 => ?_) (fun h19 => ?_)
    · skip
      simp only [zb_eq0, Decidable.not_not] at h19
      refine zV_ldc (n := 28) C dX9_wrongBook_26 kX9_51 rfl ?_
      exact zV_ireturn C hr hlk dX9_wrongBook_28 (by exact congrArg (fun z => some (Value.int (zi z))) (by unfold rWbk; (repeat' split) <;> omega)) (by rfl)
    · skip
      simp only [zb_eq0, Decidable.not_not] at h19
      refine zV_iconst (n := 23) C dX9_wrongBook_22 rfl ?_
      refine zV_goto C 28 dX9_wrongBook_23 (by decide) ?_
      exact zV_ireturn C hr hlk dX9_wrongBook_28 (by exact congrArg (fun z => some (Value.int (zi z))) (by unfold rWbk; (repeat' split) <;> omega)) (by rfl)
  · skip
    refine zV_iload_n (i := 3) (n := 11) C dX9_wrongBook_10 rfl rfl rfl ?_
    refine zV_goto C 28 dX9_wrongBook_11 (by decide) ?_
    exact zV_ireturn C hr hlk dX9_wrongBook_28 (by exact congrArg (fun z => some (Value.int (zi z))) (by unfold rWbk; (repeat' split) <;> omega)) (by rfl)

set_option maxRecDepth 100000 in
set_option maxHeartbeats 4000000 in
theorem m_sheet_loop {Γ : zC} {l : Launch} {d : Nat} {p : Program} {e : Env} {s : State} {m : MethodId} {args : Array Value} {below : List Frame} {meth : Method} {c : Code} {Q : State → Prop} (C : zCx Γ (zAA Γ) p s m args c RX9 cX9_sheet 5) {μ : zMem} {j b n : Int} (hj : 0 ≤ j ∧ j < 4) (KK : zV Γ (zAA Γ) p l e (zRm (d + 2)) s m args below meth c 0 0 Q 111 [.ref (za Γ 5 0), .int (zi j), .int (zi b), .int (zi n), .int (zi 40)] [] (zset μ 5 11 (fun i => if (40 * j) ≤ i ∧ i < (40 * j) + 40 then 0 else μ 5 11 i))) :
    ∀ (i : Nat) (k : Int) (h0 : 0 ≤ k) (hi : k + i = 40), zV Γ (zAA Γ) p l e (zRm (d + 2)) s m args below meth c 0 0 Q 85 [.ref (za Γ 5 0), .int (zi j), .int (zi b), .int (zi n), .int (zi k)] [] (zset μ 5 11 (fun i => if (40 * j) ≤ i ∧ i < (40 * j) + k then 0 else μ 5 11 i)) := by
  intro i
  induction i with
  | zero =>
    intro k h0 hi
    have hk : k = 40 := by omega
    subst hk
    refine zV_iload (n := 87) C dX9_sheet_85 rfl rfl ?_
    refine zV_bipush (n := 89) C dX9_sheet_87 (by decide) rfl ?_
    refine zV_icmp_ge (n := 92) C 111 dX9_sheet_89 (by decide) (by omega) (by omega) rfl (fun h89 => ?_) (fun h => by exfalso; omega)
    exact KK
  | succ i ih =>
    intro k h0 hi
    refine zV_iload (n := 87) C dX9_sheet_85 rfl rfl ?_
    refine zV_bipush (n := 89) C dX9_sheet_87 (by decide) rfl ?_
    refine zV_icmp_ge (n := 92) C 111 dX9_sheet_89 (by decide) (by omega) (by omega) rfl (fun h => by exfalso; omega) (fun h89 => ?_)
    refine zV_aload_n (i := 0) (n := 93) C dX9_sheet_92 rfl rfl rfl ?_
    refine zV_getP (f := 17) (n := 96) C zk8 fX9_40 dX9_sheet_93 zs_ref rfl (by decide) rfl ?_
    refine zV_bipush (n := 98) C dX9_sheet_96 (by decide) rfl ?_
    refine zV_iload_n (i := 1) (n := 99) C dX9_sheet_98 rfl rfl rfl ?_
    refine zV_imul (n := 100) C dX9_sheet_99 rfl ?_
    refine zV_iload (n := 102) C dX9_sheet_100 rfl rfl ?_
    refine zV_iadd (n := 103) C dX9_sheet_102 rfl ?_
    refine zV_lconst (v := 0) (n := 104) C dX9_sheet_103 rfl rfl ?_
    refine zV_last (n := 105) C dX9_sheet_104 zs_numbers (by omega) (by decide) rfl ?_
    rw [zup_set, rRow_step h0]
    refine zS_iinc_5_4 (n := 108) C dX9_sheet_105 rfl rfl ?_
    refine zV_goto C 85 dX9_sheet_108 (by decide) ?_
    exact ih (k + 1) (by omega) (by omega)

set_option maxRecDepth 100000 in
set_option maxHeartbeats 4000000 in
theorem m_sheet {Γ : zC} {l : Launch} {d : Nat} {μ : zMem} (hS : rSh (μ 5 9) (μ 5 10) (μ 5 11)) {j : Int} (hj : -2147483648 ≤ j ∧ j ≤ 2147483647) {b : Int} (hb : -2147483648 ≤ b ∧ b ≤ 2147483647) {n : Int} (hn : -2147483648 ≤ n ∧ n ≤ 2147483647) : zRet Γ l (d + 2) qX9_sheet [.ref (za Γ 5 0), .int (zi j), .int (zi b), .int (zi n)] μ (some (.int (zi (if ((0 ≤ j ∧ j ≤ 3) ∧ (b = 0 ∨ b = 8 ∨ b = 16 ∨ b = 64)) then (if n < 0 then -1000000007 else if 40 < n then -1000000001 else (if b = 0 then 0 else n)) else -1000000001)))) (if ((0 ≤ j ∧ j ≤ 3) ∧ (b = 0 ∨ b = 8 ∨ b = 16 ∨ b = 64)) then (if n < 0 then zset μ 5 5 (rFind (μ 5 5) (-1000000007)) else if 40 < n then zset μ 5 5 (rFind (μ 5 5) (-1000000001)) else zset (zset (zset μ 5 9 (zfu (μ 5 9) j b)) 5 10 (zfu (μ 5 10) j (if b = 0 then 0 else n))) 5 11 (fun i => if (40 * j) ≤ i ∧ i < (40 * j) + 40 then 0 else (μ 5 11) i)) else zset μ 5 5 (rFind (μ 5 5) (-1000000001))) := by
  refine zRet.mk 1 [.ref (za Γ 5 0), .int (zi j), .int (zi b), .int (zi n), .null] RX9 rfl (by decide +kernel) (Nat.le_of_ble_eq_true rfl) rfl ?_
  intro p e s m below meth c C hr hlk
  refine zV_iload_n (i := 1) (n := 1) C dX9_sheet_0 rfl rfl rfl ?_
  refine zV_callS1u (n := 4) C jX9_isOne lX9_298 (m_isOne (d := d) (by omega)) dX9_sheet_1 (Nat.le_of_ble_eq_true rfl) (zfit_of (by omega) (by decide)) ⟨Nat.le_refl _, Nat.le_refl _⟩ rfl ?_
  refine zV_if_eq (n := 7) C 29 dX9_sheet_4 (by decide) (by first | omega | exact zb_rg) rfl (fun h4 => ?_) (fun h4 => ?_)
  · skip
    simp only [zb_eq0, Decidable.not_not] at h4
    refine zV_aload_n (i := 0) (n := 30) C dX9_sheet_29 rfl rfl rfl ?_
    refine zV_ldc (n := 32) C dX9_sheet_30 kX9_51 rfl ?_
    refine zV_callV1u (n := 35) C zk8 jX9_finds lX9_75 (m_finds (d := d) (by omega)) dX9_sheet_32 zs_ref rfl (Nat.le_of_ble_eq_true rfl) (zfit_of (by omega) (by decide)) ⟨Nat.le_refl _, Nat.le_refl _⟩ rfl ?_
    exact zV_ireturn C hr hlk dX9_sheet_35 (by first | exact congrArg (fun z => some (Value.int (zi z))) (zif_f (by omega) rfl) | exact congrArg (fun z => some (Value.int (zi z))) (zif_t (by omega) (zif_t (by omega) rfl)) | exact congrArg (fun z => some (Value.int (zi z))) (zif_t (by omega) (zif_f (by omega) (zif_t (by omega) rfl))) | exact congrArg (fun z => some (Value.int (zi z))) (zif_t (by omega) (zif_f (by omega) (zif_f (by omega) rfl)))) (by first | exact zif_f (by omega) rfl | exact zif_t (by omega) (zif_t (by omega) rfl) | exact zif_t (by omega) (zif_f (by omega) (zif_t (by omega) rfl)) | exact zif_t (by omega) (zif_f (by omega) (zif_f (by omega) rfl)))
  · skip
    simp only [zb_eq0, Decidable.not_not] at h4
    refine zV_iload_n (i := 2) (n := 8) C dX9_sheet_7 rfl rfl rfl ?_
    refine zV_if_eq (n := 11) C 36 dX9_sheet_8 (by decide) (by first | omega | exact zb_rg) rfl (fun h8 => ?_) (fun h8 => ?_)
    · skip
      refine zV_iload_n (i := 3) (n := 37) C dX9_sheet_36 rfl rfl rfl ?_
      refine zV_if_ge (n := 40) C 47 dX9_sheet_37 (by decide) (by first | omega | exact zb_rg) rfl (fun h37 => ?_) (fun h37 => ?_)
      · skip
        refine zV_iload_n (i := 3) (n := 48) C dX9_sheet_47 rfl rfl rfl ?_
        refine zV_bipush (n := 50) C dX9_sheet_48 (by decide) rfl ?_
        refine zV_icmp_le (n := 53) C 60 dX9_sheet_50 (by decide) (by first | omega | exact zb_rg) (by first | omega | exact zb_rg) rfl (fun h50 => ?_) (fun h50 => ?_)
        · skip
          refine zV_aload_n (i := 0) (n := 61) C dX9_sheet_60 rfl rfl rfl ?_
          refine zV_getP (f := 15) (n := 64) C zk8 fX9_34 dX9_sheet_61 zs_ref rfl (by decide) rfl ?_
          refine zV_iload_n (i := 1) (n := 65) C dX9_sheet_64 rfl rfl rfl ?_
          refine zV_iload_n (i := 2) (n := 66) C dX9_sheet_65 rfl rfl rfl ?_
          refine zV_iast (n := 67) C dX9_sheet_66 zs_bitsOf (by first | omega | exact zb_rg) (by decide) rfl ?_
          rw [zup_zset]
          refine zV_aload_n (i := 0) (n := 68) C dX9_sheet_67 rfl rfl rfl ?_
          refine zV_getP (f := 16) (n := 71) C zk8 fX9_37 dX9_sheet_68 zs_ref rfl (by decide) rfl ?_
          refine zV_iload_n (i := 1) (n := 72) C dX9_sheet_71 rfl rfl rfl ?_
          refine zV_iload_n (i := 2) (n := 73) C dX9_sheet_72 rfl rfl rfl ?_
          refine zV_if_ne (n := 76) C 80 dX9_sheet_73 (by decide) (by first | omega | exact zb_rg) rfl (fun h73 => ?_) (fun h73 => ?_)
          · skip
            refine zV_iload_n (i := 3) (n := 81) C dX9_sheet_80 rfl rfl rfl ?_
            refine zV_iast (n := 82) C dX9_sheet_81 zs_sizeOf (by first | omega | exact zb_rg) (by decide) rfl ?_
            rw [zup_zset, zset_ne (by decide)]
            refine zV_iconst (n := 83) C dX9_sheet_82 rfl ?_
            refine zS_istore_5_4 (n := 85) C dX9_sheet_83 rfl rfl ?_
            refine zV_eqm (μ' := (zset (zset μ 5 9 (zfu (μ 5 9) j b)) 5 10 (zfu (μ 5 10) j (if b = 0 then 0 else n)))) (by first | rw [if_pos h73] | rw [if_neg h73]) ?_
            refine zV_eqm (μ' := zset (zset (zset μ 5 9 (zfu (μ 5 9) j b)) 5 10 (zfu (μ 5 10) j (if b = 0 then 0 else n))) 5 11 (fun i => if (40 * j) ≤ i ∧ i < (40 * j) + 0 then 0 else (zset (zset μ 5 9 (zfu (μ 5 9) j b)) 5 10 (zfu (μ 5 10) j (if b = 0 then 0 else n))) 5 11 i)) zst0.symm ?_
            refine m_sheet_loop (μ := (zset (zset μ 5 9 (zfu (μ 5 9) j b)) 5 10 (zfu (μ 5 10) j (if b = 0 then 0 else n)))) C (by omega) ?_ 40 0 (by omega) (by omega)
            rw [show (zset (zset μ 5 9 (zfu (μ 5 9) j b)) 5 10 (zfu (μ 5 10) j (if b = 0 then 0 else n))) 5 11 = (μ 5 11) from by rw [zset_ne (by decide), zset_ne (by decide)]]
            refine zV_aload_n (i := 0) (n := 112) C dX9_sheet_111 rfl rfl rfl ?_
            refine zV_getP (f := 16) (n := 115) C zk8 fX9_37 dX9_sheet_112 zs_ref rfl (by decide) rfl ?_
            refine zV_iload_n (i := 1) (n := 116) C dX9_sheet_115 rfl rfl rfl ?_
            refine zV_iald (n := 117) C dX9_sheet_116 zs_sizeOf (by first | omega | exact zb_rg) (by decide) rfl ?_
            rw [zset_ne (by decide), zset_at, zfu_at]
            exact zV_ireturn C hr hlk dX9_sheet_117 (by first | exact congrArg (fun z => some (Value.int (zi z))) (zif_t (by omega) (zif_f (by omega) (zif_f (by omega) rfl)))) (by exact zif_t (by omega) (zif_f (by omega) (zif_f (by omega) rfl)))
          · skip
            refine zV_iconst (n := 77) C dX9_sheet_76 rfl ?_
            refine zV_goto C 81 dX9_sheet_77 (by decide) ?_
            refine zV_iast (n := 82) C dX9_sheet_81 zs_sizeOf (by first | omega | exact zb_rg) (by decide) rfl ?_
            rw [zup_zset, zset_ne (by decide)]
            refine zV_iconst (n := 83) C dX9_sheet_82 rfl ?_
            refine zS_istore_5_4 (n := 85) C dX9_sheet_83 rfl rfl ?_
            refine zV_eqm (μ' := (zset (zset μ 5 9 (zfu (μ 5 9) j b)) 5 10 (zfu (μ 5 10) j (if b = 0 then 0 else n)))) (by first | rw [if_pos h73] | rw [if_neg h73]) ?_
            refine zV_eqm (μ' := zset (zset (zset μ 5 9 (zfu (μ 5 9) j b)) 5 10 (zfu (μ 5 10) j (if b = 0 then 0 else n))) 5 11 (fun i => if (40 * j) ≤ i ∧ i < (40 * j) + 0 then 0 else (zset (zset μ 5 9 (zfu (μ 5 9) j b)) 5 10 (zfu (μ 5 10) j (if b = 0 then 0 else n))) 5 11 i)) zst0.symm ?_
            refine m_sheet_loop (μ := (zset (zset μ 5 9 (zfu (μ 5 9) j b)) 5 10 (zfu (μ 5 10) j (if b = 0 then 0 else n)))) C (by omega) ?_ 40 0 (by omega) (by omega)
            rw [show (zset (zset μ 5 9 (zfu (μ 5 9) j b)) 5 10 (zfu (μ 5 10) j (if b = 0 then 0 else n))) 5 11 = (μ 5 11) from by rw [zset_ne (by decide), zset_ne (by decide)]]
            refine zV_aload_n (i := 0) (n := 112) C dX9_sheet_111 rfl rfl rfl ?_
            refine zV_getP (f := 16) (n := 115) C zk8 fX9_37 dX9_sheet_112 zs_ref rfl (by decide) rfl ?_
            refine zV_iload_n (i := 1) (n := 116) C dX9_sheet_115 rfl rfl rfl ?_
            refine zV_iald (n := 117) C dX9_sheet_116 zs_sizeOf (by first | omega | exact zb_rg) (by decide) rfl ?_
            rw [zset_ne (by decide), zset_at, zfu_at]
            exact zV_ireturn C hr hlk dX9_sheet_117 (by first | exact congrArg (fun z => some (Value.int (zi z))) (zif_t (by omega) (zif_f (by omega) (zif_f (by omega) rfl)))) (by exact zif_t (by omega) (zif_f (by omega) (zif_f (by omega) rfl)))
        · skip
          refine zV_aload_n (i := 0) (n := 54) C dX9_sheet_53 rfl rfl rfl ?_
          refine zV_ldc (n := 56) C dX9_sheet_54 kX9_51 rfl ?_
          refine zV_callV1u (n := 59) C zk8 jX9_finds lX9_75 (m_finds (d := d) (by omega)) dX9_sheet_56 zs_ref rfl (Nat.le_of_ble_eq_true rfl) (zfit_of (by omega) (by decide)) ⟨Nat.le_refl _, Nat.le_refl _⟩ rfl ?_
          exact zV_ireturn C hr hlk dX9_sheet_59 (by first | exact congrArg (fun z => some (Value.int (zi z))) (zif_f (by omega) rfl) | exact congrArg (fun z => some (Value.int (zi z))) (zif_t (by omega) (zif_t (by omega) rfl)) | exact congrArg (fun z => some (Value.int (zi z))) (zif_t (by omega) (zif_f (by omega) (zif_t (by omega) rfl))) | exact congrArg (fun z => some (Value.int (zi z))) (zif_t (by omega) (zif_f (by omega) (zif_f (by omega) rfl)))) (by first | exact zif_f (by omega) rfl | exact zif_t (by omega) (zif_t (by omega) rfl) | exact zif_t (by omega) (zif_f (by omega) (zif_t (by omega) rfl)) | exact zif_t (by omega) (zif_f (by omega) (zif_f (by omega) rfl)))
      · skip
        refine zV_aload_n (i := 0) (n := 41) C dX9_sheet_40 rfl rfl rfl ?_
        refine zV_ldc (n := 43) C dX9_sheet_41 kX9_170 rfl ?_
        refine zV_callV1u (n := 46) C zk8 jX9_finds lX9_75 (m_finds (d := d) (by omega)) dX9_sheet_43 zs_ref rfl (Nat.le_of_ble_eq_true rfl) (zfit_of (by omega) (by decide)) ⟨Nat.le_refl _, Nat.le_refl _⟩ rfl ?_
        exact zV_ireturn C hr hlk dX9_sheet_46 (by first | exact congrArg (fun z => some (Value.int (zi z))) (zif_f (by omega) rfl) | exact congrArg (fun z => some (Value.int (zi z))) (zif_t (by omega) (zif_t (by omega) rfl)) | exact congrArg (fun z => some (Value.int (zi z))) (zif_t (by omega) (zif_f (by omega) (zif_t (by omega) rfl))) | exact congrArg (fun z => some (Value.int (zi z))) (zif_t (by omega) (zif_f (by omega) (zif_f (by omega) rfl)))) (by first | exact zif_f (by omega) rfl | exact zif_t (by omega) (zif_t (by omega) rfl) | exact zif_t (by omega) (zif_f (by omega) (zif_t (by omega) rfl)) | exact zif_t (by omega) (zif_f (by omega) (zif_f (by omega) rfl)))
    · skip
      refine zV_iload_n (i := 2) (n := 12) C dX9_sheet_11 rfl rfl rfl ?_
      refine zV_bipush (n := 14) C dX9_sheet_12 (by decide) rfl ?_
      refine zV_icmp_eq (n := 17) C 36 dX9_sheet_14 (by decide) (by first | omega | exact zb_rg) (by first | omega | exact zb_rg) rfl (fun h14 => ?_) (fun h14 => ?_)
      · skip
        refine zV_iload_n (i := 3) (n := 37) C dX9_sheet_36 rfl rfl rfl ?_
        refine zV_if_ge (n := 40) C 47 dX9_sheet_37 (by decide) (by first | omega | exact zb_rg) rfl (fun h37 => ?_) (fun h37 => ?_)
        · skip
          refine zV_iload_n (i := 3) (n := 48) C dX9_sheet_47 rfl rfl rfl ?_
          refine zV_bipush (n := 50) C dX9_sheet_48 (by decide) rfl ?_
          refine zV_icmp_le (n := 53) C 60 dX9_sheet_50 (by decide) (by first | omega | exact zb_rg) (by first | omega | exact zb_rg) rfl (fun h50 => ?_) (fun h50 => ?_)
          · skip
            refine zV_aload_n (i := 0) (n := 61) C dX9_sheet_60 rfl rfl rfl ?_
            refine zV_getP (f := 15) (n := 64) C zk8 fX9_34 dX9_sheet_61 zs_ref rfl (by decide) rfl ?_
            refine zV_iload_n (i := 1) (n := 65) C dX9_sheet_64 rfl rfl rfl ?_
            refine zV_iload_n (i := 2) (n := 66) C dX9_sheet_65 rfl rfl rfl ?_
            refine zV_iast (n := 67) C dX9_sheet_66 zs_bitsOf (by first | omega | exact zb_rg) (by decide) rfl ?_
            rw [zup_zset]
            refine zV_aload_n (i := 0) (n := 68) C dX9_sheet_67 rfl rfl rfl ?_
            refine zV_getP (f := 16) (n := 71) C zk8 fX9_37 dX9_sheet_68 zs_ref rfl (by decide) rfl ?_
            refine zV_iload_n (i := 1) (n := 72) C dX9_sheet_71 rfl rfl rfl ?_
            refine zV_iload_n (i := 2) (n := 73) C dX9_sheet_72 rfl rfl rfl ?_
            refine zV_if_ne (n := 76) C 80 dX9_sheet_73 (by decide) (by first | omega | exact zb_rg) rfl (fun h73 => ?_) (fun h73 => ?_)
            · skip
              refine zV_iload_n (i := 3) (n := 81) C dX9_sheet_80 rfl rfl rfl ?_
              refine zV_iast (n := 82) C dX9_sheet_81 zs_sizeOf (by first | omega | exact zb_rg) (by decide) rfl ?_
              rw [zup_zset, zset_ne (by decide)]
              refine zV_iconst (n := 83) C dX9_sheet_82 rfl ?_
              refine zS_istore_5_4 (n := 85) C dX9_sheet_83 rfl rfl ?_
              refine zV_eqm (μ' := (zset (zset μ 5 9 (zfu (μ 5 9) j b)) 5 10 (zfu (μ 5 10) j (if b = 0 then 0 else n)))) (by first | rw [if_pos h73] | rw [if_neg h73]) ?_
              refine zV_eqm (μ' := zset (zset (zset μ 5 9 (zfu (μ 5 9) j b)) 5 10 (zfu (μ 5 10) j (if b = 0 then 0 else n))) 5 11 (fun i => if (40 * j) ≤ i ∧ i < (40 * j) + 0 then 0 else (zset (zset μ 5 9 (zfu (μ 5 9) j b)) 5 10 (zfu (μ 5 10) j (if b = 0 then 0 else n))) 5 11 i)) zst0.symm ?_
              refine m_sheet_loop (μ := (zset (zset μ 5 9 (zfu (μ 5 9) j b)) 5 10 (zfu (μ 5 10) j (if b = 0 then 0 else n)))) C (by omega) ?_ 40 0 (by omega) (by omega)
              rw [show (zset (zset μ 5 9 (zfu (μ 5 9) j b)) 5 10 (zfu (μ 5 10) j (if b = 0 then 0 else n))) 5 11 = (μ 5 11) from by rw [zset_ne (by decide), zset_ne (by decide)]]
              refine zV_aload_n (i := 0) (n := 112) C dX9_sheet_111 rfl rfl rfl ?_
              refine zV_getP (f := 16) (n := 115) C zk8 fX9_37 dX9_sheet_112 zs_ref rfl (by decide) rfl ?_
              refine zV_iload_n (i := 1) (n := 116) C dX9_sheet_115 rfl rfl rfl ?_
              refine zV_iald (n := 117) C dX9_sheet_116 zs_sizeOf (by first | omega | exact zb_rg) (by decide) rfl ?_
              rw [zset_ne (by decide), zset_at, zfu_at]
              exact zV_ireturn C hr hlk dX9_sheet_117 (by first | exact congrArg (fun z => some (Value.int (zi z))) (zif_t (by omega) (zif_f (by omega) (zif_f (by omega) rfl)))) (by exact zif_t (by omega) (zif_f (by omega) (zif_f (by omega) rfl)))
            · skip
              refine zV_iconst (n := 77) C dX9_sheet_76 rfl ?_
              refine zV_goto C 81 dX9_sheet_77 (by decide) ?_
              refine zV_iast (n := 82) C dX9_sheet_81 zs_sizeOf (by first | omega | exact zb_rg) (by decide) rfl ?_
              rw [zup_zset, zset_ne (by decide)]
              refine zV_iconst (n := 83) C dX9_sheet_82 rfl ?_
              refine zS_istore_5_4 (n := 85) C dX9_sheet_83 rfl rfl ?_
              refine zV_eqm (μ' := (zset (zset μ 5 9 (zfu (μ 5 9) j b)) 5 10 (zfu (μ 5 10) j (if b = 0 then 0 else n)))) (by first | rw [if_pos h73] | rw [if_neg h73]) ?_
              refine zV_eqm (μ' := zset (zset (zset μ 5 9 (zfu (μ 5 9) j b)) 5 10 (zfu (μ 5 10) j (if b = 0 then 0 else n))) 5 11 (fun i => if (40 * j) ≤ i ∧ i < (40 * j) + 0 then 0 else (zset (zset μ 5 9 (zfu (μ 5 9) j b)) 5 10 (zfu (μ 5 10) j (if b = 0 then 0 else n))) 5 11 i)) zst0.symm ?_
              refine m_sheet_loop (μ := (zset (zset μ 5 9 (zfu (μ 5 9) j b)) 5 10 (zfu (μ 5 10) j (if b = 0 then 0 else n)))) C (by omega) ?_ 40 0 (by omega) (by omega)
              rw [show (zset (zset μ 5 9 (zfu (μ 5 9) j b)) 5 10 (zfu (μ 5 10) j (if b = 0 then 0 else n))) 5 11 = (μ 5 11) from by rw [zset_ne (by decide), zset_ne (by decide)]]
              refine zV_aload_n (i := 0) (n := 112) C dX9_sheet_111 rfl rfl rfl ?_
              refine zV_getP (f := 16) (n := 115) C zk8 fX9_37 dX9_sheet_112 zs_ref rfl (by decide) rfl ?_
              refine zV_iload_n (i := 1) (n := 116) C dX9_sheet_115 rfl rfl rfl ?_
              refine zV_iald (n := 117) C dX9_sheet_116 zs_sizeOf (by first | omega | exact zb_rg) (by decide) rfl ?_
              rw [zset_ne (by decide), zset_at, zfu_at]
              exact zV_ireturn C hr hlk dX9_sheet_117 (by first | exact congrArg (fun z => some (Value.int (zi z))) (zif_t (by omega) (zif_f (by omega) (zif_f (by omega) rfl)))) (by exact zif_t (by omega) (zif_f (by omega) (zif_f (by omega) rfl)))
          · skip
            refine zV_aload_n (i := 0) (n := 54) C dX9_sheet_53 rfl rfl rfl ?_
            refine zV_ldc (n := 56) C dX9_sheet_54 kX9_51 rfl ?_
            refine zV_callV1u (n := 59) C zk8 jX9_finds lX9_75 (m_finds (d := d) (by omega)) dX9_sheet_56 zs_ref rfl (Nat.le_of_ble_eq_true rfl) (zfit_of (by omega) (by decide)) ⟨Nat.le_refl _, Nat.le_refl _⟩ rfl ?_
            exact zV_ireturn C hr hlk dX9_sheet_59 (by first | exact congrArg (fun z => some (Value.int (zi z))) (zif_f (by omega) rfl) | exact congrArg (fun z => some (Value.int (zi z))) (zif_t (by omega) (zif_t (by omega) rfl)) | exact congrArg (fun z => some (Value.int (zi z))) (zif_t (by omega) (zif_f (by omega) (zif_t (by omega) rfl))) | exact congrArg (fun z => some (Value.int (zi z))) (zif_t (by omega) (zif_f (by omega) (zif_f (by omega) rfl)))) (by first | exact zif_f (by omega) rfl | exact zif_t (by omega) (zif_t (by omega) rfl) | exact zif_t (by omega) (zif_f (by omega) (zif_t (by omega) rfl)) | exact zif_t (by omega) (zif_f (by omega) (zif_f (by omega) rfl)))
        · skip
          refine zV_aload_n (i := 0) (n := 41) C dX9_sheet_40 rfl rfl rfl ?_
          refine zV_ldc (n := 43) C dX9_sheet_41 kX9_170 rfl ?_
          refine zV_callV1u (n := 46) C zk8 jX9_finds lX9_75 (m_finds (d := d) (by omega)) dX9_sheet_43 zs_ref rfl (Nat.le_of_ble_eq_true rfl) (zfit_of (by omega) (by decide)) ⟨Nat.le_refl _, Nat.le_refl _⟩ rfl ?_
          exact zV_ireturn C hr hlk dX9_sheet_46 (by first | exact congrArg (fun z => some (Value.int (zi z))) (zif_f (by omega) rfl) | exact congrArg (fun z => some (Value.int (zi z))) (zif_t (by omega) (zif_t (by omega) rfl)) | exact congrArg (fun z => some (Value.int (zi z))) (zif_t (by omega) (zif_f (by omega) (zif_t (by omega) rfl))) | exact congrArg (fun z => some (Value.int (zi z))) (zif_t (by omega) (zif_f (by omega) (zif_f (by omega) rfl)))) (by first | exact zif_f (by omega) rfl | exact zif_t (by omega) (zif_t (by omega) rfl) | exact zif_t (by omega) (zif_f (by omega) (zif_t (by omega) rfl)) | exact zif_t (by omega) (zif_f (by omega) (zif_f (by omega) rfl)))
      · skip
        refine zV_iload_n (i := 2) (n := 18) C dX9_sheet_17 rfl rfl rfl ?_
        refine zV_bipush (n := 20) C dX9_sheet_18 (by decide) rfl ?_
        refine zV_icmp_eq (n := 23) C 36 dX9_sheet_20 (by decide) (by first | omega | exact zb_rg) (by first | omega | exact zb_rg) rfl (fun h20 => ?_) (fun h20 => ?_)
        · skip
          refine zV_iload_n (i := 3) (n := 37) C dX9_sheet_36 rfl rfl rfl ?_
          refine zV_if_ge (n := 40) C 47 dX9_sheet_37 (by decide) (by first | omega | exact zb_rg) rfl (fun h37 => ?_) (fun h37 => ?_)
          · skip
            refine zV_iload_n (i := 3) (n := 48) C dX9_sheet_47 rfl rfl rfl ?_
            refine zV_bipush (n := 50) C dX9_sheet_48 (by decide) rfl ?_
            refine zV_icmp_le (n := 53) C 60 dX9_sheet_50 (by decide) (by first | omega | exact zb_rg) (by first | omega | exact zb_rg) rfl (fun h50 => ?_) (fun h50 => ?_)
            · skip
              refine zV_aload_n (i := 0) (n := 61) C dX9_sheet_60 rfl rfl rfl ?_
              refine zV_getP (f := 15) (n := 64) C zk8 fX9_34 dX9_sheet_61 zs_ref rfl (by decide) rfl ?_
              refine zV_iload_n (i := 1) (n := 65) C dX9_sheet_64 rfl rfl rfl ?_
              refine zV_iload_n (i := 2) (n := 66) C dX9_sheet_65 rfl rfl rfl ?_
              refine zV_iast (n := 67) C dX9_sheet_66 zs_bitsOf (by first | omega | exact zb_rg) (by decide) rfl ?_
              rw [zup_zset]
              refine zV_aload_n (i := 0) (n := 68) C dX9_sheet_67 rfl rfl rfl ?_
              refine zV_getP (f := 16) (n := 71) C zk8 fX9_37 dX9_sheet_68 zs_ref rfl (by decide) rfl ?_
              refine zV_iload_n (i := 1) (n := 72) C dX9_sheet_71 rfl rfl rfl ?_
              refine zV_iload_n (i := 2) (n := 73) C dX9_sheet_72 rfl rfl rfl ?_
              refine zV_if_ne (n := 76) C 80 dX9_sheet_73 (by decide) (by first | omega | exact zb_rg) rfl (fun h73 => ?_) (fun h73 => ?_)
              · skip
                refine zV_iload_n (i := 3) (n := 81) C dX9_sheet_80 rfl rfl rfl ?_
                refine zV_iast (n := 82) C dX9_sheet_81 zs_sizeOf (by first | omega | exact zb_rg) (by decide) rfl ?_
                rw [zup_zset, zset_ne (by decide)]
                refine zV_iconst (n := 83) C dX9_sheet_82 rfl ?_
                refine zS_istore_5_4 (n := 85) C dX9_sheet_83 rfl rfl ?_
                refine zV_eqm (μ' := (zset (zset μ 5 9 (zfu (μ 5 9) j b)) 5 10 (zfu (μ 5 10) j (if b = 0 then 0 else n)))) (by first | rw [if_pos h73] | rw [if_neg h73]) ?_
                refine zV_eqm (μ' := zset (zset (zset μ 5 9 (zfu (μ 5 9) j b)) 5 10 (zfu (μ 5 10) j (if b = 0 then 0 else n))) 5 11 (fun i => if (40 * j) ≤ i ∧ i < (40 * j) + 0 then 0 else (zset (zset μ 5 9 (zfu (μ 5 9) j b)) 5 10 (zfu (μ 5 10) j (if b = 0 then 0 else n))) 5 11 i)) zst0.symm ?_
                refine m_sheet_loop (μ := (zset (zset μ 5 9 (zfu (μ 5 9) j b)) 5 10 (zfu (μ 5 10) j (if b = 0 then 0 else n)))) C (by omega) ?_ 40 0 (by omega) (by omega)
                rw [show (zset (zset μ 5 9 (zfu (μ 5 9) j b)) 5 10 (zfu (μ 5 10) j (if b = 0 then 0 else n))) 5 11 = (μ 5 11) from by rw [zset_ne (by decide), zset_ne (by decide)]]
                refine zV_aload_n (i := 0) (n := 112) C dX9_sheet_111 rfl rfl rfl ?_
                refine zV_getP (f := 16) (n := 115) C zk8 fX9_37 dX9_sheet_112 zs_ref rfl (by decide) rfl ?_
                refine zV_iload_n (i := 1) (n := 116) C dX9_sheet_115 rfl rfl rfl ?_
                refine zV_iald (n := 117) C dX9_sheet_116 zs_sizeOf (by first | omega | exact zb_rg) (by decide) rfl ?_
                rw [zset_ne (by decide), zset_at, zfu_at]
                exact zV_ireturn C hr hlk dX9_sheet_117 (by first | exact congrArg (fun z => some (Value.int (zi z))) (zif_t (by omega) (zif_f (by omega) (zif_f (by omega) rfl)))) (by exact zif_t (by omega) (zif_f (by omega) (zif_f (by omega) rfl)))
              · skip
                refine zV_iconst (n := 77) C dX9_sheet_76 rfl ?_
                refine zV_goto C 81 dX9_sheet_77 (by decide) ?_
                refine zV_iast (n := 82) C dX9_sheet_81 zs_sizeOf (by first | omega | exact zb_rg) (by decide) rfl ?_
                rw [zup_zset, zset_ne (by decide)]
                refine zV_iconst (n := 83) C dX9_sheet_82 rfl ?_
                refine zS_istore_5_4 (n := 85) C dX9_sheet_83 rfl rfl ?_
                refine zV_eqm (μ' := (zset (zset μ 5 9 (zfu (μ 5 9) j b)) 5 10 (zfu (μ 5 10) j (if b = 0 then 0 else n)))) (by first | rw [if_pos h73] | rw [if_neg h73]) ?_
                refine zV_eqm (μ' := zset (zset (zset μ 5 9 (zfu (μ 5 9) j b)) 5 10 (zfu (μ 5 10) j (if b = 0 then 0 else n))) 5 11 (fun i => if (40 * j) ≤ i ∧ i < (40 * j) + 0 then 0 else (zset (zset μ 5 9 (zfu (μ 5 9) j b)) 5 10 (zfu (μ 5 10) j (if b = 0 then 0 else n))) 5 11 i)) zst0.symm ?_
                refine m_sheet_loop (μ := (zset (zset μ 5 9 (zfu (μ 5 9) j b)) 5 10 (zfu (μ 5 10) j (if b = 0 then 0 else n)))) C (by omega) ?_ 40 0 (by omega) (by omega)
                rw [show (zset (zset μ 5 9 (zfu (μ 5 9) j b)) 5 10 (zfu (μ 5 10) j (if b = 0 then 0 else n))) 5 11 = (μ 5 11) from by rw [zset_ne (by decide), zset_ne (by decide)]]
                refine zV_aload_n (i := 0) (n := 112) C dX9_sheet_111 rfl rfl rfl ?_
                refine zV_getP (f := 16) (n := 115) C zk8 fX9_37 dX9_sheet_112 zs_ref rfl (by decide) rfl ?_
                refine zV_iload_n (i := 1) (n := 116) C dX9_sheet_115 rfl rfl rfl ?_
                refine zV_iald (n := 117) C dX9_sheet_116 zs_sizeOf (by first | omega | exact zb_rg) (by decide) rfl ?_
                rw [zset_ne (by decide), zset_at, zfu_at]
                exact zV_ireturn C hr hlk dX9_sheet_117 (by first | exact congrArg (fun z => some (Value.int (zi z))) (zif_t (by omega) (zif_f (by omega) (zif_f (by omega) rfl)))) (by exact zif_t (by omega) (zif_f (by omega) (zif_f (by omega) rfl)))
            · skip
              refine zV_aload_n (i := 0) (n := 54) C dX9_sheet_53 rfl rfl rfl ?_
              refine zV_ldc (n := 56) C dX9_sheet_54 kX9_51 rfl ?_
              refine zV_callV1u (n := 59) C zk8 jX9_finds lX9_75 (m_finds (d := d) (by omega)) dX9_sheet_56 zs_ref rfl (Nat.le_of_ble_eq_true rfl) (zfit_of (by omega) (by decide)) ⟨Nat.le_refl _, Nat.le_refl _⟩ rfl ?_
              exact zV_ireturn C hr hlk dX9_sheet_59 (by first | exact congrArg (fun z => some (Value.int (zi z))) (zif_f (by omega) rfl) | exact congrArg (fun z => some (Value.int (zi z))) (zif_t (by omega) (zif_t (by omega) rfl)) | exact congrArg (fun z => some (Value.int (zi z))) (zif_t (by omega) (zif_f (by omega) (zif_t (by omega) rfl))) | exact congrArg (fun z => some (Value.int (zi z))) (zif_t (by omega) (zif_f (by omega) (zif_f (by omega) rfl)))) (by first | exact zif_f (by omega) rfl | exact zif_t (by omega) (zif_t (by omega) rfl) | exact zif_t (by omega) (zif_f (by omega) (zif_t (by omega) rfl)) | exact zif_t (by omega) (zif_f (by omega) (zif_f (by omega) rfl)))
          · skip
            refine zV_aload_n (i := 0) (n := 41) C dX9_sheet_40 rfl rfl rfl ?_
            refine zV_ldc (n := 43) C dX9_sheet_41 kX9_170 rfl ?_
            refine zV_callV1u (n := 46) C zk8 jX9_finds lX9_75 (m_finds (d := d) (by omega)) dX9_sheet_43 zs_ref rfl (Nat.le_of_ble_eq_true rfl) (zfit_of (by omega) (by decide)) ⟨Nat.le_refl _, Nat.le_refl _⟩ rfl ?_
            exact zV_ireturn C hr hlk dX9_sheet_46 (by first | exact congrArg (fun z => some (Value.int (zi z))) (zif_f (by omega) rfl) | exact congrArg (fun z => some (Value.int (zi z))) (zif_t (by omega) (zif_t (by omega) rfl)) | exact congrArg (fun z => some (Value.int (zi z))) (zif_t (by omega) (zif_f (by omega) (zif_t (by omega) rfl))) | exact congrArg (fun z => some (Value.int (zi z))) (zif_t (by omega) (zif_f (by omega) (zif_f (by omega) rfl)))) (by first | exact zif_f (by omega) rfl | exact zif_t (by omega) (zif_t (by omega) rfl) | exact zif_t (by omega) (zif_f (by omega) (zif_t (by omega) rfl)) | exact zif_t (by omega) (zif_f (by omega) (zif_f (by omega) rfl)))
        · skip
          refine zV_iload_n (i := 2) (n := 24) C dX9_sheet_23 rfl rfl rfl ?_
          refine zV_bipush (n := 26) C dX9_sheet_24 (by decide) rfl ?_
          refine zV_icmp_eq (n := 29) C 36 dX9_sheet_26 (by decide) (by first | omega | exact zb_rg) (by first | omega | exact zb_rg) rfl (fun h26 => ?_) (fun h26 => ?_)
          · skip
            refine zV_iload_n (i := 3) (n := 37) C dX9_sheet_36 rfl rfl rfl ?_
            refine zV_if_ge (n := 40) C 47 dX9_sheet_37 (by decide) (by first | omega | exact zb_rg) rfl (fun h37 => ?_) (fun h37 => ?_)
            · skip
              refine zV_iload_n (i := 3) (n := 48) C dX9_sheet_47 rfl rfl rfl ?_
              refine zV_bipush (n := 50) C dX9_sheet_48 (by decide) rfl ?_
              refine zV_icmp_le (n := 53) C 60 dX9_sheet_50 (by decide) (by first | omega | exact zb_rg) (by first | omega | exact zb_rg) rfl (fun h50 => ?_) (fun h50 => ?_)
              · skip
                refine zV_aload_n (i := 0) (n := 61) C dX9_sheet_60 rfl rfl rfl ?_
                refine zV_getP (f := 15) (n := 64) C zk8 fX9_34 dX9_sheet_61 zs_ref rfl (by decide) rfl ?_
                refine zV_iload_n (i := 1) (n := 65) C dX9_sheet_64 rfl rfl rfl ?_
                refine zV_iload_n (i := 2) (n := 66) C dX9_sheet_65 rfl rfl rfl ?_
                refine zV_iast (n := 67) C dX9_sheet_66 zs_bitsOf (by first | omega | exact zb_rg) (by decide) rfl ?_
                rw [zup_zset]
                refine zV_aload_n (i := 0) (n := 68) C dX9_sheet_67 rfl rfl rfl ?_
                refine zV_getP (f := 16) (n := 71) C zk8 fX9_37 dX9_sheet_68 zs_ref rfl (by decide) rfl ?_
                refine zV_iload_n (i := 1) (n := 72) C dX9_sheet_71 rfl rfl rfl ?_
                refine zV_iload_n (i := 2) (n := 73) C dX9_sheet_72 rfl rfl rfl ?_
                refine zV_if_ne (n := 76) C 80 dX9_sheet_73 (by decide) (by first | omega | exact zb_rg) rfl (fun h73 => ?_) (fun h73 => ?_)
                · skip
                  refine zV_iload_n (i := 3) (n := 81) C dX9_sheet_80 rfl rfl rfl ?_
                  refine zV_iast (n := 82) C dX9_sheet_81 zs_sizeOf (by first | omega | exact zb_rg) (by decide) rfl ?_
                  rw [zup_zset, zset_ne (by decide)]
                  refine zV_iconst (n := 83) C dX9_sheet_82 rfl ?_
                  refine zS_istore_5_4 (n := 85) C dX9_sheet_83 rfl rfl ?_
                  refine zV_eqm (μ' := (zset (zset μ 5 9 (zfu (μ 5 9) j b)) 5 10 (zfu (μ 5 10) j (if b = 0 then 0 else n)))) (by first | rw [if_pos h73] | rw [if_neg h73]) ?_
                  refine zV_eqm (μ' := zset (zset (zset μ 5 9 (zfu (μ 5 9) j b)) 5 10 (zfu (μ 5 10) j (if b = 0 then 0 else n))) 5 11 (fun i => if (40 * j) ≤ i ∧ i < (40 * j) + 0 then 0 else (zset (zset μ 5 9 (zfu (μ 5 9) j b)) 5 10 (zfu (μ 5 10) j (if b = 0 then 0 else n))) 5 11 i)) zst0.symm ?_
                  refine m_sheet_loop (μ := (zset (zset μ 5 9 (zfu (μ 5 9) j b)) 5 10 (zfu (μ 5 10) j (if b = 0 then 0 else n)))) C (by omega) ?_ 40 0 (by omega) (by omega)
                  rw [show (zset (zset μ 5 9 (zfu (μ 5 9) j b)) 5 10 (zfu (μ 5 10) j (if b = 0 then 0 else n))) 5 11 = (μ 5 11) from by rw [zset_ne (by decide), zset_ne (by decide)]]
                  refine zV_aload_n (i := 0) (n := 112) C dX9_sheet_111 rfl rfl rfl ?_
                  refine zV_getP (f := 16) (n := 115) C zk8 fX9_37 dX9_sheet_112 zs_ref rfl (by decide) rfl ?_
                  refine zV_iload_n (i := 1) (n := 116) C dX9_sheet_115 rfl rfl rfl ?_
                  refine zV_iald (n := 117) C dX9_sheet_116 zs_sizeOf (by first | omega | exact zb_rg) (by decide) rfl ?_
                  rw [zset_ne (by decide), zset_at, zfu_at]
                  exact zV_ireturn C hr hlk dX9_sheet_117 (by first | exact congrArg (fun z => some (Value.int (zi z))) (zif_t (by omega) (zif_f (by omega) (zif_f (by omega) rfl)))) (by exact zif_t (by omega) (zif_f (by omega) (zif_f (by omega) rfl)))
                · skip
                  refine zV_iconst (n := 77) C dX9_sheet_76 rfl ?_
                  refine zV_goto C 81 dX9_sheet_77 (by decide) ?_
                  refine zV_iast (n := 82) C dX9_sheet_81 zs_sizeOf (by first | omega | exact zb_rg) (by decide) rfl ?_
                  rw [zup_zset, zset_ne (by decide)]
                  refine zV_iconst (n := 83) C dX9_sheet_82 rfl ?_
                  refine zS_istore_5_4 (n := 85) C dX9_sheet_83 rfl rfl ?_
                  refine zV_eqm (μ' := (zset (zset μ 5 9 (zfu (μ 5 9) j b)) 5 10 (zfu (μ 5 10) j (if b = 0 then 0 else n)))) (by first | rw [if_pos h73] | rw [if_neg h73]) ?_
                  refine zV_eqm (μ' := zset (zset (zset μ 5 9 (zfu (μ 5 9) j b)) 5 10 (zfu (μ 5 10) j (if b = 0 then 0 else n))) 5 11 (fun i => if (40 * j) ≤ i ∧ i < (40 * j) + 0 then 0 else (zset (zset μ 5 9 (zfu (μ 5 9) j b)) 5 10 (zfu (μ 5 10) j (if b = 0 then 0 else n))) 5 11 i)) zst0.symm ?_
                  refine m_sheet_loop (μ := (zset (zset μ 5 9 (zfu (μ 5 9) j b)) 5 10 (zfu (μ 5 10) j (if b = 0 then 0 else n)))) C (by omega) ?_ 40 0 (by omega) (by omega)
                  rw [show (zset (zset μ 5 9 (zfu (μ 5 9) j b)) 5 10 (zfu (μ 5 10) j (if b = 0 then 0 else n))) 5 11 = (μ 5 11) from by rw [zset_ne (by decide), zset_ne (by decide)]]
                  refine zV_aload_n (i := 0) (n := 112) C dX9_sheet_111 rfl rfl rfl ?_
                  refine zV_getP (f := 16) (n := 115) C zk8 fX9_37 dX9_sheet_112 zs_ref rfl (by decide) rfl ?_
                  refine zV_iload_n (i := 1) (n := 116) C dX9_sheet_115 rfl rfl rfl ?_
                  refine zV_iald (n := 117) C dX9_sheet_116 zs_sizeOf (by first | omega | exact zb_rg) (by decide) rfl ?_
                  rw [zset_ne (by decide), zset_at, zfu_at]
                  exact zV_ireturn C hr hlk dX9_sheet_117 (by first | exact congrArg (fun z => some (Value.int (zi z))) (zif_t (by omega) (zif_f (by omega) (zif_f (by omega) rfl)))) (by exact zif_t (by omega) (zif_f (by omega) (zif_f (by omega) rfl)))
              · skip
                refine zV_aload_n (i := 0) (n := 54) C dX9_sheet_53 rfl rfl rfl ?_
                refine zV_ldc (n := 56) C dX9_sheet_54 kX9_51 rfl ?_
                refine zV_callV1u (n := 59) C zk8 jX9_finds lX9_75 (m_finds (d := d) (by omega)) dX9_sheet_56 zs_ref rfl (Nat.le_of_ble_eq_true rfl) (zfit_of (by omega) (by decide)) ⟨Nat.le_refl _, Nat.le_refl _⟩ rfl ?_
                exact zV_ireturn C hr hlk dX9_sheet_59 (by first | exact congrArg (fun z => some (Value.int (zi z))) (zif_f (by omega) rfl) | exact congrArg (fun z => some (Value.int (zi z))) (zif_t (by omega) (zif_t (by omega) rfl)) | exact congrArg (fun z => some (Value.int (zi z))) (zif_t (by omega) (zif_f (by omega) (zif_t (by omega) rfl))) | exact congrArg (fun z => some (Value.int (zi z))) (zif_t (by omega) (zif_f (by omega) (zif_f (by omega) rfl)))) (by first | exact zif_f (by omega) rfl | exact zif_t (by omega) (zif_t (by omega) rfl) | exact zif_t (by omega) (zif_f (by omega) (zif_t (by omega) rfl)) | exact zif_t (by omega) (zif_f (by omega) (zif_f (by omega) rfl)))
            · skip
              refine zV_aload_n (i := 0) (n := 41) C dX9_sheet_40 rfl rfl rfl ?_
              refine zV_ldc (n := 43) C dX9_sheet_41 kX9_170 rfl ?_
              refine zV_callV1u (n := 46) C zk8 jX9_finds lX9_75 (m_finds (d := d) (by omega)) dX9_sheet_43 zs_ref rfl (Nat.le_of_ble_eq_true rfl) (zfit_of (by omega) (by decide)) ⟨Nat.le_refl _, Nat.le_refl _⟩ rfl ?_
              exact zV_ireturn C hr hlk dX9_sheet_46 (by first | exact congrArg (fun z => some (Value.int (zi z))) (zif_f (by omega) rfl) | exact congrArg (fun z => some (Value.int (zi z))) (zif_t (by omega) (zif_t (by omega) rfl)) | exact congrArg (fun z => some (Value.int (zi z))) (zif_t (by omega) (zif_f (by omega) (zif_t (by omega) rfl))) | exact congrArg (fun z => some (Value.int (zi z))) (zif_t (by omega) (zif_f (by omega) (zif_f (by omega) rfl)))) (by first | exact zif_f (by omega) rfl | exact zif_t (by omega) (zif_t (by omega) rfl) | exact zif_t (by omega) (zif_f (by omega) (zif_t (by omega) rfl)) | exact zif_t (by omega) (zif_f (by omega) (zif_f (by omega) rfl)))
          · skip
            refine zV_aload_n (i := 0) (n := 30) C dX9_sheet_29 rfl rfl rfl ?_
            refine zV_ldc (n := 32) C dX9_sheet_30 kX9_51 rfl ?_
            refine zV_callV1u (n := 35) C zk8 jX9_finds lX9_75 (m_finds (d := d) (by omega)) dX9_sheet_32 zs_ref rfl (Nat.le_of_ble_eq_true rfl) (zfit_of (by omega) (by decide)) ⟨Nat.le_refl _, Nat.le_refl _⟩ rfl ?_
            exact zV_ireturn C hr hlk dX9_sheet_35 (by first | exact congrArg (fun z => some (Value.int (zi z))) (zif_f (by omega) rfl) | exact congrArg (fun z => some (Value.int (zi z))) (zif_t (by omega) (zif_t (by omega) rfl)) | exact congrArg (fun z => some (Value.int (zi z))) (zif_t (by omega) (zif_f (by omega) (zif_t (by omega) rfl))) | exact congrArg (fun z => some (Value.int (zi z))) (zif_t (by omega) (zif_f (by omega) (zif_f (by omega) rfl)))) (by first | exact zif_f (by omega) rfl | exact zif_t (by omega) (zif_t (by omega) rfl) | exact zif_t (by omega) (zif_f (by omega) (zif_t (by omega) rfl)) | exact zif_t (by omega) (zif_f (by omega) (zif_f (by omega) rfl)))

set_option maxRecDepth 100000 in
set_option maxHeartbeats 4000000 in
theorem m_write {Γ : zC} {l : Launch} {d : Nat} {μ : zMem} (hS : rSh (μ 5 9) (μ 5 10) (μ 5 11)) {j : Int} (hj : -2147483648 ≤ j ∧ j ≤ 2147483647) {i : Int} (hi : -2147483648 ≤ i ∧ i ≤ 2147483647) {v : Int} (hv : -9223372036854775808 ≤ v ∧ v ≤ 9223372036854775807) : zRet Γ l (d + 3) qX9_write [.ref (za Γ 5 0), .int (zi j), .int (zi i), .long (zl v)] μ (some (.long (zl (if rWsh (μ 5 9) j = 0 then (if (0 ≤ i ∧ i ≤ (μ 5 10) j - 1) then (μ 5 11) (40 * j + i) else -1000000001) else rWsh (μ 5 9) j)))) (if rWsh (μ 5 9) j = 0 then (if (0 ≤ i ∧ i ≤ (μ 5 10) j - 1) then zset μ 5 11 (zfu (μ 5 11) (40 * j + i) (rNar ((μ 5 9) j) v)) else zset μ 5 5 (rFind (μ 5 5) (-1000000001))) else zset μ 5 5 (rFind (μ 5 5) (rWsh (μ 5 9) j))) := by
  refine zRet.mk 3 [.ref (za Γ 5 0), .int (zi j), .int (zi i), .long (zl v), .null, .null, .null, .null] RX9 rfl (by decide +kernel) (Nat.le_of_ble_eq_true rfl) rfl ?_
  intro p e s m below meth c C hr hlk
  have hw := rWsh_rg (μ 5 9) j
  refine zV_aload_n (i := 0) (n := 1) C dX9_write_0 rfl rfl rfl ?_
  refine zV_iload_n (i := 1) (n := 2) C dX9_write_1 rfl rfl rfl ?_
  refine zV_callV1u (n := 5) C zk8 jX9_wrongSheet lX9_302 (m_wrongSheet (d := d) hS (by omega)) dX9_write_2 zs_ref rfl (Nat.le_of_ble_eq_true rfl) (zfit_of (by omega) (by decide)) ⟨Nat.le_refl _, Nat.le_refl _⟩ rfl ?_
  refine zS_istore_8_5 (n := 7) C dX9_write_5 rfl rfl ?_
  refine zV_iload (n := 9) C dX9_write_7 rfl rfl ?_
  refine zV_if_eq (n := 12) C 20 dX9_write_9 (by decide) (by first | omega | exact zb_rg) rfl (fun h9 => ?_) (fun h9 => ?_)
  · skip
    have hj := rWsh_0 h9
    have hq := hS.1 j hj.1.1 hj.1.2
    refine zV_iload_n (i := 2) (n := 21) C dX9_write_20 rfl rfl rfl ?_
    refine zV_i2l (n := 22) C dX9_write_21 (by first | omega | exact zb_rg) rfl ?_
    refine zV_lconst (v := 0) (n := 23) C dX9_write_22 rfl rfl ?_
    refine zV_aload_n (i := 0) (n := 24) C dX9_write_23 rfl rfl rfl ?_
    refine zV_getP (f := 16) (n := 27) C zk8 fX9_37 dX9_write_24 zs_ref rfl (by decide) rfl ?_
    refine zV_iload_n (i := 1) (n := 28) C dX9_write_27 rfl rfl rfl ?_
    refine zV_iald (n := 29) C dX9_write_28 zs_sizeOf (by first | omega | exact zb_rg) (by decide) rfl ?_
    refine zV_iconst (n := 30) C dX9_write_29 rfl ?_
    refine zV_isub (n := 31) C dX9_write_30 rfl ?_
    refine zV_i2l (n := 32) C dX9_write_31 (by first | omega | exact zb_rg) rfl ?_
    refine zV_callS3u (n := 35) C jX9_in lX9_54 (m_in (d := d) (by omega) (by omega) (by omega)) dX9_write_32 (Nat.le_of_ble_eq_true rfl) (zfit_of (by omega) (by decide)) ⟨Nat.le_refl _, Nat.le_refl _⟩ rfl ?_
    refine zV_if_ne (n := 38) C 46 dX9_write_35 (by decide) (by first | omega | exact zb_rg) rfl (fun h35 => ?_) (fun h35 => ?_)
    · skip
      simp only [zb_eq0, Decidable.not_not] at h35
      refine zV_aload_n (i := 0) (n := 47) C dX9_write_46 rfl rfl rfl ?_
      refine zV_getP (f := 17) (n := 50) C zk8 fX9_40 dX9_write_47 zs_ref rfl (by decide) rfl ?_
      refine zV_bipush (n := 52) C dX9_write_50 (by decide) rfl ?_
      refine zV_iload_n (i := 1) (n := 53) C dX9_write_52 rfl rfl rfl ?_
      refine zV_imul (n := 54) C dX9_write_53 rfl ?_
      refine zV_iload_n (i := 2) (n := 55) C dX9_write_54 rfl rfl rfl ?_
      refine zV_iadd (n := 56) C dX9_write_55 rfl ?_
      refine zV_lald (n := 57) C dX9_write_56 zs_numbers (by first | omega | exact zb_rg) (by decide) rfl ?_
      refine zS_lstore_8_6 (n := 59) C dX9_write_57 rfl rfl ?_
      refine zV_aload_n (i := 0) (n := 60) C dX9_write_59 rfl rfl rfl ?_
      refine zV_getP (f := 17) (n := 63) C zk8 fX9_40 dX9_write_60 zs_ref rfl (by decide) rfl ?_
      refine zV_bipush (n := 65) C dX9_write_63 (by decide) rfl ?_
      refine zV_iload_n (i := 1) (n := 66) C dX9_write_65 rfl rfl rfl ?_
      refine zV_imul (n := 67) C dX9_write_66 rfl ?_
      refine zV_iload_n (i := 2) (n := 68) C dX9_write_67 rfl rfl rfl ?_
      refine zV_iadd (n := 69) C dX9_write_68 rfl ?_
      refine zV_aload_n (i := 0) (n := 70) C dX9_write_69 rfl rfl rfl ?_
      refine zV_getP (f := 15) (n := 73) C zk8 fX9_34 dX9_write_70 zs_ref rfl (by decide) rfl ?_
      refine zV_iload_n (i := 1) (n := 74) C dX9_write_73 rfl rfl rfl ?_
      refine zV_iald (n := 75) C dX9_write_74 zs_bitsOf (by first | omega | exact zb_rg) (by decide) rfl ?_
      refine zV_lload_n (i := 3) (n := 76) C dX9_write_75 rfl rfl rfl ?_
      refine zV_callS2u (n := 79) C jX9_narrowed lX9_305 (m_narrowed (d := d) (by omega) (by omega)) dX9_write_76 (Nat.le_of_ble_eq_true rfl) (zfit_of (by omega) (by decide)) ⟨Nat.le_refl _, Nat.le_refl _⟩ rfl ?_
      refine zV_last (n := 80) C dX9_write_79 zs_numbers (by first | omega | exact zb_rg) (by decide) rfl ?_
      rw [zup_zset]
      refine zV_lload (n := 82) C dX9_write_80 rfl rfl ?_
      exact zV_lreturn C hr hlk dX9_write_82 (by first | exact congrArg (fun z => some (Value.long (zl z))) (zif_t (by omega) (zif_t (by omega) (rfl))) | exact congrArg (fun z => some (Value.long (zl z))) (zif_t (by omega) (zif_f (by omega) rfl)) | exact congrArg (fun z => some (Value.long (zl z))) (zif_f (by omega) rfl)) (by first | exact zif_t (by omega) (zif_t (by omega) (rfl)) | exact zif_t (by omega) (zif_f (by omega) rfl) | exact zif_f (by omega) rfl)
    · skip
      simp only [zb_eq0, Decidable.not_not] at h35
      refine zV_aload_n (i := 0) (n := 39) C dX9_write_38 rfl rfl rfl ?_
      refine zV_ldc (n := 41) C dX9_write_39 kX9_51 rfl ?_
      refine zV_callV1u (n := 44) C zk8 jX9_finds lX9_75 (m_finds (d := d) (by omega)) dX9_write_41 zs_ref rfl (Nat.le_of_ble_eq_true rfl) (zfit_of (by omega) (by decide)) ⟨Nat.le_refl _, Nat.le_refl _⟩ rfl ?_
      refine zV_i2l (n := 45) C dX9_write_44 (by first | omega | exact zb_rg) rfl ?_
      exact zV_lreturn C hr hlk dX9_write_45 (by first | exact congrArg (fun z => some (Value.long (zl z))) (zif_t (by omega) (zif_t (by omega) (rfl))) | exact congrArg (fun z => some (Value.long (zl z))) (zif_t (by omega) (zif_f (by omega) rfl)) | exact congrArg (fun z => some (Value.long (zl z))) (zif_f (by omega) rfl)) (by first | exact zif_t (by omega) (zif_t (by omega) (rfl)) | exact zif_t (by omega) (zif_f (by omega) rfl) | exact zif_f (by omega) rfl)
  · skip
    refine zV_aload_n (i := 0) (n := 13) C dX9_write_12 rfl rfl rfl ?_
    refine zV_iload (n := 15) C dX9_write_13 rfl rfl ?_
    refine zV_callV1u (n := 18) C zk8 jX9_finds lX9_75 (m_finds (d := d) (by omega)) dX9_write_15 zs_ref rfl (Nat.le_of_ble_eq_true rfl) (zfit_of (by omega) (by decide)) ⟨Nat.le_refl _, Nat.le_refl _⟩ rfl ?_
    refine zV_i2l (n := 19) C dX9_write_18 (by first | omega | exact zb_rg) rfl ?_
    exact zV_lreturn C hr hlk dX9_write_19 (by first | exact congrArg (fun z => some (Value.long (zl z))) (zif_t (by omega) (zif_t (by omega) (rfl))) | exact congrArg (fun z => some (Value.long (zl z))) (zif_t (by omega) (zif_f (by omega) rfl)) | exact congrArg (fun z => some (Value.long (zl z))) (zif_f (by omega) rfl)) (by first | exact zif_t (by omega) (zif_t (by omega) (rfl)) | exact zif_t (by omega) (zif_f (by omega) rfl) | exact zif_f (by omega) rfl)

