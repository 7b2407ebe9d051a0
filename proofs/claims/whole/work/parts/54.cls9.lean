/-! the class: its tape (laid by wip/whole/gen/cls9.py) -/
set_option maxRecDepth 100000 in
set_option maxHeartbeats 4000000 in
theorem c_byteAt {Γ : zC} {l : Launch} {d : Nat} {μ : zMem} (hT : tapeOk (μ 4 3) (μ 4 2 1)) {i : Int} (hi : 0 ≤ i ∧ i ≤ 200) : zRet Γ l (d + 0) qX6_byteAt [.ref (za Γ 4 2), .int (zi i)] μ (some (.int (zi (bA (μ 4 3) (μ 4 2 1) i)))) μ := by
  refine zRet.mk 0 [.ref (za Γ 4 2), .int (zi i)] RX6 rfl (by decide +kernel) (Nat.le_of_ble_eq_true rfl) rfl ?_
  intro p e s m below meth c C hr hlk
  have hn := hT.1
  refine zV_iload_n (i := 1) (n := 1) C dX6_byteAt_0 rfl rfl rfl ?_
  refine zV_if_lt (n := 4) C 27 dX6_byteAt_1 (by decide) (by first | omega | exact zb_rg) rfl (fun h => by exfalso; first | omega | exact zb_rg) (fun h1 => ?_)
  refine zV_iload_n (i := 1) (n := 5) C dX6_byteAt_4 rfl rfl rfl ?_
  refine zV_aload_n (i := 0) (n := 6) C dX6_byteAt_5 rfl rfl rfl ?_
  refine zV_getI (f := 1) (fi := 1) (n := 9) C zk5 fX6_15 dX6_byteAt_6 zs_tape rfl (by decide) rfl rfl ?_
  refine zV_icmp_ge (n := 12) C 27 dX6_byteAt_9 (by decide) (by first | omega | exact zb_rg) (by first | omega | exact zb_rg) rfl (fun h9 => ?_) (fun h9 => ?_)
  · skip
    refine zV_iconst (n := 28) C dX6_byteAt_27 rfl ?_
    exact zV_ireturn C hr hlk dX6_byteAt_28 (by first | exact congrArg (fun z => some (Value.int (zi z))) ((if_pos (by omega)).symm) | exact congrArg (fun z => some (Value.int (zi z))) ((if_neg (by omega)).symm)) (by rfl)
  · skip
    refine zV_iload_n (i := 1) (n := 13) C dX6_byteAt_12 rfl rfl rfl ?_
    refine zV_bipush (n := 15) C dX6_byteAt_13 (by decide) rfl ?_
    refine zV_icmp_ge (n := 18) C 27 dX6_byteAt_15 (by decide) (by first | omega | exact zb_rg) (by first | omega | exact zb_rg) rfl (fun h => by exfalso; first | omega | exact zb_rg) (fun h15 => ?_)
    refine zV_aload_n (i := 0) (n := 19) C dX6_byteAt_18 rfl rfl rfl ?_
    refine zV_getP (f := 0) (n := 22) C zk5 fX6_9 dX6_byteAt_19 zs_tape rfl (by decide) rfl ?_
    refine zV_iload_n (i := 1) (n := 23) C dX6_byteAt_22 rfl rfl rfl ?_
    refine zV_iald (n := 24) C dX6_byteAt_23 zs_byt (by first | omega | exact zb_rg) (by decide) rfl ?_
    refine zV_goto C 28 dX6_byteAt_24 (by decide) ?_
    exact zV_ireturn C hr hlk dX6_byteAt_28 (by first | exact congrArg (fun z => some (Value.int (zi z))) ((if_pos (by omega)).symm) | exact congrArg (fun z => some (Value.int (zi z))) ((if_neg (by omega)).symm)) (by rfl)

set_option maxRecDepth 100000 in
set_option maxHeartbeats 4000000 in
theorem c_tokenWith {Γ : zC} {l : Launch} {d : Nat} {μ : zMem} {b : Int} (hb : -1 ≤ b ∧ b ≤ 255) : zRet Γ l (d + 0) qX6_tokenWith [.int (zi b)] μ (some (.int (zi (tk b)))) μ := by
  refine zRet.mk 0 [.int (zi b)] RX6 rfl (by decide +kernel) (Nat.le_of_ble_eq_true rfl) rfl ?_
  intro p e s m below meth c C hr hlk
  refine zV_iload_n (i := 0) (n := 1) C dX6_tokenWith_0 rfl rfl rfl ?_
  refine zV_if_ge (n := 4) C 6 dX6_tokenWith_1 (by decide) (by first | omega | exact zb_rg) rfl (fun h1 => ?_) (fun h1 => ?_)
  · skip
    refine zV_iload_n (i := 0) (n := 7) C dX6_tokenWith_6 rfl rfl rfl ?_
    refine zV_bipush (n := 9) C dX6_tokenWith_7 (by decide) rfl ?_
    refine zV_icmp_lt (n := 12) C 20 dX6_tokenWith_9 (by decide) (by first | omega | exact zb_rg) (by first | omega | exact zb_rg) rfl (fun h9 => ?_) (fun h9 => ?_)
    · skip
      refine zV_iload_n (i := 0) (n := 21) C dX6_tokenWith_20 rfl rfl rfl ?_
      refine zV_bipush (n := 23) C dX6_tokenWith_21 (by decide) rfl ?_
      refine zV_icmp_lt (n := 26) C 34 dX6_tokenWith_23 (by decide) (by first | omega | exact zb_rg) (by first | omega | exact zb_rg) rfl (fun h23 => ?_) (fun h23 => ?_)
      · skip
        refine zV_iload_n (i := 0) (n := 35) C dX6_tokenWith_34 rfl rfl rfl ?_
        refine zV_bipush (n := 37) C dX6_tokenWith_35 (by decide) rfl ?_
        refine zV_icmp_ne (n := 40) C 44 dX6_tokenWith_37 (by decide) (by first | omega | exact zb_rg) (by first | omega | exact zb_rg) rfl (fun h37 => ?_) (fun h37 => ?_)
        · skip
          refine zV_iconst (n := 45) C dX6_tokenWith_44 rfl ?_
          exact zV_ireturn C hr hlk dX6_tokenWith_45 (by exact congrArg (fun z => some (Value.int (zi z))) (by unfold tk; (repeat' split) <;> omega)) (by rfl)
        · skip
          refine zV_iconst (n := 41) C dX6_tokenWith_40 rfl ?_
          refine zV_goto C 45 dX6_tokenWith_41 (by decide) ?_
          exact zV_ireturn C hr hlk dX6_tokenWith_45 (by exact congrArg (fun z => some (Value.int (zi z))) (by unfold tk; (repeat' split) <;> omega)) (by rfl)
      · skip
        refine zV_iload_n (i := 0) (n := 27) C dX6_tokenWith_26 rfl rfl rfl ?_
        refine zV_bipush (n := 29) C dX6_tokenWith_27 (by decide) rfl ?_
        refine zV_icmp_gt (n := 32) C 34 dX6_tokenWith_29 (by decide) (by first | omega | exact zb_rg) (by first | omega | exact zb_rg) rfl (fun h29 => ?_) (fun h29 => ?_)
        · skip
          refine zV_iload_n (i := 0) (n := 35) C dX6_tokenWith_34 rfl rfl rfl ?_
          refine zV_bipush (n := 37) C dX6_tokenWith_35 (by decide) rfl ?_
          refine zV_icmp_ne (n := 40) C 44 dX6_tokenWith_37 (by decide) (by first | omega | exact zb_rg) (by first | omega | exact zb_rg) rfl (fun h37 => ?_) (fun h37 => ?_)
          · skip
            refine zV_iconst (n := 45) C dX6_tokenWith_44 rfl ?_
            exact zV_ireturn C hr hlk dX6_tokenWith_45 (by exact congrArg (fun z => some (Value.int (zi z))) (by unfold tk; (repeat' split) <;> omega)) (by rfl)
          · skip
            refine zV_iconst (n := 41) C dX6_tokenWith_40 rfl ?_
            refine zV_goto C 45 dX6_tokenWith_41 (by decide) ?_
            exact zV_ireturn C hr hlk dX6_tokenWith_45 (by exact congrArg (fun z => some (Value.int (zi z))) (by unfold tk; (repeat' split) <;> omega)) (by rfl)
        · skip
          refine zV_iconst (n := 33) C dX6_tokenWith_32 rfl ?_
          exact zV_ireturn C hr hlk dX6_tokenWith_33 (by exact congrArg (fun z => some (Value.int (zi z))) (by unfold tk; (repeat' split) <;> omega)) (by rfl)
    · skip
      refine zV_iload_n (i := 0) (n := 13) C dX6_tokenWith_12 rfl rfl rfl ?_
      refine zV_bipush (n := 15) C dX6_tokenWith_13 (by decide) rfl ?_
      refine zV_icmp_gt (n := 18) C 20 dX6_tokenWith_15 (by decide) (by first | omega | exact zb_rg) (by first | omega | exact zb_rg) rfl (fun h15 => ?_) (fun h15 => ?_)
      · skip
        refine zV_iload_n (i := 0) (n := 21) C dX6_tokenWith_20 rfl rfl rfl ?_
        refine zV_bipush (n := 23) C dX6_tokenWith_21 (by decide) rfl ?_
        refine zV_icmp_lt (n := 26) C 34 dX6_tokenWith_23 (by decide) (by first | omega | exact zb_rg) (by first | omega | exact zb_rg) rfl (fun h23 => ?_) (fun h23 => ?_)
        · skip
          refine zV_iload_n (i := 0) (n := 35) C dX6_tokenWith_34 rfl rfl rfl ?_
          refine zV_bipush (n := 37) C dX6_tokenWith_35 (by decide) rfl ?_
          refine zV_icmp_ne (n := 40) C 44 dX6_tokenWith_37 (by decide) (by first | omega | exact zb_rg) (by first | omega | exact zb_rg) rfl (fun h37 => ?_) (fun h37 => ?_)
          · skip
            refine zV_iconst (n := 45) C dX6_tokenWith_44 rfl ?_
            exact zV_ireturn C hr hlk dX6_tokenWith_45 (by exact congrArg (fun z => some (Value.int (zi z))) (by unfold tk; (repeat' split) <;> omega)) (by rfl)
          · skip
            refine zV_iconst (n := 41) C dX6_tokenWith_40 rfl ?_
            refine zV_goto C 45 dX6_tokenWith_41 (by decide) ?_
            exact zV_ireturn C hr hlk dX6_tokenWith_45 (by exact congrArg (fun z => some (Value.int (zi z))) (by unfold tk; (repeat' split) <;> omega)) (by rfl)
        · skip
          refine zV_iload_n (i := 0) (n := 27) C dX6_tokenWith_26 rfl rfl rfl ?_
          refine zV_bipush (n := 29) C dX6_tokenWith_27 (by decide) rfl ?_
          refine zV_icmp_gt (n := 32) C 34 dX6_tokenWith_29 (by decide) (by first | omega | exact zb_rg) (by first | omega | exact zb_rg) rfl (fun h29 => ?_) (fun h29 => ?_)
          · skip
            refine zV_iload_n (i := 0) (n := 35) C dX6_tokenWith_34 rfl rfl rfl ?_
            refine zV_bipush (n := 37) C dX6_tokenWith_35 (by decide) rfl ?_
            refine zV_icmp_ne (n := 40) C 44 dX6_tokenWith_37 (by decide) (by first | omega | exact zb_rg) (by first | omega | exact zb_rg) rfl (fun h37 => ?_) (fun h37 => ?_)
            · skip
              refine zV_iconst (n := 45) C dX6_tokenWith_44 rfl ?_
              exact zV_ireturn C hr hlk dX6_tokenWith_45 (by exact congrArg (fun z => some (Value.int (zi z))) (by unfold tk; (repeat' split) <;> omega)) (by rfl)
            · skip
              refine zV_iconst (n := 41) C dX6_tokenWith_40 rfl ?_
              refine zV_goto C 45 dX6_tokenWith_41 (by decide) ?_
              exact zV_ireturn C hr hlk dX6_tokenWith_45 (by exact congrArg (fun z => some (Value.int (zi z))) (by unfold tk; (repeat' split) <;> omega)) (by rfl)
          · skip
            refine zV_iconst (n := 33) C dX6_tokenWith_32 rfl ?_
            exact zV_ireturn C hr hlk dX6_tokenWith_33 (by exact congrArg (fun z => some (Value.int (zi z))) (by unfold tk; (repeat' split) <;> omega)) (by rfl)
      · skip
        refine zV_iconst (n := 19) C dX6_tokenWith_18 rfl ?_
        exact zV_ireturn C hr hlk dX6_tokenWith_19 (by exact congrArg (fun z => some (Value.int (zi z))) (by unfold tk; (repeat' split) <;> omega)) (by rfl)
  · skip
    refine zV_iconst (n := 5) C dX6_tokenWith_4 rfl ?_
    exact zV_ireturn C hr hlk dX6_tokenWith_5 (by exact congrArg (fun z => some (Value.int (zi z))) (by unfold tk; (repeat' split) <;> omega)) (by rfl)

set_option maxRecDepth 100000 in
set_option maxHeartbeats 4000000 in
theorem c_next_sk {Γ : zC} {l : Launch} {d : Nat} {p : Program} {e : Env} {s : State} {m : MethodId} {args : Array Value} {below : List Frame} {meth : Method} {c : Code} {Q : State → Prop} (C : zCx Γ (zAA Γ) p s m args c RX6 cX6_next 3) {μ : zMem} (hT : tapeOk (μ 4 3) (μ 4 2 1)) {tok t v fl : Int} {v2 : Value} :
    ∀ (i : Nat) (e9 c9 : Int) (h0 : 0 ≤ e9) (hi : e9 + i = (μ 4 2 1)) (hc : 0 ≤ c9 ∧ c9 + i ≤ 120) (KK : ∀ v1 : Value, zV Γ (zAA Γ) p l e (zRm (d + 1)) s m args below meth c 0 0 Q 45 [.ref (za Γ 4 2), v1, v2] [] (zq μ tok (sk (μ 4 3) (μ 4 2 1) i e9) t v fl)), zV Γ (zAA Γ) p l e (zRm (d + 1)) s m args below meth c 0 0 Q 10 [.ref (za Γ 4 2), .int (zi c9), v2] [] (zq μ tok e9 t v fl) := by
  intro i
  induction i with
  | zero =>
    intro e9 c9 h0 hi hc KK
    have hn := hT.1
    have hb := bA_rg (i := e9) hT h0
    refine zV_iload_n (i := 1) (n := 11) C dX6_next_10 rfl rfl rfl ?_
    refine zV_bipush (n := 13) C dX6_next_11 (by decide) rfl ?_
    refine zV_icmp_ge (n := 16) C 45 dX6_next_13 (by decide) (by first | omega | exact zb_rg) (by first | omega | exact zb_rg) rfl (fun h13 => ?_) (fun h13 => ?_)
    · skip
      exact KK _
    · skip
      refine zV_aload_n (i := 0) (n := 17) C dX6_next_16 rfl rfl rfl ?_
      refine zV_aload_n (i := 0) (n := 18) C dX6_next_17 rfl rfl rfl ?_
      refine zV_getI (f := 3) (fi := 3) (n := 21) C zk5 fX6_22 dX6_next_18 zs_tape rfl (by decide) rfl rfl ?_
      rw [zq_f]
      refine zV_callV1u (n := 24) C zk5 jX6_byteAt lX6_34 (c_byteAt (d := d) (μ := (zq μ tok e9 t v fl)) (show tapeOk ((zq μ tok e9 t v fl) 4 3) ((zq μ tok e9 t v fl) 4 2 1) from hT) (by omega)) dX6_next_21 zs_tape rfl (Nat.le_of_ble_eq_true rfl) (zfit_of (by omega) (by decide)) ⟨Nat.le_refl _, Nat.le_refl _⟩ rfl ?_
      rw [zq_T, zq_n]
      refine zV_bipush (n := 26) C dX6_next_24 (by decide) rfl ?_
      refine zV_icmp_ne (n := 29) C 45 dX6_next_26 (by decide) (by first | omega | exact zb_rg) (by first | omega | exact zb_rg) rfl (fun h26 => ?_) (fun h => by exfalso; first | omega | exact zb_rg)
      exact KK _
  | succ i ih =>
    intro e9 c9 h0 hi hc KK
    have hn := hT.1
    have hb := bA_rg (i := e9) hT h0
    unfold sk at KK
    refine zV_iload_n (i := 1) (n := 11) C dX6_next_10 rfl rfl rfl ?_
    refine zV_bipush (n := 13) C dX6_next_11 (by decide) rfl ?_
    refine zV_icmp_ge (n := 16) C 45 dX6_next_13 (by decide) (by first | omega | exact zb_rg) (by first | omega | exact zb_rg) rfl (fun h => by exfalso; first | omega | exact zb_rg) (fun h13 => ?_)
    refine zV_aload_n (i := 0) (n := 17) C dX6_next_16 rfl rfl rfl ?_
    refine zV_aload_n (i := 0) (n := 18) C dX6_next_17 rfl rfl rfl ?_
    refine zV_getI (f := 3) (fi := 3) (n := 21) C zk5 fX6_22 dX6_next_18 zs_tape rfl (by decide) rfl rfl ?_
    rw [zq_f]
    refine zV_callV1u (n := 24) C zk5 jX6_byteAt lX6_34 (c_byteAt (d := d) (μ := (zq μ tok e9 t v fl)) (show tapeOk ((zq μ tok e9 t v fl) 4 3) ((zq μ tok e9 t v fl) 4 2 1) from hT) (by omega)) dX6_next_21 zs_tape rfl (Nat.le_of_ble_eq_true rfl) (zfit_of (by omega) (by decide)) ⟨Nat.le_refl _, Nat.le_refl _⟩ rfl ?_
    rw [zq_T, zq_n]
    refine zV_bipush (n := 26) C dX6_next_24 (by decide) rfl ?_
    refine zV_icmp_ne (n := 29) C 45 dX6_next_26 (by decide) (by first | omega | exact zb_rg) (by first | omega | exact zb_rg) rfl (fun h26 => ?_) (fun h26 => ?_)
    · skip
      rw [if_neg h26] at KK; exact KK _
    · skip
      refine zV_aload_n (i := 0) (n := 30) C dX6_next_29 rfl rfl rfl ?_
      refine zV_dup (n := 31) C dX6_next_30 rfl rfl ?_
      refine zV_getI (f := 3) (fi := 3) (n := 34) C zk5 fX6_22 dX6_next_31 zs_tape rfl (by decide) rfl rfl ?_
      rw [zq_f]
      refine zV_iconst (n := 35) C dX6_next_34 rfl ?_
      refine zV_iadd (n := 36) C dX6_next_35 rfl ?_
      refine zV_putI (f := 3) (fi := 3) (n := 39) C zk5 fX6_22 dX6_next_36 zs_tape rfl (by decide) rfl rfl rfl rfl ?_
      rw [zqu_f]
      refine zS_iinc_3_1 (n := 42) C dX6_next_39 rfl rfl ?_
      refine zV_goto C 10 dX6_next_42 (by decide) ?_
      rw [if_pos h26] at KK; exact ih (e9 + 1) (c9 + 1) (by omega) (by omega) (by omega) KK

theorem vlC_s {T : Int → Int} {X e u : Int} (h : e + 1 ≤ X) : vlC T (X - e).toNat e u = vlC T (X - (e + 1)).toNat (e + 1) (zmin 1000 (10 * u + T e - 48)) := by
  rw [show (X - e).toNat = (X - (e + 1)).toNat + 1 from by omega]
  rfl
set_option maxRecDepth 100000 in
set_option maxHeartbeats 4000000 in
theorem c_next_xw {Γ : zC} {l : Launch} {d : Nat} {p : Program} {e : Env} {s : State} {m : MethodId} {args : Array Value} {below : List Frame} {meth : Method} {c : Code} {Q : State → Prop} (C : zCx Γ (zAA Γ) p s m args c RX6 cX6_next 3) {μ : zMem} (hT : tapeOk (μ 4 3) (μ 4 2 1)) {K f fl : Int} (hK : K = 1) :
    ∀ (i : Nat) (e9 c9 : Int) (h0 : 0 ≤ e9) (hi : e9 + i = (μ 4 2 1)) (hc : 0 ≤ c9 ∧ c9 + i ≤ 120) (KK : ∀ v2 : Value, zV Γ (zAA Γ) p l e (zRm (d + 1)) s m args below meth c 0 0 Q 220 [.ref (za Γ 4 2), .int (zi 1), v2] [] (zq μ K f (xt (μ 4 3) (μ 4 2 1) K i e9) 0 fl)), zV Γ (zAA Γ) p l e (zRm (d + 1)) s m args below meth c 0 0 Q 135 [.ref (za Γ 4 2), .int (zi 1), .int (zi c9)] [] (zq μ K f e9 0 fl) := by
  intro i
  induction i with
  | zero =>
    intro e9 c9 h0 hi hc KK
    have hn := hT.1
    have hb := bA_rg (i := e9) hT h0
    have hk9 := tk_rg (bA (μ 4 3) (μ 4 2 1) e9)
    have et0 : ¬ tk (bA (μ 4 3) (μ 4 2 1) e9) = K := fun q => by have := tk0 (b := bA (μ 4 3) (μ 4 2 1) e9); omega
    refine zV_iload_n (i := 2) (n := 136) C dX6_next_135 rfl rfl rfl ?_
    refine zV_bipush (n := 138) C dX6_next_136 (by decide) rfl ?_
    refine zV_icmp_ge (n := 141) C 220 dX6_next_138 (by decide) (by first | omega | exact zb_rg) (by first | omega | exact zb_rg) rfl (fun h138 => ?_) (fun h138 => ?_)
    · skip
      exact KK _
    · skip
      refine zV_iload_n (i := 1) (n := 142) C dX6_next_141 rfl rfl rfl ?_
      refine zV_if_eq (n := 145) C 220 dX6_next_142 (by decide) (by first | omega | exact zb_rg) rfl (fun h => by exfalso; first | omega | exact zb_rg) (fun h142 => ?_)
      refine zV_aload_n (i := 0) (n := 146) C dX6_next_145 rfl rfl rfl ?_
      refine zV_aload_n (i := 0) (n := 147) C dX6_next_146 rfl rfl rfl ?_
      refine zV_getI (f := 4) (fi := 4) (n := 150) C zk5 fX6_25 dX6_next_147 zs_tape rfl (by decide) rfl rfl ?_
      rw [zq_t]
      refine zV_callV1u (n := 153) C zk5 jX6_byteAt lX6_34 (c_byteAt (d := d) (μ := (zq μ K f e9 0 fl)) (show tapeOk ((zq μ K f e9 0 fl) 4 3) ((zq μ K f e9 0 fl) 4 2 1) from hT) (by omega)) dX6_next_150 zs_tape rfl (Nat.le_of_ble_eq_true rfl) (zfit_of (by omega) (by decide)) ⟨Nat.le_refl _, Nat.le_refl _⟩ rfl ?_
      rw [zq_T, zq_n]
      refine zV_callS1u (n := 156) C jX6_tokenWith lX6_38 (c_tokenWith (d := d) (by omega)) dX6_next_153 (Nat.le_of_ble_eq_true rfl) (zfit_of (by omega) (by decide)) ⟨Nat.le_refl _, Nat.le_refl _⟩ rfl ?_
      refine zV_aload_n (i := 0) (n := 157) C dX6_next_156 rfl rfl rfl ?_
      refine zV_getI (f := 2) (fi := 2) (n := 160) C zk5 fX6_19 dX6_next_157 zs_tape rfl (by decide) rfl rfl ?_
      rw [zq_k]
      refine zV_icmp_ne (n := 163) C 220 dX6_next_160 (by decide) (by first | omega | exact zb_rg) (by first | omega | exact zb_rg) rfl (fun h160 => ?_) (fun h => by exfalso; first | omega | exact zb_rg)
      exact KK _
  | succ i ih =>
    intro e9 c9 h0 hi hc KK
    have hn := hT.1
    have hb := bA_rg (i := e9) hT h0
    have hk9 := tk_rg (bA (μ 4 3) (μ 4 2 1) e9)
    unfold xt at KK
    refine zV_iload_n (i := 2) (n := 136) C dX6_next_135 rfl rfl rfl ?_
    refine zV_bipush (n := 138) C dX6_next_136 (by decide) rfl ?_
    refine zV_icmp_ge (n := 141) C 220 dX6_next_138 (by decide) (by first | omega | exact zb_rg) (by first | omega | exact zb_rg) rfl (fun h => by exfalso; first | omega | exact zb_rg) (fun h138 => ?_)
    refine zV_iload_n (i := 1) (n := 142) C dX6_next_141 rfl rfl rfl ?_
    refine zV_if_eq (n := 145) C 220 dX6_next_142 (by decide) (by first | omega | exact zb_rg) rfl (fun h => by exfalso; first | omega | exact zb_rg) (fun h142 => ?_)
    refine zV_aload_n (i := 0) (n := 146) C dX6_next_145 rfl rfl rfl ?_
    refine zV_aload_n (i := 0) (n := 147) C dX6_next_146 rfl rfl rfl ?_
    refine zV_getI (f := 4) (fi := 4) (n := 150) C zk5 fX6_25 dX6_next_147 zs_tape rfl (by decide) rfl rfl ?_
    rw [zq_t]
    refine zV_callV1u (n := 153) C zk5 jX6_byteAt lX6_34 (c_byteAt (d := d) (μ := (zq μ K f e9 0 fl)) (show tapeOk ((zq μ K f e9 0 fl) 4 3) ((zq μ K f e9 0 fl) 4 2 1) from hT) (by omega)) dX6_next_150 zs_tape rfl (Nat.le_of_ble_eq_true rfl) (zfit_of (by omega) (by decide)) ⟨Nat.le_refl _, Nat.le_refl _⟩ rfl ?_
    rw [zq_T, zq_n]
    refine zV_callS1u (n := 156) C jX6_tokenWith lX6_38 (c_tokenWith (d := d) (by omega)) dX6_next_153 (Nat.le_of_ble_eq_true rfl) (zfit_of (by omega) (by decide)) ⟨Nat.le_refl _, Nat.le_refl _⟩ rfl ?_
    refine zV_aload_n (i := 0) (n := 157) C dX6_next_156 rfl rfl rfl ?_
    refine zV_getI (f := 2) (fi := 2) (n := 160) C zk5 fX6_19 dX6_next_157 zs_tape rfl (by decide) rfl rfl ?_
    rw [zq_k]
    refine zV_icmp_ne (n := 163) C 220 dX6_next_160 (by decide) (by first | omega | exact zb_rg) (by first | omega | exact zb_rg) rfl (fun h160 => ?_) (fun h160 => ?_)
    · skip
      first | (rw [if_neg h160] at KK; exact KK _) | skip
    · skip
      refine zV_aload_n (i := 0) (n := 164) C dX6_next_163 rfl rfl rfl ?_
      refine zV_aload_n (i := 0) (n := 165) C dX6_next_164 rfl rfl rfl ?_
      refine zV_getI (f := 2) (fi := 2) (n := 168) C zk5 fX6_19 dX6_next_165 zs_tape rfl (by decide) rfl rfl ?_
      rw [zq_k]
      refine zV_iconst (n := 169) C dX6_next_168 rfl ?_
      refine zV_icmp_ne (n := 172) C 200 dX6_next_169 (by decide) (by first | omega | exact zb_rg) (by first | omega | exact zb_rg) rfl (fun h169 => ?_) (fun h => by exfalso; first | omega | exact zb_rg)
      refine zV_iconst (n := 201) C dX6_next_200 rfl ?_
      refine zV_putI (f := 5) (fi := 5) (n := 204) C zk5 fX6_28 dX6_next_201 zs_tape rfl (by decide) rfl rfl rfl rfl ?_
      rw [zqu_v]
      refine zV_aload_n (i := 0) (n := 205) C dX6_next_204 rfl rfl rfl ?_
      refine zV_dup (n := 206) C dX6_next_205 rfl rfl ?_
      refine zV_getI (f := 4) (fi := 4) (n := 209) C zk5 fX6_25 dX6_next_206 zs_tape rfl (by decide) rfl rfl ?_
      rw [zq_t]
      refine zV_iconst (n := 210) C dX6_next_209 rfl ?_
      refine zV_iadd (n := 211) C dX6_next_210 rfl ?_
      refine zV_putI (f := 4) (fi := 4) (n := 214) C zk5 fX6_25 dX6_next_211 zs_tape rfl (by decide) rfl rfl rfl rfl ?_
      rw [zqu_t]
      refine zS_iinc_3_2 (n := 217) C dX6_next_214 rfl rfl ?_
      refine zV_goto C 135 dX6_next_217 (by decide) ?_
      rw [if_pos h160] at KK
      exact ih (e9 + 1) (c9 + 1) (by omega) (by omega) (by omega) KK

set_option maxRecDepth 100000 in
set_option maxHeartbeats 4000000 in
theorem c_next_xd {Γ : zC} {l : Launch} {d : Nat} {p : Program} {e : Env} {s : State} {m : MethodId} {args : Array Value} {below : List Frame} {meth : Method} {c : Code} {Q : State → Prop} (C : zCx Γ (zAA Γ) p s m args c RX6 cX6_next 3) {μ : zMem} (hT : tapeOk (μ 4 3) (μ 4 2 1)) {K f fl : Int} (hK : K = 2) :
    ∀ (i : Nat) (e9 c9 : Int) (h0 : 0 ≤ e9) (hi : e9 + i = (μ 4 2 1)) (hc : 0 ≤ c9 ∧ c9 + i ≤ 120) (u : Int) (hu : 0 ≤ u ∧ u ≤ 1000) (KK : ∀ v2 : Value, zV Γ (zAA Γ) p l e (zRm (d + 1)) s m args below meth c 0 0 Q 220 [.ref (za Γ 4 2), .int (zi 1), v2] [] (zq μ K f (xt (μ 4 3) (μ 4 2 1) K i e9) (vlC (μ 4 3) (xt (μ 4 3) (μ 4 2 1) K i e9 - e9).toNat e9 u) fl)), zV Γ (zAA Γ) p l e (zRm (d + 1)) s m args below meth c 0 0 Q 135 [.ref (za Γ 4 2), .int (zi 1), .int (zi c9)] [] (zq μ K f e9 u fl) := by
  intro i
  induction i with
  | zero =>
    intro e9 c9 h0 hi hc u hu KK
    have hn := hT.1
    have hb := bA_rg (i := e9) hT h0
    have hk9 := tk_rg (bA (μ 4 3) (μ 4 2 1) e9)
    have et0 : ¬ tk (bA (μ 4 3) (μ 4 2 1) e9) = K := fun q => by have := tk0 (b := bA (μ 4 3) (μ 4 2 1) e9); omega
    rw [show xt (μ 4 3) (μ 4 2 1) K 0 e9 = e9 from rfl, show (e9 - e9).toNat = 0 from by omega] at KK
    refine zV_iload_n (i := 2) (n := 136) C dX6_next_135 rfl rfl rfl ?_
    refine zV_bipush (n := 138) C dX6_next_136 (by decide) rfl ?_
    refine zV_icmp_ge (n := 141) C 220 dX6_next_138 (by decide) (by first | omega | exact zb_rg) (by first | omega | exact zb_rg) rfl (fun h138 => ?_) (fun h138 => ?_)
    · skip
      exact KK _
    · skip
      refine zV_iload_n (i := 1) (n := 142) C dX6_next_141 rfl rfl rfl ?_
      refine zV_if_eq (n := 145) C 220 dX6_next_142 (by decide) (by first | omega | exact zb_rg) rfl (fun h => by exfalso; first | omega | exact zb_rg) (fun h142 => ?_)
      refine zV_aload_n (i := 0) (n := 146) C dX6_next_145 rfl rfl rfl ?_
      refine zV_aload_n (i := 0) (n := 147) C dX6_next_146 rfl rfl rfl ?_
      refine zV_getI (f := 4) (fi := 4) (n := 150) C zk5 fX6_25 dX6_next_147 zs_tape rfl (by decide) rfl rfl ?_
      rw [zq_t]
      refine zV_callV1u (n := 153) C zk5 jX6_byteAt lX6_34 (c_byteAt (d := d) (μ := (zq μ K f e9 u fl)) (show tapeOk ((zq μ K f e9 u fl) 4 3) ((zq μ K f e9 u fl) 4 2 1) from hT) (by omega)) dX6_next_150 zs_tape rfl (Nat.le_of_ble_eq_true rfl) (zfit_of (by omega) (by decide)) ⟨Nat.le_refl _, Nat.le_refl _⟩ rfl ?_
      rw [zq_T, zq_n]
      refine zV_callS1u (n := 156) C jX6_tokenWith lX6_38 (c_tokenWith (d := d) (by omega)) dX6_next_153 (Nat.le_of_ble_eq_true rfl) (zfit_of (by omega) (by decide)) ⟨Nat.le_refl _, Nat.le_refl _⟩ rfl ?_
      refine zV_aload_n (i := 0) (n := 157) C dX6_next_156 rfl rfl rfl ?_
      refine zV_getI (f := 2) (fi := 2) (n := 160) C zk5 fX6_19 dX6_next_157 zs_tape rfl (by decide) rfl rfl ?_
      rw [zq_k]
      refine zV_icmp_ne (n := 163) C 220 dX6_next_160 (by decide) (by first | omega | exact zb_rg) (by first | omega | exact zb_rg) rfl (fun h160 => ?_) (fun h => by exfalso; first | omega | exact zb_rg)
      exact KK _
  | succ i ih =>
    intro e9 c9 h0 hi hc u hu KK
    have hn := hT.1
    have hb := bA_rg (i := e9) hT h0
    have hk9 := tk_rg (bA (μ 4 3) (μ 4 2 1) e9)
    unfold xt at KK
    refine zV_iload_n (i := 2) (n := 136) C dX6_next_135 rfl rfl rfl ?_
    refine zV_bipush (n := 138) C dX6_next_136 (by decide) rfl ?_
    refine zV_icmp_ge (n := 141) C 220 dX6_next_138 (by decide) (by first | omega | exact zb_rg) (by first | omega | exact zb_rg) rfl (fun h => by exfalso; first | omega | exact zb_rg) (fun h138 => ?_)
    refine zV_iload_n (i := 1) (n := 142) C dX6_next_141 rfl rfl rfl ?_
    refine zV_if_eq (n := 145) C 220 dX6_next_142 (by decide) (by first | omega | exact zb_rg) rfl (fun h => by exfalso; first | omega | exact zb_rg) (fun h142 => ?_)
    refine zV_aload_n (i := 0) (n := 146) C dX6_next_145 rfl rfl rfl ?_
    refine zV_aload_n (i := 0) (n := 147) C dX6_next_146 rfl rfl rfl ?_
    refine zV_getI (f := 4) (fi := 4) (n := 150) C zk5 fX6_25 dX6_next_147 zs_tape rfl (by decide) rfl rfl ?_
    rw [zq_t]
    refine zV_callV1u (n := 153) C zk5 jX6_byteAt lX6_34 (c_byteAt (d := d) (μ := (zq μ K f e9 u fl)) (show tapeOk ((zq μ K f e9 u fl) 4 3) ((zq μ K f e9 u fl) 4 2 1) from hT) (by omega)) dX6_next_150 zs_tape rfl (Nat.le_of_ble_eq_true rfl) (zfit_of (by omega) (by decide)) ⟨Nat.le_refl _, Nat.le_refl _⟩ rfl ?_
    rw [zq_T, zq_n]
    refine zV_callS1u (n := 156) C jX6_tokenWith lX6_38 (c_tokenWith (d := d) (by omega)) dX6_next_153 (Nat.le_of_ble_eq_true rfl) (zfit_of (by omega) (by decide)) ⟨Nat.le_refl _, Nat.le_refl _⟩ rfl ?_
    refine zV_aload_n (i := 0) (n := 157) C dX6_next_156 rfl rfl rfl ?_
    refine zV_getI (f := 2) (fi := 2) (n := 160) C zk5 fX6_19 dX6_next_157 zs_tape rfl (by decide) rfl rfl ?_
    rw [zq_k]
    refine zV_icmp_ne (n := 163) C 220 dX6_next_160 (by decide) (by first | omega | exact zb_rg) (by first | omega | exact zb_rg) rfl (fun h160 => ?_) (fun h160 => ?_)
    · skip
      rw [if_neg h160] at KK
      rw [show (e9 - e9).toNat = 0 from by omega] at KK
      exact KK _
    · skip
      refine zV_aload_n (i := 0) (n := 164) C dX6_next_163 rfl rfl rfl ?_
      refine zV_aload_n (i := 0) (n := 165) C dX6_next_164 rfl rfl rfl ?_
      refine zV_getI (f := 2) (fi := 2) (n := 168) C zk5 fX6_19 dX6_next_165 zs_tape rfl (by decide) rfl rfl ?_
      rw [zq_k]
      refine zV_iconst (n := 169) C dX6_next_168 rfl ?_
      refine zV_icmp_ne (n := 172) C 200 dX6_next_169 (by decide) (by first | omega | exact zb_rg) (by first | omega | exact zb_rg) rfl (fun h => by exfalso; first | omega | exact zb_rg) (fun h169 => ?_)
      refine zV_sipush (n := 175) C dX6_next_172 (by decide) rfl ?_
      refine zV_bipush (n := 177) C dX6_next_175 (by decide) rfl ?_
      refine zV_aload_n (i := 0) (n := 178) C dX6_next_177 rfl rfl rfl ?_
      refine zV_getI (f := 5) (fi := 5) (n := 181) C zk5 fX6_28 dX6_next_178 zs_tape rfl (by decide) rfl rfl ?_
      rw [zq_v]
      refine zV_imul (n := 182) C dX6_next_181 rfl ?_
      refine zV_aload_n (i := 0) (n := 183) C dX6_next_182 rfl rfl rfl ?_
      refine zV_aload_n (i := 0) (n := 184) C dX6_next_183 rfl rfl rfl ?_
      refine zV_getI (f := 4) (fi := 4) (n := 187) C zk5 fX6_25 dX6_next_184 zs_tape rfl (by decide) rfl rfl ?_
      rw [zq_t]
      refine zV_callV1u (n := 190) C zk5 jX6_byteAt lX6_34 (c_byteAt (d := d) (μ := (zq μ K f e9 u fl)) (show tapeOk ((zq μ K f e9 u fl) 4 3) ((zq μ K f e9 u fl) 4 2 1) from hT) (by omega)) dX6_next_187 zs_tape rfl (Nat.le_of_ble_eq_true rfl) (zfit_of (by omega) (by decide)) ⟨Nat.le_refl _, Nat.le_refl _⟩ rfl ?_
      rw [zq_T, zq_n]
      refine zV_iadd (n := 191) C dX6_next_190 rfl ?_
      refine zV_bipush (n := 193) C dX6_next_191 (by decide) rfl ?_
      refine zV_isub (n := 194) C dX6_next_193 rfl ?_
      refine zV_mmin (n := 197) C lX6_41 dX6_next_194 (by first | omega | exact zb_rg) (by first | omega | exact zb_rg) (Nat.le_of_ble_eq_true rfl) (zfit_of (by omega) (by decide)) ⟨Nat.le_refl _, Nat.le_refl _⟩ rfl ?_
      refine zV_goto C 201 dX6_next_197 (by decide) ?_
      refine zV_putI (f := 5) (fi := 5) (n := 204) C zk5 fX6_28 dX6_next_201 zs_tape rfl (by decide) rfl rfl rfl rfl ?_
      rw [zqu_v]
      refine zV_aload_n (i := 0) (n := 205) C dX6_next_204 rfl rfl rfl ?_
      refine zV_dup (n := 206) C dX6_next_205 rfl rfl ?_
      refine zV_getI (f := 4) (fi := 4) (n := 209) C zk5 fX6_25 dX6_next_206 zs_tape rfl (by decide) rfl rfl ?_
      rw [zq_t]
      refine zV_iconst (n := 210) C dX6_next_209 rfl ?_
      refine zV_iadd (n := 211) C dX6_next_210 rfl ?_
      refine zV_putI (f := 4) (fi := 4) (n := 214) C zk5 fX6_25 dX6_next_211 zs_tape rfl (by decide) rfl rfl rfl rfl ?_
      rw [zqu_t]
      refine zS_iinc_3_2 (n := 217) C dX6_next_214 rfl rfl ?_
      refine zV_goto C 135 dX6_next_217 (by decide) ?_
      rw [if_pos h160] at KK
      have hd := tk2.mp (h160.trans hK)
      have hl := bA_lt (T := (μ 4 3)) (n := (μ 4 2 1)) (i := e9) (by omega)
      have hx9 := (xt_rg (T := (μ 4 3)) (n := (μ 4 2 1)) (k := K) (i := i) (e := e9 + 1)).1
      rw [hl.2, zmin_comm]
      rw [vlC_s (by omega)] at KK
      exact ih (e9 + 1) (c9 + 1) (by omega) (by omega) (by omega) _ (by unfold zmin; split <;> omega) KK

set_option maxRecDepth 100000 in
set_option maxHeartbeats 4000000 in
theorem c_next {Γ : zC} {l : Launch} {d : Nat} {μ : zMem} {tok f t v fl : Int} (hT : tapeOk (μ 4 3) (μ 4 2 1)) (ht : 0 ≤ t ∧ t ≤ (μ 4 2 1)) : zRet Γ l (d + 1) qX6_next [.ref (za Γ 4 2)] (zq μ tok f t v fl) none (qM μ (nxF (μ 4 3) (μ 4 2 1) t) (nxT (μ 4 3) (μ 4 2 1) (nxF (μ 4 3) (μ 4 2 1) t)) fl) := by
  refine zRet.mk 2 [.ref (za Γ 4 2), .null, .null] RX6 rfl (by decide +kernel) (Nat.le_of_ble_eq_true rfl) rfl ?_
  intro p e s m below meth c C hr hlk
  have hn := hT.1
  have hF := nxF_rg (T := (μ 4 3)) ht
  have hb := bA_rg (i := (nxF (μ 4 3) (μ 4 2 1) t)) hT (by omega)
  have hk9 := tk_rg (bA (μ 4 3) (μ 4 2 1) (nxF (μ 4 3) (μ 4 2 1) t))
  have hk0 := tk0 (b := bA (μ 4 3) (μ 4 2 1) (nxF (μ 4 3) (μ 4 2 1) t))
  refine zV_aload_n (i := 0) (n := 1) C dX6_next_0 rfl rfl rfl ?_
  refine zV_aload_n (i := 0) (n := 2) C dX6_next_1 rfl rfl rfl ?_
  refine zV_getI (f := 4) (fi := 4) (n := 5) C zk5 fX6_25 dX6_next_2 zs_tape rfl (by decide) rfl rfl ?_
  rw [zq_t]
  refine zV_putI (f := 3) (fi := 3) (n := 8) C zk5 fX6_22 dX6_next_5 zs_tape rfl (by decide) rfl rfl rfl rfl ?_
  rw [zqu_f]
  refine zV_iconst (n := 9) C dX6_next_8 rfl ?_
  refine zS_istore_n_3_1 (n := 10) C dX6_next_9 rfl rfl ?_
  refine c_next_sk C hT ((μ 4 2 1) - t).toNat t 0 ht.1 (by omega) (by omega) (fun v1 => ?_)
  refine zV_eqm (μ' := (zq μ tok (nxF (μ 4 3) (μ 4 2 1) t) t v fl)) rfl ?_
  have hk5 : (tk (bA (μ 4 3) (μ 4 2 1) (nxF (μ 4 3) (μ 4 2 1) t))) = 0 ∨ (tk (bA (μ 4 3) (μ 4 2 1) (nxF (μ 4 3) (μ 4 2 1) t))) = 1 ∨ (tk (bA (μ 4 3) (μ 4 2 1) (nxF (μ 4 3) (μ 4 2 1) t))) = 2 ∨ (tk (bA (μ 4 3) (μ 4 2 1) (nxF (μ 4 3) (μ 4 2 1) t))) = 3 ∨ (tk (bA (μ 4 3) (μ 4 2 1) (nxF (μ 4 3) (μ 4 2 1) t))) = 4 := by omega
  rcases hk5 with hK | hK | hK | hK | hK
  · skip
    refine zV_aload_n (i := 0) (n := 46) C dX6_next_45 rfl rfl rfl ?_
    refine zV_aload_n (i := 0) (n := 47) C dX6_next_46 rfl rfl rfl ?_
    refine zV_aload_n (i := 0) (n := 48) C dX6_next_47 rfl rfl rfl ?_
    refine zV_getI (f := 3) (fi := 3) (n := 51) C zk5 fX6_22 dX6_next_48 zs_tape rfl (by decide) rfl rfl ?_
    rw [zq_f]
    refine zV_callV1u (n := 54) C zk5 jX6_byteAt lX6_34 (c_byteAt (d := d) (μ := (zq μ tok (nxF (μ 4 3) (μ 4 2 1) t) t v fl)) (show tapeOk ((zq μ tok (nxF (μ 4 3) (μ 4 2 1) t) t v fl) 4 3) ((zq μ tok (nxF (μ 4 3) (μ 4 2 1) t) t v fl) 4 2 1) from hT) (by omega)) dX6_next_51 zs_tape rfl (Nat.le_of_ble_eq_true rfl) (zfit_of (by omega) (by decide)) ⟨Nat.le_refl _, Nat.le_refl _⟩ rfl ?_
    rw [zq_T, zq_n]
    refine zV_callS1u (n := 57) C jX6_tokenWith lX6_38 (c_tokenWith (d := d) (by omega)) dX6_next_54 (Nat.le_of_ble_eq_true rfl) (zfit_of (by omega) (by decide)) ⟨Nat.le_refl _, Nat.le_refl _⟩ rfl ?_
    refine zV_putI (f := 2) (fi := 2) (n := 60) C zk5 fX6_19 dX6_next_57 zs_tape rfl (by decide) rfl rfl rfl rfl ?_
    rw [zqu_k]
    refine zV_aload_n (i := 0) (n := 61) C dX6_next_60 rfl rfl rfl ?_
    refine zV_aload_n (i := 0) (n := 62) C dX6_next_61 rfl rfl rfl ?_
    refine zV_getI (f := 2) (fi := 2) (n := 65) C zk5 fX6_19 dX6_next_62 zs_tape rfl (by decide) rfl rfl ?_
    rw [zq_k]
    refine zV_if_ne (n := 68) C 75 dX6_next_65 (by decide) (by first | omega | exact zb_rg) rfl (fun h => by exfalso; first | omega | exact zb_rg) (fun h65 => ?_)
    refine zV_aload_n (i := 0) (n := 69) C dX6_next_68 rfl rfl rfl ?_
    refine zV_getI (f := 3) (fi := 3) (n := 72) C zk5 fX6_22 dX6_next_69 zs_tape rfl (by decide) rfl rfl ?_
    rw [zq_f]
    refine zV_goto C 81 dX6_next_72 (by decide) ?_
    refine zV_putI (f := 4) (fi := 4) (n := 84) C zk5 fX6_25 dX6_next_81 zs_tape rfl (by decide) rfl rfl rfl rfl ?_
    rw [zqu_t]
    refine zV_aload_n (i := 0) (n := 85) C dX6_next_84 rfl rfl rfl ?_
    refine zV_aload_n (i := 0) (n := 86) C dX6_next_85 rfl rfl rfl ?_
    refine zV_getI (f := 2) (fi := 2) (n := 89) C zk5 fX6_19 dX6_next_86 zs_tape rfl (by decide) rfl rfl ?_
    rw [zq_k]
    refine zV_iconst (n := 90) C dX6_next_89 rfl ?_
    refine zV_icmp_ne (n := 93) C 107 dX6_next_90 (by decide) (by first | omega | exact zb_rg) (by first | omega | exact zb_rg) rfl (fun h90 => ?_) (fun h => by exfalso; first | omega | exact zb_rg)
    refine zV_iconst (n := 108) C dX6_next_107 rfl ?_
    refine zV_putI (f := 5) (fi := 5) (n := 111) C zk5 fX6_28 dX6_next_108 zs_tape rfl (by decide) rfl rfl rfl rfl ?_
    rw [zqu_v]
    refine zV_aload_n (i := 0) (n := 112) C dX6_next_111 rfl rfl rfl ?_
    refine zV_getI (f := 2) (fi := 2) (n := 115) C zk5 fX6_19 dX6_next_112 zs_tape rfl (by decide) rfl rfl ?_
    rw [zq_k]
    refine zV_iconst (n := 116) C dX6_next_115 rfl ?_
    refine zV_icmp_eq (n := 119) C 127 dX6_next_116 (by decide) (by first | omega | exact zb_rg) (by first | omega | exact zb_rg) rfl (fun h => by exfalso; first | omega | exact zb_rg) (fun h116 => ?_)
    refine zV_aload_n (i := 0) (n := 120) C dX6_next_119 rfl rfl rfl ?_
    refine zV_getI (f := 2) (fi := 2) (n := 123) C zk5 fX6_19 dX6_next_120 zs_tape rfl (by decide) rfl rfl ?_
    rw [zq_k]
    refine zV_iconst (n := 124) C dX6_next_123 rfl ?_
    refine zV_icmp_ne (n := 127) C 131 dX6_next_124 (by decide) (by first | omega | exact zb_rg) (by first | omega | exact zb_rg) rfl (fun h124 => ?_) (fun h => by exfalso; first | omega | exact zb_rg)
    refine zV_iconst (n := 132) C dX6_next_131 rfl ?_
    refine zS_istore_n_3_1 (n := 133) C dX6_next_132 rfl rfl ?_
    refine zV_iconst (n := 134) C dX6_next_133 rfl ?_
    refine zS_istore_n_3_2 (n := 135) C dX6_next_134 rfl rfl ?_
    refine zV_iload_n (i := 2) (n := 136) C dX6_next_135 rfl rfl rfl ?_
    refine zV_bipush (n := 138) C dX6_next_136 (by decide) rfl ?_
    refine zV_icmp_ge (n := 141) C 220 dX6_next_138 (by decide) (by first | omega | exact zb_rg) (by first | omega | exact zb_rg) rfl (fun h => by exfalso; first | omega | exact zb_rg) (fun h138 => ?_)
    refine zV_iload_n (i := 1) (n := 142) C dX6_next_141 rfl rfl rfl ?_
    refine zV_if_eq (n := 145) C 220 dX6_next_142 (by decide) (by first | omega | exact zb_rg) rfl (fun h142 => ?_) (fun h => by exfalso; first | omega | exact zb_rg)
    exact zV_return C hr hlk dX6_next_220 (by rfl) (by show _ = zq μ (tk (bA (μ 4 3) (μ 4 2 1) (nxF (μ 4 3) (μ 4 2 1) t))) (nxF (μ 4 3) (μ 4 2 1) t) (nxT (μ 4 3) (μ 4 2 1) (nxF (μ 4 3) (μ 4 2 1) t)) (cV (μ 4 3) (μ 4 2 1) (nxF (μ 4 3) (μ 4 2 1) t) (nxT (μ 4 3) (μ 4 2 1) (nxF (μ 4 3) (μ 4 2 1) t))) fl; rw [(show cV (μ 4 3) (μ 4 2 1) (nxF (μ 4 3) (μ 4 2 1) t) (nxT (μ 4 3) (μ 4 2 1) (nxF (μ 4 3) (μ 4 2 1) t)) = 0 from if_neg (by omega))]; unfold nxT nxE; rw [if_neg (by omega)]; first | rw [if_pos (by omega)] | rw [if_neg (by omega)])
  · skip
    refine zV_aload_n (i := 0) (n := 46) C dX6_next_45 rfl rfl rfl ?_
    refine zV_aload_n (i := 0) (n := 47) C dX6_next_46 rfl rfl rfl ?_
    refine zV_aload_n (i := 0) (n := 48) C dX6_next_47 rfl rfl rfl ?_
    refine zV_getI (f := 3) (fi := 3) (n := 51) C zk5 fX6_22 dX6_next_48 zs_tape rfl (by decide) rfl rfl ?_
    rw [zq_f]
    refine zV_callV1u (n := 54) C zk5 jX6_byteAt lX6_34 (c_byteAt (d := d) (μ := (zq μ tok (nxF (μ 4 3) (μ 4 2 1) t) t v fl)) (show tapeOk ((zq μ tok (nxF (μ 4 3) (μ 4 2 1) t) t v fl) 4 3) ((zq μ tok (nxF (μ 4 3) (μ 4 2 1) t) t v fl) 4 2 1) from hT) (by omega)) dX6_next_51 zs_tape rfl (Nat.le_of_ble_eq_true rfl) (zfit_of (by omega) (by decide)) ⟨Nat.le_refl _, Nat.le_refl _⟩ rfl ?_
    rw [zq_T, zq_n]
    refine zV_callS1u (n := 57) C jX6_tokenWith lX6_38 (c_tokenWith (d := d) (by omega)) dX6_next_54 (Nat.le_of_ble_eq_true rfl) (zfit_of (by omega) (by decide)) ⟨Nat.le_refl _, Nat.le_refl _⟩ rfl ?_
    refine zV_putI (f := 2) (fi := 2) (n := 60) C zk5 fX6_19 dX6_next_57 zs_tape rfl (by decide) rfl rfl rfl rfl ?_
    rw [zqu_k]
    refine zV_aload_n (i := 0) (n := 61) C dX6_next_60 rfl rfl rfl ?_
    refine zV_aload_n (i := 0) (n := 62) C dX6_next_61 rfl rfl rfl ?_
    refine zV_getI (f := 2) (fi := 2) (n := 65) C zk5 fX6_19 dX6_next_62 zs_tape rfl (by decide) rfl rfl ?_
    rw [zq_k]
    refine zV_if_ne (n := 68) C 75 dX6_next_65 (by decide) (by first | omega | exact zb_rg) rfl (fun h65 => ?_) (fun h => by exfalso; first | omega | exact zb_rg)
    refine zV_aload_n (i := 0) (n := 76) C dX6_next_75 rfl rfl rfl ?_
    refine zV_getI (f := 3) (fi := 3) (n := 79) C zk5 fX6_22 dX6_next_76 zs_tape rfl (by decide) rfl rfl ?_
    rw [zq_f]
    refine zV_iconst (n := 80) C dX6_next_79 rfl ?_
    refine zV_iadd (n := 81) C dX6_next_80 rfl ?_
    refine zV_putI (f := 4) (fi := 4) (n := 84) C zk5 fX6_25 dX6_next_81 zs_tape rfl (by decide) rfl rfl rfl rfl ?_
    rw [zqu_t]
    refine zV_aload_n (i := 0) (n := 85) C dX6_next_84 rfl rfl rfl ?_
    refine zV_aload_n (i := 0) (n := 86) C dX6_next_85 rfl rfl rfl ?_
    refine zV_getI (f := 2) (fi := 2) (n := 89) C zk5 fX6_19 dX6_next_86 zs_tape rfl (by decide) rfl rfl ?_
    rw [zq_k]
    refine zV_iconst (n := 90) C dX6_next_89 rfl ?_
    refine zV_icmp_ne (n := 93) C 107 dX6_next_90 (by decide) (by first | omega | exact zb_rg) (by first | omega | exact zb_rg) rfl (fun h90 => ?_) (fun h => by exfalso; first | omega | exact zb_rg)
    refine zV_iconst (n := 108) C dX6_next_107 rfl ?_
    refine zV_putI (f := 5) (fi := 5) (n := 111) C zk5 fX6_28 dX6_next_108 zs_tape rfl (by decide) rfl rfl rfl rfl ?_
    rw [zqu_v]
    refine zV_aload_n (i := 0) (n := 112) C dX6_next_111 rfl rfl rfl ?_
    refine zV_getI (f := 2) (fi := 2) (n := 115) C zk5 fX6_19 dX6_next_112 zs_tape rfl (by decide) rfl rfl ?_
    rw [zq_k]
    refine zV_iconst (n := 116) C dX6_next_115 rfl ?_
    refine zV_icmp_eq (n := 119) C 127 dX6_next_116 (by decide) (by first | omega | exact zb_rg) (by first | omega | exact zb_rg) rfl (fun h116 => ?_) (fun h => by exfalso; first | omega | exact zb_rg)
    refine zV_iconst (n := 128) C dX6_next_127 rfl ?_
    refine zV_goto C 132 dX6_next_128 (by decide) ?_
    refine zS_istore_n_3_1 (n := 133) C dX6_next_132 rfl rfl ?_
    refine zV_iconst (n := 134) C dX6_next_133 rfl ?_
    refine zS_istore_n_3_2 (n := 135) C dX6_next_134 rfl rfl ?_
    have hlt : (nxF (μ 4 3) (μ 4 2 1) t) < (μ 4 2 1) := by have := tk1.mp hK; omega
    refine c_next_xw C hT hK ((μ 4 2 1) - ((nxF (μ 4 3) (μ 4 2 1) t) + 1)).toNat ((nxF (μ 4 3) (μ 4 2 1) t) + 1) 0 (by omega) (by omega) (by omega) (fun v2 => ?_)
    exact zV_return C hr hlk dX6_next_220 rfl (by show _ = zq μ (tk (bA (μ 4 3) (μ 4 2 1) (nxF (μ 4 3) (μ 4 2 1) t))) (nxF (μ 4 3) (μ 4 2 1) t) (nxT (μ 4 3) (μ 4 2 1) (nxF (μ 4 3) (μ 4 2 1) t)) (cV (μ 4 3) (μ 4 2 1) (nxF (μ 4 3) (μ 4 2 1) t) (nxT (μ 4 3) (μ 4 2 1) (nxF (μ 4 3) (μ 4 2 1) t))) fl; rw [(show cV (μ 4 3) (μ 4 2 1) (nxF (μ 4 3) (μ 4 2 1) t) (nxT (μ 4 3) (μ 4 2 1) (nxF (μ 4 3) (μ 4 2 1) t)) = 0 from if_neg (by omega))]; unfold nxT; rw [if_pos (by omega)])
  · skip
    refine zV_aload_n (i := 0) (n := 46) C dX6_next_45 rfl rfl rfl ?_
    refine zV_aload_n (i := 0) (n := 47) C dX6_next_46 rfl rfl rfl ?_
    refine zV_aload_n (i := 0) (n := 48) C dX6_next_47 rfl rfl rfl ?_
    refine zV_getI (f := 3) (fi := 3) (n := 51) C zk5 fX6_22 dX6_next_48 zs_tape rfl (by decide) rfl rfl ?_
    rw [zq_f]
    refine zV_callV1u (n := 54) C zk5 jX6_byteAt lX6_34 (c_byteAt (d := d) (μ := (zq μ tok (nxF (μ 4 3) (μ 4 2 1) t) t v fl)) (show tapeOk ((zq μ tok (nxF (μ 4 3) (μ 4 2 1) t) t v fl) 4 3) ((zq μ tok (nxF (μ 4 3) (μ 4 2 1) t) t v fl) 4 2 1) from hT) (by omega)) dX6_next_51 zs_tape rfl (Nat.le_of_ble_eq_true rfl) (zfit_of (by omega) (by decide)) ⟨Nat.le_refl _, Nat.le_refl _⟩ rfl ?_
    rw [zq_T, zq_n]
    refine zV_callS1u (n := 57) C jX6_tokenWith lX6_38 (c_tokenWith (d := d) (by omega)) dX6_next_54 (Nat.le_of_ble_eq_true rfl) (zfit_of (by omega) (by decide)) ⟨Nat.le_refl _, Nat.le_refl _⟩ rfl ?_
    refine zV_putI (f := 2) (fi := 2) (n := 60) C zk5 fX6_19 dX6_next_57 zs_tape rfl (by decide) rfl rfl rfl rfl ?_
    rw [zqu_k]
    refine zV_aload_n (i := 0) (n := 61) C dX6_next_60 rfl rfl rfl ?_
    refine zV_aload_n (i := 0) (n := 62) C dX6_next_61 rfl rfl rfl ?_
    refine zV_getI (f := 2) (fi := 2) (n := 65) C zk5 fX6_19 dX6_next_62 zs_tape rfl (by decide) rfl rfl ?_
    rw [zq_k]
    refine zV_if_ne (n := 68) C 75 dX6_next_65 (by decide) (by first | omega | exact zb_rg) rfl (fun h65 => ?_) (fun h => by exfalso; first | omega | exact zb_rg)
    refine zV_aload_n (i := 0) (n := 76) C dX6_next_75 rfl rfl rfl ?_
    refine zV_getI (f := 3) (fi := 3) (n := 79) C zk5 fX6_22 dX6_next_76 zs_tape rfl (by decide) rfl rfl ?_
    rw [zq_f]
    refine zV_iconst (n := 80) C dX6_next_79 rfl ?_
    refine zV_iadd (n := 81) C dX6_next_80 rfl ?_
    refine zV_putI (f := 4) (fi := 4) (n := 84) C zk5 fX6_25 dX6_next_81 zs_tape rfl (by decide) rfl rfl rfl rfl ?_
    rw [zqu_t]
    refine zV_aload_n (i := 0) (n := 85) C dX6_next_84 rfl rfl rfl ?_
    refine zV_aload_n (i := 0) (n := 86) C dX6_next_85 rfl rfl rfl ?_
    refine zV_getI (f := 2) (fi := 2) (n := 89) C zk5 fX6_19 dX6_next_86 zs_tape rfl (by decide) rfl rfl ?_
    rw [zq_k]
    refine zV_iconst (n := 90) C dX6_next_89 rfl ?_
    refine zV_icmp_ne (n := 93) C 107 dX6_next_90 (by decide) (by first | omega | exact zb_rg) (by first | omega | exact zb_rg) rfl (fun h => by exfalso; first | omega | exact zb_rg) (fun h90 => ?_)
    refine zV_aload_n (i := 0) (n := 94) C dX6_next_93 rfl rfl rfl ?_
    refine zV_aload_n (i := 0) (n := 95) C dX6_next_94 rfl rfl rfl ?_
    refine zV_getI (f := 3) (fi := 3) (n := 98) C zk5 fX6_22 dX6_next_95 zs_tape rfl (by decide) rfl rfl ?_
    rw [zq_f]
    refine zV_callV1u (n := 101) C zk5 jX6_byteAt lX6_34 (c_byteAt (d := d) (μ := (zq μ (tk (bA (μ 4 3) (μ 4 2 1) (nxF (μ 4 3) (μ 4 2 1) t))) (nxF (μ 4 3) (μ 4 2 1) t) ((nxF (μ 4 3) (μ 4 2 1) t) + 1) v fl)) (show tapeOk ((zq μ (tk (bA (μ 4 3) (μ 4 2 1) (nxF (μ 4 3) (μ 4 2 1) t))) (nxF (μ 4 3) (μ 4 2 1) t) ((nxF (μ 4 3) (μ 4 2 1) t) + 1) v fl) 4 3) ((zq μ (tk (bA (μ 4 3) (μ 4 2 1) (nxF (μ 4 3) (μ 4 2 1) t))) (nxF (μ 4 3) (μ 4 2 1) t) ((nxF (μ 4 3) (μ 4 2 1) t) + 1) v fl) 4 2 1) from hT) (by omega)) dX6_next_98 zs_tape rfl (Nat.le_of_ble_eq_true rfl) (zfit_of (by omega) (by decide)) ⟨Nat.le_refl _, Nat.le_refl _⟩ rfl ?_
    rw [zq_T, zq_n]
    refine zV_bipush (n := 103) C dX6_next_101 (by decide) rfl ?_
    refine zV_isub (n := 104) C dX6_next_103 rfl ?_
    refine zV_goto C 108 dX6_next_104 (by decide) ?_
    refine zV_putI (f := 5) (fi := 5) (n := 111) C zk5 fX6_28 dX6_next_108 zs_tape rfl (by decide) rfl rfl rfl rfl ?_
    rw [zqu_v]
    refine zV_aload_n (i := 0) (n := 112) C dX6_next_111 rfl rfl rfl ?_
    refine zV_getI (f := 2) (fi := 2) (n := 115) C zk5 fX6_19 dX6_next_112 zs_tape rfl (by decide) rfl rfl ?_
    rw [zq_k]
    refine zV_iconst (n := 116) C dX6_next_115 rfl ?_
    refine zV_icmp_eq (n := 119) C 127 dX6_next_116 (by decide) (by first | omega | exact zb_rg) (by first | omega | exact zb_rg) rfl (fun h => by exfalso; first | omega | exact zb_rg) (fun h116 => ?_)
    refine zV_aload_n (i := 0) (n := 120) C dX6_next_119 rfl rfl rfl ?_
    refine zV_getI (f := 2) (fi := 2) (n := 123) C zk5 fX6_19 dX6_next_120 zs_tape rfl (by decide) rfl rfl ?_
    rw [zq_k]
    refine zV_iconst (n := 124) C dX6_next_123 rfl ?_
    refine zV_icmp_ne (n := 127) C 131 dX6_next_124 (by decide) (by first | omega | exact zb_rg) (by first | omega | exact zb_rg) rfl (fun h => by exfalso; first | omega | exact zb_rg) (fun h124 => ?_)
    refine zV_iconst (n := 128) C dX6_next_127 rfl ?_
    refine zV_goto C 132 dX6_next_128 (by decide) ?_
    refine zS_istore_n_3_1 (n := 133) C dX6_next_132 rfl rfl ?_
    refine zV_iconst (n := 134) C dX6_next_133 rfl ?_
    refine zS_istore_n_3_2 (n := 135) C dX6_next_134 rfl rfl ?_
    have hd := tk2.mp hK
    have hlt : (nxF (μ 4 3) (μ 4 2 1) t) < (μ 4 2 1) := by omega
    have hl := bA_lt (T := (μ 4 3)) (n := (μ 4 2 1)) (i := (nxF (μ 4 3) (μ 4 2 1) t)) (by omega)
    have hx9 := (xt_rg (T := (μ 4 3)) (n := (μ 4 2 1)) (k := (tk (bA (μ 4 3) (μ 4 2 1) (nxF (μ 4 3) (μ 4 2 1) t)))) (i := ((μ 4 2 1) - ((nxF (μ 4 3) (μ 4 2 1) t) + 1)).toNat) (e := (nxF (μ 4 3) (μ 4 2 1) t) + 1)).1
    refine c_next_xd C hT hK ((μ 4 2 1) - ((nxF (μ 4 3) (μ 4 2 1) t) + 1)).toNat ((nxF (μ 4 3) (μ 4 2 1) t) + 1) 0 (by omega) (by omega) (by omega) (bA (μ 4 3) (μ 4 2 1) (nxF (μ 4 3) (μ 4 2 1) t) - 48) (by omega) (fun v2 => ?_)
    have eN : nxT (μ 4 3) (μ 4 2 1) (nxF (μ 4 3) (μ 4 2 1) t) = xt (μ 4 3) (μ 4 2 1) (tk (bA (μ 4 3) (μ 4 2 1) (nxF (μ 4 3) (μ 4 2 1) t))) ((μ 4 2 1) - ((nxF (μ 4 3) (μ 4 2 1) t) + 1)).toNat ((nxF (μ 4 3) (μ 4 2 1) t) + 1) := if_pos (by omega)
    have eV : cV (μ 4 3) (μ 4 2 1) (nxF (μ 4 3) (μ 4 2 1) t) (nxT (μ 4 3) (μ 4 2 1) (nxF (μ 4 3) (μ 4 2 1) t)) = vlC (μ 4 3) (xt (μ 4 3) (μ 4 2 1) (tk (bA (μ 4 3) (μ 4 2 1) (nxF (μ 4 3) (μ 4 2 1) t))) ((μ 4 2 1) - ((nxF (μ 4 3) (μ 4 2 1) t) + 1)).toNat ((nxF (μ 4 3) (μ 4 2 1) t) + 1) - ((nxF (μ 4 3) (μ 4 2 1) t) + 1)).toNat ((nxF (μ 4 3) (μ 4 2 1) t) + 1) (bA (μ 4 3) (μ 4 2 1) (nxF (μ 4 3) (μ 4 2 1) t) - 48) := by rw [show cV (μ 4 3) (μ 4 2 1) (nxF (μ 4 3) (μ 4 2 1) t) (nxT (μ 4 3) (μ 4 2 1) (nxF (μ 4 3) (μ 4 2 1) t)) = vlC (μ 4 3) (nxT (μ 4 3) (μ 4 2 1) (nxF (μ 4 3) (μ 4 2 1) t) - (nxF (μ 4 3) (μ 4 2 1) t)).toNat (nxF (μ 4 3) (μ 4 2 1) t) 0 from if_pos hK, eN, vlC_s (by omega), hl.2, show zmin 1000 (10 * 0 + (μ 4 3) (nxF (μ 4 3) (μ 4 2 1) t) - 48) = (μ 4 3) (nxF (μ 4 3) (μ 4 2 1) t) - 48 from by unfold zmin; split <;> omega]
    exact zV_return C hr hlk dX6_next_220 rfl (by show _ = zq μ (tk (bA (μ 4 3) (μ 4 2 1) (nxF (μ 4 3) (μ 4 2 1) t))) (nxF (μ 4 3) (μ 4 2 1) t) (nxT (μ 4 3) (μ 4 2 1) (nxF (μ 4 3) (μ 4 2 1) t)) (cV (μ 4 3) (μ 4 2 1) (nxF (μ 4 3) (μ 4 2 1) t) (nxT (μ 4 3) (μ 4 2 1) (nxF (μ 4 3) (μ 4 2 1) t))) fl; rw [eV, eN])
  · skip
    refine zV_aload_n (i := 0) (n := 46) C dX6_next_45 rfl rfl rfl ?_
    refine zV_aload_n (i := 0) (n := 47) C dX6_next_46 rfl rfl rfl ?_
    refine zV_aload_n (i := 0) (n := 48) C dX6_next_47 rfl rfl rfl ?_
    refine zV_getI (f := 3) (fi := 3) (n := 51) C zk5 fX6_22 dX6_next_48 zs_tape rfl (by decide) rfl rfl ?_
    rw [zq_f]
    refine zV_callV1u (n := 54) C zk5 jX6_byteAt lX6_34 (c_byteAt (d := d) (μ := (zq μ tok (nxF (μ 4 3) (μ 4 2 1) t) t v fl)) (show tapeOk ((zq μ tok (nxF (μ 4 3) (μ 4 2 1) t) t v fl) 4 3) ((zq μ tok (nxF (μ 4 3) (μ 4 2 1) t) t v fl) 4 2 1) from hT) (by omega)) dX6_next_51 zs_tape rfl (Nat.le_of_ble_eq_true rfl) (zfit_of (by omega) (by decide)) ⟨Nat.le_refl _, Nat.le_refl _⟩ rfl ?_
    rw [zq_T, zq_n]
    refine zV_callS1u (n := 57) C jX6_tokenWith lX6_38 (c_tokenWith (d := d) (by omega)) dX6_next_54 (Nat.le_of_ble_eq_true rfl) (zfit_of (by omega) (by decide)) ⟨Nat.le_refl _, Nat.le_refl _⟩ rfl ?_
    refine zV_putI (f := 2) (fi := 2) (n := 60) C zk5 fX6_19 dX6_next_57 zs_tape rfl (by decide) rfl rfl rfl rfl ?_
    rw [zqu_k]
    refine zV_aload_n (i := 0) (n := 61) C dX6_next_60 rfl rfl rfl ?_
    refine zV_aload_n (i := 0) (n := 62) C dX6_next_61 rfl rfl rfl ?_
    refine zV_getI (f := 2) (fi := 2) (n := 65) C zk5 fX6_19 dX6_next_62 zs_tape rfl (by decide) rfl rfl ?_
    rw [zq_k]
    refine zV_if_ne (n := 68) C 75 dX6_next_65 (by decide) (by first | omega | exact zb_rg) rfl (fun h65 => ?_) (fun h => by exfalso; first | omega | exact zb_rg)
    refine zV_aload_n (i := 0) (n := 76) C dX6_next_75 rfl rfl rfl ?_
    refine zV_getI (f := 3) (fi := 3) (n := 79) C zk5 fX6_22 dX6_next_76 zs_tape rfl (by decide) rfl rfl ?_
    rw [zq_f]
    refine zV_iconst (n := 80) C dX6_next_79 rfl ?_
    refine zV_iadd (n := 81) C dX6_next_80 rfl ?_
    refine zV_putI (f := 4) (fi := 4) (n := 84) C zk5 fX6_25 dX6_next_81 zs_tape rfl (by decide) rfl rfl rfl rfl ?_
    rw [zqu_t]
    refine zV_aload_n (i := 0) (n := 85) C dX6_next_84 rfl rfl rfl ?_
    refine zV_aload_n (i := 0) (n := 86) C dX6_next_85 rfl rfl rfl ?_
    refine zV_getI (f := 2) (fi := 2) (n := 89) C zk5 fX6_19 dX6_next_86 zs_tape rfl (by decide) rfl rfl ?_
    rw [zq_k]
    refine zV_iconst (n := 90) C dX6_next_89 rfl ?_
    refine zV_icmp_ne (n := 93) C 107 dX6_next_90 (by decide) (by first | omega | exact zb_rg) (by first | omega | exact zb_rg) rfl (fun h90 => ?_) (fun h => by exfalso; first | omega | exact zb_rg)
    refine zV_iconst (n := 108) C dX6_next_107 rfl ?_
    refine zV_putI (f := 5) (fi := 5) (n := 111) C zk5 fX6_28 dX6_next_108 zs_tape rfl (by decide) rfl rfl rfl rfl ?_
    rw [zqu_v]
    refine zV_aload_n (i := 0) (n := 112) C dX6_next_111 rfl rfl rfl ?_
    refine zV_getI (f := 2) (fi := 2) (n := 115) C zk5 fX6_19 dX6_next_112 zs_tape rfl (by decide) rfl rfl ?_
    rw [zq_k]
    refine zV_iconst (n := 116) C dX6_next_115 rfl ?_
    refine zV_icmp_eq (n := 119) C 127 dX6_next_116 (by decide) (by first | omega | exact zb_rg) (by first | omega | exact zb_rg) rfl (fun h => by exfalso; first | omega | exact zb_rg) (fun h116 => ?_)
    refine zV_aload_n (i := 0) (n := 120) C dX6_next_119 rfl rfl rfl ?_
    refine zV_getI (f := 2) (fi := 2) (n := 123) C zk5 fX6_19 dX6_next_120 zs_tape rfl (by decide) rfl rfl ?_
    rw [zq_k]
    refine zV_iconst (n := 124) C dX6_next_123 rfl ?_
    refine zV_icmp_ne (n := 127) C 131 dX6_next_124 (by decide) (by first | omega | exact zb_rg) (by first | omega | exact zb_rg) rfl (fun h124 => ?_) (fun h => by exfalso; first | omega | exact zb_rg)
    refine zV_iconst (n := 132) C dX6_next_131 rfl ?_
    refine zS_istore_n_3_1 (n := 133) C dX6_next_132 rfl rfl ?_
    refine zV_iconst (n := 134) C dX6_next_133 rfl ?_
    refine zS_istore_n_3_2 (n := 135) C dX6_next_134 rfl rfl ?_
    refine zV_iload_n (i := 2) (n := 136) C dX6_next_135 rfl rfl rfl ?_
    refine zV_bipush (n := 138) C dX6_next_136 (by decide) rfl ?_
    refine zV_icmp_ge (n := 141) C 220 dX6_next_138 (by decide) (by first | omega | exact zb_rg) (by first | omega | exact zb_rg) rfl (fun h => by exfalso; first | omega | exact zb_rg) (fun h138 => ?_)
    refine zV_iload_n (i := 1) (n := 142) C dX6_next_141 rfl rfl rfl ?_
    refine zV_if_eq (n := 145) C 220 dX6_next_142 (by decide) (by first | omega | exact zb_rg) rfl (fun h142 => ?_) (fun h => by exfalso; first | omega | exact zb_rg)
    exact zV_return C hr hlk dX6_next_220 (by rfl) (by show _ = zq μ (tk (bA (μ 4 3) (μ 4 2 1) (nxF (μ 4 3) (μ 4 2 1) t))) (nxF (μ 4 3) (μ 4 2 1) t) (nxT (μ 4 3) (μ 4 2 1) (nxF (μ 4 3) (μ 4 2 1) t)) (cV (μ 4 3) (μ 4 2 1) (nxF (μ 4 3) (μ 4 2 1) t) (nxT (μ 4 3) (μ 4 2 1) (nxF (μ 4 3) (μ 4 2 1) t))) fl; rw [(show cV (μ 4 3) (μ 4 2 1) (nxF (μ 4 3) (μ 4 2 1) t) (nxT (μ 4 3) (μ 4 2 1) (nxF (μ 4 3) (μ 4 2 1) t)) = 0 from if_neg (by omega))]; unfold nxT nxE; rw [if_neg (by omega)]; first | rw [if_pos (by omega)] | rw [if_neg (by omega)])
  · skip
    refine zV_aload_n (i := 0) (n := 46) C dX6_next_45 rfl rfl rfl ?_
    refine zV_aload_n (i := 0) (n := 47) C dX6_next_46 rfl rfl rfl ?_
    refine zV_aload_n (i := 0) (n := 48) C dX6_next_47 rfl rfl rfl ?_
    refine zV_getI (f := 3) (fi := 3) (n := 51) C zk5 fX6_22 dX6_next_48 zs_tape rfl (by decide) rfl rfl ?_
    rw [zq_f]
    refine zV_callV1u (n := 54) C zk5 jX6_byteAt lX6_34 (c_byteAt (d := d) (μ := (zq μ tok (nxF (μ 4 3) (μ 4 2 1) t) t v fl)) (show tapeOk ((zq μ tok (nxF (μ 4 3) (μ 4 2 1) t) t v fl) 4 3) ((zq μ tok (nxF (μ 4 3) (μ 4 2 1) t) t v fl) 4 2 1) from hT) (by omega)) dX6_next_51 zs_tape rfl (Nat.le_of_ble_eq_true rfl) (zfit_of (by omega) (by decide)) ⟨Nat.le_refl _, Nat.le_refl _⟩ rfl ?_
    rw [zq_T, zq_n]
    refine zV_callS1u (n := 57) C jX6_tokenWith lX6_38 (c_tokenWith (d := d) (by omega)) dX6_next_54 (Nat.le_of_ble_eq_true rfl) (zfit_of (by omega) (by decide)) ⟨Nat.le_refl _, Nat.le_refl _⟩ rfl ?_
    refine zV_putI (f := 2) (fi := 2) (n := 60) C zk5 fX6_19 dX6_next_57 zs_tape rfl (by decide) rfl rfl rfl rfl ?_
    rw [zqu_k]
    refine zV_aload_n (i := 0) (n := 61) C dX6_next_60 rfl rfl rfl ?_
    refine zV_aload_n (i := 0) (n := 62) C dX6_next_61 rfl rfl rfl ?_
    refine zV_getI (f := 2) (fi := 2) (n := 65) C zk5 fX6_19 dX6_next_62 zs_tape rfl (by decide) rfl rfl ?_
    rw [zq_k]
    refine zV_if_ne (n := 68) C 75 dX6_next_65 (by decide) (by first | omega | exact zb_rg) rfl (fun h65 => ?_) (fun h => by exfalso; first | omega | exact zb_rg)
    refine zV_aload_n (i := 0) (n := 76) C dX6_next_75 rfl rfl rfl ?_
    refine zV_getI (f := 3) (fi := 3) (n := 79) C zk5 fX6_22 dX6_next_76 zs_tape rfl (by decide) rfl rfl ?_
    rw [zq_f]
    refine zV_iconst (n := 80) C dX6_next_79 rfl ?_
    refine zV_iadd (n := 81) C dX6_next_80 rfl ?_
    refine zV_putI (f := 4) (fi := 4) (n := 84) C zk5 fX6_25 dX6_next_81 zs_tape rfl (by decide) rfl rfl rfl rfl ?_
    rw [zqu_t]
    refine zV_aload_n (i := 0) (n := 85) C dX6_next_84 rfl rfl rfl ?_
    refine zV_aload_n (i := 0) (n := 86) C dX6_next_85 rfl rfl rfl ?_
    refine zV_getI (f := 2) (fi := 2) (n := 89) C zk5 fX6_19 dX6_next_86 zs_tape rfl (by decide) rfl rfl ?_
    rw [zq_k]
    refine zV_iconst (n := 90) C dX6_next_89 rfl ?_
    refine zV_icmp_ne (n := 93) C 107 dX6_next_90 (by decide) (by first | omega | exact zb_rg) (by first | omega | exact zb_rg) rfl (fun h90 => ?_) (fun h => by exfalso; first | omega | exact zb_rg)
    refine zV_iconst (n := 108) C dX6_next_107 rfl ?_
    refine zV_putI (f := 5) (fi := 5) (n := 111) C zk5 fX6_28 dX6_next_108 zs_tape rfl (by decide) rfl rfl rfl rfl ?_
    rw [zqu_v]
    refine zV_aload_n (i := 0) (n := 112) C dX6_next_111 rfl rfl rfl ?_
    refine zV_getI (f := 2) (fi := 2) (n := 115) C zk5 fX6_19 dX6_next_112 zs_tape rfl (by decide) rfl rfl ?_
    rw [zq_k]
    refine zV_iconst (n := 116) C dX6_next_115 rfl ?_
    refine zV_icmp_eq (n := 119) C 127 dX6_next_116 (by decide) (by first | omega | exact zb_rg) (by first | omega | exact zb_rg) rfl (fun h => by exfalso; first | omega | exact zb_rg) (fun h116 => ?_)
    refine zV_aload_n (i := 0) (n := 120) C dX6_next_119 rfl rfl rfl ?_
    refine zV_getI (f := 2) (fi := 2) (n := 123) C zk5 fX6_19 dX6_next_120 zs_tape rfl (by decide) rfl rfl ?_
    rw [zq_k]
    refine zV_iconst (n := 124) C dX6_next_123 rfl ?_
    refine zV_icmp_ne (n := 127) C 131 dX6_next_124 (by decide) (by first | omega | exact zb_rg) (by first | omega | exact zb_rg) rfl (fun h124 => ?_) (fun h => by exfalso; first | omega | exact zb_rg)
    refine zV_iconst (n := 132) C dX6_next_131 rfl ?_
    refine zS_istore_n_3_1 (n := 133) C dX6_next_132 rfl rfl ?_
    refine zV_iconst (n := 134) C dX6_next_133 rfl ?_
    refine zS_istore_n_3_2 (n := 135) C dX6_next_134 rfl rfl ?_
    refine zV_iload_n (i := 2) (n := 136) C dX6_next_135 rfl rfl rfl ?_
    refine zV_bipush (n := 138) C dX6_next_136 (by decide) rfl ?_
    refine zV_icmp_ge (n := 141) C 220 dX6_next_138 (by decide) (by first | omega | exact zb_rg) (by first | omega | exact zb_rg) rfl (fun h => by exfalso; first | omega | exact zb_rg) (fun h138 => ?_)
    refine zV_iload_n (i := 1) (n := 142) C dX6_next_141 rfl rfl rfl ?_
    refine zV_if_eq (n := 145) C 220 dX6_next_142 (by decide) (by first | omega | exact zb_rg) rfl (fun h142 => ?_) (fun h => by exfalso; first | omega | exact zb_rg)
    exact zV_return C hr hlk dX6_next_220 (by rfl) (by show _ = zq μ (tk (bA (μ 4 3) (μ 4 2 1) (nxF (μ 4 3) (μ 4 2 1) t))) (nxF (μ 4 3) (μ 4 2 1) t) (nxT (μ 4 3) (μ 4 2 1) (nxF (μ 4 3) (μ 4 2 1) t)) (cV (μ 4 3) (μ 4 2 1) (nxF (μ 4 3) (μ 4 2 1) t) (nxT (μ 4 3) (μ 4 2 1) (nxF (μ 4 3) (μ 4 2 1) t))) fl; rw [(show cV (μ 4 3) (μ 4 2 1) (nxF (μ 4 3) (μ 4 2 1) t) (nxT (μ 4 3) (μ 4 2 1) (nxF (μ 4 3) (μ 4 2 1) t)) = 0 from if_neg (by omega))]; unfold nxT nxE; rw [if_neg (by omega)]; first | rw [if_pos (by omega)] | rw [if_neg (by omega)])

set_option maxRecDepth 100000 in
set_option maxHeartbeats 4000000 in
theorem c_isWord_loop {Γ : zC} {l : Launch} {d : Nat} {p : Program} {e : Env} {s : State} {m : MethodId} {args : Array Value} {below : List Frame} {meth : Method} {c : Code} {Q : State → Prop} (C : zCx Γ (zAA Γ) p s m args c RX6 cX6_isWord 3) {μ : zMem} (hT : tapeOk (μ 4 3) (μ 4 2 1)) {f t fl : Int} {i9 : Nat} (hi : i9 < 14) (hf : 0 ≤ f ∧ f ≤ (μ 4 2 1)) (ht : f ≤ t ∧ t ≤ (μ 4 2 1)) (hl : t - f = ((zlen.getD i9 0 : Nat) : Int)) :
    ∀ (i : Nat) (j9 : Int) (h0 : 0 ≤ j9) (hj : j9 + i = ((zlen.getD i9 0 : Nat) : Int)) (K1 : cEq (μ 4 3) f i9 i j9 = 1 → ∀ v2 : Value, zV Γ (zAA Γ) p l e (zRm (d + 4)) s m args below meth c 0 0 Q 63 [.ref (za Γ 4 2), .ref (zaK Γ i9), v2] [.int (zi 1)] (qM μ f t fl)) (K0 : cEq (μ 4 3) f i9 i j9 = 0 → ∀ v2 : Value, zV Γ (zAA Γ) p l e (zRm (d + 4)) s m args below meth c 0 0 Q 55 [.ref (za Γ 4 2), .ref (zaK Γ i9), v2] [.int (zi 0)] (qM μ f t fl)), zV Γ (zAA Γ) p l e (zRm (d + 4)) s m args below meth c 0 0 Q 28 [.ref (za Γ 4 2), .ref (zaK Γ i9), .int (zi j9)] [] (qM μ f t fl) := by
  intro i
  induction i with
  | zero =>
    intro j9 h0 hj K1 K0
    have hn := hT.1
    have h6 := (zlen_tab i9 hi).2.2.1
    refine zV_iload_n (i := 2) (n := 29) C dX6_isWord_28 rfl rfl rfl ?_
    refine zV_aload_n (i := 1) (n := 30) C dX6_isWord_29 rfl rfl rfl ?_
    refine zV_callK0 (n := 33) C hi jJ0_length_8abf5 lX6_47 (s_length (d := d + 2) hi) dX6_isWord_30 rfl (Nat.le_of_ble_eq_true rfl) (zfit_of (by omega) (by decide)) ⟨Nat.le_refl _, Nat.le_refl _⟩ rfl ?_
    refine zV_icmp_ge (n := 36) C 62 dX6_isWord_33 (by decide) (by first | omega | exact zb_rg) (by first | omega | exact zb_rg) rfl (fun h33 => ?_) (fun h => by exfalso; first | omega | exact zb_rg)
    refine zV_iconst (n := 63) C dX6_isWord_62 rfl ?_
    exact K1 rfl _
  | succ i ih =>
    intro j9 h0 hj K1 K0
    have hn := hT.1
    have h6 := (zlen_tab i9 hi).2.2.1
    have hch := zch_rg (z := j9) hi (by omega)
    have hTj := hT.2 (f + j9) (by omega) (by omega)
    refine zV_iload_n (i := 2) (n := 29) C dX6_isWord_28 rfl rfl rfl ?_
    refine zV_aload_n (i := 1) (n := 30) C dX6_isWord_29 rfl rfl rfl ?_
    refine zV_callK0 (n := 33) C hi jJ0_length_8abf5 lX6_47 (s_length (d := d + 2) hi) dX6_isWord_30 rfl (Nat.le_of_ble_eq_true rfl) (zfit_of (by omega) (by decide)) ⟨Nat.le_refl _, Nat.le_refl _⟩ rfl ?_
    refine zV_icmp_ge (n := 36) C 62 dX6_isWord_33 (by decide) (by first | omega | exact zb_rg) (by first | omega | exact zb_rg) rfl (fun h => by exfalso; first | omega | exact zb_rg) (fun h33 => ?_)
    refine zV_aload_n (i := 0) (n := 37) C dX6_isWord_36 rfl rfl rfl ?_
    refine zV_aload_n (i := 0) (n := 38) C dX6_isWord_37 rfl rfl rfl ?_
    refine zV_getI (f := 3) (fi := 3) (n := 41) C zk5 fX6_22 dX6_isWord_38 zs_tape rfl (by decide) rfl rfl ?_
    rw [show (qM μ f t fl) 4 2 3 = f from rfl]
    refine zV_iload_n (i := 2) (n := 42) C dX6_isWord_41 rfl rfl rfl ?_
    refine zV_iadd (n := 43) C dX6_isWord_42 rfl ?_
    refine zV_callV1u (n := 46) C zk5 jX6_byteAt lX6_34 (c_byteAt (d := d + 3) (μ := (qM μ f t fl)) (show tapeOk ((qM μ f t fl) 4 3) ((qM μ f t fl) 4 2 1) from hT) (by omega)) dX6_isWord_43 zs_tape rfl (Nat.le_of_ble_eq_true rfl) (zfit_of (by omega) (by decide)) ⟨Nat.le_refl _, Nat.le_refl _⟩ rfl ?_
    rw [show (qM μ f t fl) 4 3 = (μ 4 3) from rfl, show (qM μ f t fl) 4 2 1 = (μ 4 2 1) from rfl, show bA (μ 4 3) (μ 4 2 1) (f + j9) = (μ 4 3) (f + j9) from if_pos (by omega)]
    refine zV_aload_n (i := 1) (n := 47) C dX6_isWord_46 rfl rfl rfl ?_
    refine zV_iload_n (i := 2) (n := 48) C dX6_isWord_47 rfl rfl rfl ?_
    refine zV_callK1 (n := 51) C hi jJ0_charAt_5068e lX6_52 (s_charAt (d := d + 0) (z := j9) hi (by omega)) dX6_isWord_48 rfl (Nat.le_of_ble_eq_true rfl) (zfit_of (by omega) (by decide)) ⟨Nat.le_refl _, Nat.le_refl _⟩ rfl ?_
    refine zV_icmp_eq (n := 54) C 56 dX6_isWord_51 (by decide) (by first | omega | exact zb_rg) (by first | omega | exact zb_rg) rfl (fun h51 => ?_) (fun h51 => ?_)
    · skip
      refine zS_iinc_3_2 (n := 59) C dX6_isWord_56 rfl rfl ?_
      refine zV_goto C 28 dX6_isWord_59 (by decide) ?_
      exact ih (j9 + 1) (by omega) (by omega) (fun q => K1 (by unfold cEq; rw [if_pos h51]; exact q)) (fun q => K0 (by unfold cEq; rw [if_pos h51]; exact q))
    · skip
      refine zV_iconst (n := 55) C dX6_isWord_54 rfl ?_
      exact K0 (by unfold cEq; exact if_neg h51) _

set_option maxRecDepth 100000 in
set_option maxHeartbeats 4000000 in
theorem c_isWord {Γ : zC} {l : Launch} {d : Nat} {μ : zMem} (hT : tapeOk (μ 4 3) (μ 4 2 1)) {f t fl : Int} {i9 : Nat} (hi : i9 < 14) (hf : 0 ≤ f ∧ f ≤ (μ 4 2 1)) (ht : f ≤ t ∧ t ≤ (μ 4 2 1))  : zRet Γ l (d + 4) qX6_isWord [.ref (za Γ 4 2), .ref (zaK Γ i9)] (qM μ f t fl) (some (.int (zi (zb (cW (μ 4 3) (μ 4 2 1) i9 f t))))) (qM μ f t fl) := by
  refine zRet.mk 1 [.ref (za Γ 4 2), .ref (zaK Γ i9), .null] RX6 rfl (by decide +kernel) (Nat.le_of_ble_eq_true rfl) rfl ?_
  intro p e s m below meth c C hr hlk
  have hn := hT.1
  have h6 := (zlen_tab i9 hi).2.2.1
  have hk9 := tk_rg (bA (μ 4 3) (μ 4 2 1) f)
  refine zV_aload_n (i := 0) (n := 1) C dX6_isWord_0 rfl rfl rfl ?_
  refine zV_getI (f := 2) (fi := 2) (n := 4) C zk5 fX6_19 dX6_isWord_1 zs_tape rfl (by decide) rfl rfl ?_
  rw [show (qM μ f t fl) 4 2 2 = tk (bA (μ 4 3) (μ 4 2 1) f) from rfl]
  refine zV_iconst (n := 5) C dX6_isWord_4 rfl ?_
  refine zV_icmp_ne (n := 8) C 24 dX6_isWord_5 (by decide) (by first | omega | exact zb_rg) (by first | omega | exact zb_rg) rfl (fun h5 => ?_) (fun h5 => ?_)
  · skip
    refine zV_iconst (n := 25) C dX6_isWord_24 rfl ?_
    exact zV_zreturn C hr hlk dX6_isWord_25 (by first | rfl | exact (zi_z zb_01).1 | exact (zi_z (by omega)).1) (by first | exact congrArg (fun z => some (Value.int (zi z))) ((zb_f (show ¬ (cW (μ 4 3) (μ 4 2 1) i9 f t) from fun z => h5 z.1)).symm) | exact congrArg (fun z => some (Value.int (zi z))) ((zb_f (show ¬ (cW (μ 4 3) (μ 4 2 1) i9 f t) from fun z => h21 z.2.1)).symm)) (by rfl)
  · skip
    refine zV_aload_n (i := 0) (n := 9) C dX6_isWord_8 rfl rfl rfl ?_
    refine zV_getI (f := 4) (fi := 4) (n := 12) C zk5 fX6_25 dX6_isWord_9 zs_tape rfl (by decide) rfl rfl ?_
    rw [show (qM μ f t fl) 4 2 4 = t from rfl]
    refine zV_aload_n (i := 0) (n := 13) C dX6_isWord_12 rfl rfl rfl ?_
    refine zV_getI (f := 3) (fi := 3) (n := 16) C zk5 fX6_22 dX6_isWord_13 zs_tape rfl (by decide) rfl rfl ?_
    rw [show (qM μ f t fl) 4 2 3 = f from rfl]
    refine zV_isub (n := 17) C dX6_isWord_16 rfl ?_
    refine zV_aload_n (i := 1) (n := 18) C dX6_isWord_17 rfl rfl rfl ?_
    refine zV_callK0 (n := 21) C hi jJ0_length_8abf5 lX6_47 (s_length (d := d + 2) hi) dX6_isWord_18 rfl (Nat.le_of_ble_eq_true rfl) (zfit_of (by omega) (by decide)) ⟨Nat.le_refl _, Nat.le_refl _⟩ rfl ?_
    refine zV_icmp_eq (n := 24) C 26 dX6_isWord_21 (by decide) (by first | omega | exact zb_rg) (by first | omega | exact zb_rg) rfl (fun h21 => ?_) (fun h21 => ?_)
    · skip
      refine zV_iconst (n := 27) C dX6_isWord_26 rfl ?_
      refine zS_istore_n_3_2 (n := 28) C dX6_isWord_27 rfl rfl ?_
      refine c_isWord_loop C hT hi hf ht h21 (zlen.getD i9 0) 0 (by omega) (by omega) (fun q v2 => ?_) (fun q v2 => ?_)
      · exact zV_zreturn C hr hlk dX6_isWord_63 rfl (congrArg (fun z => some (Value.int (zi z))) (zb_t (show (cW (μ 4 3) (μ 4 2 1) i9 f t) from ⟨h5, h21, q⟩)).symm) rfl
      · exact zV_zreturn C hr hlk dX6_isWord_55 rfl (congrArg (fun z => some (Value.int (zi z))) (zb_f (show ¬ (cW (μ 4 3) (μ 4 2 1) i9 f t) from fun z => by have := z.2.2; omega)).symm) rfl
    · skip
      refine zV_iconst (n := 25) C dX6_isWord_24 rfl ?_
      exact zV_zreturn C hr hlk dX6_isWord_25 (by first | rfl | exact (zi_z zb_01).1 | exact (zi_z (by omega)).1) (by first | exact congrArg (fun z => some (Value.int (zi z))) ((zb_f (show ¬ (cW (μ 4 3) (μ 4 2 1) i9 f t) from fun z => h5 z.1)).symm) | exact congrArg (fun z => some (Value.int (zi z))) ((zb_f (show ¬ (cW (μ 4 3) (μ 4 2 1) i9 f t) from fun z => h21 z.2.1)).symm)) (by rfl)

set_option maxRecDepth 100000 in
set_option maxHeartbeats 4000000 in
theorem c_numberUpTo {Γ : zC} {l : Launch} {d : Nat} {μ : zMem} {f t fl hi9 : Int} (hv : 0 ≤ (cV (μ 4 3) (μ 4 2 1) f t) ∧ (cV (μ 4 3) (μ 4 2 1) f t) ≤ 1000) (hh : 0 ≤ hi9 ∧ hi9 ≤ 1000) : zRet Γ l (d + 0) qX6_numberUpTo [.ref (za Γ 4 2), .int (zi hi9)] (qM μ f t fl) (some (.int (zi ((if tk (bA (μ 4 3) (μ 4 2 1) f) = 2 ∧ (cV (μ 4 3) (μ 4 2 1) f t) ≤ hi9 then (cV (μ 4 3) (μ 4 2 1) f t) else -1))))) (qM μ f t fl) := by
  refine zRet.mk 0 [.ref (za Γ 4 2), .int (zi hi9)] RX6 rfl (by decide +kernel) (Nat.le_of_ble_eq_true rfl) rfl ?_
  intro p e s m below meth c C hr hlk
  have hk9 := tk_rg (bA (μ 4 3) (μ 4 2 1) f)
  refine zV_aload_n (i := 0) (n := 1) C dX6_numberUpTo_0 rfl rfl rfl ?_
  refine zV_getI (f := 2) (fi := 2) (n := 4) C zk5 fX6_19 dX6_numberUpTo_1 zs_tape rfl (by decide) rfl rfl ?_
  rw [show (qM μ f t fl) 4 2 2 = tk (bA (μ 4 3) (μ 4 2 1) f) from rfl]
  refine zV_iconst (n := 5) C dX6_numberUpTo_4 rfl ?_
  refine zV_icmp_ne (n := 8) C 23 dX6_numberUpTo_5 (by decide) (by first | omega | exact zb_rg) (by first | omega | exact zb_rg) rfl (fun h5 => ?_) (fun h5 => ?_)
  · skip
    refine zV_iconst (n := 24) C dX6_numberUpTo_23 rfl ?_
    exact zV_ireturn C hr hlk dX6_numberUpTo_24 (by first | exact congrArg (fun z => some (Value.int (zi z))) (zif_t (by omega) (rfl)) | exact congrArg (fun z => some (Value.int (zi z))) (zif_f (by omega) rfl)) (by rfl)
  · skip
    refine zV_aload_n (i := 0) (n := 9) C dX6_numberUpTo_8 rfl rfl rfl ?_
    refine zV_getI (f := 5) (fi := 5) (n := 12) C zk5 fX6_28 dX6_numberUpTo_9 zs_tape rfl (by decide) rfl rfl ?_
    rw [show (qM μ f t fl) 4 2 5 = (cV (μ 4 3) (μ 4 2 1) f t) from rfl]
    refine zV_iload_n (i := 1) (n := 13) C dX6_numberUpTo_12 rfl rfl rfl ?_
    refine zV_icmp_gt (n := 16) C 23 dX6_numberUpTo_13 (by decide) (by first | omega | exact zb_rg) (by first | omega | exact zb_rg) rfl (fun h13 => ?_) (fun h13 => ?_)
    · skip
      refine zV_iconst (n := 24) C dX6_numberUpTo_23 rfl ?_
      exact zV_ireturn C hr hlk dX6_numberUpTo_24 (by first | exact congrArg (fun z => some (Value.int (zi z))) (zif_t (by omega) (rfl)) | exact congrArg (fun z => some (Value.int (zi z))) (zif_f (by omega) rfl)) (by rfl)
    · skip
      refine zV_aload_n (i := 0) (n := 17) C dX6_numberUpTo_16 rfl rfl rfl ?_
      refine zV_getI (f := 5) (fi := 5) (n := 20) C zk5 fX6_28 dX6_numberUpTo_17 zs_tape rfl (by decide) rfl rfl ?_
      rw [show (qM μ f t fl) 4 2 5 = (cV (μ 4 3) (μ 4 2 1) f t) from rfl]
      refine zV_goto C 24 dX6_numberUpTo_20 (by decide) ?_
      exact zV_ireturn C hr hlk dX6_numberUpTo_24 (by first | exact congrArg (fun z => some (Value.int (zi z))) (zif_t (by omega) (rfl)) | exact congrArg (fun z => some (Value.int (zi z))) (zif_f (by omega) rfl)) (by rfl)

