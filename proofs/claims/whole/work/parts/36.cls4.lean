/-! the class: one more child, a car becomes another, findings (laid by wip/whole/gen/cls4.py) -/
set_option maxRecDepth 100000 in
set_option maxHeartbeats 4000000 in
theorem c_begin {Γ : zC} {l : Launch} {d : Nat} {μ : zMem} {g : Nat} (hg : g < 4) {x : Int} (hx : 0 ≤ x ∧ x < 6) {v : Int} : zRet Γ l (d + 0) qX2_begin [.ref (za Γ g (6 + x)), .int (zi v)] μ none (zup (zup (zup (zup (zup (zup (zup μ g (6 + x) 0 v) g (6 + x) 1 30) g (6 + x) 2 5) g (6 + x) 3 0) g (6 + x) 4 0) g (6 + x) 5 0) g (6 + x) 6 (-1)) := by
  refine zRet.mk 0 [.ref (za Γ g (6 + x)), .int (zi v)] RX2 rfl (by decide +kernel) (Nat.le_of_ble_eq_true rfl) rfl ?_
  intro p e s m below meth c C hr hlk
  refine zV_aload_n (i := 0) (n := 1) C dX2_begin_0 rfl rfl rfl ?_
  refine zV_iload_n (i := 1) (n := 2) C dX2_begin_1 rfl rfl rfl ?_
  refine zV_putI (f := 0) (fi := 0) (n := 5) C zk2 fX2_9 dX2_begin_2 (zs_child (by omega) (by omega)) rfl (by decide) rfl rfl rfl rfl ?_
  refine zV_aload_n (i := 0) (n := 6) C dX2_begin_5 rfl rfl rfl ?_
  refine zV_bipush (n := 8) C dX2_begin_6 (by decide) rfl ?_
  refine zV_putI (f := 1) (fi := 1) (n := 11) C zk2 fX2_15 dX2_begin_8 (zs_child (by omega) (by omega)) rfl (by decide) rfl rfl rfl rfl ?_
  refine zV_aload_n (i := 0) (n := 12) C dX2_begin_11 rfl rfl rfl ?_
  refine zV_iconst (n := 13) C dX2_begin_12 rfl ?_
  refine zV_putI (f := 2) (fi := 2) (n := 16) C zk2 fX2_18 dX2_begin_13 (zs_child (by omega) (by omega)) rfl (by decide) rfl rfl rfl rfl ?_
  refine zV_aload_n (i := 0) (n := 17) C dX2_begin_16 rfl rfl rfl ?_
  refine zV_iconst (n := 18) C dX2_begin_17 rfl ?_
  refine zV_putI (f := 3) (fi := 3) (n := 21) C zk2 fX2_21 dX2_begin_18 (zs_child (by omega) (by omega)) rfl (by decide) rfl rfl rfl rfl ?_
  refine zV_aload_n (i := 0) (n := 22) C dX2_begin_21 rfl rfl rfl ?_
  refine zV_iconst (n := 23) C dX2_begin_22 rfl ?_
  refine zV_putI (f := 4) (fi := 4) (n := 26) C zk2 fX2_24 dX2_begin_23 (zs_child (by omega) (by omega)) rfl (by decide) rfl rfl rfl rfl ?_
  refine zV_aload_n (i := 0) (n := 27) C dX2_begin_26 rfl rfl rfl ?_
  refine zV_iconst (n := 28) C dX2_begin_27 rfl ?_
  refine zV_putI (f := 5) (fi := 5) (n := 31) C zk2 fX2_27 dX2_begin_28 (zs_child (by omega) (by omega)) rfl (by decide) rfl rfl rfl rfl ?_
  refine zV_aload_n (i := 0) (n := 32) C dX2_begin_31 rfl rfl rfl ?_
  refine zV_iconst (n := 33) C dX2_begin_32 rfl ?_
  refine zV_putI (f := 6) (fi := 6) (n := 36) C zk2 fX2_30 dX2_begin_33 (zs_child (by omega) (by omega)) rfl (by decide) rfl rfl rfl rfl ?_
  exact zV_return C hr hlk dX2_begin_36 (by rfl) (by rfl)

set_option maxRecDepth 100000 in
set_option maxHeartbeats 4000000 in
theorem c_add {Γ : zC} {l : Launch} {d : Nat} {μ : zMem} {g : Nat} (hg : g < 4) {S : Int → Int} {N : Int} (I : rInv N S) {v : Int} (h6 : S 0 < 6) : zRet Γ l (d + 1) qX0_add [.ref (za Γ g 0), .int (zi v)] (zcar μ g S) (some (.int (zi (S 0)))) (zcar μ g (rAdd S v)) := by
  refine zRet.mk 0 [.ref (za Γ g 0), .int (zi v)] RX0 rfl (by decide +kernel) (Nat.le_of_ble_eq_true rfl) rfl ?_
  intro p e s m below meth c C hr hlk
  have h0 := I.1
  have h1 := I.2.1
  have h2 := I.2.2.1
  have h3 := I.2.2.2.1
  refine zV_aload_n (i := 0) (n := 1) C dX0_add_0 rfl rfl rfl ?_
  refine zV_getP (f := 1) (n := 4) C zk0 fX0_19 dX0_add_1 (zs_car (by omega)) rfl (by decide) rfl ?_
  refine zV_aload_n (i := 0) (n := 5) C dX0_add_4 rfl rfl rfl ?_
  refine zV_getI (f := 2) (fi := 2) (n := 8) C zk0 fX0_23 dX0_add_5 (zs_car (by omega)) rfl (by decide) rfl rfl ?_
  rw [zc_cnt]
  refine zV_aald (n := 9) C dX0_add_8 (zs_carC (by omega)) (by first | omega | exact zb_rg) (by decide) (by decide) rfl ?_
  refine zV_iload_n (i := 1) (n := 10) C dX0_add_9 rfl rfl rfl ?_
  refine zV_callV1v (n := 13) C zk2 jX2_begin lX0_45 (c_begin (d := d) hg (by omega)) dX0_add_10 (zs_child (by omega) (by omega)) rfl (Nat.le_of_ble_eq_true rfl) (zfit_of (by omega) (by decide)) ⟨Nat.le_refl _, Nat.le_refl _⟩ rfl ?_
  refine zV_aload_n (i := 0) (n := 14) C dX0_add_13 rfl rfl rfl ?_
  refine zV_dup (n := 15) C dX0_add_14 rfl rfl ?_
  refine zV_getI (f := 2) (fi := 2) (n := 18) C zk0 fX0_23 dX0_add_15 (zs_car (by omega)) rfl (by decide) rfl rfl ?_
  rw [zup_ne (by omega), zup_ne (by omega), zup_ne (by omega), zup_ne (by omega), zup_ne (by omega), zup_ne (by omega), zup_ne (by omega), zc_cnt]
  refine zV_iconst (n := 19) C dX0_add_18 rfl ?_
  refine zV_iadd (n := 20) C dX0_add_19 rfl ?_
  refine zV_putI (f := 2) (fi := 2) (n := 23) C zk0 fX0_23 dX0_add_20 (zs_car (by omega)) rfl (by decide) rfl rfl rfl rfl ?_
  rw [zcu_add I h6]
  refine zV_aload_n (i := 0) (n := 24) C dX0_add_23 rfl rfl rfl ?_
  refine zV_getI (f := 2) (fi := 2) (n := 27) C zk0 fX0_23 dX0_add_24 (zs_car (by omega)) rfl (by decide) rfl rfl ?_
  rw [zc_cnt]
  rw [rAdd_0 (by omega)]
  refine zV_iconst (n := 28) C dX0_add_27 rfl ?_
  refine zV_isub (n := 29) C dX0_add_28 rfl ?_
  exact zV_ireturn C hr hlk dX0_add_29 (by exact congrArg (fun z => some (Value.int (zi z))) (by omega)) (by rfl)

set_option maxRecDepth 100000 in
set_option maxHeartbeats 4000000 in
theorem c_seat_become {Γ : zC} {l : Launch} {d : Nat} {μ : zMem} {g g2 : Nat} (hg : g < 4) (hg2 : g2 < 4) (hne : ¬ g2 = g) {k : Int} (hk : 0 ≤ k ∧ k < 3)  : zRet Γ l (d + 0) qX4_become [.ref (za Γ g (3 + k)), .ref (za Γ g2 (3 + k))] μ none (zreg μ g g2 (3 + k) 1 5) := by
  refine zRet.mk 0 [.ref (za Γ g (3 + k)), .ref (za Γ g2 (3 + k))] RX4 rfl (by decide +kernel) (Nat.le_of_ble_eq_true rfl) rfl ?_
  intro p e s m below meth c C hr hlk
  refine zV_aload_n (i := 0) (n := 1) C dX4_become_0 rfl rfl rfl ?_
  refine zV_aload_n (i := 1) (n := 2) C dX4_become_1 rfl rfl rfl ?_
  refine zV_getI (f := 0) (fi := 0) (n := 5) C zk3 fX4_9 dX4_become_2 (zs_seat (by omega) (by omega)) rfl (by decide) rfl rfl ?_
  refine zV_putI (f := 0) (fi := 0) (n := 8) C zk3 fX4_9 dX4_become_5 (zs_seat (by omega) (by omega)) rfl (by decide) rfl rfl rfl rfl ?_
  refine zV_aload_n (i := 0) (n := 9) C dX4_become_8 rfl rfl rfl ?_
  refine zV_aload_n (i := 1) (n := 10) C dX4_become_9 rfl rfl rfl ?_
  refine zV_getI (f := 1) (fi := 1) (n := 13) C zk3 fX4_15 dX4_become_10 (zs_seat (by omega) (by omega)) rfl (by decide) rfl rfl ?_
  refine zV_putI (f := 1) (fi := 1) (n := 16) C zk3 fX4_15 dX4_become_13 (zs_seat (by omega) (by omega)) rfl (by decide) rfl rfl rfl rfl ?_
  refine zV_aload_n (i := 0) (n := 17) C dX4_become_16 rfl rfl rfl ?_
  refine zV_aload_n (i := 1) (n := 18) C dX4_become_17 rfl rfl rfl ?_
  refine zV_getI (f := 2) (fi := 2) (n := 21) C zk3 fX4_18 dX4_become_18 (zs_seat (by omega) (by omega)) rfl (by decide) rfl rfl ?_
  refine zV_putI (f := 2) (fi := 2) (n := 24) C zk3 fX4_18 dX4_become_21 (zs_seat (by omega) (by omega)) rfl (by decide) rfl rfl rfl rfl ?_
  refine zV_aload_n (i := 0) (n := 25) C dX4_become_24 rfl rfl rfl ?_
  refine zV_aload_n (i := 1) (n := 26) C dX4_become_25 rfl rfl rfl ?_
  refine zV_getI (f := 3) (fi := 3) (n := 29) C zk3 fX4_21 dX4_become_26 (zs_seat (by omega) (by omega)) rfl (by decide) rfl rfl ?_
  refine zV_putI (f := 3) (fi := 3) (n := 32) C zk3 fX4_21 dX4_become_29 (zs_seat (by omega) (by omega)) rfl (by decide) rfl rfl rfl rfl ?_
  refine zV_aload_n (i := 0) (n := 33) C dX4_become_32 rfl rfl rfl ?_
  refine zV_aload_n (i := 1) (n := 34) C dX4_become_33 rfl rfl rfl ?_
  refine zV_getI (f := 4) (fi := 4) (n := 37) C zk3 fX4_24 dX4_become_34 (zs_seat (by omega) (by omega)) rfl (by decide) rfl rfl ?_
  refine zV_putI (f := 4) (fi := 4) (n := 40) C zk3 fX4_24 dX4_become_37 (zs_seat (by omega) (by omega)) rfl (by decide) rfl rfl rfl rfl ?_
  exact zV_return C hr hlk dX4_become_40 (by rfl) (by exact zreg_5 hne rfl rfl rfl rfl rfl)

set_option maxRecDepth 100000 in
set_option maxHeartbeats 4000000 in
theorem c_kid_become {Γ : zC} {l : Launch} {d : Nat} {μ : zMem} {g g2 : Nat} (hg : g < 4) (hg2 : g2 < 4) (hne : ¬ g2 = g) {x : Int} (hx : 0 ≤ x ∧ x < 6)  : zRet Γ l (d + 0) qX2_become [.ref (za Γ g (6 + x)), .ref (za Γ g2 (6 + x))] μ none (zreg μ g g2 (6 + x) 1 7) := by
  refine zRet.mk 0 [.ref (za Γ g (6 + x)), .ref (za Γ g2 (6 + x))] RX2 rfl (by decide +kernel) (Nat.le_of_ble_eq_true rfl) rfl ?_
  intro p e s m below meth c C hr hlk
  refine zV_aload_n (i := 0) (n := 1) C dX2_become_0 rfl rfl rfl ?_
  refine zV_aload_n (i := 1) (n := 2) C dX2_become_1 rfl rfl rfl ?_
  refine zV_getI (f := 0) (fi := 0) (n := 5) C zk2 fX2_9 dX2_become_2 (zs_child (by omega) (by omega)) rfl (by decide) rfl rfl ?_
  refine zV_putI (f := 0) (fi := 0) (n := 8) C zk2 fX2_9 dX2_become_5 (zs_child (by omega) (by omega)) rfl (by decide) rfl rfl rfl rfl ?_
  refine zV_aload_n (i := 0) (n := 9) C dX2_become_8 rfl rfl rfl ?_
  refine zV_aload_n (i := 1) (n := 10) C dX2_become_9 rfl rfl rfl ?_
  refine zV_getI (f := 1) (fi := 1) (n := 13) C zk2 fX2_15 dX2_become_10 (zs_child (by omega) (by omega)) rfl (by decide) rfl rfl ?_
  refine zV_putI (f := 1) (fi := 1) (n := 16) C zk2 fX2_15 dX2_become_13 (zs_child (by omega) (by omega)) rfl (by decide) rfl rfl rfl rfl ?_
  refine zV_aload_n (i := 0) (n := 17) C dX2_become_16 rfl rfl rfl ?_
  refine zV_aload_n (i := 1) (n := 18) C dX2_become_17 rfl rfl rfl ?_
  refine zV_getI (f := 2) (fi := 2) (n := 21) C zk2 fX2_18 dX2_become_18 (zs_child (by omega) (by omega)) rfl (by decide) rfl rfl ?_
  refine zV_putI (f := 2) (fi := 2) (n := 24) C zk2 fX2_18 dX2_become_21 (zs_child (by omega) (by omega)) rfl (by decide) rfl rfl rfl rfl ?_
  refine zV_aload_n (i := 0) (n := 25) C dX2_become_24 rfl rfl rfl ?_
  refine zV_aload_n (i := 1) (n := 26) C dX2_become_25 rfl rfl rfl ?_
  refine zV_getI (f := 3) (fi := 3) (n := 29) C zk2 fX2_21 dX2_become_26 (zs_child (by omega) (by omega)) rfl (by decide) rfl rfl ?_
  refine zV_putI (f := 3) (fi := 3) (n := 32) C zk2 fX2_21 dX2_become_29 (zs_child (by omega) (by omega)) rfl (by decide) rfl rfl rfl rfl ?_
  refine zV_aload_n (i := 0) (n := 33) C dX2_become_32 rfl rfl rfl ?_
  refine zV_aload_n (i := 1) (n := 34) C dX2_become_33 rfl rfl rfl ?_
  refine zV_getI (f := 4) (fi := 4) (n := 37) C zk2 fX2_24 dX2_become_34 (zs_child (by omega) (by omega)) rfl (by decide) rfl rfl ?_
  refine zV_putI (f := 4) (fi := 4) (n := 40) C zk2 fX2_24 dX2_become_37 (zs_child (by omega) (by omega)) rfl (by decide) rfl rfl rfl rfl ?_
  refine zV_aload_n (i := 0) (n := 41) C dX2_become_40 rfl rfl rfl ?_
  refine zV_aload_n (i := 1) (n := 42) C dX2_become_41 rfl rfl rfl ?_
  refine zV_getI (f := 5) (fi := 5) (n := 45) C zk2 fX2_27 dX2_become_42 (zs_child (by omega) (by omega)) rfl (by decide) rfl rfl ?_
  refine zV_putI (f := 5) (fi := 5) (n := 48) C zk2 fX2_27 dX2_become_45 (zs_child (by omega) (by omega)) rfl (by decide) rfl rfl rfl rfl ?_
  refine zV_aload_n (i := 0) (n := 49) C dX2_become_48 rfl rfl rfl ?_
  refine zV_aload_n (i := 1) (n := 50) C dX2_become_49 rfl rfl rfl ?_
  refine zV_getI (f := 6) (fi := 6) (n := 53) C zk2 fX2_30 dX2_become_50 (zs_child (by omega) (by omega)) rfl (by decide) rfl rfl ?_
  refine zV_putI (f := 6) (fi := 6) (n := 56) C zk2 fX2_30 dX2_become_53 (zs_child (by omega) (by omega)) rfl (by decide) rfl rfl rfl rfl ?_
  exact zV_return C hr hlk dX2_become_56 (by rfl) (by exact zreg_7 hne rfl rfl rfl rfl rfl rfl rfl)

set_option maxRecDepth 100000 in
set_option maxHeartbeats 4000000 in
theorem c_become_a {Γ : zC} {l : Launch} {d : Nat} {p : Program} {e : Env} {s : State} {m : MethodId} {args : Array Value} {below : List Frame} {meth : Method} {c : Code} {Q : State → Prop} (C : zCx Γ (zAA Γ) p s m args c RX0 cX0_become 3) {μ : zMem} {g g2 : Nat} (hg : g < 4) (hg2 : g2 < 4) (hne : ¬ g2 = g) {k : Int} (hk : 0 ≤ k ∧ k < 3) (KK : zV Γ (zAA Γ) p l e (zRm (d + 1)) s m args below meth c 0 0 Q 2 [.ref (za Γ g 0), .ref (za Γ g2 0), .int (zi (k + 1))] [] (zreg μ g g2 3 (k + 1) 5)) :
    zV Γ (zAA Γ) p l e (zRm (d + 1)) s m args below meth c 0 0 Q 2 [.ref (za Γ g 0), .ref (za Γ g2 0), .int (zi k)] [] (zreg μ g g2 3 k 5) := by
  refine zV_iload_n (i := 2) (n := 3) C dX0_become_2 rfl rfl rfl ?_
  refine zV_iconst (n := 4) C dX0_become_3 rfl ?_
  refine zV_icmp_ge (n := 7) C 28 dX0_become_4 (by decide) (by first | omega | exact zb_rg) (by first | omega | exact zb_rg) rfl (fun h => by exfalso; first | omega | exact zb_rg) (fun h4 => ?_)
  refine zV_aload_n (i := 0) (n := 8) C dX0_become_7 rfl rfl rfl ?_
  refine zV_getP (f := 0) (n := 11) C zk0 fX0_11 dX0_become_8 (zs_car (by omega)) rfl (by decide) rfl ?_
  refine zV_iload_n (i := 2) (n := 12) C dX0_become_11 rfl rfl rfl ?_
  refine zV_aald (n := 13) C dX0_become_12 (zs_carS (by omega)) (by first | omega | exact zb_rg) (by decide) (by decide) rfl ?_
  refine zV_aload_n (i := 1) (n := 14) C dX0_become_13 rfl rfl rfl ?_
  refine zV_getP (f := 0) (n := 17) C zk0 fX0_11 dX0_become_14 (zs_car (by omega)) rfl (by decide) rfl ?_
  refine zV_iload_n (i := 2) (n := 18) C dX0_become_17 rfl rfl rfl ?_
  refine zV_aald (n := 19) C dX0_become_18 (zs_carS (by omega)) (by first | omega | exact zb_rg) (by decide) (by decide) rfl ?_
  refine zV_callV1v (n := 22) C zk3 jX4_become lX0_38 (c_seat_become (d := d) hg hg2 hne (by omega)) dX0_become_19 (zs_seat (by omega) (by omega)) rfl (Nat.le_of_ble_eq_true rfl) (zfit_of (by omega) (by decide)) ⟨Nat.le_refl _, Nat.le_refl _⟩ rfl ?_
  rw [zreg_step hne (by omega)]
  refine zS_iinc_3_2 (n := 25) C dX0_become_22 rfl rfl ?_
  refine zV_goto C 2 dX0_become_25 (by decide) ?_
  exact KK

set_option maxRecDepth 100000 in
set_option maxHeartbeats 4000000 in
theorem c_become_b {Γ : zC} {l : Launch} {d : Nat} {p : Program} {e : Env} {s : State} {m : MethodId} {args : Array Value} {below : List Frame} {meth : Method} {c : Code} {Q : State → Prop} (C : zCx Γ (zAA Γ) p s m args c RX0 cX0_become 3) {μ : zMem} {g g2 : Nat} (hg : g < 4) (hg2 : g2 < 4) (hne : ¬ g2 = g) {n : Int} (hn : 0 ≤ n ∧ n ≤ 6) (hc : μ g2 0 2 = n) (KK : zV Γ (zAA Γ) p l e (zRm (d + 1)) s m args below meth c 0 0 Q 59 [.ref (za Γ g 0), .ref (za Γ g2 0), .int (zi n)] [] (zreg μ g g2 6 n 7)) :
    ∀ (i : Nat) (k : Int) (h0 : 0 ≤ k) (hi : k + i = n), zV Γ (zAA Γ) p l e (zRm (d + 1)) s m args below meth c 0 0 Q 30 [.ref (za Γ g 0), .ref (za Γ g2 0), .int (zi k)] [] (zreg μ g g2 6 k 7) := by
  intro i
  induction i with
  | zero =>
    intro k h0 hi
    have hk : k = n := by omega
    subst hk
    refine zV_iload_n (i := 2) (n := 31) C dX0_become_30 rfl rfl rfl ?_
    refine zV_aload_n (i := 1) (n := 32) C dX0_become_31 rfl rfl rfl ?_
    refine zV_getI (f := 2) (fi := 2) (n := 35) C zk0 fX0_23 dX0_become_32 (zs_car (by omega)) rfl (by decide) rfl rfl ?_
    rw [zreg_src hne, hc]
    refine zV_icmp_ge (n := 38) C 59 dX0_become_35 (by decide) (by first | omega | exact zb_rg) (by first | omega | exact zb_rg) rfl (fun h35 => ?_) (fun h => by exfalso; first | omega | exact zb_rg)
    exact KK
  | succ i ih =>
    intro k h0 hi
    refine zV_iload_n (i := 2) (n := 31) C dX0_become_30 rfl rfl rfl ?_
    refine zV_aload_n (i := 1) (n := 32) C dX0_become_31 rfl rfl rfl ?_
    refine zV_getI (f := 2) (fi := 2) (n := 35) C zk0 fX0_23 dX0_become_32 (zs_car (by omega)) rfl (by decide) rfl rfl ?_
    rw [zreg_src hne, hc]
    refine zV_icmp_ge (n := 38) C 59 dX0_become_35 (by decide) (by first | omega | exact zb_rg) (by first | omega | exact zb_rg) rfl (fun h => by exfalso; first | omega | exact zb_rg) (fun h35 => ?_)
    refine zV_aload_n (i := 0) (n := 39) C dX0_become_38 rfl rfl rfl ?_
    refine zV_getP (f := 1) (n := 42) C zk0 fX0_19 dX0_become_39 (zs_car (by omega)) rfl (by decide) rfl ?_
    refine zV_iload_n (i := 2) (n := 43) C dX0_become_42 rfl rfl rfl ?_
    refine zV_aald (n := 44) C dX0_become_43 (zs_carC (by omega)) (by first | omega | exact zb_rg) (by decide) (by decide) rfl ?_
    refine zV_aload_n (i := 1) (n := 45) C dX0_become_44 rfl rfl rfl ?_
    refine zV_getP (f := 1) (n := 48) C zk0 fX0_19 dX0_become_45 (zs_car (by omega)) rfl (by decide) rfl ?_
    refine zV_iload_n (i := 2) (n := 49) C dX0_become_48 rfl rfl rfl ?_
    refine zV_aald (n := 50) C dX0_become_49 (zs_carC (by omega)) (by first | omega | exact zb_rg) (by decide) (by decide) rfl ?_
    refine zV_callV1v (n := 53) C zk2 jX2_become lX0_42 (c_kid_become (d := d) hg hg2 hne (by omega)) dX0_become_50 (zs_child (by omega) (by omega)) rfl (Nat.le_of_ble_eq_true rfl) (zfit_of (by omega) (by decide)) ⟨Nat.le_refl _, Nat.le_refl _⟩ rfl ?_
    rw [zreg_step hne (by omega)]
    refine zS_iinc_3_2 (n := 56) C dX0_become_53 rfl rfl ?_
    refine zV_goto C 30 dX0_become_56 (by decide) ?_
    exact ih (k + 1) (by omega) (by omega)

set_option maxRecDepth 100000 in
set_option maxHeartbeats 4000000 in
theorem c_become {Γ : zC} {l : Launch} {d : Nat} {μ : zMem} {g g2 : Nat} (hg : g < 4) (hg2 : g2 < 4) (hne : ¬ g2 = g) {S : Int → Int} {N : Int} (I : rInv N S)  : zRet Γ l (d + 1) qX0_become [.ref (za Γ g 0), .ref (za Γ g2 0)] (zcar μ g2 S) none (zcar (zcar μ g2 S) g S) := by
  refine zRet.mk 1 [.ref (za Γ g 0), .ref (za Γ g2 0), .null] RX0 rfl (by decide +kernel) (Nat.le_of_ble_eq_true rfl) rfl ?_
  intro p e s m below meth c C hr hlk
  have h0 := I.1
  have h1 := I.2.1
  have h2 := I.2.2.1
  have h3 := I.2.2.2.1
  refine zV_iconst (n := 1) C dX0_become_0 rfl ?_
  refine zS_istore_n_3_2 (n := 2) C dX0_become_1 rfl rfl ?_
  refine zV_eqm (μ' := zreg (zcar μ g2 S) g g2 3 0 5) zreg_0.symm ?_
  refine c_become_a C hg hg2 hne (by omega) ?_
  refine c_become_a C hg hg2 hne (by omega) ?_
  refine c_become_a C hg hg2 hne (by omega) ?_
  refine zV_iload_n (i := 2) (n := 3) C dX0_become_2 rfl rfl rfl ?_
  refine zV_iconst (n := 4) C dX0_become_3 rfl ?_
  refine zV_icmp_ge (n := 7) C 28 dX0_become_4 (by decide) (by omega) (by omega) rfl (fun h => ?_) (fun h => by exfalso; omega)
  refine zV_iconst (n := 29) C dX0_become_28 rfl ?_
  refine zS_istore_n_3_2 (n := 30) C dX0_become_29 rfl rfl ?_
  refine zV_eqm (μ' := zreg (zreg (zcar μ g2 S) g g2 3 3 5) g g2 6 0 7) zreg_0.symm ?_
  refine c_become_b (μ := (zreg (zcar μ g2 S) g g2 3 3 5)) C hg hg2 hne (n := S 0) (by omega) (by rw [zreg_src hne, zc_cnt]) ?_ (S 0).toNat 0 (by omega) (by omega)
  refine zV_aload_n (i := 0) (n := 60) C dX0_become_59 rfl rfl rfl ?_
  refine zV_aload_n (i := 1) (n := 61) C dX0_become_60 rfl rfl rfl ?_
  refine zV_getI (f := 2) (fi := 2) (n := 64) C zk0 fX0_23 dX0_become_61 (zs_car (by omega)) rfl (by decide) rfl rfl ?_
  rw [zreg_src hne, zreg_src hne, zc_cnt]
  refine zV_putI (f := 2) (fi := 2) (n := 67) C zk0 fX0_23 dX0_become_64 (zs_car (by omega)) rfl (by decide) rfl rfl rfl rfl ?_
  refine zV_aload_n (i := 0) (n := 68) C dX0_become_67 rfl rfl rfl ?_
  refine zV_aload_n (i := 1) (n := 69) C dX0_become_68 rfl rfl rfl ?_
  refine zV_getI (f := 3) (fi := 3) (n := 72) C zk0 fX0_27 dX0_become_69 (zs_car (by omega)) rfl (by decide) rfl rfl ?_
  rw [zup_ne (fun q => hne q.1), zreg_src hne, zreg_src hne, zc_rain]
  refine zV_putI (f := 3) (fi := 3) (n := 75) C zk0 fX0_27 dX0_become_72 (zs_car (by omega)) rfl (by decide) rfl rfl rfl rfl ?_
  refine zV_aload_n (i := 0) (n := 76) C dX0_become_75 rfl rfl rfl ?_
  refine zV_aload_n (i := 1) (n := 77) C dX0_become_76 rfl rfl rfl ?_
  refine zV_getI (f := 4) (fi := 4) (n := 80) C zk0 fX0_30 dX0_become_77 (zs_car (by omega)) rfl (by decide) rfl rfl ?_
  rw [zup_ne (fun q => hne q.1), zup_ne (fun q => hne q.1), zreg_src hne, zreg_src hne, zc_min]
  refine zV_putI (f := 4) (fi := 4) (n := 83) C zk0 fX0_30 dX0_become_80 (zs_car (by omega)) rfl (by decide) rfl rfl rfl rfl ?_
  refine zV_aload_n (i := 0) (n := 84) C dX0_become_83 rfl rfl rfl ?_
  refine zV_aload_n (i := 1) (n := 85) C dX0_become_84 rfl rfl rfl ?_
  refine zV_getI (f := 5) (fi := 5) (n := 88) C zk0 fX0_33 dX0_become_85 (zs_car (by omega)) rfl (by decide) rfl rfl ?_
  rw [zup_ne (fun q => hne q.1), zup_ne (fun q => hne q.1), zup_ne (fun q => hne q.1), zreg_src hne, zreg_src hne, zc_spent]
  refine zV_putI (f := 5) (fi := 5) (n := 91) C zk0 fX0_33 dX0_become_88 (zs_car (by omega)) rfl (by decide) rfl rfl rfl rfl ?_
  exact zV_return C hr hlk dX0_become_91 (by rfl) (by exact zreg_car hne (by omega) rfl rfl rfl rfl rfl rfl)

set_option maxRecDepth 100000 in
set_option maxHeartbeats 4000000 in
theorem c_tell {Γ : zC} {l : Launch} {d : Nat} {μ : zMem} {f code : Int} (hf : 0 ≤ f ∧ f ≤ 6) (hc : -1000000001 - f = code) : zRet Γ l (d + 0) qX8_tell [.ref (za Γ 4 0), .int (zi f)] μ (some (.int (zi code))) (zset μ 4 17 (rFind (μ 4 17) code)) := by
  refine zRet.mk 0 [.ref (za Γ 4 0), .int (zi f)] RX8 rfl (by decide +kernel) (Nat.le_of_ble_eq_true rfl) rfl ?_
  intro p e s m below meth c C hr hlk
  refine zV_aload_n (i := 0) (n := 1) C dX8_tell_0 rfl rfl rfl ?_
  refine zV_getP (f := 6) (n := 4) C zk7 fX8_42 dX8_tell_1 zs_cls rfl (by decide) rfl ?_
  refine zV_iload_n (i := 1) (n := 5) C dX8_tell_4 rfl rfl rfl ?_
  refine zV_dup2 (n := 6) C dX8_tell_5 rfl rfl rfl ?_
  refine zV_iald (n := 7) C dX8_tell_6 zs_told (by first | omega | exact zb_rg) (by decide) rfl ?_
  refine zV_iconst (n := 8) C dX8_tell_7 rfl ?_
  refine zV_iadd (n := 9) C dX8_tell_8 rfl ?_
  refine zV_iast (n := 10) C dX8_tell_9 zs_told (by first | omega | exact zb_rg) (by decide) rfl ?_
  refine zV_ldc_w (n := 13) C dX8_tell_10 kX8_268 rfl ?_
  refine zV_iload_n (i := 1) (n := 14) C dX8_tell_13 rfl rfl rfl ?_
  refine zV_isub (n := 15) C dX8_tell_14 rfl ?_
  exact zV_ireturn C hr hlk dX8_tell_15 (by rw [hc]) (by rw [zup_zset]; unfold rFind; rw [show -1000000001 - code = f from by omega])

