/-! the class: ways (laid by wip/whole/gen/cls8.py) -/
set_option maxRecDepth 100000 in
set_option maxHeartbeats 4000000 in
theorem c_listThree_loop {Γ : zC} {l : Launch} {d : Nat} {p : Program} {e : Env} {s : State} {m : MethodId} {args : Array Value} {below : List Frame} {meth : Method} {c : Code} {Q : State → Prop} (C : zCx Γ (zAA Γ) p s m args c RX7 cX7_listThree 4) {μ : zMem} {x : Nat} (hx : x ∈ pop3) :
    ∀ (i : Nat) (c0 n : Nat) (F : Int → Int) (hn : n = cntB x c0) (hF : ∀ k : Int, 0 ≤ k → k < n → F k = thI x k) (hi : c0 + i = 6) (KK : ∀ (F : Int → Int) (n c0 : Nat), (∀ k : Int, 0 ≤ k → k < 3 → F k = thI x k) → zV Γ (zAA Γ) p l e (zRm (d + 0)) s m args below meth c 0 0 Q 39 [.ref (za Γ 4 4), .int (zi (x : Int)), .int (zi (n : Int)), .int (zi (c0 : Int))] [] (zset μ 4 5 F)), zV Γ (zAA Γ) p l e (zRm (d + 0)) s m args below meth c 0 0 Q 4 [.ref (za Γ 4 4), .int (zi (x : Int)), .int (zi (n : Int)), .int (zi (c0 : Int))] [] (zset μ 4 5 F) := by
  intro i
  induction i with
  | zero =>
    intro c0 n F hn hF hi KK
    have hc : c0 = 6 := by omega
    subst hc
    have h3 := (th_3 (c := 0) hx (by omega)).2
    refine zV_iload_n (i := 3) (n := 5) C dX7_listThree_4 rfl rfl rfl ?_
    refine zV_bipush (n := 7) C dX7_listThree_5 (by decide) rfl ?_
    refine zV_icmp_ge (n := 10) C 39 dX7_listThree_7 (by decide) (by first | omega | exact zb_rg) (by first | omega | exact zb_rg) rfl (fun h7 => ?_) (fun h => by exfalso; first | omega | exact zb_rg)
    exact KK F n 6 (fun k k0 k1 => hF k k0 (by omega))
  | succ i ih =>
    intro c0 n F hn hF hi KK
    have hx6 := pop3_lt x hx
    have h3 := (th_3 (c := c0) hx (by omega)).1
    obtain ⟨v, ev, hv, hv2⟩ := and_ex (x := x) (c := c0) hx6 (by omega)
    refine zV_iload_n (i := 3) (n := 5) C dX7_listThree_4 rfl rfl rfl ?_
    refine zV_bipush (n := 7) C dX7_listThree_5 (by decide) rfl ?_
    refine zV_icmp_ge (n := 10) C 39 dX7_listThree_7 (by decide) (by first | omega | exact zb_rg) (by first | omega | exact zb_rg) rfl (fun h => by exfalso; first | omega | exact zb_rg) (fun h7 => ?_)
    refine zV_iload_n (i := 2) (n := 11) C dX7_listThree_10 rfl rfl rfl ?_
    refine zV_iconst (n := 12) C dX7_listThree_11 rfl ?_
    refine zV_icmp_ge (n := 15) C 39 dX7_listThree_12 (by decide) (by first | omega | exact zb_rg) (by first | omega | exact zb_rg) rfl (fun h12 => ?_) (fun h12 => ?_)
    · skip
      exact KK F n c0 (fun k k0 k1 => hF k k0 (by omega))
    · skip
      refine zV_iload_n (i := 1) (n := 16) C dX7_listThree_15 rfl rfl rfl ?_
      refine zV_iconst (n := 17) C dX7_listThree_16 rfl ?_
      refine zV_iload_n (i := 3) (n := 18) C dX7_listThree_17 rfl rfl rfl ?_
      refine zV_ishl0 (n := 19) C dX7_listThree_18 rfl ?_
      refine zV_iand0 (n := 20) C dX7_listThree_19 rfl ?_
      rw [ev]
      refine zV_if_eq (n := 23) C 33 dX7_listThree_20 (by decide) (by first | omega | exact zb_rg) rfl (fun h20 => ?_) (fun h20 => ?_)
      · skip
        refine zS_iinc_4_3 (n := 36) C dX7_listThree_33 rfl rfl ?_
        refine zV_goto C 4 dX7_listThree_36 (by decide) ?_
        have eb := hv2.mp h20
        exact ih (c0 + 1) n F (by rw [th_f hx (by omega) eb]; exact hn) hF (by omega) KK
      · skip
        refine zV_aload_n (i := 0) (n := 24) C dX7_listThree_23 rfl rfl rfl ?_
        refine zV_getP (f := 1) (n := 27) C zk6 fX7_18 dX7_listThree_24 zs_ways rfl (by decide) rfl ?_
        refine zV_iload_n (i := 2) (n := 28) C dX7_listThree_27 rfl rfl rfl ?_
        refine zV_iload_n (i := 3) (n := 29) C dX7_listThree_28 rfl rfl rfl ?_
        refine zV_iast (n := 30) C dX7_listThree_29 zs_three (by first | omega | exact zb_rg) (by decide) rfl ?_
        rw [zup_set]
        refine zS_iinc_4_2 (n := 33) C dX7_listThree_30 rfl rfl ?_
        refine zS_iinc_4_3 (n := 36) C dX7_listThree_33 rfl rfl ?_
        refine zV_goto C 4 dX7_listThree_36 (by decide) ?_
        have eb : bt x c0 = true := by cases hb : bt x c0; exact absurd (hv2.mpr hb) h20; rfl
        have et := th_t hx (by omega) eb
        exact ih (c0 + 1) (n + 1) (zfu F (n : Int) (c0 : Int)) (by rw [et.2, hn]) (fun k k0 k1 => by
        by_cases hk : k = (n : Int)
        · rw [hk, zfu_at, thI_nat, hn, et.1]
        · rw [zfu_ne hk]; exact hF k k0 (by omega)) (by omega) KK

set_option maxRecDepth 100000 in
set_option maxHeartbeats 4000000 in
theorem c_listThree {Γ : zC} {l : Launch} {d : Nat} {μ : zMem} {x : Nat} (hx : x ∈ pop3) : zRet Γ l (d + 0) qX7_listThree [.ref (za Γ 4 4), .int (zi (x : Int))] μ none (zset μ 4 5 (thI x)) := by
  refine zRet.mk 2 [.ref (za Γ 4 4), .int (zi (x : Int)), .null, .null] RX7 rfl (by decide +kernel) (Nat.le_of_ble_eq_true rfl) rfl ?_
  intro p e s m below meth c C hr hlk
  refine zV_iconst (n := 1) C dX7_listThree_0 rfl ?_
  refine zS_istore_n_4_2 (n := 2) C dX7_listThree_1 rfl rfl ?_
  refine zV_iconst (n := 3) C dX7_listThree_2 rfl ?_
  refine zS_istore_n_4_3 (n := 4) C dX7_listThree_3 rfl rfl ?_
  refine zV_eqm (μ' := zset μ 4 5 (μ 4 5)) zset_self.symm ?_
  refine c_listThree_loop C hx 6 0 0 (μ 4 5) rfl (fun k k0 k1 => by omega) (by omega) (fun F n c0 hF => ?_)
  refine zV_mem (μ' := zset μ 4 5 (thI x)) (zag_row zs_three (fun j j0 j1 => hF j j0 (by simpa [zlenS] using j1))) ?_
  exact zV_return C hr hlk dX7_listThree_39 rfl rfl

set_option maxRecDepth 100000 in
set_option maxHeartbeats 4000000 in
theorem c_takeStep {Γ : zC} {l : Launch} {d : Nat} {μ : zMem} {T : Int → Int} {N : Int} (I : rInv N T) {st w xx k : Int} (hst : 0 ≤ st ∧ st < 3) (hw : 0 ≤ w ∧ w < 3) (h3 : μ 4 5 w = xx) (hx : 0 ≤ xx ∧ xx < T 0) (hk : 0 ≤ k ∧ k < 3) (hn : rAt T xx = -1) (hf : itS T k 4 = -1) : zRet Γ l (d + 3) qX7_takeStep [.ref (za Γ 4 4), .int (zi st), .int (zi w), .int (zi k)] (zcar μ 3 T) (some (.int (zi (rSec T xx k)))) (zup (zcar μ 3 (rClick T xx k)) 4 6 st (10 * xx + k)) := by
  refine zRet.mk 2 [.ref (za Γ 4 4), .int (zi st), .int (zi w), .int (zi k), .null, .null] RX7 rfl (by decide +kernel) (Nat.le_of_ble_eq_true rfl) rfl ?_
  intro p e s m below meth c C hr hlk
  have z0 := I.1
  have hq := rSec_rg I (x := xx) (k := k) (by omega) hk
  refine zV_aload_n (i := 0) (n := 1) C dX7_takeStep_0 rfl rfl rfl ?_
  refine zV_getP (f := 1) (n := 4) C zk6 fX7_18 dX7_takeStep_1 zs_ways rfl (by decide) rfl ?_
  refine zV_iload_n (i := 2) (n := 5) C dX7_takeStep_4 rfl rfl rfl ?_
  refine zV_iald (n := 6) C dX7_takeStep_5 zs_three (by first | omega | exact zb_rg) (by decide) rfl ?_
  rw [zc_ne (by decide), h3]
  refine zS_istore_6_4 (n := 8) C dX7_takeStep_6 rfl rfl ?_
  refine zV_aload_n (i := 0) (n := 9) C dX7_takeStep_8 rfl rfl rfl ?_
  refine zV_getP (f := 0) (n := 12) C zk6 fX7_12 dX7_takeStep_9 zs_ways rfl (by decide) rfl ?_
  refine zV_iload (n := 14) C dX7_takeStep_12 rfl rfl ?_
  refine zV_iload_n (i := 3) (n := 15) C dX7_takeStep_14 rfl rfl rfl ?_
  refine zV_callV2u (n := 18) C zk0 jX0_secondsFor lX7_51 (c_secondsFor (d := d) (by decide) I (by omega) (by omega)) dX7_takeStep_15 (zs_car (by omega)) rfl (Nat.le_of_ble_eq_true rfl) (zfit_of (by omega) (by decide)) ⟨Nat.le_refl _, Nat.le_refl _⟩ rfl ?_
  refine zS_istore_6_5 (n := 20) C dX7_takeStep_18 rfl rfl ?_
  refine zV_aload_n (i := 0) (n := 21) C dX7_takeStep_20 rfl rfl rfl ?_
  refine zV_getP (f := 0) (n := 24) C zk6 fX7_12 dX7_takeStep_21 zs_ways rfl (by decide) rfl ?_
  refine zV_iload (n := 26) C dX7_takeStep_24 rfl rfl ?_
  refine zV_iload_n (i := 3) (n := 27) C dX7_takeStep_26 rfl rfl rfl ?_
  refine zV_callV2v (n := 30) C zk0 jX0_clickIn lX7_55 (c_clickIn (d := d) (by decide) I (by omega) (by omega) hn hf) dX7_takeStep_27 (zs_car (by omega)) rfl (Nat.le_of_ble_eq_true rfl) (zfit_of (by omega) (by decide)) ⟨Nat.le_refl _, Nat.le_refl _⟩ rfl ?_
  refine zV_aload_n (i := 0) (n := 31) C dX7_takeStep_30 rfl rfl rfl ?_
  refine zV_getP (f := 2) (n := 34) C zk6 fX7_22 dX7_takeStep_31 zs_ways rfl (by decide) rfl ?_
  refine zV_iload_n (i := 1) (n := 35) C dX7_takeStep_34 rfl rfl rfl ?_
  refine zV_bipush (n := 37) C dX7_takeStep_35 (by decide) rfl ?_
  refine zV_iload (n := 39) C dX7_takeStep_37 rfl rfl ?_
  refine zV_imul (n := 40) C dX7_takeStep_39 rfl ?_
  refine zV_iload_n (i := 3) (n := 41) C dX7_takeStep_40 rfl rfl rfl ?_
  refine zV_iadd (n := 42) C dX7_takeStep_41 rfl ?_
  refine zV_iast (n := 43) C dX7_takeStep_42 zs_steps (by first | omega | exact zb_rg) (by decide) rfl ?_
  refine zV_iload (n := 45) C dX7_takeStep_43 rfl rfl ?_
  exact zV_ireturn C hr hlk dX7_takeStep_45 (by rfl) (by rfl)

set_option maxRecDepth 100000 in
set_option maxHeartbeats 4000000 in
theorem c_keepIfBetter {Γ : zC} {l : Launch} {d : Nat} {μ : zMem} {b t : Int} (hb : μ 4 4 4 = b) (hbr : -1 ≤ b ∧ b ≤ 438) (ht : 0 ≤ t ∧ t ≤ 438) : zRet Γ l (d + 1) qX7_keepIfBetter [.ref (za Γ 4 4), .int (zi t)] μ none (if b = -1 ∨ t < b then zset (zup μ 4 4 4 t) 4 7 (fun i => if 0 ≤ i ∧ i < 0 + 3 then zup μ 4 4 4 t 4 6 (0 + (i - 0)) else zup μ 4 4 4 t 4 7 i) else μ) := by
  refine zRet.mk 0 [.ref (za Γ 4 4), .int (zi t)] RX7 rfl (by decide +kernel) (Nat.le_of_ble_eq_true rfl) rfl ?_
  intro p e s m below meth c C hr hlk
  refine zV_aload_n (i := 0) (n := 1) C dX7_keepIfBetter_0 rfl rfl rfl ?_
  refine zV_getI (f := 4) (fi := 4) (n := 4) C zk6 fX7_28 dX7_keepIfBetter_1 zs_ways rfl (by decide) rfl rfl ?_
  rw [hb]
  refine zV_iconst (n := 5) C dX7_keepIfBetter_4 rfl ?_
  refine zV_icmp_eq (n := 8) C 16 dX7_keepIfBetter_5 (by decide) (by first | omega | exact zb_rg) (by first | omega | exact zb_rg) rfl (fun h5 => ?_) (fun h5 => ?_)
  · skip
    refine zV_aload_n (i := 0) (n := 17) C dX7_keepIfBetter_16 rfl rfl rfl ?_
    refine zV_iload_n (i := 1) (n := 18) C dX7_keepIfBetter_17 rfl rfl rfl ?_
    refine zV_putI (f := 4) (fi := 4) (n := 21) C zk6 fX7_28 dX7_keepIfBetter_18 zs_ways rfl (by decide) rfl rfl rfl rfl ?_
    refine zV_aload_n (i := 0) (n := 22) C dX7_keepIfBetter_21 rfl rfl rfl ?_
    refine zV_getP (f := 2) (n := 25) C zk6 fX7_22 dX7_keepIfBetter_22 zs_ways rfl (by decide) rfl ?_
    refine zV_iconst (n := 26) C dX7_keepIfBetter_25 rfl ?_
    refine zV_aload_n (i := 0) (n := 27) C dX7_keepIfBetter_26 rfl rfl rfl ?_
    refine zV_getP (f := 3) (n := 30) C zk6 fX7_25 dX7_keepIfBetter_27 zs_ways rfl (by decide) rfl ?_
    refine zV_iconst (n := 31) C dX7_keepIfBetter_30 rfl ?_
    refine zV_iconst (n := 32) C dX7_keepIfBetter_31 rfl ?_
    refine zV_copyi (n := 35) C lX7_59 dX7_keepIfBetter_32 zs_steps zs_best (by omega) (by decide) (Nat.le_of_ble_eq_true rfl) (zfit_of (by omega) (by decide)) rfl ?_
    exact zV_return C hr hlk dX7_keepIfBetter_35 (by rfl) (by first | exact zif_t (by omega) (rfl) | exact zif_f (by omega) rfl)
  · skip
    refine zV_iload_n (i := 1) (n := 9) C dX7_keepIfBetter_8 rfl rfl rfl ?_
    refine zV_aload_n (i := 0) (n := 10) C dX7_keepIfBetter_9 rfl rfl rfl ?_
    refine zV_getI (f := 4) (fi := 4) (n := 13) C zk6 fX7_28 dX7_keepIfBetter_10 zs_ways rfl (by decide) rfl rfl ?_
    rw [hb]
    refine zV_icmp_ge (n := 16) C 35 dX7_keepIfBetter_13 (by decide) (by first | omega | exact zb_rg) (by first | omega | exact zb_rg) rfl (fun h13 => ?_) (fun h13 => ?_)
    · skip
      exact zV_return C hr hlk dX7_keepIfBetter_35 (by rfl) (by first | exact zif_t (by omega) (rfl) | exact zif_f (by omega) rfl)
    · skip
      refine zV_aload_n (i := 0) (n := 17) C dX7_keepIfBetter_16 rfl rfl rfl ?_
      refine zV_iload_n (i := 1) (n := 18) C dX7_keepIfBetter_17 rfl rfl rfl ?_
      refine zV_putI (f := 4) (fi := 4) (n := 21) C zk6 fX7_28 dX7_keepIfBetter_18 zs_ways rfl (by decide) rfl rfl rfl rfl ?_
      refine zV_aload_n (i := 0) (n := 22) C dX7_keepIfBetter_21 rfl rfl rfl ?_
      refine zV_getP (f := 2) (n := 25) C zk6 fX7_22 dX7_keepIfBetter_22 zs_ways rfl (by decide) rfl ?_
      refine zV_iconst (n := 26) C dX7_keepIfBetter_25 rfl ?_
      refine zV_aload_n (i := 0) (n := 27) C dX7_keepIfBetter_26 rfl rfl rfl ?_
      refine zV_getP (f := 3) (n := 30) C zk6 fX7_25 dX7_keepIfBetter_27 zs_ways rfl (by decide) rfl ?_
      refine zV_iconst (n := 31) C dX7_keepIfBetter_30 rfl ?_
      refine zV_iconst (n := 32) C dX7_keepIfBetter_31 rfl ?_
      refine zV_copyi (n := 35) C lX7_59 dX7_keepIfBetter_32 zs_steps zs_best (by omega) (by decide) (Nat.le_of_ble_eq_true rfl) (zfit_of (by omega) (by decide)) rfl ?_
      exact zV_return C hr hlk dX7_keepIfBetter_35 (by rfl) (by first | exact zif_t (by omega) (rfl) | exact zif_f (by omega) rfl)

theorem cst_P {μ : zMem} {S : Int → Int} {q : zMem × Int × (Int → Int) × (Int → Int)} {w : Nat} (h : ((∀ X : Int → Int, X 0 = S 0 → zcar q.1 3 X = zcar μ 3 X) ∧ -1 ≤ q.2.1 ∧ q.2.1 ≤ 438)) (hw : 0 ≤ wsec S w ∧ wsec S w ≤ 438) (h0 : wfin S w 0 = S 0) : ((∀ X : Int → Int, X 0 = S 0 → zcar (cSt μ S q w).1 3 X = zcar μ 3 X) ∧ -1 ≤ (cSt μ S q w).2.1 ∧ (cSt μ S q w).2.1 ≤ 438) := by
  refine ⟨fun X hX => zcar_car (hX.trans h0.symm), ?_⟩
  have e : (cSt μ S q w).2.1 = if q.2.1 = -1 ∨ wsec S w < q.2.1 then wsec S w else q.2.1 := rfl
  rw [e]
  split <;> omega
set_option maxRecDepth 100000 in
set_option maxHeartbeats 4000000 in
theorem c_ff_body {Γ : zC} {l : Launch} {d : Nat} {p : Program} {e : Env} {s : State} {m : MethodId} {args : Array Value} {below : List Frame} {meth : Method} {c : Code} {Q : State → Prop} (C : zCx Γ (zAA Γ) p s m args c RX7 cX7_findFrom 7) {μ : zMem} {S : Int → Int} {N : Int} (I : rInv N S) (hf : ∀ k : Int, 0 ≤ k → k < 3 → itS S k 4 = -1) {x : Nat} (hx : x ∈ pop3) (hxp : (x : Int) ≤ rP2 (S 0) - 1) {a s0 : Nat} (ha : a < 3) (hs0 : s0 < 3) {b1 t : Nat} (hb1 : b1 < 3) (ht : t < 3) {q : zMem × Int × (Int → Int) × (Int → Int)} (hP : ((∀ X : Int → Int, X 0 = S 0 → zcar q.1 3 X = zcar μ 3 X) ∧ -1 ≤ q.2.1 ∧ q.2.1 ≤ 438)) {v6 : Value} (KK : ∀ v6 : Value, ((∀ X : Int → Int, X 0 = S 0 → zcar ((if b1 ≠ a ∧ t ≠ s0 then [wy x a s0 b1 t] else []).foldl (cSt μ S) q).1 3 X = zcar μ 3 X) ∧ -1 ≤ ((if b1 ≠ a ∧ t ≠ s0 then [wy x a s0 b1 t] else []).foldl (cSt μ S) q).2.1 ∧ ((if b1 ≠ a ∧ t ≠ s0 then [wy x a s0 b1 t] else []).foldl (cSt μ S) q).2.1 ≤ 438) → zV Γ (zAA Γ) p l e (zRm (d + 4)) s m args below meth c 0 0 Q 12 [.ref (za Γ 4 4), .ref (za Γ 0 0), .int (zi (a : Int)), .int (zi (s0 : Int)), .int (zi (b1 : Int)), .int (zi ((t : Int) + 1)), v6] [] (zcar (zw ((if b1 ≠ a ∧ t ≠ s0 then [wy x a s0 b1 t] else []).foldl (cSt μ S) q).1 ((if b1 ≠ a ∧ t ≠ s0 then [wy x a s0 b1 t] else []).foldl (cSt μ S) q).2.1 (thI x) ((if b1 ≠ a ∧ t ≠ s0 then [wy x a s0 b1 t] else []).foldl (cSt μ S) q).2.2.1 ((if b1 ≠ a ∧ t ≠ s0 then [wy x a s0 b1 t] else []).foldl (cSt μ S) q).2.2.2) 0 S)) :
    zV Γ (zAA Γ) p l e (zRm (d + 4)) s m args below meth c 0 0 Q 12 [.ref (za Γ 4 4), .ref (za Γ 0 0), .int (zi (a : Int)), .int (zi (s0 : Int)), .int (zi (b1 : Int)), .int (zi (t : Int)), v6] [] (zcar (zw q.1 q.2.1 (thI x) q.2.2.1 q.2.2.2) 0 S) := by
  have z0 := I.1
  have hok := fun (q : b1 ≠ a ∧ t ≠ s0) => wy_mem hx ha hs0 hb1 ht q
  have hth0 := th_lt6 x hx a ha
  have hth1 := th_lt6 x hx b1 hb1
  refine zV_iload (n := 14) C dX7_findFrom_12 rfl rfl ?_
  refine zV_iconst (n := 15) C dX7_findFrom_14 rfl ?_
  refine zV_icmp_ge (n := 18) C 95 dX7_findFrom_15 (by decide) (by first | omega | exact zb_rg) (by first | omega | exact zb_rg) rfl (fun h => by exfalso; first | omega | exact zb_rg) (fun h15 => ?_)
  refine zV_iload (n := 20) C dX7_findFrom_18 rfl rfl ?_
  refine zV_iload_n (i := 2) (n := 21) C dX7_findFrom_20 rfl rfl rfl ?_
  refine zV_icmp_eq (n := 24) C 89 dX7_findFrom_21 (by decide) (by first | omega | exact zb_rg) (by first | omega | exact zb_rg) rfl (fun h21 => ?_) (fun h21 => ?_)
  · skip
    refine zS_iinc_7_5 (n := 92) C dX7_findFrom_89 rfl rfl ?_
    refine zV_goto C 12 dX7_findFrom_92 (by decide) ?_
    have K9 := KK v6
    rw [if_neg (by omega)] at K9
    exact K9 hP
  · skip
    refine zV_iload (n := 26) C dX7_findFrom_24 rfl rfl ?_
    refine zV_iload_n (i := 3) (n := 27) C dX7_findFrom_26 rfl rfl rfl ?_
    refine zV_icmp_eq (n := 30) C 89 dX7_findFrom_27 (by decide) (by first | omega | exact zb_rg) (by first | omega | exact zb_rg) rfl (fun h27 => ?_) (fun h27 => ?_)
    · skip
      refine zS_iinc_7_5 (n := 92) C dX7_findFrom_89 rfl rfl ?_
      refine zV_goto C 12 dX7_findFrom_92 (by decide) ?_
      have K9 := KK v6
      rw [if_neg (by omega)] at K9
      exact K9 hP
    · skip
      have hd := wy_D hx ha hs0 hb1 ht (by omega) (by omega)
      have hD := wok_all (w := wy x a s0 b1 t) I hf hxp (hok ⟨by omega, by omega⟩)
      rw [hd.1, hd.2.1, hd.2.2] at hD
      have e0 : (3 * th x a + s0) / 3 = th x a ∧ (3 * th x a + s0) % 3 = s0 := by omega
      have e1 : (3 * th x b1 + t) / 3 = th x b1 ∧ (3 * th x b1 + t) % 3 = t := by omega
      have e2 : (3 * th x (3 - a - b1) + (3 - s0 - t)) / 3 = th x (3 - a - b1) ∧ (3 * th x (3 - a - b1) + (3 - s0 - t)) % 3 = 3 - s0 - t := by omega
      rw [e0.1, e0.2, e1.1, e1.2, e2.1, e2.2] at hD
      have hw := way_ok (c0 := (th x a : Nat)) (s0 := (s0 : Nat)) (c1 := (th x b1 : Nat)) (s1 := (t : Nat)) (c2 := (th x (3 - a - b1) : Nat)) (s2 := ((3 - s0 - t : Nat) : Int)) I hf hD.1 (by omega) hD.2.1 hD.2.2
      have eS : wsec S (wy x a s0 b1 t) = t3 S (th x a : Nat) (s0 : Nat) (th x b1 : Nat) (t : Nat) (th x (3 - a - b1) : Nat) ((3 - s0 - t : Nat) : Int) := by unfold wsec; rw [hd.1, hd.2.1, hd.2.2, e0.1, e0.2, e1.1, e1.2, e2.1, e2.2]
      have eF : wfin S (wy x a s0 b1 t) = w3 S (th x a : Nat) (s0 : Nat) (th x b1 : Nat) (t : Nat) (th x (3 - a - b1) : Nat) ((3 - s0 - t : Nat) : Int) := by unfold wfin; rw [hd.1, hd.2.1, hd.2.2, e0.1, e0.2, e1.1, e1.2, e2.1, e2.2]
      have r0 := rSec_rg I (x := (th x a : Nat)) (k := (s0 : Nat)) (by omega) (by omega)
      have r1 := rSec_rg hw.2.1.1 (x := (th x b1 : Nat)) (k := (t : Nat)) (by omega) (by omega)
      have r2 := rSec_rg hw.2.2.1.1 (x := (th x (3 - a - b1) : Nat)) (k := ((3 - s0 - t : Nat) : Int)) (by omega) (by omega)
      have hS3 : 0 ≤ wsec S (wy x a s0 b1 t) ∧ wsec S (wy x a s0 b1 t) ≤ 438 := by rw [eS]; unfold t3; omega
      have hPq := cst_P (q := q) hP hS3 (by rw [eF]; exact hw.2.2.2)
      have e9w : (3 : Int) - (a : Int) - (b1 : Int) = ((3 - a - b1 : Nat) : Int) := by omega
      have e9s : (3 : Int) - (s0 : Int) - (t : Int) = ((3 - s0 - t : Nat) : Int) := by omega
      have q1 := hw.2.1.2.1
      have q2 := hw.2.2.1.2.1
      refine zV_aload_n (i := 0) (n := 31) C dX7_findFrom_30 rfl rfl rfl ?_
      refine zV_getP (f := 0) (n := 34) C zk6 fX7_12 dX7_findFrom_31 zs_ways rfl (by decide) rfl ?_
      refine zV_aload_n (i := 1) (n := 35) C dX7_findFrom_34 rfl rfl rfl ?_
      refine zV_callV1v (n := 38) C zk0 jX0_become lX7_40 (c_become (d := d) (by omega) (by omega) (by omega) I) dX7_findFrom_35 (zs_car (by omega)) rfl (Nat.le_of_ble_eq_true rfl) (zfit_of (by omega) (by decide)) ⟨Nat.le_refl _, Nat.le_refl _⟩ rfl ?_
      refine zV_aload_n (i := 0) (n := 39) C dX7_findFrom_38 rfl rfl rfl ?_
      refine zV_iconst (n := 40) C dX7_findFrom_39 rfl ?_
      refine zV_iload_n (i := 2) (n := 41) C dX7_findFrom_40 rfl rfl rfl ?_
      refine zV_iload_n (i := 3) (n := 42) C dX7_findFrom_41 rfl rfl rfl ?_
      refine zV_callV3u (n := 45) C zk6 jX7_takeStep lX7_44 (c_takeStep (d := d) I (st := 0) (xx := (th x a : Nat)) (by omega) (by omega) (by rw [zc_ne (by decide), zw_3]; exact thI_nat) (by omega) (by omega) hw.1.1 hw.1.2) dX7_findFrom_42 zs_ways rfl (Nat.le_of_ble_eq_true rfl) (zfit_of (by omega) (by decide)) ⟨Nat.le_refl _, Nat.le_refl _⟩ rfl ?_
      rw [zcu_4 (by decide), zcu_4 (by decide), zwu_s]
      refine zS_istore_7_6 (n := 47) C dX7_findFrom_45 rfl rfl ?_
      refine zV_iload (n := 49) C dX7_findFrom_47 rfl rfl ?_
      refine zV_aload_n (i := 0) (n := 50) C dX7_findFrom_49 rfl rfl rfl ?_
      refine zV_iconst (n := 51) C dX7_findFrom_50 rfl ?_
      refine zV_iload (n := 53) C dX7_findFrom_51 rfl rfl ?_
      refine zV_iload (n := 55) C dX7_findFrom_53 rfl rfl ?_
      refine zV_callV3u (n := 58) C zk6 jX7_takeStep lX7_44 (c_takeStep (d := d) hw.2.1.1 (st := 1) (xx := (th x b1 : Nat)) (by omega) (by omega) (by rw [zc_ne (by decide), zw_3]; exact thI_nat) (by omega) (by omega) hw.2.1.2.2.1 hw.2.1.2.2.2) dX7_findFrom_55 zs_ways rfl (Nat.le_of_ble_eq_true rfl) (zfit_of (by omega) (by decide)) ⟨Nat.le_refl _, Nat.le_refl _⟩ rfl ?_
      rw [zcu_4 (by decide), zcu_4 (by decide), zwu_s]
      refine zV_iadd (n := 59) C dX7_findFrom_58 rfl ?_
      refine zS_istore_7_6 (n := 61) C dX7_findFrom_59 rfl rfl ?_
      refine zV_iload (n := 63) C dX7_findFrom_61 rfl rfl ?_
      refine zV_aload_n (i := 0) (n := 64) C dX7_findFrom_63 rfl rfl rfl ?_
      refine zV_iconst (n := 65) C dX7_findFrom_64 rfl ?_
      refine zV_iconst (n := 66) C dX7_findFrom_65 rfl ?_
      refine zV_iload_n (i := 2) (n := 67) C dX7_findFrom_66 rfl rfl rfl ?_
      refine zV_isub (n := 68) C dX7_findFrom_67 rfl ?_
      refine zV_iload (n := 70) C dX7_findFrom_68 rfl rfl ?_
      refine zV_isub (n := 71) C dX7_findFrom_70 rfl ?_
      refine zV_iconst (n := 72) C dX7_findFrom_71 rfl ?_
      refine zV_iload_n (i := 3) (n := 73) C dX7_findFrom_72 rfl rfl rfl ?_
      refine zV_isub (n := 74) C dX7_findFrom_73 rfl ?_
      refine zV_iload (n := 76) C dX7_findFrom_74 rfl rfl ?_
      refine zV_isub (n := 77) C dX7_findFrom_76 rfl ?_
      refine zV_callV3u (n := 80) C zk6 jX7_takeStep lX7_44 (c_takeStep (d := d) hw.2.2.1.1 (st := 2) (xx := (th x (3 - a - b1) : Nat)) (by omega) (by omega) (by rw [zc_ne (by decide), zw_3]; exact (by rw [e9w]; exact thI_nat)) (by omega) (by omega) hw.2.2.1.2.2.1 (by rw [e9s]; exact hw.2.2.1.2.2.2)) dX7_findFrom_77 zs_ways rfl (Nat.le_of_ble_eq_true rfl) (zfit_of (by omega) (by decide)) ⟨Nat.le_refl _, Nat.le_refl _⟩ rfl ?_
      rw [e9s]
      rw [zcu_4 (by decide), zcu_4 (by decide), zwu_s]
      refine zV_iadd (n := 81) C dX7_findFrom_80 rfl ?_
      rw [show rSec S (th x a : Nat) (s0 : Nat) + rSec (w1 S (th x a : Nat) (s0 : Nat)) (th x b1 : Nat) (t : Nat) + rSec (w2 S (th x a : Nat) (s0 : Nat) (th x b1 : Nat) (t : Nat)) (th x (3 - a - b1) : Nat) ((3 - s0 - t : Nat) : Int) = wsec S (wy x a s0 b1 t) from eS.symm]
      refine zS_istore_7_6 (n := 83) C dX7_findFrom_81 rfl rfl ?_
      refine zV_aload_n (i := 0) (n := 84) C dX7_findFrom_83 rfl rfl rfl ?_
      refine zV_iload (n := 86) C dX7_findFrom_84 rfl rfl ?_
      refine zV_callV1v (n := 89) C zk6 jX7_keepIfBetter lX7_48 (c_keepIfBetter (d := d) (b := q.2.1) (t := wsec S (wy x a s0 b1 t)) (by rw [zc_ne (by decide), zc_ne (by decide), zw_b]) hP.2 hS3) dX7_findFrom_86 zs_ways rfl (Nat.le_of_ble_eq_true rfl) (zfit_of (by omega) (by decide)) ⟨Nat.le_refl _, Nat.le_refl _⟩ rfl ?_
      refine zS_iinc_7_5 (n := 92) C dX7_findFrom_89 rfl rfl ?_
      refine zV_goto C 12 dX7_findFrom_92 (by decide) ?_
      have K9 := KK (.int (zi (wsec S (wy x a s0 b1 t))))
      rw [if_pos (show b1 ≠ a ∧ t ≠ s0 from ⟨by omega, by omega⟩)] at K9
      refine zV_mem ?_ (K9 hPq)
      have er := cdg_w (Fs := q.2.2.1) hd.1 hd.2.1 hd.2.2
      rw [e0.1, e0.2, e1.1, e1.2, e2.1, e2.2] at er
      have eM : ∀ (b9 : Int) (G9 : Int → Int), zcar (zcar (zw q.1 b9 (thI x) (zfu (zfu (zfu q.2.2.1 0 (10 * (th x a : Nat) + (s0 : Nat))) 1 (10 * (th x b1 : Nat) + (t : Nat))) 2 (10 * (th x (3 - a - b1) : Nat) + ((3 - s0 - t : Nat) : Int))) G9) 0 S) 3 (rClick (w2 S (th x a : Nat) (s0 : Nat) (th x b1 : Nat) (t : Nat)) (th x (3 - a - b1) : Nat) ((3 - s0 - t : Nat) : Int)) = zcar (zw (zcar μ 3 (wfin S (wy x a s0 b1 t))) b9 (thI x) (zfu (zfu (zfu q.2.2.1 0 (10 * (th x a : Nat) + (s0 : Nat))) 1 (10 * (th x b1 : Nat) + (t : Nat))) 2 (10 * (th x (3 - a - b1) : Nat) + ((3 - s0 - t : Nat) : Int))) G9) 0 S := by
        intro b9 G9
        rw [zcar_comm (by decide), zw_car (by decide), hP.1 (rClick (w2 S (th x a : Nat) (s0 : Nat) (th x b1 : Nat) (t : Nat)) (th x (3 - a - b1) : Nat) ((3 - s0 - t : Nat) : Int)) hw.2.2.2, eF]; rfl
      show zag _ (zcar (zw (zcar μ 3 (wfin S (wy x a s0 b1 t))) (if q.2.1 = -1 ∨ wsec S (wy x a s0 b1 t) < q.2.1 then wsec S (wy x a s0 b1 t) else q.2.1) (thI x) (cdg (wy x a s0 b1 t)) (if q.2.1 = -1 ∨ wsec S (wy x a s0 b1 t) < q.2.1 then cdg (wy x a s0 b1 t) else q.2.2.2)) 0 S)
      by_cases hkb : q.2.1 = -1 ∨ wsec S (wy x a s0 b1 t) < q.2.1
      · rw [if_pos hkb, if_pos hkb, if_pos hkb, zcu_4 (by decide), zcu_4 (by decide), zwu_b, zcs_4 (by decide), zcs_4 (by decide), zws_f, eM]
        exact zag_zw er (fun i i0 i1 => by rw [if_pos ⟨i0, by omega⟩, show (0 : Int) + (i - 0) = i from by omega, zc_ne (by decide), zc_ne (by decide)]; exact er i i0 i1)
      · rw [if_neg hkb, if_neg hkb, if_neg hkb, eM]
        exact zag_zw er (fun i i0 i1 => rfl)

set_option maxRecDepth 100000 in
set_option maxHeartbeats 4000000 in
theorem c_ff_row {Γ : zC} {l : Launch} {d : Nat} {p : Program} {e : Env} {s : State} {m : MethodId} {args : Array Value} {below : List Frame} {meth : Method} {c : Code} {Q : State → Prop} (C : zCx Γ (zAA Γ) p s m args c RX7 cX7_findFrom 7) {μ : zMem} {S : Int → Int} {N : Int} (I : rInv N S) (hf : ∀ k : Int, 0 ≤ k → k < 3 → itS S k 4 = -1) {x : Nat} (hx : x ∈ pop3) (hxp : (x : Int) ≤ rP2 (S 0) - 1) {a s0 : Nat} (ha : a < 3) (hs0 : s0 < 3) {b1 : Nat} (hb1 : b1 < 3) {q : zMem × Int × (Int → Int) × (Int → Int)} (hP : ((∀ X : Int → Int, X 0 = S 0 → zcar q.1 3 X = zcar μ 3 X) ∧ -1 ≤ q.2.1 ∧ q.2.1 ≤ 438)) {v5 v6 : Value} (KK : ∀ v5 v6 : Value, ((∀ X : Int → Int, X 0 = S 0 → zcar (((List.range 3).flatMap fun t => if b1 ≠ a ∧ t ≠ s0 then [wy x a s0 b1 t] else []).foldl (cSt μ S) q).1 3 X = zcar μ 3 X) ∧ -1 ≤ (((List.range 3).flatMap fun t => if b1 ≠ a ∧ t ≠ s0 then [wy x a s0 b1 t] else []).foldl (cSt μ S) q).2.1 ∧ (((List.range 3).flatMap fun t => if b1 ≠ a ∧ t ≠ s0 then [wy x a s0 b1 t] else []).foldl (cSt μ S) q).2.1 ≤ 438) → zV Γ (zAA Γ) p l e (zRm (d + 4)) s m args below meth c 0 0 Q 3 [.ref (za Γ 4 4), .ref (za Γ 0 0), .int (zi (a : Int)), .int (zi (s0 : Int)), .int (zi ((b1 : Int) + 1)), v5, v6] [] (zcar (zw (((List.range 3).flatMap fun t => if b1 ≠ a ∧ t ≠ s0 then [wy x a s0 b1 t] else []).foldl (cSt μ S) q).1 (((List.range 3).flatMap fun t => if b1 ≠ a ∧ t ≠ s0 then [wy x a s0 b1 t] else []).foldl (cSt μ S) q).2.1 (thI x) (((List.range 3).flatMap fun t => if b1 ≠ a ∧ t ≠ s0 then [wy x a s0 b1 t] else []).foldl (cSt μ S) q).2.2.1 (((List.range 3).flatMap fun t => if b1 ≠ a ∧ t ≠ s0 then [wy x a s0 b1 t] else []).foldl (cSt μ S) q).2.2.2) 0 S)) :
    zV Γ (zAA Γ) p l e (zRm (d + 4)) s m args below meth c 0 0 Q 3 [.ref (za Γ 4 4), .ref (za Γ 0 0), .int (zi (a : Int)), .int (zi (s0 : Int)), .int (zi (b1 : Int)), v5, v6] [] (zcar (zw q.1 q.2.1 (thI x) q.2.2.1 q.2.2.2) 0 S) := by
  refine zV_iload (n := 5) C dX7_findFrom_3 rfl rfl ?_
  refine zV_iconst (n := 6) C dX7_findFrom_5 rfl ?_
  refine zV_icmp_ge (n := 9) C 101 dX7_findFrom_6 (by decide) (by first | omega | exact zb_rg) (by first | omega | exact zb_rg) rfl (fun h => by exfalso; first | omega | exact zb_rg) (fun h6 => ?_)
  refine zV_iconst (n := 10) C dX7_findFrom_9 rfl ?_
  refine zS_istore_7_5 (n := 12) C dX7_findFrom_10 rfl rfl ?_
  refine c_ff_body C I hf hx hxp ha hs0 hb1 (t := 0) (by omega) hP (fun v6 hP => ?_)
  refine c_ff_body C I hf hx hxp ha hs0 hb1 (t := 1) (by omega) hP (fun v6 hP => ?_)
  refine c_ff_body C I hf hx hxp ha hs0 hb1 (t := 2) (by omega) hP (fun v6 hP => ?_)
  refine zV_iload (n := 14) C dX7_findFrom_12 rfl rfl ?_
  refine zV_iconst (n := 15) C dX7_findFrom_14 rfl ?_
  refine zV_icmp_ge (n := 18) C 95 dX7_findFrom_15 (by decide) (by omega) (by omega) rfl (fun h => ?_) (fun h => by exfalso; omega)
  refine zS_iinc_7_4 (n := 98) C dX7_findFrom_95 rfl rfl ?_
  refine zV_goto C 3 dX7_findFrom_98 (by decide) ?_
  have K9 := KK (.int (zi (((2 : Nat) : Int) + 1))) v6
  rw [fl3] at K9
  exact K9 hP

set_option maxRecDepth 100000 in
set_option maxHeartbeats 4000000 in
theorem c_findFrom {Γ : zC} {l : Launch} {d : Nat} {μ : zMem} {S : Int → Int} {N : Int} (I : rInv N S) (hf : ∀ k : Int, 0 ≤ k → k < 3 → itS S k 4 = -1) {x : Nat} (hx : x ∈ pop3) (hxp : (x : Int) ≤ rP2 (S 0) - 1) {a s0 : Nat} (ha : a < 3) (hs0 : s0 < 3) {q : zMem × Int × (Int → Int) × (Int → Int)} (hP : ((∀ X : Int → Int, X 0 = S 0 → zcar q.1 3 X = zcar μ 3 X) ∧ -1 ≤ q.2.1 ∧ q.2.1 ≤ 438)) : zRet Γ l (d + 4) qX7_findFrom [.ref (za Γ 4 4), .ref (za Γ 0 0), .int (zi (a : Int)), .int (zi (s0 : Int))] (zcar (zw q.1 q.2.1 (thI x) q.2.2.1 q.2.2.2) 0 S) none (zcar (zw ((wsub x a s0).foldl (cSt μ S) q).1 ((wsub x a s0).foldl (cSt μ S) q).2.1 (thI x) ((wsub x a s0).foldl (cSt μ S) q).2.2.1 ((wsub x a s0).foldl (cSt μ S) q).2.2.2) 0 S) := by
  refine zRet.mk 3 [.ref (za Γ 4 4), .ref (za Γ 0 0), .int (zi (a : Int)), .int (zi (s0 : Int)), .null, .null, .null] RX7 rfl (by decide +kernel) (Nat.le_of_ble_eq_true rfl) rfl ?_
  intro p e s m below meth c C hr hlk
  refine zV_iconst (n := 1) C dX7_findFrom_0 rfl ?_
  refine zS_istore_7_4 (n := 3) C dX7_findFrom_1 rfl rfl ?_
  refine c_ff_row C I hf hx hxp ha hs0 (b1 := 0) (by omega) hP (fun v5 v6 hP => ?_)
  refine c_ff_row C I hf hx hxp ha hs0 (b1 := 1) (by omega) hP (fun v5 v6 hP => ?_)
  refine c_ff_row C I hf hx hxp ha hs0 (b1 := 2) (by omega) hP (fun v5 v6 hP => ?_)
  refine zV_iload (n := 5) C dX7_findFrom_3 rfl rfl ?_
  refine zV_iconst (n := 6) C dX7_findFrom_5 rfl ?_
  refine zV_icmp_ge (n := 9) C 101 dX7_findFrom_6 (by decide) (by omega) (by omega) rfl (fun h => ?_) (fun h => by exfalso; omega)
  exact zV_return C hr hlk dX7_findFrom_101 rfl (congrArg (fun (q9 : zMem × Int × (Int → Int) × (Int → Int)) => zcar (zw q9.1 q9.2.1 (thI x) q9.2.2.1 q9.2.2.2) 0 S) (fl3 (f := fun b1 => (List.range 3).flatMap fun t => if b1 ≠ a ∧ t ≠ s0 then [wy x a s0 b1 t] else []) (g := cSt μ S) (q := q)).symm)

theorem fold_P {μ : zMem} {S : Int → Int} : ∀ (L : List Nat), (∀ w ∈ L, (0 ≤ wsec S w ∧ wsec S w ≤ 438) ∧ wfin S w 0 = S 0) → ∀ q : zMem × Int × (Int → Int) × (Int → Int), ((∀ X : Int → Int, X 0 = S 0 → zcar q.1 3 X = zcar μ 3 X) ∧ -1 ≤ q.2.1 ∧ q.2.1 ≤ 438) → ((∀ X : Int → Int, X 0 = S 0 → zcar (L.foldl (cSt μ S) q).1 3 X = zcar μ 3 X) ∧ -1 ≤ (L.foldl (cSt μ S) q).2.1 ∧ (L.foldl (cSt μ S) q).2.1 ≤ 438) := by
  intro L
  induction L with
  | nil => intro _ q h; exact h
  | cons w L ih =>
    intro hL q h
    have hw := hL w List.mem_cons_self
    exact ih (fun v hv => hL v (List.mem_cons_of_mem _ hv)) _ (cst_P h hw.1 hw.2)
theorem wok_f {N : Int} {S : Int → Int} {x w : Nat} (I : rInv N S) (hf : ∀ k : Int, 0 ≤ k → k < 3 → itS S k 4 = -1) (hx : (x : Int) ≤ rP2 (S 0) - 1) (h : wok x w = true) : (0 ≤ wsec S w ∧ wsec S w ≤ 438) ∧ wfin S w 0 = S 0 := by
  have h0 := I.1
  have hD := wok_all I hf hx h
  have hd := D_rg w
  have hw := way_ok I hf hD.1 (s0 := ((D0 w % 3 : Nat) : Int)) (s1 := ((D1 w % 3 : Nat) : Int)) (s2 := ((D2 w % 3 : Nat) : Int)) (by omega) hD.2.1 hD.2.2
  have r0 := rSec_rg I (x := ((D0 w / 3 : Nat) : Int)) (k := ((D0 w % 3 : Nat) : Int)) (by omega) (by omega)
  have r1 := rSec_rg hw.2.1.1 (x := ((D1 w / 3 : Nat) : Int)) (k := ((D1 w % 3 : Nat) : Int)) (by omega) (by omega)
  have r2 := rSec_rg hw.2.2.1.1 (x := ((D2 w / 3 : Nat) : Int)) (k := ((D2 w % 3 : Nat) : Int)) (by omega) (by omega)
  refine ⟨?_, hw.2.2.2⟩
  unfold wsec t3
  omega
theorem wsub_ok : ∀ x ∈ pop3, ∀ a : Nat, a < 3 → ∀ s : Nat, s < 3 → (wsub x a s).all (wok x) = true := by decide +kernel
set_option maxRecDepth 100000 in
set_option maxHeartbeats 4000000 in
theorem c_find_body {Γ : zC} {l : Launch} {d : Nat} {p : Program} {e : Env} {s : State} {m : MethodId} {args : Array Value} {below : List Frame} {meth : Method} {c : Code} {Q : State → Prop} (C : zCx Γ (zAA Γ) p s m args c RX7 cX7_find 5) {μ : zMem} {S : Int → Int} {N : Int} (I : rInv N S) (hf : ∀ k : Int, 0 ≤ k → k < 3 → itS S k 4 = -1) {x : Nat} (hx : x ∈ pop3) (hxp : (x : Int) ≤ rP2 (S 0) - 1) {a s0 : Nat} (ha : a < 3) (hs0 : s0 < 3) {q : zMem × Int × (Int → Int) × (Int → Int)} (hP : ((∀ X : Int → Int, X 0 = S 0 → zcar q.1 3 X = zcar μ 3 X) ∧ -1 ≤ q.2.1 ∧ q.2.1 ≤ 438)) (KK : ((∀ X : Int → Int, X 0 = S 0 → zcar ((wsub x a s0).foldl (cSt μ S) q).1 3 X = zcar μ 3 X) ∧ -1 ≤ ((wsub x a s0).foldl (cSt μ S) q).2.1 ∧ ((wsub x a s0).foldl (cSt μ S) q).2.1 ≤ 438) → zV Γ (zAA Γ) p l e (zRm (d + 5)) s m args below meth c 0 0 Q 20 [.ref (za Γ 4 4), .ref (za Γ 0 0), .int (zi (x : Int)), .int (zi (a : Int)), .int (zi ((s0 : Int) + 1))] [] (zcar (zw ((wsub x a s0).foldl (cSt μ S) q).1 ((wsub x a s0).foldl (cSt μ S) q).2.1 (thI x) ((wsub x a s0).foldl (cSt μ S) q).2.2.1 ((wsub x a s0).foldl (cSt μ S) q).2.2.2) 0 S)) :
    zV Γ (zAA Γ) p l e (zRm (d + 5)) s m args below meth c 0 0 Q 20 [.ref (za Γ 4 4), .ref (za Γ 0 0), .int (zi (x : Int)), .int (zi (a : Int)), .int (zi (s0 : Int))] [] (zcar (zw q.1 q.2.1 (thI x) q.2.2.1 q.2.2.2) 0 S) := by
  refine zV_iload (n := 22) C dX7_find_20 rfl rfl ?_
  refine zV_iconst (n := 23) C dX7_find_22 rfl ?_
  refine zV_icmp_ge (n := 26) C 40 dX7_find_23 (by decide) (by first | omega | exact zb_rg) (by first | omega | exact zb_rg) rfl (fun h => by exfalso; first | omega | exact zb_rg) (fun h23 => ?_)
  refine zV_aload_n (i := 0) (n := 27) C dX7_find_26 rfl rfl rfl ?_
  refine zV_aload_n (i := 1) (n := 28) C dX7_find_27 rfl rfl rfl ?_
  refine zV_iload_n (i := 3) (n := 29) C dX7_find_28 rfl rfl rfl ?_
  refine zV_iload (n := 31) C dX7_find_29 rfl rfl ?_
  refine zV_callV3v (n := 34) C zk6 jX7_findFrom lX7_36 (c_findFrom (d := d) I hf hx hxp ha hs0 hP) dX7_find_31 zs_ways rfl (Nat.le_of_ble_eq_true rfl) (zfit_of (by omega) (by decide)) ⟨Nat.le_refl _, Nat.le_refl _⟩ rfl ?_
  refine zS_iinc_5_4 (n := 37) C dX7_find_34 rfl rfl ?_
  refine zV_goto C 20 dX7_find_37 (by decide) ?_
  have hP2 := fold_P (wsub x a s0) (fun w hw => wok_f I hf hxp (List.all_eq_true.mp (wsub_ok x hx a ha s0 hs0) w hw)) q hP
  exact KK hP2

set_option maxRecDepth 100000 in
set_option maxHeartbeats 4000000 in
theorem c_find_row {Γ : zC} {l : Launch} {d : Nat} {p : Program} {e : Env} {s : State} {m : MethodId} {args : Array Value} {below : List Frame} {meth : Method} {c : Code} {Q : State → Prop} (C : zCx Γ (zAA Γ) p s m args c RX7 cX7_find 5) {μ : zMem} {S : Int → Int} {N : Int} (I : rInv N S) (hf : ∀ k : Int, 0 ≤ k → k < 3 → itS S k 4 = -1) {x : Nat} (hx : x ∈ pop3) (hxp : (x : Int) ≤ rP2 (S 0) - 1) {a : Nat} (ha : a < 3) {q : zMem × Int × (Int → Int) × (Int → Int)} (hP : ((∀ X : Int → Int, X 0 = S 0 → zcar q.1 3 X = zcar μ 3 X) ∧ -1 ≤ q.2.1 ∧ q.2.1 ≤ 438)) {v4 : Value} (KK : ∀ v4 : Value, ((∀ X : Int → Int, X 0 = S 0 → zcar (((List.range 3).flatMap fun s0 => wsub x a s0).foldl (cSt μ S) q).1 3 X = zcar μ 3 X) ∧ -1 ≤ (((List.range 3).flatMap fun s0 => wsub x a s0).foldl (cSt μ S) q).2.1 ∧ (((List.range 3).flatMap fun s0 => wsub x a s0).foldl (cSt μ S) q).2.1 ≤ 438) → zV Γ (zAA Γ) p l e (zRm (d + 5)) s m args below meth c 0 0 Q 12 [.ref (za Γ 4 4), .ref (za Γ 0 0), .int (zi (x : Int)), .int (zi ((a : Int) + 1)), v4] [] (zcar (zw (((List.range 3).flatMap fun s0 => wsub x a s0).foldl (cSt μ S) q).1 (((List.range 3).flatMap fun s0 => wsub x a s0).foldl (cSt μ S) q).2.1 (thI x) (((List.range 3).flatMap fun s0 => wsub x a s0).foldl (cSt μ S) q).2.2.1 (((List.range 3).flatMap fun s0 => wsub x a s0).foldl (cSt μ S) q).2.2.2) 0 S)) :
    zV Γ (zAA Γ) p l e (zRm (d + 5)) s m args below meth c 0 0 Q 12 [.ref (za Γ 4 4), .ref (za Γ 0 0), .int (zi (x : Int)), .int (zi (a : Int)), v4] [] (zcar (zw q.1 q.2.1 (thI x) q.2.2.1 q.2.2.2) 0 S) := by
  refine zV_iload_n (i := 3) (n := 13) C dX7_find_12 rfl rfl rfl ?_
  refine zV_iconst (n := 14) C dX7_find_13 rfl ?_
  refine zV_icmp_ge (n := 17) C 46 dX7_find_14 (by decide) (by first | omega | exact zb_rg) (by first | omega | exact zb_rg) rfl (fun h => by exfalso; first | omega | exact zb_rg) (fun h14 => ?_)
  refine zV_iconst (n := 18) C dX7_find_17 rfl ?_
  refine zS_istore_5_4 (n := 20) C dX7_find_18 rfl rfl ?_
  refine c_find_body C I hf hx hxp ha (s0 := 0) (by omega) hP (fun hP => ?_)
  refine c_find_body C I hf hx hxp ha (s0 := 1) (by omega) hP (fun hP => ?_)
  refine c_find_body C I hf hx hxp ha (s0 := 2) (by omega) hP (fun hP => ?_)
  refine zV_iload (n := 22) C dX7_find_20 rfl rfl ?_
  refine zV_iconst (n := 23) C dX7_find_22 rfl ?_
  refine zV_icmp_ge (n := 26) C 40 dX7_find_23 (by decide) (by omega) (by omega) rfl (fun h => ?_) (fun h => by exfalso; omega)
  refine zS_iinc_5_3 (n := 43) C dX7_find_40 rfl rfl ?_
  refine zV_goto C 12 dX7_find_43 (by decide) ?_
  have K9 := KK (.int (zi (((2 : Nat) : Int) + 1)))
  rw [fl3] at K9
  exact K9 hP

set_option maxRecDepth 100000 in
set_option maxHeartbeats 4000000 in
theorem c_find {Γ : zC} {l : Launch} {d : Nat} {μ : zMem} {S : Int → Int} {N : Int} (I : rInv N S) (hf : ∀ k : Int, 0 ≤ k → k < 3 → itS S k 4 = -1) {x : Nat} (hx : x ∈ pop3) (hxp : (x : Int) ≤ rP2 (S 0) - 1)  : zRet Γ l (d + 5) qX7_find [.ref (za Γ 4 4), .ref (za Γ 0 0), .int (zi (x : Int))] (zcar μ 0 S) none (zcar (zw ((cwl x).foldl (cSt μ S) (μ, (-1 : Int), μ 4 6, μ 4 7)).1 ((cwl x).foldl (cSt μ S) (μ, (-1 : Int), μ 4 6, μ 4 7)).2.1 (thI x) ((cwl x).foldl (cSt μ S) (μ, (-1 : Int), μ 4 6, μ 4 7)).2.2.1 ((cwl x).foldl (cSt μ S) (μ, (-1 : Int), μ 4 6, μ 4 7)).2.2.2) 0 S) := by
  refine zRet.mk 2 [.ref (za Γ 4 4), .ref (za Γ 0 0), .int (zi (x : Int)), .null, .null] RX7 rfl (by decide +kernel) (Nat.le_of_ble_eq_true rfl) rfl ?_
  intro p e s m below meth c C hr hlk
  refine zV_aload_n (i := 0) (n := 1) C dX7_find_0 rfl rfl rfl ?_
  refine zV_iload_n (i := 2) (n := 2) C dX7_find_1 rfl rfl rfl ?_
  refine zV_callV1v (n := 5) C zk6 jX7_listThree lX7_32 (c_listThree (d := d) hx) dX7_find_2 zs_ways rfl (Nat.le_of_ble_eq_true rfl) (zfit_of (by omega) (by decide)) ⟨Nat.le_refl _, Nat.le_refl _⟩ rfl ?_
  refine zV_aload_n (i := 0) (n := 6) C dX7_find_5 rfl rfl rfl ?_
  refine zV_iconst (n := 7) C dX7_find_6 rfl ?_
  refine zV_putI (f := 4) (fi := 4) (n := 10) C zk6 fX7_28 dX7_find_7 zs_ways rfl (by decide) rfl rfl rfl rfl ?_
  rw [zcs_4 (by decide), zcu_4 (by decide), zw_init]
  refine zV_iconst (n := 11) C dX7_find_10 rfl ?_
  refine zS_istore_n_5_3 (n := 12) C dX7_find_11 rfl rfl ?_
  have hP : ((∀ X : Int → Int, X 0 = S 0 → zcar (μ, (-1 : Int), μ 4 6, μ 4 7).1 3 X = zcar μ 3 X) ∧ -1 ≤ (μ, (-1 : Int), μ 4 6, μ 4 7).2.1 ∧ (μ, (-1 : Int), μ 4 6, μ 4 7).2.1 ≤ 438) := ⟨fun X _ => rfl, show (-1 : Int) ≤ -1 from by decide, show (-1 : Int) ≤ 438 from by decide⟩
  refine zV_eqm (μ' := (zcar (zw (μ, (-1 : Int), μ 4 6, μ 4 7).1 (μ, (-1 : Int), μ 4 6, μ 4 7).2.1 (thI x) (μ, (-1 : Int), μ 4 6, μ 4 7).2.2.1 (μ, (-1 : Int), μ 4 6, μ 4 7).2.2.2) 0 S)) rfl ?_
  refine c_find_row C I hf hx hxp (a := 0) (by omega) hP (fun v4 hP => ?_)
  refine c_find_row C I hf hx hxp (a := 1) (by omega) hP (fun v4 hP => ?_)
  refine c_find_row C I hf hx hxp (a := 2) (by omega) hP (fun v4 hP => ?_)
  refine zV_iload_n (i := 3) (n := 13) C dX7_find_12 rfl rfl rfl ?_
  refine zV_iconst (n := 14) C dX7_find_13 rfl ?_
  refine zV_icmp_ge (n := 17) C 46 dX7_find_14 (by decide) (by omega) (by omega) rfl (fun h => ?_) (fun h => by exfalso; omega)
  exact zV_return C hr hlk dX7_find_46 rfl (congrArg (fun (q9 : zMem × Int × (Int → Int) × (Int → Int)) => zcar (zw q9.1 q9.2.1 (thI x) q9.2.2.1 q9.2.2.2) 0 S) (fl3 (f := fun a => (List.range 3).flatMap fun s0 => wsub x a s0) (g := cSt μ S) (q := (μ, (-1 : Int), μ 4 6, μ 4 7))).symm)

set_option maxRecDepth 100000 in
set_option maxHeartbeats 4000000 in
theorem c_all {Γ : zC} {l : Launch} {d : Nat} {μ : zMem} {S : Int → Int} {N : Int} (I : rInv N S) (hN : N ≤ 10000) {x : Int} (hx : -2147483648 ≤ x ∧ x ≤ 2147483647) : zRet Γ l (d + 6) qX8_all [.ref (za Γ 4 0), .int (zi x)] (zcar μ 0 S) (some (.int (zi (if rW3 S x = 0 then ((cwl x.toNat).foldl (cSt μ S) (μ, (-1 : Int), μ 4 6, μ 4 7)).2.1 else rW3 S x)))) (if rW3 S x = 0 then (zcar (zw ((cwl x.toNat).foldl (cSt μ S) (μ, (-1 : Int), μ 4 6, μ 4 7)).1 ((cwl x.toNat).foldl (cSt μ S) (μ, (-1 : Int), μ 4 6, μ 4 7)).2.1 (thI x.toNat) ((cwl x.toNat).foldl (cSt μ S) (μ, (-1 : Int), μ 4 6, μ 4 7)).2.2.1 ((cwl x.toNat).foldl (cSt μ S) (μ, (-1 : Int), μ 4 6, μ 4 7)).2.2.2) 0 S) else zset (zcar μ 0 S) 4 17 (rFind ((zcar μ 0 S) 4 17) (rW3 S x))) := by
  refine zRet.mk 0 [.ref (za Γ 4 0), .int (zi x)] RX8 rfl (by decide +kernel) (Nat.le_of_ble_eq_true rfl) rfl ?_
  intro p e s m below meth c C hr hlk
  have h0 := I.1
  have h1 := I.2.1
  have h2 := I.2.2.1
  have h3 := I.2.2.2.1
  have hp2 := rP2_rg (S 0)
  have hpop := rPop_rg (x := x)
  refine zV_aload_n (i := 0) (n := 1) C dX8_all_0 rfl rfl rfl ?_
  refine zV_getP (f := 0) (n := 4) C zk7 fX8_10 dX8_all_1 zs_cls rfl (by decide) rfl ?_
  refine zV_iload_n (i := 1) (n := 5) C dX8_all_4 rfl rfl rfl ?_
  refine zV_callV1u (n := 8) C zk0 jX0_hasSet lX8_178 (c_hasSet (d := d) (by omega) I (by omega)) dX8_all_5 (zs_car (by omega)) rfl (Nat.le_of_ble_eq_true rfl) (zfit_of (by omega) (by decide)) ⟨Nat.le_refl _, Nat.le_refl _⟩ rfl ?_
  refine zV_if_ne (n := 11) C 17 dX8_all_8 (by decide) (by first | omega | exact zb_rg) rfl (fun h8 => ?_) (fun h8 => ?_)
  · skip
    simp only [zb_eq0, Decidable.not_not] at h8
    refine zV_iload_n (i := 1) (n := 18) C dX8_all_17 rfl rfl rfl ?_
    refine zV_callS1u (n := 21) C jJ6_bitCount_0f7a4 lX8_181 (c_bitCount (d := d) (by omega)) dX8_all_18 (Nat.le_of_ble_eq_true rfl) (zfit_of (by omega) (by decide)) ⟨Nat.le_refl _, Nat.le_refl _⟩ rfl ?_
    refine zV_iconst (n := 22) C dX8_all_21 rfl ?_
    refine zV_icmp_eq (n := 25) C 32 dX8_all_22 (by decide) (by first | omega | exact zb_rg) (by first | omega | exact zb_rg) rfl (fun h22 => ?_) (fun h22 => ?_)
    · skip
      have hsit := rSit_rg I
      refine zV_aload_n (i := 0) (n := 33) C dX8_all_32 rfl rfl rfl ?_
      refine zV_getP (f := 0) (n := 36) C zk7 fX8_10 dX8_all_33 zs_cls rfl (by decide) rfl ?_
      refine zV_callV0u (n := 39) C zk0 jX0_sitting lX8_152 (c_sitting (d := d) (by omega) I) dX8_all_36 (zs_car (by omega)) rfl (Nat.le_of_ble_eq_true rfl) (zfit_of (by omega) (by decide)) ⟨Nat.le_refl _, Nat.le_refl _⟩ rfl ?_
      refine zV_if_eq (n := 42) C 48 dX8_all_39 (by decide) (by first | omega | exact zb_rg) rfl (fun h39 => ?_) (fun h39 => ?_)
      · skip
        have h3 : x.toNat ∈ pop3 := pop3_tab x.toNat (by omega) (by rw [Int.toNat_of_nonneg (by omega)]; omega)
        have ex : ((x.toNat : Nat) : Int) = x := Int.toNat_of_nonneg (by omega)
        refine zV_aload_n (i := 0) (n := 49) C dX8_all_48 rfl rfl rfl ?_
        refine zV_getP (f := 4) (n := 52) C zk7 fX8_32 dX8_all_49 zs_cls rfl (by decide) rfl ?_
        refine zV_aload_n (i := 0) (n := 53) C dX8_all_52 rfl rfl rfl ?_
        refine zV_getP (f := 0) (n := 56) C zk7 fX8_10 dX8_all_53 zs_cls rfl (by decide) rfl ?_
        refine zV_iload_n (i := 1) (n := 57) C dX8_all_56 rfl rfl rfl ?_
        refine zV_callV2v (n := 60) C zk6 jX7_find lX8_186 ((by have q := c_find (d := d) (l := l) (Γ := Γ) (μ := μ) I (rSit_none I (by omega)) h3 (by rw [ex]; omega); rw [ex] at q; exact q)) dX8_all_57 zs_ways rfl (Nat.le_of_ble_eq_true rfl) (zfit_of (by omega) (by decide)) ⟨Nat.le_refl _, Nat.le_refl _⟩ rfl ?_
        refine zV_aload_n (i := 0) (n := 61) C dX8_all_60 rfl rfl rfl ?_
        refine zV_getP (f := 4) (n := 64) C zk7 fX8_32 dX8_all_61 zs_cls rfl (by decide) rfl ?_
        refine zV_getI (f := 4) (fi := 4) (n := 67) C zk6 fX8_190 dX8_all_64 zs_ways rfl (by decide) rfl rfl ?_
        rw [zcw_b (by decide)]
        exact zV_ireturn C hr hlk dX8_all_67 (by exact congrArg (fun z => some (Value.int (zi z))) (zif_t (by unfold rW3; rw [if_pos (by omega), if_pos (by omega)]; exact if_pos (by omega)) rfl)) (by exact zif_t (by unfold rW3; rw [if_pos (by omega), if_pos (by omega)]; exact if_pos (by omega)) rfl)
      · skip
        refine zV_aload_n (i := 0) (n := 43) C dX8_all_42 rfl rfl rfl ?_
        refine zV_iconst (n := 44) C dX8_all_43 rfl ?_
        refine zV_callV1u (n := 47) C zk7 jX8_tell lX8_61 (c_tell (d := d) (f := 4) (code := -1000000005) (by decide) (by decide)) dX8_all_44 zs_cls rfl (Nat.le_of_ble_eq_true rfl) (zfit_of (by omega) (by decide)) ⟨Nat.le_refl _, Nat.le_refl _⟩ rfl ?_
        exact zV_ireturn C hr hlk dX8_all_47 (by exact congrArg (fun z => some (Value.int (zi z))) (by rw [show rW3 S x = -1000000005 from by unfold rW3; rw [if_pos (by omega), if_pos (by omega)]; exact if_neg (by omega)]; rfl)) (by rw [show rW3 S x = -1000000005 from by unfold rW3; rw [if_pos (by omega), if_pos (by omega)]; exact if_neg (by omega)]; rfl)
    · skip
      refine zV_aload_n (i := 0) (n := 26) C dX8_all_25 rfl rfl rfl ?_
      refine zV_bipush (n := 28) C dX8_all_26 (by decide) rfl ?_
      refine zV_callV1u (n := 31) C zk7 jX8_tell lX8_61 (c_tell (d := d) (f := 6) (code := -1000000007) (by decide) (by decide)) dX8_all_28 zs_cls rfl (Nat.le_of_ble_eq_true rfl) (zfit_of (by omega) (by decide)) ⟨Nat.le_refl _, Nat.le_refl _⟩ rfl ?_
      exact zV_ireturn C hr hlk dX8_all_31 (by exact congrArg (fun z => some (Value.int (zi z))) (by rw [show rW3 S x = -1000000007 from by unfold rW3; rw [if_pos (by omega)]; exact if_neg (by omega)]; rfl)) (by rw [show rW3 S x = -1000000007 from by unfold rW3; rw [if_pos (by omega)]; exact if_neg (by omega)]; rfl)
  · skip
    simp only [zb_eq0, Decidable.not_not] at h8
    refine zV_aload_n (i := 0) (n := 12) C dX8_all_11 rfl rfl rfl ?_
    refine zV_iconst (n := 13) C dX8_all_12 rfl ?_
    refine zV_callV1u (n := 16) C zk7 jX8_tell lX8_61 (c_tell (d := d) (f := 0) (code := -1000000001) (by decide) (by decide)) dX8_all_13 zs_cls rfl (Nat.le_of_ble_eq_true rfl) (zfit_of (by omega) (by decide)) ⟨Nat.le_refl _, Nat.le_refl _⟩ rfl ?_
    exact zV_ireturn C hr hlk dX8_all_16 (by exact congrArg (fun z => some (Value.int (zi z))) (by rw [show rW3 S x = -1000000001 from by unfold rW3; exact if_neg (by omega)]; rfl)) (by rw [show rW3 S x = -1000000001 from by unfold rW3; exact if_neg (by omega)]; rfl)

set_option maxRecDepth 100000 in
set_option maxHeartbeats 4000000 in
theorem c_way {Γ : zC} {l : Launch} {d : Nat} {μ : zMem} {S : Int → Int} {N : Int} (I : rInv N S) (hN : N ≤ 10000) {x : Int} (hx : -2147483648 ≤ x ∧ x ≤ 2147483647) {k : Int} (hk : -2147483648 ≤ k ∧ k ≤ 2147483647) : zRet Γ l (d + 6) qX8_way [.ref (za Γ 4 0), .int (zi x), .int (zi k)] (zcar μ 0 S) (some (.int (zi (if (if (0 ≤ k ∧ k ≤ 2) then rW3 S x else -1000000001) = 0 then ((cwl x.toNat).foldl (cSt μ S) (μ, (-1 : Int), μ 4 6, μ 4 7)).2.2.2 k else (if (0 ≤ k ∧ k ≤ 2) then rW3 S x else -1000000001))))) (if (if (0 ≤ k ∧ k ≤ 2) then rW3 S x else -1000000001) = 0 then (zcar (zw ((cwl x.toNat).foldl (cSt μ S) (μ, (-1 : Int), μ 4 6, μ 4 7)).1 ((cwl x.toNat).foldl (cSt μ S) (μ, (-1 : Int), μ 4 6, μ 4 7)).2.1 (thI x.toNat) ((cwl x.toNat).foldl (cSt μ S) (μ, (-1 : Int), μ 4 6, μ 4 7)).2.2.1 ((cwl x.toNat).foldl (cSt μ S) (μ, (-1 : Int), μ 4 6, μ 4 7)).2.2.2) 0 S) else zset (zcar μ 0 S) 4 17 (rFind ((zcar μ 0 S) 4 17) ((if (0 ≤ k ∧ k ≤ 2) then rW3 S x else -1000000001)))) := by
  refine zRet.mk 0 [.ref (za Γ 4 0), .int (zi x), .int (zi k)] RX8 rfl (by decide +kernel) (Nat.le_of_ble_eq_true rfl) rfl ?_
  intro p e s m below meth c C hr hlk
  have h0 := I.1
  have h1 := I.2.1
  have h2 := I.2.2.1
  have h3 := I.2.2.2.1
  have hp2 := rP2_rg (S 0)
  have hpop := rPop_rg (x := x)
  refine zV_aload_n (i := 0) (n := 1) C dX8_way_0 rfl rfl rfl ?_
  refine zV_getP (f := 0) (n := 4) C zk7 fX8_10 dX8_way_1 zs_cls rfl (by decide) rfl ?_
  refine zV_iload_n (i := 1) (n := 5) C dX8_way_4 rfl rfl rfl ?_
  refine zV_callV1u (n := 8) C zk0 jX0_hasSet lX8_178 (c_hasSet (d := d) (by omega) I (by omega)) dX8_way_5 (zs_car (by omega)) rfl (Nat.le_of_ble_eq_true rfl) (zfit_of (by omega) (by decide)) ⟨Nat.le_refl _, Nat.le_refl _⟩ rfl ?_
  refine zV_if_eq (n := 11) C 20 dX8_way_8 (by decide) (by first | omega | exact zb_rg) rfl (fun h8 => ?_) (fun h8 => ?_)
  · skip
    simp only [zb_eq0, Decidable.not_not] at h8
    refine zV_aload_n (i := 0) (n := 21) C dX8_way_20 rfl rfl rfl ?_
    refine zV_iconst (n := 22) C dX8_way_21 rfl ?_
    refine zV_callV1u (n := 25) C zk7 jX8_tell lX8_61 (c_tell (d := d) (f := 0) (code := -1000000001) (by decide) (by decide)) dX8_way_22 zs_cls rfl (Nat.le_of_ble_eq_true rfl) (zfit_of (by omega) (by decide)) ⟨Nat.le_refl _, Nat.le_refl _⟩ rfl ?_
    exact zV_ireturn C hr hlk dX8_way_25 (by exact congrArg (fun z => some (Value.int (zi z))) (by rw [show (if (0 ≤ k ∧ k ≤ 2) then rW3 S x else -1000000001) = -1000000001 from by split <;> first | rfl | (exfalso; omega) | (unfold rW3; exact if_neg (by omega))]; rfl)) (by rw [show (if (0 ≤ k ∧ k ≤ 2) then rW3 S x else -1000000001) = -1000000001 from by split <;> first | rfl | (exfalso; omega) | (unfold rW3; exact if_neg (by omega))]; rfl)
  · skip
    simp only [zb_eq0, Decidable.not_not] at h8
    refine zV_iload_n (i := 2) (n := 12) C dX8_way_11 rfl rfl rfl ?_
    refine zV_if_lt (n := 15) C 20 dX8_way_12 (by decide) (by first | omega | exact zb_rg) rfl (fun h12 => ?_) (fun h12 => ?_)
    · skip
      refine zV_aload_n (i := 0) (n := 21) C dX8_way_20 rfl rfl rfl ?_
      refine zV_iconst (n := 22) C dX8_way_21 rfl ?_
      refine zV_callV1u (n := 25) C zk7 jX8_tell lX8_61 (c_tell (d := d) (f := 0) (code := -1000000001) (by decide) (by decide)) dX8_way_22 zs_cls rfl (Nat.le_of_ble_eq_true rfl) (zfit_of (by omega) (by decide)) ⟨Nat.le_refl _, Nat.le_refl _⟩ rfl ?_
      exact zV_ireturn C hr hlk dX8_way_25 (by exact congrArg (fun z => some (Value.int (zi z))) (by rw [show (if (0 ≤ k ∧ k ≤ 2) then rW3 S x else -1000000001) = -1000000001 from by split <;> first | rfl | (exfalso; omega) | (unfold rW3; exact if_neg (by omega))]; rfl)) (by rw [show (if (0 ≤ k ∧ k ≤ 2) then rW3 S x else -1000000001) = -1000000001 from by split <;> first | rfl | (exfalso; omega) | (unfold rW3; exact if_neg (by omega))]; rfl)
    · skip
      refine zV_iload_n (i := 2) (n := 16) C dX8_way_15 rfl rfl rfl ?_
      refine zV_iconst (n := 17) C dX8_way_16 rfl ?_
      refine zV_icmp_lt (n := 20) C 26 dX8_way_17 (by decide) (by first | omega | exact zb_rg) (by first | omega | exact zb_rg) rfl (fun h17 => ?_) (fun h17 => ?_)
      · skip
        refine zV_iload_n (i := 1) (n := 27) C dX8_way_26 rfl rfl rfl ?_
        refine zV_callS1u (n := 30) C jJ6_bitCount_0f7a4 lX8_181 (c_bitCount (d := d) (by omega)) dX8_way_27 (Nat.le_of_ble_eq_true rfl) (zfit_of (by omega) (by decide)) ⟨Nat.le_refl _, Nat.le_refl _⟩ rfl ?_
        refine zV_iconst (n := 31) C dX8_way_30 rfl ?_
        refine zV_icmp_eq (n := 34) C 41 dX8_way_31 (by decide) (by first | omega | exact zb_rg) (by first | omega | exact zb_rg) rfl (fun h31 => ?_) (fun h31 => ?_)
        · skip
          have hsit := rSit_rg I
          refine zV_aload_n (i := 0) (n := 42) C dX8_way_41 rfl rfl rfl ?_
          refine zV_getP (f := 0) (n := 45) C zk7 fX8_10 dX8_way_42 zs_cls rfl (by decide) rfl ?_
          refine zV_callV0u (n := 48) C zk0 jX0_sitting lX8_152 (c_sitting (d := d) (by omega) I) dX8_way_45 (zs_car (by omega)) rfl (Nat.le_of_ble_eq_true rfl) (zfit_of (by omega) (by decide)) ⟨Nat.le_refl _, Nat.le_refl _⟩ rfl ?_
          refine zV_if_eq (n := 51) C 57 dX8_way_48 (by decide) (by first | omega | exact zb_rg) rfl (fun h48 => ?_) (fun h48 => ?_)
          · skip
            have h3 : x.toNat ∈ pop3 := pop3_tab x.toNat (by omega) (by rw [Int.toNat_of_nonneg (by omega)]; omega)
            have ex : ((x.toNat : Nat) : Int) = x := Int.toNat_of_nonneg (by omega)
            refine zV_aload_n (i := 0) (n := 58) C dX8_way_57 rfl rfl rfl ?_
            refine zV_getP (f := 4) (n := 61) C zk7 fX8_32 dX8_way_58 zs_cls rfl (by decide) rfl ?_
            refine zV_aload_n (i := 0) (n := 62) C dX8_way_61 rfl rfl rfl ?_
            refine zV_getP (f := 0) (n := 65) C zk7 fX8_10 dX8_way_62 zs_cls rfl (by decide) rfl ?_
            refine zV_iload_n (i := 1) (n := 66) C dX8_way_65 rfl rfl rfl ?_
            refine zV_callV2v (n := 69) C zk6 jX7_find lX8_186 ((by have q := c_find (d := d) (l := l) (Γ := Γ) (μ := μ) I (rSit_none I (by omega)) h3 (by rw [ex]; omega); rw [ex] at q; exact q)) dX8_way_66 zs_ways rfl (Nat.le_of_ble_eq_true rfl) (zfit_of (by omega) (by decide)) ⟨Nat.le_refl _, Nat.le_refl _⟩ rfl ?_
            refine zV_aload_n (i := 0) (n := 70) C dX8_way_69 rfl rfl rfl ?_
            refine zV_getP (f := 4) (n := 73) C zk7 fX8_32 dX8_way_70 zs_cls rfl (by decide) rfl ?_
            refine zV_getP (f := 3) (n := 76) C zk6 fX8_193 dX8_way_73 zs_ways rfl (by decide) rfl ?_
            refine zV_iload_n (i := 2) (n := 77) C dX8_way_76 rfl rfl rfl ?_
            refine zV_iald (n := 78) C dX8_way_77 zs_best (by first | omega | exact zb_rg) (by decide) rfl ?_
            rw [zcw_f (by decide)]
            exact zV_ireturn C hr hlk dX8_way_78 (by exact congrArg (fun z => some (Value.int (zi z))) (zif_t (by rw [if_pos (show 0 ≤ k ∧ k ≤ 2 from by omega)]; unfold rW3; rw [if_pos (by omega), if_pos (by omega)]; exact if_pos (by omega)) rfl)) (by exact zif_t (by rw [if_pos (show 0 ≤ k ∧ k ≤ 2 from by omega)]; unfold rW3; rw [if_pos (by omega), if_pos (by omega)]; exact if_pos (by omega)) rfl)
          · skip
            refine zV_aload_n (i := 0) (n := 52) C dX8_way_51 rfl rfl rfl ?_
            refine zV_iconst (n := 53) C dX8_way_52 rfl ?_
            refine zV_callV1u (n := 56) C zk7 jX8_tell lX8_61 (c_tell (d := d) (f := 4) (code := -1000000005) (by decide) (by decide)) dX8_way_53 zs_cls rfl (Nat.le_of_ble_eq_true rfl) (zfit_of (by omega) (by decide)) ⟨Nat.le_refl _, Nat.le_refl _⟩ rfl ?_
            exact zV_ireturn C hr hlk dX8_way_56 (by exact congrArg (fun z => some (Value.int (zi z))) (by rw [show (if (0 ≤ k ∧ k ≤ 2) then rW3 S x else -1000000001) = -1000000005 from by rw [if_pos (show 0 ≤ k ∧ k ≤ 2 from by omega)]; unfold rW3; rw [if_pos (by omega), if_pos (by omega)]; exact if_neg (by omega)]; rfl)) (by rw [show (if (0 ≤ k ∧ k ≤ 2) then rW3 S x else -1000000001) = -1000000005 from by rw [if_pos (show 0 ≤ k ∧ k ≤ 2 from by omega)]; unfold rW3; rw [if_pos (by omega), if_pos (by omega)]; exact if_neg (by omega)]; rfl)
        · skip
          refine zV_aload_n (i := 0) (n := 35) C dX8_way_34 rfl rfl rfl ?_
          refine zV_bipush (n := 37) C dX8_way_35 (by decide) rfl ?_
          refine zV_callV1u (n := 40) C zk7 jX8_tell lX8_61 (c_tell (d := d) (f := 6) (code := -1000000007) (by decide) (by decide)) dX8_way_37 zs_cls rfl (Nat.le_of_ble_eq_true rfl) (zfit_of (by omega) (by decide)) ⟨Nat.le_refl _, Nat.le_refl _⟩ rfl ?_
          exact zV_ireturn C hr hlk dX8_way_40 (by exact congrArg (fun z => some (Value.int (zi z))) (by rw [show (if (0 ≤ k ∧ k ≤ 2) then rW3 S x else -1000000001) = -1000000007 from by rw [if_pos (show 0 ≤ k ∧ k ≤ 2 from by omega)]; unfold rW3; rw [if_pos (by omega)]; exact if_neg (by omega)]; rfl)) (by rw [show (if (0 ≤ k ∧ k ≤ 2) then rW3 S x else -1000000001) = -1000000007 from by rw [if_pos (show 0 ≤ k ∧ k ≤ 2 from by omega)]; unfold rW3; rw [if_pos (by omega)]; exact if_neg (by omega)]; rfl)
      · skip
        refine zV_aload_n (i := 0) (n := 21) C dX8_way_20 rfl rfl rfl ?_
        refine zV_iconst (n := 22) C dX8_way_21 rfl ?_
        refine zV_callV1u (n := 25) C zk7 jX8_tell lX8_61 (c_tell (d := d) (f := 0) (code := -1000000001) (by decide) (by decide)) dX8_way_22 zs_cls rfl (Nat.le_of_ble_eq_true rfl) (zfit_of (by omega) (by decide)) ⟨Nat.le_refl _, Nat.le_refl _⟩ rfl ?_
        exact zV_ireturn C hr hlk dX8_way_25 (by exact congrArg (fun z => some (Value.int (zi z))) (by rw [show (if (0 ≤ k ∧ k ≤ 2) then rW3 S x else -1000000001) = -1000000001 from by split <;> first | rfl | (exfalso; omega) | (unfold rW3; exact if_neg (by omega))]; rfl)) (by rw [show (if (0 ≤ k ∧ k ≤ 2) then rW3 S x else -1000000001) = -1000000001 from by split <;> first | rfl | (exfalso; omega) | (unfold rW3; exact if_neg (by omega))]; rfl)

