/-! the class: the text of a car (laid by wip/whole/gen/cls10.py) -/
section CM
variable {ν : zMem} {C9 : Cst}
theorem cm_f : cM ν C9 4 2 3 = Cst.f C9 := rfl
theorem cm_k : cM ν C9 4 2 2 = tk (bA (ν 4 3) (ν 4 2 1) (Cst.f C9)) := rfl
theorem cm_l : cM ν C9 4 1 1 = Cst.l C9 := rfl
theorem zup_car {μ : zMem} {S : Int → Int} {k i z : Int} : zup (zcar μ 2 S) 4 k i z = zcar (zup μ 4 k i z) 2 S := by
  funext g' k' i'
  by_cases hg : g' = 2
  · subst hg
    rw [zup_ne (by omega), zc_at, zc_at]
    have e : zup μ 4 k i z 2 = μ 2 := by
      funext k2 i2
      rw [zup_ne (by omega)]
    rw [e]
  · rw [zc_ne hg]
    simp only [zup]
    rw [zc_ne hg]
theorem cmu_l {z : Int} : zup (cM ν C9) 4 1 1 z = cM ν (Cst.f C9, Cst.t C9, z, Cst.S C9) := by
  unfold cM
  rw [zup_car]
  unfold qM
  rw [zqu_l]
theorem cmu_kid {x f v : Int} (hx : 0 ≤ x ∧ x < Cst.S C9 0) (hf : 0 ≤ f ∧ f < 6) : zup (cM ν C9) 2 (6 + x) f v = cM ν (cRow C9 (zfu (Cst.S C9) (19 + 6 * x + f) v)) := zcu_kid hx hf
theorem cmu_seat {k f v : Int} (hk : 0 ≤ k ∧ k < 3) (hf : 0 ≤ f ∧ f < 4) : zup (cM ν C9) 2 (3 + k) f v = cM ν (cRow C9 (zfu (Cst.S C9) (4 + 5 * k + f) v)) := zcu_seat hk hf
theorem cmu_rain {v : Int} : zup (cM ν C9) 2 0 3 v = cM ν (cRow C9 (zfu (Cst.S C9) 3 v)) := zcu_head (i := 3) (by omega)
end CM
section CT
variable {Γ : zC} {l : Launch} {d : Nat} {ν : zMem} {C9 : Cst} {N : Int}
theorem x_next (hT : tapeOk (ν 4 3) (ν 4 2 1)) (hC : cOk N (ν 4 3) (ν 4 2 1) C9) : zRet Γ l (d + 1) qX6_next [.ref (za Γ 4 2)] (cM ν C9) none (cM ν (cNx (ν 4 3) (ν 4 2 1) C9)) := by
  have ht := cOk_t hT hC
  have hf := hC.1
  have h := c_next (Γ := Γ) (l := l) (d := d) (μ := zcar ν 2 (Cst.S C9)) (tok := tk (bA (ν 4 3) (ν 4 2 1) (Cst.f C9))) (f := Cst.f C9) (t := Cst.t C9) (v := cV (ν 4 3) (ν 4 2 1) (Cst.f C9) (Cst.t C9)) (fl := Cst.l C9) hT (show 0 ≤ Cst.t C9 ∧ Cst.t C9 ≤ ν 4 2 1 from by omega)
  rw [zq_car, qM_car] at h
  exact h
theorem x_isWord {i9 : Nat} (hi : i9 < 14) (hT : tapeOk (ν 4 3) (ν 4 2 1)) (hC : cOk N (ν 4 3) (ν 4 2 1) C9) : zRet Γ l (d + 4) qX6_isWord [.ref (za Γ 4 2), .ref (zaK Γ i9)] (cM ν C9) (some (.int (zi (zb (cW (ν 4 3) (ν 4 2 1) i9 (Cst.f C9) (Cst.t C9)))))) (cM ν C9) := by
  have ht := cOk_t hT hC
  have h := c_isWord (Γ := Γ) (l := l) (d := d) (μ := zcar ν 2 (Cst.S C9)) (f := Cst.f C9) (t := Cst.t C9) (fl := Cst.l C9) hT hi hC.1 (show Cst.f C9 ≤ Cst.t C9 ∧ Cst.t C9 ≤ ν 4 2 1 from by omega)
  rw [qM_car] at h
  exact h
theorem x_numberUpTo {hi9 : Int} (hh : 0 ≤ hi9 ∧ hi9 ≤ 1000) (hT : tapeOk (ν 4 3) (ν 4 2 1)) (hC : cOk N (ν 4 3) (ν 4 2 1) C9) : zRet Γ l (d + 0) qX6_numberUpTo [.ref (za Γ 4 2), .int (zi hi9)] (cM ν C9) (some (.int (zi (if cOkN (ν 4 3) (ν 4 2 1) hi9 C9 then cV (ν 4 3) (ν 4 2 1) (Cst.f C9) (Cst.t C9) else -1)))) (cM ν C9) := by
  have hv := cV_rg hT hC.1
  rw [← hC.2.1] at hv
  have h := c_numberUpTo (Γ := Γ) (l := l) (d := d) (μ := zcar ν 2 (Cst.S C9)) (f := Cst.f C9) (t := Cst.t C9) (fl := Cst.l C9) hv hh
  rw [qM_car] at h
  exact h
end CT
set_option maxRecDepth 100000 in
set_option maxHeartbeats 4000000 in
theorem x_hasFault {Γ : zC} {l : Launch} {d : Nat} {ν : zMem} {C9 : Cst} {N : Int} (hT : tapeOk (ν 4 3) (ν 4 2 1)) (hC : cOk N (ν 4 3) (ν 4 2 1) C9)  : zRet Γ l (d + 0) qX1_hasFault [.ref (za Γ 4 1)] (cM ν C9) (some (.int (zi (zb (¬ (Cst.l C9) = -1))))) (cM ν C9) := by
  refine zRet.mk 0 [.ref (za Γ 4 1)] RX1 rfl (by decide +kernel) (Nat.le_of_ble_eq_true rfl) rfl ?_
  intro p e s m below meth c C hr hlk
  have hn := hT.1
  have ht := cOk_t hT hC
  have hf := hC.1
  have hl := hC.2.2.1
  refine zV_aload_n (i := 0) (n := 1) C dX1_hasFault_0 rfl rfl rfl ?_
  refine zV_getI (f := 1) (fi := 1) (n := 4) C zk1 fX1_18 dX1_hasFault_1 zs_txt rfl (by decide) rfl rfl ?_
  rw [cm_l]
  refine zV_iconst (n := 5) C dX1_hasFault_4 rfl ?_
  refine zV_icmp_eq (n := 8) C 12 dX1_hasFault_5 (by decide) (by first | omega | exact zb_rg) (by first | omega | exact zb_rg) rfl (fun h5 => ?_) (fun h5 => ?_)
  · skip
    refine zV_iconst (n := 13) C dX1_hasFault_12 rfl ?_
    exact zV_zreturn C hr hlk dX1_hasFault_13 (by first | rfl | exact (zi_z zb_01).1 | exact (zi_z (by omega)).1) (by first | exact (congrArg (fun z => some (Value.int (zi z))) (zb_t (by omega)).symm) | exact (congrArg (fun z => some (Value.int (zi z))) (zb_f (by omega)).symm)) (by rfl)
  · skip
    refine zV_iconst (n := 9) C dX1_hasFault_8 rfl ?_
    refine zV_goto C 13 dX1_hasFault_9 (by decide) ?_
    exact zV_zreturn C hr hlk dX1_hasFault_13 (by first | rfl | exact (zi_z zb_01).1 | exact (zi_z (by omega)).1) (by first | exact (congrArg (fun z => some (Value.int (zi z))) (zb_t (by omega)).symm) | exact (congrArg (fun z => some (Value.int (zi z))) (zb_f (by omega)).symm)) (by rfl)

set_option maxRecDepth 100000 in
set_option maxHeartbeats 4000000 in
theorem x_numberBehind {Γ : zC} {l : Launch} {d : Nat} {ν : zMem} {C9 : Cst} {N : Int} (hT : tapeOk (ν 4 3) (ν 4 2 1)) (hC : cOk N (ν 4 3) (ν 4 2 1) C9) {hi9 : Int} (hh : 0 ≤ hi9 ∧ hi9 ≤ 1000) : zRet Γ l (d + 2) qX1_numberBehind [.ref (za Γ 4 1), .int (zi hi9)] (cM ν C9) (some (.int (zi ((cNB (ν 4 3) (ν 4 2 1) hi9 C9).2)))) (cM ν (cNB (ν 4 3) (ν 4 2 1) hi9 C9).1) := by
  refine zRet.mk 1 [.ref (za Γ 4 1), .int (zi hi9), .null] RX1 rfl (by decide +kernel) (Nat.le_of_ble_eq_true rfl) rfl ?_
  intro p e s m below meth c C hr hlk
  have hn := hT.1
  have ht := cOk_t hT hC
  have hf := hC.1
  have hl := hC.2.2.1
  have h1 := (cNx_ok hT hC).1
  have hv := cV_rg hT h1.1
  rw [← h1.2.1] at hv
  by_cases hok : (cOkN (ν 4 3) (ν 4 2 1) hi9 (cNx (ν 4 3) (ν 4 2 1) C9))
  · skip
    have eb : (cNB (ν 4 3) (ν 4 2 1) hi9 C9) = ((cNx (ν 4 3) (ν 4 2 1) (cNx (ν 4 3) (ν 4 2 1) C9)), (cV (ν 4 3) (ν 4 2 1) (Cst.f (cNx (ν 4 3) (ν 4 2 1) C9)) (Cst.t (cNx (ν 4 3) (ν 4 2 1) C9)))) := if_pos hok
    refine zV_aload_n (i := 0) (n := 1) C dX1_numberBehind_0 rfl rfl rfl ?_
    refine zV_getP (f := 0) (n := 4) C zk1 fX1_12 dX1_numberBehind_1 zs_txt rfl (by decide) rfl ?_
    refine zV_callV0v (n := 7) C zk5 jX6_next lX1_39 (x_next (d := d + 0) hT hC) dX1_numberBehind_4 zs_tape rfl (Nat.le_of_ble_eq_true rfl) (zfit_of (by omega) (by decide)) ⟨Nat.le_refl _, Nat.le_refl _⟩ rfl ?_
    refine zV_aload_n (i := 0) (n := 8) C dX1_numberBehind_7 rfl rfl rfl ?_
    refine zV_getP (f := 0) (n := 11) C zk1 fX1_12 dX1_numberBehind_8 zs_txt rfl (by decide) rfl ?_
    refine zV_iload_n (i := 1) (n := 12) C dX1_numberBehind_11 rfl rfl rfl ?_
    refine zV_callV1u (n := 15) C zk5 jX6_numberUpTo lX1_118 (x_numberUpTo (d := d + 1) hh hT h1) dX1_numberBehind_12 zs_tape rfl (Nat.le_of_ble_eq_true rfl) (zfit_of (by omega) (by decide)) ⟨Nat.le_refl _, Nat.le_refl _⟩ rfl ?_
    rw [if_pos hok]
    refine zS_istore_n_3_2 (n := 16) C dX1_numberBehind_15 rfl rfl ?_
    refine zV_iload_n (i := 2) (n := 17) C dX1_numberBehind_16 rfl rfl rfl ?_
    refine zV_if_ge (n := 20) C 33 dX1_numberBehind_17 (by decide) (by first | omega | exact zb_rg) rfl (fun h17 => ?_) (fun h => by exfalso; first | omega | exact zb_rg)
    refine zV_aload_n (i := 0) (n := 34) C dX1_numberBehind_33 rfl rfl rfl ?_
    refine zV_getP (f := 0) (n := 37) C zk1 fX1_12 dX1_numberBehind_34 zs_txt rfl (by decide) rfl ?_
    refine zV_callV0v (n := 40) C zk5 jX6_next lX1_39 (x_next (d := d + 0) hT h1) dX1_numberBehind_37 zs_tape rfl (Nat.le_of_ble_eq_true rfl) (zfit_of (by omega) (by decide)) ⟨Nat.le_refl _, Nat.le_refl _⟩ rfl ?_
    refine zV_iload_n (i := 2) (n := 41) C dX1_numberBehind_40 rfl rfl rfl ?_
    exact zV_ireturn C hr hlk dX1_numberBehind_41 (by rw [eb]) (by rw [eb])
  · skip
    have eb : (cNB (ν 4 3) (ν 4 2 1) hi9 C9) = (cFlt (cNx (ν 4 3) (ν 4 2 1) C9), 0) := if_neg hok
    refine zV_aload_n (i := 0) (n := 1) C dX1_numberBehind_0 rfl rfl rfl ?_
    refine zV_getP (f := 0) (n := 4) C zk1 fX1_12 dX1_numberBehind_1 zs_txt rfl (by decide) rfl ?_
    refine zV_callV0v (n := 7) C zk5 jX6_next lX1_39 (x_next (d := d + 0) hT hC) dX1_numberBehind_4 zs_tape rfl (Nat.le_of_ble_eq_true rfl) (zfit_of (by omega) (by decide)) ⟨Nat.le_refl _, Nat.le_refl _⟩ rfl ?_
    refine zV_aload_n (i := 0) (n := 8) C dX1_numberBehind_7 rfl rfl rfl ?_
    refine zV_getP (f := 0) (n := 11) C zk1 fX1_12 dX1_numberBehind_8 zs_txt rfl (by decide) rfl ?_
    refine zV_iload_n (i := 1) (n := 12) C dX1_numberBehind_11 rfl rfl rfl ?_
    refine zV_callV1u (n := 15) C zk5 jX6_numberUpTo lX1_118 (x_numberUpTo (d := d + 1) hh hT h1) dX1_numberBehind_12 zs_tape rfl (Nat.le_of_ble_eq_true rfl) (zfit_of (by omega) (by decide)) ⟨Nat.le_refl _, Nat.le_refl _⟩ rfl ?_
    rw [if_neg hok]
    refine zS_istore_n_3_2 (n := 16) C dX1_numberBehind_15 rfl rfl ?_
    refine zV_iload_n (i := 2) (n := 17) C dX1_numberBehind_16 rfl rfl rfl ?_
    refine zV_if_ge (n := 20) C 33 dX1_numberBehind_17 (by decide) (by first | omega | exact zb_rg) rfl (fun h => by exfalso; first | omega | exact zb_rg) (fun h17 => ?_)
    refine zV_aload_n (i := 0) (n := 21) C dX1_numberBehind_20 rfl rfl rfl ?_
    refine zV_aload_n (i := 0) (n := 22) C dX1_numberBehind_21 rfl rfl rfl ?_
    refine zV_getP (f := 0) (n := 25) C zk1 fX1_12 dX1_numberBehind_22 zs_txt rfl (by decide) rfl ?_
    refine zV_getI (f := 3) (fi := 3) (n := 28) C zk5 fX1_36 dX1_numberBehind_25 zs_tape rfl (by decide) rfl rfl ?_
    rw [cm_f]
    refine zV_putI (f := 1) (fi := 1) (n := 31) C zk1 fX1_18 dX1_numberBehind_28 zs_txt rfl (by decide) rfl rfl rfl rfl ?_
    rw [cmu_l]
    refine zV_iconst (n := 32) C dX1_numberBehind_31 rfl ?_
    exact zV_ireturn C hr hlk dX1_numberBehind_32 (by rw [eb]) (by rw [eb]; rfl)

set_option maxRecDepth 100000 in
set_option maxHeartbeats 4000000 in
theorem x_nameOf {Γ : zC} {l : Launch} {d : Nat} {μ : zMem} {k9 : Int} (hk : 0 ≤ k9 ∧ k9 ≤ 5) : zRet Γ l (d + 0) qX1_nameOf [.int (zi k9)] μ (some (.ref (zaK Γ k9.toNat))) μ := by
  refine zRet.mk 0 [.int (zi k9)] RX1 rfl (by decide +kernel) (Nat.le_of_ble_eq_true rfl) rfl ?_
  intro p e s m below meth c C hr hlk
  refine zV_iload_n (i := 0) (n := 1) C dX1_nameOf_0 rfl rfl rfl ?_
  have hsw1 : k9 = 1 ∨ k9 = 2 ∨ k9 = 3 ∨ k9 = 4 ∨ k9 = 5 ∨ (k9 < 1 ∨ 5 < k9) := by omega
  rcases hsw1 with hsw | hsw | hsw | hsw | hsw | hsw
  · skip
    refine zV_tswIn C 36 dX1_nameOf_1 (by omega) (by omega) (by omega) (by rw [hsw]; rfl) (by decide) ?_
    refine zV_ldcS 1 (n := 38) C dX1_nameOf_36 (by decide) rfl rfl ?_
    exact zV_areturn C hr hlk dX1_nameOf_38 (by first | (subst hsw; rfl) | (rw [show k9 = 0 from by omega]; rfl)) (by rfl)
  · skip
    refine zV_tswIn C 39 dX1_nameOf_1 (by omega) (by omega) (by omega) (by rw [hsw]; rfl) (by decide) ?_
    refine zV_ldcS 2 (n := 41) C dX1_nameOf_39 (by decide) rfl rfl ?_
    exact zV_areturn C hr hlk dX1_nameOf_41 (by first | (subst hsw; rfl) | (rw [show k9 = 0 from by omega]; rfl)) (by rfl)
  · skip
    refine zV_tswIn C 42 dX1_nameOf_1 (by omega) (by omega) (by omega) (by rw [hsw]; rfl) (by decide) ?_
    refine zV_ldcS 3 (n := 44) C dX1_nameOf_42 (by decide) rfl rfl ?_
    exact zV_areturn C hr hlk dX1_nameOf_44 (by first | (subst hsw; rfl) | (rw [show k9 = 0 from by omega]; rfl)) (by rfl)
  · skip
    refine zV_tswIn C 45 dX1_nameOf_1 (by omega) (by omega) (by omega) (by rw [hsw]; rfl) (by decide) ?_
    refine zV_ldcS 4 (n := 47) C dX1_nameOf_45 (by decide) rfl rfl ?_
    exact zV_areturn C hr hlk dX1_nameOf_47 (by first | (subst hsw; rfl) | (rw [show k9 = 0 from by omega]; rfl)) (by rfl)
  · skip
    refine zV_tswIn C 48 dX1_nameOf_1 (by omega) (by omega) (by omega) (by rw [hsw]; rfl) (by decide) ?_
    refine zV_ldcS 5 (n := 50) C dX1_nameOf_48 (by decide) rfl rfl ?_
    exact zV_areturn C hr hlk dX1_nameOf_50 (by first | (subst hsw; rfl) | (rw [show k9 = 0 from by omega]; rfl)) (by rfl)
  · skip
    refine zV_tswOut C 51 dX1_nameOf_1 (by omega) (by omega) (by decide) ?_
    refine zV_ldcS 0 (n := 53) C dX1_nameOf_51 (by decide) rfl rfl ?_
    exact zV_areturn C hr hlk dX1_nameOf_53 (by first | (subst hsw; rfl) | (rw [show k9 = 0 from by omega]; rfl)) (by rfl)

set_option maxRecDepth 100000 in
set_option maxHeartbeats 4000000 in
theorem x_kindNamed_loop {Γ : zC} {l : Launch} {d : Nat} {p : Program} {e : Env} {s : State} {m : MethodId} {args : Array Value} {below : List Frame} {meth : Method} {c : Code} {Q : State → Prop} (C : zCx Γ (zAA Γ) p s m args c RX1 cX1_kindNamed 2) {ν : zMem} {C9 : Cst} {N : Int} (hT : tapeOk (ν 4 3) (ν 4 2 1)) (hC : cOk N (ν 4 3) (ν 4 2 1) C9)  :
    ∀ (i : Nat) (k9 : Nat) (hi : k9 + i = 6) (KK : ∀ v1 : Value, 0 ≤ cKd (ν 4 3) (ν 4 2 1) C9 i k9 → zV Γ (zAA Γ) p l e (zRm (d + 5)) s m args below meth c 0 0 Q 23 [.ref (za Γ 4 1), v1] [.int (zi (cKd (ν 4 3) (ν 4 2 1) C9 i k9))] (cM ν C9)) (K0 : ∀ v1 : Value, cKd (ν 4 3) (ν 4 2 1) C9 i k9 = -1 → zV Γ (zAA Γ) p l e (zRm (d + 5)) s m args below meth c 0 0 Q 31 [.ref (za Γ 4 1), v1] [.int (zi (-1))] (cM ν C9)), zV Γ (zAA Γ) p l e (zRm (d + 5)) s m args below meth c 0 0 Q 2 [.ref (za Γ 4 1), .int (zi (k9 : Int))] [] (cM ν C9) := by
  intro i
  induction i with
  | zero =>
    intro k9 hi KK K0
    have hk : k9 = 6 := by omega
    subst hk
    refine zV_iload_n (i := 1) (n := 3) C dX1_kindNamed_2 rfl rfl rfl ?_
    refine zV_bipush (n := 5) C dX1_kindNamed_3 (by decide) rfl ?_
    refine zV_icmp_ge (n := 8) C 30 dX1_kindNamed_5 (by decide) (by first | omega | exact zb_rg) (by first | omega | exact zb_rg) rfl (fun h5 => ?_) (fun h => by exfalso; first | omega | exact zb_rg)
    refine zV_iconst (n := 31) C dX1_kindNamed_30 rfl ?_
    exact K0 _ rfl
  | succ i ih =>
    intro k9 hi KK K0
    unfold cKd at KK K0
    refine zV_iload_n (i := 1) (n := 3) C dX1_kindNamed_2 rfl rfl rfl ?_
    refine zV_bipush (n := 5) C dX1_kindNamed_3 (by decide) rfl ?_
    refine zV_icmp_ge (n := 8) C 30 dX1_kindNamed_5 (by decide) (by first | omega | exact zb_rg) (by first | omega | exact zb_rg) rfl (fun h => by exfalso; first | omega | exact zb_rg) (fun h5 => ?_)
    refine zV_aload_n (i := 0) (n := 9) C dX1_kindNamed_8 rfl rfl rfl ?_
    refine zV_getP (f := 0) (n := 12) C zk1 fX1_12 dX1_kindNamed_9 zs_txt rfl (by decide) rfl ?_
    refine zV_iload_n (i := 1) (n := 13) C dX1_kindNamed_12 rfl rfl rfl ?_
    refine zV_callS1u (n := 16) C jX1_nameOf lX1_121 (x_nameOf (d := d + 4) (by omega)) dX1_kindNamed_13 (Nat.le_of_ble_eq_true rfl) (zfit_of (by omega) (by decide)) ⟨Nat.le_refl _, Nat.le_refl _⟩ rfl ?_
    rw [Int.toNat_natCast]
    refine zV_callV1u (n := 19) C zk5 jX6_isWord lX1_56 (x_isWord (d := d + 0) (by omega) hT hC) dX1_kindNamed_16 zs_tape rfl (Nat.le_of_ble_eq_true rfl) (zfit_of (by omega) (by decide)) ⟨Nat.le_refl _, Nat.le_refl _⟩ rfl ?_
    refine zV_if_eq (n := 22) C 24 dX1_kindNamed_19 (by decide) (by first | omega | exact zb_rg) rfl (fun h19 => ?_) (fun h19 => ?_)
    · skip
      simp only [zb_eq0, Decidable.not_not] at h19
      refine zS_iinc_2_1 (n := 27) C dX1_kindNamed_24 rfl rfl ?_
      refine zV_goto C 2 dX1_kindNamed_27 (by decide) ?_
      rw [if_neg h19] at KK K0; exact ih (k9 + 1) (by omega) KK K0
    · skip
      simp only [zb_eq0, Decidable.not_not] at h19
      refine zV_iload_n (i := 1) (n := 23) C dX1_kindNamed_22 rfl rfl rfl ?_
      rw [if_pos h19] at KK; exact KK _ (by omega)

set_option maxRecDepth 100000 in
set_option maxHeartbeats 4000000 in
theorem x_kindNamed {Γ : zC} {l : Launch} {d : Nat} {ν : zMem} {C9 : Cst} {N : Int} (hT : tapeOk (ν 4 3) (ν 4 2 1)) (hC : cOk N (ν 4 3) (ν 4 2 1) C9)  : zRet Γ l (d + 5) qX1_kindNamed [.ref (za Γ 4 1)] (cM ν C9) (some (.int (zi (cKd (ν 4 3) (ν 4 2 1) C9 6 0)))) (cM ν C9) := by
  refine zRet.mk 1 [.ref (za Γ 4 1), .null] RX1 rfl (by decide +kernel) (Nat.le_of_ble_eq_true rfl) rfl ?_
  intro p e s m below meth c C hr hlk
  refine zV_iconst (n := 1) C dX1_kindNamed_0 rfl ?_
  refine zS_istore_n_2_1 (n := 2) C dX1_kindNamed_1 rfl rfl ?_
  refine x_kindNamed_loop C hT hC 6 0 (by omega) (fun v1 q => ?_) (fun v1 q => ?_)
  · exact zV_ireturn C hr hlk dX1_kindNamed_23 rfl rfl
  · exact zV_ireturn C hr hlk dX1_kindNamed_31 (by rw [q]) rfl

set_option maxRecDepth 100000 in
set_option maxHeartbeats 4000000 in
theorem x_child_a {Γ : zC} {l : Launch} {d : Nat} {p : Program} {e : Env} {s : State} {m : MethodId} {args : Array Value} {below : List Frame} {meth : Method} {c : Code} {Q : State → Prop} (C : zCx Γ (zAA Γ) p s m args c RX1 cX1_parseChild 4) {ν : zMem} {C9 : Cst} {N : Int} (hT : tapeOk (ν 4 3) (ν 4 2 1)) (hC : cOk N (ν 4 3) (ν 4 2 1) C9) {x kd : Int} (hx : 0 ≤ x ∧ x < Cst.S C9 0) (hx6 : x < 6) (hl1 : Cst.l C9 = -1) (KK : zV Γ (zAA Γ) p l e (zRm (d + 5)) s m args below meth c 0 0 Q 59 [.ref (za Γ 4 1), .ref (za Γ 2 0), .int (zi kd), .ref (za Γ 2 (6 + x))] [] (cM ν (cPart (ν 4 3) (ν 4 2 1) 8 (19 + 6 * x + 1) 99 C9))) :
    zV Γ (zAA Γ) p l e (zRm (d + 5)) s m args below meth c 0 0 Q 37 [.ref (za Γ 4 1), .ref (za Γ 2 0), .int (zi kd), .ref (za Γ 2 (6 + x))] [] (cM ν C9) := by
  have hn := hT.1
  have ht := cOk_t hT hC
  have hf := hC.1
  have hl := hC.2.2.1
  have hnb := cNB_ok (hi := 99) hT hC (by omega)
  have hS9 := hnb.2.2.2.1
  refine zV_aload_n (i := 0) (n := 38) C dX1_parseChild_37 rfl rfl rfl ?_
  refine zV_getP (f := 0) (n := 41) C zk1 fX1_12 dX1_parseChild_38 zs_txt rfl (by decide) rfl ?_
  refine zV_ldcS 8 (n := 43) C dX1_parseChild_41 (by decide) rfl rfl ?_
  refine zV_callV1u (n := 46) C zk5 jX6_isWord lX1_56 (x_isWord (d := d + 0) (by decide) hT hC) dX1_parseChild_43 zs_tape rfl (Nat.le_of_ble_eq_true rfl) (zfit_of (by omega) (by decide)) ⟨Nat.le_refl _, Nat.le_refl _⟩ rfl ?_
  refine zV_if_eq (n := 49) C 59 dX1_parseChild_46 (by decide) (by first | omega | exact zb_rg) rfl (fun h46 => ?_) (fun h46 => ?_)
  · skip
    simp only [zb_eq0, Decidable.not_not] at h46
    rw [show (cPart (ν 4 3) (ν 4 2 1) 8 (19 + 6 * x + 1) 99 C9) = C9 from if_neg (fun q => h46 q.2)] at KK
    exact KK
  · skip
    simp only [zb_eq0, Decidable.not_not] at h46
    refine zV_aload_n (i := 3) (n := 50) C dX1_parseChild_49 rfl rfl rfl ?_
    refine zV_aload_n (i := 0) (n := 51) C dX1_parseChild_50 rfl rfl rfl ?_
    refine zV_bipush (n := 53) C dX1_parseChild_51 (by decide) rfl ?_
    refine zV_callV1u (n := 56) C zk1 jX1_numberBehind lX1_65 (x_numberBehind (d := d + 2) hT hC (by omega)) dX1_parseChild_53 zs_txt rfl (Nat.le_of_ble_eq_true rfl) (zfit_of (by omega) (by decide)) ⟨Nat.le_refl _, Nat.le_refl _⟩ rfl ?_
    refine zV_putI (f := 1) (fi := 1) (n := 59) C zk2 fX1_85 dX1_parseChild_56 (zs_child (by omega) (by omega)) rfl (by decide) rfl rfl rfl rfl ?_
    rw [cmu_kid (by first | omega | (rw [hS9]; omega)) (by omega)]
    rw [show (cPart (ν 4 3) (ν 4 2 1) 8 (19 + 6 * x + 1) 99 C9) = cRow (cNB (ν 4 3) (ν 4 2 1) 99 C9).1 (zfu (Cst.S (cNB (ν 4 3) (ν 4 2 1) 99 C9).1) (19 + 6 * x + 1) (cNB (ν 4 3) (ν 4 2 1) 99 C9).2) from if_pos ⟨by omega, h46⟩] at KK
    exact KK

set_option maxRecDepth 100000 in
set_option maxHeartbeats 4000000 in
theorem x_child_b {Γ : zC} {l : Launch} {d : Nat} {p : Program} {e : Env} {s : State} {m : MethodId} {args : Array Value} {below : List Frame} {meth : Method} {c : Code} {Q : State → Prop} (C : zCx Γ (zAA Γ) p s m args c RX1 cX1_parseChild 4) {ν : zMem} {C9 : Cst} {N : Int} (hT : tapeOk (ν 4 3) (ν 4 2 1)) (hC : cOk N (ν 4 3) (ν 4 2 1) C9) {x kd : Int} (hx : 0 ≤ x ∧ x < Cst.S C9 0) (hx6 : x < 6) (KK : zV Γ (zAA Γ) p l e (zRm (d + 5)) s m args below meth c 0 0 Q 88 [.ref (za Γ 4 1), .ref (za Γ 2 0), .int (zi kd), .ref (za Γ 2 (6 + x))] [] (cM ν (cPart (ν 4 3) (ν 4 2 1) 9 (19 + 6 * x + 2) 9 C9))) :
    zV Γ (zAA Γ) p l e (zRm (d + 5)) s m args below meth c 0 0 Q 59 [.ref (za Γ 4 1), .ref (za Γ 2 0), .int (zi kd), .ref (za Γ 2 (6 + x))] [] (cM ν C9) := by
  have hn := hT.1
  have ht := cOk_t hT hC
  have hf := hC.1
  have hl := hC.2.2.1
  have hnb := cNB_ok (hi := 9) hT hC (by omega)
  have hS9 := hnb.2.2.2.1
  refine zV_aload_n (i := 0) (n := 60) C dX1_parseChild_59 rfl rfl rfl ?_
  refine zV_callV0u (n := 63) C zk1 jX1_hasFault lX1_29 (x_hasFault (d := d + 4) hT hC) dX1_parseChild_60 zs_txt rfl (Nat.le_of_ble_eq_true rfl) (zfit_of (by omega) (by decide)) ⟨Nat.le_refl _, Nat.le_refl _⟩ rfl ?_
  refine zV_if_ne (n := 66) C 88 dX1_parseChild_63 (by decide) (by first | omega | exact zb_rg) rfl (fun h63 => ?_) (fun h63 => ?_)
  · skip
    simp only [zb_eq0, Decidable.not_not] at h63
    rw [show (cPart (ν 4 3) (ν 4 2 1) 9 (19 + 6 * x + 2) 9 C9) = C9 from if_neg (fun q => by omega)] at KK
    exact KK
  · skip
    simp only [zb_eq0, Decidable.not_not] at h63
    refine zV_aload_n (i := 0) (n := 67) C dX1_parseChild_66 rfl rfl rfl ?_
    refine zV_getP (f := 0) (n := 70) C zk1 fX1_12 dX1_parseChild_67 zs_txt rfl (by decide) rfl ?_
    refine zV_ldcS 9 (n := 72) C dX1_parseChild_70 (by decide) rfl rfl ?_
    refine zV_callV1u (n := 75) C zk5 jX6_isWord lX1_56 (x_isWord (d := d + 0) (by decide) hT hC) dX1_parseChild_72 zs_tape rfl (Nat.le_of_ble_eq_true rfl) (zfit_of (by omega) (by decide)) ⟨Nat.le_refl _, Nat.le_refl _⟩ rfl ?_
    refine zV_if_eq (n := 78) C 88 dX1_parseChild_75 (by decide) (by first | omega | exact zb_rg) rfl (fun h75 => ?_) (fun h75 => ?_)
    · skip
      simp only [zb_eq0, Decidable.not_not] at h75
      rw [show (cPart (ν 4 3) (ν 4 2 1) 9 (19 + 6 * x + 2) 9 C9) = C9 from if_neg (fun q => h75 q.2)] at KK
      exact KK
    · skip
      simp only [zb_eq0, Decidable.not_not] at h75
      refine zV_aload_n (i := 3) (n := 79) C dX1_parseChild_78 rfl rfl rfl ?_
      refine zV_aload_n (i := 0) (n := 80) C dX1_parseChild_79 rfl rfl rfl ?_
      refine zV_bipush (n := 82) C dX1_parseChild_80 (by decide) rfl ?_
      refine zV_callV1u (n := 85) C zk1 jX1_numberBehind lX1_65 (x_numberBehind (d := d + 2) hT hC (by omega)) dX1_parseChild_82 zs_txt rfl (Nat.le_of_ble_eq_true rfl) (zfit_of (by omega) (by decide)) ⟨Nat.le_refl _, Nat.le_refl _⟩ rfl ?_
      refine zV_putI (f := 2) (fi := 2) (n := 88) C zk2 fX1_91 dX1_parseChild_85 (zs_child (by omega) (by omega)) rfl (by decide) rfl rfl rfl rfl ?_
      rw [cmu_kid (by first | omega | (rw [hS9]; omega)) (by omega)]
      rw [show (cPart (ν 4 3) (ν 4 2 1) 9 (19 + 6 * x + 2) 9 C9) = cRow (cNB (ν 4 3) (ν 4 2 1) 9 C9).1 (zfu (Cst.S (cNB (ν 4 3) (ν 4 2 1) 9 C9).1) (19 + 6 * x + 2) (cNB (ν 4 3) (ν 4 2 1) 9 C9).2) from if_pos ⟨by omega, h75⟩] at KK
      exact KK

set_option maxRecDepth 100000 in
set_option maxHeartbeats 4000000 in
theorem x_child_c {Γ : zC} {l : Launch} {d : Nat} {p : Program} {e : Env} {s : State} {m : MethodId} {args : Array Value} {below : List Frame} {meth : Method} {c : Code} {Q : State → Prop} (C : zCx Γ (zAA Γ) p s m args c RX1 cX1_parseChild 4) {ν : zMem} {C9 : Cst} {N : Int} (hT : tapeOk (ν 4 3) (ν 4 2 1)) (hC : cOk N (ν 4 3) (ν 4 2 1) C9) {x kd : Int} (hx : 0 ≤ x ∧ x < Cst.S C9 0) (hx6 : x < 6) (KK : zV Γ (zAA Γ) p l e (zRm (d + 5)) s m args below meth c 0 0 Q 119 [.ref (za Γ 4 1), .ref (za Γ 2 0), .int (zi kd), .ref (za Γ 2 (6 + x))] [] (cM ν (cFlag (ν 4 3) (ν 4 2 1) 10 (19 + 6 * x + 3) C9))) :
    zV Γ (zAA Γ) p l e (zRm (d + 5)) s m args below meth c 0 0 Q 88 [.ref (za Γ 4 1), .ref (za Γ 2 0), .int (zi kd), .ref (za Γ 2 (6 + x))] [] (cM ν C9) := by
  have hn := hT.1
  have ht := cOk_t hT hC
  have hf := hC.1
  have hl := hC.2.2.1
  refine zV_aload_n (i := 0) (n := 89) C dX1_parseChild_88 rfl rfl rfl ?_
  refine zV_callV0u (n := 92) C zk1 jX1_hasFault lX1_29 (x_hasFault (d := d + 4) hT hC) dX1_parseChild_89 zs_txt rfl (Nat.le_of_ble_eq_true rfl) (zfit_of (by omega) (by decide)) ⟨Nat.le_refl _, Nat.le_refl _⟩ rfl ?_
  refine zV_if_ne (n := 95) C 119 dX1_parseChild_92 (by decide) (by first | omega | exact zb_rg) rfl (fun h92 => ?_) (fun h92 => ?_)
  · skip
    simp only [zb_eq0, Decidable.not_not] at h92
    rw [show (cFlag (ν 4 3) (ν 4 2 1) 10 (19 + 6 * x + 3) C9) = C9 from if_neg (fun q => by omega)] at KK
    exact KK
  · skip
    simp only [zb_eq0, Decidable.not_not] at h92
    refine zV_aload_n (i := 0) (n := 96) C dX1_parseChild_95 rfl rfl rfl ?_
    refine zV_getP (f := 0) (n := 99) C zk1 fX1_12 dX1_parseChild_96 zs_txt rfl (by decide) rfl ?_
    refine zV_ldcS 10 (n := 101) C dX1_parseChild_99 (by decide) rfl rfl ?_
    refine zV_callV1u (n := 104) C zk5 jX6_isWord lX1_56 (x_isWord (d := d + 0) (by decide) hT hC) dX1_parseChild_101 zs_tape rfl (Nat.le_of_ble_eq_true rfl) (zfit_of (by omega) (by decide)) ⟨Nat.le_refl _, Nat.le_refl _⟩ rfl ?_
    refine zV_if_eq (n := 107) C 119 dX1_parseChild_104 (by decide) (by first | omega | exact zb_rg) rfl (fun h104 => ?_) (fun h104 => ?_)
    · skip
      simp only [zb_eq0, Decidable.not_not] at h104
      rw [show (cFlag (ν 4 3) (ν 4 2 1) 10 (19 + 6 * x + 3) C9) = C9 from if_neg (fun q => h104 q.2)] at KK
      exact KK
    · skip
      simp only [zb_eq0, Decidable.not_not] at h104
      refine zV_aload_n (i := 3) (n := 108) C dX1_parseChild_107 rfl rfl rfl ?_
      refine zV_iconst (n := 109) C dX1_parseChild_108 rfl ?_
      refine zV_putI (f := 3) (fi := 3) (n := 112) C zk2 fX1_95 dX1_parseChild_109 (zs_child (by omega) (by omega)) rfl (by decide) rfl rfl rfl rfl ?_
      rw [cmu_kid (by first | omega | (rw [hS9]; omega)) (by omega)]
      refine zV_aload_n (i := 0) (n := 113) C dX1_parseChild_112 rfl rfl rfl ?_
      refine zV_getP (f := 0) (n := 116) C zk1 fX1_12 dX1_parseChild_113 zs_txt rfl (by decide) rfl ?_
      refine zV_callV0v (n := 119) C zk5 jX6_next lX1_39 (x_next (d := d + 3) hT (cRow_ok hC (rInv_kid hC.2.2.2 (by omega) (by omega) (by simp)))) dX1_parseChild_116 zs_tape rfl (Nat.le_of_ble_eq_true rfl) (zfit_of (by omega) (by decide)) ⟨Nat.le_refl _, Nat.le_refl _⟩ rfl ?_
      rw [show (cFlag (ν 4 3) (ν 4 2 1) 10 (19 + 6 * x + 3) C9) = cNx (ν 4 3) (ν 4 2 1) (cRow C9 (zfu (Cst.S C9) (19 + 6 * x + 3) 1)) from if_pos ⟨by omega, h104⟩] at KK
      exact KK

set_option maxRecDepth 100000 in
set_option maxHeartbeats 4000000 in
theorem x_parseChild {Γ : zC} {l : Launch} {d : Nat} {ν : zMem} {C9 : Cst} {N : Int} (hT : tapeOk (ν 4 3) (ν 4 2 1)) (hC : cOk N (ν 4 3) (ν 4 2 1) C9) {kd : Int} (hkd : 0 ≤ kd ∧ kd ≤ 5) (hl1 : (Cst.l C9) = -1) : zRet Γ l (d + 5) qX1_parseChild [.ref (za Γ 4 1), .ref (za Γ 2 0), .int (zi kd)] (cM ν C9) none (cM ν (cChild (ν 4 3) (ν 4 2 1) kd C9)) := by
  refine zRet.mk 1 [.ref (za Γ 4 1), .ref (za Γ 2 0), .int (zi kd), .null] RX1 rfl (by decide +kernel) (Nat.le_of_ble_eq_true rfl) rfl ?_
  intro p e s m below meth c C hr hlk
  have hn := hT.1
  have ht := cOk_t hT hC
  have hf := hC.1
  have hl := hC.2.2.1
  have i0 := hC.2.2.2.1
  refine zV_aload_n (i := 1) (n := 1) C dX1_parseChild_0 rfl rfl rfl ?_
  refine zV_callV0u (n := 4) C zk0 jX0_isFull lX1_73 (c_isFull (d := d + 4) (by omega) hC.2.2.2) dX1_parseChild_1 (zs_car (by omega)) rfl (Nat.le_of_ble_eq_true rfl) (zfit_of (by omega) (by decide)) ⟨Nat.le_refl _, Nat.le_refl _⟩ rfl ?_
  refine zV_eqm (μ' := (cM ν C9)) rfl ?_
  refine zV_if_eq (n := 7) C 19 dX1_parseChild_4 (by decide) (by first | omega | exact zb_rg) rfl (fun h4 => ?_) (fun h4 => ?_)
  · skip
    simp only [zb_eq0, Decidable.not_not] at h4
    have i0 := hC.2.2.2.1
    have ha := rAdd_inv hC.2.2.2 (kd := kd) (by omega) hkd
    have k1 := (cNx_ok hT (cRow_ok hC ha.1)).1
    have q1 := cPart_ok (i := 8) (idx := (19 + 6 * (Cst.S C9) 0 + 1)) (hi := 99) hT k1 (by omega) (fun v S J hv => rInv_kid J (by omega) (by omega) (by simpa using hv)) (by omega)
    have q2 := cPart_ok (i := 9) (idx := (19 + 6 * (Cst.S C9) 0 + 2)) (hi := 9) hT q1.1 (by omega) (fun v S J hv => rInv_kid J (by omega) (by omega) (by simpa using hv)) (by omega)
    refine zV_aload_n (i := 1) (n := 20) C dX1_parseChild_19 rfl rfl rfl ?_
    refine zV_getP (f := 1) (n := 23) C zk0 fX1_76 dX1_parseChild_20 (zs_car (by omega)) rfl (by decide) rfl ?_
    refine zV_aload_n (i := 1) (n := 24) C dX1_parseChild_23 rfl rfl rfl ?_
    refine zV_iload_n (i := 2) (n := 25) C dX1_parseChild_24 rfl rfl rfl ?_
    refine zV_callV1u (n := 28) C zk0 jX0_add lX1_80 (c_add (d := d + 3) (by omega) hC.2.2.2 (by omega)) dX1_parseChild_25 (zs_car (by omega)) rfl (Nat.le_of_ble_eq_true rfl) (zfit_of (by omega) (by decide)) ⟨Nat.le_refl _, Nat.le_refl _⟩ rfl ?_
    refine zV_eqm (μ' := (cM ν (cRow C9 (rAdd (Cst.S C9) kd)))) rfl ?_
    refine zV_aald (n := 29) C dX1_parseChild_28 (zs_carC (by omega)) (by first | omega | exact zb_rg) (by decide) (by decide) rfl ?_
    refine zS_astore_n_4_3 (n := 30) C dX1_parseChild_29 rfl rfl ?_
    refine zV_aload_n (i := 0) (n := 31) C dX1_parseChild_30 rfl rfl rfl ?_
    refine zV_getP (f := 0) (n := 34) C zk1 fX1_12 dX1_parseChild_31 zs_txt rfl (by decide) rfl ?_
    refine zV_callV0v (n := 37) C zk5 jX6_next lX1_39 (x_next (d := d + 3) hT (cRow_ok hC ha.1)) dX1_parseChild_34 zs_tape rfl (Nat.le_of_ble_eq_true rfl) (zfit_of (by omega) (by decide)) ⟨Nat.le_refl _, Nat.le_refl _⟩ rfl ?_
    refine x_child_a C hT k1 (x := (Cst.S C9) 0) (kd := kd) (show 0 ≤ (Cst.S C9) 0 ∧ (Cst.S C9) 0 < rAdd (Cst.S C9) kd 0 from by omega) (by omega) hl1 ?_
    refine x_child_b C hT q1.1 (x := (Cst.S C9) 0) (kd := kd) (by rw [q1.2.2]; show 0 ≤ (Cst.S C9) 0 ∧ (Cst.S C9) 0 < rAdd (Cst.S C9) kd 0; omega) (by omega) ?_
    refine x_child_c C hT q2.1 (x := (Cst.S C9) 0) (kd := kd) (by rw [q2.2.2, q1.2.2]; show 0 ≤ (Cst.S C9) 0 ∧ (Cst.S C9) 0 < rAdd (Cst.S C9) kd 0; omega) (by omega) ?_
    exact zV_return C hr hlk dX1_parseChild_119 rfl (congrArg (cM ν) (show (cFlag (ν 4 3) (ν 4 2 1) 10 (19 + 6 * (Cst.S C9) 0 + 3) (cPart (ν 4 3) (ν 4 2 1) 9 (19 + 6 * (Cst.S C9) 0 + 2) 9 (cPart (ν 4 3) (ν 4 2 1) 8 (19 + 6 * (Cst.S C9) 0 + 1) 99 (cNx (ν 4 3) (ν 4 2 1) (cRow C9 (rAdd (Cst.S C9) kd)))))) = (cChild (ν 4 3) (ν 4 2 1) kd C9) from (if_neg (by omega)).symm))
  · skip
    simp only [zb_eq0, Decidable.not_not] at h4
    refine zV_aload_n (i := 0) (n := 8) C dX1_parseChild_7 rfl rfl rfl ?_
    refine zV_aload_n (i := 0) (n := 9) C dX1_parseChild_8 rfl rfl rfl ?_
    refine zV_getP (f := 0) (n := 12) C zk1 fX1_12 dX1_parseChild_9 zs_txt rfl (by decide) rfl ?_
    refine zV_getI (f := 3) (fi := 3) (n := 15) C zk5 fX1_36 dX1_parseChild_12 zs_tape rfl (by decide) rfl rfl ?_
    rw [cm_f]
    refine zV_putI (f := 1) (fi := 1) (n := 18) C zk1 fX1_18 dX1_parseChild_15 zs_txt rfl (by decide) rfl rfl rfl rfl ?_
    rw [cmu_l]
    exact zV_return C hr hlk dX1_parseChild_18 (by rfl) (by exact congrArg (cM ν) (show cFlt C9 = (cChild (ν 4 3) (ν 4 2 1) kd C9) from (if_pos h4).symm))

set_option maxRecDepth 100000 in
set_option maxHeartbeats 4000000 in
theorem x_seat_a {Γ : zC} {l : Launch} {d : Nat} {p : Program} {e : Env} {s : State} {m : MethodId} {args : Array Value} {below : List Frame} {meth : Method} {c : Code} {Q : State → Prop} (C : zCx Γ (zAA Γ) p s m args c RX1 cX1_parseSeat 4) {ν : zMem} {C9 : Cst} {N : Int} (hT : tapeOk (ν 4 3) (ν 4 2 1)) (hC : cOk N (ν 4 3) (ν 4 2 1) C9) {st : Int} (hs : 0 ≤ st ∧ st < 3) (hl1 : Cst.l C9 = -1) (KK : zV Γ (zAA Γ) p l e (zRm (d + 5)) s m args below meth c 0 0 Q 54 [.ref (za Γ 4 1), .ref (za Γ 2 0), .int (zi st), .ref (za Γ 2 (3 + st))] [] (cM ν (cPart (ν 4 3) (ν 4 2 1) 11 (4 + 5 * st + 0) 5 C9))) :
    zV Γ (zAA Γ) p l e (zRm (d + 5)) s m args below meth c 0 0 Q 33 [.ref (za Γ 4 1), .ref (za Γ 2 0), .int (zi st), .ref (za Γ 2 (3 + st))] [] (cM ν C9) := by
  have hn := hT.1
  have ht := cOk_t hT hC
  have hf := hC.1
  have hl := hC.2.2.1
  have hnb := cNB_ok (hi := 5) hT hC (by omega)
  have hS9 := hnb.2.2.2.1
  refine zV_aload_n (i := 0) (n := 34) C dX1_parseSeat_33 rfl rfl rfl ?_
  refine zV_getP (f := 0) (n := 37) C zk1 fX1_12 dX1_parseSeat_34 zs_txt rfl (by decide) rfl ?_
  refine zV_ldcS 11 (n := 39) C dX1_parseSeat_37 (by decide) rfl rfl ?_
  refine zV_callV1u (n := 42) C zk5 jX6_isWord lX1_56 (x_isWord (d := d + 0) (by decide) hT hC) dX1_parseSeat_39 zs_tape rfl (Nat.le_of_ble_eq_true rfl) (zfit_of (by omega) (by decide)) ⟨Nat.le_refl _, Nat.le_refl _⟩ rfl ?_
  refine zV_if_eq (n := 45) C 54 dX1_parseSeat_42 (by decide) (by first | omega | exact zb_rg) rfl (fun h42 => ?_) (fun h42 => ?_)
  · skip
    simp only [zb_eq0, Decidable.not_not] at h42
    rw [show (cPart (ν 4 3) (ν 4 2 1) 11 (4 + 5 * st + 0) 5 C9) = C9 from if_neg (fun q => h42 q.2)] at KK
    exact KK
  · skip
    simp only [zb_eq0, Decidable.not_not] at h42
    refine zV_aload_n (i := 3) (n := 46) C dX1_parseSeat_45 rfl rfl rfl ?_
    refine zV_aload_n (i := 0) (n := 47) C dX1_parseSeat_46 rfl rfl rfl ?_
    refine zV_iconst (n := 48) C dX1_parseSeat_47 rfl ?_
    refine zV_callV1u (n := 51) C zk1 jX1_numberBehind lX1_65 (x_numberBehind (d := d + 2) hT hC (by omega)) dX1_parseSeat_48 zs_txt rfl (Nat.le_of_ble_eq_true rfl) (zfit_of (by omega) (by decide)) ⟨Nat.le_refl _, Nat.le_refl _⟩ rfl ?_
    refine zV_putI (f := 0) (fi := 0) (n := 54) C zk3 fX1_111 dX1_parseSeat_51 (zs_seat (by omega) (by omega)) rfl (by decide) rfl rfl rfl rfl ?_
    rw [cmu_seat (by omega) (by omega)]
    rw [show (cPart (ν 4 3) (ν 4 2 1) 11 (4 + 5 * st + 0) 5 C9) = cRow (cNB (ν 4 3) (ν 4 2 1) 5 C9).1 (zfu (Cst.S (cNB (ν 4 3) (ν 4 2 1) 5 C9).1) (4 + 5 * st + 0) (cNB (ν 4 3) (ν 4 2 1) 5 C9).2) from if_pos ⟨by omega, h42⟩] at KK
    exact KK

set_option maxRecDepth 100000 in
set_option maxHeartbeats 4000000 in
theorem x_seat_b {Γ : zC} {l : Launch} {d : Nat} {p : Program} {e : Env} {s : State} {m : MethodId} {args : Array Value} {below : List Frame} {meth : Method} {c : Code} {Q : State → Prop} (C : zCx Γ (zAA Γ) p s m args c RX1 cX1_parseSeat 4) {ν : zMem} {C9 : Cst} {N : Int} (hT : tapeOk (ν 4 3) (ν 4 2 1)) (hC : cOk N (ν 4 3) (ν 4 2 1) C9) {st : Int} (hs : 0 ≤ st ∧ st < 3) (KK : zV Γ (zAA Γ) p l e (zRm (d + 5)) s m args below meth c 0 0 Q 83 [.ref (za Γ 4 1), .ref (za Γ 2 0), .int (zi st), .ref (za Γ 2 (3 + st))] [] (cM ν (cPart (ν 4 3) (ν 4 2 1) 12 (4 + 5 * st + 1) 9 C9))) :
    zV Γ (zAA Γ) p l e (zRm (d + 5)) s m args below meth c 0 0 Q 54 [.ref (za Γ 4 1), .ref (za Γ 2 0), .int (zi st), .ref (za Γ 2 (3 + st))] [] (cM ν C9) := by
  have hn := hT.1
  have ht := cOk_t hT hC
  have hf := hC.1
  have hl := hC.2.2.1
  have hnb := cNB_ok (hi := 9) hT hC (by omega)
  have hS9 := hnb.2.2.2.1
  refine zV_aload_n (i := 0) (n := 55) C dX1_parseSeat_54 rfl rfl rfl ?_
  refine zV_callV0u (n := 58) C zk1 jX1_hasFault lX1_29 (x_hasFault (d := d + 4) hT hC) dX1_parseSeat_55 zs_txt rfl (Nat.le_of_ble_eq_true rfl) (zfit_of (by omega) (by decide)) ⟨Nat.le_refl _, Nat.le_refl _⟩ rfl ?_
  refine zV_if_ne (n := 61) C 83 dX1_parseSeat_58 (by decide) (by first | omega | exact zb_rg) rfl (fun h58 => ?_) (fun h58 => ?_)
  · skip
    simp only [zb_eq0, Decidable.not_not] at h58
    rw [show (cPart (ν 4 3) (ν 4 2 1) 12 (4 + 5 * st + 1) 9 C9) = C9 from if_neg (fun q => by omega)] at KK
    exact KK
  · skip
    simp only [zb_eq0, Decidable.not_not] at h58
    refine zV_aload_n (i := 0) (n := 62) C dX1_parseSeat_61 rfl rfl rfl ?_
    refine zV_getP (f := 0) (n := 65) C zk1 fX1_12 dX1_parseSeat_62 zs_txt rfl (by decide) rfl ?_
    refine zV_ldcS 12 (n := 67) C dX1_parseSeat_65 (by decide) rfl rfl ?_
    refine zV_callV1u (n := 70) C zk5 jX6_isWord lX1_56 (x_isWord (d := d + 0) (by decide) hT hC) dX1_parseSeat_67 zs_tape rfl (Nat.le_of_ble_eq_true rfl) (zfit_of (by omega) (by decide)) ⟨Nat.le_refl _, Nat.le_refl _⟩ rfl ?_
    refine zV_if_eq (n := 73) C 83 dX1_parseSeat_70 (by decide) (by first | omega | exact zb_rg) rfl (fun h70 => ?_) (fun h70 => ?_)
    · skip
      simp only [zb_eq0, Decidable.not_not] at h70
      rw [show (cPart (ν 4 3) (ν 4 2 1) 12 (4 + 5 * st + 1) 9 C9) = C9 from if_neg (fun q => h70 q.2)] at KK
      exact KK
    · skip
      simp only [zb_eq0, Decidable.not_not] at h70
      refine zV_aload_n (i := 3) (n := 74) C dX1_parseSeat_73 rfl rfl rfl ?_
      refine zV_aload_n (i := 0) (n := 75) C dX1_parseSeat_74 rfl rfl rfl ?_
      refine zV_bipush (n := 77) C dX1_parseSeat_75 (by decide) rfl ?_
      refine zV_callV1u (n := 80) C zk1 jX1_numberBehind lX1_65 (x_numberBehind (d := d + 2) hT hC (by omega)) dX1_parseSeat_77 zs_txt rfl (Nat.le_of_ble_eq_true rfl) (zfit_of (by omega) (by decide)) ⟨Nat.le_refl _, Nat.le_refl _⟩ rfl ?_
      refine zV_putI (f := 1) (fi := 1) (n := 83) C zk3 fX1_115 dX1_parseSeat_80 (zs_seat (by omega) (by omega)) rfl (by decide) rfl rfl rfl rfl ?_
      rw [cmu_seat (by omega) (by omega)]
      rw [show (cPart (ν 4 3) (ν 4 2 1) 12 (4 + 5 * st + 1) 9 C9) = cRow (cNB (ν 4 3) (ν 4 2 1) 9 C9).1 (zfu (Cst.S (cNB (ν 4 3) (ν 4 2 1) 9 C9).1) (4 + 5 * st + 1) (cNB (ν 4 3) (ν 4 2 1) 9 C9).2) from if_pos ⟨by omega, h70⟩] at KK
      exact KK

set_option maxRecDepth 100000 in
set_option maxHeartbeats 4000000 in
theorem x_seat_c {Γ : zC} {l : Launch} {d : Nat} {p : Program} {e : Env} {s : State} {m : MethodId} {args : Array Value} {below : List Frame} {meth : Method} {c : Code} {Q : State → Prop} (C : zCx Γ (zAA Γ) p s m args c RX1 cX1_parseSeat 4) {ν : zMem} {C9 : Cst} {N : Int} (hT : tapeOk (ν 4 3) (ν 4 2 1)) (hC : cOk N (ν 4 3) (ν 4 2 1) C9) {st : Int} (hs : 0 ≤ st ∧ st < 3) (KK : zV Γ (zAA Γ) p l e (zRm (d + 5)) s m args below meth c 0 0 Q 114 [.ref (za Γ 4 1), .ref (za Γ 2 0), .int (zi st), .ref (za Γ 2 (3 + st))] [] (cM ν (cFlag (ν 4 3) (ν 4 2 1) 13 (4 + 5 * st + 2) C9))) :
    zV Γ (zAA Γ) p l e (zRm (d + 5)) s m args below meth c 0 0 Q 83 [.ref (za Γ 4 1), .ref (za Γ 2 0), .int (zi st), .ref (za Γ 2 (3 + st))] [] (cM ν C9) := by
  have hn := hT.1
  have ht := cOk_t hT hC
  have hf := hC.1
  have hl := hC.2.2.1
  refine zV_aload_n (i := 0) (n := 84) C dX1_parseSeat_83 rfl rfl rfl ?_
  refine zV_callV0u (n := 87) C zk1 jX1_hasFault lX1_29 (x_hasFault (d := d + 4) hT hC) dX1_parseSeat_84 zs_txt rfl (Nat.le_of_ble_eq_true rfl) (zfit_of (by omega) (by decide)) ⟨Nat.le_refl _, Nat.le_refl _⟩ rfl ?_
  refine zV_if_ne (n := 90) C 114 dX1_parseSeat_87 (by decide) (by first | omega | exact zb_rg) rfl (fun h87 => ?_) (fun h87 => ?_)
  · skip
    simp only [zb_eq0, Decidable.not_not] at h87
    rw [show (cFlag (ν 4 3) (ν 4 2 1) 13 (4 + 5 * st + 2) C9) = C9 from if_neg (fun q => by omega)] at KK
    exact KK
  · skip
    simp only [zb_eq0, Decidable.not_not] at h87
    refine zV_aload_n (i := 0) (n := 91) C dX1_parseSeat_90 rfl rfl rfl ?_
    refine zV_getP (f := 0) (n := 94) C zk1 fX1_12 dX1_parseSeat_91 zs_txt rfl (by decide) rfl ?_
    refine zV_ldcS 13 (n := 96) C dX1_parseSeat_94 (by decide) rfl rfl ?_
    refine zV_callV1u (n := 99) C zk5 jX6_isWord lX1_56 (x_isWord (d := d + 0) (by decide) hT hC) dX1_parseSeat_96 zs_tape rfl (Nat.le_of_ble_eq_true rfl) (zfit_of (by omega) (by decide)) ⟨Nat.le_refl _, Nat.le_refl _⟩ rfl ?_
    refine zV_if_eq (n := 102) C 114 dX1_parseSeat_99 (by decide) (by first | omega | exact zb_rg) rfl (fun h99 => ?_) (fun h99 => ?_)
    · skip
      simp only [zb_eq0, Decidable.not_not] at h99
      rw [show (cFlag (ν 4 3) (ν 4 2 1) 13 (4 + 5 * st + 2) C9) = C9 from if_neg (fun q => h99 q.2)] at KK
      exact KK
    · skip
      simp only [zb_eq0, Decidable.not_not] at h99
      refine zV_aload_n (i := 3) (n := 103) C dX1_parseSeat_102 rfl rfl rfl ?_
      refine zV_iconst (n := 104) C dX1_parseSeat_103 rfl ?_
      refine zV_putI (f := 2) (fi := 2) (n := 107) C zk3 fX1_104 dX1_parseSeat_104 (zs_seat (by omega) (by omega)) rfl (by decide) rfl rfl rfl rfl ?_
      rw [cmu_seat (by omega) (by omega)]
      refine zV_aload_n (i := 0) (n := 108) C dX1_parseSeat_107 rfl rfl rfl ?_
      refine zV_getP (f := 0) (n := 111) C zk1 fX1_12 dX1_parseSeat_108 zs_txt rfl (by decide) rfl ?_
      refine zV_callV0v (n := 114) C zk5 jX6_next lX1_39 (x_next (d := d + 3) hT (cRow_ok hC (rInv_st hC.2.2.2 hs (by omega) (by simp)))) dX1_parseSeat_111 zs_tape rfl (Nat.le_of_ble_eq_true rfl) (zfit_of (by omega) (by decide)) ⟨Nat.le_refl _, Nat.le_refl _⟩ rfl ?_
      rw [show (cFlag (ν 4 3) (ν 4 2 1) 13 (4 + 5 * st + 2) C9) = cNx (ν 4 3) (ν 4 2 1) (cRow C9 (zfu (Cst.S C9) (4 + 5 * st + 2) 1)) from if_pos ⟨by omega, h99⟩] at KK
      exact KK

set_option maxRecDepth 100000 in
set_option maxHeartbeats 4000000 in
theorem x_parseSeat {Γ : zC} {l : Launch} {d : Nat} {ν : zMem} {C9 : Cst} {N : Int} (hT : tapeOk (ν 4 3) (ν 4 2 1)) (hC : cOk N (ν 4 3) (ν 4 2 1) C9)  : zRet Γ l (d + 5) qX1_parseSeat [.ref (za Γ 4 1), .ref (za Γ 2 0)] (cM ν C9) none (cM ν (cSeat (ν 4 3) (ν 4 2 1) C9)) := by
  refine zRet.mk 2 [.ref (za Γ 4 1), .ref (za Γ 2 0), .null, .null] RX1 rfl (by decide +kernel) (Nat.le_of_ble_eq_true rfl) rfl ?_
  intro p e s m below meth c C hr hlk
  have hn := hT.1
  have ht := cOk_t hT hC
  have hf := hC.1
  have hl := hC.2.2.1
  have hnb := cNB_ok (hi := 2) hT hC (by omega)
  refine zV_aload_n (i := 0) (n := 1) C dX1_parseSeat_0 rfl rfl rfl ?_
  refine zV_iconst (n := 2) C dX1_parseSeat_1 rfl ?_
  refine zV_callV1u (n := 5) C zk1 jX1_numberBehind lX1_65 (x_numberBehind (d := d + 2) hT hC (by omega)) dX1_parseSeat_2 zs_txt rfl (Nat.le_of_ble_eq_true rfl) (zfit_of (by omega) (by decide)) ⟨Nat.le_refl _, Nat.le_refl _⟩ rfl ?_
  refine zS_istore_n_4_2 (n := 6) C dX1_parseSeat_5 rfl rfl ?_
  refine zV_aload_n (i := 0) (n := 7) C dX1_parseSeat_6 rfl rfl rfl ?_
  refine zV_callV0u (n := 10) C zk1 jX1_hasFault lX1_29 (x_hasFault (d := d + 4) hT hnb.1) dX1_parseSeat_7 zs_txt rfl (Nat.le_of_ble_eq_true rfl) (zfit_of (by omega) (by decide)) ⟨Nat.le_refl _, Nat.le_refl _⟩ rfl ?_
  refine zV_if_ne (n := 13) C 20 dX1_parseSeat_10 (by decide) (by first | omega | exact zb_rg) rfl (fun h10 => ?_) (fun h10 => ?_)
  · skip
    simp only [zb_eq0, Decidable.not_not] at h10
    exact zV_return C hr hlk dX1_parseSeat_20 (by rfl) (by exact congrArg (cM ν) (show (cNB (ν 4 3) (ν 4 2 1) 2 C9).1 = (cSeat (ν 4 3) (ν 4 2 1) C9) from (if_neg h10).symm))
  · skip
    simp only [zb_eq0, Decidable.not_not] at h10
    refine zV_iload_n (i := 2) (n := 14) C dX1_parseSeat_13 rfl rfl rfl ?_
    refine zV_callN1u (n := 17) C jX8_isSeat (by decide) (c_isSeat (d := d + 4) (by omega)) dX1_parseSeat_14 (Nat.le_of_ble_eq_true rfl) (zfit_of (by omega) (by decide)) ⟨Nat.le_refl _, Nat.le_refl _⟩ rfl ?_
    refine zV_if_ne (n := 20) C 21 dX1_parseSeat_17 (by decide) (by first | omega | exact zb_rg) rfl (fun h17 => ?_) (fun h => by simp only [zb_eq0, Decidable.not_not] at h; exfalso; omega)
    simp only [zb_eq0, Decidable.not_not] at h17
    have hl1 : Cst.l (cNB (ν 4 3) (ν 4 2 1) 2 C9).1 = -1 := by omega
    have k0 : cOk N (ν 4 3) (ν 4 2 1) (cRow (cNB (ν 4 3) (ν 4 2 1) 2 C9).1 (zfu (Cst.S (cNB (ν 4 3) (ν 4 2 1) 2 C9).1) (4 + 5 * (cNB (ν 4 3) (ν 4 2 1) 2 C9).2 + 2) 0)) := cRow_ok hnb.1 (rInv_st hnb.1.2.2.2 (by omega) (by omega) (by simp))
    have q1 := cPart_ok (i := 11) (idx := 4 + 5 * (cNB (ν 4 3) (ν 4 2 1) 2 C9).2 + 0) (hi := 5) hT k0 (by omega) (fun v S J hv => rInv_st J (by omega) (by omega) (by simpa using hv)) (by omega)
    have q2 := cPart_ok (i := 12) (idx := 4 + 5 * (cNB (ν 4 3) (ν 4 2 1) 2 C9).2 + 1) (hi := 9) hT q1.1 (by omega) (fun v S J hv => rInv_st J (by omega) (by omega) (by simpa using hv)) (by omega)
    refine zV_aload_n (i := 1) (n := 22) C dX1_parseSeat_21 rfl rfl rfl ?_
    refine zV_getP (f := 0) (n := 25) C zk0 fX1_100 dX1_parseSeat_22 (zs_car (by omega)) rfl (by decide) rfl ?_
    refine zV_iload_n (i := 2) (n := 26) C dX1_parseSeat_25 rfl rfl rfl ?_
    refine zV_aald (n := 27) C dX1_parseSeat_26 (zs_carS (by omega)) (by first | omega | exact zb_rg) (by decide) (by decide) rfl ?_
    refine zS_astore_n_4_3 (n := 28) C dX1_parseSeat_27 rfl rfl ?_
    refine zV_aload_n (i := 3) (n := 29) C dX1_parseSeat_28 rfl rfl rfl ?_
    refine zV_iconst (n := 30) C dX1_parseSeat_29 rfl ?_
    refine zV_putI (f := 2) (fi := 2) (n := 33) C zk3 fX1_104 dX1_parseSeat_30 (zs_seat (by omega) (by omega)) rfl (by decide) rfl rfl rfl rfl ?_
    rw [cmu_seat (by omega) (by omega)]
    refine x_seat_a C hT k0 (st := (cNB (ν 4 3) (ν 4 2 1) 2 C9).2) (by omega) hl1 ?_
    refine x_seat_b C hT q1.1 (st := (cNB (ν 4 3) (ν 4 2 1) 2 C9).2) (by omega) ?_
    refine x_seat_c C hT q2.1 (st := (cNB (ν 4 3) (ν 4 2 1) 2 C9).2) (by omega) ?_
    exact zV_return C hr hlk dX1_parseSeat_114 rfl (congrArg (cM ν) (show (cFlag (ν 4 3) (ν 4 2 1) 13 (4 + 5 * (cNB (ν 4 3) (ν 4 2 1) 2 C9).2 + 2) (cPart (ν 4 3) (ν 4 2 1) 12 (4 + 5 * (cNB (ν 4 3) (ν 4 2 1) 2 C9).2 + 1) 9 (cPart (ν 4 3) (ν 4 2 1) 11 (4 + 5 * (cNB (ν 4 3) (ν 4 2 1) 2 C9).2 + 0) 5 (cRow (cNB (ν 4 3) (ν 4 2 1) 2 C9).1 (zfu (Cst.S (cNB (ν 4 3) (ν 4 2 1) 2 C9).1) (4 + 5 * (cNB (ν 4 3) (ν 4 2 1) 2 C9).2 + 2) 0))))) = (cSeat (ν 4 3) (ν 4 2 1) C9) from (if_pos hl1).symm))

set_option maxRecDepth 100000 in
set_option maxHeartbeats 4000000 in
theorem x_parseItem {Γ : zC} {l : Launch} {d : Nat} {ν : zMem} {C9 : Cst} {N : Int} (hT : tapeOk (ν 4 3) (ν 4 2 1)) (hC : cOk N (ν 4 3) (ν 4 2 1) C9) (hl1 : (Cst.l C9) = -1) : zRet Γ l (d + 6) qX1_parseItem [.ref (za Γ 4 1), .ref (za Γ 2 0)] (cM ν C9) none (cM ν (cItem (ν 4 3) (ν 4 2 1) C9)) := by
  refine zRet.mk 1 [.ref (za Γ 4 1), .ref (za Γ 2 0), .null] RX1 rfl (by decide +kernel) (Nat.le_of_ble_eq_true rfl) rfl ?_
  intro p e s m below meth c C hr hlk
  have hn := hT.1
  have ht := cOk_t hT hC
  have hf := hC.1
  have hl := hC.2.2.1
  have hkd := cKd_rg (T := (ν 4 3)) (n := (ν 4 2 1)) (C := C9) (r := 6) (i := 0)
  refine zV_aload_n (i := 0) (n := 1) C dX1_parseItem_0 rfl rfl rfl ?_
  refine zV_callV0u (n := 4) C zk1 jX1_kindNamed lX1_42 (x_kindNamed (d := d + 0) hT hC) dX1_parseItem_1 zs_txt rfl (Nat.le_of_ble_eq_true rfl) (zfit_of (by omega) (by decide)) ⟨Nat.le_refl _, Nat.le_refl _⟩ rfl ?_
  refine zS_istore_n_3_2 (n := 5) C dX1_parseItem_4 rfl rfl ?_
  refine zV_iload_n (i := 2) (n := 6) C dX1_parseItem_5 rfl rfl rfl ?_
  refine zV_callN1u (n := 9) C jX8_isKind (by decide) (c_isKind (d := d + 5) (by omega)) dX1_parseItem_6 (Nat.le_of_ble_eq_true rfl) (zfit_of (by omega) (by decide)) ⟨Nat.le_refl _, Nat.le_refl _⟩ rfl ?_
  refine zV_if_eq (n := 12) C 21 dX1_parseItem_9 (by decide) (by first | omega | exact zb_rg) rfl (fun h9 => ?_) (fun h9 => ?_)
  · skip
    simp only [zb_eq0, Decidable.not_not] at h9
    refine zV_aload_n (i := 0) (n := 22) C dX1_parseItem_21 rfl rfl rfl ?_
    refine zV_getP (f := 0) (n := 25) C zk1 fX1_12 dX1_parseItem_22 zs_txt rfl (by decide) rfl ?_
    refine zV_ldcS 6 (n := 27) C dX1_parseItem_25 (by decide) rfl rfl ?_
    refine zV_callV1u (n := 30) C zk5 jX6_isWord lX1_56 (x_isWord (d := d + 1) (by decide) hT hC) dX1_parseItem_27 zs_tape rfl (Nat.le_of_ble_eq_true rfl) (zfit_of (by omega) (by decide)) ⟨Nat.le_refl _, Nat.le_refl _⟩ rfl ?_
    refine zV_if_eq (n := 33) C 41 dX1_parseItem_30 (by decide) (by first | omega | exact zb_rg) rfl (fun h30 => ?_) (fun h30 => ?_)
    · skip
      simp only [zb_eq0, Decidable.not_not] at h30
      refine zV_aload_n (i := 0) (n := 42) C dX1_parseItem_41 rfl rfl rfl ?_
      refine zV_getP (f := 0) (n := 45) C zk1 fX1_12 dX1_parseItem_42 zs_txt rfl (by decide) rfl ?_
      refine zV_ldcS 7 (n := 47) C dX1_parseItem_45 (by decide) rfl rfl ?_
      refine zV_callV1u (n := 50) C zk5 jX6_isWord lX1_56 (x_isWord (d := d + 1) (by decide) hT hC) dX1_parseItem_47 zs_tape rfl (Nat.le_of_ble_eq_true rfl) (zfit_of (by omega) (by decide)) ⟨Nat.le_refl _, Nat.le_refl _⟩ rfl ?_
      refine zV_if_eq (n := 53) C 66 dX1_parseItem_50 (by decide) (by first | omega | exact zb_rg) rfl (fun h50 => ?_) (fun h50 => ?_)
      · skip
        simp only [zb_eq0, Decidable.not_not] at h50
        refine zV_aload_n (i := 0) (n := 67) C dX1_parseItem_66 rfl rfl rfl ?_
        refine zV_aload_n (i := 0) (n := 68) C dX1_parseItem_67 rfl rfl rfl ?_
        refine zV_getP (f := 0) (n := 71) C zk1 fX1_12 dX1_parseItem_68 zs_txt rfl (by decide) rfl ?_
        refine zV_getI (f := 3) (fi := 3) (n := 74) C zk5 fX1_36 dX1_parseItem_71 zs_tape rfl (by decide) rfl rfl ?_
        rw [cm_f]
        refine zV_putI (f := 1) (fi := 1) (n := 77) C zk1 fX1_18 dX1_parseItem_74 zs_txt rfl (by decide) rfl rfl rfl rfl ?_
        rw [cmu_l]
        exact zV_return C hr hlk dX1_parseItem_77 (by rfl) (by first | exact congrArg (cM ν) (show cChild (ν 4 3) (ν 4 2 1) (cKd (ν 4 3) (ν 4 2 1) C9 6 0) C9 = (cItem (ν 4 3) (ν 4 2 1) C9) from (if_pos (by omega)).symm) | exact congrArg (cM ν) (show cSeat (ν 4 3) (ν 4 2 1) C9 = (cItem (ν 4 3) (ν 4 2 1) C9) from ((if_neg (by omega)).trans (if_pos h30)).symm) | exact congrArg (cM ν) (show cRow (cNB (ν 4 3) (ν 4 2 1) 9 C9).1 (zfu (Cst.S (cNB (ν 4 3) (ν 4 2 1) 9 C9).1) 3 (cNB (ν 4 3) (ν 4 2 1) 9 C9).2) = (cItem (ν 4 3) (ν 4 2 1) C9) from ((if_neg (by omega)).trans ((if_neg h30).trans (if_pos h50))).symm) | exact congrArg (cM ν) (show cFlt C9 = (cItem (ν 4 3) (ν 4 2 1) C9) from ((if_neg (by omega)).trans ((if_neg h30).trans (if_neg h50))).symm))
      · skip
        simp only [zb_eq0, Decidable.not_not] at h50
        refine zV_aload_n (i := 1) (n := 54) C dX1_parseItem_53 rfl rfl rfl ?_
        refine zV_aload_n (i := 0) (n := 55) C dX1_parseItem_54 rfl rfl rfl ?_
        refine zV_bipush (n := 57) C dX1_parseItem_55 (by decide) rfl ?_
        refine zV_callV1u (n := 60) C zk1 jX1_numberBehind lX1_65 (x_numberBehind (d := d + 3) hT hC (by omega)) dX1_parseItem_57 zs_txt rfl (Nat.le_of_ble_eq_true rfl) (zfit_of (by omega) (by decide)) ⟨Nat.le_refl _, Nat.le_refl _⟩ rfl ?_
        refine zV_putI (f := 3) (fi := 3) (n := 63) C zk0 fX1_69 dX1_parseItem_60 (zs_car (by omega)) rfl (by decide) rfl rfl rfl rfl ?_
        rw [cmu_rain]
        refine zV_goto C 77 dX1_parseItem_63 (by decide) ?_
        exact zV_return C hr hlk dX1_parseItem_77 (by rfl) (by first | exact congrArg (cM ν) (show cChild (ν 4 3) (ν 4 2 1) (cKd (ν 4 3) (ν 4 2 1) C9 6 0) C9 = (cItem (ν 4 3) (ν 4 2 1) C9) from (if_pos (by omega)).symm) | exact congrArg (cM ν) (show cSeat (ν 4 3) (ν 4 2 1) C9 = (cItem (ν 4 3) (ν 4 2 1) C9) from ((if_neg (by omega)).trans (if_pos h30)).symm) | exact congrArg (cM ν) (show cRow (cNB (ν 4 3) (ν 4 2 1) 9 C9).1 (zfu (Cst.S (cNB (ν 4 3) (ν 4 2 1) 9 C9).1) 3 (cNB (ν 4 3) (ν 4 2 1) 9 C9).2) = (cItem (ν 4 3) (ν 4 2 1) C9) from ((if_neg (by omega)).trans ((if_neg h30).trans (if_pos h50))).symm) | exact congrArg (cM ν) (show cFlt C9 = (cItem (ν 4 3) (ν 4 2 1) C9) from ((if_neg (by omega)).trans ((if_neg h30).trans (if_neg h50))).symm))
    · skip
      simp only [zb_eq0, Decidable.not_not] at h30
      refine zV_aload_n (i := 0) (n := 34) C dX1_parseItem_33 rfl rfl rfl ?_
      refine zV_aload_n (i := 1) (n := 35) C dX1_parseItem_34 rfl rfl rfl ?_
      refine zV_callV1v (n := 38) C zk1 jX1_parseSeat lX1_60 (x_parseSeat (d := d + 0) hT hC) dX1_parseItem_35 zs_txt rfl (Nat.le_of_ble_eq_true rfl) (zfit_of (by omega) (by decide)) ⟨Nat.le_refl _, Nat.le_refl _⟩ rfl ?_
      refine zV_goto C 77 dX1_parseItem_38 (by decide) ?_
      exact zV_return C hr hlk dX1_parseItem_77 (by rfl) (by first | exact congrArg (cM ν) (show cChild (ν 4 3) (ν 4 2 1) (cKd (ν 4 3) (ν 4 2 1) C9 6 0) C9 = (cItem (ν 4 3) (ν 4 2 1) C9) from (if_pos (by omega)).symm) | exact congrArg (cM ν) (show cSeat (ν 4 3) (ν 4 2 1) C9 = (cItem (ν 4 3) (ν 4 2 1) C9) from ((if_neg (by omega)).trans (if_pos h30)).symm) | exact congrArg (cM ν) (show cRow (cNB (ν 4 3) (ν 4 2 1) 9 C9).1 (zfu (Cst.S (cNB (ν 4 3) (ν 4 2 1) 9 C9).1) 3 (cNB (ν 4 3) (ν 4 2 1) 9 C9).2) = (cItem (ν 4 3) (ν 4 2 1) C9) from ((if_neg (by omega)).trans ((if_neg h30).trans (if_pos h50))).symm) | exact congrArg (cM ν) (show cFlt C9 = (cItem (ν 4 3) (ν 4 2 1) C9) from ((if_neg (by omega)).trans ((if_neg h30).trans (if_neg h50))).symm))
  · skip
    simp only [zb_eq0, Decidable.not_not] at h9
    refine zV_aload_n (i := 0) (n := 13) C dX1_parseItem_12 rfl rfl rfl ?_
    refine zV_aload_n (i := 1) (n := 14) C dX1_parseItem_13 rfl rfl rfl ?_
    refine zV_iload_n (i := 2) (n := 15) C dX1_parseItem_14 rfl rfl rfl ?_
    refine zV_callV2v (n := 18) C zk1 jX1_parseChild lX1_50 (x_parseChild (d := d + 0) hT hC (by omega) hl1) dX1_parseItem_15 zs_txt rfl (Nat.le_of_ble_eq_true rfl) (zfit_of (by omega) (by decide)) ⟨Nat.le_refl _, Nat.le_refl _⟩ rfl ?_
    refine zV_goto C 77 dX1_parseItem_18 (by decide) ?_
    exact zV_return C hr hlk dX1_parseItem_77 (by rfl) (by first | exact congrArg (cM ν) (show cChild (ν 4 3) (ν 4 2 1) (cKd (ν 4 3) (ν 4 2 1) C9 6 0) C9 = (cItem (ν 4 3) (ν 4 2 1) C9) from (if_pos (by omega)).symm) | exact congrArg (cM ν) (show cSeat (ν 4 3) (ν 4 2 1) C9 = (cItem (ν 4 3) (ν 4 2 1) C9) from ((if_neg (by omega)).trans (if_pos h30)).symm) | exact congrArg (cM ν) (show cRow (cNB (ν 4 3) (ν 4 2 1) 9 C9).1 (zfu (Cst.S (cNB (ν 4 3) (ν 4 2 1) 9 C9).1) 3 (cNB (ν 4 3) (ν 4 2 1) 9 C9).2) = (cItem (ν 4 3) (ν 4 2 1) C9) from ((if_neg (by omega)).trans ((if_neg h30).trans (if_pos h50))).symm) | exact congrArg (cM ν) (show cFlt C9 = (cItem (ν 4 3) (ν 4 2 1) C9) from ((if_neg (by omega)).trans ((if_neg h30).trans (if_neg h50))).symm))

set_option maxRecDepth 100000 in
set_option maxHeartbeats 4000000 in
theorem c_first {Γ : zC} {l : Launch} {d : Nat} {μ : zMem} {tok f t v fl : Int} (hT : tapeOk (μ 4 3) (μ 4 2 1))  : zRet Γ l (d + 2) qX6_first [.ref (za Γ 4 2)] (zq μ tok f t v fl) none (qM μ (nxF (μ 4 3) (μ 4 2 1) 0) (nxT (μ 4 3) (μ 4 2 1) (nxF (μ 4 3) (μ 4 2 1) 0)) fl) := by
  refine zRet.mk 0 [.ref (za Γ 4 2)] RX6 rfl (by decide +kernel) (Nat.le_of_ble_eq_true rfl) rfl ?_
  intro p e s m below meth c C hr hlk
  have hn := hT.1
  refine zV_aload_n (i := 0) (n := 1) C dX6_first_0 rfl rfl rfl ?_
  refine zV_iconst (n := 2) C dX6_first_1 rfl ?_
  refine zV_putI (f := 4) (fi := 4) (n := 5) C zk5 fX6_25 dX6_first_2 zs_tape rfl (by decide) rfl rfl rfl rfl ?_
  rw [zqu_t]
  refine zV_aload_n (i := 0) (n := 6) C dX6_first_5 rfl rfl rfl ?_
  refine zV_callV0v (n := 9) C zk5 jX6_next lX6_31 (c_next (d := d + 0) hT (by omega)) dX6_first_6 zs_tape rfl (Nat.le_of_ble_eq_true rfl) (zfit_of (by omega) (by decide)) ⟨Nat.le_refl _, Nat.le_refl _⟩ rfl ?_
  exact zV_return C hr hlk dX6_first_9 (by rfl) (by rfl)

set_option maxRecDepth 100000 in
set_option maxHeartbeats 4000000 in
theorem x_parse_loop {Γ : zC} {l : Launch} {d : Nat} {p : Program} {e : Env} {s : State} {m : MethodId} {args : Array Value} {below : List Frame} {meth : Method} {c : Code} {Q : State → Prop} (C : zCx Γ (zAA Γ) p s m args c RX1 cX1_parse 3) {ν : zMem} {N : Int} (hT : tapeOk (ν 4 3) (ν 4 2 1))  :
    ∀ (i : Nat) (C9 : Cst) (c9 : Int) (hC : cOk N (ν 4 3) (ν 4 2 1) C9) (hl1 : (Cst.l C9) = -1) (hc : 1 ≤ c9 ∧ c9 + i = 121) (h2 : 2 * (c9 - 1) ≤ Cst.f C9) (K1 : ∀ v2 : Value, zV Γ (zAA Γ) p l e (zRm (d + 7)) s m args below meth c 0 0 Q 43 [.ref (za Γ 4 1), .ref (za Γ 2 0), v2] [.int (zi (cLoop (ν 4 3) (ν 4 2 1) i C9 c9).2)] (cM ν (cLoop (ν 4 3) (ν 4 2 1) i C9 c9).1)) (K2 : ∀ v2 : Value, zV Γ (zAA Γ) p l e (zRm (d + 7)) s m args below meth c 0 0 Q 67 [.ref (za Γ 4 1), .ref (za Γ 2 0), v2] [.int (zi (cLoop (ν 4 3) (ν 4 2 1) i C9 c9).2)] (cM ν (cLoop (ν 4 3) (ν 4 2 1) i C9 c9).1)), zV Γ (zAA Γ) p l e (zRm (d + 7)) s m args below meth c 0 0 Q 14 [.ref (za Γ 4 1), .ref (za Γ 2 0), .int (zi c9)] [] (cM ν C9) := by
  intro i
  induction i with
  | zero =>
    intro C9 c9 hC hl1 hc h2 K1 K2
    have hf := hC.1
    have hn := hT.1
    exfalso
    omega
  | succ i ih =>
    intro C9 c9 hC hl1 hc h2 K1 K2
    have hn := hT.1
    have ht := cOk_t hT hC
    have hf := hC.1
    have hl := hC.2.2.1
    have hI := cItem_ok hT hC
    have htk := tk_rg (bA (ν 4 3) (ν 4 2 1) (Cst.f (cItem (ν 4 3) (ν 4 2 1) C9)))
    refine zV_iload_n (i := 2) (n := 15) C dX1_parse_14 rfl rfl rfl ?_
    refine zV_bipush (n := 17) C dX1_parse_15 (by decide) rfl ?_
    refine zV_icmp_gt (n := 20) C 81 dX1_parse_17 (by decide) (by first | omega | exact zb_rg) (by first | omega | exact zb_rg) rfl (fun h => by exfalso; first | omega | exact zb_rg) (fun h17 => ?_)
    refine zV_aload_n (i := 0) (n := 21) C dX1_parse_20 rfl rfl rfl ?_
    refine zV_aload_n (i := 1) (n := 22) C dX1_parse_21 rfl rfl rfl ?_
    refine zV_callV1v (n := 25) C zk1 jX1_parseItem lX1_25 (x_parseItem (d := d + 0) hT hC hl1) dX1_parse_22 zs_txt rfl (Nat.le_of_ble_eq_true rfl) (zfit_of (by omega) (by decide)) ⟨Nat.le_refl _, Nat.le_refl _⟩ rfl ?_
    refine zV_aload_n (i := 0) (n := 26) C dX1_parse_25 rfl rfl rfl ?_
    refine zV_callV0u (n := 29) C zk1 jX1_hasFault lX1_29 (x_hasFault (d := d + 6) hT hI.1) dX1_parse_26 zs_txt rfl (Nat.le_of_ble_eq_true rfl) (zfit_of (by omega) (by decide)) ⟨Nat.le_refl _, Nat.le_refl _⟩ rfl ?_
    refine zV_if_ne (n := 32) C 42 dX1_parse_29 (by decide) (by first | omega | exact zb_rg) rfl (fun h29 => ?_) (fun h29 => ?_)
    · skip
      simp only [zb_eq0, Decidable.not_not] at h29
      refine zV_iload_n (i := 2) (n := 43) C dX1_parse_42 rfl rfl rfl ?_
      have e9 : cLoop (ν 4 3) (ν 4 2 1) (i + 1) C9 c9 = ((cItem (ν 4 3) (ν 4 2 1) C9), c9) := if_pos (show (¬ Cst.l (cItem (ν 4 3) (ν 4 2 1) C9) = -1 ∨ tk (bA (ν 4 3) (ν 4 2 1) (Cst.f (cItem (ν 4 3) (ν 4 2 1) C9))) = 0) from by first | exact Or.inl (by omega) | exact Or.inr (by omega))
      rw [e9] at K1
      exact K1 _
    · skip
      simp only [zb_eq0, Decidable.not_not] at h29
      refine zV_aload_n (i := 0) (n := 33) C dX1_parse_32 rfl rfl rfl ?_
      refine zV_getP (f := 0) (n := 36) C zk1 fX1_12 dX1_parse_33 zs_txt rfl (by decide) rfl ?_
      refine zV_getI (f := 2) (fi := 2) (n := 39) C zk5 fX1_33 dX1_parse_36 zs_tape rfl (by decide) rfl rfl ?_
      rw [cm_k]
      refine zV_if_ne (n := 42) C 44 dX1_parse_39 (by decide) (by first | omega | exact zb_rg) rfl (fun h39 => ?_) (fun h39 => ?_)
      · skip
        refine zV_aload_n (i := 0) (n := 45) C dX1_parse_44 rfl rfl rfl ?_
        refine zV_getP (f := 0) (n := 48) C zk1 fX1_12 dX1_parse_45 zs_txt rfl (by decide) rfl ?_
        refine zV_getI (f := 2) (fi := 2) (n := 51) C zk5 fX1_33 dX1_parse_48 zs_tape rfl (by decide) rfl rfl ?_
        rw [cm_k]
        refine zV_iconst (n := 52) C dX1_parse_51 rfl ?_
        refine zV_icmp_eq (n := 55) C 68 dX1_parse_52 (by decide) (by first | omega | exact zb_rg) (by first | omega | exact zb_rg) rfl (fun h52 => ?_) (fun h52 => ?_)
        · skip
          refine zV_aload_n (i := 0) (n := 69) C dX1_parse_68 rfl rfl rfl ?_
          refine zV_getP (f := 0) (n := 72) C zk1 fX1_12 dX1_parse_69 zs_txt rfl (by decide) rfl ?_
          refine zV_callV0v (n := 75) C zk5 jX6_next lX1_39 (x_next (d := d + 5) hT hI.1) dX1_parse_72 zs_tape rfl (Nat.le_of_ble_eq_true rfl) (zfit_of (by omega) (by decide)) ⟨Nat.le_refl _, Nat.le_refl _⟩ rfl ?_
          refine zS_iinc_3_2 (n := 78) C dX1_parse_75 rfl rfl ?_
          refine zV_goto C 14 dX1_parse_78 (by decide) ?_
          have e9 : cLoop (ν 4 3) (ν 4 2 1) (i + 1) C9 c9 = cLoop (ν 4 3) (ν 4 2 1) i (cNx (ν 4 3) (ν 4 2 1) (cItem (ν 4 3) (ν 4 2 1) C9)) (c9 + 1) := (if_neg (show ¬ (¬ Cst.l (cItem (ν 4 3) (ν 4 2 1) C9) = -1 ∨ tk (bA (ν 4 3) (ν 4 2 1) (Cst.f (cItem (ν 4 3) (ν 4 2 1) C9))) = 0) from fun q => by rcases q with q | q <;> omega)).trans (if_neg (by omega))
          rw [e9] at K1 K2
          have hNx := cNx_ok hT hI.1
          have htI := cOk_t hT hI.1
          have hfI := hI.1.1
          have hbI := bA_rg (i := Cst.f (cItem (ν 4 3) (ν 4 2 1) C9)) hT hfI.1
          have h3 := tk3.mp h52
          have hadv := hI.2 (by omega)
          exact ih (cNx (ν 4 3) (ν 4 2 1) (cItem (ν 4 3) (ν 4 2 1) C9)) (c9 + 1) hNx.1 (show Cst.l (cItem (ν 4 3) (ν 4 2 1) C9) = -1 from by omega) (by omega) (by omega) K1 K2
        · skip
          refine zV_aload_n (i := 0) (n := 56) C dX1_parse_55 rfl rfl rfl ?_
          refine zV_aload_n (i := 0) (n := 57) C dX1_parse_56 rfl rfl rfl ?_
          refine zV_getP (f := 0) (n := 60) C zk1 fX1_12 dX1_parse_57 zs_txt rfl (by decide) rfl ?_
          refine zV_getI (f := 3) (fi := 3) (n := 63) C zk5 fX1_36 dX1_parse_60 zs_tape rfl (by decide) rfl rfl ?_
          rw [cm_f]
          refine zV_putI (f := 1) (fi := 1) (n := 66) C zk1 fX1_18 dX1_parse_63 zs_txt rfl (by decide) rfl rfl rfl rfl ?_
          rw [cmu_l]
          refine zV_iload_n (i := 2) (n := 67) C dX1_parse_66 rfl rfl rfl ?_
          have e9 : cLoop (ν 4 3) (ν 4 2 1) (i + 1) C9 c9 = (cFlt (cItem (ν 4 3) (ν 4 2 1) C9), c9) := (if_neg (show ¬ (¬ Cst.l (cItem (ν 4 3) (ν 4 2 1) C9) = -1 ∨ tk (bA (ν 4 3) (ν 4 2 1) (Cst.f (cItem (ν 4 3) (ν 4 2 1) C9))) = 0) from fun q => by rcases q with q | q <;> omega)).trans (if_pos h52)
          rw [e9] at K2
          exact K2 _
      · skip
        refine zV_iload_n (i := 2) (n := 43) C dX1_parse_42 rfl rfl rfl ?_
        have e9 : cLoop (ν 4 3) (ν 4 2 1) (i + 1) C9 c9 = ((cItem (ν 4 3) (ν 4 2 1) C9), c9) := if_pos (show (¬ Cst.l (cItem (ν 4 3) (ν 4 2 1) C9) = -1 ∨ tk (bA (ν 4 3) (ν 4 2 1) (Cst.f (cItem (ν 4 3) (ν 4 2 1) C9))) = 0) from by first | exact Or.inl (by omega) | exact Or.inr (by omega))
        rw [e9] at K1
        exact K1 _

set_option maxRecDepth 100000 in
set_option maxHeartbeats 4000000 in
theorem x_parse {Γ : zC} {l : Launch} {d : Nat} {ν : zMem} {N : Int} (hT : tapeOk (ν 4 3) (ν 4 2 1)) {S : Int → Int} (I : rInv N S)  : zRet Γ l (d + 7) qX1_parse [.ref (za Γ 4 1), .ref (za Γ 2 0)] (zcar ν 2 S) (some (.int (zi ((cLoop (ν 4 3) (ν 4 2 1) 120 (nxF (ν 4 3) (ν 4 2 1) 0, nxT (ν 4 3) (ν 4 2 1) (nxF (ν 4 3) (ν 4 2 1) 0), -1, S) 1).2)))) (cM ν (cLoop (ν 4 3) (ν 4 2 1) 120 (nxF (ν 4 3) (ν 4 2 1) 0, nxT (ν 4 3) (ν 4 2 1) (nxF (ν 4 3) (ν 4 2 1) 0), -1, S) 1).1) := by
  refine zRet.mk 1 [.ref (za Γ 4 1), .ref (za Γ 2 0), .null] RX1 rfl (by decide +kernel) (Nat.le_of_ble_eq_true rfl) rfl ?_
  intro p e s m below meth c C hr hlk
  have hn := hT.1
  refine zV_eqm (μ' := (zq (zcar ν 2 S) (ν 4 2 2) (ν 4 2 3) (ν 4 2 4) (ν 4 2 5) (ν 4 1 1))) (zq_self (ν := zcar ν 2 S)).symm ?_
  refine zV_aload_n (i := 0) (n := 1) C dX1_parse_0 rfl rfl rfl ?_
  refine zV_iconst (n := 2) C dX1_parse_1 rfl ?_
  refine zV_putI (f := 1) (fi := 1) (n := 5) C zk1 fX1_18 dX1_parse_2 zs_txt rfl (by decide) rfl rfl rfl rfl ?_
  rw [zqu_l]
  refine zV_aload_n (i := 0) (n := 6) C dX1_parse_5 rfl rfl rfl ?_
  refine zV_getP (f := 0) (n := 9) C zk1 fX1_12 dX1_parse_6 zs_txt rfl (by decide) rfl ?_
  refine zV_callV0v (n := 12) C zk5 jX6_first lX1_22 (c_first (d := d + 4) (μ := zcar ν 2 S) hT) dX1_parse_9 zs_tape rfl (Nat.le_of_ble_eq_true rfl) (zfit_of (by omega) (by decide)) ⟨Nat.le_refl _, Nat.le_refl _⟩ rfl ?_
  refine zV_iconst (n := 13) C dX1_parse_12 rfl ?_
  refine zS_istore_n_3_2 (n := 14) C dX1_parse_13 rfl rfl ?_
  refine zV_eqm (μ' := (cM ν (nxF (ν 4 3) (ν 4 2 1) 0, nxT (ν 4 3) (ν 4 2 1) (nxF (ν 4 3) (ν 4 2 1) 0), -1, S))) qM_car ?_
  have hF := nxF_rg (T := (ν 4 3)) (n := (ν 4 2 1)) (t := 0) (by omega)
  refine x_parse_loop C hT 120 (nxF (ν 4 3) (ν 4 2 1) 0, nxT (ν 4 3) (ν 4 2 1) (nxF (ν 4 3) (ν 4 2 1) 0), -1, S) 1 ⟨⟨hF.1, hF.2⟩, rfl, ⟨Int.le_refl _, (show (-1 : Int) ≤ (ν 4 2 1) from by omega)⟩, I⟩ rfl (by omega) (show 2 * ((1 : Int) - 1) ≤ nxF (ν 4 3) (ν 4 2 1) 0 from by omega) (fun v2 => ?_) (fun v2 => ?_)
  · exact zV_ireturn C hr hlk dX1_parse_43 rfl rfl
  · exact zV_ireturn C hr hlk dX1_parse_67 rfl rfl

set_option maxRecDepth 100000 in
set_option maxHeartbeats 4000000 in
theorem x_hasFault0 {Γ : zC} {l : Launch} {d : Nat} {μ : zMem} {fl : Int} (h : μ 4 1 1 = fl) (hf : -1 ≤ fl ∧ fl ≤ 1000) : zRet Γ l (d + 0) qX1_hasFault [.ref (za Γ 4 1)] μ (some (.int (zi (zb (¬ fl = -1))))) μ := by
  refine zRet.mk 0 [.ref (za Γ 4 1)] RX1 rfl (by decide +kernel) (Nat.le_of_ble_eq_true rfl) rfl ?_
  intro p e s m below meth c C hr hlk
  refine zV_aload_n (i := 0) (n := 1) C dX1_hasFault_0 rfl rfl rfl ?_
  refine zV_getI (f := 1) (fi := 1) (n := 4) C zk1 fX1_18 dX1_hasFault_1 zs_txt rfl (by decide) rfl rfl ?_
  rw [h]
  refine zV_iconst (n := 5) C dX1_hasFault_4 rfl ?_
  refine zV_icmp_eq (n := 8) C 12 dX1_hasFault_5 (by decide) (by first | omega | exact zb_rg) (by first | omega | exact zb_rg) rfl (fun h5 => ?_) (fun h5 => ?_)
  · skip
    refine zV_iconst (n := 13) C dX1_hasFault_12 rfl ?_
    exact zV_zreturn C hr hlk dX1_hasFault_13 (by first | rfl | exact (zi_z zb_01).1 | exact (zi_z (by omega)).1) (by first | exact (congrArg (fun z => some (Value.int (zi z))) (zb_t (by omega)).symm) | exact (congrArg (fun z => some (Value.int (zi z))) (zb_f (by omega)).symm)) (by rfl)
  · skip
    refine zV_iconst (n := 9) C dX1_hasFault_8 rfl ?_
    refine zV_goto C 13 dX1_hasFault_9 (by decide) ?_
    exact zV_zreturn C hr hlk dX1_hasFault_13 (by first | rfl | exact (zi_z zb_01).1 | exact (zi_z (by omega)).1) (by first | exact (congrArg (fun z => some (Value.int (zi z))) (zb_t (by omega)).symm) | exact (congrArg (fun z => some (Value.int (zi z))) (zb_f (by omega)).symm)) (by rfl)

/-- the class's car(): what is read -/
def cRead (T : Int → Int) (n : Int) (S : Int → Int) : Cst × Int := cLoop T n 120 (nxF T n 0, nxT T n (nxF T n 0), -1, S) 1
def qN (ν : zMem) (C9 : Cst) : zMem := zup (qM ν (Cst.f C9) (Cst.t C9) (Cst.l C9)) 4 2 1 0
theorem qN_up {ν : zMem} {C9 : Cst} : zup (cM ν C9) 4 2 1 0 = zcar (qN ν C9) 2 (Cst.S C9) := zup_car
set_option maxRecDepth 100000 in
set_option maxHeartbeats 4000000 in
theorem c_car {Γ : zC} {l : Launch} {d : Nat} {μ : zMem} {S : Int → Int} {N : Int} (I : rInv N S) (hT : tapeOk (μ 4 3) (μ 4 2 1))  : zRet Γ l (d + 8) qX8_car [.ref (za Γ 4 0)] (zcar μ 0 S) (some (.int (zi (if (Cst.l (cRead (μ 4 3) (μ 4 2 1) S).1) = -1 then (cRead (μ 4 3) (μ 4 2 1) S).2 else -1 - (Cst.l (cRead (μ 4 3) (μ 4 2 1) S).1))))) (if (Cst.l (cRead (μ 4 3) (μ 4 2 1) S).1) = -1 then zcar (zcar (qN (zcar μ 0 S) (cRead (μ 4 3) (μ 4 2 1) S).1) 2 (Cst.S (cRead (μ 4 3) (μ 4 2 1) S).1)) 0 (Cst.S (cRead (μ 4 3) (μ 4 2 1) S).1) else (zcar (qN (zcar μ 0 S) (cRead (μ 4 3) (μ 4 2 1) S).1) 2 (Cst.S (cRead (μ 4 3) (μ 4 2 1) S).1))) := by
  refine zRet.mk 1 [.ref (za Γ 4 0), .null] RX8 rfl (by decide +kernel) (Nat.le_of_ble_eq_true rfl) rfl ?_
  intro p e s m below meth c C hr hlk
  have hn := hT.1
  have k0 : cOk N (μ 4 3) (μ 4 2 1) (cRead (μ 4 3) (μ 4 2 1) S).1 := cLoop_ok hT ⟨⟨(nxF_rg (T := (μ 4 3)) (n := (μ 4 2 1)) (t := 0) (by omega)).1, (nxF_rg (T := (μ 4 3)) (n := (μ 4 2 1)) (t := 0) (by omega)).2⟩, rfl, ⟨Int.le_refl _, (show (-1 : Int) ≤ (μ 4 2 1) from by omega)⟩, I⟩
  have kl := k0.2.2.1
  refine zV_aload_n (i := 0) (n := 1) C dX8_car_0 rfl rfl rfl ?_
  refine zV_getP (f := 2) (n := 4) C zk7 fX8_19 dX8_car_1 zs_cls rfl (by decide) rfl ?_
  refine zV_aload_n (i := 0) (n := 5) C dX8_car_4 rfl rfl rfl ?_
  refine zV_getP (f := 0) (n := 8) C zk7 fX8_10 dX8_car_5 zs_cls rfl (by decide) rfl ?_
  refine zV_callV1v (n := 11) C zk0 jX0_become lX8_165 (c_become (d := d + 6) (by omega) (by omega) (by decide) I) dX8_car_8 (zs_car (by omega)) rfl (Nat.le_of_ble_eq_true rfl) (zfit_of (by omega) (by decide)) ⟨Nat.le_refl _, Nat.le_refl _⟩ rfl ?_
  refine zV_aload_n (i := 0) (n := 12) C dX8_car_11 rfl rfl rfl ?_
  refine zV_getP (f := 3) (n := 15) C zk7 fX8_25 dX8_car_12 zs_cls rfl (by decide) rfl ?_
  refine zV_aload_n (i := 0) (n := 16) C dX8_car_15 rfl rfl rfl ?_
  refine zV_getP (f := 2) (n := 19) C zk7 fX8_19 dX8_car_16 zs_cls rfl (by decide) rfl ?_
  refine zV_callV1u (n := 22) C zk1 jX1_parse lX8_220 (x_parse (d := d) (ν := (zcar μ 0 S)) hT I) dX8_car_19 zs_txt rfl (Nat.le_of_ble_eq_true rfl) (zfit_of (by omega) (by decide)) ⟨Nat.le_refl _, Nat.le_refl _⟩ rfl ?_
  refine zV_eqm (μ' := cM (zcar μ 0 S) (cRead (μ 4 3) (μ 4 2 1) S).1) rfl ?_
  refine zS_istore_n_2_1 (n := 23) C dX8_car_22 rfl rfl ?_
  refine zV_aload_n (i := 0) (n := 24) C dX8_car_23 rfl rfl rfl ?_
  refine zV_getP (f := 3) (n := 27) C zk7 fX8_25 dX8_car_24 zs_cls rfl (by decide) rfl ?_
  refine zV_getP (f := 0) (n := 30) C zk1 fX8_209 dX8_car_27 zs_txt rfl (by decide) rfl ?_
  refine zV_iconst (n := 31) C dX8_car_30 rfl ?_
  refine zV_putI (f := 1) (fi := 1) (n := 34) C zk5 fX8_213 dX8_car_31 zs_tape rfl (by decide) rfl rfl rfl rfl ?_
  rw [qN_up]
  refine zV_aload_n (i := 0) (n := 35) C dX8_car_34 rfl rfl rfl ?_
  refine zV_getP (f := 3) (n := 38) C zk7 fX8_25 dX8_car_35 zs_cls rfl (by decide) rfl ?_
  refine zV_callV0u (n := 41) C zk1 jX1_hasFault lX8_224 (x_hasFault0 (d := d + 7) (fl := (Cst.l (cRead (μ 4 3) (μ 4 2 1) S).1)) rfl (by omega)) dX8_car_38 zs_txt rfl (Nat.le_of_ble_eq_true rfl) (zfit_of (by omega) (by decide)) ⟨Nat.le_refl _, Nat.le_refl _⟩ rfl ?_
  refine zV_if_eq (n := 44) C 54 dX8_car_41 (by decide) (by first | omega | exact zb_rg) rfl (fun h41 => ?_) (fun h41 => ?_)
  · skip
    simp only [zb_eq0, Decidable.not_not] at h41
    refine zV_aload_n (i := 0) (n := 55) C dX8_car_54 rfl rfl rfl ?_
    refine zV_getP (f := 0) (n := 58) C zk7 fX8_10 dX8_car_55 zs_cls rfl (by decide) rfl ?_
    refine zV_aload_n (i := 0) (n := 59) C dX8_car_58 rfl rfl rfl ?_
    refine zV_getP (f := 2) (n := 62) C zk7 fX8_19 dX8_car_59 zs_cls rfl (by decide) rfl ?_
    refine zV_callV1v (n := 65) C zk0 jX0_become lX8_165 (c_become (d := d + 6) (by omega) (by omega) (by decide) k0.2.2.2) dX8_car_62 (zs_car (by omega)) rfl (Nat.le_of_ble_eq_true rfl) (zfit_of (by omega) (by decide)) ⟨Nat.le_refl _, Nat.le_refl _⟩ rfl ?_
    refine zV_iload_n (i := 1) (n := 66) C dX8_car_65 rfl rfl rfl ?_
    exact zV_ireturn C hr hlk dX8_car_66 (by first | exact congrArg (fun z => some (Value.int (zi z))) (if_neg h41).symm | exact congrArg (fun z => some (Value.int (zi z))) (if_pos h41).symm) (by first | exact (if_neg h41).symm | exact (if_pos h41).symm)
  · skip
    simp only [zb_eq0, Decidable.not_not] at h41
    refine zV_iconst (n := 45) C dX8_car_44 rfl ?_
    refine zV_aload_n (i := 0) (n := 46) C dX8_car_45 rfl rfl rfl ?_
    refine zV_getP (f := 3) (n := 49) C zk7 fX8_25 dX8_car_46 zs_cls rfl (by decide) rfl ?_
    refine zV_getI (f := 1) (fi := 1) (n := 52) C zk1 fX8_227 dX8_car_49 zs_txt rfl (by decide) rfl rfl ?_
    rw [show (zcar (qN (zcar μ 0 S) (cRead (μ 4 3) (μ 4 2 1) S).1) 2 (Cst.S (cRead (μ 4 3) (μ 4 2 1) S).1)) 4 1 1 = (Cst.l (cRead (μ 4 3) (μ 4 2 1) S).1) from rfl]
    refine zV_isub (n := 53) C dX8_car_52 rfl ?_
    exact zV_ireturn C hr hlk dX8_car_53 (by first | exact congrArg (fun z => some (Value.int (zi z))) (if_neg h41).symm | exact congrArg (fun z => some (Value.int (zi z))) (if_pos h41).symm) (by first | exact (if_neg h41).symm | exact (if_pos h41).symm)

