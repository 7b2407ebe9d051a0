/-! the reference: items of its text (laid by wip/whole/gen/ref14.py) -/
theorem pm_f {μ : zMem} {P : Pst} : pMem μ P 5 0 11 = Pst.f P := rfl
theorem pm_t {μ : zMem} {P : Pst} : pMem μ P 5 0 12 = Pst.t P := rfl
theorem pm_v {μ : zMem} {P : Pst} : pMem μ P 5 0 13 = Pst.v P := rfl
theorem pm_w {μ : zMem} {P : Pst} : pMem μ P 5 0 14 = Pst.w P := rfl
theorem pm_n {μ : zMem} {P : Pst} : pMem μ P 5 0 10 = μ 5 0 10 := rfl
theorem pm_S {μ : zMem} {P : Pst} : pMem μ P 5 1 = Pst.S P := rfl
theorem pm_T {μ : zMem} {P : Pst} : pMem μ P 5 8 = μ 5 8 := rfl
theorem pms_S {μ : zMem} {P : Pst} {G : Int → Int} : zset (pMem μ P) 5 1 G = pMem μ (pRow P G) := zps_S
theorem pmu_S {μ : zMem} {P : Pst} {i z : Int} : zup (pMem μ P) 5 1 i z = pMem μ (pRow P (zfu (Pst.S P) i z)) := zpu_S
theorem pWord_rg {N n : Int} {T : Int → Int} {P : Pst} (hT : tapeOk T n) (h : pOk N T n P) : 0 ≤ pWord T n P ∧ pWord T n P ≤ 1152921504606846976 := by
  have ht := pOk_t hT h
  unfold pWord
  split
  · rename_i q
    exact wh_rg (by omega) (fun j j0 j1 => (tok_let q.2 j0 (by rw [← h.2.1]; omega)).1)
  · omega
theorem pMust_0 {n : Int} {T : Int → Int} {P : Pst} : Pst.w (pMust T n 0 P) = 1 := by
  unfold pMust
  rw [if_neg (fun q => by omega)]
theorem pRow_ok {N n : Int} {T : Int → Int} {P : Pst} {S : Int → Int} (h : pOk N T n P) (I : rInv N S) : pOk N T n (pRow P S) := ⟨h.1, h.2.1, h.2.2.1, h.2.2.2.1, I⟩
set_option maxRecDepth 100000 in
set_option maxHeartbeats 4000000 in
theorem m_kindHere {Γ : zC} {l : Launch} {d : Nat} {μ : zMem} {P : Pst} {N : Int} (hT : tapeOk (μ 5 8) (μ 5 0 10)) (hP : pOk N (μ 5 8) (μ 5 0 10) P)  : zRet Γ l (d + 3) qX9_kindHere [.ref (za Γ 5 0)] (pMem μ P) (some (.int (zi (pKind (μ 5 8) (μ 5 0 10) P)))) (pMem μ P) := by
  refine zRet.mk 2 [.ref (za Γ 5 0), .null, .null] RX9 rfl (by decide +kernel) (Nat.le_of_ble_eq_true rfl) rfl ?_
  intro p e s m below meth c C hr hlk
  have hpw := pWord_rg hT hP
  refine zV_aload_n (i := 0) (n := 1) C dX9_kindHere_0 rfl rfl rfl ?_
  refine zV_callV0u (n := 4) C zk8 jX9_word lX9_234 (m_word (d := d) hT hP) dX9_kindHere_1 zs_ref rfl (Nat.le_of_ble_eq_true rfl) (zfit_of (by omega) (by decide)) ⟨Nat.le_refl _, Nat.le_refl _⟩ rfl ?_
  refine zS_lstore_n_3_1 (n := 5) C dX9_kindHere_4 rfl rfl ?_
  refine zV_lload_n (i := 1) (n := 6) C dX9_kindHere_5 rfl rfl rfl ?_
  refine zV_ldc2 (n := 9) C dX9_kindHere_6 kX9_238 rfl ?_
  refine zV_lcmp_ne (n := 13) C 17 dX9_kindHere_9 dX9_kindHere_10 (by decide) (by first | omega | exact zb_rg) (by first | omega | exact zb_rg) rfl (fun h9 => ?_) (fun h9 => ?_)
  · skip
    refine zV_lload_n (i := 1) (n := 18) C dX9_kindHere_17 rfl rfl rfl ?_
    refine zV_ldc2 (n := 21) C dX9_kindHere_18 kX9_240 rfl ?_
    refine zV_lcmp_ne (n := 25) C 29 dX9_kindHere_21 dX9_kindHere_22 (by decide) (by first | omega | exact zb_rg) (by first | omega | exact zb_rg) rfl (fun h21 => ?_) (fun h21 => ?_)
    · skip
      refine zV_lload_n (i := 1) (n := 30) C dX9_kindHere_29 rfl rfl rfl ?_
      refine zV_ldc2 (n := 33) C dX9_kindHere_30 kX9_242 rfl ?_
      refine zV_lcmp_ne (n := 37) C 41 dX9_kindHere_33 dX9_kindHere_34 (by decide) (by first | omega | exact zb_rg) (by first | omega | exact zb_rg) rfl (fun h33 => ?_) (fun h33 => ?_)
      · skip
        refine zV_lload_n (i := 1) (n := 42) C dX9_kindHere_41 rfl rfl rfl ?_
        refine zV_ldc2 (n := 45) C dX9_kindHere_42 kX9_244 rfl ?_
        refine zV_lcmp_ne (n := 49) C 53 dX9_kindHere_45 dX9_kindHere_46 (by decide) (by first | omega | exact zb_rg) (by first | omega | exact zb_rg) rfl (fun h45 => ?_) (fun h45 => ?_)
        · skip
          refine zV_lload_n (i := 1) (n := 54) C dX9_kindHere_53 rfl rfl rfl ?_
          refine zV_ldc2 (n := 57) C dX9_kindHere_54 kX9_246 rfl ?_
          refine zV_lcmp_ne (n := 61) C 65 dX9_kindHere_57 dX9_kindHere_58 (by decide) (by first | omega | exact zb_rg) (by first | omega | exact zb_rg) rfl (fun h57 => ?_) (fun h57 => ?_)
          · skip
            refine zV_lload_n (i := 1) (n := 66) C dX9_kindHere_65 rfl rfl rfl ?_
            refine zV_ldc2 (n := 69) C dX9_kindHere_66 kX9_248 rfl ?_
            refine zV_lcmp_ne (n := 73) C 77 dX9_kindHere_69 dX9_kindHere_70 (by decide) (by first | omega | exact zb_rg) (by first | omega | exact zb_rg) rfl (fun h69 => ?_) (fun h69 => ?_)
            · skip
              refine zV_iconst (n := 78) C dX9_kindHere_77 rfl ?_
              exact zV_ireturn C hr hlk dX9_kindHere_78 (by exact congrArg (fun z => some (Value.int (zi z))) (by unfold pKind; (repeat' split) <;> omega)) (by rfl)
            · skip
              refine zV_iconst (n := 74) C dX9_kindHere_73 rfl ?_
              refine zV_goto C 78 dX9_kindHere_74 (by decide) ?_
              exact zV_ireturn C hr hlk dX9_kindHere_78 (by exact congrArg (fun z => some (Value.int (zi z))) (by unfold pKind; (repeat' split) <;> omega)) (by rfl)
          · skip
            refine zV_iconst (n := 62) C dX9_kindHere_61 rfl ?_
            refine zV_goto C 78 dX9_kindHere_62 (by decide) ?_
            exact zV_ireturn C hr hlk dX9_kindHere_78 (by exact congrArg (fun z => some (Value.int (zi z))) (by unfold pKind; (repeat' split) <;> omega)) (by rfl)
        · skip
          refine zV_iconst (n := 50) C dX9_kindHere_49 rfl ?_
          refine zV_goto C 78 dX9_kindHere_50 (by decide) ?_
          exact zV_ireturn C hr hlk dX9_kindHere_78 (by exact congrArg (fun z => some (Value.int (zi z))) (by unfold pKind; (repeat' split) <;> omega)) (by rfl)
      · skip
        refine zV_iconst (n := 38) C dX9_kindHere_37 rfl ?_
        refine zV_goto C 78 dX9_kindHere_38 (by decide) ?_
        exact zV_ireturn C hr hlk dX9_kindHere_78 (by exact congrArg (fun z => some (Value.int (zi z))) (by unfold pKind; (repeat' split) <;> omega)) (by rfl)
    · skip
      refine zV_iconst (n := 26) C dX9_kindHere_25 rfl ?_
      refine zV_goto C 78 dX9_kindHere_26 (by decide) ?_
      exact zV_ireturn C hr hlk dX9_kindHere_78 (by exact congrArg (fun z => some (Value.int (zi z))) (by unfold pKind; (repeat' split) <;> omega)) (by rfl)
  · skip
    refine zV_iconst (n := 14) C dX9_kindHere_13 rfl ?_
    refine zV_goto C 78 dX9_kindHere_14 (by decide) ?_
    exact zV_ireturn C hr hlk dX9_kindHere_78 (by exact congrArg (fun z => some (Value.int (zi z))) (by unfold pKind; (repeat' split) <;> omega)) (by rfl)

set_option maxRecDepth 100000 in
set_option maxHeartbeats 4000000 in
theorem m_partItem {Γ : zC} {l : Launch} {d : Nat} {μ : zMem} {P : Pst} {N : Int} (hT : tapeOk (μ 5 8) (μ 5 0 10)) (hP : pOk N (μ 5 8) (μ 5 0 10) P) {K : Int} (hK : 0 ≤ K ∧ K ≤ 1000000000) {idx hi : Int} (hx : 0 ≤ idx ∧ idx < 55) (hhi : 0 ≤ hi ∧ hi ≤ 1000) : zRet Γ l (d + 5) qX9_partItem [.ref (za Γ 5 0), .long (zl K), .int (zi idx), .int (zi hi)] (pMem μ P) none (pMem μ (pPart (μ 5 8) (μ 5 0 10) K idx hi P)) := by
  refine zRet.mk 0 [.ref (za Γ 5 0), .long (zl K), .null, .int (zi idx), .int (zi hi)] RX9 rfl (by decide +kernel) (Nat.le_of_ble_eq_true rfl) rfl ?_
  intro p e s m below meth c C hr hlk
  have hpw := pWord_rg hT hP
  have h1 := pMust_ok (b := 1) hT hP
  have h2 := (pNum_ok (hi := hi) hT h1.1).1
  have hw2 : Pst.w (pNum (μ 5 8) (μ 5 0 10) hi (pMust (μ 5 8) (μ 5 0 10) 1 P)) = 0 ∨ Pst.w (pNum (μ 5 8) (μ 5 0 10) hi (pMust (μ 5 8) (μ 5 0 10) 1 P)) = 1 := h2.2.2.1
  refine zV_aload_n (i := 0) (n := 1) C dX9_partItem_0 rfl rfl rfl ?_
  refine zV_callV0u (n := 4) C zk8 jX9_word lX9_234 (m_word (d := d) hT hP) dX9_partItem_1 zs_ref rfl (Nat.le_of_ble_eq_true rfl) (zfit_of (by omega) (by decide)) ⟨Nat.le_refl _, Nat.le_refl _⟩ rfl ?_
  refine zV_lload_n (i := 1) (n := 5) C dX9_partItem_4 rfl rfl rfl ?_
  refine zV_lcmp_ne (n := 9) C 47 dX9_partItem_5 dX9_partItem_6 (by decide) (by first | omega | exact zb_rg) (by first | omega | exact zb_rg) rfl (fun h5 => ?_) (fun h5 => ?_)
  · skip
    exact zV_return C hr hlk dX9_partItem_47 (by rfl) (by first | exact congrArg (pMem μ) (if_neg h5).symm | exact congrArg (pMem μ) ((if_pos h5).trans (congrArg (fun z => pRow _ (zfu _ _ z)) (if_pos h30))).symm | exact congrArg (pMem μ) ((if_pos h5).trans (congrArg (fun z => pRow _ (zfu _ _ z)) (if_neg h30))).symm)
  · skip
    refine zV_aload_n (i := 0) (n := 10) C dX9_partItem_9 rfl rfl rfl ?_
    refine zV_iconst (n := 11) C dX9_partItem_10 rfl ?_
    refine zV_callV1v (n := 14) C zk8 jX9_must lX9_230 (m_must (d := d) hT hP (by omega)) dX9_partItem_11 zs_ref rfl (Nat.le_of_ble_eq_true rfl) (zfit_of (by omega) (by decide)) ⟨Nat.le_refl _, Nat.le_refl _⟩ rfl ?_
    refine zV_aload_n (i := 0) (n := 15) C dX9_partItem_14 rfl rfl rfl ?_
    refine zV_iconst (n := 16) C dX9_partItem_15 rfl ?_
    refine zV_iload (n := 18) C dX9_partItem_16 rfl rfl ?_
    refine zV_callV2v (n := 21) C zk8 jX9_number lX9_250 (m_number (d := d) hT h1.1 hhi) dX9_partItem_18 zs_ref rfl (Nat.le_of_ble_eq_true rfl) (zfit_of (by omega) (by decide)) ⟨Nat.le_refl _, Nat.le_refl _⟩ rfl ?_
    refine zV_aload_n (i := 0) (n := 22) C dX9_partItem_21 rfl rfl rfl ?_
    refine zV_getP (f := 0) (n := 25) C zk8 fX9_7 dX9_partItem_22 zs_ref rfl (by decide) rfl ?_
    refine zV_iload_n (i := 3) (n := 26) C dX9_partItem_25 rfl rfl rfl ?_
    refine zV_aload_n (i := 0) (n := 27) C dX9_partItem_26 rfl rfl rfl ?_
    refine zV_getI (f := 14) (fi := 14) (n := 30) C zk8 fX9_216 dX9_partItem_27 zs_ref rfl (by decide) rfl rfl ?_
    rw [pm_w]
    refine zV_if_eq (n := 33) C 42 dX9_partItem_30 (by decide) (by first | omega | exact zb_rg) rfl (fun h30 => ?_) (fun h30 => ?_)
    · skip
      refine zV_aload_n (i := 0) (n := 43) C dX9_partItem_42 rfl rfl rfl ?_
      refine zV_getI (f := 13) (fi := 13) (n := 46) C zk8 fX9_227 dX9_partItem_43 zs_ref rfl (by decide) rfl rfl ?_
      rw [pm_v]
      refine zV_iast (n := 47) C dX9_partItem_46 zs_s (by first | omega | exact zb_rg) (by decide) rfl ?_
      rw [pmu_S]
      exact zV_return C hr hlk dX9_partItem_47 (by rfl) (by first | exact congrArg (pMem μ) (if_neg h5).symm | exact congrArg (pMem μ) ((if_pos h5).trans (congrArg (fun z => pRow _ (zfu _ _ z)) (if_pos h30))).symm | exact congrArg (pMem μ) ((if_pos h5).trans (congrArg (fun z => pRow _ (zfu _ _ z)) (if_neg h30))).symm)
    · skip
      refine zV_aload_n (i := 0) (n := 34) C dX9_partItem_33 rfl rfl rfl ?_
      refine zV_getP (f := 0) (n := 37) C zk8 fX9_7 dX9_partItem_34 zs_ref rfl (by decide) rfl ?_
      refine zV_iload_n (i := 3) (n := 38) C dX9_partItem_37 rfl rfl rfl ?_
      refine zV_iald (n := 39) C dX9_partItem_38 zs_s (by first | omega | exact zb_rg) (by decide) rfl ?_
      rw [pm_S]
      refine zV_goto C 46 dX9_partItem_39 (by decide) ?_
      refine zV_iast (n := 47) C dX9_partItem_46 zs_s (by first | omega | exact zb_rg) (by decide) rfl ?_
      rw [pmu_S]
      exact zV_return C hr hlk dX9_partItem_47 (by rfl) (by first | exact congrArg (pMem μ) (if_neg h5).symm | exact congrArg (pMem μ) ((if_pos h5).trans (congrArg (fun z => pRow _ (zfu _ _ z)) (if_pos h30))).symm | exact congrArg (pMem μ) ((if_pos h5).trans (congrArg (fun z => pRow _ (zfu _ _ z)) (if_neg h30))).symm)

set_option maxRecDepth 100000 in
set_option maxHeartbeats 4000000 in
theorem m_mayBe {Γ : zC} {l : Launch} {d : Nat} {μ : zMem} {P : Pst} {N : Int} (hT : tapeOk (μ 5 8) (μ 5 0 10)) (hP : pOk N (μ 5 8) (μ 5 0 10) P) {K : Int} (hK : 0 ≤ K ∧ K ≤ 1000000000)  : zRet Γ l (d + 4) qX9_mayBe [.ref (za Γ 5 0), .long (zl K)] (pMem μ P) (some (.int (zi (zb ((pWord (μ 5 8) (μ 5 0 10) P) = K))))) (pMem μ (if (pWord (μ 5 8) (μ 5 0 10) P) = K then pMust (μ 5 8) (μ 5 0 10) 1 P else P)) := by
  refine zRet.mk 1 [.ref (za Γ 5 0), .long (zl K), .null, .null] RX9 rfl (by decide +kernel) (Nat.le_of_ble_eq_true rfl) rfl ?_
  intro p e s m below meth c C hr hlk
  have hpw := pWord_rg hT hP
  refine zV_aload_n (i := 0) (n := 1) C dX9_mayBe_0 rfl rfl rfl ?_
  refine zV_callV0u (n := 4) C zk8 jX9_word lX9_234 (m_word (d := d) hT hP) dX9_mayBe_1 zs_ref rfl (Nat.le_of_ble_eq_true rfl) (zfit_of (by omega) (by decide)) ⟨Nat.le_refl _, Nat.le_refl _⟩ rfl ?_
  refine zV_lload_n (i := 1) (n := 5) C dX9_mayBe_4 rfl rfl rfl ?_
  refine zV_lcmp_ne (n := 9) C 13 dX9_mayBe_5 dX9_mayBe_6 (by decide) (by first | omega | exact zb_rg) (by first | omega | exact zb_rg) rfl (fun h5 => ?_) (fun h5 => ?_)
  · skip
    refine zV_iconst (n := 14) C dX9_mayBe_13 rfl ?_
    refine zS_istore_n_4_3 (n := 15) C dX9_mayBe_14 rfl rfl ?_
    refine zV_iload_n (i := 3) (n := 16) C dX9_mayBe_15 rfl rfl rfl ?_
    refine zV_if_eq (n := 19) C 24 dX9_mayBe_16 (by decide) (by first | omega | exact zb_rg) rfl (fun h16 => ?_) (fun h16 => ?_)
    · skip
      refine zV_iload_n (i := 3) (n := 25) C dX9_mayBe_24 rfl rfl rfl ?_
      exact zV_zreturn C hr hlk dX9_mayBe_25 (by first | rfl | exact (zi_z zb_01).1 | exact (zi_z (by omega)).1) (by first | (exfalso; omega) | exact congrArg (fun z => some (Value.int (zi z))) (zb_t h5).symm | exact congrArg (fun z => some (Value.int (zi z))) (zb_f h5).symm) (by first | (exfalso; omega) | exact congrArg (pMem μ) (if_pos h5).symm | exact congrArg (pMem μ) (if_neg h5).symm)
    · skip
      refine zV_aload_n (i := 0) (n := 20) C dX9_mayBe_19 rfl rfl rfl ?_
      refine zV_iconst (n := 21) C dX9_mayBe_20 rfl ?_
      refine zV_callV1v (n := 24) C zk8 jX9_must lX9_230 (m_must (d := d) hT hP (by omega)) dX9_mayBe_21 zs_ref rfl (Nat.le_of_ble_eq_true rfl) (zfit_of (by omega) (by decide)) ⟨Nat.le_refl _, Nat.le_refl _⟩ rfl ?_
      refine zV_iload_n (i := 3) (n := 25) C dX9_mayBe_24 rfl rfl rfl ?_
      exact zV_zreturn C hr hlk dX9_mayBe_25 (by first | rfl | exact (zi_z zb_01).1 | exact (zi_z (by omega)).1) (by first | (exfalso; omega) | exact congrArg (fun z => some (Value.int (zi z))) (zb_t h5).symm | exact congrArg (fun z => some (Value.int (zi z))) (zb_f h5).symm) (by first | (exfalso; omega) | exact congrArg (pMem μ) (if_pos h5).symm | exact congrArg (pMem μ) (if_neg h5).symm)
  · skip
    refine zV_iconst (n := 10) C dX9_mayBe_9 rfl ?_
    refine zV_goto C 14 dX9_mayBe_10 (by decide) ?_
    refine zS_istore_n_4_3 (n := 15) C dX9_mayBe_14 rfl rfl ?_
    refine zV_iload_n (i := 3) (n := 16) C dX9_mayBe_15 rfl rfl rfl ?_
    refine zV_if_eq (n := 19) C 24 dX9_mayBe_16 (by decide) (by first | omega | exact zb_rg) rfl (fun h16 => ?_) (fun h16 => ?_)
    · skip
      refine zV_iload_n (i := 3) (n := 25) C dX9_mayBe_24 rfl rfl rfl ?_
      exact zV_zreturn C hr hlk dX9_mayBe_25 (by first | rfl | exact (zi_z zb_01).1 | exact (zi_z (by omega)).1) (by first | (exfalso; omega) | exact congrArg (fun z => some (Value.int (zi z))) (zb_t h5).symm | exact congrArg (fun z => some (Value.int (zi z))) (zb_f h5).symm) (by first | (exfalso; omega) | exact congrArg (pMem μ) (if_pos h5).symm | exact congrArg (pMem μ) (if_neg h5).symm)
    · skip
      refine zV_aload_n (i := 0) (n := 20) C dX9_mayBe_19 rfl rfl rfl ?_
      refine zV_iconst (n := 21) C dX9_mayBe_20 rfl ?_
      refine zV_callV1v (n := 24) C zk8 jX9_must lX9_230 (m_must (d := d) hT hP (by omega)) dX9_mayBe_21 zs_ref rfl (Nat.le_of_ble_eq_true rfl) (zfit_of (by omega) (by decide)) ⟨Nat.le_refl _, Nat.le_refl _⟩ rfl ?_
      refine zV_iload_n (i := 3) (n := 25) C dX9_mayBe_24 rfl rfl rfl ?_
      exact zV_zreturn C hr hlk dX9_mayBe_25 (by first | rfl | exact (zi_z zb_01).1 | exact (zi_z (by omega)).1) (by first | (exfalso; omega) | exact congrArg (fun z => some (Value.int (zi z))) (zb_t h5).symm | exact congrArg (fun z => some (Value.int (zi z))) (zb_f h5).symm) (by first | (exfalso; omega) | exact congrArg (pMem μ) (if_pos h5).symm | exact congrArg (pMem μ) (if_neg h5).symm)

set_option maxRecDepth 100000 in
set_option maxHeartbeats 4000000 in
theorem m_childItem_b {Γ : zC} {l : Launch} {d : Nat} {p : Program} {e : Env} {s : State} {m : MethodId} {args : Array Value} {below : List Frame} {meth : Method} {c : Code} {Q : State → Prop} (C : zCx Γ (zAA Γ) p s m args c RX9 cX9_childItem 3) {μ : zMem} {P : Pst} {N : Int} (hT : tapeOk (μ 5 8) (μ 5 0 10)) (hP : pOk N (μ 5 8) (μ 5 0 10) P) {kd : Int} (hkd : 0 ≤ kd ∧ kd ≤ 5) (h6 : Pst.S P 0 < 6) (KK : ∀ v2 : Value, zV Γ (zAA Γ) p l e (zRm (d + 6)) s m args below meth c 0 0 Q 87 [.ref (za Γ 5 0), .int (zi kd), v2] [] (pMem μ (pMay (μ 5 8) (μ 5 0 10) 113716 (19 + 6 * Pst.S P 0 + 3) (pPart (μ 5 8) (μ 5 0 10) 441828 (19 + 6 * Pst.S P 0 + 2) 9 (pPart (μ 5 8) (μ 5 0 10) 632645 (19 + 6 * Pst.S P 0 + 1) 99 (pRow P (rAdd (Pst.S P) kd))))))) :
    zV Γ (zAA Γ) p l e (zRm (d + 6)) s m args below meth c 0 0 Q 28 [.ref (za Γ 5 0), .int (zi kd), .null] [] (pMem μ P) := by
  have i0 := hP.2.2.2.2.1
  have ha := rAdd_inv hP.2.2.2.2 (kd := kd) h6 hkd
  have hr9 := pRow_ok hP ha.1
  have q1 := (pPart_ok (K := 632645) (idx := (19 + 6 * Pst.S P 0 + 1)) (hi := 99) hT hr9 (fun v S J hv => rInv_kid J (by omega) (by omega) (by simpa using hv)) (by omega)).1
  have q2 := (pPart_ok (K := 441828) (idx := (19 + 6 * Pst.S P 0 + 2)) (hi := 9) hT q1 (fun v S J hv => rInv_kid J (by omega) (by omega) (by simpa using hv)) (by omega)).1
  have KK := KK (.int (zi (Pst.S P 0)))
  refine zV_aload_n (i := 0) (n := 29) C dX9_childItem_28 rfl rfl rfl ?_
  refine zV_iload_n (i := 1) (n := 30) C dX9_childItem_29 rfl rfl rfl ?_
  refine zV_callV1u (n := 33) C zk8 jX9_adds lX9_85 (m_adds (d := d) (N := N) (show rInv N (pMem μ P 5 1) from hP.2.2.2.2) h6) dX9_childItem_30 zs_ref rfl (Nat.le_of_ble_eq_true rfl) (zfit_of (by omega) (by decide)) ⟨Nat.le_refl _, Nat.le_refl _⟩ rfl ?_
  rw [pms_S, pm_S]
  refine zS_istore_n_3_2 (n := 34) C dX9_childItem_33 rfl rfl ?_
  refine zV_aload_n (i := 0) (n := 35) C dX9_childItem_34 rfl rfl rfl ?_
  refine zV_ldc2 (n := 38) C dX9_childItem_35 kX9_254 rfl ?_
  refine zV_iload_n (i := 2) (n := 39) C dX9_childItem_38 rfl rfl rfl ?_
  refine zV_iconst (n := 40) C dX9_childItem_39 rfl ?_
  refine zV_callS2u (n := 43) C jX9_placeOf lX9_60 (m_placeOf (d := d)) dX9_childItem_40 (Nat.le_of_ble_eq_true rfl) (zfit_of (by omega) (by decide)) ⟨Nat.le_refl _, Nat.le_refl _⟩ rfl ?_
  refine zV_bipush (n := 45) C dX9_childItem_43 (by decide) rfl ?_
  refine zV_callV3v (n := 48) C zk8 jX9_partItem lX9_256 (m_partItem (d := d) hT hr9 (by omega) (by omega) (by omega)) dX9_childItem_45 zs_ref rfl (Nat.le_of_ble_eq_true rfl) (zfit_of (by omega) (by decide)) ⟨Nat.le_refl _, Nat.le_refl _⟩ rfl ?_
  refine zV_aload_n (i := 0) (n := 49) C dX9_childItem_48 rfl rfl rfl ?_
  refine zV_ldc2 (n := 52) C dX9_childItem_49 kX9_260 rfl ?_
  refine zV_iload_n (i := 2) (n := 53) C dX9_childItem_52 rfl rfl rfl ?_
  refine zV_iconst (n := 54) C dX9_childItem_53 rfl ?_
  refine zV_callS2u (n := 57) C jX9_placeOf lX9_60 (m_placeOf (d := d)) dX9_childItem_54 (Nat.le_of_ble_eq_true rfl) (zfit_of (by omega) (by decide)) ⟨Nat.le_refl _, Nat.le_refl _⟩ rfl ?_
  refine zV_bipush (n := 59) C dX9_childItem_57 (by decide) rfl ?_
  refine zV_callV3v (n := 62) C zk8 jX9_partItem lX9_256 (m_partItem (d := d) hT q1 (by omega) (by omega) (by omega)) dX9_childItem_59 zs_ref rfl (Nat.le_of_ble_eq_true rfl) (zfit_of (by omega) (by decide)) ⟨Nat.le_refl _, Nat.le_refl _⟩ rfl ?_
  refine zV_aload_n (i := 0) (n := 63) C dX9_childItem_62 rfl rfl rfl ?_
  refine zV_getP (f := 0) (n := 66) C zk8 fX9_7 dX9_childItem_63 zs_ref rfl (by decide) rfl ?_
  refine zV_iload_n (i := 2) (n := 67) C dX9_childItem_66 rfl rfl rfl ?_
  refine zV_iconst (n := 68) C dX9_childItem_67 rfl ?_
  refine zV_callS2u (n := 71) C jX9_placeOf lX9_60 (m_placeOf (d := d)) dX9_childItem_68 (Nat.le_of_ble_eq_true rfl) (zfit_of (by omega) (by decide)) ⟨Nat.le_refl _, Nat.le_refl _⟩ rfl ?_
  refine zV_aload_n (i := 0) (n := 72) C dX9_childItem_71 rfl rfl rfl ?_
  refine zV_ldc2 (n := 75) C dX9_childItem_72 kX9_262 rfl ?_
  refine zV_callV1u (n := 78) C zk8 jX9_mayBe lX9_264 (m_mayBe (d := d) hT q2 (by omega)) dX9_childItem_75 zs_ref rfl (Nat.le_of_ble_eq_true rfl) (zfit_of (by omega) (by decide)) ⟨Nat.le_refl _, Nat.le_refl _⟩ rfl ?_
  refine zV_if_eq (n := 81) C 85 dX9_childItem_78 (by decide) (by first | omega | exact zb_rg) rfl (fun h78 => ?_) (fun h78 => ?_)
  · skip
    simp only [zb_eq0, Decidable.not_not] at h78
    refine zV_iconst (n := 86) C dX9_childItem_85 rfl ?_
    refine zV_iast (n := 87) C dX9_childItem_86 zs_s (by first | omega | exact zb_rg) (by decide) rfl ?_
    first | rw [if_pos h78, pmu_S] | rw [if_neg h78, pmu_S]
    first | (unfold pMay at KK; rw [if_pos h78] at KK; exact KK) | (unfold pMay at KK; rw [if_neg h78] at KK; exact KK)
  · skip
    simp only [zb_eq0, Decidable.not_not] at h78
    refine zV_iconst (n := 82) C dX9_childItem_81 rfl ?_
    refine zV_goto C 86 dX9_childItem_82 (by decide) ?_
    refine zV_iast (n := 87) C dX9_childItem_86 zs_s (by first | omega | exact zb_rg) (by decide) rfl ?_
    first | rw [if_pos h78, pmu_S] | rw [if_neg h78, pmu_S]
    first | (unfold pMay at KK; rw [if_pos h78] at KK; exact KK) | (unfold pMay at KK; rw [if_neg h78] at KK; exact KK)

set_option maxRecDepth 100000 in
set_option maxHeartbeats 4000000 in
theorem m_childItem {Γ : zC} {l : Launch} {d : Nat} {μ : zMem} {P : Pst} {N : Int} (hT : tapeOk (μ 5 8) (μ 5 0 10)) (hP : pOk N (μ 5 8) (μ 5 0 10) P) {kd : Int} (hkd : 0 ≤ kd ∧ kd ≤ 5) : zRet Γ l (d + 6) qX9_childItem [.ref (za Γ 5 0), .int (zi kd)] (pMem μ P) none (pMem μ (pChild (μ 5 8) (μ 5 0 10) kd P)) := by
  refine zRet.mk 1 [.ref (za Γ 5 0), .int (zi kd), .null] RX9 rfl (by decide +kernel) (Nat.le_of_ble_eq_true rfl) rfl ?_
  intro p e s m below meth c C hr hlk
  have i0 := hP.2.2.2.2.1
  refine zV_aload_n (i := 0) (n := 1) C dX9_childItem_0 rfl rfl rfl ?_
  refine zV_aload_n (i := 0) (n := 2) C dX9_childItem_1 rfl rfl rfl ?_
  refine zV_getP (f := 0) (n := 5) C zk8 fX9_7 dX9_childItem_2 zs_ref rfl (by decide) rfl ?_
  refine zV_iconst (n := 6) C dX9_childItem_5 rfl ?_
  refine zV_iald (n := 7) C dX9_childItem_6 zs_s (by first | omega | exact zb_rg) (by decide) rfl ?_
  rw [pm_S]
  refine zV_bipush (n := 9) C dX9_childItem_7 (by decide) rfl ?_
  refine zV_icmp_ge (n := 12) C 16 dX9_childItem_9 (by decide) (by first | omega | exact zb_rg) (by first | omega | exact zb_rg) rfl (fun h9 => ?_) (fun h9 => ?_)
  · skip
    have eb : (if Pst.S P 0 < 6 then (1 : Int) else 0) = 0 := if_neg (by omega)
    have k1 := (pMust_ok (b := 0) hT hP).1
    have kS := (pMust_S (T := (μ 5 8)) (n := (μ 5 0 10)) (b := 0) (P := P)).1
    have kw : Pst.w (pMust (μ 5 8) (μ 5 0 10) 0 P) = 0 ∨ Pst.w (pMust (μ 5 8) (μ 5 0 10) 0 P) = 1 := k1.2.2.1
    refine zV_iconst (n := 17) C dX9_childItem_16 rfl ?_
    refine zV_callV1v (n := 20) C zk8 jX9_must lX9_230 (m_must (d := d) hT hP (by omega)) dX9_childItem_17 zs_ref rfl (Nat.le_of_ble_eq_true rfl) (zfit_of (by omega) (by decide)) ⟨Nat.le_refl _, Nat.le_refl _⟩ rfl ?_
    refine zV_aload_n (i := 0) (n := 21) C dX9_childItem_20 rfl rfl rfl ?_
    refine zV_getI (f := 14) (fi := 14) (n := 24) C zk8 fX9_216 dX9_childItem_21 zs_ref rfl (by decide) rfl rfl ?_
    rw [pm_w]
    refine zV_if_eq (n := 27) C 28 dX9_childItem_24 (by decide) (by first | omega | exact zb_rg) rfl (fun h24 => ?_) (fun h24 => ?_)
    · skip
      exfalso; have := pMust_0 (T := (μ 5 8)) (n := (μ 5 0 10)) (P := P); omega
    · skip
      exact zV_return C hr hlk dX9_childItem_27 (by rfl) (by show _ = pMem μ (pChild (μ 5 8) (μ 5 0 10) kd P); unfold pChild; dsimp only; rw [eb, if_neg h24])
  · skip
    have eb : (if Pst.S P 0 < 6 then (1 : Int) else 0) = 1 := if_pos h9
    have k1 := (pMust_ok (b := 1) hT hP).1
    have kS := (pMust_S (T := (μ 5 8)) (n := (μ 5 0 10)) (b := 1) (P := P)).1
    have kw : Pst.w (pMust (μ 5 8) (μ 5 0 10) 1 P) = 0 ∨ Pst.w (pMust (μ 5 8) (μ 5 0 10) 1 P) = 1 := k1.2.2.1
    refine zV_iconst (n := 13) C dX9_childItem_12 rfl ?_
    refine zV_goto C 17 dX9_childItem_13 (by decide) ?_
    refine zV_callV1v (n := 20) C zk8 jX9_must lX9_230 (m_must (d := d) hT hP (by omega)) dX9_childItem_17 zs_ref rfl (Nat.le_of_ble_eq_true rfl) (zfit_of (by omega) (by decide)) ⟨Nat.le_refl _, Nat.le_refl _⟩ rfl ?_
    refine zV_aload_n (i := 0) (n := 21) C dX9_childItem_20 rfl rfl rfl ?_
    refine zV_getI (f := 14) (fi := 14) (n := 24) C zk8 fX9_216 dX9_childItem_21 zs_ref rfl (by decide) rfl rfl ?_
    rw [pm_w]
    refine zV_if_eq (n := 27) C 28 dX9_childItem_24 (by decide) (by first | omega | exact zb_rg) rfl (fun h24 => ?_) (fun h24 => ?_)
    · skip
      refine m_childItem_b C hT k1 hkd (by rw [kS]; omega) (fun v2 => ?_)
      exact zV_return C hr hlk dX9_childItem_87 rfl (by show _ = pMem μ (pChild (μ 5 8) (μ 5 0 10) kd P); unfold pChild; dsimp only; rw [eb, if_pos h24])
    · skip
      exact zV_return C hr hlk dX9_childItem_27 (by rfl) (by show _ = pMem μ (pChild (μ 5 8) (μ 5 0 10) kd P); unfold pChild; dsimp only; rw [eb, if_neg h24])

set_option maxRecDepth 100000 in
set_option maxHeartbeats 4000000 in
theorem m_seatItem_b {Γ : zC} {l : Launch} {d : Nat} {p : Program} {e : Env} {s : State} {m : MethodId} {args : Array Value} {below : List Frame} {meth : Method} {c : Code} {Q : State → Prop} (C : zCx Γ (zAA Γ) p s m args c RX9 cX9_seatItem 2) {μ : zMem} {P : Pst} {N : Int} (hT : tapeOk (μ 5 8) (μ 5 0 10)) (hP : pOk N (μ 5 8) (μ 5 0 10) P) {st : Int} (hs : 0 ≤ st ∧ st < 3) (KK : zV Γ (zAA Γ) p l e (zRm (d + 6)) s m args below meth c 0 0 Q 79 [.ref (za Γ 5 0), .int (zi st)] [] (pMem μ (pMay (μ 5 8) (μ 5 0 10) 693713060 (4 + 5 * st + 2) (pPart (μ 5 8) (μ 5 0 10) 120239187 (4 + 5 * st + 1) 9 (pPart (μ 5 8) (μ 5 0 10) 695520915 (4 + 5 * st + 0) 5 P))))) :
    zV Γ (zAA Γ) p l e (zRm (d + 6)) s m args below meth c 0 0 Q 27 [.ref (za Γ 5 0), .int (zi st)] [] (pMem μ P) := by
  have q1 := (pPart_ok (K := 695520915) (idx := (4 + 5 * st + 0)) (hi := 5) hT hP (fun v S J hv => rInv_st J hs (by omega) (by simpa using hv)) (by omega)).1
  have q2 := (pPart_ok (K := 120239187) (idx := (4 + 5 * st + 1)) (hi := 9) hT q1 (fun v S J hv => rInv_st J hs (by omega) (by simpa using hv)) (by omega)).1
  refine zV_aload_n (i := 0) (n := 28) C dX9_seatItem_27 rfl rfl rfl ?_
  refine zV_ldc2 (n := 31) C dX9_seatItem_28 kX9_268 rfl ?_
  refine zV_iload_n (i := 1) (n := 32) C dX9_seatItem_31 rfl rfl rfl ?_
  refine zV_iconst (n := 33) C dX9_seatItem_32 rfl ?_
  refine zV_callS2u (n := 36) C jX9_spotOf lX9_47 (m_spotOf (d := d)) dX9_seatItem_33 (Nat.le_of_ble_eq_true rfl) (zfit_of (by omega) (by decide)) ⟨Nat.le_refl _, Nat.le_refl _⟩ rfl ?_
  refine zV_iconst (n := 37) C dX9_seatItem_36 rfl ?_
  refine zV_callV3v (n := 40) C zk8 jX9_partItem lX9_256 (m_partItem (d := d) hT hP (by omega) (by omega) (by omega)) dX9_seatItem_37 zs_ref rfl (Nat.le_of_ble_eq_true rfl) (zfit_of (by omega) (by decide)) ⟨Nat.le_refl _, Nat.le_refl _⟩ rfl ?_
  refine zV_aload_n (i := 0) (n := 41) C dX9_seatItem_40 rfl rfl rfl ?_
  refine zV_ldc2 (n := 44) C dX9_seatItem_41 kX9_270 rfl ?_
  refine zV_iload_n (i := 1) (n := 45) C dX9_seatItem_44 rfl rfl rfl ?_
  refine zV_iconst (n := 46) C dX9_seatItem_45 rfl ?_
  refine zV_callS2u (n := 49) C jX9_spotOf lX9_47 (m_spotOf (d := d)) dX9_seatItem_46 (Nat.le_of_ble_eq_true rfl) (zfit_of (by omega) (by decide)) ⟨Nat.le_refl _, Nat.le_refl _⟩ rfl ?_
  refine zV_bipush (n := 51) C dX9_seatItem_49 (by decide) rfl ?_
  refine zV_callV3v (n := 54) C zk8 jX9_partItem lX9_256 (m_partItem (d := d) hT q1 (by omega) (by omega) (by omega)) dX9_seatItem_51 zs_ref rfl (Nat.le_of_ble_eq_true rfl) (zfit_of (by omega) (by decide)) ⟨Nat.le_refl _, Nat.le_refl _⟩ rfl ?_
  refine zV_aload_n (i := 0) (n := 55) C dX9_seatItem_54 rfl rfl rfl ?_
  refine zV_getP (f := 0) (n := 58) C zk8 fX9_7 dX9_seatItem_55 zs_ref rfl (by decide) rfl ?_
  refine zV_iload_n (i := 1) (n := 59) C dX9_seatItem_58 rfl rfl rfl ?_
  refine zV_iconst (n := 60) C dX9_seatItem_59 rfl ?_
  refine zV_callS2u (n := 63) C jX9_spotOf lX9_47 (m_spotOf (d := d)) dX9_seatItem_60 (Nat.le_of_ble_eq_true rfl) (zfit_of (by omega) (by decide)) ⟨Nat.le_refl _, Nat.le_refl _⟩ rfl ?_
  refine zV_aload_n (i := 0) (n := 64) C dX9_seatItem_63 rfl rfl rfl ?_
  refine zV_ldc2 (n := 67) C dX9_seatItem_64 kX9_272 rfl ?_
  refine zV_callV1u (n := 70) C zk8 jX9_mayBe lX9_264 (m_mayBe (d := d) hT q2 (by omega)) dX9_seatItem_67 zs_ref rfl (Nat.le_of_ble_eq_true rfl) (zfit_of (by omega) (by decide)) ⟨Nat.le_refl _, Nat.le_refl _⟩ rfl ?_
  refine zV_if_eq (n := 73) C 77 dX9_seatItem_70 (by decide) (by first | omega | exact zb_rg) rfl (fun h70 => ?_) (fun h70 => ?_)
  · skip
    simp only [zb_eq0, Decidable.not_not] at h70
    refine zV_iconst (n := 78) C dX9_seatItem_77 rfl ?_
    refine zV_iast (n := 79) C dX9_seatItem_78 zs_s (by first | omega | exact zb_rg) (by decide) rfl ?_
    first | rw [if_pos h70, pmu_S] | rw [if_neg h70, pmu_S]
    first | (unfold pMay at KK; rw [if_pos h70] at KK; exact KK) | (unfold pMay at KK; rw [if_neg h70] at KK; exact KK)
  · skip
    simp only [zb_eq0, Decidable.not_not] at h70
    refine zV_iconst (n := 74) C dX9_seatItem_73 rfl ?_
    refine zV_goto C 78 dX9_seatItem_74 (by decide) ?_
    refine zV_iast (n := 79) C dX9_seatItem_78 zs_s (by first | omega | exact zb_rg) (by decide) rfl ?_
    first | rw [if_pos h70, pmu_S] | rw [if_neg h70, pmu_S]
    first | (unfold pMay at KK; rw [if_pos h70] at KK; exact KK) | (unfold pMay at KK; rw [if_neg h70] at KK; exact KK)

set_option maxRecDepth 100000 in
set_option maxHeartbeats 4000000 in
theorem m_seatItem {Γ : zC} {l : Launch} {d : Nat} {μ : zMem} {P : Pst} {N : Int} (hT : tapeOk (μ 5 8) (μ 5 0 10)) (hP : pOk N (μ 5 8) (μ 5 0 10) P)  : zRet Γ l (d + 6) qX9_seatItem [.ref (za Γ 5 0)] (pMem μ P) none (pMem μ (pSeat (μ 5 8) (μ 5 0 10) P)) := by
  refine zRet.mk 1 [.ref (za Γ 5 0), .null] RX9 rfl (by decide +kernel) (Nat.le_of_ble_eq_true rfl) rfl ?_
  intro p e s m below meth c C hr hlk
  have h1 := pMust_ok (b := 1) hT hP
  have h2 := pNum_ok (hi := 2) hT h1.1
  have hw2 : Pst.w (pNum (μ 5 8) (μ 5 0 10) 2 (pMust (μ 5 8) (μ 5 0 10) 1 P)) = 0 ∨ Pst.w (pNum (μ 5 8) (μ 5 0 10) 2 (pMust (μ 5 8) (μ 5 0 10) 1 P)) = 1 := h2.1.2.2.1
  have hv2 : 0 ≤ Pst.v (pNum (μ 5 8) (μ 5 0 10) 2 (pMust (μ 5 8) (μ 5 0 10) 1 P)) ∧ Pst.v (pNum (μ 5 8) (μ 5 0 10) 2 (pMust (μ 5 8) (μ 5 0 10) 1 P)) ≤ 9999 := h2.1.2.2.2.1
  refine zV_aload_n (i := 0) (n := 1) C dX9_seatItem_0 rfl rfl rfl ?_
  refine zV_iconst (n := 2) C dX9_seatItem_1 rfl ?_
  refine zV_callV1v (n := 5) C zk8 jX9_must lX9_230 (m_must (d := d) hT hP (by omega)) dX9_seatItem_2 zs_ref rfl (Nat.le_of_ble_eq_true rfl) (zfit_of (by omega) (by decide)) ⟨Nat.le_refl _, Nat.le_refl _⟩ rfl ?_
  refine zV_aload_n (i := 0) (n := 6) C dX9_seatItem_5 rfl rfl rfl ?_
  refine zV_iconst (n := 7) C dX9_seatItem_6 rfl ?_
  refine zV_iconst (n := 8) C dX9_seatItem_7 rfl ?_
  refine zV_callV2v (n := 11) C zk8 jX9_number lX9_250 (m_number (d := d) hT h1.1 (by omega)) dX9_seatItem_8 zs_ref rfl (Nat.le_of_ble_eq_true rfl) (zfit_of (by omega) (by decide)) ⟨Nat.le_refl _, Nat.le_refl _⟩ rfl ?_
  refine zV_aload_n (i := 0) (n := 12) C dX9_seatItem_11 rfl rfl rfl ?_
  refine zV_getI (f := 14) (fi := 14) (n := 15) C zk8 fX9_216 dX9_seatItem_12 zs_ref rfl (by decide) rfl rfl ?_
  rw [pm_w]
  refine zV_if_eq (n := 18) C 22 dX9_seatItem_15 (by decide) (by first | omega | exact zb_rg) rfl (fun h15 => ?_) (fun h15 => ?_)
  · skip
    have hv9 := h2.2.2.1 h15
    refine zV_aload_n (i := 0) (n := 23) C dX9_seatItem_22 rfl rfl rfl ?_
    refine zV_getI (f := 13) (fi := 13) (n := 26) C zk8 fX9_227 dX9_seatItem_23 zs_ref rfl (by decide) rfl rfl ?_
    rw [pm_v]
    refine zS_istore_n_2_1 (n := 27) C dX9_seatItem_26 rfl rfl ?_
    refine m_seatItem_b C hT h2.1 (st := (Pst.v (pNum (μ 5 8) (μ 5 0 10) 2 (pMust (μ 5 8) (μ 5 0 10) 1 P)))) (by omega) ?_
    exact zV_return C hr hlk dX9_seatItem_79 rfl (by show _ = pMem μ (pSeat (μ 5 8) (μ 5 0 10) P); unfold pSeat; dsimp only; rw [show (if Pst.w (pNum (μ 5 8) (μ 5 0 10) 2 (pMust (μ 5 8) (μ 5 0 10) 1 P)) = 0 then Pst.v (pNum (μ 5 8) (μ 5 0 10) 2 (pMust (μ 5 8) (μ 5 0 10) 1 P)) else 0) = (Pst.v (pNum (μ 5 8) (μ 5 0 10) 2 (pMust (μ 5 8) (μ 5 0 10) 1 P))) from if_pos h15])
  · skip
    refine zV_iconst (n := 19) C dX9_seatItem_18 rfl ?_
    refine zV_goto C 26 dX9_seatItem_19 (by decide) ?_
    refine zS_istore_n_2_1 (n := 27) C dX9_seatItem_26 rfl rfl ?_
    refine m_seatItem_b C hT h2.1 (st := 0) (by omega) ?_
    exact zV_return C hr hlk dX9_seatItem_79 rfl (by show _ = pMem μ (pSeat (μ 5 8) (μ 5 0 10) P); unfold pSeat; dsimp only; rw [show (if Pst.w (pNum (μ 5 8) (μ 5 0 10) 2 (pMust (μ 5 8) (μ 5 0 10) 1 P)) = 0 then Pst.v (pNum (μ 5 8) (μ 5 0 10) 2 (pMust (μ 5 8) (μ 5 0 10) 1 P)) else 0) = 0 from if_neg h15])

set_option maxRecDepth 100000 in
set_option maxHeartbeats 4000000 in
theorem m_item {Γ : zC} {l : Launch} {d : Nat} {μ : zMem} {P : Pst} {N : Int} (hT : tapeOk (μ 5 8) (μ 5 0 10)) (hP : pOk N (μ 5 8) (μ 5 0 10) P)  : zRet Γ l (d + 7) qX9_item [.ref (za Γ 5 0)] (pMem μ P) none (pMem μ (pItem (μ 5 8) (μ 5 0 10) P)) := by
  refine zRet.mk 3 [.ref (za Γ 5 0), .null, .null, .null] RX9 rfl (by decide +kernel) (Nat.le_of_ble_eq_true rfl) rfl ?_
  intro p e s m below meth c C hr hlk
  have hpw := pWord_rg hT hP
  have hkd := pKind_rg (T := (μ 5 8)) (n := (μ 5 0 10)) (P := P)
  refine zV_aload_n (i := 0) (n := 1) C dX9_item_0 rfl rfl rfl ?_
  refine zV_callV0u (n := 4) C zk8 jX9_kindHere lX9_274 (m_kindHere (d := d) hT hP) dX9_item_1 zs_ref rfl (Nat.le_of_ble_eq_true rfl) (zfit_of (by omega) (by decide)) ⟨Nat.le_refl _, Nat.le_refl _⟩ rfl ?_
  refine zS_istore_n_4_1 (n := 5) C dX9_item_4 rfl rfl ?_
  refine zV_aload_n (i := 0) (n := 6) C dX9_item_5 rfl rfl rfl ?_
  refine zV_callV0u (n := 9) C zk8 jX9_word lX9_234 (m_word (d := d) hT hP) dX9_item_6 zs_ref rfl (Nat.le_of_ble_eq_true rfl) (zfit_of (by omega) (by decide)) ⟨Nat.le_refl _, Nat.le_refl _⟩ rfl ?_
  refine zS_lstore_n_4_2 (n := 10) C dX9_item_9 rfl rfl ?_
  refine zV_iload_n (i := 1) (n := 11) C dX9_item_10 rfl rfl rfl ?_
  refine zV_if_lt (n := 14) C 22 dX9_item_11 (by decide) (by first | omega | exact zb_rg) rfl (fun h11 => ?_) (fun h11 => ?_)
  · skip
    refine zV_lload_n (i := 2) (n := 23) C dX9_item_22 rfl rfl rfl ?_
    refine zV_ldc2 (n := 26) C dX9_item_23 kX9_280 rfl ?_
    refine zV_lcmp_ne (n := 30) C 37 dX9_item_26 dX9_item_27 (by decide) (by first | omega | exact zb_rg) (by first | omega | exact zb_rg) rfl (fun h26 => ?_) (fun h26 => ?_)
    · skip
      refine zV_aload_n (i := 0) (n := 38) C dX9_item_37 rfl rfl rfl ?_
      refine zV_lload_n (i := 2) (n := 39) C dX9_item_38 rfl rfl rfl ?_
      refine zV_ldc2 (n := 42) C dX9_item_39 kX9_285 rfl ?_
      refine zV_lcmp_ne (n := 46) C 50 dX9_item_42 dX9_item_43 (by decide) (by first | omega | exact zb_rg) (by first | omega | exact zb_rg) rfl (fun h42 => ?_) (fun h42 => ?_)
      · skip
        have eb : (if (pWord (μ 5 8) (μ 5 0 10) P) = 591150 then (1 : Int) else 0) = 0 := if_neg h42
        have k1 := (pMust_ok (b := 0) hT hP).1
        have k2 := pNum_ok (hi := 9) hT k1
        have kw : Pst.w (pNum (μ 5 8) (μ 5 0 10) 9 (pMust (μ 5 8) (μ 5 0 10) 0 P)) = 0 ∨ Pst.w (pNum (μ 5 8) (μ 5 0 10) 9 (pMust (μ 5 8) (μ 5 0 10) 0 P)) = 1 := k2.1.2.2.1
        refine zV_iconst (n := 51) C dX9_item_50 rfl ?_
        refine zV_callV1v (n := 54) C zk8 jX9_must lX9_230 (m_must (d := d) hT hP (by omega)) dX9_item_51 zs_ref rfl (Nat.le_of_ble_eq_true rfl) (zfit_of (by omega) (by decide)) ⟨Nat.le_refl _, Nat.le_refl _⟩ rfl ?_
        refine zV_aload_n (i := 0) (n := 55) C dX9_item_54 rfl rfl rfl ?_
        refine zV_iconst (n := 56) C dX9_item_55 rfl ?_
        refine zV_bipush (n := 58) C dX9_item_56 (by decide) rfl ?_
        refine zV_callV2v (n := 61) C zk8 jX9_number lX9_250 (m_number (d := d) hT k1 (by omega)) dX9_item_58 zs_ref rfl (Nat.le_of_ble_eq_true rfl) (zfit_of (by omega) (by decide)) ⟨Nat.le_refl _, Nat.le_refl _⟩ rfl ?_
        refine zV_aload_n (i := 0) (n := 62) C dX9_item_61 rfl rfl rfl ?_
        refine zV_getP (f := 0) (n := 65) C zk8 fX9_7 dX9_item_62 zs_ref rfl (by decide) rfl ?_
        refine zV_iconst (n := 66) C dX9_item_65 rfl ?_
        refine zV_aload_n (i := 0) (n := 67) C dX9_item_66 rfl rfl rfl ?_
        refine zV_getI (f := 14) (fi := 14) (n := 70) C zk8 fX9_216 dX9_item_67 zs_ref rfl (by decide) rfl rfl ?_
        rw [pm_w]
        refine zV_if_eq (n := 73) C 82 dX9_item_70 (by decide) (by first | omega | exact zb_rg) rfl (fun h70 => ?_) (fun h70 => ?_)
        · skip
          refine zV_aload_n (i := 0) (n := 83) C dX9_item_82 rfl rfl rfl ?_
          refine zV_getI (f := 13) (fi := 13) (n := 86) C zk8 fX9_227 dX9_item_83 zs_ref rfl (by decide) rfl rfl ?_
          rw [pm_v]
          refine zV_iast (n := 87) C dX9_item_86 zs_s (by first | omega | exact zb_rg) (by decide) rfl ?_
          rw [pmu_S]
          exact zV_return C hr hlk dX9_item_87 (by rfl) (by first | exact congrArg (pMem μ) (if_pos (show 0 ≤ (pKind (μ 5 8) (μ 5 0 10) P) from by omega)).symm | exact congrArg (pMem μ) ((if_neg (show ¬ 0 ≤ (pKind (μ 5 8) (μ 5 0 10) P) from by omega)).trans (if_pos h26)).symm | exact congrArg (pMem μ) ((if_neg (show ¬ 0 ≤ (pKind (μ 5 8) (μ 5 0 10) P) from by omega)).trans ((if_neg h26).trans (by rw [eb]; exact congrArg (fun z => pRow _ (zfu _ _ z)) (if_pos h70)))).symm | exact congrArg (pMem μ) ((if_neg (show ¬ 0 ≤ (pKind (μ 5 8) (μ 5 0 10) P) from by omega)).trans ((if_neg h26).trans (by rw [eb]; exact congrArg (fun z => pRow _ (zfu _ _ z)) (if_neg h70)))).symm)
        · skip
          refine zV_aload_n (i := 0) (n := 74) C dX9_item_73 rfl rfl rfl ?_
          refine zV_getP (f := 0) (n := 77) C zk8 fX9_7 dX9_item_74 zs_ref rfl (by decide) rfl ?_
          refine zV_iconst (n := 78) C dX9_item_77 rfl ?_
          refine zV_iald (n := 79) C dX9_item_78 zs_s (by first | omega | exact zb_rg) (by decide) rfl ?_
          rw [pm_S]
          refine zV_goto C 86 dX9_item_79 (by decide) ?_
          refine zV_iast (n := 87) C dX9_item_86 zs_s (by first | omega | exact zb_rg) (by decide) rfl ?_
          rw [pmu_S]
          exact zV_return C hr hlk dX9_item_87 (by rfl) (by first | exact congrArg (pMem μ) (if_pos (show 0 ≤ (pKind (μ 5 8) (μ 5 0 10) P) from by omega)).symm | exact congrArg (pMem μ) ((if_neg (show ¬ 0 ≤ (pKind (μ 5 8) (μ 5 0 10) P) from by omega)).trans (if_pos h26)).symm | exact congrArg (pMem μ) ((if_neg (show ¬ 0 ≤ (pKind (μ 5 8) (μ 5 0 10) P) from by omega)).trans ((if_neg h26).trans (by rw [eb]; exact congrArg (fun z => pRow _ (zfu _ _ z)) (if_pos h70)))).symm | exact congrArg (pMem μ) ((if_neg (show ¬ 0 ≤ (pKind (μ 5 8) (μ 5 0 10) P) from by omega)).trans ((if_neg h26).trans (by rw [eb]; exact congrArg (fun z => pRow _ (zfu _ _ z)) (if_neg h70)))).symm)
      · skip
        have eb : (if (pWord (μ 5 8) (μ 5 0 10) P) = 591150 then (1 : Int) else 0) = 1 := if_pos h42
        have k1 := (pMust_ok (b := 1) hT hP).1
        have k2 := pNum_ok (hi := 9) hT k1
        have kw : Pst.w (pNum (μ 5 8) (μ 5 0 10) 9 (pMust (μ 5 8) (μ 5 0 10) 1 P)) = 0 ∨ Pst.w (pNum (μ 5 8) (μ 5 0 10) 9 (pMust (μ 5 8) (μ 5 0 10) 1 P)) = 1 := k2.1.2.2.1
        refine zV_iconst (n := 47) C dX9_item_46 rfl ?_
        refine zV_goto C 51 dX9_item_47 (by decide) ?_
        refine zV_callV1v (n := 54) C zk8 jX9_must lX9_230 (m_must (d := d) hT hP (by omega)) dX9_item_51 zs_ref rfl (Nat.le_of_ble_eq_true rfl) (zfit_of (by omega) (by decide)) ⟨Nat.le_refl _, Nat.le_refl _⟩ rfl ?_
        refine zV_aload_n (i := 0) (n := 55) C dX9_item_54 rfl rfl rfl ?_
        refine zV_iconst (n := 56) C dX9_item_55 rfl ?_
        refine zV_bipush (n := 58) C dX9_item_56 (by decide) rfl ?_
        refine zV_callV2v (n := 61) C zk8 jX9_number lX9_250 (m_number (d := d) hT k1 (by omega)) dX9_item_58 zs_ref rfl (Nat.le_of_ble_eq_true rfl) (zfit_of (by omega) (by decide)) ⟨Nat.le_refl _, Nat.le_refl _⟩ rfl ?_
        refine zV_aload_n (i := 0) (n := 62) C dX9_item_61 rfl rfl rfl ?_
        refine zV_getP (f := 0) (n := 65) C zk8 fX9_7 dX9_item_62 zs_ref rfl (by decide) rfl ?_
        refine zV_iconst (n := 66) C dX9_item_65 rfl ?_
        refine zV_aload_n (i := 0) (n := 67) C dX9_item_66 rfl rfl rfl ?_
        refine zV_getI (f := 14) (fi := 14) (n := 70) C zk8 fX9_216 dX9_item_67 zs_ref rfl (by decide) rfl rfl ?_
        rw [pm_w]
        refine zV_if_eq (n := 73) C 82 dX9_item_70 (by decide) (by first | omega | exact zb_rg) rfl (fun h70 => ?_) (fun h70 => ?_)
        · skip
          refine zV_aload_n (i := 0) (n := 83) C dX9_item_82 rfl rfl rfl ?_
          refine zV_getI (f := 13) (fi := 13) (n := 86) C zk8 fX9_227 dX9_item_83 zs_ref rfl (by decide) rfl rfl ?_
          rw [pm_v]
          refine zV_iast (n := 87) C dX9_item_86 zs_s (by first | omega | exact zb_rg) (by decide) rfl ?_
          rw [pmu_S]
          exact zV_return C hr hlk dX9_item_87 (by rfl) (by first | exact congrArg (pMem μ) (if_pos (show 0 ≤ (pKind (μ 5 8) (μ 5 0 10) P) from by omega)).symm | exact congrArg (pMem μ) ((if_neg (show ¬ 0 ≤ (pKind (μ 5 8) (μ 5 0 10) P) from by omega)).trans (if_pos h26)).symm | exact congrArg (pMem μ) ((if_neg (show ¬ 0 ≤ (pKind (μ 5 8) (μ 5 0 10) P) from by omega)).trans ((if_neg h26).trans (by rw [eb]; exact congrArg (fun z => pRow _ (zfu _ _ z)) (if_pos h70)))).symm | exact congrArg (pMem μ) ((if_neg (show ¬ 0 ≤ (pKind (μ 5 8) (μ 5 0 10) P) from by omega)).trans ((if_neg h26).trans (by rw [eb]; exact congrArg (fun z => pRow _ (zfu _ _ z)) (if_neg h70)))).symm)
        · skip
          refine zV_aload_n (i := 0) (n := 74) C dX9_item_73 rfl rfl rfl ?_
          refine zV_getP (f := 0) (n := 77) C zk8 fX9_7 dX9_item_74 zs_ref rfl (by decide) rfl ?_
          refine zV_iconst (n := 78) C dX9_item_77 rfl ?_
          refine zV_iald (n := 79) C dX9_item_78 zs_s (by first | omega | exact zb_rg) (by decide) rfl ?_
          rw [pm_S]
          refine zV_goto C 86 dX9_item_79 (by decide) ?_
          refine zV_iast (n := 87) C dX9_item_86 zs_s (by first | omega | exact zb_rg) (by decide) rfl ?_
          rw [pmu_S]
          exact zV_return C hr hlk dX9_item_87 (by rfl) (by first | exact congrArg (pMem μ) (if_pos (show 0 ≤ (pKind (μ 5 8) (μ 5 0 10) P) from by omega)).symm | exact congrArg (pMem μ) ((if_neg (show ¬ 0 ≤ (pKind (μ 5 8) (μ 5 0 10) P) from by omega)).trans (if_pos h26)).symm | exact congrArg (pMem μ) ((if_neg (show ¬ 0 ≤ (pKind (μ 5 8) (μ 5 0 10) P) from by omega)).trans ((if_neg h26).trans (by rw [eb]; exact congrArg (fun z => pRow _ (zfu _ _ z)) (if_pos h70)))).symm | exact congrArg (pMem μ) ((if_neg (show ¬ 0 ≤ (pKind (μ 5 8) (μ 5 0 10) P) from by omega)).trans ((if_neg h26).trans (by rw [eb]; exact congrArg (fun z => pRow _ (zfu _ _ z)) (if_neg h70)))).symm)
    · skip
      refine zV_aload_n (i := 0) (n := 31) C dX9_item_30 rfl rfl rfl ?_
      refine zV_callV0v (n := 34) C zk8 jX9_seatItem lX9_282 (m_seatItem (d := d) hT hP) dX9_item_31 zs_ref rfl (Nat.le_of_ble_eq_true rfl) (zfit_of (by omega) (by decide)) ⟨Nat.le_refl _, Nat.le_refl _⟩ rfl ?_
      refine zV_goto C 87 dX9_item_34 (by decide) ?_
      exact zV_return C hr hlk dX9_item_87 (by rfl) (by first | exact congrArg (pMem μ) (if_pos (show 0 ≤ (pKind (μ 5 8) (μ 5 0 10) P) from by omega)).symm | exact congrArg (pMem μ) ((if_neg (show ¬ 0 ≤ (pKind (μ 5 8) (μ 5 0 10) P) from by omega)).trans (if_pos h26)).symm | exact congrArg (pMem μ) ((if_neg (show ¬ 0 ≤ (pKind (μ 5 8) (μ 5 0 10) P) from by omega)).trans ((if_neg h26).trans (by rw [eb]; exact congrArg (fun z => pRow _ (zfu _ _ z)) (if_pos h70)))).symm | exact congrArg (pMem μ) ((if_neg (show ¬ 0 ≤ (pKind (μ 5 8) (μ 5 0 10) P) from by omega)).trans ((if_neg h26).trans (by rw [eb]; exact congrArg (fun z => pRow _ (zfu _ _ z)) (if_neg h70)))).symm)
  · skip
    refine zV_aload_n (i := 0) (n := 15) C dX9_item_14 rfl rfl rfl ?_
    refine zV_iload_n (i := 1) (n := 16) C dX9_item_15 rfl rfl rfl ?_
    refine zV_callV1v (n := 19) C zk8 jX9_childItem lX9_277 (m_childItem (d := d) hT hP (by omega)) dX9_item_16 zs_ref rfl (Nat.le_of_ble_eq_true rfl) (zfit_of (by omega) (by decide)) ⟨Nat.le_refl _, Nat.le_refl _⟩ rfl ?_
    refine zV_goto C 87 dX9_item_19 (by decide) ?_
    exact zV_return C hr hlk dX9_item_87 (by rfl) (by first | exact congrArg (pMem μ) (if_pos (show 0 ≤ (pKind (μ 5 8) (μ 5 0 10) P) from by omega)).symm | exact congrArg (pMem μ) ((if_neg (show ¬ 0 ≤ (pKind (μ 5 8) (μ 5 0 10) P) from by omega)).trans (if_pos h26)).symm | exact congrArg (pMem μ) ((if_neg (show ¬ 0 ≤ (pKind (μ 5 8) (μ 5 0 10) P) from by omega)).trans ((if_neg h26).trans (by rw [eb]; exact congrArg (fun z => pRow _ (zfu _ _ z)) (if_pos h70)))).symm | exact congrArg (pMem μ) ((if_neg (show ¬ 0 ≤ (pKind (μ 5 8) (μ 5 0 10) P) from by omega)).trans ((if_neg h26).trans (by rw [eb]; exact congrArg (fun z => pRow _ (zfu _ _ z)) (if_neg h70)))).symm)

set_option maxRecDepth 100000 in
set_option maxHeartbeats 4000000 in
theorem m_car_loop {Γ : zC} {l : Launch} {d : Nat} {p : Program} {e : Env} {s : State} {m : MethodId} {args : Array Value} {below : List Frame} {meth : Method} {c : Code} {Q : State → Prop} (C : zCx Γ (zAA Γ) p s m args c RX9 cX9_car 2) {μ : zMem} {N : Int} (hT : tapeOk (μ 5 8) (μ 5 0 10))  :
    ∀ (i : Nat) (P : Pst) (c9 : Int) (hP : pOk N (μ 5 8) (μ 5 0 10) P) (hi : (μ 5 0 10) - Pst.f P ≤ i) (KK : zV Γ (zAA Γ) p l e (zRm (d + 8)) s m args below meth c 0 0 Q 59 [.ref (za Γ 5 0), .int (zi (pLoop (μ 5 8) (μ 5 0 10) i P c9).2)] [] (pMem μ (pLoop (μ 5 8) (μ 5 0 10) i P c9).1)), zV Γ (zAA Γ) p l e (zRm (d + 8)) s m args below meth c 0 0 Q 24 [.ref (za Γ 5 0), .int (zi c9)] [] (pMem μ P) := by
  intro i
  induction i with
  | zero =>
    intro P c9 hP hi KK
    have hn := hT.1
    have hf := hP.1
    have hw : Pst.w P = 0 ∨ Pst.w P = 1 := hP.2.2.1
    have hb := bA_rg (i := Pst.f P) hT hf.1
    refine zV_aload_n (i := 0) (n := 25) C dX9_car_24 rfl rfl rfl ?_
    refine zV_getI (f := 14) (fi := 14) (n := 28) C zk8 fX9_216 dX9_car_25 zs_ref rfl (by decide) rfl rfl ?_
    rw [pm_w]
    refine zV_if_ne (n := 31) C 59 dX9_car_28 (by decide) (by first | omega | exact zb_rg) rfl (fun h28 => ?_) (fun h28 => ?_)
    · skip
      exact KK
    · skip
      refine zV_aload_n (i := 0) (n := 32) C dX9_car_31 rfl rfl rfl ?_
      refine zV_aload_n (i := 0) (n := 33) C dX9_car_32 rfl rfl rfl ?_
      refine zV_getI (f := 11) (fi := 11) (n := 36) C zk8 fX9_204 dX9_car_33 zs_ref rfl (by decide) rfl rfl ?_
      rw [pm_f]
      refine zV_callV1u (n := 39) C zk8 jX9_byteAt lX9_207 (m_byteAt (d := d) (μ := (pMem μ P)) (show tapeOk ((pMem μ P) 5 8) ((pMem μ P) 5 0 10) from hT) (by omega)) dX9_car_36 zs_ref rfl (Nat.le_of_ble_eq_true rfl) (zfit_of (by omega) (by decide)) ⟨Nat.le_refl _, Nat.le_refl _⟩ rfl ?_
      rw [pm_T, pm_n]
      refine zV_bipush (n := 41) C dX9_car_39 (by decide) rfl ?_
      refine zV_icmp_ne (n := 44) C 59 dX9_car_41 (by decide) (by first | omega | exact zb_rg) (by first | omega | exact zb_rg) rfl (fun h41 => ?_) (fun h => by exfalso; first | omega | exact zb_rg)
      exact KK
  | succ i ih =>
    intro P c9 hP hi KK
    have hn := hT.1
    have hf := hP.1
    have hw : Pst.w P = 0 ∨ Pst.w P = 1 := hP.2.2.1
    have hb := bA_rg (i := Pst.f P) hT hf.1
    have k1 := pMust_ok (b := 1) hT hP
    have k2 := pItem_ok hT k1.1
    unfold pLoop at KK
    refine zV_aload_n (i := 0) (n := 25) C dX9_car_24 rfl rfl rfl ?_
    refine zV_getI (f := 14) (fi := 14) (n := 28) C zk8 fX9_216 dX9_car_25 zs_ref rfl (by decide) rfl rfl ?_
    rw [pm_w]
    refine zV_if_ne (n := 31) C 59 dX9_car_28 (by decide) (by first | omega | exact zb_rg) rfl (fun h28 => ?_) (fun h28 => ?_)
    · skip
      rw [if_neg (by omega)] at KK; exact KK
    · skip
      refine zV_aload_n (i := 0) (n := 32) C dX9_car_31 rfl rfl rfl ?_
      refine zV_aload_n (i := 0) (n := 33) C dX9_car_32 rfl rfl rfl ?_
      refine zV_getI (f := 11) (fi := 11) (n := 36) C zk8 fX9_204 dX9_car_33 zs_ref rfl (by decide) rfl rfl ?_
      rw [pm_f]
      refine zV_callV1u (n := 39) C zk8 jX9_byteAt lX9_207 (m_byteAt (d := d) (μ := (pMem μ P)) (show tapeOk ((pMem μ P) 5 8) ((pMem μ P) 5 0 10) from hT) (by omega)) dX9_car_36 zs_ref rfl (Nat.le_of_ble_eq_true rfl) (zfit_of (by omega) (by decide)) ⟨Nat.le_refl _, Nat.le_refl _⟩ rfl ?_
      rw [pm_T, pm_n]
      refine zV_bipush (n := 41) C dX9_car_39 (by decide) rfl ?_
      refine zV_icmp_ne (n := 44) C 59 dX9_car_41 (by decide) (by first | omega | exact zb_rg) (by first | omega | exact zb_rg) rfl (fun h41 => ?_) (fun h41 => ?_)
      · skip
        rw [if_neg (by omega)] at KK; exact KK
      · skip
        refine zV_aload_n (i := 0) (n := 45) C dX9_car_44 rfl rfl rfl ?_
        refine zV_iconst (n := 46) C dX9_car_45 rfl ?_
        refine zV_callV1v (n := 49) C zk8 jX9_must lX9_230 (m_must (d := d) hT hP (by omega)) dX9_car_46 zs_ref rfl (Nat.le_of_ble_eq_true rfl) (zfit_of (by omega) (by decide)) ⟨Nat.le_refl _, Nat.le_refl _⟩ rfl ?_
        refine zV_aload_n (i := 0) (n := 50) C dX9_car_49 rfl rfl rfl ?_
        refine zV_callV0v (n := 53) C zk8 jX9_item lX9_290 (m_item (d := d) hT k1.1) dX9_car_50 zs_ref rfl (Nat.le_of_ble_eq_true rfl) (zfit_of (by omega) (by decide)) ⟨Nat.le_refl _, Nat.le_refl _⟩ rfl ?_
        refine zS_iinc_2_1 (n := 56) C dX9_car_53 rfl rfl ?_
        refine zV_goto C 24 dX9_car_56 (by decide) ?_
        rw [if_pos (by omega)] at KK
        have hm : pMust (μ 5 8) (μ 5 0 10) 1 P = pTok (μ 5 8) (μ 5 0 10) P := if_pos ⟨h28, rfl⟩
        have ht := pOk_t hT hP
        have hF := nxF_rg (T := (μ 5 8)) (n := (μ 5 0 10)) (t := Pst.t P) (by omega)
        have hf2 : Pst.f (pMust (μ 5 8) (μ 5 0 10) 1 P) = nxF (μ 5 8) (μ 5 0 10) (Pst.t P) := by rw [hm]; rfl
        exact ih _ (c9 + 1) k2.1 (by have := k2.2; omega) KK

/-- the reference's car(): what is read, and whether it is wrong -/
def pRead (T : Int → Int) (n f v : Int) (S : Int → Int) : Pst × Int := pLoop T n 120 (pItem T n (pTok T n (f, 0, v, 0, S))) 1
abbrev pBad (n : Int) (R : Pst × Int) : Prop := ¬ Pst.w R.1 = 0 ∨ Pst.f R.1 < n
theorem zp_3 {ν : zMem} {f t v w : Int} {S : Int → Int} : zp ν f t v w S 5 3 = ν 5 3 := rfl
theorem zpu_10 {ν : zMem} {f t v w z : Int} {S : Int → Int} : zup (zp ν f t v w S) 5 0 10 z = zp (zup ν 5 0 10 z) f t v w S := by
  funext g k i
  by_cases h : g = 5 ∧ k = 0 ∧ i = 10
  · obtain ⟨rfl, rfl, rfl⟩ := h
    rfl
  · rw [zup_ne h]
    unfold zp
    rw [zup_ne h]
set_option maxRecDepth 100000 in
set_option maxHeartbeats 4000000 in
theorem m_car {Γ : zC} {l : Launch} {d : Nat} {μ : zMem} {N : Int} (I : rInv N (μ 5 1)) (hT : tapeOk (μ 5 8) (μ 5 0 10)) (hv0 : 0 ≤ μ 5 0 13 ∧ μ 5 0 13 ≤ 9999)  : zRet Γ l (d + 8) qX9_car [.ref (za Γ 5 0)] μ (some (.int (zi ((if pBad (μ 5 0 10) (pRead (μ 5 8) (μ 5 0 10) (μ 5 0 11) (μ 5 0 13) (μ 5 1)) then -1 - Pst.f (pRead (μ 5 8) (μ 5 0 10) (μ 5 0 11) (μ 5 0 13) (μ 5 1)).1 else (pRead (μ 5 8) (μ 5 0 10) (μ 5 0 11) (μ 5 0 13) (μ 5 1)).2))))) (pMem (zup (zset μ 5 3 (μ 5 1)) 5 0 10 0) (Pst.f (pRead (μ 5 8) (μ 5 0 10) (μ 5 0 11) (μ 5 0 13) (μ 5 1)).1, Pst.t (pRead (μ 5 8) (μ 5 0 10) (μ 5 0 11) (μ 5 0 13) (μ 5 1)).1, Pst.v (pRead (μ 5 8) (μ 5 0 10) (μ 5 0 11) (μ 5 0 13) (μ 5 1)).1, (if pBad (μ 5 0 10) (pRead (μ 5 8) (μ 5 0 10) (μ 5 0 11) (μ 5 0 13) (μ 5 1)) then 1 else 0), (if pBad (μ 5 0 10) (pRead (μ 5 8) (μ 5 0 10) (μ 5 0 11) (μ 5 0 13) (μ 5 1)) then (μ 5 1) else Pst.S (pRead (μ 5 8) (μ 5 0 10) (μ 5 0 11) (μ 5 0 13) (μ 5 1)).1))) := by
  refine zRet.mk 1 [.ref (za Γ 5 0), .null] RX9 rfl (by decide +kernel) (Nat.le_of_ble_eq_true rfl) rfl ?_
  intro p e s m below meth c C hr hlk
  have hn := hT.1
  have k1 := (pTok_ok (N := N) (P := (μ 5 0 11, 0, μ 5 0 13, 0, (μ 5 1))) hT (show (0 : Int) ≤ 0 ∧ (0 : Int) ≤ (μ 5 0 10) from by omega) (Or.inl rfl) hv0 I).1
  have k2 := (pItem_ok hT k1).1
  refine zV_aload_n (i := 0) (n := 1) C dX9_car_0 rfl rfl rfl ?_
  refine zV_callV0v (n := 4) C zk8 jX9_saves lX9_287 (m_saves (d := d)) dX9_car_1 zs_ref rfl (Nat.le_of_ble_eq_true rfl) (zfit_of (by omega) (by decide)) ⟨Nat.le_refl _, Nat.le_refl _⟩ rfl ?_
  refine zV_eqm (μ' := zp (zset μ 5 3 (μ 5 1)) (μ 5 0 11) (μ 5 0 12) (μ 5 0 13) (μ 5 0 14) (μ 5 1)) zp_self.symm ?_
  refine zV_aload_n (i := 0) (n := 5) C dX9_car_4 rfl rfl rfl ?_
  refine zV_iconst (n := 6) C dX9_car_5 rfl ?_
  refine zV_putZ (f := 14) (fi := 14) (n := 9) C zk8 fX9_216 dX9_car_6 zs_ref rfl (by decide) rfl rfl rfl (by omega) rfl ?_
  rw [zpu_w]
  refine zV_aload_n (i := 0) (n := 10) C dX9_car_9 rfl rfl rfl ?_
  refine zV_iconst (n := 11) C dX9_car_10 rfl ?_
  refine zV_putI (f := 12) (fi := 12) (n := 14) C zk8 fX9_201 dX9_car_11 zs_ref rfl (by decide) rfl rfl rfl rfl ?_
  rw [zpu_t]
  refine zV_aload_n (i := 0) (n := 15) C dX9_car_14 rfl rfl rfl ?_
  refine zV_callV0v (n := 18) C zk8 jX9_token lX9_220 (m_token (d := d) (μ := (zset μ 5 3 (μ 5 1))) (f := μ 5 0 11) (t := 0) (v := μ 5 0 13) (w := 0) (S := (μ 5 1)) hT (show (0 : Int) ≤ 0 ∧ (0 : Int) ≤ μ 5 0 10 from by omega)) dX9_car_15 zs_ref rfl (Nat.le_of_ble_eq_true rfl) (zfit_of (by omega) (by decide)) ⟨Nat.le_refl _, Nat.le_refl _⟩ rfl ?_
  refine zV_eqm (μ' := pMem (zset μ 5 3 (μ 5 1)) (pTok (μ 5 8) (μ 5 0 10) (μ 5 0 11, 0, μ 5 0 13, 0, (μ 5 1)))) rfl ?_
  refine zV_iconst (n := 19) C dX9_car_18 rfl ?_
  refine zS_istore_n_2_1 (n := 20) C dX9_car_19 rfl rfl ?_
  refine zV_aload_n (i := 0) (n := 21) C dX9_car_20 rfl rfl rfl ?_
  refine zV_callV0v (n := 24) C zk8 jX9_item lX9_290 (m_item (d := d) (μ := (zset μ 5 3 (μ 5 1))) (N := N) hT k1) dX9_car_21 zs_ref rfl (Nat.le_of_ble_eq_true rfl) (zfit_of (by omega) (by decide)) ⟨Nat.le_refl _, Nat.le_refl _⟩ rfl ?_
  refine m_car_loop (μ := (zset μ 5 3 (μ 5 1))) C hT 120 (pItem (μ 5 8) (μ 5 0 10) (pTok (μ 5 8) (μ 5 0 10) (μ 5 0 11, 0, μ 5 0 13, 0, (μ 5 1)))) 1 k2 (show (μ 5 0 10) - Pst.f (pItem (μ 5 8) (μ 5 0 10) (pTok (μ 5 8) (μ 5 0 10) (μ 5 0 11, 0, μ 5 0 13, 0, (μ 5 1)))) ≤ ((120 : Nat) : Int) from by have := k2.1; omega) ?_
  have kR : pOk N (μ 5 8) (μ 5 0 10) (pRead (μ 5 8) (μ 5 0 10) (μ 5 0 11) (μ 5 0 13) (μ 5 1)).1 := pLoop_ok hT k2
  have kf := kR.1
  have kw : Pst.w (pRead (μ 5 8) (μ 5 0 10) (μ 5 0 11) (μ 5 0 13) (μ 5 1)).1 = 0 ∨ Pst.w (pRead (μ 5 8) (μ 5 0 10) (μ 5 0 11) (μ 5 0 13) (μ 5 1)).1 = 1 := kR.2.2.1
  generalize hR9 : (pRead (μ 5 8) (μ 5 0 10) (μ 5 0 11) (μ 5 0 13) (μ 5 1)) = R9 at kR kf kw ⊢
  refine Eq.mp (show zV Γ (zAA Γ) p l e (zRm (d + 8)) s m _ below meth c 0 0 _ 59 [.ref (za Γ 5 0), .int (zi R9.2)] [] (zp (zset μ 5 3 (μ 5 1)) (Pst.f R9.1) (Pst.t R9.1) (Pst.v R9.1) (Pst.w R9.1) (Pst.S R9.1)) = _ from by subst hR9; rfl) ?_
  refine zV_aload_n (i := 0) (n := 60) C dX9_car_59 rfl rfl rfl ?_
  refine zV_aload_n (i := 0) (n := 61) C dX9_car_60 rfl rfl rfl ?_
  refine zV_getI (f := 14) (fi := 14) (n := 64) C zk8 fX9_216 dX9_car_61 zs_ref rfl (by decide) rfl rfl ?_
  rw [zp_w]
  refine zV_if_ne (n := 67) C 78 dX9_car_64 (by decide) (by first | omega | exact zb_rg) rfl (fun h64 => ?_) (fun h64 => ?_)
  · skip
    refine zV_iconst (n := 79) C dX9_car_78 rfl ?_
    refine zV_goto C 83 dX9_car_79 (by decide) ?_
    refine zV_putZ (f := 14) (fi := 14) (n := 86) C zk8 fX9_216 dX9_car_83 zs_ref rfl (by decide) rfl rfl rfl (by omega) rfl ?_
    rw [zpu_w]
    refine zV_aload_n (i := 0) (n := 87) C dX9_car_86 rfl rfl rfl ?_
    refine zV_getI (f := 14) (fi := 14) (n := 90) C zk8 fX9_216 dX9_car_87 zs_ref rfl (by decide) rfl rfl ?_
    rw [zp_w]
    refine zV_if_eq (n := 93) C 97 dX9_car_90 (by decide) (by first | omega | exact zb_rg) rfl (fun h90 => ?_) (fun h90 => ?_)
    · skip
      refine zV_aload_n (i := 0) (n := 98) C dX9_car_97 rfl rfl rfl ?_
      refine zV_iconst (n := 99) C dX9_car_98 rfl ?_
      refine zV_putI (f := 10) (fi := 10) (n := 102) C zk8 fX9_190 dX9_car_99 zs_ref rfl (by decide) rfl rfl rfl rfl ?_
      rw [zpu_10]
      refine zV_aload_n (i := 0) (n := 103) C dX9_car_102 rfl rfl rfl ?_
      refine zV_getI (f := 14) (fi := 14) (n := 106) C zk8 fX9_216 dX9_car_103 zs_ref rfl (by decide) rfl rfl ?_
      rw [zp_w]
      refine zV_if_eq (n := 109) C 118 dX9_car_106 (by decide) (by first | omega | exact zb_rg) rfl (fun h106 => ?_) (fun h106 => ?_)
      · skip
        refine zV_iload_n (i := 1) (n := 119) C dX9_car_118 rfl rfl rfl ?_
        exact zV_ireturn C hr hlk dX9_car_119 (by first | (exfalso; omega) | (rw [hR9]; exact congrArg (fun z => some (Value.int (zi z))) (if_pos (show pBad (μ 5 0 10) R9 from by first | exact Or.inl h64 | exact Or.inr h75)).symm) | (rw [hR9]; exact congrArg (fun z => some (Value.int (zi z))) (if_neg (show ¬ pBad (μ 5 0 10) R9 from fun q => by rcases q with q | q <;> omega)).symm)) (by first | (exfalso; omega) | (rw [hR9, if_pos (show pBad (μ 5 0 10) R9 from by first | exact Or.inl h64 | exact Or.inr h75), if_pos (show pBad (μ 5 0 10) R9 from by first | exact Or.inl h64 | exact Or.inr h75)]; rfl) | (rw [hR9, if_neg (show ¬ pBad (μ 5 0 10) R9 from fun q => by rcases q with q | q <;> omega), if_neg (show ¬ pBad (μ 5 0 10) R9 from fun q => by rcases q with q | q <;> omega)]; rfl))
      · skip
        refine zV_iconst (n := 110) C dX9_car_109 rfl ?_
        refine zV_aload_n (i := 0) (n := 111) C dX9_car_110 rfl rfl rfl ?_
        refine zV_getI (f := 11) (fi := 11) (n := 114) C zk8 fX9_204 dX9_car_111 zs_ref rfl (by decide) rfl rfl ?_
        rw [zp_f]
        refine zV_isub (n := 115) C dX9_car_114 rfl ?_
        refine zV_goto C 119 dX9_car_115 (by decide) ?_
        exact zV_ireturn C hr hlk dX9_car_119 (by first | (exfalso; omega) | (rw [hR9]; exact congrArg (fun z => some (Value.int (zi z))) (if_pos (show pBad (μ 5 0 10) R9 from by first | exact Or.inl h64 | exact Or.inr h75)).symm) | (rw [hR9]; exact congrArg (fun z => some (Value.int (zi z))) (if_neg (show ¬ pBad (μ 5 0 10) R9 from fun q => by rcases q with q | q <;> omega)).symm)) (by first | (exfalso; omega) | (rw [hR9, if_pos (show pBad (μ 5 0 10) R9 from by first | exact Or.inl h64 | exact Or.inr h75), if_pos (show pBad (μ 5 0 10) R9 from by first | exact Or.inl h64 | exact Or.inr h75)]; rfl) | (rw [hR9, if_neg (show ¬ pBad (μ 5 0 10) R9 from fun q => by rcases q with q | q <;> omega), if_neg (show ¬ pBad (μ 5 0 10) R9 from fun q => by rcases q with q | q <;> omega)]; rfl))
    · skip
      refine zV_aload_n (i := 0) (n := 94) C dX9_car_93 rfl rfl rfl ?_
      refine zV_callV0v (n := 97) C zk8 jX9_putsBack lX9_293 (m_putsBack (d := d)) dX9_car_94 zs_ref rfl (Nat.le_of_ble_eq_true rfl) (zfit_of (by omega) (by decide)) ⟨Nat.le_refl _, Nat.le_refl _⟩ rfl ?_
      rw [zps_S, zp_3, zset_at]
      refine zV_aload_n (i := 0) (n := 98) C dX9_car_97 rfl rfl rfl ?_
      refine zV_iconst (n := 99) C dX9_car_98 rfl ?_
      refine zV_putI (f := 10) (fi := 10) (n := 102) C zk8 fX9_190 dX9_car_99 zs_ref rfl (by decide) rfl rfl rfl rfl ?_
      rw [zpu_10]
      refine zV_aload_n (i := 0) (n := 103) C dX9_car_102 rfl rfl rfl ?_
      refine zV_getI (f := 14) (fi := 14) (n := 106) C zk8 fX9_216 dX9_car_103 zs_ref rfl (by decide) rfl rfl ?_
      rw [zp_w]
      refine zV_if_eq (n := 109) C 118 dX9_car_106 (by decide) (by first | omega | exact zb_rg) rfl (fun h106 => ?_) (fun h106 => ?_)
      · skip
        refine zV_iload_n (i := 1) (n := 119) C dX9_car_118 rfl rfl rfl ?_
        exact zV_ireturn C hr hlk dX9_car_119 (by first | (exfalso; omega) | (rw [hR9]; exact congrArg (fun z => some (Value.int (zi z))) (if_pos (show pBad (μ 5 0 10) R9 from by first | exact Or.inl h64 | exact Or.inr h75)).symm) | (rw [hR9]; exact congrArg (fun z => some (Value.int (zi z))) (if_neg (show ¬ pBad (μ 5 0 10) R9 from fun q => by rcases q with q | q <;> omega)).symm)) (by first | (exfalso; omega) | (rw [hR9, if_pos (show pBad (μ 5 0 10) R9 from by first | exact Or.inl h64 | exact Or.inr h75), if_pos (show pBad (μ 5 0 10) R9 from by first | exact Or.inl h64 | exact Or.inr h75)]; rfl) | (rw [hR9, if_neg (show ¬ pBad (μ 5 0 10) R9 from fun q => by rcases q with q | q <;> omega), if_neg (show ¬ pBad (μ 5 0 10) R9 from fun q => by rcases q with q | q <;> omega)]; rfl))
      · skip
        refine zV_iconst (n := 110) C dX9_car_109 rfl ?_
        refine zV_aload_n (i := 0) (n := 111) C dX9_car_110 rfl rfl rfl ?_
        refine zV_getI (f := 11) (fi := 11) (n := 114) C zk8 fX9_204 dX9_car_111 zs_ref rfl (by decide) rfl rfl ?_
        rw [zp_f]
        refine zV_isub (n := 115) C dX9_car_114 rfl ?_
        refine zV_goto C 119 dX9_car_115 (by decide) ?_
        exact zV_ireturn C hr hlk dX9_car_119 (by first | (exfalso; omega) | (rw [hR9]; exact congrArg (fun z => some (Value.int (zi z))) (if_pos (show pBad (μ 5 0 10) R9 from by first | exact Or.inl h64 | exact Or.inr h75)).symm) | (rw [hR9]; exact congrArg (fun z => some (Value.int (zi z))) (if_neg (show ¬ pBad (μ 5 0 10) R9 from fun q => by rcases q with q | q <;> omega)).symm)) (by first | (exfalso; omega) | (rw [hR9, if_pos (show pBad (μ 5 0 10) R9 from by first | exact Or.inl h64 | exact Or.inr h75), if_pos (show pBad (μ 5 0 10) R9 from by first | exact Or.inl h64 | exact Or.inr h75)]; rfl) | (rw [hR9, if_neg (show ¬ pBad (μ 5 0 10) R9 from fun q => by rcases q with q | q <;> omega), if_neg (show ¬ pBad (μ 5 0 10) R9 from fun q => by rcases q with q | q <;> omega)]; rfl))
  · skip
    refine zV_aload_n (i := 0) (n := 68) C dX9_car_67 rfl rfl rfl ?_
    refine zV_getI (f := 11) (fi := 11) (n := 71) C zk8 fX9_204 dX9_car_68 zs_ref rfl (by decide) rfl rfl ?_
    rw [zp_f]
    refine zV_aload_n (i := 0) (n := 72) C dX9_car_71 rfl rfl rfl ?_
    refine zV_getI (f := 10) (fi := 10) (n := 75) C zk8 fX9_190 dX9_car_72 zs_ref rfl (by decide) rfl rfl ?_
    rw [zp_n, show zset μ 5 3 (μ 5 1) 5 0 10 = μ 5 0 10 from rfl]
    refine zV_icmp_ge (n := 78) C 82 dX9_car_75 (by decide) (by first | omega | exact zb_rg) (by first | omega | exact zb_rg) rfl (fun h75 => ?_) (fun h75 => ?_)
    · skip
      refine zV_iconst (n := 83) C dX9_car_82 rfl ?_
      refine zV_putZ (f := 14) (fi := 14) (n := 86) C zk8 fX9_216 dX9_car_83 zs_ref rfl (by decide) rfl rfl rfl (by omega) rfl ?_
      rw [zpu_w]
      refine zV_aload_n (i := 0) (n := 87) C dX9_car_86 rfl rfl rfl ?_
      refine zV_getI (f := 14) (fi := 14) (n := 90) C zk8 fX9_216 dX9_car_87 zs_ref rfl (by decide) rfl rfl ?_
      rw [zp_w]
      refine zV_if_eq (n := 93) C 97 dX9_car_90 (by decide) (by first | omega | exact zb_rg) rfl (fun h90 => ?_) (fun h90 => ?_)
      · skip
        refine zV_aload_n (i := 0) (n := 98) C dX9_car_97 rfl rfl rfl ?_
        refine zV_iconst (n := 99) C dX9_car_98 rfl ?_
        refine zV_putI (f := 10) (fi := 10) (n := 102) C zk8 fX9_190 dX9_car_99 zs_ref rfl (by decide) rfl rfl rfl rfl ?_
        rw [zpu_10]
        refine zV_aload_n (i := 0) (n := 103) C dX9_car_102 rfl rfl rfl ?_
        refine zV_getI (f := 14) (fi := 14) (n := 106) C zk8 fX9_216 dX9_car_103 zs_ref rfl (by decide) rfl rfl ?_
        rw [zp_w]
        refine zV_if_eq (n := 109) C 118 dX9_car_106 (by decide) (by first | omega | exact zb_rg) rfl (fun h106 => ?_) (fun h106 => ?_)
        · skip
          refine zV_iload_n (i := 1) (n := 119) C dX9_car_118 rfl rfl rfl ?_
          exact zV_ireturn C hr hlk dX9_car_119 (by first | (exfalso; omega) | (rw [hR9]; exact congrArg (fun z => some (Value.int (zi z))) (if_pos (show pBad (μ 5 0 10) R9 from by first | exact Or.inl h64 | exact Or.inr h75)).symm) | (rw [hR9]; exact congrArg (fun z => some (Value.int (zi z))) (if_neg (show ¬ pBad (μ 5 0 10) R9 from fun q => by rcases q with q | q <;> omega)).symm)) (by first | (exfalso; omega) | (rw [hR9, if_pos (show pBad (μ 5 0 10) R9 from by first | exact Or.inl h64 | exact Or.inr h75), if_pos (show pBad (μ 5 0 10) R9 from by first | exact Or.inl h64 | exact Or.inr h75)]; rfl) | (rw [hR9, if_neg (show ¬ pBad (μ 5 0 10) R9 from fun q => by rcases q with q | q <;> omega), if_neg (show ¬ pBad (μ 5 0 10) R9 from fun q => by rcases q with q | q <;> omega)]; rfl))
        · skip
          refine zV_iconst (n := 110) C dX9_car_109 rfl ?_
          refine zV_aload_n (i := 0) (n := 111) C dX9_car_110 rfl rfl rfl ?_
          refine zV_getI (f := 11) (fi := 11) (n := 114) C zk8 fX9_204 dX9_car_111 zs_ref rfl (by decide) rfl rfl ?_
          rw [zp_f]
          refine zV_isub (n := 115) C dX9_car_114 rfl ?_
          refine zV_goto C 119 dX9_car_115 (by decide) ?_
          exact zV_ireturn C hr hlk dX9_car_119 (by first | (exfalso; omega) | (rw [hR9]; exact congrArg (fun z => some (Value.int (zi z))) (if_pos (show pBad (μ 5 0 10) R9 from by first | exact Or.inl h64 | exact Or.inr h75)).symm) | (rw [hR9]; exact congrArg (fun z => some (Value.int (zi z))) (if_neg (show ¬ pBad (μ 5 0 10) R9 from fun q => by rcases q with q | q <;> omega)).symm)) (by first | (exfalso; omega) | (rw [hR9, if_pos (show pBad (μ 5 0 10) R9 from by first | exact Or.inl h64 | exact Or.inr h75), if_pos (show pBad (μ 5 0 10) R9 from by first | exact Or.inl h64 | exact Or.inr h75)]; rfl) | (rw [hR9, if_neg (show ¬ pBad (μ 5 0 10) R9 from fun q => by rcases q with q | q <;> omega), if_neg (show ¬ pBad (μ 5 0 10) R9 from fun q => by rcases q with q | q <;> omega)]; rfl))
      · skip
        refine zV_aload_n (i := 0) (n := 94) C dX9_car_93 rfl rfl rfl ?_
        refine zV_callV0v (n := 97) C zk8 jX9_putsBack lX9_293 (m_putsBack (d := d)) dX9_car_94 zs_ref rfl (Nat.le_of_ble_eq_true rfl) (zfit_of (by omega) (by decide)) ⟨Nat.le_refl _, Nat.le_refl _⟩ rfl ?_
        rw [zps_S, zp_3, zset_at]
        refine zV_aload_n (i := 0) (n := 98) C dX9_car_97 rfl rfl rfl ?_
        refine zV_iconst (n := 99) C dX9_car_98 rfl ?_
        refine zV_putI (f := 10) (fi := 10) (n := 102) C zk8 fX9_190 dX9_car_99 zs_ref rfl (by decide) rfl rfl rfl rfl ?_
        rw [zpu_10]
        refine zV_aload_n (i := 0) (n := 103) C dX9_car_102 rfl rfl rfl ?_
        refine zV_getI (f := 14) (fi := 14) (n := 106) C zk8 fX9_216 dX9_car_103 zs_ref rfl (by decide) rfl rfl ?_
        rw [zp_w]
        refine zV_if_eq (n := 109) C 118 dX9_car_106 (by decide) (by first | omega | exact zb_rg) rfl (fun h106 => ?_) (fun h106 => ?_)
        · skip
          refine zV_iload_n (i := 1) (n := 119) C dX9_car_118 rfl rfl rfl ?_
          exact zV_ireturn C hr hlk dX9_car_119 (by first | (exfalso; omega) | (rw [hR9]; exact congrArg (fun z => some (Value.int (zi z))) (if_pos (show pBad (μ 5 0 10) R9 from by first | exact Or.inl h64 | exact Or.inr h75)).symm) | (rw [hR9]; exact congrArg (fun z => some (Value.int (zi z))) (if_neg (show ¬ pBad (μ 5 0 10) R9 from fun q => by rcases q with q | q <;> omega)).symm)) (by first | (exfalso; omega) | (rw [hR9, if_pos (show pBad (μ 5 0 10) R9 from by first | exact Or.inl h64 | exact Or.inr h75), if_pos (show pBad (μ 5 0 10) R9 from by first | exact Or.inl h64 | exact Or.inr h75)]; rfl) | (rw [hR9, if_neg (show ¬ pBad (μ 5 0 10) R9 from fun q => by rcases q with q | q <;> omega), if_neg (show ¬ pBad (μ 5 0 10) R9 from fun q => by rcases q with q | q <;> omega)]; rfl))
        · skip
          refine zV_iconst (n := 110) C dX9_car_109 rfl ?_
          refine zV_aload_n (i := 0) (n := 111) C dX9_car_110 rfl rfl rfl ?_
          refine zV_getI (f := 11) (fi := 11) (n := 114) C zk8 fX9_204 dX9_car_111 zs_ref rfl (by decide) rfl rfl ?_
          rw [zp_f]
          refine zV_isub (n := 115) C dX9_car_114 rfl ?_
          refine zV_goto C 119 dX9_car_115 (by decide) ?_
          exact zV_ireturn C hr hlk dX9_car_119 (by first | (exfalso; omega) | (rw [hR9]; exact congrArg (fun z => some (Value.int (zi z))) (if_pos (show pBad (μ 5 0 10) R9 from by first | exact Or.inl h64 | exact Or.inr h75)).symm) | (rw [hR9]; exact congrArg (fun z => some (Value.int (zi z))) (if_neg (show ¬ pBad (μ 5 0 10) R9 from fun q => by rcases q with q | q <;> omega)).symm)) (by first | (exfalso; omega) | (rw [hR9, if_pos (show pBad (μ 5 0 10) R9 from by first | exact Or.inl h64 | exact Or.inr h75), if_pos (show pBad (μ 5 0 10) R9 from by first | exact Or.inl h64 | exact Or.inr h75)]; rfl) | (rw [hR9, if_neg (show ¬ pBad (μ 5 0 10) R9 from fun q => by rcases q with q | q <;> omega), if_neg (show ¬ pBad (μ 5 0 10) R9 from fun q => by rcases q with q | q <;> omega)]; rfl))
    · skip
      refine zV_iconst (n := 79) C dX9_car_78 rfl ?_
      refine zV_goto C 83 dX9_car_79 (by decide) ?_
      refine zV_putZ (f := 14) (fi := 14) (n := 86) C zk8 fX9_216 dX9_car_83 zs_ref rfl (by decide) rfl rfl rfl (by omega) rfl ?_
      rw [zpu_w]
      refine zV_aload_n (i := 0) (n := 87) C dX9_car_86 rfl rfl rfl ?_
      refine zV_getI (f := 14) (fi := 14) (n := 90) C zk8 fX9_216 dX9_car_87 zs_ref rfl (by decide) rfl rfl ?_
      rw [zp_w]
      refine zV_if_eq (n := 93) C 97 dX9_car_90 (by decide) (by first | omega | exact zb_rg) rfl (fun h90 => ?_) (fun h90 => ?_)
      · skip
        refine zV_aload_n (i := 0) (n := 98) C dX9_car_97 rfl rfl rfl ?_
        refine zV_iconst (n := 99) C dX9_car_98 rfl ?_
        refine zV_putI (f := 10) (fi := 10) (n := 102) C zk8 fX9_190 dX9_car_99 zs_ref rfl (by decide) rfl rfl rfl rfl ?_
        rw [zpu_10]
        refine zV_aload_n (i := 0) (n := 103) C dX9_car_102 rfl rfl rfl ?_
        refine zV_getI (f := 14) (fi := 14) (n := 106) C zk8 fX9_216 dX9_car_103 zs_ref rfl (by decide) rfl rfl ?_
        rw [zp_w]
        refine zV_if_eq (n := 109) C 118 dX9_car_106 (by decide) (by first | omega | exact zb_rg) rfl (fun h106 => ?_) (fun h106 => ?_)
        · skip
          refine zV_iload_n (i := 1) (n := 119) C dX9_car_118 rfl rfl rfl ?_
          exact zV_ireturn C hr hlk dX9_car_119 (by first | (exfalso; omega) | (rw [hR9]; exact congrArg (fun z => some (Value.int (zi z))) (if_pos (show pBad (μ 5 0 10) R9 from by first | exact Or.inl h64 | exact Or.inr h75)).symm) | (rw [hR9]; exact congrArg (fun z => some (Value.int (zi z))) (if_neg (show ¬ pBad (μ 5 0 10) R9 from fun q => by rcases q with q | q <;> omega)).symm)) (by first | (exfalso; omega) | (rw [hR9, if_pos (show pBad (μ 5 0 10) R9 from by first | exact Or.inl h64 | exact Or.inr h75), if_pos (show pBad (μ 5 0 10) R9 from by first | exact Or.inl h64 | exact Or.inr h75)]; rfl) | (rw [hR9, if_neg (show ¬ pBad (μ 5 0 10) R9 from fun q => by rcases q with q | q <;> omega), if_neg (show ¬ pBad (μ 5 0 10) R9 from fun q => by rcases q with q | q <;> omega)]; rfl))
        · skip
          refine zV_iconst (n := 110) C dX9_car_109 rfl ?_
          refine zV_aload_n (i := 0) (n := 111) C dX9_car_110 rfl rfl rfl ?_
          refine zV_getI (f := 11) (fi := 11) (n := 114) C zk8 fX9_204 dX9_car_111 zs_ref rfl (by decide) rfl rfl ?_
          rw [zp_f]
          refine zV_isub (n := 115) C dX9_car_114 rfl ?_
          refine zV_goto C 119 dX9_car_115 (by decide) ?_
          exact zV_ireturn C hr hlk dX9_car_119 (by first | (exfalso; omega) | (rw [hR9]; exact congrArg (fun z => some (Value.int (zi z))) (if_pos (show pBad (μ 5 0 10) R9 from by first | exact Or.inl h64 | exact Or.inr h75)).symm) | (rw [hR9]; exact congrArg (fun z => some (Value.int (zi z))) (if_neg (show ¬ pBad (μ 5 0 10) R9 from fun q => by rcases q with q | q <;> omega)).symm)) (by first | (exfalso; omega) | (rw [hR9, if_pos (show pBad (μ 5 0 10) R9 from by first | exact Or.inl h64 | exact Or.inr h75), if_pos (show pBad (μ 5 0 10) R9 from by first | exact Or.inl h64 | exact Or.inr h75)]; rfl) | (rw [hR9, if_neg (show ¬ pBad (μ 5 0 10) R9 from fun q => by rcases q with q | q <;> omega), if_neg (show ¬ pBad (μ 5 0 10) R9 from fun q => by rcases q with q | q <;> omega)]; rfl))
      · skip
        refine zV_aload_n (i := 0) (n := 94) C dX9_car_93 rfl rfl rfl ?_
        refine zV_callV0v (n := 97) C zk8 jX9_putsBack lX9_293 (m_putsBack (d := d)) dX9_car_94 zs_ref rfl (Nat.le_of_ble_eq_true rfl) (zfit_of (by omega) (by decide)) ⟨Nat.le_refl _, Nat.le_refl _⟩ rfl ?_
        rw [zps_S, zp_3, zset_at]
        refine zV_aload_n (i := 0) (n := 98) C dX9_car_97 rfl rfl rfl ?_
        refine zV_iconst (n := 99) C dX9_car_98 rfl ?_
        refine zV_putI (f := 10) (fi := 10) (n := 102) C zk8 fX9_190 dX9_car_99 zs_ref rfl (by decide) rfl rfl rfl rfl ?_
        rw [zpu_10]
        refine zV_aload_n (i := 0) (n := 103) C dX9_car_102 rfl rfl rfl ?_
        refine zV_getI (f := 14) (fi := 14) (n := 106) C zk8 fX9_216 dX9_car_103 zs_ref rfl (by decide) rfl rfl ?_
        rw [zp_w]
        refine zV_if_eq (n := 109) C 118 dX9_car_106 (by decide) (by first | omega | exact zb_rg) rfl (fun h106 => ?_) (fun h106 => ?_)
        · skip
          refine zV_iload_n (i := 1) (n := 119) C dX9_car_118 rfl rfl rfl ?_
          exact zV_ireturn C hr hlk dX9_car_119 (by first | (exfalso; omega) | (rw [hR9]; exact congrArg (fun z => some (Value.int (zi z))) (if_pos (show pBad (μ 5 0 10) R9 from by first | exact Or.inl h64 | exact Or.inr h75)).symm) | (rw [hR9]; exact congrArg (fun z => some (Value.int (zi z))) (if_neg (show ¬ pBad (μ 5 0 10) R9 from fun q => by rcases q with q | q <;> omega)).symm)) (by first | (exfalso; omega) | (rw [hR9, if_pos (show pBad (μ 5 0 10) R9 from by first | exact Or.inl h64 | exact Or.inr h75), if_pos (show pBad (μ 5 0 10) R9 from by first | exact Or.inl h64 | exact Or.inr h75)]; rfl) | (rw [hR9, if_neg (show ¬ pBad (μ 5 0 10) R9 from fun q => by rcases q with q | q <;> omega), if_neg (show ¬ pBad (μ 5 0 10) R9 from fun q => by rcases q with q | q <;> omega)]; rfl))
        · skip
          refine zV_iconst (n := 110) C dX9_car_109 rfl ?_
          refine zV_aload_n (i := 0) (n := 111) C dX9_car_110 rfl rfl rfl ?_
          refine zV_getI (f := 11) (fi := 11) (n := 114) C zk8 fX9_204 dX9_car_111 zs_ref rfl (by decide) rfl rfl ?_
          rw [zp_f]
          refine zV_isub (n := 115) C dX9_car_114 rfl ?_
          refine zV_goto C 119 dX9_car_115 (by decide) ?_
          exact zV_ireturn C hr hlk dX9_car_119 (by first | (exfalso; omega) | (rw [hR9]; exact congrArg (fun z => some (Value.int (zi z))) (if_pos (show pBad (μ 5 0 10) R9 from by first | exact Or.inl h64 | exact Or.inr h75)).symm) | (rw [hR9]; exact congrArg (fun z => some (Value.int (zi z))) (if_neg (show ¬ pBad (μ 5 0 10) R9 from fun q => by rcases q with q | q <;> omega)).symm)) (by first | (exfalso; omega) | (rw [hR9, if_pos (show pBad (μ 5 0 10) R9 from by first | exact Or.inl h64 | exact Or.inr h75), if_pos (show pBad (μ 5 0 10) R9 from by first | exact Or.inl h64 | exact Or.inr h75)]; rfl) | (rw [hR9, if_neg (show ¬ pBad (μ 5 0 10) R9 from fun q => by rcases q with q | q <;> omega), if_neg (show ¬ pBad (μ 5 0 10) R9 from fun q => by rcases q with q | q <;> omega)]; rfl))

