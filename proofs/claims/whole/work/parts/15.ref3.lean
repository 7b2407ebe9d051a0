/-! the reference: its car moves (laid by wip/whole/gen/ref3.py) -/
set_option maxRecDepth 100000 in
set_option maxHeartbeats 4000000 in
theorem m_clicks {Γ : zC} {l : Launch} {d : Nat} {μ : zMem} {N : Int} (I : rInv N (μ 5 1)) {x : Int} (hx : 0 ≤ x ∧ x < 6) {k : Int} (hk : 0 ≤ k ∧ k < 3) (hx0 : x < μ 5 1 0) (hn : rAt (μ 5 1) x = -1) : zRet Γ l (d + 4) qX9_clicks [.ref (za Γ 5 0), .int (zi x), .int (zi k)] μ (some (.int (zi (rSec (μ 5 1) x k)))) (zset μ 5 1 (rClick (μ 5 1) x k)) := by
  refine zRet.mk 1 [.ref (za Γ 5 0), .int (zi x), .int (zi k), .null] RX9 rfl (by decide +kernel) (Nat.le_of_ble_eq_true rfl) rfl ?_
  intro p e s m below meth c C hr hlk
  have hc := I.2.2.2.2.2.1 x hx.1 hx.2
  have hs := I.2.2.2.2.1 k hk.1 hk.2
  have h0 := I.1
  have h1 := I.2.1
  have h2 := I.2.2.1
  have h3 := I.2.2.2.1
  have hq := rSec_rg I hx hk
  have z1 := zmin_rg (a := (μ 5 1) 2 + rSec (μ 5 1) x k) (b := 99999) (by omega) (by omega)
  refine zV_aload_n (i := 0) (n := 1) C dX9_clicks_0 rfl rfl rfl ?_
  refine zV_iload_n (i := 1) (n := 2) C dX9_clicks_1 rfl rfl rfl ?_
  refine zV_iload_n (i := 2) (n := 3) C dX9_clicks_2 rfl rfl rfl ?_
  refine zV_callV2u (n := 6) C zk8 jX9_secondsOf lX9_118 (m_secondsOf (d := d) I (by omega) (by omega)) dX9_clicks_3 zs_ref rfl (Nat.le_of_ble_eq_true rfl) (zfit_of (by omega) (by decide)) ⟨Nat.le_refl _, Nat.le_refl _⟩ rfl ?_
  refine zS_istore_n_4_3 (n := 7) C dX9_clicks_6 rfl rfl ?_
  refine zV_aload_n (i := 0) (n := 8) C dX9_clicks_7 rfl rfl rfl ?_
  refine zV_getP (f := 0) (n := 11) C zk8 fX9_7 dX9_clicks_8 zs_ref rfl (by decide) rfl ?_
  refine zV_iconst (n := 12) C dX9_clicks_11 rfl ?_
  refine zV_aload_n (i := 0) (n := 13) C dX9_clicks_12 rfl rfl rfl ?_
  refine zV_getP (f := 0) (n := 16) C zk8 fX9_7 dX9_clicks_13 zs_ref rfl (by decide) rfl ?_
  refine zV_iconst (n := 17) C dX9_clicks_16 rfl ?_
  refine zV_iald (n := 18) C dX9_clicks_17 zs_s (by first | omega | exact zb_rg) (by decide) rfl ?_
  refine zV_iload_n (i := 3) (n := 19) C dX9_clicks_18 rfl rfl rfl ?_
  refine zV_iadd (n := 20) C dX9_clicks_19 rfl ?_
  refine zV_ldc (n := 22) C dX9_clicks_20 kX9_124 rfl ?_
  refine zV_callS2u (n := 25) C jX9_heldTo lX9_125 (m_heldTo (d := d) (by omega) (by omega)) dX9_clicks_22 (Nat.le_of_ble_eq_true rfl) (zfit_of (by omega) (by decide)) ⟨Nat.le_refl _, Nat.le_refl _⟩ rfl ?_
  refine zV_iast (n := 26) C dX9_clicks_25 zs_s (by first | omega | exact zb_rg) (by decide) rfl ?_
  rw [zup_zset]
  have J1 : rInv N (zfu (μ 5 1) 2 (zmin ((μ 5 1) 2 + rSec (μ 5 1) x k) 99999)) := rInv_one I (by omega)
  generalize hS1 : zfu (μ 5 1) 2 (zmin ((μ 5 1) 2 + rSec (μ 5 1) x k) 99999) = S1 at J1 ⊢
  have I : rInv N (zset μ 5 1 S1 5 1) := by rw [zset_at]; exact J1
  have hc := J1.2.2.2.2.2.1 x hx.1 hx.2
  have hs := J1.2.2.2.2.1 k hk.1 hk.2
  have h0 := J1.1
  have h1 := J1.2.1
  have h2 := J1.2.2.1
  have h3 := J1.2.2.2.1
  have e1 : rAt S1 x = -1 := by rw [← hS1, rAt_up (by omega)]; exact hn
  have c1 : S1 0 = (μ 5 1) 0 := by rw [← hS1]; exact zfu_ne (by omega)
  have z2 := rSnug_rg J1 hx hk
  refine zV_aload_n (i := 0) (n := 27) C dX9_clicks_26 rfl rfl rfl ?_
  refine zV_getP (f := 0) (n := 30) C zk8 fX9_7 dX9_clicks_27 zs_ref rfl (by decide) rfl ?_
  refine zV_iload_n (i := 1) (n := 31) C dX9_clicks_30 rfl rfl rfl ?_
  refine zV_iconst (n := 32) C dX9_clicks_31 rfl ?_
  refine zV_callS2u (n := 35) C jX9_placeOf lX9_60 (m_placeOf (d := d) ) dX9_clicks_32 (Nat.le_of_ble_eq_true rfl) (zfit_of (by omega) (by decide)) ⟨Nat.le_refl _, Nat.le_refl _⟩ rfl ?_
  refine zV_aload_n (i := 0) (n := 36) C dX9_clicks_35 rfl rfl rfl ?_
  refine zV_iload_n (i := 1) (n := 37) C dX9_clicks_36 rfl rfl rfl ?_
  refine zV_iload_n (i := 2) (n := 38) C dX9_clicks_37 rfl rfl rfl ?_
  refine zV_callV2u (n := 41) C zk8 jX9_snugOf lX9_121 (m_snugOf (d := d) I (by omega) (by omega)) dX9_clicks_38 zs_ref rfl (Nat.le_of_ble_eq_true rfl) (zfit_of (by omega) (by decide)) ⟨Nat.le_refl _, Nat.le_refl _⟩ rfl ?_
  simp only [zset_at]
  refine zV_iast (n := 42) C dX9_clicks_41 zs_s (by first | omega | exact zb_rg) (by decide) rfl ?_
  rw [zup_set]
  have J2 : rInv N (zfu S1 (19 + 6 * x + 5) (rSnug S1 x k)) := rInv_kid J1 hx (by omega) (by simpa using z2)
  generalize hS2 : zfu S1 (19 + 6 * x + 5) (rSnug S1 x k) = S2 at J2 ⊢
  have I : rInv N (zset μ 5 1 S2 5 1) := by rw [zset_at]; exact J2
  have hc := J2.2.2.2.2.2.1 x hx.1 hx.2
  have hs := J2.2.2.2.2.1 k hk.1 hk.2
  have h0 := J2.1
  have h1 := J2.2.1
  have h2 := J2.2.2.1
  have h3 := J2.2.2.2.1
  have e2 : rAt S2 x = -1 := by rw [← hS2, rAt_up (by omega)]; exact e1
  have c2 : S2 0 = S1 0 := by rw [← hS2]; exact zfu_ne (by omega)
  have z3 := zmin_rg (a := itS S2 k 3 + 1) (b := 9999) (by omega) (by omega)
  refine zV_aload_n (i := 0) (n := 43) C dX9_clicks_42 rfl rfl rfl ?_
  refine zV_getP (f := 0) (n := 46) C zk8 fX9_7 dX9_clicks_43 zs_ref rfl (by decide) rfl ?_
  refine zV_iload_n (i := 2) (n := 47) C dX9_clicks_46 rfl rfl rfl ?_
  refine zV_iconst (n := 48) C dX9_clicks_47 rfl ?_
  refine zV_callS2u (n := 51) C jX9_spotOf lX9_47 (m_spotOf (d := d) ) dX9_clicks_48 (Nat.le_of_ble_eq_true rfl) (zfit_of (by omega) (by decide)) ⟨Nat.le_refl _, Nat.le_refl _⟩ rfl ?_
  refine zV_aload_n (i := 0) (n := 52) C dX9_clicks_51 rfl rfl rfl ?_
  refine zV_iload_n (i := 2) (n := 53) C dX9_clicks_52 rfl rfl rfl ?_
  refine zV_iconst (n := 54) C dX9_clicks_53 rfl ?_
  refine zV_callV2u (n := 57) C zk8 jX9_its lX9_63 (m_its (d := d) (by omega)) dX9_clicks_54 zs_ref rfl (Nat.le_of_ble_eq_true rfl) (zfit_of (by omega) (by decide)) ⟨Nat.le_refl _, Nat.le_refl _⟩ rfl ?_
  simp only [zset_at]
  refine zV_iconst (n := 58) C dX9_clicks_57 rfl ?_
  refine zV_iadd (n := 59) C dX9_clicks_58 rfl ?_
  refine zV_sipush (n := 62) C dX9_clicks_59 (by decide) rfl ?_
  refine zV_callS2u (n := 65) C jX9_heldTo lX9_125 (m_heldTo (d := d) (by omega) (by omega)) dX9_clicks_62 (Nat.le_of_ble_eq_true rfl) (zfit_of (by omega) (by decide)) ⟨Nat.le_refl _, Nat.le_refl _⟩ rfl ?_
  refine zV_iast (n := 66) C dX9_clicks_65 zs_s (by first | omega | exact zb_rg) (by decide) rfl ?_
  rw [zup_set]
  have J3 : rInv N (zfu S2 (4 + 5 * k + 3) (zmin (itS S2 k 3 + 1) 9999)) := rInv_st J2 hk (by omega) (by simp; omega)
  generalize hS3 : zfu S2 (4 + 5 * k + 3) (zmin (itS S2 k 3 + 1) 9999) = S3 at J3 ⊢
  have I : rInv N (zset μ 5 1 S3 5 1) := by rw [zset_at]; exact J3
  have hc := J3.2.2.2.2.2.1 x hx.1 hx.2
  have hs := J3.2.2.2.2.1 k hk.1 hk.2
  have h0 := J3.1
  have h1 := J3.2.1
  have h2 := J3.2.2.1
  have h3 := J3.2.2.2.1
  have e3 : rAt S3 x = -1 := by rw [← hS3, rAt_up (by omega)]; exact e2
  have c3 : S3 0 = S2 0 := by rw [← hS3]; exact zfu_ne (by omega)
  refine zV_aload_n (i := 0) (n := 67) C dX9_clicks_66 rfl rfl rfl ?_
  refine zV_getP (f := 0) (n := 70) C zk8 fX9_7 dX9_clicks_67 zs_ref rfl (by decide) rfl ?_
  refine zV_iload_n (i := 2) (n := 71) C dX9_clicks_70 rfl rfl rfl ?_
  refine zV_iconst (n := 72) C dX9_clicks_71 rfl ?_
  refine zV_callS2u (n := 75) C jX9_spotOf lX9_47 (m_spotOf (d := d) ) dX9_clicks_72 (Nat.le_of_ble_eq_true rfl) (zfit_of (by omega) (by decide)) ⟨Nat.le_refl _, Nat.le_refl _⟩ rfl ?_
  refine zV_iload_n (i := 1) (n := 76) C dX9_clicks_75 rfl rfl rfl ?_
  refine zV_iast (n := 77) C dX9_clicks_76 zs_s (by first | omega | exact zb_rg) (by decide) rfl ?_
  rw [zup_set]
  have J4 : rInv N (zfu S3 (4 + 5 * k + 4) x) := rInv_sit J3 hk (by omega) e3
  generalize hS4 : zfu S3 (4 + 5 * k + 4) x = S4 at J4 ⊢
  have I : rInv N (zset μ 5 1 S4 5 1) := by rw [zset_at]; exact J4
  have hc := J4.2.2.2.2.2.1 x hx.1 hx.2
  have hs := J4.2.2.2.2.1 k hk.1 hk.2
  have h0 := J4.1
  have h1 := J4.2.1
  have h2 := J4.2.2.1
  have h3 := J4.2.2.2.1
  have z5 := zmin_rg (a := toS S4 x 4 + 1) (b := 9) (by omega) (by omega)
  refine zV_aload_n (i := 0) (n := 78) C dX9_clicks_77 rfl rfl rfl ?_
  refine zV_iload_n (i := 1) (n := 79) C dX9_clicks_78 rfl rfl rfl ?_
  refine zV_iconst (n := 80) C dX9_clicks_79 rfl ?_
  refine zV_callV2u (n := 83) C zk8 jX9_told lX9_94 (m_told (d := d) (by omega)) dX9_clicks_80 zs_ref rfl (Nat.le_of_ble_eq_true rfl) (zfit_of (by omega) (by decide)) ⟨Nat.le_refl _, Nat.le_refl _⟩ rfl ?_
  simp only [zset_at]
  refine zV_iconst (n := 84) C dX9_clicks_83 rfl ?_
  refine zV_callS2u (n := 87) C jX9_isUnder lX9_110 (m_isUnder (d := d) (by omega) (by omega)) dX9_clicks_84 (Nat.le_of_ble_eq_true rfl) (zfit_of (by omega) (by decide)) ⟨Nat.le_refl _, Nat.le_refl _⟩ rfl ?_
  refine zV_if_eq (n := 90) C 113 dX9_clicks_87 (by decide) (by first | omega | exact zb_rg) rfl (fun h87 => ?_) (fun h87 => ?_)
  · skip
    simp only [zb_eq0, Decidable.not_not] at h87
    refine zV_iload_n (i := 3) (n := 114) C dX9_clicks_113 rfl rfl rfl ?_
    exact zV_ireturn C hr hlk dX9_clicks_114 (by rfl) (by subst hS4; subst hS3; subst hS2; subst hS1; simp only [rClick]; first | rw [if_pos h87] | rw [if_neg h87])
  · skip
    simp only [zb_eq0, Decidable.not_not] at h87
    refine zV_aload_n (i := 0) (n := 91) C dX9_clicks_90 rfl rfl rfl ?_
    refine zV_getP (f := 0) (n := 94) C zk8 fX9_7 dX9_clicks_91 zs_ref rfl (by decide) rfl ?_
    refine zV_iload_n (i := 1) (n := 95) C dX9_clicks_94 rfl rfl rfl ?_
    refine zV_iconst (n := 96) C dX9_clicks_95 rfl ?_
    refine zV_callS2u (n := 99) C jX9_placeOf lX9_60 (m_placeOf (d := d) ) dX9_clicks_96 (Nat.le_of_ble_eq_true rfl) (zfit_of (by omega) (by decide)) ⟨Nat.le_refl _, Nat.le_refl _⟩ rfl ?_
    refine zV_aload_n (i := 0) (n := 100) C dX9_clicks_99 rfl rfl rfl ?_
    refine zV_iload_n (i := 1) (n := 101) C dX9_clicks_100 rfl rfl rfl ?_
    refine zV_iconst (n := 102) C dX9_clicks_101 rfl ?_
    refine zV_callV2u (n := 105) C zk8 jX9_told lX9_94 (m_told (d := d) (by omega)) dX9_clicks_102 zs_ref rfl (Nat.le_of_ble_eq_true rfl) (zfit_of (by omega) (by decide)) ⟨Nat.le_refl _, Nat.le_refl _⟩ rfl ?_
    simp only [zset_at]
    refine zV_iconst (n := 106) C dX9_clicks_105 rfl ?_
    refine zV_iadd (n := 107) C dX9_clicks_106 rfl ?_
    refine zV_bipush (n := 109) C dX9_clicks_107 (by decide) rfl ?_
    refine zV_callS2u (n := 112) C jX9_heldTo lX9_125 (m_heldTo (d := d) (by omega) (by omega)) dX9_clicks_109 (Nat.le_of_ble_eq_true rfl) (zfit_of (by omega) (by decide)) ⟨Nat.le_refl _, Nat.le_refl _⟩ rfl ?_
    refine zV_iast (n := 113) C dX9_clicks_112 zs_s (by first | omega | exact zb_rg) (by decide) rfl ?_
    rw [zup_set]
    refine zV_iload_n (i := 3) (n := 114) C dX9_clicks_113 rfl rfl rfl ?_
    exact zV_ireturn C hr hlk dX9_clicks_114 (by rfl) (by subst hS4; subst hS3; subst hS2; subst hS1; simp only [rClick]; first | rw [if_pos h87] | rw [if_neg h87])

set_option maxRecDepth 100000 in
set_option maxHeartbeats 4000000 in
theorem m_goesOut {Γ : zC} {l : Launch} {d : Nat} {μ : zMem} {N : Int} (I : rInv N (μ 5 1)) {k : Int} (hk : 0 ≤ k ∧ k < 3) (ht : rTk (μ 5 1) k) : zRet Γ l (d + 2) qX9_goesOut [.ref (za Γ 5 0), .int (zi k)] μ none (zset μ 5 1 (rOut (μ 5 1) k)) := by
  refine zRet.mk 0 [.ref (za Γ 5 0), .int (zi k)] RX9 rfl (by decide +kernel) (Nat.le_of_ble_eq_true rfl) rfl ?_
  intro p e s m below meth c C hr hlk
  have hs := I.2.2.2.2.1 k hk.1 hk.2
  have h0 := I.1
  refine zV_aload_n (i := 0) (n := 1) C dX9_goesOut_0 rfl rfl rfl ?_
  refine zV_getP (f := 0) (n := 4) C zk8 fX9_7 dX9_goesOut_1 zs_ref rfl (by decide) rfl ?_
  refine zV_aload_n (i := 0) (n := 5) C dX9_goesOut_4 rfl rfl rfl ?_
  refine zV_iload_n (i := 1) (n := 6) C dX9_goesOut_5 rfl rfl rfl ?_
  refine zV_iconst (n := 7) C dX9_goesOut_6 rfl ?_
  refine zV_callV2u (n := 10) C zk8 jX9_its lX9_63 (m_its (d := d) (by omega)) dX9_goesOut_7 zs_ref rfl (Nat.le_of_ble_eq_true rfl) (zfit_of (by omega) (by decide)) ⟨Nat.le_refl _, Nat.le_refl _⟩ rfl ?_
  refine zV_iconst (n := 11) C dX9_goesOut_10 rfl ?_
  refine zV_callS2u (n := 14) C jX9_placeOf lX9_60 (m_placeOf (d := d) ) dX9_goesOut_11 (Nat.le_of_ble_eq_true rfl) (zfit_of (by omega) (by decide)) ⟨Nat.le_refl _, Nat.le_refl _⟩ rfl ?_
  refine zV_iconst (n := 15) C dX9_goesOut_14 rfl ?_
  refine zV_iast (n := 16) C dX9_goesOut_15 zs_s (by first | omega | exact zb_rg) (by decide) rfl ?_
  rw [zup_zset]
  refine zV_aload_n (i := 0) (n := 17) C dX9_goesOut_16 rfl rfl rfl ?_
  refine zV_getP (f := 0) (n := 20) C zk8 fX9_7 dX9_goesOut_17 zs_ref rfl (by decide) rfl ?_
  refine zV_iload_n (i := 1) (n := 21) C dX9_goesOut_20 rfl rfl rfl ?_
  refine zV_iconst (n := 22) C dX9_goesOut_21 rfl ?_
  refine zV_callS2u (n := 25) C jX9_spotOf lX9_47 (m_spotOf (d := d) ) dX9_goesOut_22 (Nat.le_of_ble_eq_true rfl) (zfit_of (by omega) (by decide)) ⟨Nat.le_refl _, Nat.le_refl _⟩ rfl ?_
  refine zV_iconst (n := 26) C dX9_goesOut_25 rfl ?_
  refine zV_iast (n := 27) C dX9_goesOut_26 zs_s (by first | omega | exact zb_rg) (by decide) rfl ?_
  rw [zup_set]
  exact zV_return C hr hlk dX9_goesOut_27 (by rfl) (by rfl)

set_option maxRecDepth 100000 in
set_option maxHeartbeats 4000000 in
theorem m_bribed {Γ : zC} {l : Launch} {d : Nat} {μ : zMem} {N : Int} (I : rInv N (μ 5 1)) {x : Int} (hx : 0 ≤ x ∧ x < 6)  : zRet Γ l (d + 3) qX9_bribed [.ref (za Γ 5 0), .int (zi x)] μ none (zset μ 5 1 (rBr (μ 5 1) x)) := by
  refine zRet.mk 1 [.ref (za Γ 5 0), .int (zi x), .null] RX9 rfl (by decide +kernel) (Nat.le_of_ble_eq_true rfl) rfl ?_
  intro p e s m below meth c C hr hlk
  have hc := I.2.2.2.2.2.1 x hx.1 hx.2
  have h0 := I.1
  have ha := rAt_rg (μ 5 1) x
  have z1 := zmin_rg (a := toS (μ 5 1) x 2 + 3) (b := 9) (by omega) (by omega)
  refine zV_aload_n (i := 0) (n := 1) C dX9_bribed_0 rfl rfl rfl ?_
  refine zV_iload_n (i := 1) (n := 2) C dX9_bribed_1 rfl rfl rfl ?_
  refine zV_callV1u (n := 5) C zk8 jX9_seatedAt lX9_91 (m_seatedAt (d := d) I (by omega)) dX9_bribed_2 zs_ref rfl (Nat.le_of_ble_eq_true rfl) (zfit_of (by omega) (by decide)) ⟨Nat.le_refl _, Nat.le_refl _⟩ rfl ?_
  refine zS_istore_n_3_2 (n := 6) C dX9_bribed_5 rfl rfl ?_
  refine zV_aload_n (i := 0) (n := 7) C dX9_bribed_6 rfl rfl rfl ?_
  refine zV_getP (f := 0) (n := 10) C zk8 fX9_7 dX9_bribed_7 zs_ref rfl (by decide) rfl ?_
  refine zV_iload_n (i := 1) (n := 11) C dX9_bribed_10 rfl rfl rfl ?_
  refine zV_iconst (n := 12) C dX9_bribed_11 rfl ?_
  refine zV_callS2u (n := 15) C jX9_placeOf lX9_60 (m_placeOf (d := d) ) dX9_bribed_12 (Nat.le_of_ble_eq_true rfl) (zfit_of (by omega) (by decide)) ⟨Nat.le_refl _, Nat.le_refl _⟩ rfl ?_
  refine zV_aload_n (i := 0) (n := 16) C dX9_bribed_15 rfl rfl rfl ?_
  refine zV_iload_n (i := 1) (n := 17) C dX9_bribed_16 rfl rfl rfl ?_
  refine zV_iconst (n := 18) C dX9_bribed_17 rfl ?_
  refine zV_callV2u (n := 21) C zk8 jX9_told lX9_94 (m_told (d := d) (by omega)) dX9_bribed_18 zs_ref rfl (Nat.le_of_ble_eq_true rfl) (zfit_of (by omega) (by decide)) ⟨Nat.le_refl _, Nat.le_refl _⟩ rfl ?_
  refine zV_iconst (n := 22) C dX9_bribed_21 rfl ?_
  refine zV_iadd (n := 23) C dX9_bribed_22 rfl ?_
  refine zV_bipush (n := 25) C dX9_bribed_23 (by decide) rfl ?_
  refine zV_callS2u (n := 28) C jX9_heldTo lX9_125 (m_heldTo (d := d) (by omega) (by omega)) dX9_bribed_25 (Nat.le_of_ble_eq_true rfl) (zfit_of (by omega) (by decide)) ⟨Nat.le_refl _, Nat.le_refl _⟩ rfl ?_
  refine zV_iast (n := 29) C dX9_bribed_28 zs_s (by first | omega | exact zb_rg) (by decide) rfl ?_
  rw [zup_zset]
  have J1 : rInv N (zfu (μ 5 1) (19 + 6 * x + 2) (zmin (toS (μ 5 1) x 2 + 3) 9)) := rInv_kid I hx (by omega) (by simp; omega)
  generalize hS1 : zfu (μ 5 1) (19 + 6 * x + 2) (zmin (toS (μ 5 1) x 2 + 3) 9) = S1 at J1 ⊢
  have I : rInv N (zset μ 5 1 S1 5 1) := by rw [zset_at]; exact J1
  have hc := J1.2.2.2.2.2.1 x hx.1 hx.2
  have h0 := J1.1
  refine zV_iload_n (i := 2) (n := 30) C dX9_bribed_29 rfl rfl rfl ?_
  refine zV_if_lt (n := 33) C 56 dX9_bribed_30 (by decide) (by first | omega | exact zb_rg) rfl (fun h30 => ?_) (fun h30 => ?_)
  · skip
    exact zV_return C hr hlk dX9_bribed_56 (by rfl) (by subst hS1; simp only [rBr]; first | rw [if_pos h30] | rw [if_neg (by omega)])
  · skip
    refine zV_aload_n (i := 0) (n := 34) C dX9_bribed_33 rfl rfl rfl ?_
    refine zV_getP (f := 0) (n := 37) C zk8 fX9_7 dX9_bribed_34 zs_ref rfl (by decide) rfl ?_
    refine zV_iload_n (i := 2) (n := 38) C dX9_bribed_37 rfl rfl rfl ?_
    refine zV_iconst (n := 39) C dX9_bribed_38 rfl ?_
    refine zV_callS2u (n := 42) C jX9_spotOf lX9_47 (m_spotOf (d := d) ) dX9_bribed_39 (Nat.le_of_ble_eq_true rfl) (zfit_of (by omega) (by decide)) ⟨Nat.le_refl _, Nat.le_refl _⟩ rfl ?_
    refine zV_aload_n (i := 0) (n := 43) C dX9_bribed_42 rfl rfl rfl ?_
    refine zV_iload_n (i := 2) (n := 44) C dX9_bribed_43 rfl rfl rfl ?_
    refine zV_iconst (n := 45) C dX9_bribed_44 rfl ?_
    refine zV_callV2u (n := 48) C zk8 jX9_its lX9_63 (m_its (d := d) (by omega)) dX9_bribed_45 zs_ref rfl (Nat.le_of_ble_eq_true rfl) (zfit_of (by omega) (by decide)) ⟨Nat.le_refl _, Nat.le_refl _⟩ rfl ?_
    simp only [zset_at]
    have hs := J1.2.2.2.2.1 (rAt (μ 5 1) x) (by omega) (by omega)
    have z2 := zmin_rg (a := itS S1 (rAt (μ 5 1) x) 1 + 1) (b := 9) (by omega) (by omega)
    refine zV_iconst (n := 49) C dX9_bribed_48 rfl ?_
    refine zV_iadd (n := 50) C dX9_bribed_49 rfl ?_
    refine zV_bipush (n := 52) C dX9_bribed_50 (by decide) rfl ?_
    refine zV_callS2u (n := 55) C jX9_heldTo lX9_125 (m_heldTo (d := d) (by omega) (by omega)) dX9_bribed_52 (Nat.le_of_ble_eq_true rfl) (zfit_of (by omega) (by decide)) ⟨Nat.le_refl _, Nat.le_refl _⟩ rfl ?_
    refine zV_iast (n := 56) C dX9_bribed_55 zs_s (by first | omega | exact zb_rg) (by decide) rfl ?_
    rw [zup_set]
    exact zV_return C hr hlk dX9_bribed_56 (by rfl) (by subst hS1; simp only [rBr]; first | rw [if_pos h30] | rw [if_neg (by omega)])

set_option maxRecDepth 100000 in
set_option maxHeartbeats 4000000 in
theorem m_minute_a {Γ : zC} {l : Launch} {d : Nat} {p : Program} {e : Env} {s : State} {m : MethodId} {args : Array Value} {below : List Frame} {meth : Method} {c : Code} {Q : State → Prop} (C : zCx Γ (zAA Γ) p s m args c RX9 cX9_minute 4) {μ : zMem} {S : Int → Int} {N : Int} (J : rInv N S) (hN : N ≤ 20000) {k : Int} (hk : 0 ≤ k ∧ k < 3) {v2 v3 : Value} (KK : ∀ v2 v3 : Value, zV Γ (zAA Γ) p l e (zRm (d + 5)) s m args below meth c 0 0 Q 2 [.ref (za Γ 5 0), .int (zi (k + 1)), v2, v3] [] (zset μ 5 1 (rM1 S k))) :
    zV Γ (zAA Γ) p l e (zRm (d + 5)) s m args below meth c 0 0 Q 2 [.ref (za Γ 5 0), .int (zi k), v2, v3] [] (zset μ 5 1 S) := by
  have hs := J.2.2.2.2.1 k hk.1 hk.2
  have h0 := J.1
  have I : rInv N (zset μ 5 1 S 5 1) := by rw [zset_at]; exact J
  refine zV_iload_n (i := 1) (n := 3) C dX9_minute_2 rfl rfl rfl ?_
  refine zV_iconst (n := 4) C dX9_minute_3 rfl ?_
  refine zV_icmp_ge (n := 7) C 60 dX9_minute_4 (by decide) (by first | omega | exact zb_rg) (by first | omega | exact zb_rg) rfl (fun h => by exfalso; first | omega | exact zb_rg) (fun h4 => ?_)
  refine zV_aload_n (i := 0) (n := 8) C dX9_minute_7 rfl rfl rfl ?_
  refine zV_iload_n (i := 1) (n := 9) C dX9_minute_8 rfl rfl rfl ?_
  refine zV_callV1u (n := 12) C zk8 jX9_isTaken lX9_88 (m_isTaken (d := d) I (by omega)) dX9_minute_9 zs_ref rfl (Nat.le_of_ble_eq_true rfl) (zfit_of (by omega) (by decide)) ⟨Nat.le_refl _, Nat.le_refl _⟩ rfl ?_
  simp only [zset_at]
  refine zV_if_eq (n := 15) C 54 dX9_minute_12 (by decide) (by first | omega | exact zb_rg) rfl (fun h12 => ?_) (fun h12 => ?_)
  · skip
    simp only [zb_eq0, Decidable.not_not] at h12
    refine zS_iinc_4_1 (n := 57) C dX9_minute_54 rfl rfl ?_
    refine zV_goto C 2 dX9_minute_57 (by decide) ?_
    first | (have KK := KK v2 v3; unfold rM1 at KK; rw [if_neg h12] at KK; exact KK) | (have KK := KK (.int (zi (itS S k 4))) (.int (zi (toS S (itS S k 4) 2 - rFr S (itS S k 4)))); unfold rM1 at KK; rw [if_pos h12] at KK; first | (rw [if_pos h45] at KK; exact KK) | (rw [if_neg (by omega)] at KK; exact KK))
  · skip
    simp only [zb_eq0, Decidable.not_not] at h12
    refine zV_aload_n (i := 0) (n := 16) C dX9_minute_15 rfl rfl rfl ?_
    refine zV_iload_n (i := 1) (n := 17) C dX9_minute_16 rfl rfl rfl ?_
    refine zV_iconst (n := 18) C dX9_minute_17 rfl ?_
    refine zV_callV2u (n := 21) C zk8 jX9_its lX9_63 (m_its (d := d) (by omega)) dX9_minute_18 zs_ref rfl (Nat.le_of_ble_eq_true rfl) (zfit_of (by omega) (by decide)) ⟨Nat.le_refl _, Nat.le_refl _⟩ rfl ?_
    simp only [zset_at]
    have hc := J.2.2.2.2.2.1 (itS S k 4) (by omega) (by omega)
    refine zS_istore_n_4_2 (n := 22) C dX9_minute_21 rfl rfl ?_
    refine zV_aload_n (i := 0) (n := 23) C dX9_minute_22 rfl rfl rfl ?_
    refine zV_iload_n (i := 2) (n := 24) C dX9_minute_23 rfl rfl rfl ?_
    refine zV_iconst (n := 25) C dX9_minute_24 rfl ?_
    refine zV_callV2u (n := 28) C zk8 jX9_told lX9_94 (m_told (d := d) (by omega)) dX9_minute_25 zs_ref rfl (Nat.le_of_ble_eq_true rfl) (zfit_of (by omega) (by decide)) ⟨Nat.le_refl _, Nat.le_refl _⟩ rfl ?_
    simp only [zset_at]
    refine zV_aload_n (i := 0) (n := 29) C dX9_minute_28 rfl rfl rfl ?_
    refine zV_iload_n (i := 2) (n := 30) C dX9_minute_29 rfl rfl rfl ?_
    refine zV_callV1u (n := 33) C zk8 jX9_frets lX9_105 (m_frets (d := d) I (by omega) (by omega)) dX9_minute_30 zs_ref rfl (Nat.le_of_ble_eq_true rfl) (zfit_of (by omega) (by decide)) ⟨Nat.le_refl _, Nat.le_refl _⟩ rfl ?_
    simp only [zset_at]
    have hf := rFr_rg S (itS S k 4)
    refine zV_isub (n := 34) C dX9_minute_33 rfl ?_
    refine zS_istore_n_4_3 (n := 35) C dX9_minute_34 rfl rfl ?_
    refine zV_aload_n (i := 0) (n := 36) C dX9_minute_35 rfl rfl rfl ?_
    refine zV_getP (f := 0) (n := 39) C zk8 fX9_7 dX9_minute_36 zs_ref rfl (by decide) rfl ?_
    refine zV_iload_n (i := 2) (n := 40) C dX9_minute_39 rfl rfl rfl ?_
    refine zV_iconst (n := 41) C dX9_minute_40 rfl ?_
    refine zV_callS2u (n := 44) C jX9_placeOf lX9_60 (m_placeOf (d := d) ) dX9_minute_41 (Nat.le_of_ble_eq_true rfl) (zfit_of (by omega) (by decide)) ⟨Nat.le_refl _, Nat.le_refl _⟩ rfl ?_
    refine zV_iload_n (i := 3) (n := 45) C dX9_minute_44 rfl rfl rfl ?_
    refine zV_if_ge (n := 48) C 52 dX9_minute_45 (by decide) (by first | omega | exact zb_rg) rfl (fun h45 => ?_) (fun h45 => ?_)
    · skip
      refine zV_iload_n (i := 3) (n := 53) C dX9_minute_52 rfl rfl rfl ?_
      refine zV_iast (n := 54) C dX9_minute_53 zs_s (by first | omega | exact zb_rg) (by decide) rfl ?_
      rw [zup_set]
      refine zS_iinc_4_1 (n := 57) C dX9_minute_54 rfl rfl ?_
      refine zV_goto C 2 dX9_minute_57 (by decide) ?_
      first | (have KK := KK v2 v3; unfold rM1 at KK; rw [if_neg h12] at KK; exact KK) | (have KK := KK (.int (zi (itS S k 4))) (.int (zi (toS S (itS S k 4) 2 - rFr S (itS S k 4)))); unfold rM1 at KK; rw [if_pos h12] at KK; first | (rw [if_pos h45] at KK; exact KK) | (rw [if_neg (by omega)] at KK; exact KK))
    · skip
      refine zV_iconst (n := 49) C dX9_minute_48 rfl ?_
      refine zV_goto C 53 dX9_minute_49 (by decide) ?_
      refine zV_iast (n := 54) C dX9_minute_53 zs_s (by first | omega | exact zb_rg) (by decide) rfl ?_
      rw [zup_set]
      refine zS_iinc_4_1 (n := 57) C dX9_minute_54 rfl rfl ?_
      refine zV_goto C 2 dX9_minute_57 (by decide) ?_
      first | (have KK := KK v2 v3; unfold rM1 at KK; rw [if_neg h12] at KK; exact KK) | (have KK := KK (.int (zi (itS S k 4))) (.int (zi (toS S (itS S k 4) 2 - rFr S (itS S k 4)))); unfold rM1 at KK; rw [if_pos h12] at KK; first | (rw [if_pos h45] at KK; exact KK) | (rw [if_neg (by omega)] at KK; exact KK))

set_option maxRecDepth 100000 in
set_option maxHeartbeats 4000000 in
theorem m_minute_b {Γ : zC} {l : Launch} {d : Nat} {p : Program} {e : Env} {s : State} {m : MethodId} {args : Array Value} {below : List Frame} {meth : Method} {c : Code} {Q : State → Prop} (C : zCx Γ (zAA Γ) p s m args c RX9 cX9_minute 4) {μ : zMem} {S : Int → Int} {N : Int} (J : rInv N S) (hN : N ≤ 20000) {k : Int} (hk : 0 ≤ k ∧ k < 3) {v2 v3 : Value} (KK : ∀ v2 v3 : Value, zV Γ (zAA Γ) p l e (zRm (d + 5)) s m args below meth c 0 0 Q 62 [.ref (za Γ 5 0), .int (zi (k + 1)), v2, v3] [] (zset μ 5 1 (rM2 S k))) :
    zV Γ (zAA Γ) p l e (zRm (d + 5)) s m args below meth c 0 0 Q 62 [.ref (za Γ 5 0), .int (zi k), v2, v3] [] (zset μ 5 1 S) := by
  have hs := J.2.2.2.2.1 k hk.1 hk.2
  have h0 := J.1
  have I : rInv N (zset μ 5 1 S 5 1) := by rw [zset_at]; exact J
  refine zV_iload_n (i := 1) (n := 63) C dX9_minute_62 rfl rfl rfl ?_
  refine zV_iconst (n := 64) C dX9_minute_63 rfl ?_
  refine zV_icmp_ge (n := 67) C 144 dX9_minute_64 (by decide) (by first | omega | exact zb_rg) (by first | omega | exact zb_rg) rfl (fun h => by exfalso; first | omega | exact zb_rg) (fun h64 => ?_)
  refine zV_aload_n (i := 0) (n := 68) C dX9_minute_67 rfl rfl rfl ?_
  refine zV_iload_n (i := 1) (n := 69) C dX9_minute_68 rfl rfl rfl ?_
  refine zV_callV1u (n := 72) C zk8 jX9_isTaken lX9_88 (m_isTaken (d := d) I (by omega)) dX9_minute_69 zs_ref rfl (Nat.le_of_ble_eq_true rfl) (zfit_of (by omega) (by decide)) ⟨Nat.le_refl _, Nat.le_refl _⟩ rfl ?_
  simp only [zset_at]
  refine zV_if_eq (n := 75) C 138 dX9_minute_72 (by decide) (by first | omega | exact zb_rg) rfl (fun h72 => ?_) (fun h72 => ?_)
  · skip
    simp only [zb_eq0, Decidable.not_not] at h72
    refine zS_iinc_4_1 (n := 141) C dX9_minute_138 rfl rfl ?_
    refine zV_goto C 62 dX9_minute_141 (by decide) ?_
    first | (have KK := KK v2 v3; unfold rM2 at KK; rw [if_neg (by omega)] at KK; exact KK) | (have KK := KK (.int (zi (19 + 6 * itS S k 4 + 5))) v3; unfold rM2 at KK; rw [if_pos (by omega)] at KK; first | (rw [if_pos h130] at KK; exact KK) | (rw [if_neg h130] at KK; exact KK))
  · skip
    simp only [zb_eq0, Decidable.not_not] at h72
    refine zV_aload_n (i := 0) (n := 76) C dX9_minute_75 rfl rfl rfl ?_
    refine zV_aload_n (i := 0) (n := 77) C dX9_minute_76 rfl rfl rfl ?_
    refine zV_iload_n (i := 1) (n := 78) C dX9_minute_77 rfl rfl rfl ?_
    refine zV_iconst (n := 79) C dX9_minute_78 rfl ?_
    refine zV_callV2u (n := 82) C zk8 jX9_its lX9_63 (m_its (d := d) (by omega)) dX9_minute_79 zs_ref rfl (Nat.le_of_ble_eq_true rfl) (zfit_of (by omega) (by decide)) ⟨Nat.le_refl _, Nat.le_refl _⟩ rfl ?_
    simp only [zset_at]
    have hc := J.2.2.2.2.2.1 (itS S k 4) (by omega) (by omega)
    refine zV_iconst (n := 83) C dX9_minute_82 rfl ?_
    refine zV_callV2u (n := 86) C zk8 jX9_told lX9_94 (m_told (d := d) (by omega)) dX9_minute_83 zs_ref rfl (Nat.le_of_ble_eq_true rfl) (zfit_of (by omega) (by decide)) ⟨Nat.le_refl _, Nat.le_refl _⟩ rfl ?_
    simp only [zset_at]
    refine zV_iconst (n := 87) C dX9_minute_86 rfl ?_
    refine zV_icmp_ge (n := 90) C 138 dX9_minute_87 (by decide) (by first | omega | exact zb_rg) (by first | omega | exact zb_rg) rfl (fun h87 => ?_) (fun h87 => ?_)
    · skip
      refine zS_iinc_4_1 (n := 141) C dX9_minute_138 rfl rfl ?_
      refine zV_goto C 62 dX9_minute_141 (by decide) ?_
      first | (have KK := KK v2 v3; unfold rM2 at KK; rw [if_neg (by omega)] at KK; exact KK) | (have KK := KK (.int (zi (19 + 6 * itS S k 4 + 5))) v3; unfold rM2 at KK; rw [if_pos (by omega)] at KK; first | (rw [if_pos h130] at KK; exact KK) | (rw [if_neg h130] at KK; exact KK))
    · skip
      refine zV_aload_n (i := 0) (n := 91) C dX9_minute_90 rfl rfl rfl ?_
      refine zV_iload_n (i := 1) (n := 92) C dX9_minute_91 rfl rfl rfl ?_
      refine zV_iconst (n := 93) C dX9_minute_92 rfl ?_
      refine zV_callV2u (n := 96) C zk8 jX9_its lX9_63 (m_its (d := d) (by omega)) dX9_minute_93 zs_ref rfl (Nat.le_of_ble_eq_true rfl) (zfit_of (by omega) (by decide)) ⟨Nat.le_refl _, Nat.le_refl _⟩ rfl ?_
      simp only [zset_at]
      refine zV_iconst (n := 97) C dX9_minute_96 rfl ?_
      refine zV_callS2u (n := 100) C jX9_placeOf lX9_60 (m_placeOf (d := d) ) dX9_minute_97 (Nat.le_of_ble_eq_true rfl) (zfit_of (by omega) (by decide)) ⟨Nat.le_refl _, Nat.le_refl _⟩ rfl ?_
      refine zS_istore_n_4_2 (n := 101) C dX9_minute_100 rfl rfl ?_
      refine zV_aload_n (i := 0) (n := 102) C dX9_minute_101 rfl rfl rfl ?_
      refine zV_getP (f := 0) (n := 105) C zk8 fX9_7 dX9_minute_102 zs_ref rfl (by decide) rfl ?_
      refine zV_iload_n (i := 2) (n := 106) C dX9_minute_105 rfl rfl rfl ?_
      refine zV_dup2 (n := 107) C dX9_minute_106 rfl rfl rfl ?_
      refine zV_iald (n := 108) C dX9_minute_107 zs_s (by first | omega | exact zb_rg) (by decide) rfl ?_
      simp only [zset_at]
      rw [show S (19 + 6 * itS S k 4 + 5) = toS S (itS S k 4) 5 from rfl]
      refine zV_aload_n (i := 0) (n := 109) C dX9_minute_108 rfl rfl rfl ?_
      refine zV_getP (f := 0) (n := 112) C zk8 fX9_7 dX9_minute_109 zs_ref rfl (by decide) rfl ?_
      refine zV_iload_n (i := 2) (n := 113) C dX9_minute_112 rfl rfl rfl ?_
      refine zV_iald (n := 114) C dX9_minute_113 zs_s (by first | omega | exact zb_rg) (by decide) rfl ?_
      simp only [zset_at]
      rw [show S (19 + 6 * itS S k 4 + 5) = toS S (itS S k 4) 5 from rfl]
      refine zV_if_le (n := 117) C 121 dX9_minute_114 (by decide) (by first | omega | exact zb_rg) rfl (fun h114 => ?_) (fun h114 => ?_)
      · skip
        refine zV_iconst (n := 122) C dX9_minute_121 rfl ?_
        refine zV_isub (n := 123) C dX9_minute_122 rfl ?_
        refine zV_iast (n := 124) C dX9_minute_123 zs_s (by first | omega | exact zb_rg) (by decide) rfl ?_
        rw [zup_set]
        refine zV_eqm (μ' := zset μ 5 1 (rLess S (itS S k 4))) (congrArg (zset μ 5 1) (by unfold rLess; first | rw [if_pos h114] | rw [if_neg (by omega)])) ?_
        have J1 := rLess_inv J (x := itS S k 4) (by omega)
        have I1 : rInv N (zset μ 5 1 (rLess S (itS S k 4)) 5 1) := by rw [zset_at]; exact J1
        have hc1 := J1.2.2.2.2.2.1 (itS S k 4) (by omega) (by omega)
        refine zV_aload_n (i := 0) (n := 125) C dX9_minute_124 rfl rfl rfl ?_
        refine zV_getP (f := 0) (n := 128) C zk8 fX9_7 dX9_minute_125 zs_ref rfl (by decide) rfl ?_
        refine zV_iload_n (i := 2) (n := 129) C dX9_minute_128 rfl rfl rfl ?_
        refine zV_iald (n := 130) C dX9_minute_129 zs_s (by first | omega | exact zb_rg) (by decide) rfl ?_
        simp only [zset_at]
        have hz : rLess S (itS S k 4) (19 + 6 * itS S k 4 + 5) = toS (rLess S (itS S k 4)) (itS S k 4) 5 := rfl
        rw [hz]
        refine zV_if_ne (n := 133) C 138 dX9_minute_130 (by decide) (by first | omega | exact zb_rg) rfl (fun h130 => ?_) (fun h130 => ?_)
        · skip
          refine zS_iinc_4_1 (n := 141) C dX9_minute_138 rfl rfl ?_
          refine zV_goto C 62 dX9_minute_141 (by decide) ?_
          first | (have KK := KK v2 v3; unfold rM2 at KK; rw [if_neg (by omega)] at KK; exact KK) | (have KK := KK (.int (zi (19 + 6 * itS S k 4 + 5))) v3; unfold rM2 at KK; rw [if_pos (by omega)] at KK; first | (rw [if_pos h130] at KK; exact KK) | (rw [if_neg h130] at KK; exact KK))
        · skip
          refine zV_aload_n (i := 0) (n := 134) C dX9_minute_133 rfl rfl rfl ?_
          refine zV_iload_n (i := 1) (n := 135) C dX9_minute_134 rfl rfl rfl ?_
          refine zV_callV1v (n := 138) C zk8 jX9_goesOut lX9_132 (m_goesOut (d := d) I1 (by omega) (by rw [zset_at]; show (0 : Int) ≤ itS (rLess S (itS S k 4)) k 4; rw [rLess_it (by omega) (by omega) (by omega)]; omega)) dX9_minute_135 zs_ref rfl (Nat.le_of_ble_eq_true rfl) (zfit_of (by omega) (by decide)) ⟨Nat.le_refl _, Nat.le_refl _⟩ rfl ?_
          rw [zset_set, zset_at]
          refine zS_iinc_4_1 (n := 141) C dX9_minute_138 rfl rfl ?_
          refine zV_goto C 62 dX9_minute_141 (by decide) ?_
          first | (have KK := KK v2 v3; unfold rM2 at KK; rw [if_neg (by omega)] at KK; exact KK) | (have KK := KK (.int (zi (19 + 6 * itS S k 4 + 5))) v3; unfold rM2 at KK; rw [if_pos (by omega)] at KK; first | (rw [if_pos h130] at KK; exact KK) | (rw [if_neg h130] at KK; exact KK))
      · skip
        refine zV_iconst (n := 118) C dX9_minute_117 rfl ?_
        refine zV_goto C 122 dX9_minute_118 (by decide) ?_
        refine zV_isub (n := 123) C dX9_minute_122 rfl ?_
        refine zV_iast (n := 124) C dX9_minute_123 zs_s (by first | omega | exact zb_rg) (by decide) rfl ?_
        rw [zup_set]
        refine zV_eqm (μ' := zset μ 5 1 (rLess S (itS S k 4))) (congrArg (zset μ 5 1) (by unfold rLess; first | rw [if_pos h114] | rw [if_neg (by omega)])) ?_
        have J1 := rLess_inv J (x := itS S k 4) (by omega)
        have I1 : rInv N (zset μ 5 1 (rLess S (itS S k 4)) 5 1) := by rw [zset_at]; exact J1
        have hc1 := J1.2.2.2.2.2.1 (itS S k 4) (by omega) (by omega)
        refine zV_aload_n (i := 0) (n := 125) C dX9_minute_124 rfl rfl rfl ?_
        refine zV_getP (f := 0) (n := 128) C zk8 fX9_7 dX9_minute_125 zs_ref rfl (by decide) rfl ?_
        refine zV_iload_n (i := 2) (n := 129) C dX9_minute_128 rfl rfl rfl ?_
        refine zV_iald (n := 130) C dX9_minute_129 zs_s (by first | omega | exact zb_rg) (by decide) rfl ?_
        simp only [zset_at]
        have hz : rLess S (itS S k 4) (19 + 6 * itS S k 4 + 5) = toS (rLess S (itS S k 4)) (itS S k 4) 5 := rfl
        rw [hz]
        refine zV_if_ne (n := 133) C 138 dX9_minute_130 (by decide) (by first | omega | exact zb_rg) rfl (fun h130 => ?_) (fun h130 => ?_)
        · skip
          refine zS_iinc_4_1 (n := 141) C dX9_minute_138 rfl rfl ?_
          refine zV_goto C 62 dX9_minute_141 (by decide) ?_
          first | (have KK := KK v2 v3; unfold rM2 at KK; rw [if_neg (by omega)] at KK; exact KK) | (have KK := KK (.int (zi (19 + 6 * itS S k 4 + 5))) v3; unfold rM2 at KK; rw [if_pos (by omega)] at KK; first | (rw [if_pos h130] at KK; exact KK) | (rw [if_neg h130] at KK; exact KK))
        · skip
          refine zV_aload_n (i := 0) (n := 134) C dX9_minute_133 rfl rfl rfl ?_
          refine zV_iload_n (i := 1) (n := 135) C dX9_minute_134 rfl rfl rfl ?_
          refine zV_callV1v (n := 138) C zk8 jX9_goesOut lX9_132 (m_goesOut (d := d) I1 (by omega) (by rw [zset_at]; show (0 : Int) ≤ itS (rLess S (itS S k 4)) k 4; rw [rLess_it (by omega) (by omega) (by omega)]; omega)) dX9_minute_135 zs_ref rfl (Nat.le_of_ble_eq_true rfl) (zfit_of (by omega) (by decide)) ⟨Nat.le_refl _, Nat.le_refl _⟩ rfl ?_
          rw [zset_set, zset_at]
          refine zS_iinc_4_1 (n := 141) C dX9_minute_138 rfl rfl ?_
          refine zV_goto C 62 dX9_minute_141 (by decide) ?_
          first | (have KK := KK v2 v3; unfold rM2 at KK; rw [if_neg (by omega)] at KK; exact KK) | (have KK := KK (.int (zi (19 + 6 * itS S k 4 + 5))) v3; unfold rM2 at KK; rw [if_pos (by omega)] at KK; first | (rw [if_pos h130] at KK; exact KK) | (rw [if_neg h130] at KK; exact KK))

set_option maxRecDepth 100000 in
set_option maxHeartbeats 4000000 in
theorem m_minute {Γ : zC} {l : Launch} {d : Nat} {μ : zMem} {N : Int} (I : rInv N (μ 5 1)) (hN : N ≤ 20000)  : zRet Γ l (d + 5) qX9_minute [.ref (za Γ 5 0)] μ none (zset μ 5 1 (rMin (μ 5 1))) := by
  refine zRet.mk 3 [.ref (za Γ 5 0), .null, .null, .null] RX9 rfl (by decide +kernel) (Nat.le_of_ble_eq_true rfl) rfl ?_
  intro p e s m below meth c C hr hlk
  refine zV_eqm (μ' := zset μ 5 1 (μ 5 1)) zset_self.symm ?_
  refine zV_iconst (n := 1) C dX9_minute_0 rfl ?_
  refine zS_istore_n_4_1 (n := 2) C dX9_minute_1 rfl rfl ?_
  refine m_minute_a C I hN (by omega) (fun v2 v3 => ?_)
  refine m_minute_a C (rM1_inv I (by omega)) hN (by omega) (fun v2 v3 => ?_)
  refine m_minute_a C (rM1_inv (rM1_inv I (by omega)) (by omega)) hN (by omega) (fun v2 v3 => ?_)
  have J3 := rM1_inv (rM1_inv (rM1_inv I (k := 0) (by omega)) (k := 1) (by omega)) (k := 2) (by omega)
  refine zV_iload_n (i := 1) (n := 3) C dX9_minute_2 rfl rfl rfl ?_
  refine zV_iconst (n := 4) C dX9_minute_3 rfl ?_
  refine zV_icmp_ge (n := 7) C 60 dX9_minute_4 (by decide) (by omega) (by omega) rfl (fun h => ?_) (fun h => by exfalso; omega)
  refine zV_iconst (n := 61) C dX9_minute_60 rfl ?_
  refine zS_istore_n_4_1 (n := 62) C dX9_minute_61 rfl rfl ?_
  refine m_minute_b C J3 hN (by omega) (fun v2 v3 => ?_)
  refine m_minute_b C (rM2_inv J3 (by omega)) hN (by omega) (fun v2 v3 => ?_)
  refine m_minute_b C (rM2_inv (rM2_inv J3 (by omega)) (by omega)) hN (by omega) (fun v2 v3 => ?_)
  refine zV_iload_n (i := 1) (n := 63) C dX9_minute_62 rfl rfl rfl ?_
  refine zV_iconst (n := 64) C dX9_minute_63 rfl ?_
  refine zV_icmp_ge (n := 67) C 144 dX9_minute_64 (by decide) (by omega) (by omega) rfl (fun h => ?_) (fun h => by exfalso; omega)
  refine zV_aload_n (i := 0) (n := 145) C dX9_minute_144 rfl rfl rfl ?_
  refine zV_getP (f := 0) (n := 148) C zk8 fX9_7 dX9_minute_145 zs_ref rfl (by decide) rfl ?_
  refine zV_iconst (n := 149) C dX9_minute_148 rfl ?_
  refine zV_dup2 (n := 150) C dX9_minute_149 rfl rfl rfl ?_
  refine zV_iald (n := 151) C dX9_minute_150 zs_s (by first | omega | exact zb_rg) (by decide) rfl ?_
  simp only [zset_at]
  refine zV_iconst (n := 152) C dX9_minute_151 rfl ?_
  refine zV_iadd (n := 153) C dX9_minute_152 rfl ?_
  refine zV_iast (n := 154) C dX9_minute_153 zs_s (by first | omega | exact zb_rg) (by decide) rfl ?_
  rw [zup_set]
  exact zV_return C hr hlk dX9_minute_154 (by rfl) (by rfl)

