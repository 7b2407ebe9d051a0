/-! the class: minutes, sums, the best seat, a car becomes another (laid by wip/whole/gen/cls3.py) -/
set_option maxRecDepth 100000 in
set_option maxHeartbeats 4000000 in
theorem c_loosen {Γ : zC} {l : Launch} {d : Nat} {μ : zMem} {g : Nat} (hg : g < 4) {S : Int → Int} {N : Int} (I : rInv N S) {k : Int} (hk : 0 ≤ k ∧ k < 3) (ht : rTk S k) : zRet Γ l (d + 2) qX0_loosen [.ref (za Γ g 0), .int (zi k)] (zcar μ g S) none (zcar μ g (rM2 S k)) := by
  refine zRet.mk 1 [.ref (za Γ g 0), .int (zi k), .null] RX0 rfl (by decide +kernel) (Nat.le_of_ble_eq_true rfl) rfl ?_
  intro p e s m below meth c C hr hlk
  have h0 := I.1
  have h1 := I.2.1
  have h2 := I.2.2.1
  have h3 := I.2.2.2.1
  have hs := I.2.2.2.2.1 k hk.1 hk.2
  have hc := I.2.2.2.2.2.1 (itS S k 4) (by omega) (by omega)
  refine zV_aload_n (i := 0) (n := 1) C dX0_loosen_0 rfl rfl rfl ?_
  refine zV_getP (f := 1) (n := 4) C zk0 fX0_19 dX0_loosen_1 (zs_car (by omega)) rfl (by decide) rfl ?_
  refine zV_aload_n (i := 0) (n := 5) C dX0_loosen_4 rfl rfl rfl ?_
  refine zV_getP (f := 0) (n := 8) C zk0 fX0_11 dX0_loosen_5 (zs_car (by omega)) rfl (by decide) rfl ?_
  refine zV_iload_n (i := 1) (n := 9) C dX0_loosen_8 rfl rfl rfl ?_
  refine zV_aald (n := 10) C dX0_loosen_9 (zs_carS (by omega)) (by first | omega | exact zb_rg) (by decide) (by decide) rfl ?_
  refine zV_getI (f := 4) (fi := 4) (n := 13) C zk3 fX0_75 dX0_loosen_10 (zs_seat (by omega) (by omega)) rfl (by decide) rfl rfl ?_
  rw [zc_seat (by omega) (by omega)]
  refine zV_aald (n := 14) C dX0_loosen_13 (zs_carC (by omega)) (by first | omega | exact zb_rg) (by decide) (by decide) rfl ?_
  refine zS_astore_n_3_2 (n := 15) C dX0_loosen_14 rfl rfl ?_
  refine zV_aload_n (i := 2) (n := 16) C dX0_loosen_15 rfl rfl rfl ?_
  refine zV_getI (f := 2) (fi := 2) (n := 19) C zk2 fX0_122 dX0_loosen_16 (zs_child (by omega) (by omega)) rfl (by decide) rfl rfl ?_
  rw [zc_kid (by omega) (by omega)]
  refine zV_iconst (n := 20) C dX0_loosen_19 rfl ?_
  refine zV_icmp_lt (n := 23) C 24 dX0_loosen_20 (by decide) (by first | omega | exact zb_rg) (by first | omega | exact zb_rg) rfl (fun h20 => ?_) (fun h20 => ?_)
  · skip
    refine zV_aload_n (i := 2) (n := 25) C dX0_loosen_24 rfl rfl rfl ?_
    refine zV_iconst (n := 26) C dX0_loosen_25 rfl ?_
    refine zV_aload_n (i := 2) (n := 27) C dX0_loosen_26 rfl rfl rfl ?_
    refine zV_getI (f := 5) (fi := 5) (n := 30) C zk2 fX0_94 dX0_loosen_27 (zs_child (by omega) (by omega)) rfl (by decide) rfl rfl ?_
    rw [zc_kid (by omega) (by omega)]
    refine zV_iconst (n := 31) C dX0_loosen_30 rfl ?_
    refine zV_isub (n := 32) C dX0_loosen_31 rfl ?_
    refine zV_mmax (n := 35) C lX0_81 dX0_loosen_32 (by first | omega | exact zb_rg) (by first | omega | exact zb_rg) (Nat.le_of_ble_eq_true rfl) (zfit_of (by omega) (by decide)) ⟨Nat.le_refl _, Nat.le_refl _⟩ rfl ?_
    refine zV_putI (f := 5) (fi := 5) (n := 38) C zk2 fX0_94 dX0_loosen_35 (zs_child (by omega) (by omega)) rfl (by decide) rfl rfl rfl rfl ?_
    rw [zcu_kid (by omega) (by omega)]
    have zm : zmax 0 (toS S (itS S k 4) 5 - 1) = if toS S (itS S k 4) 5 - 1 < 0 then 0 else toS S (itS S k 4) 5 - 1 := rfl
    have J1 : rInv N (zfu S (19 + 6 * itS S k 4 + 5) (zmax 0 (toS S (itS S k 4) 5 - 1))) := rInv_kid I (by omega) (by omega) (by rw [zm]; simp; split <;> omega)
    have c1 : (zfu S (19 + 6 * itS S k 4 + 5) (zmax 0 (toS S (itS S k 4) 5 - 1))) 0 = S 0 := zfu_ne (by omega)
    have w1 : itS (zfu S (19 + 6 * itS S k 4 + 5) (zmax 0 (toS S (itS S k 4) 5 - 1))) k 4 = itS S k 4 := itS_ne (by omega)
    refine zV_aload_n (i := 2) (n := 39) C dX0_loosen_38 rfl rfl rfl ?_
    refine zV_getI (f := 5) (fi := 5) (n := 42) C zk2 fX0_94 dX0_loosen_39 (zs_child (by omega) (by omega)) rfl (by decide) rfl rfl ?_
    rw [zc_kid (by omega) (by omega)]
    rw [toS_at]
    have zr : 0 ≤ zmax 0 (toS S (itS S k 4) 5 - 1) ∧ zmax 0 (toS S (itS S k 4) 5 - 1) ≤ 9 := by rw [zm]; split <;> omega
    refine zV_if_ne (n := 45) C 50 dX0_loosen_42 (by decide) (by first | omega | exact zb_rg) rfl (fun h42 => ?_) (fun h42 => ?_)
    · skip
      exact zV_return C hr hlk dX0_loosen_50 (by rfl) (by rw [rM2_cls ht hc.2.2.2.2.2.1 h20]; first | (rw [if_pos (show toS S (itS S k 4) 5 - 1 ≤ 0 from by rw [zm] at h42; revert h42; split <;> omega)]; done) | (rw [if_neg (show ¬ toS S (itS S k 4) 5 - 1 ≤ 0 from by rw [zm] at h42; revert h42; split <;> omega)]; done))
    · skip
      refine zV_aload_n (i := 0) (n := 46) C dX0_loosen_45 rfl rfl rfl ?_
      refine zV_iload_n (i := 1) (n := 47) C dX0_loosen_46 rfl rfl rfl ?_
      refine zV_callV1v (n := 50) C zk0 jX0_getOut lX0_138 (c_getOut (d := d) hg J1 (by omega) (by show (0 : Int) ≤ itS _ k 4; rw [w1]; exact ht)) dX0_loosen_47 (zs_car (by omega)) rfl (Nat.le_of_ble_eq_true rfl) (zfit_of (by omega) (by decide)) ⟨Nat.le_refl _, Nat.le_refl _⟩ rfl ?_
      exact zV_return C hr hlk dX0_loosen_50 (by rfl) (by rw [rM2_cls ht hc.2.2.2.2.2.1 h20]; first | (rw [if_pos (show toS S (itS S k 4) 5 - 1 ≤ 0 from by rw [zm] at h42; revert h42; split <;> omega)]; done) | (rw [if_neg (show ¬ toS S (itS S k 4) 5 - 1 ≤ 0 from by rw [zm] at h42; revert h42; split <;> omega)]; done))
  · skip
    exact zV_return C hr hlk dX0_loosen_23 (by rfl) (by exact congrArg (zcar μ g) (by unfold rM2; rw [if_neg (by omega)]))

set_option maxRecDepth 100000 in
set_option maxHeartbeats 4000000 in
theorem c_passMinute_a {Γ : zC} {l : Launch} {d : Nat} {p : Program} {e : Env} {s : State} {m : MethodId} {args : Array Value} {below : List Frame} {meth : Method} {c : Code} {Q : State → Prop} (C : zCx Γ (zAA Γ) p s m args c RX0 cX0_passMinute 3) {μ : zMem} {g : Nat} (hg : g < 4) {S : Int → Int} {N : Int} (J : rInv N S) (hN : N ≤ 20000) {k : Int} (hk : 0 ≤ k ∧ k < 3) {v2 : Value} (KK : ∀ v2 : Value, zV Γ (zAA Γ) p l e (zRm (d + 3)) s m args below meth c 0 0 Q 2 [.ref (za Γ g 0), .int (zi (k + 1)), v2] [] (zcar μ g (rM1 S k))) :
    zV Γ (zAA Γ) p l e (zRm (d + 3)) s m args below meth c 0 0 Q 2 [.ref (za Γ g 0), .int (zi k), v2] [] (zcar μ g S) := by
  have hs := J.2.2.2.2.1 k hk.1 hk.2
  have h0 := J.1
  have I := J
  refine zV_iload_n (i := 1) (n := 3) C dX0_passMinute_2 rfl rfl rfl ?_
  refine zV_iconst (n := 4) C dX0_passMinute_3 rfl ?_
  refine zV_icmp_ge (n := 7) C 62 dX0_passMinute_4 (by decide) (by first | omega | exact zb_rg) (by first | omega | exact zb_rg) rfl (fun h => by exfalso; first | omega | exact zb_rg) (fun h4 => ?_)
  refine zV_aload_n (i := 0) (n := 8) C dX0_passMinute_7 rfl rfl rfl ?_
  refine zV_aload_n (i := 0) (n := 9) C dX0_passMinute_8 rfl rfl rfl ?_
  refine zV_getP (f := 0) (n := 12) C zk0 fX0_11 dX0_passMinute_9 (zs_car (by omega)) rfl (by decide) rfl ?_
  refine zV_iload_n (i := 1) (n := 13) C dX0_passMinute_12 rfl rfl rfl ?_
  refine zV_aald (n := 14) C dX0_passMinute_13 (zs_carS (by omega)) (by first | omega | exact zb_rg) (by decide) (by decide) rfl ?_
  refine zV_getI (f := 4) (fi := 4) (n := 17) C zk3 fX0_75 dX0_passMinute_14 (zs_seat (by omega) (by omega)) rfl (by decide) rfl rfl ?_
  rw [zc_seat (by omega) (by omega)]
  refine zV_callV1u (n := 20) C zk0 jX0_has lX0_118 (c_has (d := d) hg I (by omega)) dX0_passMinute_17 (zs_car (by omega)) rfl (Nat.le_of_ble_eq_true rfl) (zfit_of (by omega) (by decide)) ⟨Nat.le_refl _, Nat.le_refl _⟩ rfl ?_
  refine zV_if_eq (n := 23) C 56 dX0_passMinute_20 (by decide) (by first | omega | exact zb_rg) rfl (fun h20 => ?_) (fun h20 => ?_)
  · skip
    simp only [zb_eq0, Decidable.not_not] at h20
    refine zS_iinc_3_1 (n := 59) C dX0_passMinute_56 rfl rfl ?_
    refine zV_goto C 2 dX0_passMinute_59 (by decide) ?_
    have K9 := KK v2
    rw [show rM1 S k = S from by unfold rM1; exact if_neg (by omega)] at K9
    exact K9
  · skip
    simp only [zb_eq0, Decidable.not_not] at h20
    have hc := J.2.2.2.2.2.1 (itS S k 4) (by omega) (by omega)
    have hf := rFr_rg S (itS S k 4)
    refine zV_aload_n (i := 0) (n := 24) C dX0_passMinute_23 rfl rfl rfl ?_
    refine zV_getP (f := 1) (n := 27) C zk0 fX0_19 dX0_passMinute_24 (zs_car (by omega)) rfl (by decide) rfl ?_
    refine zV_aload_n (i := 0) (n := 28) C dX0_passMinute_27 rfl rfl rfl ?_
    refine zV_getP (f := 0) (n := 31) C zk0 fX0_11 dX0_passMinute_28 (zs_car (by omega)) rfl (by decide) rfl ?_
    refine zV_iload_n (i := 1) (n := 32) C dX0_passMinute_31 rfl rfl rfl ?_
    refine zV_aald (n := 33) C dX0_passMinute_32 (zs_carS (by omega)) (by first | omega | exact zb_rg) (by decide) (by decide) rfl ?_
    refine zV_getI (f := 4) (fi := 4) (n := 36) C zk3 fX0_75 dX0_passMinute_33 (zs_seat (by omega) (by omega)) rfl (by decide) rfl rfl ?_
    rw [zc_seat (by omega) (by omega)]
    refine zV_aald (n := 37) C dX0_passMinute_36 (zs_carC (by omega)) (by first | omega | exact zb_rg) (by decide) (by decide) rfl ?_
    refine zS_astore_n_3_2 (n := 38) C dX0_passMinute_37 rfl rfl ?_
    refine zV_aload_n (i := 2) (n := 39) C dX0_passMinute_38 rfl rfl rfl ?_
    refine zV_iconst (n := 40) C dX0_passMinute_39 rfl ?_
    refine zV_aload_n (i := 2) (n := 41) C dX0_passMinute_40 rfl rfl rfl ?_
    refine zV_getI (f := 2) (fi := 2) (n := 44) C zk2 fX0_122 dX0_passMinute_41 (zs_child (by omega) (by omega)) rfl (by decide) rfl rfl ?_
    rw [zc_kid (by omega) (by omega)]
    refine zV_aload_n (i := 0) (n := 45) C dX0_passMinute_44 rfl rfl rfl ?_
    refine zV_aload_n (i := 2) (n := 46) C dX0_passMinute_45 rfl rfl rfl ?_
    refine zV_callV1u (n := 49) C zk0 jX0_fretsNow lX0_131 (c_fretsNow (d := d) hg I (by omega) (by omega)) dX0_passMinute_46 (zs_car (by omega)) rfl (Nat.le_of_ble_eq_true rfl) (zfit_of (by omega) (by decide)) ⟨Nat.le_refl _, Nat.le_refl _⟩ rfl ?_
    refine zV_isub (n := 50) C dX0_passMinute_49 rfl ?_
    refine zV_mmax (n := 53) C lX0_81 dX0_passMinute_50 (by first | omega | exact zb_rg) (by first | omega | exact zb_rg) (Nat.le_of_ble_eq_true rfl) (zfit_of (by omega) (by decide)) ⟨Nat.le_refl _, Nat.le_refl _⟩ rfl ?_
    refine zV_putI (f := 2) (fi := 2) (n := 56) C zk2 fX0_122 dX0_passMinute_53 (zs_child (by omega) (by omega)) rfl (by decide) rfl rfl rfl rfl ?_
    rw [zcu_kid (by omega) (by omega)]
    refine zS_iinc_3_1 (n := 59) C dX0_passMinute_56 rfl rfl ?_
    refine zV_goto C 2 dX0_passMinute_59 (by decide) ?_
    have K9 := KK (.ref (za Γ g (6 + itS S k 4)))
    rw [show rM1 S k = zfu S (19 + 6 * itS S k 4 + 2) (zmax 0 (toS S (itS S k 4) 2 - rFr S (itS S k 4))) from by unfold rM1; exact if_pos (by omega)] at K9
    exact K9

set_option maxRecDepth 100000 in
set_option maxHeartbeats 4000000 in
theorem c_passMinute_b {Γ : zC} {l : Launch} {d : Nat} {p : Program} {e : Env} {s : State} {m : MethodId} {args : Array Value} {below : List Frame} {meth : Method} {c : Code} {Q : State → Prop} (C : zCx Γ (zAA Γ) p s m args c RX0 cX0_passMinute 3) {μ : zMem} {g : Nat} (hg : g < 4) {S : Int → Int} {N : Int} (J : rInv N S) (hN : N ≤ 20000) {k : Int} (hk : 0 ≤ k ∧ k < 3) {v2 : Value} (KK : zV Γ (zAA Γ) p l e (zRm (d + 3)) s m args below meth c 0 0 Q 64 [.ref (za Γ g 0), .int (zi (k + 1)), v2] [] (zcar μ g (rM2 S k))) :
    zV Γ (zAA Γ) p l e (zRm (d + 3)) s m args below meth c 0 0 Q 64 [.ref (za Γ g 0), .int (zi k), v2] [] (zcar μ g S) := by
  have hs := J.2.2.2.2.1 k hk.1 hk.2
  have h0 := J.1
  have I := J
  refine zV_iload_n (i := 1) (n := 65) C dX0_passMinute_64 rfl rfl rfl ?_
  refine zV_iconst (n := 66) C dX0_passMinute_65 rfl ?_
  refine zV_icmp_ge (n := 69) C 96 dX0_passMinute_66 (by decide) (by first | omega | exact zb_rg) (by first | omega | exact zb_rg) rfl (fun h => by exfalso; first | omega | exact zb_rg) (fun h66 => ?_)
  refine zV_aload_n (i := 0) (n := 70) C dX0_passMinute_69 rfl rfl rfl ?_
  refine zV_aload_n (i := 0) (n := 71) C dX0_passMinute_70 rfl rfl rfl ?_
  refine zV_getP (f := 0) (n := 74) C zk0 fX0_11 dX0_passMinute_71 (zs_car (by omega)) rfl (by decide) rfl ?_
  refine zV_iload_n (i := 1) (n := 75) C dX0_passMinute_74 rfl rfl rfl ?_
  refine zV_aald (n := 76) C dX0_passMinute_75 (zs_carS (by omega)) (by first | omega | exact zb_rg) (by decide) (by decide) rfl ?_
  refine zV_getI (f := 4) (fi := 4) (n := 79) C zk3 fX0_75 dX0_passMinute_76 (zs_seat (by omega) (by omega)) rfl (by decide) rfl rfl ?_
  rw [zc_seat (by omega) (by omega)]
  refine zV_callV1u (n := 82) C zk0 jX0_has lX0_118 (c_has (d := d) hg I (by omega)) dX0_passMinute_79 (zs_car (by omega)) rfl (Nat.le_of_ble_eq_true rfl) (zfit_of (by omega) (by decide)) ⟨Nat.le_refl _, Nat.le_refl _⟩ rfl ?_
  refine zV_if_eq (n := 85) C 90 dX0_passMinute_82 (by decide) (by first | omega | exact zb_rg) rfl (fun h82 => ?_) (fun h82 => ?_)
  · skip
    simp only [zb_eq0, Decidable.not_not] at h82
    refine zS_iinc_3_1 (n := 93) C dX0_passMinute_90 rfl rfl ?_
    refine zV_goto C 64 dX0_passMinute_93 (by decide) ?_
    rw [show rM2 S k = S from by unfold rM2; exact if_neg (by omega)] at KK
    exact KK
  · skip
    simp only [zb_eq0, Decidable.not_not] at h82
    refine zV_aload_n (i := 0) (n := 86) C dX0_passMinute_85 rfl rfl rfl ?_
    refine zV_iload_n (i := 1) (n := 87) C dX0_passMinute_86 rfl rfl rfl ?_
    refine zV_callV1v (n := 90) C zk0 jX0_loosen lX0_135 (c_loosen (d := d) hg I (by omega) (by omega)) dX0_passMinute_87 (zs_car (by omega)) rfl (Nat.le_of_ble_eq_true rfl) (zfit_of (by omega) (by decide)) ⟨Nat.le_refl _, Nat.le_refl _⟩ rfl ?_
    refine zS_iinc_3_1 (n := 93) C dX0_passMinute_90 rfl rfl ?_
    refine zV_goto C 64 dX0_passMinute_93 (by decide) ?_
    exact KK

set_option maxRecDepth 100000 in
set_option maxHeartbeats 4000000 in
theorem c_passMinute {Γ : zC} {l : Launch} {d : Nat} {μ : zMem} {g : Nat} (hg : g < 4) {S : Int → Int} {N : Int} (I : rInv N S) (hN : N ≤ 20000)  : zRet Γ l (d + 3) qX0_passMinute [.ref (za Γ g 0)] (zcar μ g S) none (zcar μ g (rMin S)) := by
  refine zRet.mk 2 [.ref (za Γ g 0), .null, .null] RX0 rfl (by decide +kernel) (Nat.le_of_ble_eq_true rfl) rfl ?_
  intro p e s m below meth c C hr hlk
  have J3 := rM1_inv (rM1_inv (rM1_inv I (k := 0) (by omega)) (k := 1) (by omega)) (k := 2) (by omega)
  refine zV_iconst (n := 1) C dX0_passMinute_0 rfl ?_
  refine zS_istore_n_3_1 (n := 2) C dX0_passMinute_1 rfl rfl ?_
  refine c_passMinute_a C hg I hN (by omega) (fun v2 => ?_)
  refine c_passMinute_a C hg (rM1_inv I (by omega)) hN (by omega) (fun v2 => ?_)
  refine c_passMinute_a C hg (rM1_inv (rM1_inv I (by omega)) (by omega)) hN (by omega) (fun v2 => ?_)
  refine zV_iload_n (i := 1) (n := 3) C dX0_passMinute_2 rfl rfl rfl ?_
  refine zV_iconst (n := 4) C dX0_passMinute_3 rfl ?_
  refine zV_icmp_ge (n := 7) C 62 dX0_passMinute_4 (by decide) (by omega) (by omega) rfl (fun h => ?_) (fun h => by exfalso; omega)
  refine zV_iconst (n := 63) C dX0_passMinute_62 rfl ?_
  refine zS_istore_n_3_1 (n := 64) C dX0_passMinute_63 rfl rfl ?_
  refine c_passMinute_b C hg J3 hN (by omega) ?_
  refine c_passMinute_b C hg (rM2_inv J3 (by omega)) hN (by omega) ?_
  refine c_passMinute_b C hg (rM2_inv (rM2_inv J3 (by omega)) (by omega)) hN (by omega) ?_
  refine zV_iload_n (i := 1) (n := 65) C dX0_passMinute_64 rfl rfl rfl ?_
  refine zV_iconst (n := 66) C dX0_passMinute_65 rfl ?_
  refine zV_icmp_ge (n := 69) C 96 dX0_passMinute_66 (by decide) (by omega) (by omega) rfl (fun h => ?_) (fun h => by exfalso; omega)
  refine zV_aload_n (i := 0) (n := 97) C dX0_passMinute_96 rfl rfl rfl ?_
  refine zV_dup (n := 98) C dX0_passMinute_97 rfl rfl ?_
  refine zV_getI (f := 4) (fi := 4) (n := 101) C zk0 fX0_30 dX0_passMinute_98 (zs_car (by omega)) rfl (by decide) rfl rfl ?_
  rw [zc_min]
  refine zV_iconst (n := 102) C dX0_passMinute_101 rfl ?_
  refine zV_iadd (n := 103) C dX0_passMinute_102 rfl ?_
  refine zV_putI (f := 4) (fi := 4) (n := 106) C zk0 fX0_30 dX0_passMinute_103 (zs_car (by omega)) rfl (by decide) rfl rfl rfl rfl ?_
  rw [zcu_head (i := 1) (by omega)]
  exact zV_return C hr hlk dX0_passMinute_106 (by rfl) (by rfl)

set_option maxRecDepth 100000 in
set_option maxHeartbeats 4000000 in
theorem c_passMinutes_loop {Γ : zC} {l : Launch} {d : Nat} {p : Program} {e : Env} {s : State} {m : MethodId} {args : Array Value} {below : List Frame} {meth : Method} {c : Code} {Q : State → Prop} (C : zCx Γ (zAA Γ) p s m args c RX0 cX0_passMinutes 3) {μ : zMem} {g : Nat} (hg : g < 4) {n : Int} (hn : n ≤ 1000) :
    ∀ (i : Nat) (k N : Int) (S : Int → Int) (J : rInv N S) (hN : N + i ≤ 20000) (h0 : 0 ≤ k) (hi : k + i = n) (KK : zV Γ (zAA Γ) p l e (zRm (d + 4)) s m args below meth c 0 0 Q 17 [.ref (za Γ g 0), .int (zi n), .int (zi n)] [] (zcar μ g (rGo i S))), zV Γ (zAA Γ) p l e (zRm (d + 4)) s m args below meth c 0 0 Q 2 [.ref (za Γ g 0), .int (zi n), .int (zi k)] [] (zcar μ g S) := by
  intro i
  induction i with
  | zero =>
    intro k N S J hN h0 hi KK
    have hk : k = n := by omega
    subst hk
    refine zV_iload_n (i := 2) (n := 3) C dX0_passMinutes_2 rfl rfl rfl ?_
    refine zV_iload_n (i := 1) (n := 4) C dX0_passMinutes_3 rfl rfl rfl ?_
    refine zV_icmp_ge (n := 7) C 17 dX0_passMinutes_4 (by decide) (by first | omega | exact zb_rg) (by first | omega | exact zb_rg) rfl (fun h4 => ?_) (fun h => by exfalso; first | omega | exact zb_rg)
    exact KK
  | succ i ih =>
    intro k N S J hN h0 hi KK
    have I := J
    refine zV_iload_n (i := 2) (n := 3) C dX0_passMinutes_2 rfl rfl rfl ?_
    refine zV_iload_n (i := 1) (n := 4) C dX0_passMinutes_3 rfl rfl rfl ?_
    refine zV_icmp_ge (n := 7) C 17 dX0_passMinutes_4 (by decide) (by first | omega | exact zb_rg) (by first | omega | exact zb_rg) rfl (fun h => by exfalso; first | omega | exact zb_rg) (fun h4 => ?_)
    refine zV_aload_n (i := 0) (n := 8) C dX0_passMinutes_7 rfl rfl rfl ?_
    refine zV_callV0v (n := 11) C zk0 jX0_passMinute lX0_128 (c_passMinute (d := d) hg I (by omega)) dX0_passMinutes_8 (zs_car (by omega)) rfl (Nat.le_of_ble_eq_true rfl) (zfit_of (by omega) (by decide)) ⟨Nat.le_refl _, Nat.le_refl _⟩ rfl ?_
    refine zS_iinc_3_2 (n := 14) C dX0_passMinutes_11 rfl rfl ?_
    refine zV_goto C 2 dX0_passMinutes_14 (by decide) ?_
    exact ih (k + 1) (N + 1) (rMin S) (rMin_inv J) (by omega) (by omega) (by omega) KK

set_option maxRecDepth 100000 in
set_option maxHeartbeats 4000000 in
theorem c_passMinutes {Γ : zC} {l : Launch} {d : Nat} {μ : zMem} {g : Nat} (hg : g < 4) {S : Int → Int} {N : Int} (I : rInv N S) {n : Int} (hn : 0 ≤ n ∧ n ≤ 1000) (hN : N + n ≤ 20000) : zRet Γ l (d + 4) qX0_passMinutes [.ref (za Γ g 0), .int (zi n)] (zcar μ g S) none (zcar μ g (rGo n.toNat S)) := by
  refine zRet.mk 1 [.ref (za Γ g 0), .int (zi n), .null] RX0 rfl (by decide +kernel) (Nat.le_of_ble_eq_true rfl) rfl ?_
  intro p e s m below meth c C hr hlk
  refine zV_iconst (n := 1) C dX0_passMinutes_0 rfl ?_
  refine zS_istore_n_3_2 (n := 2) C dX0_passMinutes_1 rfl rfl ?_
  refine c_passMinutes_loop C hg (by omega) n.toNat 0 N S I (by omega) (by omega) (by omega) ?_
  exact zV_return C hr hlk dX0_passMinutes_17 rfl rfl

set_option maxRecDepth 100000 in
set_option maxHeartbeats 4000000 in
theorem c_sitting_step {Γ : zC} {l : Launch} {d : Nat} {p : Program} {e : Env} {s : State} {m : MethodId} {args : Array Value} {below : List Frame} {meth : Method} {c : Code} {Q : State → Prop} (C : zCx Γ (zAA Γ) p s m args c RX0 cX0_sitting 3) {μ : zMem} {g : Nat} (hg : g < 4) {S : Int → Int} {N : Int} (I : rInv N S) {a : Int32} {k : Int} (hk : 0 ≤ k ∧ k < 3) (KK : zV Γ (zAA Γ) p l e (zRm (d + 1)) s m args below meth c 0 0 Q 4 [.ref (za Γ g 0), .int (a ||| rbit (itS S k 4)), .int (zi (k + 1))] [] (zcar μ g S)) :
    zV Γ (zAA Γ) p l e (zRm (d + 1)) s m args below meth c 0 0 Q 4 [.ref (za Γ g 0), .int a, .int (zi k)] [] (zcar μ g S) := by
  have hs := I.2.2.2.2.1 k hk.1 hk.2
  have h0 := I.1
  refine zV_iload_n (i := 2) (n := 5) C dX0_sitting_4 rfl rfl rfl ?_
  refine zV_iconst (n := 6) C dX0_sitting_5 rfl ?_
  refine zV_icmp_ge (n := 9) C 41 dX0_sitting_6 (by decide) (by first | omega | exact zb_rg) (by first | omega | exact zb_rg) rfl (fun h => by exfalso; first | omega | exact zb_rg) (fun h6 => ?_)
  refine zV_aload_n (i := 0) (n := 10) C dX0_sitting_9 rfl rfl rfl ?_
  refine zV_getP (f := 0) (n := 13) C zk0 fX0_11 dX0_sitting_10 (zs_car (by omega)) rfl (by decide) rfl ?_
  refine zV_iload_n (i := 2) (n := 14) C dX0_sitting_13 rfl rfl rfl ?_
  refine zV_aald (n := 15) C dX0_sitting_14 (zs_carS (by omega)) (by first | omega | exact zb_rg) (by decide) (by decide) rfl ?_
  refine zV_callV0u (n := 18) C zk3 jX4_isTaken lX0_141 (c_seat_isTaken (d := d) hg I (by omega)) dX0_sitting_15 (zs_seat (by omega) (by omega)) rfl (Nat.le_of_ble_eq_true rfl) (zfit_of (by omega) (by decide)) ⟨Nat.le_refl _, Nat.le_refl _⟩ rfl ?_
  refine zV_if_eq (n := 21) C 35 dX0_sitting_18 (by decide) (by first | omega | exact zb_rg) rfl (fun h18 => ?_) (fun h18 => ?_)
  · skip
    simp only [zb_eq0, Decidable.not_not] at h18
    refine zS_iinc_3_2 (n := 38) C dX0_sitting_35 rfl rfl ?_
    refine zV_goto C 4 dX0_sitting_38 (by decide) ?_
    rw [show rbit (itS S k 4) = zi 0 from by unfold rbit; exact if_neg (by omega), or_zi0] at KK
    exact KK
  · skip
    simp only [zb_eq0, Decidable.not_not] at h18
    refine zV_iload_n (i := 1) (n := 22) C dX0_sitting_21 rfl rfl rfl ?_
    refine zV_iconst (n := 23) C dX0_sitting_22 rfl ?_
    refine zV_aload_n (i := 0) (n := 24) C dX0_sitting_23 rfl rfl rfl ?_
    refine zV_getP (f := 0) (n := 27) C zk0 fX0_11 dX0_sitting_24 (zs_car (by omega)) rfl (by decide) rfl ?_
    refine zV_iload_n (i := 2) (n := 28) C dX0_sitting_27 rfl rfl rfl ?_
    refine zV_aald (n := 29) C dX0_sitting_28 (zs_carS (by omega)) (by first | omega | exact zb_rg) (by decide) (by decide) rfl ?_
    refine zV_getI (f := 4) (fi := 4) (n := 32) C zk3 fX0_75 dX0_sitting_29 (zs_seat (by omega) (by omega)) rfl (by decide) rfl rfl ?_
    rw [zc_seat (by omega) (by omega)]
    refine zV_ishl0 (n := 33) C dX0_sitting_32 rfl ?_
    refine zV_ior0 (n := 34) C dX0_sitting_33 rfl ?_
    refine zS_istore_n_3_1 (n := 35) C dX0_sitting_34 rfl rfl ?_
    refine zS_iinc_3_2 (n := 38) C dX0_sitting_35 rfl rfl ?_
    refine zV_goto C 4 dX0_sitting_38 (by decide) ?_
    rw [show rbit (itS S k 4) = zi 1 <<< (zi (itS S k 4) &&& 31) from by unfold rbit; exact if_pos (by omega)] at KK
    exact KK

set_option maxRecDepth 100000 in
set_option maxHeartbeats 4000000 in
theorem c_sitting {Γ : zC} {l : Launch} {d : Nat} {μ : zMem} {g : Nat} (hg : g < 4) {S : Int → Int} {N : Int} (I : rInv N S)  : zRet Γ l (d + 1) qX0_sitting [.ref (za Γ g 0)] (zcar μ g S) (some (.int (zi (rSit S)))) (zcar μ g S) := by
  refine zRet.mk 2 [.ref (za Γ g 0), .null, .null] RX0 rfl (by decide +kernel) (Nat.le_of_ble_eq_true rfl) rfl ?_
  intro p e s m below meth c C hr hlk
  refine zV_iconst (n := 1) C dX0_sitting_0 rfl ?_
  refine zS_istore_n_3_1 (n := 2) C dX0_sitting_1 rfl rfl ?_
  refine zV_iconst (n := 3) C dX0_sitting_2 rfl ?_
  refine zS_istore_n_3_2 (n := 4) C dX0_sitting_3 rfl rfl ?_
  refine c_sitting_step C hg I (by omega) ?_
  refine c_sitting_step C hg I (by omega) ?_
  refine c_sitting_step C hg I (by omega) ?_
  refine zV_iload_n (i := 2) (n := 5) C dX0_sitting_4 rfl rfl rfl ?_
  refine zV_iconst (n := 6) C dX0_sitting_5 rfl ?_
  refine zV_icmp_ge (n := 9) C 41 dX0_sitting_6 (by decide) (by omega) (by omega) rfl (fun h => ?_) (fun h => by exfalso; omega)
  refine zV_iload_n (i := 1) (n := 42) C dX0_sitting_41 rfl rfl rfl ?_
  exact zV_ireturn C hr hlk dX0_sitting_42 (congrArg (fun z => some (Value.int z)) (zi_of _).symm) rfl

set_option maxRecDepth 100000 in
set_option maxHeartbeats 4000000 in
theorem c_moods_loop {Γ : zC} {l : Launch} {d : Nat} {p : Program} {e : Env} {s : State} {m : MethodId} {args : Array Value} {below : List Frame} {meth : Method} {c : Code} {Q : State → Prop} (C : zCx Γ (zAA Γ) p s m args c RX0 cX0_moods 3) {μ : zMem} {g : Nat} (hg : g < 4) {S : Int → Int} {N : Int} (I : rInv N S)  :
    ∀ (i : Nat) (k a : Int) (hk0 : 0 ≤ k) (hi : k + i = S 0) (KK : zV Γ (zAA Γ) p l e (zRm (d + 0)) s m args below meth c 0 0 Q 30 [.ref (za Γ g 0), .int (zi (rSumF S 2 i k a)), .int (zi (S 0))] [] (zcar μ g S)), zV Γ (zAA Γ) p l e (zRm (d + 0)) s m args below meth c 0 0 Q 4 [.ref (za Γ g 0), .int (zi a), .int (zi k)] [] (zcar μ g S) := by
  intro i
  induction i with
  | zero =>
    intro k a hk0 hi KK
    have hz := I.1
    have hk : k = S 0 := by omega
    subst hk
    refine zV_iload_n (i := 2) (n := 5) C dX0_moods_4 rfl rfl rfl ?_
    refine zV_aload_n (i := 0) (n := 6) C dX0_moods_5 rfl rfl rfl ?_
    refine zV_getI (f := 2) (fi := 2) (n := 9) C zk0 fX0_23 dX0_moods_6 (zs_car (by omega)) rfl (by decide) rfl rfl ?_
    rw [zc_cnt]
    refine zV_icmp_ge (n := 12) C 30 dX0_moods_9 (by decide) (by first | omega | exact zb_rg) (by first | omega | exact zb_rg) rfl (fun h9 => ?_) (fun h => by exfalso; first | omega | exact zb_rg)
    exact KK
  | succ i ih =>
    intro k a hk0 hi KK
    have hz := I.1
    refine zV_iload_n (i := 2) (n := 5) C dX0_moods_4 rfl rfl rfl ?_
    refine zV_aload_n (i := 0) (n := 6) C dX0_moods_5 rfl rfl rfl ?_
    refine zV_getI (f := 2) (fi := 2) (n := 9) C zk0 fX0_23 dX0_moods_6 (zs_car (by omega)) rfl (by decide) rfl rfl ?_
    rw [zc_cnt]
    refine zV_icmp_ge (n := 12) C 30 dX0_moods_9 (by decide) (by first | omega | exact zb_rg) (by first | omega | exact zb_rg) rfl (fun h => by exfalso; first | omega | exact zb_rg) (fun h9 => ?_)
    refine zV_iload_n (i := 1) (n := 13) C dX0_moods_12 rfl rfl rfl ?_
    refine zV_aload_n (i := 0) (n := 14) C dX0_moods_13 rfl rfl rfl ?_
    refine zV_getP (f := 1) (n := 17) C zk0 fX0_19 dX0_moods_14 (zs_car (by omega)) rfl (by decide) rfl ?_
    refine zV_iload_n (i := 2) (n := 18) C dX0_moods_17 rfl rfl rfl ?_
    refine zV_aald (n := 19) C dX0_moods_18 (zs_carC (by omega)) (by first | omega | exact zb_rg) (by decide) (by decide) rfl ?_
    refine zV_getI (f := 2) (fi := 2) (n := 22) C zk2 fX0_122 dX0_moods_19 (zs_child (by omega) (by omega)) rfl (by decide) rfl rfl ?_
    rw [zc_kid (by omega) (by omega)]
    refine zV_iadd (n := 23) C dX0_moods_22 rfl ?_
    refine zS_istore_n_3_1 (n := 24) C dX0_moods_23 rfl rfl ?_
    refine zS_iinc_3_2 (n := 27) C dX0_moods_24 rfl rfl ?_
    refine zV_goto C 4 dX0_moods_27 (by decide) ?_
    exact ih (k + 1) (a + toS S k 2) (by omega) (by omega) KK

set_option maxRecDepth 100000 in
set_option maxHeartbeats 4000000 in
theorem c_moods {Γ : zC} {l : Launch} {d : Nat} {μ : zMem} {g : Nat} (hg : g < 4) {S : Int → Int} {N : Int} (I : rInv N S)  : zRet Γ l (d + 0) qX0_moods [.ref (za Γ g 0)] (zcar μ g S) (some (.int (zi (rSumF S 2 (S 0).toNat 0 0)))) (zcar μ g S) := by
  refine zRet.mk 2 [.ref (za Γ g 0), .null, .null] RX0 rfl (by decide +kernel) (Nat.le_of_ble_eq_true rfl) rfl ?_
  intro p e s m below meth c C hr hlk
  refine zV_iconst (n := 1) C dX0_moods_0 rfl ?_
  refine zS_istore_n_3_1 (n := 2) C dX0_moods_1 rfl rfl ?_
  refine zV_iconst (n := 3) C dX0_moods_2 rfl ?_
  refine zS_istore_n_3_2 (n := 4) C dX0_moods_3 rfl rfl ?_
  have hz := I.1
  refine c_moods_loop C hg I (S 0).toNat 0 0 (by omega) (by omega) ?_
  refine zV_iload_n (i := 1) (n := 31) C dX0_moods_30 rfl rfl rfl ?_
  exact zV_ireturn C hr hlk dX0_moods_31 rfl rfl

set_option maxRecDepth 100000 in
set_option maxHeartbeats 4000000 in
theorem c_tights_loop {Γ : zC} {l : Launch} {d : Nat} {p : Program} {e : Env} {s : State} {m : MethodId} {args : Array Value} {below : List Frame} {meth : Method} {c : Code} {Q : State → Prop} (C : zCx Γ (zAA Γ) p s m args c RX0 cX0_tights 3) {μ : zMem} {g : Nat} (hg : g < 4) {S : Int → Int} {N : Int} (I : rInv N S)  :
    ∀ (i : Nat) (k a : Int) (hk0 : 0 ≤ k) (hi : k + i = S 0) (KK : zV Γ (zAA Γ) p l e (zRm (d + 0)) s m args below meth c 0 0 Q 30 [.ref (za Γ g 0), .int (zi (rSumF S 5 i k a)), .int (zi (S 0))] [] (zcar μ g S)), zV Γ (zAA Γ) p l e (zRm (d + 0)) s m args below meth c 0 0 Q 4 [.ref (za Γ g 0), .int (zi a), .int (zi k)] [] (zcar μ g S) := by
  intro i
  induction i with
  | zero =>
    intro k a hk0 hi KK
    have hz := I.1
    have hk : k = S 0 := by omega
    subst hk
    refine zV_iload_n (i := 2) (n := 5) C dX0_tights_4 rfl rfl rfl ?_
    refine zV_aload_n (i := 0) (n := 6) C dX0_tights_5 rfl rfl rfl ?_
    refine zV_getI (f := 2) (fi := 2) (n := 9) C zk0 fX0_23 dX0_tights_6 (zs_car (by omega)) rfl (by decide) rfl rfl ?_
    rw [zc_cnt]
    refine zV_icmp_ge (n := 12) C 30 dX0_tights_9 (by decide) (by first | omega | exact zb_rg) (by first | omega | exact zb_rg) rfl (fun h9 => ?_) (fun h => by exfalso; first | omega | exact zb_rg)
    exact KK
  | succ i ih =>
    intro k a hk0 hi KK
    have hz := I.1
    refine zV_iload_n (i := 2) (n := 5) C dX0_tights_4 rfl rfl rfl ?_
    refine zV_aload_n (i := 0) (n := 6) C dX0_tights_5 rfl rfl rfl ?_
    refine zV_getI (f := 2) (fi := 2) (n := 9) C zk0 fX0_23 dX0_tights_6 (zs_car (by omega)) rfl (by decide) rfl rfl ?_
    rw [zc_cnt]
    refine zV_icmp_ge (n := 12) C 30 dX0_tights_9 (by decide) (by first | omega | exact zb_rg) (by first | omega | exact zb_rg) rfl (fun h => by exfalso; first | omega | exact zb_rg) (fun h9 => ?_)
    refine zV_iload_n (i := 1) (n := 13) C dX0_tights_12 rfl rfl rfl ?_
    refine zV_aload_n (i := 0) (n := 14) C dX0_tights_13 rfl rfl rfl ?_
    refine zV_getP (f := 1) (n := 17) C zk0 fX0_19 dX0_tights_14 (zs_car (by omega)) rfl (by decide) rfl ?_
    refine zV_iload_n (i := 2) (n := 18) C dX0_tights_17 rfl rfl rfl ?_
    refine zV_aald (n := 19) C dX0_tights_18 (zs_carC (by omega)) (by first | omega | exact zb_rg) (by decide) (by decide) rfl ?_
    refine zV_getI (f := 5) (fi := 5) (n := 22) C zk2 fX0_94 dX0_tights_19 (zs_child (by omega) (by omega)) rfl (by decide) rfl rfl ?_
    rw [zc_kid (by omega) (by omega)]
    refine zV_iadd (n := 23) C dX0_tights_22 rfl ?_
    refine zS_istore_n_3_1 (n := 24) C dX0_tights_23 rfl rfl ?_
    refine zS_iinc_3_2 (n := 27) C dX0_tights_24 rfl rfl ?_
    refine zV_goto C 4 dX0_tights_27 (by decide) ?_
    exact ih (k + 1) (a + toS S k 5) (by omega) (by omega) KK

set_option maxRecDepth 100000 in
set_option maxHeartbeats 4000000 in
theorem c_tights {Γ : zC} {l : Launch} {d : Nat} {μ : zMem} {g : Nat} (hg : g < 4) {S : Int → Int} {N : Int} (I : rInv N S)  : zRet Γ l (d + 0) qX0_tights [.ref (za Γ g 0)] (zcar μ g S) (some (.int (zi (rSumF S 5 (S 0).toNat 0 0)))) (zcar μ g S) := by
  refine zRet.mk 2 [.ref (za Γ g 0), .null, .null] RX0 rfl (by decide +kernel) (Nat.le_of_ble_eq_true rfl) rfl ?_
  intro p e s m below meth c C hr hlk
  refine zV_iconst (n := 1) C dX0_tights_0 rfl ?_
  refine zS_istore_n_3_1 (n := 2) C dX0_tights_1 rfl rfl ?_
  refine zV_iconst (n := 3) C dX0_tights_2 rfl ?_
  refine zS_istore_n_3_2 (n := 4) C dX0_tights_3 rfl rfl ?_
  have hz := I.1
  refine c_tights_loop C hg I (S 0).toNat 0 0 (by omega) (by omega) ?_
  refine zV_iload_n (i := 1) (n := 31) C dX0_tights_30 rfl rfl rfl ?_
  exact zV_ireturn C hr hlk dX0_tights_31 rfl rfl

set_option maxRecDepth 100000 in
set_option maxHeartbeats 4000000 in
theorem c_wears_step {Γ : zC} {l : Launch} {d : Nat} {p : Program} {e : Env} {s : State} {m : MethodId} {args : Array Value} {below : List Frame} {meth : Method} {c : Code} {Q : State → Prop} (C : zCx Γ (zAA Γ) p s m args c RX0 cX0_wears 3) {μ : zMem} {g : Nat} (hg : g < 4) {S : Int → Int} {a : Int} {k : Int} (hk : 0 ≤ k ∧ k < 3) (KK : zV Γ (zAA Γ) p l e (zRm (d + 0)) s m args below meth c 0 0 Q 4 [.ref (za Γ g 0), .int (zi (a + itS S k 3)), .int (zi (k + 1))] [] (zcar μ g S)) :
    zV Γ (zAA Γ) p l e (zRm (d + 0)) s m args below meth c 0 0 Q 4 [.ref (za Γ g 0), .int (zi a), .int (zi k)] [] (zcar μ g S) := by
  refine zV_iload_n (i := 2) (n := 5) C dX0_wears_4 rfl rfl rfl ?_
  refine zV_iconst (n := 6) C dX0_wears_5 rfl ?_
  refine zV_icmp_ge (n := 9) C 27 dX0_wears_6 (by decide) (by first | omega | exact zb_rg) (by first | omega | exact zb_rg) rfl (fun h => by exfalso; first | omega | exact zb_rg) (fun h6 => ?_)
  refine zV_iload_n (i := 1) (n := 10) C dX0_wears_9 rfl rfl rfl ?_
  refine zV_aload_n (i := 0) (n := 11) C dX0_wears_10 rfl rfl rfl ?_
  refine zV_getP (f := 0) (n := 14) C zk0 fX0_11 dX0_wears_11 (zs_car (by omega)) rfl (by decide) rfl ?_
  refine zV_iload_n (i := 2) (n := 15) C dX0_wears_14 rfl rfl rfl ?_
  refine zV_aald (n := 16) C dX0_wears_15 (zs_carS (by omega)) (by first | omega | exact zb_rg) (by decide) (by decide) rfl ?_
  refine zV_getI (f := 3) (fi := 3) (n := 19) C zk3 fX0_108 dX0_wears_16 (zs_seat (by omega) (by omega)) rfl (by decide) rfl rfl ?_
  rw [zc_seat (by omega) (by omega)]
  refine zV_iadd (n := 20) C dX0_wears_19 rfl ?_
  refine zS_istore_n_3_1 (n := 21) C dX0_wears_20 rfl rfl ?_
  refine zS_iinc_3_2 (n := 24) C dX0_wears_21 rfl rfl ?_
  refine zV_goto C 4 dX0_wears_24 (by decide) ?_
  exact KK

set_option maxRecDepth 100000 in
set_option maxHeartbeats 4000000 in
theorem c_wears {Γ : zC} {l : Launch} {d : Nat} {μ : zMem} {g : Nat} (hg : g < 4) {S : Int → Int}  : zRet Γ l (d + 0) qX0_wears [.ref (za Γ g 0)] (zcar μ g S) (some (.int (zi (rWears S)))) (zcar μ g S) := by
  refine zRet.mk 2 [.ref (za Γ g 0), .null, .null] RX0 rfl (by decide +kernel) (Nat.le_of_ble_eq_true rfl) rfl ?_
  intro p e s m below meth c C hr hlk
  refine zV_iconst (n := 1) C dX0_wears_0 rfl ?_
  refine zS_istore_n_3_1 (n := 2) C dX0_wears_1 rfl rfl ?_
  refine zV_iconst (n := 3) C dX0_wears_2 rfl ?_
  refine zS_istore_n_3_2 (n := 4) C dX0_wears_3 rfl rfl ?_
  refine c_wears_step C hg (by omega) ?_
  refine c_wears_step C hg (by omega) ?_
  refine c_wears_step C hg (by omega) ?_
  refine zV_iload_n (i := 2) (n := 5) C dX0_wears_4 rfl rfl rfl ?_
  refine zV_iconst (n := 6) C dX0_wears_5 rfl ?_
  refine zV_icmp_ge (n := 9) C 27 dX0_wears_6 (by decide) (by omega) (by omega) rfl (fun h => ?_) (fun h => by exfalso; omega)
  refine zV_iload_n (i := 1) (n := 28) C dX0_wears_27 rfl rfl rfl ?_
  exact zV_ireturn C hr hlk dX0_wears_28 (congrArg (fun z => some (Value.int (zi z))) (by unfold rWears; rw [Int.zero_add]; rfl)) rfl

set_option maxRecDepth 100000 in
set_option maxHeartbeats 4000000 in
theorem c_quickestSeat_step {Γ : zC} {l : Launch} {d : Nat} {p : Program} {e : Env} {s : State} {m : MethodId} {args : Array Value} {below : List Frame} {meth : Method} {c : Code} {Q : State → Prop} (C : zCx Γ (zAA Γ) p s m args c RX0 cX0_quickestSeat 6) {μ : zMem} {g : Nat} (hg : g < 4) {S : Int → Int} {N : Int} (I : rInv N S) {x : Int} (hx : 0 ≤ x ∧ x < S 0) {k : Int} (hk : 0 ≤ k ∧ k < 3) {b w : Int} {v5 : Value} (hb : -1 ≤ b ∧ b < 3) (hw : (b = -1 ∨ (0 ≤ b ∧ w = rSec S x b))) (KK : ∀ (w : Int) (v5 : Value), ((rQ S x k b) = -1 ∨ (0 ≤ (rQ S x k b) ∧ w = rSec S x (rQ S x k b))) → zV Γ (zAA Γ) p l e (zRm (d + 3)) s m args below meth c 0 0 Q 7 [.ref (za Γ g 0), .int (zi x), .int (zi (rQ S x k b)), .int (zi w), .int (zi (k + 1)), v5] [] (zcar μ g S)) :
    zV Γ (zAA Γ) p l e (zRm (d + 3)) s m args below meth c 0 0 Q 7 [.ref (za Γ g 0), .int (zi x), .int (zi b), .int (zi w), .int (zi k), v5] [] (zcar μ g S) := by
  have h0 := I.1
  have h1 := I.2.1
  have h2 := I.2.2.1
  have h3 := I.2.2.2.1
  have hs := I.2.2.2.2.1 k hk.1 hk.2
  have r1 := rSec_rg I (k := k) (x := x) (by omega) hk
  refine zV_iload (n := 9) C dX0_quickestSeat_7 rfl rfl ?_
  refine zV_iconst (n := 10) C dX0_quickestSeat_9 rfl ?_
  refine zV_icmp_ge (n := 13) C 58 dX0_quickestSeat_10 (by decide) (by first | omega | exact zb_rg) (by first | omega | exact zb_rg) rfl (fun h => by exfalso; first | omega | exact zb_rg) (fun h10 => ?_)
  refine zV_aload_n (i := 0) (n := 14) C dX0_quickestSeat_13 rfl rfl rfl ?_
  refine zV_iload_n (i := 1) (n := 15) C dX0_quickestSeat_14 rfl rfl rfl ?_
  refine zV_iload (n := 17) C dX0_quickestSeat_15 rfl rfl ?_
  refine zV_callV2u (n := 20) C zk0 jX0_secondsFor lX0_144 (c_secondsFor (d := d) hg I (by omega) (by omega)) dX0_quickestSeat_17 (zs_car (by omega)) rfl (Nat.le_of_ble_eq_true rfl) (zfit_of (by omega) (by decide)) ⟨Nat.le_refl _, Nat.le_refl _⟩ rfl ?_
  refine zS_istore_6_5 (n := 22) C dX0_quickestSeat_20 rfl rfl ?_
  refine zV_aload_n (i := 0) (n := 23) C dX0_quickestSeat_22 rfl rfl rfl ?_
  refine zV_getP (f := 0) (n := 26) C zk0 fX0_11 dX0_quickestSeat_23 (zs_car (by omega)) rfl (by decide) rfl ?_
  refine zV_iload (n := 28) C dX0_quickestSeat_26 rfl rfl ?_
  refine zV_aald (n := 29) C dX0_quickestSeat_28 (zs_carS (by omega)) (by first | omega | exact zb_rg) (by decide) (by decide) rfl ?_
  refine zV_callV0u (n := 32) C zk3 jX4_isTaken lX0_141 (c_seat_isTaken (d := d) hg I (by omega)) dX0_quickestSeat_29 (zs_seat (by omega) (by omega)) rfl (Nat.le_of_ble_eq_true rfl) (zfit_of (by omega) (by decide)) ⟨Nat.le_refl _, Nat.le_refl _⟩ rfl ?_
  refine zV_if_ne (n := 35) C 52 dX0_quickestSeat_32 (by decide) (by first | omega | exact zb_rg) rfl (fun h32 => ?_) (fun h32 => ?_)
  · skip
    simp only [zb_eq0, Decidable.not_not] at h32
    refine zS_iinc_6_4 (n := 55) C dX0_quickestSeat_52 rfl rfl ?_
    refine zV_goto C 7 dX0_quickestSeat_55 (by decide) ?_
    have K9 := KK w (.int (zi (rSec S x k))) (by rw [show rQ S x k b = b from by unfold rQ; exact if_neg (by omega)]; exact hw)
    rw [show rQ S x k b = b from by unfold rQ; exact if_neg (by omega)] at K9
    exact K9
  · skip
    simp only [zb_eq0, Decidable.not_not] at h32
    refine zV_iload_n (i := 2) (n := 36) C dX0_quickestSeat_35 rfl rfl rfl ?_
    refine zV_iconst (n := 37) C dX0_quickestSeat_36 rfl ?_
    refine zV_icmp_eq (n := 40) C 46 dX0_quickestSeat_37 (by decide) (by first | omega | exact zb_rg) (by first | omega | exact zb_rg) rfl (fun h37 => ?_) (fun h37 => ?_)
    · skip
      refine zV_iload (n := 48) C dX0_quickestSeat_46 rfl rfl ?_
      refine zS_istore_n_6_2 (n := 49) C dX0_quickestSeat_48 rfl rfl ?_
      refine zV_iload (n := 51) C dX0_quickestSeat_49 rfl rfl ?_
      refine zS_istore_n_6_3 (n := 52) C dX0_quickestSeat_51 rfl rfl ?_
      refine zS_iinc_6_4 (n := 55) C dX0_quickestSeat_52 rfl rfl ?_
      refine zV_goto C 7 dX0_quickestSeat_55 (by decide) ?_
      have K9 := KK (rSec S x k) (.int (zi (rSec S x k))) (Or.inr ⟨by rw [show rQ S x k b = k from by unfold rQ; exact if_pos ⟨by omega, Or.inl (by omega)⟩]; omega, by rw [show rQ S x k b = k from by unfold rQ; exact if_pos ⟨by omega, Or.inl (by omega)⟩]⟩)
      rw [show rQ S x k b = k from by unfold rQ; exact if_pos ⟨by omega, Or.inl (by omega)⟩] at K9
      exact K9
    · skip
      have hb0 := hw.resolve_left h37
      have r2 := rSec_rg I (k := b) (x := x) (by omega) (by omega)
      refine zV_iload (n := 42) C dX0_quickestSeat_40 rfl rfl ?_
      refine zV_iload_n (i := 3) (n := 43) C dX0_quickestSeat_42 rfl rfl rfl ?_
      refine zV_icmp_ge (n := 46) C 52 dX0_quickestSeat_43 (by decide) (by first | omega | exact zb_rg) (by first | omega | exact zb_rg) rfl (fun h43 => ?_) (fun h43 => ?_)
      · skip
        refine zS_iinc_6_4 (n := 55) C dX0_quickestSeat_52 rfl rfl ?_
        refine zV_goto C 7 dX0_quickestSeat_55 (by decide) ?_
        have K9 := KK w (.int (zi (rSec S x k))) (by rw [show rQ S x k b = b from by unfold rQ; exact if_neg (by omega)]; exact hw)
        rw [show rQ S x k b = b from by unfold rQ; exact if_neg (by omega)] at K9
        exact K9
      · skip
        refine zV_iload (n := 48) C dX0_quickestSeat_46 rfl rfl ?_
        refine zS_istore_n_6_2 (n := 49) C dX0_quickestSeat_48 rfl rfl ?_
        refine zV_iload (n := 51) C dX0_quickestSeat_49 rfl rfl ?_
        refine zS_istore_n_6_3 (n := 52) C dX0_quickestSeat_51 rfl rfl ?_
        refine zS_iinc_6_4 (n := 55) C dX0_quickestSeat_52 rfl rfl ?_
        refine zV_goto C 7 dX0_quickestSeat_55 (by decide) ?_
        have K9 := KK (rSec S x k) (.int (zi (rSec S x k))) (Or.inr ⟨by rw [show rQ S x k b = k from by unfold rQ; exact if_pos ⟨by omega, Or.inr (by omega)⟩]; omega, by rw [show rQ S x k b = k from by unfold rQ; exact if_pos ⟨by omega, Or.inr (by omega)⟩]⟩)
        rw [show rQ S x k b = k from by unfold rQ; exact if_pos ⟨by omega, Or.inr (by omega)⟩] at K9
        exact K9

set_option maxRecDepth 100000 in
set_option maxHeartbeats 4000000 in
theorem c_quickestSeat {Γ : zC} {l : Launch} {d : Nat} {μ : zMem} {g : Nat} (hg : g < 4) {S : Int → Int} {N : Int} (I : rInv N S) {x : Int} (hx : 0 ≤ x ∧ x < S 0)  : zRet Γ l (d + 3) qX0_quickestSeat [.ref (za Γ g 0), .int (zi x)] (zcar μ g S) (some (.int (zi (rQuick S x)))) (zcar μ g S) := by
  refine zRet.mk 4 [.ref (za Γ g 0), .int (zi x), .null, .null, .null, .null] RX0 rfl (by decide +kernel) (Nat.le_of_ble_eq_true rfl) rfl ?_
  intro p e s m below meth c C hr hlk
  have h0 := I.1
  have h1 := I.2.1
  have h2 := I.2.2.1
  have h3 := I.2.2.2.1
  refine zV_iconst (n := 1) C dX0_quickestSeat_0 rfl ?_
  refine zS_istore_n_6_2 (n := 2) C dX0_quickestSeat_1 rfl rfl ?_
  refine zV_iconst (n := 3) C dX0_quickestSeat_2 rfl ?_
  refine zS_istore_n_6_3 (n := 4) C dX0_quickestSeat_3 rfl rfl ?_
  refine zV_iconst (n := 5) C dX0_quickestSeat_4 rfl ?_
  refine zS_istore_6_4 (n := 7) C dX0_quickestSeat_5 rfl rfl ?_
  have B1 := rQ_rg (S := S) (x := x) (k := 0) (b := -1) (by omega) (by omega)
  have B2 := rQ_rg (S := S) (x := x) (k := 1) (b := (rQ S x 0 (-1))) (by omega) B1
  refine c_quickestSeat_step C hg I hx (k := 0) (b := -1) (w := 0) (by omega) (by omega) (Or.inl rfl) (fun w1 v5 H1 => ?_)
  refine c_quickestSeat_step C hg I hx (k := 1) (by omega) B1 H1 (fun w2 v5 H2 => ?_)
  refine c_quickestSeat_step C hg I hx (k := 2) (by omega) B2 H2 (fun w3 v5 H3 => ?_)
  refine zV_iload (n := 9) C dX0_quickestSeat_7 rfl rfl ?_
  refine zV_iconst (n := 10) C dX0_quickestSeat_9 rfl ?_
  refine zV_icmp_ge (n := 13) C 58 dX0_quickestSeat_10 (by decide) (by omega) (by omega) rfl (fun h => ?_) (fun h => by exfalso; omega)
  refine zV_iload_n (i := 2) (n := 59) C dX0_quickestSeat_58 rfl rfl rfl ?_
  exact zV_ireturn C hr hlk dX0_quickestSeat_59 rfl rfl

set_option maxRecDepth 100000 in
set_option maxHeartbeats 4000000 in
theorem c_snuggestSeat_step {Γ : zC} {l : Launch} {d : Nat} {p : Program} {e : Env} {s : State} {m : MethodId} {args : Array Value} {below : List Frame} {meth : Method} {c : Code} {Q : State → Prop} (C : zCx Γ (zAA Γ) p s m args c RX0 cX0_snuggestSeat 6) {μ : zMem} {g : Nat} (hg : g < 4) {S : Int → Int} {N : Int} (I : rInv N S) {x : Int} (hx : 0 ≤ x ∧ x < S 0) {k : Int} (hk : 0 ≤ k ∧ k < 3) {b w : Int} {v5 : Value} (hb : -1 ≤ b ∧ b < 3) (hw : (b = -1 ∨ (0 ≤ b ∧ w = rSnug S x b))) (KK : ∀ (w : Int) (v5 : Value), ((rSf S x k b) = -1 ∨ (0 ≤ (rSf S x k b) ∧ w = rSnug S x (rSf S x k b))) → zV Γ (zAA Γ) p l e (zRm (d + 2)) s m args below meth c 0 0 Q 7 [.ref (za Γ g 0), .int (zi x), .int (zi (rSf S x k b)), .int (zi w), .int (zi (k + 1)), v5] [] (zcar μ g S)) :
    zV Γ (zAA Γ) p l e (zRm (d + 2)) s m args below meth c 0 0 Q 7 [.ref (za Γ g 0), .int (zi x), .int (zi b), .int (zi w), .int (zi k), v5] [] (zcar μ g S) := by
  have h0 := I.1
  have h1 := I.2.1
  have h2 := I.2.2.1
  have h3 := I.2.2.2.1
  have hs := I.2.2.2.2.1 k hk.1 hk.2
  have r1 := rSnug_rg I (k := k) (c := x) (by omega) hk
  refine zV_iload (n := 9) C dX0_snuggestSeat_7 rfl rfl ?_
  refine zV_iconst (n := 10) C dX0_snuggestSeat_9 rfl ?_
  refine zV_icmp_ge (n := 13) C 58 dX0_snuggestSeat_10 (by decide) (by first | omega | exact zb_rg) (by first | omega | exact zb_rg) rfl (fun h => by exfalso; first | omega | exact zb_rg) (fun h10 => ?_)
  refine zV_aload_n (i := 0) (n := 14) C dX0_snuggestSeat_13 rfl rfl rfl ?_
  refine zV_iload_n (i := 1) (n := 15) C dX0_snuggestSeat_14 rfl rfl rfl ?_
  refine zV_iload (n := 17) C dX0_snuggestSeat_15 rfl rfl ?_
  refine zV_callV2u (n := 20) C zk0 jX0_snugFor lX0_105 (c_snugFor (d := d) hg I (by omega) (by omega)) dX0_snuggestSeat_17 (zs_car (by omega)) rfl (Nat.le_of_ble_eq_true rfl) (zfit_of (by omega) (by decide)) ⟨Nat.le_refl _, Nat.le_refl _⟩ rfl ?_
  refine zS_istore_6_5 (n := 22) C dX0_snuggestSeat_20 rfl rfl ?_
  refine zV_aload_n (i := 0) (n := 23) C dX0_snuggestSeat_22 rfl rfl rfl ?_
  refine zV_getP (f := 0) (n := 26) C zk0 fX0_11 dX0_snuggestSeat_23 (zs_car (by omega)) rfl (by decide) rfl ?_
  refine zV_iload (n := 28) C dX0_snuggestSeat_26 rfl rfl ?_
  refine zV_aald (n := 29) C dX0_snuggestSeat_28 (zs_carS (by omega)) (by first | omega | exact zb_rg) (by decide) (by decide) rfl ?_
  refine zV_callV0u (n := 32) C zk3 jX4_isTaken lX0_141 (c_seat_isTaken (d := d) hg I (by omega)) dX0_snuggestSeat_29 (zs_seat (by omega) (by omega)) rfl (Nat.le_of_ble_eq_true rfl) (zfit_of (by omega) (by decide)) ⟨Nat.le_refl _, Nat.le_refl _⟩ rfl ?_
  refine zV_if_ne (n := 35) C 52 dX0_snuggestSeat_32 (by decide) (by first | omega | exact zb_rg) rfl (fun h32 => ?_) (fun h32 => ?_)
  · skip
    simp only [zb_eq0, Decidable.not_not] at h32
    refine zS_iinc_6_4 (n := 55) C dX0_snuggestSeat_52 rfl rfl ?_
    refine zV_goto C 7 dX0_snuggestSeat_55 (by decide) ?_
    have K9 := KK w (.int (zi (rSnug S x k))) (by rw [show rSf S x k b = b from by unfold rSf; exact if_neg (by omega)]; exact hw)
    rw [show rSf S x k b = b from by unfold rSf; exact if_neg (by omega)] at K9
    exact K9
  · skip
    simp only [zb_eq0, Decidable.not_not] at h32
    refine zV_iload_n (i := 2) (n := 36) C dX0_snuggestSeat_35 rfl rfl rfl ?_
    refine zV_iconst (n := 37) C dX0_snuggestSeat_36 rfl ?_
    refine zV_icmp_eq (n := 40) C 46 dX0_snuggestSeat_37 (by decide) (by first | omega | exact zb_rg) (by first | omega | exact zb_rg) rfl (fun h37 => ?_) (fun h37 => ?_)
    · skip
      refine zV_iload (n := 48) C dX0_snuggestSeat_46 rfl rfl ?_
      refine zS_istore_n_6_2 (n := 49) C dX0_snuggestSeat_48 rfl rfl ?_
      refine zV_iload (n := 51) C dX0_snuggestSeat_49 rfl rfl ?_
      refine zS_istore_n_6_3 (n := 52) C dX0_snuggestSeat_51 rfl rfl ?_
      refine zS_iinc_6_4 (n := 55) C dX0_snuggestSeat_52 rfl rfl ?_
      refine zV_goto C 7 dX0_snuggestSeat_55 (by decide) ?_
      have K9 := KK (rSnug S x k) (.int (zi (rSnug S x k))) (Or.inr ⟨by rw [show rSf S x k b = k from by unfold rSf; exact if_pos ⟨by omega, Or.inl (by omega)⟩]; omega, by rw [show rSf S x k b = k from by unfold rSf; exact if_pos ⟨by omega, Or.inl (by omega)⟩]⟩)
      rw [show rSf S x k b = k from by unfold rSf; exact if_pos ⟨by omega, Or.inl (by omega)⟩] at K9
      exact K9
    · skip
      have hb0 := hw.resolve_left h37
      have r2 := rSnug_rg I (k := b) (c := x) (by omega) (by omega)
      refine zV_iload (n := 42) C dX0_snuggestSeat_40 rfl rfl ?_
      refine zV_iload_n (i := 3) (n := 43) C dX0_snuggestSeat_42 rfl rfl rfl ?_
      refine zV_icmp_le (n := 46) C 52 dX0_snuggestSeat_43 (by decide) (by first | omega | exact zb_rg) (by first | omega | exact zb_rg) rfl (fun h43 => ?_) (fun h43 => ?_)
      · skip
        refine zS_iinc_6_4 (n := 55) C dX0_snuggestSeat_52 rfl rfl ?_
        refine zV_goto C 7 dX0_snuggestSeat_55 (by decide) ?_
        have K9 := KK w (.int (zi (rSnug S x k))) (by rw [show rSf S x k b = b from by unfold rSf; exact if_neg (by omega)]; exact hw)
        rw [show rSf S x k b = b from by unfold rSf; exact if_neg (by omega)] at K9
        exact K9
      · skip
        refine zV_iload (n := 48) C dX0_snuggestSeat_46 rfl rfl ?_
        refine zS_istore_n_6_2 (n := 49) C dX0_snuggestSeat_48 rfl rfl ?_
        refine zV_iload (n := 51) C dX0_snuggestSeat_49 rfl rfl ?_
        refine zS_istore_n_6_3 (n := 52) C dX0_snuggestSeat_51 rfl rfl ?_
        refine zS_iinc_6_4 (n := 55) C dX0_snuggestSeat_52 rfl rfl ?_
        refine zV_goto C 7 dX0_snuggestSeat_55 (by decide) ?_
        have K9 := KK (rSnug S x k) (.int (zi (rSnug S x k))) (Or.inr ⟨by rw [show rSf S x k b = k from by unfold rSf; exact if_pos ⟨by omega, Or.inr (by omega)⟩]; omega, by rw [show rSf S x k b = k from by unfold rSf; exact if_pos ⟨by omega, Or.inr (by omega)⟩]⟩)
        rw [show rSf S x k b = k from by unfold rSf; exact if_pos ⟨by omega, Or.inr (by omega)⟩] at K9
        exact K9

set_option maxRecDepth 100000 in
set_option maxHeartbeats 4000000 in
theorem c_snuggestSeat {Γ : zC} {l : Launch} {d : Nat} {μ : zMem} {g : Nat} (hg : g < 4) {S : Int → Int} {N : Int} (I : rInv N S) {x : Int} (hx : 0 ≤ x ∧ x < S 0)  : zRet Γ l (d + 2) qX0_snuggestSeat [.ref (za Γ g 0), .int (zi x)] (zcar μ g S) (some (.int (zi (rSafe S x)))) (zcar μ g S) := by
  refine zRet.mk 4 [.ref (za Γ g 0), .int (zi x), .null, .null, .null, .null] RX0 rfl (by decide +kernel) (Nat.le_of_ble_eq_true rfl) rfl ?_
  intro p e s m below meth c C hr hlk
  have h0 := I.1
  have h1 := I.2.1
  have h2 := I.2.2.1
  have h3 := I.2.2.2.1
  refine zV_iconst (n := 1) C dX0_snuggestSeat_0 rfl ?_
  refine zS_istore_n_6_2 (n := 2) C dX0_snuggestSeat_1 rfl rfl ?_
  refine zV_iconst (n := 3) C dX0_snuggestSeat_2 rfl ?_
  refine zS_istore_n_6_3 (n := 4) C dX0_snuggestSeat_3 rfl rfl ?_
  refine zV_iconst (n := 5) C dX0_snuggestSeat_4 rfl ?_
  refine zS_istore_6_4 (n := 7) C dX0_snuggestSeat_5 rfl rfl ?_
  have B1 := rSf_rg (S := S) (x := x) (k := 0) (b := -1) (by omega) (by omega)
  have B2 := rSf_rg (S := S) (x := x) (k := 1) (b := (rSf S x 0 (-1))) (by omega) B1
  refine c_snuggestSeat_step C hg I hx (k := 0) (b := -1) (w := 0) (by omega) (by omega) (Or.inl rfl) (fun w1 v5 H1 => ?_)
  refine c_snuggestSeat_step C hg I hx (k := 1) (by omega) B1 H1 (fun w2 v5 H2 => ?_)
  refine c_snuggestSeat_step C hg I hx (k := 2) (by omega) B2 H2 (fun w3 v5 H3 => ?_)
  refine zV_iload (n := 9) C dX0_snuggestSeat_7 rfl rfl ?_
  refine zV_iconst (n := 10) C dX0_snuggestSeat_9 rfl ?_
  refine zV_icmp_ge (n := 13) C 58 dX0_snuggestSeat_10 (by decide) (by omega) (by omega) rfl (fun h => ?_) (fun h => by exfalso; omega)
  refine zV_iload_n (i := 2) (n := 59) C dX0_snuggestSeat_58 rfl rfl rfl ?_
  exact zV_ireturn C hr hlk dX0_snuggestSeat_59 rfl rfl

