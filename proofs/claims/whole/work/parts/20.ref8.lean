/-! the reference: kind, bribes, mood, worst, images, status (laid by wip/whole/gen/ref8.py) -/
set_option maxRecDepth 100000 in
set_option maxHeartbeats 4000000 in
theorem m_kind_loop {Γ : zC} {l : Launch} {d : Nat} {p : Program} {e : Env} {s : State} {m : MethodId} {args : Array Value} {below : List Frame} {meth : Method} {c : Code} {Q : State → Prop} (C : zCx Γ (zAA Γ) p s m args c RX9 cX9_kind 8) {μ : zMem} {N : Int} (J : rInv N (μ 5 1)) {x y w : Int} (hx : 0 ≤ x ∧ x < 6) (hy : 0 ≤ y ∧ y < 3) :
    ∀ (i : Nat) (k b a q : Int) (v7 : Value) (h0 : 0 ≤ k) (hi : k + i = 6) (hb : 0 ≤ b ∧ b ≤ 5) (ha : 0 ≤ a ∧ a ≤ 99999) (KK : ∀ (q a8 : Int) (v7 : Value), zV Γ (zAA Γ) p l e (zRm (d + 4)) s m args below meth c 0 0 Q 103 [.ref (za Γ 5 0), .int (zi x), .int (zi y), .int (zi w), .int (zi (rKd (μ 5 1) x y i k b a)), .int (zi a8), .int (zi 6), v7] [] (zset μ 5 1 (zfu (μ 5 1) (19 + 6 * x + 0) q))), zV Γ (zAA Γ) p l e (zRm (d + 4)) s m args below meth c 0 0 Q 39 [.ref (za Γ 5 0), .int (zi x), .int (zi y), .int (zi w), .int (zi b), .int (zi a), .int (zi k), v7] [] (zset μ 5 1 (zfu (μ 5 1) (19 + 6 * x + 0) q)) := by
  intro i
  induction i with
  | zero =>
    intro k b a q v7 h0 hi hb ha KK
    have hk : k = 6 := by omega
    subst hk
    refine zV_iload (n := 41) C dX9_kind_39 rfl rfl ?_
    refine zV_iconst (n := 42) C dX9_kind_41 rfl ?_
    refine zV_icmp_gt (n := 45) C 103 dX9_kind_42 (by decide) (by omega) (by omega) rfl (fun h42 => ?_) (fun h => by exfalso; omega)
    exact KK _ _ _
  | succ i ih =>
    intro k b a q v7 h0 hi hb ha KK
    have hr := rSecK_rg (kd := k) J hx hy
    refine zV_iload (n := 41) C dX9_kind_39 rfl rfl ?_
    refine zV_iconst (n := 42) C dX9_kind_41 rfl ?_
    refine zV_icmp_gt (n := 45) C 103 dX9_kind_42 (by decide) (by first | omega | exact zb_rg) (by first | omega | exact zb_rg) rfl (fun h => by exfalso; first | omega | exact zb_rg) (fun h42 => ?_)
    refine zV_aload_n (i := 0) (n := 46) C dX9_kind_45 rfl rfl rfl ?_
    refine zV_getP (f := 0) (n := 49) C zk8 fX9_7 dX9_kind_46 zs_ref rfl (by decide) rfl ?_
    refine zV_iload_n (i := 1) (n := 50) C dX9_kind_49 rfl rfl rfl ?_
    refine zV_iconst (n := 51) C dX9_kind_50 rfl ?_
    refine zV_callS2u (n := 54) C jX9_placeOf lX9_60 (m_placeOf (d := d) ) dX9_kind_51 (Nat.le_of_ble_eq_true rfl) (zfit_of (by omega) (by decide)) ⟨Nat.le_refl _, Nat.le_refl _⟩ rfl ?_
    refine zV_iload (n := 56) C dX9_kind_54 rfl rfl ?_
    refine zV_iast (n := 57) C dX9_kind_56 zs_s (by first | omega | exact zb_rg) (by decide) rfl ?_
    rw [zup_set, zfu_fu]
    have I : rInv N (zset μ 5 1 (zfu (μ 5 1) (19 + 6 * x + 0) k) 5 1) := by rw [zset_at]; exact rInv_kid J hx (by omega) (by simp; omega)
    refine zV_aload_n (i := 0) (n := 58) C dX9_kind_57 rfl rfl rfl ?_
    refine zV_iload_n (i := 1) (n := 59) C dX9_kind_58 rfl rfl rfl ?_
    refine zV_iload_n (i := 2) (n := 60) C dX9_kind_59 rfl rfl rfl ?_
    refine zV_callV2u (n := 63) C zk8 jX9_secondsOf lX9_118 (m_secondsOf (d := d) I (by omega) (by omega)) dX9_kind_60 zs_ref rfl (Nat.le_of_ble_eq_true rfl) (zfit_of (by omega) (by decide)) ⟨Nat.le_refl _, Nat.le_refl _⟩ rfl ?_
    rw [zset_at, rSec_kd (by omega) (by omega)]
    refine zS_istore_8_7 (n := 65) C dX9_kind_63 rfl rfl ?_
    refine zV_iload (n := 67) C dX9_kind_65 rfl rfl ?_
    refine zV_iload (n := 69) C dX9_kind_67 rfl rfl ?_
    refine zV_icmp_ge (n := 72) C 77 dX9_kind_69 (by decide) (by first | omega | exact zb_rg) (by first | omega | exact zb_rg) rfl (fun h69 => ?_) (fun h69 => ?_)
    · skip
      refine zV_iload (n := 79) C dX9_kind_77 rfl rfl ?_
      refine zS_istore_8_4 (n := 81) C dX9_kind_79 rfl rfl ?_
      refine zV_iload (n := 83) C dX9_kind_81 rfl rfl ?_
      refine zV_iload (n := 85) C dX9_kind_83 rfl rfl ?_
      refine zV_icmp_ge (n := 88) C 93 dX9_kind_85 (by decide) (by first | omega | exact zb_rg) (by first | omega | exact zb_rg) rfl (fun h85 => ?_) (fun h85 => ?_)
      · skip
        refine zV_iload (n := 95) C dX9_kind_93 rfl rfl ?_
        refine zS_istore_8_5 (n := 97) C dX9_kind_95 rfl rfl ?_
        refine zS_iinc_8_6 (n := 100) C dX9_kind_97 rfl rfl ?_
        refine zV_goto C 39 dX9_kind_100 (by decide) ?_
        first | (exfalso; omega) | (unfold rKd at KK; rw [if_pos h69, if_pos h69] at KK; exact ih _ _ _ _ _ (by omega) (by omega) (by omega) (by omega) KK) | (unfold rKd at KK; rw [if_neg (Int.not_lt.mpr h69), if_neg (Int.not_lt.mpr h69)] at KK; exact ih _ _ _ _ _ (by omega) (by omega) (by omega) (by omega) KK)
      · skip
        refine zV_iload (n := 90) C dX9_kind_88 rfl rfl ?_
        refine zV_goto C 95 dX9_kind_90 (by decide) ?_
        refine zS_istore_8_5 (n := 97) C dX9_kind_95 rfl rfl ?_
        refine zS_iinc_8_6 (n := 100) C dX9_kind_97 rfl rfl ?_
        refine zV_goto C 39 dX9_kind_100 (by decide) ?_
        first | (exfalso; omega) | (unfold rKd at KK; rw [if_pos h69, if_pos h69] at KK; exact ih _ _ _ _ _ (by omega) (by omega) (by omega) (by omega) KK) | (unfold rKd at KK; rw [if_neg (Int.not_lt.mpr h69), if_neg (Int.not_lt.mpr h69)] at KK; exact ih _ _ _ _ _ (by omega) (by omega) (by omega) (by omega) KK)
    · skip
      refine zV_iload (n := 74) C dX9_kind_72 rfl rfl ?_
      refine zV_goto C 79 dX9_kind_74 (by decide) ?_
      refine zS_istore_8_4 (n := 81) C dX9_kind_79 rfl rfl ?_
      refine zV_iload (n := 83) C dX9_kind_81 rfl rfl ?_
      refine zV_iload (n := 85) C dX9_kind_83 rfl rfl ?_
      refine zV_icmp_ge (n := 88) C 93 dX9_kind_85 (by decide) (by first | omega | exact zb_rg) (by first | omega | exact zb_rg) rfl (fun h85 => ?_) (fun h85 => ?_)
      · skip
        refine zV_iload (n := 95) C dX9_kind_93 rfl rfl ?_
        refine zS_istore_8_5 (n := 97) C dX9_kind_95 rfl rfl ?_
        refine zS_iinc_8_6 (n := 100) C dX9_kind_97 rfl rfl ?_
        refine zV_goto C 39 dX9_kind_100 (by decide) ?_
        first | (exfalso; omega) | (unfold rKd at KK; rw [if_pos h69, if_pos h69] at KK; exact ih _ _ _ _ _ (by omega) (by omega) (by omega) (by omega) KK) | (unfold rKd at KK; rw [if_neg (Int.not_lt.mpr h69), if_neg (Int.not_lt.mpr h69)] at KK; exact ih _ _ _ _ _ (by omega) (by omega) (by omega) (by omega) KK)
      · skip
        refine zV_iload (n := 90) C dX9_kind_88 rfl rfl ?_
        refine zV_goto C 95 dX9_kind_90 (by decide) ?_
        refine zS_istore_8_5 (n := 97) C dX9_kind_95 rfl rfl ?_
        refine zS_iinc_8_6 (n := 100) C dX9_kind_97 rfl rfl ?_
        refine zV_goto C 39 dX9_kind_100 (by decide) ?_
        first | (exfalso; omega) | (unfold rKd at KK; rw [if_pos h69, if_pos h69] at KK; exact ih _ _ _ _ _ (by omega) (by omega) (by omega) (by omega) KK) | (unfold rKd at KK; rw [if_neg (Int.not_lt.mpr h69), if_neg (Int.not_lt.mpr h69)] at KK; exact ih _ _ _ _ _ (by omega) (by omega) (by omega) (by omega) KK)

set_option maxRecDepth 100000 in
set_option maxHeartbeats 4000000 in
theorem m_kind {Γ : zC} {l : Launch} {d : Nat} {μ : zMem} {N : Int} (I : rInv N (μ 5 1)) {x y : Int} (hx : -2147483648 ≤ x ∧ x ≤ 2147483647) (hy : -2147483648 ≤ y ∧ y ≤ 2147483647) : zRet Γ l (d + 4) qX9_kind [.ref (za Γ 5 0), .int (zi x), .int (zi y)] μ (some (.int (zi (if ((0 ≤ x ∧ x ≤ μ 5 1 0 - 1) ∧ (0 ≤ y ∧ y ≤ 2)) then rKd (μ 5 1) x y 6 0 0 99999 else -1000000001)))) (if ((0 ≤ x ∧ x ≤ μ 5 1 0 - 1) ∧ (0 ≤ y ∧ y ≤ 2)) then μ else zset μ 5 5 (rFind (μ 5 5) (-1000000001))) := by
  refine zRet.mk 5 [.ref (za Γ 5 0), .int (zi x), .int (zi y), .null, .null, .null, .null, .null] RX9 rfl (by decide +kernel) (Nat.le_of_ble_eq_true rfl) rfl ?_
  intro p e s m below meth c C hr hlk
  have h0 := I.1
  refine zV_aload_n (i := 0) (n := 1) C dX9_kind_0 rfl rfl rfl ?_
  refine zV_iload_n (i := 1) (n := 2) C dX9_kind_1 rfl rfl rfl ?_
  refine zV_callV1u (n := 5) C zk8 jX9_isChild lX9_100 (m_isChild (d := d) (by omega) (by omega)) dX9_kind_2 zs_ref rfl (Nat.le_of_ble_eq_true rfl) (zfit_of (by omega) (by decide)) ⟨Nat.le_refl _, Nat.le_refl _⟩ rfl ?_
  refine zV_if_eq (n := 8) C 15 dX9_kind_5 (by decide) (by first | omega | exact zb_rg) rfl (fun h5 => ?_) (fun h5 => ?_)
  · skip
    simp only [zb_eq0, Decidable.not_not] at h5
    refine zV_aload_n (i := 0) (n := 16) C dX9_kind_15 rfl rfl rfl ?_
    refine zV_ldc (n := 18) C dX9_kind_16 kX9_51 rfl ?_
    refine zV_callV1u (n := 21) C zk8 jX9_finds lX9_75 (m_finds (d := d) (by omega)) dX9_kind_18 zs_ref rfl (Nat.le_of_ble_eq_true rfl) (zfit_of (by omega) (by decide)) ⟨Nat.le_refl _, Nat.le_refl _⟩ rfl ?_
    exact zV_ireturn C hr hlk dX9_kind_21 (by first | exact congrArg (fun z => some (Value.int (zi z))) (zif_t (by omega) (rfl)) | exact congrArg (fun z => some (Value.int (zi z))) (zif_f (by omega) rfl)) (by first | exact zif_t (by omega) (rfl) | exact zif_f (by omega) rfl)
  · skip
    simp only [zb_eq0, Decidable.not_not] at h5
    refine zV_iload_n (i := 2) (n := 9) C dX9_kind_8 rfl rfl rfl ?_
    refine zV_callS1u (n := 12) C jX9_isSeat lX9_68 (m_isSeat (d := d) (by omega)) dX9_kind_9 (Nat.le_of_ble_eq_true rfl) (zfit_of (by omega) (by decide)) ⟨Nat.le_refl _, Nat.le_refl _⟩ rfl ?_
    refine zV_if_ne (n := 15) C 22 dX9_kind_12 (by decide) (by first | omega | exact zb_rg) rfl (fun h12 => ?_) (fun h12 => ?_)
    · skip
      simp only [zb_eq0, Decidable.not_not] at h12
      refine zV_aload_n (i := 0) (n := 23) C dX9_kind_22 rfl rfl rfl ?_
      refine zV_iload_n (i := 1) (n := 24) C dX9_kind_23 rfl rfl rfl ?_
      refine zV_iconst (n := 25) C dX9_kind_24 rfl ?_
      refine zV_callV2u (n := 28) C zk8 jX9_told lX9_94 (m_told (d := d) (by omega)) dX9_kind_25 zs_ref rfl (Nat.le_of_ble_eq_true rfl) (zfit_of (by omega) (by decide)) ⟨Nat.le_refl _, Nat.le_refl _⟩ rfl ?_
      refine zS_istore_n_8_3 (n := 29) C dX9_kind_28 rfl rfl ?_
      refine zV_iconst (n := 30) C dX9_kind_29 rfl ?_
      refine zS_istore_8_4 (n := 32) C dX9_kind_30 rfl rfl ?_
      refine zV_ldc (n := 34) C dX9_kind_32 kX9_124 rfl ?_
      refine zS_istore_8_5 (n := 36) C dX9_kind_34 rfl rfl ?_
      refine zV_iconst (n := 37) C dX9_kind_36 rfl ?_
      refine zS_istore_8_6 (n := 39) C dX9_kind_37 rfl rfl ?_
      refine zV_eqm (μ' := zset μ 5 1 (zfu (μ 5 1) (19 + 6 * x + 0) (toS (μ 5 1) x 0))) (by rw [zfu_toS, zset_self]) ?_
      refine m_kind_loop C I (x := x) (y := y) (by omega) (by omega) 6 0 0 99999 (toS (μ 5 1) x 0) .null (by omega) (by omega) (by omega) (by omega) (fun q a8 v7 => ?_)
      refine zV_aload_n (i := 0) (n := 104) C dX9_kind_103 rfl rfl rfl ?_
      refine zV_getP (f := 0) (n := 107) C zk8 fX9_7 dX9_kind_104 zs_ref rfl (by decide) rfl ?_
      refine zV_iload_n (i := 1) (n := 108) C dX9_kind_107 rfl rfl rfl ?_
      refine zV_iconst (n := 109) C dX9_kind_108 rfl ?_
      refine zV_callS2u (n := 112) C jX9_placeOf lX9_60 (m_placeOf (d := d) ) dX9_kind_109 (Nat.le_of_ble_eq_true rfl) (zfit_of (by omega) (by decide)) ⟨Nat.le_refl _, Nat.le_refl _⟩ rfl ?_
      refine zV_iload_n (i := 3) (n := 113) C dX9_kind_112 rfl rfl rfl ?_
      refine zV_iast (n := 114) C dX9_kind_113 zs_s (by first | omega | exact zb_rg) (by decide) rfl ?_
      rw [zup_set, zfu_fu, zfu_toS, zset_self]
      refine zV_iload (n := 116) C dX9_kind_114 rfl rfl ?_
      exact zV_ireturn C hr hlk dX9_kind_116 (by first | exact congrArg (fun z => some (Value.int (zi z))) (zif_t (by omega) rfl)) (by exact zif_t (by omega) rfl)
    · skip
      simp only [zb_eq0, Decidable.not_not] at h12
      refine zV_aload_n (i := 0) (n := 16) C dX9_kind_15 rfl rfl rfl ?_
      refine zV_ldc (n := 18) C dX9_kind_16 kX9_51 rfl ?_
      refine zV_callV1u (n := 21) C zk8 jX9_finds lX9_75 (m_finds (d := d) (by omega)) dX9_kind_18 zs_ref rfl (Nat.le_of_ble_eq_true rfl) (zfit_of (by omega) (by decide)) ⟨Nat.le_refl _, Nat.le_refl _⟩ rfl ?_
      exact zV_ireturn C hr hlk dX9_kind_21 (by first | exact congrArg (fun z => some (Value.int (zi z))) (zif_t (by omega) (rfl)) | exact congrArg (fun z => some (Value.int (zi z))) (zif_f (by omega) rfl)) (by first | exact zif_t (by omega) (rfl) | exact zif_f (by omega) rfl)

set_option maxRecDepth 100000 in
set_option maxHeartbeats 4000000 in
theorem m_image_loop {Γ : zC} {l : Launch} {d : Nat} {p : Program} {e : Env} {s : State} {m : MethodId} {args : Array Value} {below : List Frame} {meth : Method} {c : Code} {Q : State → Prop} (C : zCx Γ (zAA Γ) p s m args c RX9 cX9_image 2) {μ : zMem} (KK : zV Γ (zAA Γ) p l e (zRm (d + 0)) s m args below meth c 0 0 Q 26 [.ref (za Γ 5 0), .int (zi 55)] [] (zset μ 5 2 (fun j => if j < 55 then μ 5 1 j else μ 5 2 j))) :
    ∀ (i : Nat) (k : Int) (h0 : 0 ≤ k) (hi : k + i = 55), zV Γ (zAA Γ) p l e (zRm (d + 0)) s m args below meth c 0 0 Q 2 [.ref (za Γ 5 0), .int (zi k)] [] (zset μ 5 2 (fun j => if j < k then μ 5 1 j else μ 5 2 j)) := by
  intro i
  induction i with
  | zero =>
    intro k h0 hi
    have hk : k = 55 := by omega
    subst hk
    refine zV_iload_n (i := 1) (n := 3) C dX9_image_2 rfl rfl rfl ?_
    refine zV_bipush (n := 5) C dX9_image_3 (by decide) rfl ?_
    refine zV_icmp_ge (n := 8) C 26 dX9_image_5 (by decide) (by omega) (by omega) rfl (fun h5 => ?_) (fun h => by exfalso; omega)
    exact KK
  | succ i ih =>
    intro k h0 hi
    refine zV_iload_n (i := 1) (n := 3) C dX9_image_2 rfl rfl rfl ?_
    refine zV_bipush (n := 5) C dX9_image_3 (by decide) rfl ?_
    refine zV_icmp_ge (n := 8) C 26 dX9_image_5 (by decide) (by omega) (by omega) rfl (fun h => by exfalso; omega) (fun h5 => ?_)
    refine zV_aload_n (i := 0) (n := 9) C dX9_image_8 rfl rfl rfl ?_
    refine zV_getP (f := 1) (n := 12) C zk8 fX9_13 dX9_image_9 zs_ref rfl (by decide) rfl ?_
    refine zV_iload_n (i := 1) (n := 13) C dX9_image_12 rfl rfl rfl ?_
    refine zV_aload_n (i := 0) (n := 14) C dX9_image_13 rfl rfl rfl ?_
    refine zV_getP (f := 0) (n := 17) C zk8 fX9_7 dX9_image_14 zs_ref rfl (by decide) rfl ?_
    refine zV_iload_n (i := 1) (n := 18) C dX9_image_17 rfl rfl rfl ?_
    refine zV_iald (n := 19) C dX9_image_18 zs_s (by omega) (by decide) rfl ?_
    rw [show zset μ 5 2 (fun j => if j < k then μ 5 1 j else μ 5 2 j) 5 1 = μ 5 1 from zset_ne (by decide)]
    refine zV_iast (n := 20) C dX9_image_19 zs_keptS (by omega) (by decide) rfl ?_
    rw [zup_set, zcp_step]
    refine zS_iinc_2_1 (n := 23) C dX9_image_20 rfl rfl ?_
    refine zV_goto C 2 dX9_image_23 (by decide) ?_
    exact ih (k + 1) (by omega) (by omega)

set_option maxRecDepth 100000 in
set_option maxHeartbeats 4000000 in
theorem m_image {Γ : zC} {l : Launch} {d : Nat} {μ : zMem}  : zRet Γ l (d + 0) qX9_image [.ref (za Γ 5 0)] μ (some (.int (zi 1))) (zup (zset μ 5 2 (μ 5 1)) 5 0 5 1) := by
  refine zRet.mk 1 [.ref (za Γ 5 0), .null] RX9 rfl (by decide +kernel) (Nat.le_of_ble_eq_true rfl) rfl ?_
  intro p e s m below meth c C hr hlk
  refine zV_iconst (n := 1) C dX9_image_0 rfl ?_
  refine zS_istore_n_2_1 (n := 2) C dX9_image_1 rfl rfl ?_
  refine zV_mem (μ' := zset μ 5 2 (fun j => if j < 0 then μ 5 1 j else μ 5 2 j)) (by have h := zag_row (μ := μ) (F := μ 5 2) (G := (fun j => if j < 0 then μ 5 1 j else μ 5 2 j)) zs_keptS (fun j g0 g1 => by rw [if_neg (by omega)]); rw [zset_self] at h; exact h) ?_
  refine m_image_loop C ?_ 55 0 (by omega) (by omega)
  refine zV_mem (μ' := zset μ 5 2 (μ 5 1)) (zag_row zs_keptS (fun j g0 g1 => by rw [if_pos (by simp only [zlenS] at g1; omega)])) ?_
  refine zV_aload_n (i := 0) (n := 27) C dX9_image_26 rfl rfl rfl ?_
  refine zV_iconst (n := 28) C dX9_image_27 rfl ?_
  refine zV_putZ (f := 5) (fi := 5) (n := 31) C zk8 fX9_315 dX9_image_28 zs_ref rfl (by decide) rfl rfl rfl (by omega) rfl ?_
  refine zV_iconst (n := 32) C dX9_image_31 rfl ?_
  exact zV_ireturn C hr hlk dX9_image_32 (by rfl) (by rfl)

set_option maxRecDepth 100000 in
set_option maxHeartbeats 4000000 in
theorem m_undo_loop {Γ : zC} {l : Launch} {d : Nat} {p : Program} {e : Env} {s : State} {m : MethodId} {args : Array Value} {below : List Frame} {meth : Method} {c : Code} {Q : State → Prop} (C : zCx Γ (zAA Γ) p s m args c RX9 cX9_undo 2) {μ : zMem} (KK : zV Γ (zAA Γ) p l e (zRm (d + 0)) s m args below meth c 0 0 Q 40 [.ref (za Γ 5 0), .int (zi 55)] [] (zset μ 5 1 (fun j => if j < 55 then μ 5 2 j else μ 5 1 j))) :
    ∀ (i : Nat) (k : Int) (h0 : 0 ≤ k) (hi : k + i = 55), zV Γ (zAA Γ) p l e (zRm (d + 0)) s m args below meth c 0 0 Q 16 [.ref (za Γ 5 0), .int (zi k)] [] (zset μ 5 1 (fun j => if j < k then μ 5 2 j else μ 5 1 j)) := by
  intro i
  induction i with
  | zero =>
    intro k h0 hi
    have hk : k = 55 := by omega
    subst hk
    refine zV_iload_n (i := 1) (n := 17) C dX9_undo_16 rfl rfl rfl ?_
    refine zV_bipush (n := 19) C dX9_undo_17 (by decide) rfl ?_
    refine zV_icmp_ge (n := 22) C 40 dX9_undo_19 (by decide) (by omega) (by omega) rfl (fun h19 => ?_) (fun h => by exfalso; omega)
    exact KK
  | succ i ih =>
    intro k h0 hi
    refine zV_iload_n (i := 1) (n := 17) C dX9_undo_16 rfl rfl rfl ?_
    refine zV_bipush (n := 19) C dX9_undo_17 (by decide) rfl ?_
    refine zV_icmp_ge (n := 22) C 40 dX9_undo_19 (by decide) (by omega) (by omega) rfl (fun h => by exfalso; omega) (fun h19 => ?_)
    refine zV_aload_n (i := 0) (n := 23) C dX9_undo_22 rfl rfl rfl ?_
    refine zV_getP (f := 0) (n := 26) C zk8 fX9_7 dX9_undo_23 zs_ref rfl (by decide) rfl ?_
    refine zV_iload_n (i := 1) (n := 27) C dX9_undo_26 rfl rfl rfl ?_
    refine zV_aload_n (i := 0) (n := 28) C dX9_undo_27 rfl rfl rfl ?_
    refine zV_getP (f := 1) (n := 31) C zk8 fX9_13 dX9_undo_28 zs_ref rfl (by decide) rfl ?_
    refine zV_iload_n (i := 1) (n := 32) C dX9_undo_31 rfl rfl rfl ?_
    refine zV_iald (n := 33) C dX9_undo_32 zs_keptS (by omega) (by decide) rfl ?_
    rw [show zset μ 5 1 (fun j => if j < k then μ 5 2 j else μ 5 1 j) 5 2 = μ 5 2 from zset_ne (by decide)]
    refine zV_iast (n := 34) C dX9_undo_33 zs_s (by omega) (by decide) rfl ?_
    rw [zup_set, zcp_step]
    refine zS_iinc_2_1 (n := 37) C dX9_undo_34 rfl rfl ?_
    refine zV_goto C 16 dX9_undo_37 (by decide) ?_
    exact ih (k + 1) (by omega) (by omega)

set_option maxRecDepth 100000 in
set_option maxHeartbeats 4000000 in
theorem m_undo {Γ : zC} {l : Launch} {d : Nat} {μ : zMem} (hk : μ 5 0 5 = 0 ∨ μ 5 0 5 = 1) : zRet Γ l (d + 1) qX9_undo [.ref (za Γ 5 0)] μ (some (.int (zi (if μ 5 0 5 = 1 then μ 5 2 0 else -1000000004)))) (if μ 5 0 5 = 1 then zset μ 5 1 (μ 5 2) else zset μ 5 5 (rFind (μ 5 5) (-1000000004))) := by
  refine zRet.mk 1 [.ref (za Γ 5 0), .null] RX9 rfl (by decide +kernel) (Nat.le_of_ble_eq_true rfl) rfl ?_
  intro p e s m below meth c C hr hlk
  refine zV_aload_n (i := 0) (n := 1) C dX9_undo_0 rfl rfl rfl ?_
  refine zV_getI (f := 5) (fi := 5) (n := 4) C zk8 fX9_315 dX9_undo_1 zs_ref rfl (by decide) rfl rfl ?_
  refine zV_if_ne (n := 7) C 14 dX9_undo_4 (by decide) (by omega) rfl (fun h4 => ?_) (fun h4 => ?_)
  · skip
    refine zV_iconst (n := 15) C dX9_undo_14 rfl ?_
    refine zS_istore_n_2_1 (n := 16) C dX9_undo_15 rfl rfl ?_
    refine zV_mem (μ' := zset μ 5 1 (fun j => if j < 0 then μ 5 2 j else μ 5 1 j)) (by have h := zag_row (μ := μ) (F := μ 5 1) (G := (fun j => if j < 0 then μ 5 2 j else μ 5 1 j)) zs_s (fun j g0 g1 => by rw [if_neg (by omega)]); rw [zset_self] at h; exact h) ?_
    refine m_undo_loop C ?_ 55 0 (by omega) (by omega)
    refine zV_mem (μ' := zset μ 5 1 (μ 5 2)) (zag_row zs_s (fun j g0 g1 => by rw [if_pos (by simp only [zlenS] at g1; omega)])) ?_
    refine zV_aload_n (i := 0) (n := 41) C dX9_undo_40 rfl rfl rfl ?_
    refine zV_getP (f := 0) (n := 44) C zk8 fX9_7 dX9_undo_41 zs_ref rfl (by decide) rfl ?_
    refine zV_iconst (n := 45) C dX9_undo_44 rfl ?_
    refine zV_iald (n := 46) C dX9_undo_45 zs_s (by omega) (by decide) rfl ?_
    simp only [zset_at]
    exact zV_ireturn C hr hlk dX9_undo_46 (by first | exact congrArg (fun z => some (Value.int (zi z))) (zif_t (by omega) rfl)) (by exact zif_t (by omega) rfl)
  · skip
    refine zV_aload_n (i := 0) (n := 8) C dX9_undo_7 rfl rfl rfl ?_
    refine zV_ldc (n := 10) C dX9_undo_8 kX9_163 rfl ?_
    refine zV_callV1u (n := 13) C zk8 jX9_finds lX9_75 (m_finds (d := d) (by omega)) dX9_undo_10 zs_ref rfl (Nat.le_of_ble_eq_true rfl) (zfit_of (by omega) (by decide)) ⟨Nat.le_refl _, Nat.le_refl _⟩ rfl ?_
    exact zV_ireturn C hr hlk dX9_undo_13 (by first | exact congrArg (fun z => some (Value.int (zi z))) (zif_t (by omega) (rfl)) | exact congrArg (fun z => some (Value.int (zi z))) (zif_f (by omega) rfl)) (by first | exact zif_t (by omega) (rfl) | exact zif_f (by omega) rfl)

set_option maxRecDepth 100000 in
set_option maxHeartbeats 4000000 in
theorem m_status_loop {Γ : zC} {l : Launch} {d : Nat} {p : Program} {e : Env} {s : State} {m : MethodId} {args : Array Value} {below : List Frame} {meth : Method} {c : Code} {Q : State → Prop} (C : zCx Γ (zAA Γ) p s m args c RX9 cX9_status 4) {μ : zMem} {w : Int} (hw : -1 ≤ w ∧ w ≤ 6) :
    ∀ (i : Nat) (k a : Int) (h0 : 0 ≤ k) (hi : k + i = 7) (KK : zV Γ (zAA Γ) p l e (zRm (d + 1)) s m args below meth c 0 0 Q 59 [.ref (za Γ 5 0), .int (zi w), .int (zi (rStF (μ 5 5) w i k a)), .int (zi 7)] [] μ), zV Γ (zAA Γ) p l e (zRm (d + 1)) s m args below meth c 0 0 Q 25 [.ref (za Γ 5 0), .int (zi w), .int (zi a), .int (zi k)] [] μ := by
  intro i
  induction i with
  | zero =>
    intro k a h0 hi KK
    have hk : k = 7 := by omega
    subst hk
    refine zV_iload_n (i := 3) (n := 26) C dX9_status_25 rfl rfl rfl ?_
    refine zV_bipush (n := 28) C dX9_status_26 (by decide) rfl ?_
    refine zV_icmp_ge (n := 31) C 59 dX9_status_28 (by decide) (by omega) (by omega) rfl (fun h28 => ?_) (fun h => by exfalso; omega)
    exact KK
  | succ i ih =>
    intro k a h0 hi KK
    refine zV_iload_n (i := 3) (n := 26) C dX9_status_25 rfl rfl rfl ?_
    refine zV_bipush (n := 28) C dX9_status_26 (by decide) rfl ?_
    refine zV_icmp_ge (n := 31) C 59 dX9_status_28 (by decide) (by omega) (by omega) rfl (fun h => by exfalso; omega) (fun h28 => ?_)
    refine zV_iload_n (i := 2) (n := 32) C dX9_status_31 rfl rfl rfl ?_
    refine zV_iload_n (i := 1) (n := 33) C dX9_status_32 rfl rfl rfl ?_
    refine zV_if_lt (n := 36) C 41 dX9_status_33 (by decide) (by omega) rfl (fun h33 => ?_) (fun h33 => ?_)
    · skip
      refine zV_aload_n (i := 0) (n := 42) C dX9_status_41 rfl rfl rfl ?_
      refine zV_getP (f := 4) (n := 45) C zk8 fX9_22 dX9_status_42 zs_ref rfl (by decide) rfl ?_
      refine zV_iload_n (i := 3) (n := 46) C dX9_status_45 rfl rfl rfl ?_
      refine zV_iald (n := 47) C dX9_status_46 zs_stat (by omega) (by decide) rfl ?_
      refine zV_goto C 51 dX9_status_47 (by decide) ?_
      refine zV_iadd (n := 52) C dX9_status_51 rfl ?_
      refine zS_istore_n_4_2 (n := 53) C dX9_status_52 rfl rfl ?_
      refine zS_iinc_4_3 (n := 56) C dX9_status_53 rfl rfl ?_
      refine zV_goto C 25 dX9_status_56 (by decide) ?_
      unfold rStF at KK
      first | (rw [if_pos (Or.inl h33)] at KK; exact ih _ _ (by omega) (by omega) KK) | (rw [if_pos (Or.inr h38)] at KK; exact ih _ _ (by omega) (by omega) KK) | (rw [if_neg (by omega)] at KK; exact ih _ _ (by omega) (by omega) KK)
    · skip
      refine zV_iload_n (i := 3) (n := 37) C dX9_status_36 rfl rfl rfl ?_
      refine zV_iload_n (i := 1) (n := 38) C dX9_status_37 rfl rfl rfl ?_
      refine zV_icmp_ne (n := 41) C 50 dX9_status_38 (by decide) (by omega) (by omega) rfl (fun h38 => ?_) (fun h38 => ?_)
      · skip
        refine zV_iconst (n := 51) C dX9_status_50 rfl ?_
        refine zV_iadd (n := 52) C dX9_status_51 rfl ?_
        refine zS_istore_n_4_2 (n := 53) C dX9_status_52 rfl rfl ?_
        refine zS_iinc_4_3 (n := 56) C dX9_status_53 rfl rfl ?_
        refine zV_goto C 25 dX9_status_56 (by decide) ?_
        unfold rStF at KK
        first | (rw [if_pos (Or.inl h33)] at KK; exact ih _ _ (by omega) (by omega) KK) | (rw [if_pos (Or.inr h38)] at KK; exact ih _ _ (by omega) (by omega) KK) | (rw [if_neg (by omega)] at KK; exact ih _ _ (by omega) (by omega) KK)
      · skip
        refine zV_aload_n (i := 0) (n := 42) C dX9_status_41 rfl rfl rfl ?_
        refine zV_getP (f := 4) (n := 45) C zk8 fX9_22 dX9_status_42 zs_ref rfl (by decide) rfl ?_
        refine zV_iload_n (i := 3) (n := 46) C dX9_status_45 rfl rfl rfl ?_
        refine zV_iald (n := 47) C dX9_status_46 zs_stat (by omega) (by decide) rfl ?_
        refine zV_goto C 51 dX9_status_47 (by decide) ?_
        refine zV_iadd (n := 52) C dX9_status_51 rfl ?_
        refine zS_istore_n_4_2 (n := 53) C dX9_status_52 rfl rfl ?_
        refine zS_iinc_4_3 (n := 56) C dX9_status_53 rfl rfl ?_
        refine zV_goto C 25 dX9_status_56 (by decide) ?_
        unfold rStF at KK
        first | (rw [if_pos (Or.inl h33)] at KK; exact ih _ _ (by omega) (by omega) KK) | (rw [if_pos (Or.inr h38)] at KK; exact ih _ _ (by omega) (by omega) KK) | (rw [if_neg (by omega)] at KK; exact ih _ _ (by omega) (by omega) KK)

set_option maxRecDepth 100000 in
set_option maxHeartbeats 4000000 in
theorem m_status {Γ : zC} {l : Launch} {d : Nat} {μ : zMem} {w : Int} (hw : -2147483648 ≤ w ∧ w ≤ 2147483647) : zRet Γ l (d + 1) qX9_status [.ref (za Γ 5 0), .int (zi w)] μ (some (.int (zi (if (-1 ≤ w ∧ w ≤ 6) then rStF (μ 5 5) w 7 0 0 else -1000000001)))) (if (-1 ≤ w ∧ w ≤ 6) then μ else zset μ 5 5 (rFind (μ 5 5) (-1000000001))) := by
  refine zRet.mk 2 [.ref (za Γ 5 0), .int (zi w), .null, .null] RX9 rfl (by decide +kernel) (Nat.le_of_ble_eq_true rfl) rfl ?_
  intro p e s m below meth c C hr hlk
  refine zV_iload_n (i := 1) (n := 1) C dX9_status_0 rfl rfl rfl ?_
  refine zV_i2l (n := 2) C dX9_status_1 (by first | omega | exact zb_rg) rfl ?_
  refine zV_ldc2 (n := 5) C dX9_status_2 kX9_321 rfl ?_
  refine zV_ldc2 (n := 8) C dX9_status_5 kX9_323 rfl ?_
  refine zV_callS3u (n := 11) C jX9_in lX9_54 (m_in (d := d) (by omega) (by omega) (by omega)) dX9_status_8 (Nat.le_of_ble_eq_true rfl) (zfit_of (by omega) (by decide)) ⟨Nat.le_refl _, Nat.le_refl _⟩ rfl ?_
  refine zV_if_ne (n := 14) C 21 dX9_status_11 (by decide) (by first | omega | exact zb_rg) rfl (fun h11 => ?_) (fun h11 => ?_)
  · skip
    simp only [zb_eq0, Decidable.not_not] at h11
    refine zV_iconst (n := 22) C dX9_status_21 rfl ?_
    refine zS_istore_n_4_2 (n := 23) C dX9_status_22 rfl rfl ?_
    refine zV_iconst (n := 24) C dX9_status_23 rfl ?_
    refine zS_istore_n_4_3 (n := 25) C dX9_status_24 rfl rfl ?_
    refine m_status_loop C (by omega) 7 0 0 (by omega) (by omega) ?_
    refine zV_iload_n (i := 2) (n := 60) C dX9_status_59 rfl rfl rfl ?_
    exact zV_ireturn C hr hlk dX9_status_60 (congrArg (fun z => some (Value.int (zi z))) (zif_t (by omega) rfl)) (zif_t (by omega) rfl)
  · skip
    simp only [zb_eq0, Decidable.not_not] at h11
    refine zV_aload_n (i := 0) (n := 15) C dX9_status_14 rfl rfl rfl ?_
    refine zV_ldc (n := 17) C dX9_status_15 kX9_51 rfl ?_
    refine zV_callV1u (n := 20) C zk8 jX9_finds lX9_75 (m_finds (d := d) (by omega)) dX9_status_17 zs_ref rfl (Nat.le_of_ble_eq_true rfl) (zfit_of (by omega) (by decide)) ⟨Nat.le_refl _, Nat.le_refl _⟩ rfl ?_
    exact zV_ireturn C hr hlk dX9_status_20 (by first | exact congrArg (fun z => some (Value.int (zi z))) (zif_t (by omega) (rfl)) | exact congrArg (fun z => some (Value.int (zi z))) (zif_f (by omega) rfl)) (by first | exact zif_t (by omega) (rfl) | exact zif_f (by omega) rfl)

set_option maxRecDepth 100000 in
set_option maxHeartbeats 4000000 in
theorem m_bribes_loop {Γ : zC} {l : Launch} {d : Nat} {p : Program} {e : Env} {s : State} {m : MethodId} {args : Array Value} {below : List Frame} {meth : Method} {c : Code} {Q : State → Prop} (C : zCx Γ (zAA Γ) p s m args c RX9 cX9_bribes 9) {μ : zMem} {N : Int} (hN : N ≤ 10000) {x n w y md cr : Int} (hx : 0 ≤ x ∧ x < 6) (hn : 1 ≤ n ∧ n ≤ 60) :
    ∀ (i : Nat) (k : Int) (T G : Int → Int) (J : rInv N T) (hy : rAt T x = y) (hoff : (∀ j : Int, ¬ j = 19 + 6 * x + 2 → ¬ j = 4 + 5 * y + 1 → T j = (μ 5 1) j)) (h0 : 0 ≤ k) (hi : k + i = 10) (KK : ∀ (T8 : Int → Int) (v8 : Value), (∀ j : Int, ¬ j = 19 + 6 * x + 2 → ¬ j = 4 + 5 * y + 1 → T8 j = (μ 5 1) j) → zV Γ (zAA Γ) p l e (zRm (d + 8)) s m args below meth c 0 0 Q 87 [.ref (za Γ 5 0), .int (zi x), .int (zi n), .int (zi w), .int (zi y), .int (zi md), .int (zi cr), .int (zi (rBs x n.toNat i T k)), v8] [] (zset (zset μ 5 4 (rBsA x n.toNat i T G)) 5 1 T8)), zV Γ (zAA Γ) p l e (zRm (d + 8)) s m args below meth c 0 0 Q 47 [.ref (za Γ 5 0), .int (zi x), .int (zi n), .int (zi w), .int (zi y), .int (zi md), .int (zi cr), .int (zi (-1)), .int (zi k)] [] (zset (zset μ 5 4 G) 5 1 T) := by
  intro i
  induction i with
  | zero =>
    intro k T G J hy hoff h0 hi KK
    have hk : k = 10 := by omega
    subst hk
    refine zV_iload (n := 49) C dX9_bribes_47 rfl rfl ?_
    refine zV_bipush (n := 51) C dX9_bribes_49 (by decide) rfl ?_
    refine zV_icmp_gt (n := 54) C 87 dX9_bribes_51 (by decide) (by omega) (by omega) rfl (fun h51 => ?_) (fun h => by exfalso; omega)
    exact KK T _ hoff
  | succ i ih =>
    intro k T G J hy hoff h0 hi KK
    have I : rInv N (zset (zset μ 5 4 G) 5 1 T 5 1) := by rw [zset_at]; exact J
    refine zV_iload (n := 49) C dX9_bribes_47 rfl rfl ?_
    refine zV_bipush (n := 51) C dX9_bribes_49 (by decide) rfl ?_
    refine zV_icmp_gt (n := 54) C 87 dX9_bribes_51 (by decide) (by first | omega | exact zb_rg) (by first | omega | exact zb_rg) rfl (fun h => by exfalso; first | omega | exact zb_rg) (fun h51 => ?_)
    refine zV_iload (n := 56) C dX9_bribes_54 rfl rfl ?_
    refine zV_if_ge (n := 59) C 87 dX9_bribes_56 (by decide) (by first | omega | exact zb_rg) rfl (fun h => by exfalso; first | omega | exact zb_rg) (fun h56 => ?_)
    refine zV_aload_n (i := 0) (n := 60) C dX9_bribes_59 rfl rfl rfl ?_
    refine zV_iload_n (i := 1) (n := 61) C dX9_bribes_60 rfl rfl rfl ?_
    refine zV_iload_n (i := 2) (n := 62) C dX9_bribes_61 rfl rfl rfl ?_
    refine zV_callV2u (n := 65) C zk8 jX9_isInStill lX9_187 (m_isInStill (d := d) I (by omega) (by omega) (by omega)) dX9_bribes_62 zs_ref rfl (Nat.le_of_ble_eq_true rfl) (zfit_of (by omega) (by decide)) ⟨Nat.le_refl _, Nat.le_refl _⟩ rfl ?_
    rw [zset_at, zset_swap (by decide)]
    have I : rInv N (zset (zset μ 5 4 T) 5 1 T 5 1) := by rw [zset_at]; exact J
    refine zV_if_eq (n := 68) C 73 dX9_bribes_65 (by decide) (by first | omega | exact zb_rg) rfl (fun h65 => ?_) (fun h65 => ?_)
    · skip
      simp only [zb_eq0, Decidable.not_not] at h65
      rw [show rBs x n.toNat (i + 1) T k = rBs x n.toNat i (rBr T x) (k + 1) from by rw [rBs]; exact if_neg h65, show rBsA x n.toNat (i + 1) T G = rBsA x n.toNat i (rBr T x) T from by rw [rBsA]; exact if_neg h65] at KK
      refine zV_iconst (n := 74) C dX9_bribes_73 rfl ?_
      refine zS_istore_9_7 (n := 76) C dX9_bribes_74 rfl rfl ?_
      refine zV_aload_n (i := 0) (n := 77) C dX9_bribes_76 rfl rfl rfl ?_
      refine zV_iload_n (i := 1) (n := 78) C dX9_bribes_77 rfl rfl rfl ?_
      refine zV_callV1v (n := 81) C zk8 jX9_bribed lX9_136 (m_bribed (d := d) I (by omega)) dX9_bribes_78 zs_ref rfl (Nat.le_of_ble_eq_true rfl) (zfit_of (by omega) (by decide)) ⟨Nat.le_refl _, Nat.le_refl _⟩ rfl ?_
      rw [zset_set, zset_at]
      refine zS_iinc_9_8 (n := 84) C dX9_bribes_81 rfl rfl ?_
      refine zV_goto C 47 dX9_bribes_84 (by decide) ?_
      exact ih (k + 1) (rBr T x) T (rBr_inv J hx) (by rw [rBr_at hx.1]; exact hy) (fun j j1 j2 => by rw [rBr_off j1 (by rw [hy]; exact j2)]; exact hoff j j1 j2) (by omega) (by omega) KK
    · skip
      simp only [zb_eq0, Decidable.not_not] at h65
      rw [show rBs x n.toNat (i + 1) T k = k from by rw [rBs]; exact if_pos h65, show rBsA x n.toNat (i + 1) T G = T from by rw [rBsA]; exact if_pos h65] at KK
      refine zV_iload (n := 70) C dX9_bribes_68 rfl rfl ?_
      refine zV_goto C 74 dX9_bribes_70 (by decide) ?_
      refine zS_istore_9_7 (n := 76) C dX9_bribes_74 rfl rfl ?_
      refine zV_aload_n (i := 0) (n := 77) C dX9_bribes_76 rfl rfl rfl ?_
      refine zV_iload_n (i := 1) (n := 78) C dX9_bribes_77 rfl rfl rfl ?_
      refine zV_callV1v (n := 81) C zk8 jX9_bribed lX9_136 (m_bribed (d := d) I (by omega)) dX9_bribes_78 zs_ref rfl (Nat.le_of_ble_eq_true rfl) (zfit_of (by omega) (by decide)) ⟨Nat.le_refl _, Nat.le_refl _⟩ rfl ?_
      rw [zset_set, zset_at]
      refine zS_iinc_9_8 (n := 84) C dX9_bribes_81 rfl rfl ?_
      refine zV_goto C 47 dX9_bribes_84 (by decide) ?_
      refine zV_iload (n := 49) C dX9_bribes_47 rfl rfl ?_
      refine zV_bipush (n := 51) C dX9_bribes_49 (by decide) rfl ?_
      refine zV_icmp_gt (n := 54) C 87 dX9_bribes_51 (by decide) (by first | omega | exact zb_rg) (by first | omega | exact zb_rg) rfl (fun h51 => ?_) (fun h51 => ?_)
      · skip
        exact KK (rBr T x) _ (fun j j1 j2 => by rw [rBr_off j1 (by rw [hy]; exact j2)]; exact hoff j j1 j2)
      · skip
        refine zV_iload (n := 56) C dX9_bribes_54 rfl rfl ?_
        refine zV_if_ge (n := 59) C 87 dX9_bribes_56 (by decide) (by first | omega | exact zb_rg) rfl (fun h56 => ?_) (fun h => by exfalso; first | omega | exact zb_rg)
        exact KK (rBr T x) _ (fun j j1 j2 => by rw [rBr_off j1 (by rw [hy]; exact j2)]; exact hoff j j1 j2)

set_option maxRecDepth 100000 in
set_option maxHeartbeats 4000000 in
theorem m_bribes {Γ : zC} {l : Launch} {d : Nat} {μ : zMem} {N : Int} (I : rInv N (μ 5 1)) (hN : N ≤ 10000) {x n : Int} (hx : -2147483648 ≤ x ∧ x ≤ 2147483647) (hn : -2147483648 ≤ n ∧ n ≤ 2147483647) : zRet Γ l (d + 8) qX9_bribes [.ref (za Γ 5 0), .int (zi x), .int (zi n)] μ (some (.int (zi (if rWst (μ 5 1) x n = 0 then (if 0 ≤ rBs x n.toNat 10 (μ 5 1) 0 then rBs x n.toNat 10 (μ 5 1) 0 else -1000000004) else rWst (μ 5 1) x n)))) (if rWst (μ 5 1) x n = 0 then (if 0 ≤ rBs x n.toNat 10 (μ 5 1) 0 then (zset μ 5 4 (rBsA x n.toNat 10 (μ 5 1) (μ 5 4))) else zset (zset μ 5 4 (rBsA x n.toNat 10 (μ 5 1) (μ 5 4))) 5 5 (rFind (μ 5 5) (-1000000004))) else zset μ 5 5 (rFind (μ 5 5) (rWst (μ 5 1) x n))) := by
  refine zRet.mk 6 [.ref (za Γ 5 0), .int (zi x), .int (zi n), .null, .null, .null, .null, .null, .null] RX9 rfl (by decide +kernel) (Nat.le_of_ble_eq_true rfl) rfl ?_
  intro p e s m below meth c C hr hlk
  have h0 := I.1
  have hw := rWst_rg (μ 5 1) x n
  have ha := rAt_rg (μ 5 1) x
  refine zV_aload_n (i := 0) (n := 1) C dX9_bribes_0 rfl rfl rfl ?_
  refine zV_iload_n (i := 1) (n := 2) C dX9_bribes_1 rfl rfl rfl ?_
  refine zV_iload_n (i := 2) (n := 3) C dX9_bribes_2 rfl rfl rfl ?_
  refine zV_callV2u (n := 6) C zk8 jX9_wrongStay lX9_184 (m_wrongStay (d := d) I (by omega) (by omega)) dX9_bribes_3 zs_ref rfl (Nat.le_of_ble_eq_true rfl) (zfit_of (by omega) (by decide)) ⟨Nat.le_refl _, Nat.le_refl _⟩ rfl ?_
  refine zS_istore_n_9_3 (n := 7) C dX9_bribes_6 rfl rfl ?_
  refine zV_iload_n (i := 3) (n := 8) C dX9_bribes_7 rfl rfl rfl ?_
  refine zV_if_eq (n := 11) C 17 dX9_bribes_8 (by decide) (by first | omega | exact zb_rg) rfl (fun h8 => ?_) (fun h8 => ?_)
  · skip
    have hx7 : 0 ≤ x ∧ x < 6 := by unfold rWst at h8 hw; revert h8; (repeat' split) <;> omega
    refine zV_aload_n (i := 0) (n := 18) C dX9_bribes_17 rfl rfl rfl ?_
    refine zV_iload_n (i := 1) (n := 19) C dX9_bribes_18 rfl rfl rfl ?_
    refine zV_callV1u (n := 22) C zk8 jX9_seatedAt lX9_91 (m_seatedAt (d := d) I (by omega)) dX9_bribes_19 zs_ref rfl (Nat.le_of_ble_eq_true rfl) (zfit_of (by omega) (by decide)) ⟨Nat.le_refl _, Nat.le_refl _⟩ rfl ?_
    refine zS_istore_9_4 (n := 24) C dX9_bribes_22 rfl rfl ?_
    refine zV_aload_n (i := 0) (n := 25) C dX9_bribes_24 rfl rfl rfl ?_
    refine zV_iload_n (i := 1) (n := 26) C dX9_bribes_25 rfl rfl rfl ?_
    refine zV_iconst (n := 27) C dX9_bribes_26 rfl ?_
    refine zV_callV2u (n := 30) C zk8 jX9_told lX9_94 (m_told (d := d) (by omega)) dX9_bribes_27 zs_ref rfl (Nat.le_of_ble_eq_true rfl) (zfit_of (by omega) (by decide)) ⟨Nat.le_refl _, Nat.le_refl _⟩ rfl ?_
    refine zS_istore_9_5 (n := 32) C dX9_bribes_30 rfl rfl ?_
    have hs9 : 0 ≤ rAt (μ 5 1) x := by unfold rWst at h8 hw; revert h8; (repeat' split) <;> omega
    refine zV_aload_n (i := 0) (n := 33) C dX9_bribes_32 rfl rfl rfl ?_
    refine zV_iload (n := 35) C dX9_bribes_33 rfl rfl ?_
    refine zV_iconst (n := 36) C dX9_bribes_35 rfl ?_
    refine zV_callV2u (n := 39) C zk8 jX9_its lX9_63 (m_its (d := d) (by omega)) dX9_bribes_36 zs_ref rfl (Nat.le_of_ble_eq_true rfl) (zfit_of (by omega) (by decide)) ⟨Nat.le_refl _, Nat.le_refl _⟩ rfl ?_
    refine zS_istore_9_6 (n := 41) C dX9_bribes_39 rfl rfl ?_
    refine zV_iconst (n := 42) C dX9_bribes_41 rfl ?_
    refine zS_istore_9_7 (n := 44) C dX9_bribes_42 rfl rfl ?_
    refine zV_iconst (n := 45) C dX9_bribes_44 rfl ?_
    refine zS_istore_9_8 (n := 47) C dX9_bribes_45 rfl rfl ?_
    have hx6 : 0 ≤ x ∧ x < 6 := by unfold rWst at h8 hw; revert h8; (repeat' split) <;> omega
    have hn6 : 1 ≤ n ∧ n ≤ 60 := by unfold rWst at h8 hw; revert h8; (repeat' split) <;> omega
    refine zV_eqm (μ' := zset (zset μ 5 4 (μ 5 4)) 5 1 (μ 5 1)) (by rw [zset_self, zset_self]) ?_
    refine m_bribes_loop C hN hx6 hn6 10 0 (μ 5 1) (μ 5 4) I rfl (fun j _ _ => rfl) (by omega) (by omega) (fun T8 v8 hT => ?_)
    have hb := rBs_rg (x := x) (n := n.toNat) (i := 10) (S := (μ 5 1)) (k := 0) (by omega)
    refine zV_aload_n (i := 0) (n := 88) C dX9_bribes_87 rfl rfl rfl ?_
    refine zV_getP (f := 0) (n := 91) C zk8 fX9_7 dX9_bribes_88 zs_ref rfl (by decide) rfl ?_
    refine zV_iload_n (i := 1) (n := 92) C dX9_bribes_91 rfl rfl rfl ?_
    refine zV_iconst (n := 93) C dX9_bribes_92 rfl ?_
    refine zV_callS2u (n := 96) C jX9_placeOf lX9_60 (m_placeOf (d := d) ) dX9_bribes_93 (Nat.le_of_ble_eq_true rfl) (zfit_of (by omega) (by decide)) ⟨Nat.le_refl _, Nat.le_refl _⟩ rfl ?_
    refine zV_iload (n := 98) C dX9_bribes_96 rfl rfl ?_
    refine zV_iast (n := 99) C dX9_bribes_98 zs_s (by first | omega | exact zb_rg) (by decide) rfl ?_
    rw [zup_set]
    refine zV_aload_n (i := 0) (n := 100) C dX9_bribes_99 rfl rfl rfl ?_
    refine zV_getP (f := 0) (n := 103) C zk8 fX9_7 dX9_bribes_100 zs_ref rfl (by decide) rfl ?_
    refine zV_iload (n := 105) C dX9_bribes_103 rfl rfl ?_
    refine zV_iconst (n := 106) C dX9_bribes_105 rfl ?_
    refine zV_callS2u (n := 109) C jX9_spotOf lX9_47 (m_spotOf (d := d) ) dX9_bribes_106 (Nat.le_of_ble_eq_true rfl) (zfit_of (by omega) (by decide)) ⟨Nat.le_refl _, Nat.le_refl _⟩ rfl ?_
    refine zV_iload (n := 111) C dX9_bribes_109 rfl rfl ?_
    refine zV_iast (n := 112) C dX9_bribes_111 zs_s (by first | omega | exact zb_rg) (by decide) rfl ?_
    rw [zup_set]
    refine zV_eqm (μ' := (zset μ 5 4 (rBsA x n.toNat 10 (μ 5 1) (μ 5 4)))) (rBs_back hT) ?_
    refine zV_iload (n := 114) C dX9_bribes_112 rfl rfl ?_
    refine zV_if_ge (n := 117) C 126 dX9_bribes_114 (by decide) (by first | omega | exact zb_rg) rfl (fun h114 => ?_) (fun h114 => ?_)
    · skip
      refine zV_iload (n := 128) C dX9_bribes_126 rfl rfl ?_
      exact zV_ireturn C hr hlk dX9_bribes_128 (by first | exact congrArg (fun z => some (Value.int (zi z))) (zif_t (by omega) (zif_t (by omega) rfl)) | exact congrArg (fun z => some (Value.int (zi z))) (zif_t (by omega) (zif_f (by omega) rfl))) (by first | exact zif_t (by omega) (zif_t (by omega) rfl) | exact zif_t (by omega) (zif_f (by omega) rfl))
    · skip
      refine zV_aload_n (i := 0) (n := 118) C dX9_bribes_117 rfl rfl rfl ?_
      refine zV_ldc (n := 120) C dX9_bribes_118 kX9_163 rfl ?_
      refine zV_callV1u (n := 123) C zk8 jX9_finds lX9_75 (m_finds (d := d) (by omega)) dX9_bribes_120 zs_ref rfl (Nat.le_of_ble_eq_true rfl) (zfit_of (by omega) (by decide)) ⟨Nat.le_refl _, Nat.le_refl _⟩ rfl ?_
      rw [show (zset μ 5 4 (rBsA x n.toNat 10 (μ 5 1) (μ 5 4))) 5 5 = μ 5 5 from zset_ne (by decide)]
      refine zV_goto C 128 dX9_bribes_123 (by decide) ?_
      exact zV_ireturn C hr hlk dX9_bribes_128 (by first | exact congrArg (fun z => some (Value.int (zi z))) (zif_t (by omega) (zif_t (by omega) rfl)) | exact congrArg (fun z => some (Value.int (zi z))) (zif_t (by omega) (zif_f (by omega) rfl))) (by first | exact zif_t (by omega) (zif_t (by omega) rfl) | exact zif_t (by omega) (zif_f (by omega) rfl))
  · skip
    refine zV_aload_n (i := 0) (n := 12) C dX9_bribes_11 rfl rfl rfl ?_
    refine zV_iload_n (i := 3) (n := 13) C dX9_bribes_12 rfl rfl rfl ?_
    refine zV_callV1u (n := 16) C zk8 jX9_finds lX9_75 (m_finds (d := d) (by omega)) dX9_bribes_13 zs_ref rfl (Nat.le_of_ble_eq_true rfl) (zfit_of (by omega) (by decide)) ⟨Nat.le_refl _, Nat.le_refl _⟩ rfl ?_
    exact zV_ireturn C hr hlk dX9_bribes_16 (by first | exact congrArg (fun z => some (Value.int (zi z))) (zif_t (by omega) (rfl)) | exact congrArg (fun z => some (Value.int (zi z))) (zif_f (by omega) rfl)) (by first | exact zif_t (by omega) (rfl) | exact zif_f (by omega) rfl)

set_option maxRecDepth 100000 in
set_option maxHeartbeats 4000000 in
theorem m_mood_loop {Γ : zC} {l : Launch} {d : Nat} {p : Program} {e : Env} {s : State} {m : MethodId} {args : Array Value} {below : List Frame} {meth : Method} {c : Code} {Q : State → Prop} (C : zCx Γ (zAA Γ) p s m args c RX9 cX9_mood 7) {μ : zMem} {N : Int} (J : rInv N (μ 5 1)) (hN : N ≤ 10000) {x n w md : Int} (hx : 0 ≤ x ∧ x < 6) (hn : 1 ≤ n ∧ n ≤ 60) :
    ∀ (i : Nat) (v q : Int) (G : Int → Int) (h0 : 0 ≤ v) (hi : v + i = 10) (KK : ∀ (q8 : Int) (v8 : Value), zV Γ (zAA Γ) p l e (zRm (d + 8)) s m args below meth c 0 0 Q 78 [.ref (za Γ 5 0), .int (zi x), .int (zi n), .int (zi w), .int (zi md), .int (zi (rMd x n.toNat (μ 5 1) i v)), v8] [] (zset (zset μ 5 4 (rMdA x n.toNat (μ 5 1) i v G)) 5 1 (zfu (μ 5 1) (19 + 6 * x + 2) q8))), zV Γ (zAA Γ) p l e (zRm (d + 8)) s m args below meth c 0 0 Q 31 [.ref (za Γ 5 0), .int (zi x), .int (zi n), .int (zi w), .int (zi md), .int (zi (-1)), .int (zi v)] [] (zset (zset μ 5 4 G) 5 1 (zfu (μ 5 1) (19 + 6 * x + 2) q)) := by
  intro i
  induction i with
  | zero =>
    intro v q G h0 hi KK
    have hk : v = 10 := by omega
    subst hk
    refine zV_iload (n := 33) C dX9_mood_31 rfl rfl ?_
    refine zV_bipush (n := 35) C dX9_mood_33 (by decide) rfl ?_
    refine zV_icmp_gt (n := 38) C 78 dX9_mood_35 (by decide) (by omega) (by omega) rfl (fun h35 => ?_) (fun h => by exfalso; omega)
    exact KK q _
  | succ i ih =>
    intro v q G h0 hi KK
    have Jv : rInv N (zfu (μ 5 1) (19 + 6 * x + 2) v) := rInv_kid J hx (by omega) (by simp; omega)
    refine zV_iload (n := 33) C dX9_mood_31 rfl rfl ?_
    refine zV_bipush (n := 35) C dX9_mood_33 (by decide) rfl ?_
    refine zV_icmp_gt (n := 38) C 78 dX9_mood_35 (by decide) (by first | omega | exact zb_rg) (by first | omega | exact zb_rg) rfl (fun h => by exfalso; first | omega | exact zb_rg) (fun h35 => ?_)
    refine zV_iload (n := 40) C dX9_mood_38 rfl rfl ?_
    refine zV_if_ge (n := 43) C 78 dX9_mood_40 (by decide) (by first | omega | exact zb_rg) rfl (fun h => by exfalso; first | omega | exact zb_rg) (fun h40 => ?_)
    refine zV_aload_n (i := 0) (n := 44) C dX9_mood_43 rfl rfl rfl ?_
    refine zV_getP (f := 0) (n := 47) C zk8 fX9_7 dX9_mood_44 zs_ref rfl (by decide) rfl ?_
    refine zV_iload_n (i := 1) (n := 48) C dX9_mood_47 rfl rfl rfl ?_
    refine zV_iconst (n := 49) C dX9_mood_48 rfl ?_
    refine zV_callS2u (n := 52) C jX9_placeOf lX9_60 (m_placeOf (d := d) ) dX9_mood_49 (Nat.le_of_ble_eq_true rfl) (zfit_of (by omega) (by decide)) ⟨Nat.le_refl _, Nat.le_refl _⟩ rfl ?_
    refine zV_iload (n := 54) C dX9_mood_52 rfl rfl ?_
    refine zV_iast (n := 55) C dX9_mood_54 zs_s (by first | omega | exact zb_rg) (by decide) rfl ?_
    rw [zup_set, zfu_fu]
    have I : rInv N (zset (zset μ 5 4 G) 5 1 (zfu (μ 5 1) (19 + 6 * x + 2) v) 5 1) := by rw [zset_at]; exact Jv
    refine zV_aload_n (i := 0) (n := 56) C dX9_mood_55 rfl rfl rfl ?_
    refine zV_iload_n (i := 1) (n := 57) C dX9_mood_56 rfl rfl rfl ?_
    refine zV_iload_n (i := 2) (n := 58) C dX9_mood_57 rfl rfl rfl ?_
    refine zV_callV2u (n := 61) C zk8 jX9_isInStill lX9_187 (m_isInStill (d := d) I (by omega) (by omega) (by omega)) dX9_mood_58 zs_ref rfl (Nat.le_of_ble_eq_true rfl) (zfit_of (by omega) (by decide)) ⟨Nat.le_refl _, Nat.le_refl _⟩ rfl ?_
    rw [zset_at, zset_swap (by decide)]
    refine zV_if_eq (n := 64) C 69 dX9_mood_61 (by decide) (by first | omega | exact zb_rg) rfl (fun h61 => ?_) (fun h61 => ?_)
    · skip
      simp only [zb_eq0, Decidable.not_not] at h61
      rw [show rMd x n.toNat (μ 5 1) (i + 1) v = rMd x n.toNat (μ 5 1) i (v + 1) from by rw [rMd]; exact if_neg h61, show rMdA x n.toNat (μ 5 1) (i + 1) v G = rMdA x n.toNat (μ 5 1) i (v + 1) (zfu (μ 5 1) (19 + 6 * x + 2) v) from by rw [rMdA]; exact if_neg h61] at KK
      refine zV_iconst (n := 70) C dX9_mood_69 rfl ?_
      refine zS_istore_7_5 (n := 72) C dX9_mood_70 rfl rfl ?_
      refine zS_iinc_7_6 (n := 75) C dX9_mood_72 rfl rfl ?_
      refine zV_goto C 31 dX9_mood_75 (by decide) ?_
      exact ih (v + 1) v _ (by omega) (by omega) KK
    · skip
      simp only [zb_eq0, Decidable.not_not] at h61
      rw [show rMd x n.toNat (μ 5 1) (i + 1) v = v from by rw [rMd]; exact if_pos h61, show rMdA x n.toNat (μ 5 1) (i + 1) v G = (zfu (μ 5 1) (19 + 6 * x + 2) v) from by rw [rMdA]; exact if_pos h61] at KK
      refine zV_iload (n := 66) C dX9_mood_64 rfl rfl ?_
      refine zV_goto C 70 dX9_mood_66 (by decide) ?_
      refine zS_istore_7_5 (n := 72) C dX9_mood_70 rfl rfl ?_
      refine zS_iinc_7_6 (n := 75) C dX9_mood_72 rfl rfl ?_
      refine zV_goto C 31 dX9_mood_75 (by decide) ?_
      refine zV_iload (n := 33) C dX9_mood_31 rfl rfl ?_
      refine zV_bipush (n := 35) C dX9_mood_33 (by decide) rfl ?_
      refine zV_icmp_gt (n := 38) C 78 dX9_mood_35 (by decide) (by first | omega | exact zb_rg) (by first | omega | exact zb_rg) rfl (fun h35 => ?_) (fun h35 => ?_)
      · skip
        exact KK v _
      · skip
        refine zV_iload (n := 40) C dX9_mood_38 rfl rfl ?_
        refine zV_if_ge (n := 43) C 78 dX9_mood_40 (by decide) (by first | omega | exact zb_rg) rfl (fun h40 => ?_) (fun h => by exfalso; first | omega | exact zb_rg)
        exact KK v _

set_option maxRecDepth 100000 in
set_option maxHeartbeats 4000000 in
theorem m_mood {Γ : zC} {l : Launch} {d : Nat} {μ : zMem} {N : Int} (I : rInv N (μ 5 1)) (hN : N ≤ 10000) {x n : Int} (hx : -2147483648 ≤ x ∧ x ≤ 2147483647) (hn : -2147483648 ≤ n ∧ n ≤ 2147483647) : zRet Γ l (d + 8) qX9_mood [.ref (za Γ 5 0), .int (zi x), .int (zi n)] μ (some (.int (zi (if rWst (μ 5 1) x n = 0 then (if 0 ≤ rMd x n.toNat (μ 5 1) 10 0 then rMd x n.toNat (μ 5 1) 10 0 else -1000000004) else rWst (μ 5 1) x n)))) (if rWst (μ 5 1) x n = 0 then (if 0 ≤ rMd x n.toNat (μ 5 1) 10 0 then (zset μ 5 4 (rMdA x n.toNat (μ 5 1) 10 0 (μ 5 4))) else zset (zset μ 5 4 (rMdA x n.toNat (μ 5 1) 10 0 (μ 5 4))) 5 5 (rFind (μ 5 5) (-1000000004))) else zset μ 5 5 (rFind (μ 5 5) (rWst (μ 5 1) x n))) := by
  refine zRet.mk 4 [.ref (za Γ 5 0), .int (zi x), .int (zi n), .null, .null, .null, .null] RX9 rfl (by decide +kernel) (Nat.le_of_ble_eq_true rfl) rfl ?_
  intro p e s m below meth c C hr hlk
  have h0 := I.1
  have hw := rWst_rg (μ 5 1) x n
  have ha := rAt_rg (μ 5 1) x
  refine zV_aload_n (i := 0) (n := 1) C dX9_mood_0 rfl rfl rfl ?_
  refine zV_iload_n (i := 1) (n := 2) C dX9_mood_1 rfl rfl rfl ?_
  refine zV_iload_n (i := 2) (n := 3) C dX9_mood_2 rfl rfl rfl ?_
  refine zV_callV2u (n := 6) C zk8 jX9_wrongStay lX9_184 (m_wrongStay (d := d) I (by omega) (by omega)) dX9_mood_3 zs_ref rfl (Nat.le_of_ble_eq_true rfl) (zfit_of (by omega) (by decide)) ⟨Nat.le_refl _, Nat.le_refl _⟩ rfl ?_
  refine zS_istore_n_7_3 (n := 7) C dX9_mood_6 rfl rfl ?_
  refine zV_iload_n (i := 3) (n := 8) C dX9_mood_7 rfl rfl rfl ?_
  refine zV_if_eq (n := 11) C 17 dX9_mood_8 (by decide) (by first | omega | exact zb_rg) rfl (fun h8 => ?_) (fun h8 => ?_)
  · skip
    have hx7 : 0 ≤ x ∧ x < 6 := by unfold rWst at h8 hw; revert h8; (repeat' split) <;> omega
    refine zV_aload_n (i := 0) (n := 18) C dX9_mood_17 rfl rfl rfl ?_
    refine zV_iload_n (i := 1) (n := 19) C dX9_mood_18 rfl rfl rfl ?_
    refine zV_iconst (n := 20) C dX9_mood_19 rfl ?_
    refine zV_callV2u (n := 23) C zk8 jX9_told lX9_94 (m_told (d := d) (by omega)) dX9_mood_20 zs_ref rfl (Nat.le_of_ble_eq_true rfl) (zfit_of (by omega) (by decide)) ⟨Nat.le_refl _, Nat.le_refl _⟩ rfl ?_
    refine zS_istore_7_4 (n := 25) C dX9_mood_23 rfl rfl ?_
    refine zV_iconst (n := 26) C dX9_mood_25 rfl ?_
    refine zS_istore_7_5 (n := 28) C dX9_mood_26 rfl rfl ?_
    refine zV_iconst (n := 29) C dX9_mood_28 rfl ?_
    refine zS_istore_7_6 (n := 31) C dX9_mood_29 rfl rfl ?_
    have hx6 : 0 ≤ x ∧ x < 6 := by unfold rWst at h8 hw; revert h8; (repeat' split) <;> omega
    have hn6 : 1 ≤ n ∧ n ≤ 60 := by unfold rWst at h8 hw; revert h8; (repeat' split) <;> omega
    refine zV_eqm (μ' := zset (zset μ 5 4 (μ 5 4)) 5 1 (zfu (μ 5 1) (19 + 6 * x + 2) (toS (μ 5 1) x 2))) (by rw [zfu_toS, zset_self, zset_self]) ?_
    refine m_mood_loop C I hN hx6 hn6 10 0 (toS (μ 5 1) x 2) (μ 5 4) (by omega) (by omega) (fun q8 v8 => ?_)
    have hb := rMd_rg (x := x) (n := n.toNat) (i := 10) (S := (μ 5 1)) (k := 0) (by omega)
    refine zV_aload_n (i := 0) (n := 79) C dX9_mood_78 rfl rfl rfl ?_
    refine zV_getP (f := 0) (n := 82) C zk8 fX9_7 dX9_mood_79 zs_ref rfl (by decide) rfl ?_
    refine zV_iload_n (i := 1) (n := 83) C dX9_mood_82 rfl rfl rfl ?_
    refine zV_iconst (n := 84) C dX9_mood_83 rfl ?_
    refine zV_callS2u (n := 87) C jX9_placeOf lX9_60 (m_placeOf (d := d) ) dX9_mood_84 (Nat.le_of_ble_eq_true rfl) (zfit_of (by omega) (by decide)) ⟨Nat.le_refl _, Nat.le_refl _⟩ rfl ?_
    refine zV_iload (n := 89) C dX9_mood_87 rfl rfl ?_
    refine zV_iast (n := 90) C dX9_mood_89 zs_s (by first | omega | exact zb_rg) (by decide) rfl ?_
    rw [zup_set, zfu_fu, zfu_toS, zset_old (by decide)]
    refine zV_iload (n := 92) C dX9_mood_90 rfl rfl ?_
    refine zV_if_ge (n := 95) C 104 dX9_mood_92 (by decide) (by first | omega | exact zb_rg) rfl (fun h92 => ?_) (fun h92 => ?_)
    · skip
      refine zV_iload (n := 106) C dX9_mood_104 rfl rfl ?_
      exact zV_ireturn C hr hlk dX9_mood_106 (by first | exact congrArg (fun z => some (Value.int (zi z))) (zif_t (by omega) (zif_t (by omega) rfl)) | exact congrArg (fun z => some (Value.int (zi z))) (zif_t (by omega) (zif_f (by omega) rfl))) (by first | exact zif_t (by omega) (zif_t (by omega) rfl) | exact zif_t (by omega) (zif_f (by omega) rfl))
    · skip
      refine zV_aload_n (i := 0) (n := 96) C dX9_mood_95 rfl rfl rfl ?_
      refine zV_ldc (n := 98) C dX9_mood_96 kX9_163 rfl ?_
      refine zV_callV1u (n := 101) C zk8 jX9_finds lX9_75 (m_finds (d := d) (by omega)) dX9_mood_98 zs_ref rfl (Nat.le_of_ble_eq_true rfl) (zfit_of (by omega) (by decide)) ⟨Nat.le_refl _, Nat.le_refl _⟩ rfl ?_
      rw [show (zset μ 5 4 (rMdA x n.toNat (μ 5 1) 10 0 (μ 5 4))) 5 5 = μ 5 5 from zset_ne (by decide)]
      refine zV_goto C 106 dX9_mood_101 (by decide) ?_
      exact zV_ireturn C hr hlk dX9_mood_106 (by first | exact congrArg (fun z => some (Value.int (zi z))) (zif_t (by omega) (zif_t (by omega) rfl)) | exact congrArg (fun z => some (Value.int (zi z))) (zif_t (by omega) (zif_f (by omega) rfl))) (by first | exact zif_t (by omega) (zif_t (by omega) rfl) | exact zif_t (by omega) (zif_f (by omega) rfl))
  · skip
    refine zV_aload_n (i := 0) (n := 12) C dX9_mood_11 rfl rfl rfl ?_
    refine zV_iload_n (i := 3) (n := 13) C dX9_mood_12 rfl rfl rfl ?_
    refine zV_callV1u (n := 16) C zk8 jX9_finds lX9_75 (m_finds (d := d) (by omega)) dX9_mood_13 zs_ref rfl (Nat.le_of_ble_eq_true rfl) (zfit_of (by omega) (by decide)) ⟨Nat.le_refl _, Nat.le_refl _⟩ rfl ?_
    exact zV_ireturn C hr hlk dX9_mood_16 (by first | exact congrArg (fun z => some (Value.int (zi z))) (zif_t (by omega) (rfl)) | exact congrArg (fun z => some (Value.int (zi z))) (zif_f (by omega) rfl)) (by first | exact zif_t (by omega) (rfl) | exact zif_f (by omega) rfl)

set_option maxRecDepth 100000 in
set_option maxHeartbeats 4000000 in
theorem m_worst_loop {Γ : zC} {l : Launch} {d : Nat} {p : Program} {e : Env} {s : State} {m : MethodId} {args : Array Value} {below : List Frame} {meth : Method} {c : Code} {Q : State → Prop} (C : zCx Γ (zAA Γ) p s m args c RX9 cX9_worst 5) {μ : zMem} {N : Int} {T : Int → Int} (J : rInv N T) {n : Int} {sit : Int32} :
    ∀ (i : Nat) (k b : Int) (h0 : 0 ≤ k) (hi : k + i = T 0) (hb : -1 ≤ b ∧ b < k) (KK : zV Γ (zAA Γ) p l e (zRm (d + 7)) s m args below meth c 0 0 Q 92 [.ref (za Γ 5 0), .int (zi n), .int sit, .int (zi (rWo T sit i k b)), .int (zi (T 0))] [] (zset (zset μ 5 4 (μ 5 1)) 5 1 T)), zV Γ (zAA Γ) p l e (zRm (d + 7)) s m args below meth c 0 0 Q 38 [.ref (za Γ 5 0), .int (zi n), .int sit, .int (zi b), .int (zi k)] [] (zset (zset μ 5 4 (μ 5 1)) 5 1 T) := by
  intro i
  induction i with
  | zero =>
    intro k b h0 hi hb KK
    have h6 := J.1
    have I : rInv N ((zset (zset μ 5 4 (μ 5 1)) 5 1 T) 5 1) := by rw [zset_at]; exact J
    have hk : k = T 0 := by omega
    subst hk
    refine zV_iload (n := 40) C dX9_worst_38 rfl rfl ?_
    refine zV_aload_n (i := 0) (n := 41) C dX9_worst_40 rfl rfl rfl ?_
    refine zV_getP (f := 0) (n := 44) C zk8 fX9_7 dX9_worst_41 zs_ref rfl (by decide) rfl ?_
    refine zV_iconst (n := 45) C dX9_worst_44 rfl ?_
    refine zV_iald (n := 46) C dX9_worst_45 zs_s (by omega) (by decide) rfl ?_
    simp only [zset_at]
    refine zV_icmp_ge (n := 49) C 92 dX9_worst_46 (by decide) (by omega) (by omega) rfl (fun h46 => ?_) (fun h => by exfalso; omega)
    exact KK
  | succ i ih =>
    intro k b h0 hi hb KK
    have h6 := J.1
    have I : rInv N ((zset (zset μ 5 4 (μ 5 1)) 5 1 T) 5 1) := by rw [zset_at]; exact J
    refine zV_iload (n := 40) C dX9_worst_38 rfl rfl ?_
    refine zV_aload_n (i := 0) (n := 41) C dX9_worst_40 rfl rfl rfl ?_
    refine zV_getP (f := 0) (n := 44) C zk8 fX9_7 dX9_worst_41 zs_ref rfl (by decide) rfl ?_
    refine zV_iconst (n := 45) C dX9_worst_44 rfl ?_
    refine zV_iald (n := 46) C dX9_worst_45 zs_s (by first | omega | exact zb_rg) (by decide) rfl ?_
    simp only [zset_at]
    refine zV_icmp_ge (n := 49) C 92 dX9_worst_46 (by decide) (by first | omega | exact zb_rg) (by first | omega | exact zb_rg) rfl (fun h => by exfalso; first | omega | exact zb_rg) (fun h46 => ?_)
    refine zV_iload_n (i := 2) (n := 50) C dX9_worst_49 rfl rfl rfl ?_
    refine zV_iload (n := 52) C dX9_worst_50 rfl rfl ?_
    refine zV_ishr0 (n := 53) C dX9_worst_52 rfl ?_
    refine zV_iconst (n := 54) C dX9_worst_53 rfl ?_
    refine zV_iand0 (n := 55) C dX9_worst_54 rfl ?_
    refine zV_iconst (n := 56) C dX9_worst_55 rfl ?_
    refine zV_icmp0_ne (n := 59) C 84 dX9_worst_56 (by decide) rfl (fun h56 => ?_) (fun h56 => ?_)
    · skip
      refine zV_iload_n (i := 3) (n := 85) C dX9_worst_84 rfl rfl rfl ?_
      refine zS_istore_n_5_3 (n := 86) C dX9_worst_85 rfl rfl ?_
      refine zS_iinc_5_4 (n := 89) C dX9_worst_86 rfl rfl ?_
      refine zV_goto C 38 dX9_worst_89 (by decide) ?_
      rw [show rWo T sit (i + 1) k b = rWo T sit i (k + 1) b from by rw [rWo]; exact congrArg _ (if_neg (fun q => h56 q.1))] at KK
      exact ih _ _ (by omega) (by omega) (by omega) KK
    · skip
      refine zV_iload_n (i := 3) (n := 60) C dX9_worst_59 rfl rfl rfl ?_
      refine zV_if_lt (n := 63) C 79 dX9_worst_60 (by decide) (by first | omega | exact zb_rg) rfl (fun h60 => ?_) (fun h60 => ?_)
      · skip
        refine zV_iload (n := 81) C dX9_worst_79 rfl rfl ?_
        refine zV_goto C 85 dX9_worst_81 (by decide) ?_
        refine zS_istore_n_5_3 (n := 86) C dX9_worst_85 rfl rfl ?_
        refine zS_iinc_5_4 (n := 89) C dX9_worst_86 rfl rfl ?_
        refine zV_goto C 38 dX9_worst_89 (by decide) ?_
        rw [show rWo T sit (i + 1) k b = rWo T sit i (k + 1) k from by rw [rWo]; exact congrArg _ (if_pos ⟨h56, Or.inl h60⟩)] at KK
        exact ih _ _ (by omega) (by omega) (by omega) KK
      · skip
        have hc := J.2.2.2.2.2.1 k (by omega) (by omega)
        have hc2 := J.2.2.2.2.2.1 b (by omega) (by omega)
        refine zV_aload_n (i := 0) (n := 64) C dX9_worst_63 rfl rfl rfl ?_
        refine zV_iload (n := 66) C dX9_worst_64 rfl rfl ?_
        refine zV_iconst (n := 67) C dX9_worst_66 rfl ?_
        refine zV_callV2u (n := 70) C zk8 jX9_told lX9_94 (m_told (d := d) (by omega)) dX9_worst_67 zs_ref rfl (Nat.le_of_ble_eq_true rfl) (zfit_of (by omega) (by decide)) ⟨Nat.le_refl _, Nat.le_refl _⟩ rfl ?_
        simp only [zset_at]
        refine zV_aload_n (i := 0) (n := 71) C dX9_worst_70 rfl rfl rfl ?_
        refine zV_iload_n (i := 3) (n := 72) C dX9_worst_71 rfl rfl rfl ?_
        refine zV_iconst (n := 73) C dX9_worst_72 rfl ?_
        refine zV_callV2u (n := 76) C zk8 jX9_told lX9_94 (m_told (d := d) (by omega)) dX9_worst_73 zs_ref rfl (Nat.le_of_ble_eq_true rfl) (zfit_of (by omega) (by decide)) ⟨Nat.le_refl _, Nat.le_refl _⟩ rfl ?_
        simp only [zset_at]
        refine zV_icmp_ge (n := 79) C 84 dX9_worst_76 (by decide) (by first | omega | exact zb_rg) (by first | omega | exact zb_rg) rfl (fun h76 => ?_) (fun h76 => ?_)
        · skip
          refine zV_iload_n (i := 3) (n := 85) C dX9_worst_84 rfl rfl rfl ?_
          refine zS_istore_n_5_3 (n := 86) C dX9_worst_85 rfl rfl ?_
          refine zS_iinc_5_4 (n := 89) C dX9_worst_86 rfl rfl ?_
          refine zV_goto C 38 dX9_worst_89 (by decide) ?_
          rw [show rWo T sit (i + 1) k b = rWo T sit i (k + 1) b from by rw [rWo]; exact congrArg _ (if_neg (fun q => by omega))] at KK
          exact ih _ _ (by omega) (by omega) (by omega) KK
        · skip
          refine zV_iload (n := 81) C dX9_worst_79 rfl rfl ?_
          refine zV_goto C 85 dX9_worst_81 (by decide) ?_
          refine zS_istore_n_5_3 (n := 86) C dX9_worst_85 rfl rfl ?_
          refine zS_iinc_5_4 (n := 89) C dX9_worst_86 rfl rfl ?_
          refine zV_goto C 38 dX9_worst_89 (by decide) ?_
          rw [show rWo T sit (i + 1) k b = rWo T sit i (k + 1) k from by rw [rWo]; exact congrArg _ (if_pos ⟨h56, Or.inr h76⟩)] at KK
          exact ih _ _ (by omega) (by omega) (by omega) KK

set_option maxRecDepth 100000 in
set_option maxHeartbeats 4000000 in
theorem m_worst {Γ : zC} {l : Launch} {d : Nat} {μ : zMem} {N : Int} (I : rInv N (μ 5 1)) (hN : N ≤ 10000) {n : Int} (hn : -2147483648 ≤ n ∧ n ≤ 2147483647) : zRet Γ l (d + 7) qX9_worst [.ref (za Γ 5 0), .int (zi n)] μ (some (.int (zi (if (0 ≤ n ∧ n ≤ 60) then (if 0 ≤ rWo (rGo n.toNat (μ 5 1)) (zi (rSit (μ 5 1))) ((μ 5 1) 0).toNat 0 (-1) then rWo (rGo n.toNat (μ 5 1)) (zi (rSit (μ 5 1))) ((μ 5 1) 0).toNat 0 (-1) else -1000000004) else -1000000001)))) (if (0 ≤ n ∧ n ≤ 60) then (if 0 ≤ rWo (rGo n.toNat (μ 5 1)) (zi (rSit (μ 5 1))) ((μ 5 1) 0).toNat 0 (-1) then zset μ 5 4 (μ 5 1) else zset (zset μ 5 4 (μ 5 1)) 5 5 (rFind (μ 5 5) (-1000000004))) else zset μ 5 5 (rFind (μ 5 5) (-1000000001))) := by
  refine zRet.mk 3 [.ref (za Γ 5 0), .int (zi n), .null, .null, .null] RX9 rfl (by decide +kernel) (Nat.le_of_ble_eq_true rfl) rfl ?_
  intro p e s m below meth c C hr hlk
  have h0 := I.1
  have I2 := I
  refine zV_iload_n (i := 1) (n := 1) C dX9_worst_0 rfl rfl rfl ?_
  refine zV_i2l (n := 2) C dX9_worst_1 (by first | omega | exact zb_rg) rfl ?_
  refine zV_lconst (v := 0) (n := 3) C dX9_worst_2 rfl rfl ?_
  refine zV_ldc2 (n := 6) C dX9_worst_3 kX9_142 rfl ?_
  refine zV_callS3u (n := 9) C jX9_in lX9_54 (m_in (d := d) (by omega) (by omega) (by omega)) dX9_worst_6 (Nat.le_of_ble_eq_true rfl) (zfit_of (by omega) (by decide)) ⟨Nat.le_refl _, Nat.le_refl _⟩ rfl ?_
  refine zV_if_ne (n := 12) C 19 dX9_worst_9 (by decide) (by first | omega | exact zb_rg) rfl (fun h9 => ?_) (fun h9 => ?_)
  · skip
    simp only [zb_eq0, Decidable.not_not] at h9
    refine zV_aload_n (i := 0) (n := 20) C dX9_worst_19 rfl rfl rfl ?_
    refine zV_callV0u (n := 23) C zk8 jX9_seated lX9_147 (m_seated (d := d) I) dX9_worst_20 zs_ref rfl (Nat.le_of_ble_eq_true rfl) (zfit_of (by omega) (by decide)) ⟨Nat.le_refl _, Nat.le_refl _⟩ rfl ?_
    refine zS_istore_n_5_2 (n := 24) C dX9_worst_23 rfl rfl ?_
    refine zV_aload_n (i := 0) (n := 25) C dX9_worst_24 rfl rfl rfl ?_
    refine zV_callV0v (n := 28) C zk8 jX9_laysAside lX9_154 (m_laysAside (d := d)) dX9_worst_25 zs_ref rfl (Nat.le_of_ble_eq_true rfl) (zfit_of (by omega) (by decide)) ⟨Nat.le_refl _, Nat.le_refl _⟩ rfl ?_
    have I : rInv N (zset μ 5 4 (μ 5 1) 5 1) := by rw [zset_ne (by decide)]; exact I
    refine zV_aload_n (i := 0) (n := 29) C dX9_worst_28 rfl rfl rfl ?_
    refine zV_iload_n (i := 1) (n := 30) C dX9_worst_29 rfl rfl rfl ?_
    refine zV_callV1v (n := 33) C zk8 jX9_minutesGo lX9_144 (m_minutesGoI (d := d) I (by omega) (by omega)) dX9_worst_30 zs_ref rfl (Nat.le_of_ble_eq_true rfl) (zfit_of (by omega) (by decide)) ⟨Nat.le_refl _, Nat.le_refl _⟩ rfl ?_
    rw [show zset μ 5 4 (μ 5 1) 5 1 = μ 5 1 from zset_ne (by decide)]
    refine zV_iconst (n := 34) C dX9_worst_33 rfl ?_
    refine zS_istore_n_5_3 (n := 35) C dX9_worst_34 rfl rfl ?_
    refine zV_iconst (n := 36) C dX9_worst_35 rfl ?_
    refine zS_istore_5_4 (n := 38) C dX9_worst_36 rfl rfl ?_
    have h00 := rGo_0 (N := N) (n := n.toNat) I2
    have JT : rInv (N + n.toNat) (rGo n.toNat (μ 5 1)) := rGo_inv (S := (μ 5 1)) I2
    refine m_worst_loop C JT ((μ 5 1) 0).toNat 0 (-1) (by omega) (by omega) (by omega) ?_
    have hb := rWo_rg (S := (rGo n.toNat (μ 5 1))) (sit := zi (rSit (μ 5 1))) (i := ((μ 5 1) 0).toNat) (k := 0) (b := -1) (by omega) (by omega) (by omega)
    refine zV_aload_n (i := 0) (n := 93) C dX9_worst_92 rfl rfl rfl ?_
    refine zV_iload_n (i := 3) (n := 94) C dX9_worst_93 rfl rfl rfl ?_
    refine zV_callV1u (n := 97) C zk8 jX9_takesBack lX9_157 (m_takesBack (d := d)) dX9_worst_94 zs_ref rfl (Nat.le_of_ble_eq_true rfl) (zfit_of (by omega) (by decide)) ⟨Nat.le_refl _, Nat.le_refl _⟩ rfl ?_
    rw [zset_set, zset_ne (by decide), zset_at, zset_old (by decide)]
    refine zS_istore_5_4 (n := 99) C dX9_worst_97 rfl rfl ?_
    refine zV_iload (n := 101) C dX9_worst_99 rfl rfl ?_
    refine zV_if_ge (n := 104) C 113 dX9_worst_101 (by decide) (by first | omega | exact zb_rg) rfl (fun h101 => ?_) (fun h101 => ?_)
    · skip
      refine zV_iload (n := 115) C dX9_worst_113 rfl rfl ?_
      exact zV_ireturn C hr hlk dX9_worst_115 (by first | exact congrArg (fun z => some (Value.int (zi z))) (zif_t (by omega) (zif_t (by omega) rfl)) | exact congrArg (fun z => some (Value.int (zi z))) (zif_t (by omega) (zif_f (by omega) rfl))) (by first | exact zif_t (by omega) (zif_t (by omega) rfl) | exact zif_t (by omega) (zif_f (by omega) rfl))
    · skip
      refine zV_aload_n (i := 0) (n := 105) C dX9_worst_104 rfl rfl rfl ?_
      refine zV_ldc (n := 107) C dX9_worst_105 kX9_163 rfl ?_
      refine zV_callV1u (n := 110) C zk8 jX9_finds lX9_75 (m_finds (d := d) (by omega)) dX9_worst_107 zs_ref rfl (Nat.le_of_ble_eq_true rfl) (zfit_of (by omega) (by decide)) ⟨Nat.le_refl _, Nat.le_refl _⟩ rfl ?_
      rw [show zset μ 5 4 (μ 5 1) 5 5 = μ 5 5 from zset_ne (by decide)]
      refine zV_goto C 115 dX9_worst_110 (by decide) ?_
      exact zV_ireturn C hr hlk dX9_worst_115 (by first | exact congrArg (fun z => some (Value.int (zi z))) (zif_t (by omega) (zif_t (by omega) rfl)) | exact congrArg (fun z => some (Value.int (zi z))) (zif_t (by omega) (zif_f (by omega) rfl))) (by first | exact zif_t (by omega) (zif_t (by omega) rfl) | exact zif_t (by omega) (zif_f (by omega) rfl))
  · skip
    simp only [zb_eq0, Decidable.not_not] at h9
    refine zV_aload_n (i := 0) (n := 13) C dX9_worst_12 rfl rfl rfl ?_
    refine zV_ldc (n := 15) C dX9_worst_13 kX9_51 rfl ?_
    refine zV_callV1u (n := 18) C zk8 jX9_finds lX9_75 (m_finds (d := d) (by omega)) dX9_worst_15 zs_ref rfl (Nat.le_of_ble_eq_true rfl) (zfit_of (by omega) (by decide)) ⟨Nat.le_refl _, Nat.le_refl _⟩ rfl ?_
    exact zV_ireturn C hr hlk dX9_worst_18 (by first | exact congrArg (fun z => some (Value.int (zi z))) (zif_t (by omega) (rfl)) | exact congrArg (fun z => some (Value.int (zi z))) (zif_f (by omega) rfl)) (by first | exact zif_t (by omega) (rfl) | exact zif_f (by omega) rfl)

