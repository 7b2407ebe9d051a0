/-! the class: calls that try something out (laid by wip/whole/gen/cls6.py) -/
set_option maxRecDepth 100000 in
set_option maxHeartbeats 4000000 in
theorem c_kind_loop {Γ : zC} {l : Launch} {d : Nat} {p : Program} {e : Env} {s : State} {m : MethodId} {args : Array Value} {below : List Frame} {meth : Method} {c : Code} {Q : State → Prop} (C : zCx Γ (zAA Γ) p s m args c RX8 cX8_kind 7) {μ : zMem} {S : Int → Int} {N : Int} (I : rInv N S) {x y : Int} (hx : 0 ≤ x ∧ x < S 0) (hy : 0 ≤ y ∧ y < 3) :
    ∀ (i : Nat) (k b a : Int) (v6 : Value) (h0 : 0 ≤ k) (hi : k + i = 6) (hb : 0 ≤ b ∧ b ≤ 5) (ha : 0 ≤ a ∧ a ≤ 99999) (KK : ∀ (a8 : Int) (v6 : Value), zV Γ (zAA Γ) p l e (zRm (d + 2)) s m args below meth c 0 0 Q 81 [.ref (za Γ 4 0), .int (zi x), .int (zi y), .int (zi (rKd S x y i k b a)), .int (zi a8), .int (zi 6), v6] [] (zcar μ 0 S)), zV Γ (zAA Γ) p l e (zRm (d + 2)) s m args below meth c 0 0 Q 41 [.ref (za Γ 4 0), .int (zi x), .int (zi y), .int (zi b), .int (zi a), .int (zi k), v6] [] (zcar μ 0 S) := by
  intro i
  induction i with
  | zero =>
    intro k b a v6 h0 hi hb ha KK
    have hk : k = 6 := by omega
    subst hk
    refine zV_iload (n := 43) C dX8_kind_41 rfl rfl ?_
    refine zV_bipush (n := 45) C dX8_kind_43 (by decide) rfl ?_
    refine zV_icmp_ge (n := 48) C 81 dX8_kind_45 (by decide) (by first | omega | exact zb_rg) (by first | omega | exact zb_rg) rfl (fun h45 => ?_) (fun h => by exfalso; first | omega | exact zb_rg)
    exact KK _ _
  | succ i ih =>
    intro k b a v6 h0 hi hb ha KK
    have z0 := I.1
    have hr := rSecK_rg (kd := k) I (c := x) (k := y) (by omega) hy
    refine zV_iload (n := 43) C dX8_kind_41 rfl rfl ?_
    refine zV_bipush (n := 45) C dX8_kind_43 (by decide) rfl ?_
    refine zV_icmp_ge (n := 48) C 81 dX8_kind_45 (by decide) (by first | omega | exact zb_rg) (by first | omega | exact zb_rg) rfl (fun h => by exfalso; first | omega | exact zb_rg) (fun h45 => ?_)
    refine zV_aload_n (i := 0) (n := 49) C dX8_kind_48 rfl rfl rfl ?_
    refine zV_getP (f := 0) (n := 52) C zk7 fX8_10 dX8_kind_49 zs_cls rfl (by decide) rfl ?_
    refine zV_iload (n := 54) C dX8_kind_52 rfl rfl ?_
    refine zV_iload_n (i := 1) (n := 55) C dX8_kind_54 rfl rfl rfl ?_
    refine zV_iload_n (i := 2) (n := 56) C dX8_kind_55 rfl rfl rfl ?_
    refine zV_callV3u (n := 59) C zk0 jX0_secondsAs lX8_196 (c_secondsAs (d := d) (by omega) I (by omega) (by omega) (by omega)) dX8_kind_56 (zs_car (by omega)) rfl (Nat.le_of_ble_eq_true rfl) (zfit_of (by omega) (by decide)) ⟨Nat.le_refl _, Nat.le_refl _⟩ rfl ?_
    refine zS_istore_7_6 (n := 61) C dX8_kind_59 rfl rfl ?_
    refine zV_iload (n := 63) C dX8_kind_61 rfl rfl ?_
    refine zV_iload (n := 65) C dX8_kind_63 rfl rfl ?_
    refine zV_icmp_ge (n := 68) C 75 dX8_kind_65 (by decide) (by first | omega | exact zb_rg) (by first | omega | exact zb_rg) rfl (fun h65 => ?_) (fun h65 => ?_)
    · skip
      refine zS_iinc_7_5 (n := 78) C dX8_kind_75 rfl rfl ?_
      refine zV_goto C 41 dX8_kind_78 (by decide) ?_
      first | (exfalso; omega) | (unfold rKd at KK; rw [if_pos h65, if_pos h65] at KK; exact ih _ _ _ _ (by omega) (by omega) (by omega) (by omega) KK) | (unfold rKd at KK; rw [if_neg (by omega), if_neg (by omega)] at KK; exact ih _ _ _ _ (by omega) (by omega) (by omega) (by omega) KK) | (unfold rKd at KK; rw [if_pos (by omega), if_pos (by omega)] at KK; exact ih _ _ _ _ (by omega) (by omega) (by omega) (by omega) KK)
    · skip
      refine zV_iload (n := 70) C dX8_kind_68 rfl rfl ?_
      refine zS_istore_n_7_3 (n := 71) C dX8_kind_70 rfl rfl ?_
      refine zV_iload (n := 73) C dX8_kind_71 rfl rfl ?_
      refine zS_istore_7_4 (n := 75) C dX8_kind_73 rfl rfl ?_
      refine zS_iinc_7_5 (n := 78) C dX8_kind_75 rfl rfl ?_
      refine zV_goto C 41 dX8_kind_78 (by decide) ?_
      first | (exfalso; omega) | (unfold rKd at KK; rw [if_pos h65, if_pos h65] at KK; exact ih _ _ _ _ (by omega) (by omega) (by omega) (by omega) KK) | (unfold rKd at KK; rw [if_neg (by omega), if_neg (by omega)] at KK; exact ih _ _ _ _ (by omega) (by omega) (by omega) (by omega) KK) | (unfold rKd at KK; rw [if_pos (by omega), if_pos (by omega)] at KK; exact ih _ _ _ _ (by omega) (by omega) (by omega) (by omega) KK)

set_option maxRecDepth 100000 in
set_option maxHeartbeats 4000000 in
theorem c_kind {Γ : zC} {l : Launch} {d : Nat} {μ : zMem} {S : Int → Int} {N : Int} (I : rInv N S) (hN : N ≤ 10000) {x : Int} (hx : -2147483648 ≤ x ∧ x ≤ 2147483647) {y : Int} (hy : -2147483648 ≤ y ∧ y ≤ 2147483647) : zRet Γ l (d + 2) qX8_kind [.ref (za Γ 4 0), .int (zi x), .int (zi y)] (zcar μ 0 S) (some (.int (zi (if ((0 ≤ x ∧ x ≤ S 0 - 1) ∧ (0 ≤ y ∧ y ≤ 2)) then rKd S x y 6 0 0 99999 else -1000000001)))) (if ((0 ≤ x ∧ x ≤ S 0 - 1) ∧ (0 ≤ y ∧ y ≤ 2)) then (zcar μ 0 S) else zset (zcar μ 0 S) 4 17 (rFind ((zcar μ 0 S) 4 17) (-1000000001))) := by
  refine zRet.mk 4 [.ref (za Γ 4 0), .int (zi x), .int (zi y), .null, .null, .null, .null] RX8 rfl (by decide +kernel) (Nat.le_of_ble_eq_true rfl) rfl ?_
  intro p e s m below meth c C hr hlk
  have h0 := I.1
  have h1 := I.2.1
  have h2 := I.2.2.1
  have h3 := I.2.2.2.1
  refine zV_aload_n (i := 0) (n := 1) C dX8_kind_0 rfl rfl rfl ?_
  refine zV_getP (f := 0) (n := 4) C zk7 fX8_10 dX8_kind_1 zs_cls rfl (by decide) rfl ?_
  refine zV_iload_n (i := 1) (n := 5) C dX8_kind_4 rfl rfl rfl ?_
  refine zV_callV1u (n := 8) C zk0 jX0_has lX8_89 (c_has (d := d) (by omega) I (by omega)) dX8_kind_5 (zs_car (by omega)) rfl (Nat.le_of_ble_eq_true rfl) (zfit_of (by omega) (by decide)) ⟨Nat.le_refl _, Nat.le_refl _⟩ rfl ?_
  refine zV_if_eq (n := 11) C 18 dX8_kind_8 (by decide) (by first | omega | exact zb_rg) rfl (fun h8 => ?_) (fun h8 => ?_)
  · skip
    simp only [zb_eq0, Decidable.not_not] at h8
    refine zV_aload_n (i := 0) (n := 19) C dX8_kind_18 rfl rfl rfl ?_
    refine zV_iconst (n := 20) C dX8_kind_19 rfl ?_
    refine zV_callV1u (n := 23) C zk7 jX8_tell lX8_61 (c_tell (d := d) (f := 0) (code := -1000000001) (by decide) (by decide)) dX8_kind_20 zs_cls rfl (Nat.le_of_ble_eq_true rfl) (zfit_of (by omega) (by decide)) ⟨Nat.le_refl _, Nat.le_refl _⟩ rfl ?_
    exact zV_ireturn C hr hlk dX8_kind_23 (by first | exact congrArg (fun z => some (Value.int (zi z))) (zif_t (by omega) (rfl)) | exact congrArg (fun z => some (Value.int (zi z))) (zif_f (by omega) rfl)) (by first | exact zif_t (by omega) (rfl) | exact zif_f (by omega) rfl)
  · skip
    simp only [zb_eq0, Decidable.not_not] at h8
    refine zV_iload_n (i := 2) (n := 12) C dX8_kind_11 rfl rfl rfl ?_
    refine zV_callS1u (n := 15) C jX8_isSeat lX8_51 (c_isSeat (d := d) (by omega)) dX8_kind_12 (Nat.le_of_ble_eq_true rfl) (zfit_of (by omega) (by decide)) ⟨Nat.le_refl _, Nat.le_refl _⟩ rfl ?_
    refine zV_if_ne (n := 18) C 24 dX8_kind_15 (by decide) (by first | omega | exact zb_rg) rfl (fun h15 => ?_) (fun h15 => ?_)
    · skip
      simp only [zb_eq0, Decidable.not_not] at h15
      refine zV_iconst (n := 25) C dX8_kind_24 rfl ?_
      refine zS_istore_n_7_3 (n := 26) C dX8_kind_25 rfl rfl ?_
      refine zV_aload_n (i := 0) (n := 27) C dX8_kind_26 rfl rfl rfl ?_
      refine zV_getP (f := 0) (n := 30) C zk7 fX8_10 dX8_kind_27 zs_cls rfl (by decide) rfl ?_
      refine zV_iconst (n := 31) C dX8_kind_30 rfl ?_
      refine zV_iload_n (i := 1) (n := 32) C dX8_kind_31 rfl rfl rfl ?_
      refine zV_iload_n (i := 2) (n := 33) C dX8_kind_32 rfl rfl rfl ?_
      refine zV_callV3u (n := 36) C zk0 jX0_secondsAs lX8_196 (c_secondsAs (d := d) (by omega) I (by omega) (by omega) (by omega)) dX8_kind_33 (zs_car (by omega)) rfl (Nat.le_of_ble_eq_true rfl) (zfit_of (by omega) (by decide)) ⟨Nat.le_refl _, Nat.le_refl _⟩ rfl ?_
      refine zS_istore_7_4 (n := 38) C dX8_kind_36 rfl rfl ?_
      refine zV_iconst (n := 39) C dX8_kind_38 rfl ?_
      refine zS_istore_7_5 (n := 41) C dX8_kind_39 rfl rfl ?_
      have hr0 := rSecK_rg (kd := 0) I (c := x) (k := y) (by omega) (by omega)
      refine c_kind_loop C I (by omega) (by omega) 5 1 0 (rSecK S 0 x y) .null (by omega) (by omega) (by omega) (by omega) (fun a8 v6 => ?_)
      refine zV_iload_n (i := 3) (n := 82) C dX8_kind_81 rfl rfl rfl ?_
      exact zV_ireturn C hr hlk dX8_kind_82 (by first | exact congrArg (fun z => some (Value.int (zi z))) (zif_t (by omega) (rKd_0 I (by omega) (by omega)).symm)) (by exact zif_t (by omega) rfl)
    · skip
      simp only [zb_eq0, Decidable.not_not] at h15
      refine zV_aload_n (i := 0) (n := 19) C dX8_kind_18 rfl rfl rfl ?_
      refine zV_iconst (n := 20) C dX8_kind_19 rfl ?_
      refine zV_callV1u (n := 23) C zk7 jX8_tell lX8_61 (c_tell (d := d) (f := 0) (code := -1000000001) (by decide) (by decide)) dX8_kind_20 zs_cls rfl (Nat.le_of_ble_eq_true rfl) (zfit_of (by omega) (by decide)) ⟨Nat.le_refl _, Nat.le_refl _⟩ rfl ?_
      exact zV_ireturn C hr hlk dX8_kind_23 (by first | exact congrArg (fun z => some (Value.int (zi z))) (zif_t (by omega) (rfl)) | exact congrArg (fun z => some (Value.int (zi z))) (zif_f (by omega) rfl)) (by first | exact zif_t (by omega) (rfl) | exact zif_f (by omega) rfl)

set_option maxRecDepth 100000 in
set_option maxHeartbeats 4000000 in
theorem c_coat {Γ : zC} {l : Launch} {d : Nat} {μ : zMem} {S : Int → Int} {N : Int} (I : rInv N S) (hN : N ≤ 10000) {x : Int} (hx : -2147483648 ≤ x ∧ x ≤ 2147483647) {k : Int} (hk : -2147483648 ≤ k ∧ k ≤ 2147483647) : zRet Γ l (d + 3) qX8_coat [.ref (za Γ 4 0), .int (zi x), .int (zi k)] (zcar μ 0 S) (some (.int (zi (if ((0 ≤ x ∧ x ≤ S 0 - 1) ∧ (0 ≤ k ∧ k ≤ 2)) then 1000 + 4 * toS S x 3 - S 3 else -1000000001)))) (if ((0 ≤ x ∧ x ≤ S 0 - 1) ∧ (0 ≤ k ∧ k ≤ 2)) then (zcar (zcar μ 2 (zfu S (19 + 6 * x + 3) 0)) 0 S) else zset (zcar μ 0 S) 4 17 (rFind ((zcar μ 0 S) 4 17) (-1000000001))) := by
  refine zRet.mk 0 [.ref (za Γ 4 0), .int (zi x), .int (zi k)] RX8 rfl (by decide +kernel) (Nat.le_of_ble_eq_true rfl) rfl ?_
  intro p e s m below meth c C hr hlk
  have h0 := I.1
  have h1 := I.2.1
  have h2 := I.2.2.1
  have h3 := I.2.2.2.1
  refine zV_aload_n (i := 0) (n := 1) C dX8_coat_0 rfl rfl rfl ?_
  refine zV_getP (f := 0) (n := 4) C zk7 fX8_10 dX8_coat_1 zs_cls rfl (by decide) rfl ?_
  refine zV_iload_n (i := 1) (n := 5) C dX8_coat_4 rfl rfl rfl ?_
  refine zV_callV1u (n := 8) C zk0 jX0_has lX8_89 (c_has (d := d) (by omega) I (by omega)) dX8_coat_5 (zs_car (by omega)) rfl (Nat.le_of_ble_eq_true rfl) (zfit_of (by omega) (by decide)) ⟨Nat.le_refl _, Nat.le_refl _⟩ rfl ?_
  refine zV_if_eq (n := 11) C 18 dX8_coat_8 (by decide) (by first | omega | exact zb_rg) rfl (fun h8 => ?_) (fun h8 => ?_)
  · skip
    simp only [zb_eq0, Decidable.not_not] at h8
    refine zV_aload_n (i := 0) (n := 19) C dX8_coat_18 rfl rfl rfl ?_
    refine zV_iconst (n := 20) C dX8_coat_19 rfl ?_
    refine zV_callV1u (n := 23) C zk7 jX8_tell lX8_61 (c_tell (d := d) (f := 0) (code := -1000000001) (by decide) (by decide)) dX8_coat_20 zs_cls rfl (Nat.le_of_ble_eq_true rfl) (zfit_of (by omega) (by decide)) ⟨Nat.le_refl _, Nat.le_refl _⟩ rfl ?_
    exact zV_ireturn C hr hlk dX8_coat_23 (by first | exact congrArg (fun z => some (Value.int (zi z))) (zif_t (by omega) (by omega)) | exact congrArg (fun z => some (Value.int (zi z))) (zif_f (by omega) rfl)) (by first | exact zif_t (by omega) (rfl) | exact zif_f (by omega) rfl)
  · skip
    simp only [zb_eq0, Decidable.not_not] at h8
    refine zV_iload_n (i := 2) (n := 12) C dX8_coat_11 rfl rfl rfl ?_
    refine zV_callS1u (n := 15) C jX8_isSeat lX8_51 (c_isSeat (d := d) (by omega)) dX8_coat_12 (Nat.le_of_ble_eq_true rfl) (zfit_of (by omega) (by decide)) ⟨Nat.le_refl _, Nat.le_refl _⟩ rfl ?_
    refine zV_if_ne (n := 18) C 24 dX8_coat_15 (by decide) (by first | omega | exact zb_rg) rfl (fun h15 => ?_) (fun h15 => ?_)
    · skip
      simp only [zb_eq0, Decidable.not_not] at h15
      have J : rInv N (zfu S (19 + 6 * x + 3) 0) := rInv_kid I (by omega) (by omega) (by simp)
      have e0 : (zfu S (19 + 6 * x + 3) 0) 0 = S 0 := zfu_ne (by omega)
      have r1 := rSec_coat (S := S) (x := x) (k := k) (by omega) (by omega)
      have r2 := rSec_rg I (x := x) (k := k) (by omega) (by omega)
      have hc := I.2.2.2.2.2.1 x (by omega) (by omega)
      refine zV_aload_n (i := 0) (n := 25) C dX8_coat_24 rfl rfl rfl ?_
      refine zV_getP (f := 2) (n := 28) C zk7 fX8_19 dX8_coat_25 zs_cls rfl (by decide) rfl ?_
      refine zV_aload_n (i := 0) (n := 29) C dX8_coat_28 rfl rfl rfl ?_
      refine zV_getP (f := 0) (n := 32) C zk7 fX8_10 dX8_coat_29 zs_cls rfl (by decide) rfl ?_
      refine zV_callV1v (n := 35) C zk0 jX0_become lX8_165 (c_become (d := d) (by omega) (by omega) (by omega) I) dX8_coat_32 (zs_car (by omega)) rfl (Nat.le_of_ble_eq_true rfl) (zfit_of (by omega) (by decide)) ⟨Nat.le_refl _, Nat.le_refl _⟩ rfl ?_
      refine zV_aload_n (i := 0) (n := 36) C dX8_coat_35 rfl rfl rfl ?_
      refine zV_getP (f := 2) (n := 39) C zk7 fX8_19 dX8_coat_36 zs_cls rfl (by decide) rfl ?_
      refine zV_getP (f := 1) (n := 42) C zk0 fX8_92 dX8_coat_39 (zs_car (by omega)) rfl (by decide) rfl ?_
      refine zV_iload_n (i := 1) (n := 43) C dX8_coat_42 rfl rfl rfl ?_
      refine zV_aald (n := 44) C dX8_coat_43 (zs_carC (by omega)) (by first | omega | exact zb_rg) (by decide) (by decide) rfl ?_
      refine zV_iconst (n := 45) C dX8_coat_44 rfl ?_
      refine zV_putI (f := 3) (fi := 3) (n := 48) C zk2 fX8_203 dX8_coat_45 (zs_child (by omega) (by omega)) rfl (by decide) rfl rfl rfl rfl ?_
      rw [zcu_kid (by omega) (by omega)]
      refine zV_sipush (n := 51) C dX8_coat_48 (by decide) rfl ?_
      refine zV_eqm (zcar_comm (by decide)) ?_
      refine zV_aload_n (i := 0) (n := 52) C dX8_coat_51 rfl rfl rfl ?_
      refine zV_getP (f := 0) (n := 55) C zk7 fX8_10 dX8_coat_52 zs_cls rfl (by decide) rfl ?_
      refine zV_iload_n (i := 1) (n := 56) C dX8_coat_55 rfl rfl rfl ?_
      refine zV_iload_n (i := 2) (n := 57) C dX8_coat_56 rfl rfl rfl ?_
      refine zV_callV2u (n := 60) C zk0 jX0_secondsFor lX8_117 (c_secondsFor (d := d) (by omega) I (by omega) (by omega)) dX8_coat_57 (zs_car (by omega)) rfl (Nat.le_of_ble_eq_true rfl) (zfit_of (by omega) (by decide)) ⟨Nat.le_refl _, Nat.le_refl _⟩ rfl ?_
      refine zV_iadd (n := 61) C dX8_coat_60 rfl ?_
      refine zV_eqm (zcar_comm (by decide)) ?_
      refine zV_aload_n (i := 0) (n := 62) C dX8_coat_61 rfl rfl rfl ?_
      refine zV_getP (f := 2) (n := 65) C zk7 fX8_19 dX8_coat_62 zs_cls rfl (by decide) rfl ?_
      refine zV_iload_n (i := 1) (n := 66) C dX8_coat_65 rfl rfl rfl ?_
      refine zV_iload_n (i := 2) (n := 67) C dX8_coat_66 rfl rfl rfl ?_
      refine zV_callV2u (n := 70) C zk0 jX0_secondsFor lX8_117 (c_secondsFor (d := d) (by omega) J (by omega) (by omega)) dX8_coat_67 (zs_car (by omega)) rfl (Nat.le_of_ble_eq_true rfl) (zfit_of (by omega) (by decide)) ⟨Nat.le_refl _, Nat.le_refl _⟩ rfl ?_
      refine zV_isub (n := 71) C dX8_coat_70 rfl ?_
      refine zV_eqm (zcar_comm (by decide)) ?_
      refine zV_aload_n (i := 0) (n := 72) C dX8_coat_71 rfl rfl rfl ?_
      refine zV_getP (f := 0) (n := 75) C zk7 fX8_10 dX8_coat_72 zs_cls rfl (by decide) rfl ?_
      refine zV_getI (f := 3) (fi := 3) (n := 78) C zk0 fX8_75 dX8_coat_75 (zs_car (by omega)) rfl (by decide) rfl rfl ?_
      rw [zc_rain]
      refine zV_isub (n := 79) C dX8_coat_78 rfl ?_
      exact zV_ireturn C hr hlk dX8_coat_79 (by first | exact congrArg (fun z => some (Value.int (zi z))) (zif_t (by omega) (by omega)) | exact congrArg (fun z => some (Value.int (zi z))) (zif_f (by omega) rfl)) (by first | exact zif_t (by omega) (rfl) | exact zif_f (by omega) rfl)
    · skip
      simp only [zb_eq0, Decidable.not_not] at h15
      refine zV_aload_n (i := 0) (n := 19) C dX8_coat_18 rfl rfl rfl ?_
      refine zV_iconst (n := 20) C dX8_coat_19 rfl ?_
      refine zV_callV1u (n := 23) C zk7 jX8_tell lX8_61 (c_tell (d := d) (f := 0) (code := -1000000001) (by decide) (by decide)) dX8_coat_20 zs_cls rfl (Nat.le_of_ble_eq_true rfl) (zfit_of (by omega) (by decide)) ⟨Nat.le_refl _, Nat.le_refl _⟩ rfl ?_
      exact zV_ireturn C hr hlk dX8_coat_23 (by first | exact congrArg (fun z => some (Value.int (zi z))) (zif_t (by omega) (by omega)) | exact congrArg (fun z => some (Value.int (zi z))) (zif_f (by omega) rfl)) (by first | exact zif_t (by omega) (rfl) | exact zif_f (by omega) rfl)

set_option maxRecDepth 100000 in
set_option maxHeartbeats 4000000 in
theorem c_image {Γ : zC} {l : Launch} {d : Nat} {μ : zMem} {S : Int → Int} {N : Int} (I : rInv N S)  : zRet Γ l (d + 2) qX8_image [.ref (za Γ 4 0)] (zcar μ 0 S) (some (.int (zi 1))) (zup (zcar (zcar μ 0 S) 1 S) 4 0 7 1) := by
  refine zRet.mk 0 [.ref (za Γ 4 0)] RX8 rfl (by decide +kernel) (Nat.le_of_ble_eq_true rfl) rfl ?_
  intro p e s m below meth c C hr hlk
  have h0 := I.1
  have h1 := I.2.1
  have h2 := I.2.2.1
  have h3 := I.2.2.2.1
  refine zV_aload_n (i := 0) (n := 1) C dX8_image_0 rfl rfl rfl ?_
  refine zV_getP (f := 1) (n := 4) C zk7 fX8_16 dX8_image_1 zs_cls rfl (by decide) rfl ?_
  refine zV_aload_n (i := 0) (n := 5) C dX8_image_4 rfl rfl rfl ?_
  refine zV_getP (f := 0) (n := 8) C zk7 fX8_10 dX8_image_5 zs_cls rfl (by decide) rfl ?_
  refine zV_callV1v (n := 11) C zk0 jX0_become lX8_165 (c_become (d := d) (by omega) (by omega) (by omega) I) dX8_image_8 (zs_car (by omega)) rfl (Nat.le_of_ble_eq_true rfl) (zfit_of (by omega) (by decide)) ⟨Nat.le_refl _, Nat.le_refl _⟩ rfl ?_
  refine zV_aload_n (i := 0) (n := 12) C dX8_image_11 rfl rfl rfl ?_
  refine zV_iconst (n := 13) C dX8_image_12 rfl ?_
  refine zV_putZ (f := 7) (fi := 7) (n := 16) C zk7 fX8_46 dX8_image_13 zs_cls rfl (by decide) rfl rfl rfl (by omega) rfl ?_
  refine zV_iconst (n := 17) C dX8_image_16 rfl ?_
  exact zV_ireturn C hr hlk dX8_image_17 (by rfl) (by rfl)

set_option maxRecDepth 100000 in
set_option maxHeartbeats 4000000 in
theorem c_undo0 {Γ : zC} {l : Launch} {d : Nat} {μ : zMem} (hk : μ 4 0 7 = 0) : zRet Γ l (d + 2) qX8_undo [.ref (za Γ 4 0)] μ (some (.int (zi (-1000000004)))) (zset μ 4 17 (rFind (μ 4 17) (-1000000004))) := by
  refine zRet.mk 0 [.ref (za Γ 4 0)] RX8 rfl (by decide +kernel) (Nat.le_of_ble_eq_true rfl) rfl ?_
  intro p e s m below meth c C hr hlk
  refine zV_aload_n (i := 0) (n := 1) C dX8_undo_0 rfl rfl rfl ?_
  refine zV_getI (f := 7) (fi := 7) (n := 4) C zk7 fX8_46 dX8_undo_1 zs_cls rfl (by decide) rfl rfl ?_
  refine zV_if_ne (n := 7) C 13 dX8_undo_4 (by decide) (by first | omega | exact zb_rg) rfl (fun h => by exfalso; first | omega | exact zb_rg) (fun h4 => ?_)
  refine zV_aload_n (i := 0) (n := 8) C dX8_undo_7 rfl rfl rfl ?_
  refine zV_iconst (n := 9) C dX8_undo_8 rfl ?_
  refine zV_callV1u (n := 12) C zk7 jX8_tell lX8_61 (c_tell (d := d) (f := 3) (code := -1000000004) (by decide) (by decide)) dX8_undo_9 zs_cls rfl (Nat.le_of_ble_eq_true rfl) (zfit_of (by omega) (by decide)) ⟨Nat.le_refl _, Nat.le_refl _⟩ rfl ?_
  exact zV_ireturn C hr hlk dX8_undo_12 (by rfl) (by rfl)

set_option maxRecDepth 100000 in
set_option maxHeartbeats 4000000 in
theorem c_undo1 {Γ : zC} {l : Launch} {d : Nat} {μ : zMem} {S : Int → Int} {N : Int} (I : rInv N S) (hk : μ 4 0 7 = 1) : zRet Γ l (d + 2) qX8_undo [.ref (za Γ 4 0)] (zcar μ 1 S) (some (.int (zi (S 0)))) (zcar (zcar μ 1 S) 0 S) := by
  refine zRet.mk 0 [.ref (za Γ 4 0)] RX8 rfl (by decide +kernel) (Nat.le_of_ble_eq_true rfl) rfl ?_
  intro p e s m below meth c C hr hlk
  have h0 := I.1
  have h1 := I.2.1
  have h2 := I.2.2.1
  have h3 := I.2.2.2.1
  refine zV_aload_n (i := 0) (n := 1) C dX8_undo_0 rfl rfl rfl ?_
  refine zV_getI (f := 7) (fi := 7) (n := 4) C zk7 fX8_46 dX8_undo_1 zs_cls rfl (by decide) rfl rfl ?_
  rw [zc_ne (by decide), hk]
  refine zV_if_ne (n := 7) C 13 dX8_undo_4 (by decide) (by first | omega | exact zb_rg) rfl (fun h4 => ?_) (fun h => by exfalso; first | omega | exact zb_rg)
  refine zV_aload_n (i := 0) (n := 14) C dX8_undo_13 rfl rfl rfl ?_
  refine zV_getP (f := 0) (n := 17) C zk7 fX8_10 dX8_undo_14 zs_cls rfl (by decide) rfl ?_
  refine zV_aload_n (i := 0) (n := 18) C dX8_undo_17 rfl rfl rfl ?_
  refine zV_getP (f := 1) (n := 21) C zk7 fX8_16 dX8_undo_18 zs_cls rfl (by decide) rfl ?_
  refine zV_callV1v (n := 24) C zk0 jX0_become lX8_165 (c_become (d := d) (by omega) (by omega) (by omega) I) dX8_undo_21 (zs_car (by omega)) rfl (Nat.le_of_ble_eq_true rfl) (zfit_of (by omega) (by decide)) ⟨Nat.le_refl _, Nat.le_refl _⟩ rfl ?_
  refine zV_aload_n (i := 0) (n := 25) C dX8_undo_24 rfl rfl rfl ?_
  refine zV_getP (f := 0) (n := 28) C zk7 fX8_10 dX8_undo_25 zs_cls rfl (by decide) rfl ?_
  refine zV_getI (f := 2) (fi := 2) (n := 31) C zk0 fX8_206 dX8_undo_28 (zs_car (by omega)) rfl (by decide) rfl rfl ?_
  rw [zc_cnt]
  exact zV_ireturn C hr hlk dX8_undo_31 (by rfl) (by rfl)

set_option maxRecDepth 100000 in
set_option maxHeartbeats 4000000 in
theorem c_tear {Γ : zC} {l : Launch} {d : Nat} {μ : zMem} (hk : μ 4 0 7 = 0 ∨ μ 4 0 7 = 1) : zRet Γ l (d + 0) qX8_tear [.ref (za Γ 4 0)] μ (some (.int (zi (μ 4 0 7)))) (zup μ 4 0 7 0) := by
  refine zRet.mk 1 [.ref (za Γ 4 0), .null] RX8 rfl (by decide +kernel) (Nat.le_of_ble_eq_true rfl) rfl ?_
  intro p e s m below meth c C hr hlk
  refine zV_aload_n (i := 0) (n := 1) C dX8_tear_0 rfl rfl rfl ?_
  refine zV_getI (f := 7) (fi := 7) (n := 4) C zk7 fX8_46 dX8_tear_1 zs_cls rfl (by decide) rfl rfl ?_
  refine zV_if_eq (n := 7) C 11 dX8_tear_4 (by decide) (by first | omega | exact zb_rg) rfl (fun h4 => ?_) (fun h4 => ?_)
  · skip
    refine zV_iconst (n := 12) C dX8_tear_11 rfl ?_
    refine zS_istore_n_2_1 (n := 13) C dX8_tear_12 rfl rfl ?_
    refine zV_aload_n (i := 0) (n := 14) C dX8_tear_13 rfl rfl rfl ?_
    refine zV_iconst (n := 15) C dX8_tear_14 rfl ?_
    refine zV_putZ (f := 7) (fi := 7) (n := 18) C zk7 fX8_46 dX8_tear_15 zs_cls rfl (by decide) rfl rfl rfl (by omega) rfl ?_
    refine zV_iload_n (i := 1) (n := 19) C dX8_tear_18 rfl rfl rfl ?_
    exact zV_ireturn C hr hlk dX8_tear_19 (by exact congrArg (fun z => some (Value.int (zi z))) (by omega)) (by rfl)
  · skip
    refine zV_iconst (n := 8) C dX8_tear_7 rfl ?_
    refine zV_goto C 12 dX8_tear_8 (by decide) ?_
    refine zS_istore_n_2_1 (n := 13) C dX8_tear_12 rfl rfl ?_
    refine zV_aload_n (i := 0) (n := 14) C dX8_tear_13 rfl rfl rfl ?_
    refine zV_iconst (n := 15) C dX8_tear_14 rfl ?_
    refine zV_putZ (f := 7) (fi := 7) (n := 18) C zk7 fX8_46 dX8_tear_15 zs_cls rfl (by decide) rfl rfl rfl (by omega) rfl ?_
    refine zV_iload_n (i := 1) (n := 19) C dX8_tear_18 rfl rfl rfl ?_
    exact zV_ireturn C hr hlk dX8_tear_19 (by exact congrArg (fun z => some (Value.int (zi z))) (by omega)) (by rfl)

set_option maxRecDepth 100000 in
set_option maxHeartbeats 4000000 in
theorem c_wipe {Γ : zC} {l : Launch} {d : Nat} {μ : zMem}  : zRet Γ l (d + 0) qX8_wipe [.ref (za Γ 4 0)] μ (some (.int (zi (μ 4 2 1)))) (zup μ 4 2 1 0) := by
  refine zRet.mk 1 [.ref (za Γ 4 0), .null] RX8 rfl (by decide +kernel) (Nat.le_of_ble_eq_true rfl) rfl ?_
  intro p e s m below meth c C hr hlk
  refine zV_aload_n (i := 0) (n := 1) C dX8_wipe_0 rfl rfl rfl ?_
  refine zV_getP (f := 3) (n := 4) C zk7 fX8_25 dX8_wipe_1 zs_cls rfl (by decide) rfl ?_
  refine zV_getP (f := 0) (n := 7) C zk1 fX8_209 dX8_wipe_4 zs_txt rfl (by decide) rfl ?_
  refine zV_getI (f := 1) (fi := 1) (n := 10) C zk5 fX8_213 dX8_wipe_7 zs_tape rfl (by decide) rfl rfl ?_
  refine zS_istore_n_2_1 (n := 11) C dX8_wipe_10 rfl rfl ?_
  refine zV_aload_n (i := 0) (n := 12) C dX8_wipe_11 rfl rfl rfl ?_
  refine zV_getP (f := 3) (n := 15) C zk7 fX8_25 dX8_wipe_12 zs_cls rfl (by decide) rfl ?_
  refine zV_getP (f := 0) (n := 18) C zk1 fX8_209 dX8_wipe_15 zs_txt rfl (by decide) rfl ?_
  refine zV_iconst (n := 19) C dX8_wipe_18 rfl ?_
  refine zV_putI (f := 1) (fi := 1) (n := 22) C zk5 fX8_213 dX8_wipe_19 zs_tape rfl (by decide) rfl rfl rfl rfl ?_
  refine zV_iload_n (i := 1) (n := 23) C dX8_wipe_22 rfl rfl rfl ?_
  exact zV_ireturn C hr hlk dX8_wipe_23 (by rfl) (by rfl)

set_option maxRecDepth 100000 in
set_option maxHeartbeats 4000000 in
theorem c_status_loop {Γ : zC} {l : Launch} {d : Nat} {p : Program} {e : Env} {s : State} {m : MethodId} {args : Array Value} {below : List Frame} {meth : Method} {c : Code} {Q : State → Prop} (C : zCx Γ (zAA Γ) p s m args c RX8 cX8_status 4) {μ : zMem} {w : Int} (hw : w = -1) :
    ∀ (i : Nat) (k a : Int) (h0 : 0 ≤ k) (hi : k + i = 7) (KK : zV Γ (zAA Γ) p l e (zRm (d + 1)) s m args below meth c 0 0 Q 53 [.ref (za Γ 4 0), .int (zi w), .int (zi (rStF (μ 4 17) w i k a)), .int (zi 7)] [] μ), zV Γ (zAA Γ) p l e (zRm (d + 1)) s m args below meth c 0 0 Q 32 [.ref (za Γ 4 0), .int (zi w), .int (zi a), .int (zi k)] [] μ := by
  intro i
  induction i with
  | zero =>
    intro k a h0 hi KK
    have hk : k = 7 := by omega
    subst hk
    refine zV_iload_n (i := 3) (n := 33) C dX8_status_32 rfl rfl rfl ?_
    refine zV_bipush (n := 35) C dX8_status_33 (by decide) rfl ?_
    refine zV_icmp_ge (n := 38) C 53 dX8_status_35 (by decide) (by first | omega | exact zb_rg) (by first | omega | exact zb_rg) rfl (fun h35 => ?_) (fun h => by exfalso; first | omega | exact zb_rg)
    exact KK
  | succ i ih =>
    intro k a h0 hi KK
    refine zV_iload_n (i := 3) (n := 33) C dX8_status_32 rfl rfl rfl ?_
    refine zV_bipush (n := 35) C dX8_status_33 (by decide) rfl ?_
    refine zV_icmp_ge (n := 38) C 53 dX8_status_35 (by decide) (by first | omega | exact zb_rg) (by first | omega | exact zb_rg) rfl (fun h => by exfalso; first | omega | exact zb_rg) (fun h35 => ?_)
    refine zV_iload_n (i := 2) (n := 39) C dX8_status_38 rfl rfl rfl ?_
    refine zV_aload_n (i := 0) (n := 40) C dX8_status_39 rfl rfl rfl ?_
    refine zV_getP (f := 6) (n := 43) C zk7 fX8_42 dX8_status_40 zs_cls rfl (by decide) rfl ?_
    refine zV_iload_n (i := 3) (n := 44) C dX8_status_43 rfl rfl rfl ?_
    refine zV_iald (n := 45) C dX8_status_44 zs_told (by first | omega | exact zb_rg) (by decide) rfl ?_
    refine zV_iadd (n := 46) C dX8_status_45 rfl ?_
    refine zS_istore_n_4_2 (n := 47) C dX8_status_46 rfl rfl ?_
    refine zS_iinc_4_3 (n := 50) C dX8_status_47 rfl rfl ?_
    refine zV_goto C 32 dX8_status_50 (by decide) ?_
    unfold rStF at KK
    rw [if_pos (by omega)] at KK
    exact ih _ _ (by omega) (by omega) KK

set_option maxRecDepth 100000 in
set_option maxHeartbeats 4000000 in
theorem c_status {Γ : zC} {l : Launch} {d : Nat} {μ : zMem} {w : Int} (hw : -2147483648 ≤ w ∧ w ≤ 2147483647) : zRet Γ l (d + 1) qX8_status [.ref (za Γ 4 0), .int (zi w)] μ (some (.int (zi (if (-1 ≤ w ∧ w ≤ 6) then rStF (μ 4 17) w 7 0 0 else -1000000001)))) (if (-1 ≤ w ∧ w ≤ 6) then μ else zset μ 4 17 (rFind (μ 4 17) (-1000000001))) := by
  refine zRet.mk 2 [.ref (za Γ 4 0), .int (zi w), .null, .null] RX8 rfl (by decide +kernel) (Nat.le_of_ble_eq_true rfl) rfl ?_
  intro p e s m below meth c C hr hlk
  refine zV_iload_n (i := 1) (n := 1) C dX8_status_0 rfl rfl rfl ?_
  refine zV_iconst (n := 2) C dX8_status_1 rfl ?_
  refine zV_icmp_lt (n := 5) C 11 dX8_status_2 (by decide) (by first | omega | exact zb_rg) (by first | omega | exact zb_rg) rfl (fun h2 => ?_) (fun h2 => ?_)
  · skip
    refine zV_aload_n (i := 0) (n := 12) C dX8_status_11 rfl rfl rfl ?_
    refine zV_iconst (n := 13) C dX8_status_12 rfl ?_
    refine zV_callV1u (n := 16) C zk7 jX8_tell lX8_61 (c_tell (d := d) (f := 0) (code := -1000000001) (by decide) (by decide)) dX8_status_13 zs_cls rfl (Nat.le_of_ble_eq_true rfl) (zfit_of (by omega) (by decide)) ⟨Nat.le_refl _, Nat.le_refl _⟩ rfl ?_
    exact zV_ireturn C hr hlk dX8_status_16 (by first | exact congrArg (fun z => some (Value.int (zi z))) (zif_t (by omega) (rStF_w (by omega)).symm) | exact congrArg (fun z => some (Value.int (zi z))) (zif_f (by omega) rfl)) (by first | exact zif_t (by omega) (rfl) | exact zif_f (by omega) rfl)
  · skip
    refine zV_iload_n (i := 1) (n := 6) C dX8_status_5 rfl rfl rfl ?_
    refine zV_bipush (n := 8) C dX8_status_6 (by decide) rfl ?_
    refine zV_icmp_lt (n := 11) C 17 dX8_status_8 (by decide) (by first | omega | exact zb_rg) (by first | omega | exact zb_rg) rfl (fun h8 => ?_) (fun h8 => ?_)
    · skip
      refine zV_iload_n (i := 1) (n := 18) C dX8_status_17 rfl rfl rfl ?_
      refine zV_if_lt (n := 21) C 28 dX8_status_18 (by decide) (by first | omega | exact zb_rg) rfl (fun h18 => ?_) (fun h18 => ?_)
      · skip
        refine zV_iconst (n := 29) C dX8_status_28 rfl ?_
        refine zS_istore_n_4_2 (n := 30) C dX8_status_29 rfl rfl ?_
        refine zV_iconst (n := 31) C dX8_status_30 rfl ?_
        refine zS_istore_n_4_3 (n := 32) C dX8_status_31 rfl rfl ?_
        refine c_status_loop C (by omega) 7 0 0 (by omega) (by omega) ?_
        refine zV_iload_n (i := 2) (n := 54) C dX8_status_53 rfl rfl rfl ?_
        exact zV_ireturn C hr hlk dX8_status_54 (congrArg (fun z => some (Value.int (zi z))) (zif_t (by omega) rfl)) (zif_t (by omega) rfl)
      · skip
        refine zV_aload_n (i := 0) (n := 22) C dX8_status_21 rfl rfl rfl ?_
        refine zV_getP (f := 6) (n := 25) C zk7 fX8_42 dX8_status_22 zs_cls rfl (by decide) rfl ?_
        refine zV_iload_n (i := 1) (n := 26) C dX8_status_25 rfl rfl rfl ?_
        refine zV_iald (n := 27) C dX8_status_26 zs_told (by first | omega | exact zb_rg) (by decide) rfl ?_
        exact zV_ireturn C hr hlk dX8_status_27 (by first | exact congrArg (fun z => some (Value.int (zi z))) (zif_t (by omega) (rStF_w (by omega)).symm) | exact congrArg (fun z => some (Value.int (zi z))) (zif_f (by omega) rfl)) (by first | exact zif_t (by omega) (rfl) | exact zif_f (by omega) rfl)
    · skip
      refine zV_aload_n (i := 0) (n := 12) C dX8_status_11 rfl rfl rfl ?_
      refine zV_iconst (n := 13) C dX8_status_12 rfl ?_
      refine zV_callV1u (n := 16) C zk7 jX8_tell lX8_61 (c_tell (d := d) (f := 0) (code := -1000000001) (by decide) (by decide)) dX8_status_13 zs_cls rfl (Nat.le_of_ble_eq_true rfl) (zfit_of (by omega) (by decide)) ⟨Nat.le_refl _, Nat.le_refl _⟩ rfl ?_
      exact zV_ireturn C hr hlk dX8_status_16 (by first | exact congrArg (fun z => some (Value.int (zi z))) (zif_t (by omega) (rStF_w (by omega)).symm) | exact congrArg (fun z => some (Value.int (zi z))) (zif_f (by omega) rfl)) (by first | exact zif_t (by omega) (rfl) | exact zif_f (by omega) rfl)

set_option maxRecDepth 100000 in
set_option maxHeartbeats 4000000 in
theorem c_on {Γ : zC} {l : Launch} {d : Nat} {μ : zMem} {S : Int → Int} {N : Int} (I : rInv N S) (hN : N ≤ 10000) {x : Int} (hx : -2147483648 ≤ x ∧ x ≤ 2147483647) {n : Int} (hn : -2147483648 ≤ n ∧ n ≤ 2147483647) {w : Int} (hw : -2147483648 ≤ w ∧ w ≤ 2147483647) : zRet Γ l (d + 5) qX8_on [.ref (za Γ 4 0), .int (zi x), .int (zi n), .int (zi w)] (zcar μ 0 S) (some (.int (zi (if ((0 ≤ x ∧ x ≤ S 0 - 1) ∧ (0 ≤ n ∧ n ≤ 60) ∧ (0 ≤ w ∧ w ≤ 1)) then if w = 0 then toS (rGo n.toNat S) x 2 else toS (rGo n.toNat S) x 5 else -1000000001)))) (if ((0 ≤ x ∧ x ≤ S 0 - 1) ∧ (0 ≤ n ∧ n ≤ 60) ∧ (0 ≤ w ∧ w ≤ 1)) then (zcar (zcar μ 2 (rGo n.toNat S)) 0 S) else zset (zcar μ 0 S) 4 17 (rFind ((zcar μ 0 S) 4 17) (-1000000001))) := by
  refine zRet.mk 0 [.ref (za Γ 4 0), .int (zi x), .int (zi n), .int (zi w)] RX8 rfl (by decide +kernel) (Nat.le_of_ble_eq_true rfl) rfl ?_
  intro p e s m below meth c C hr hlk
  have h0 := I.1
  have h1 := I.2.1
  have h2 := I.2.2.1
  have h3 := I.2.2.2.1
  refine zV_aload_n (i := 0) (n := 1) C dX8_on_0 rfl rfl rfl ?_
  refine zV_getP (f := 0) (n := 4) C zk7 fX8_10 dX8_on_1 zs_cls rfl (by decide) rfl ?_
  refine zV_iload_n (i := 1) (n := 5) C dX8_on_4 rfl rfl rfl ?_
  refine zV_callV1u (n := 8) C zk0 jX0_has lX8_89 (c_has (d := d) (by omega) I (by omega)) dX8_on_5 (zs_car (by omega)) rfl (Nat.le_of_ble_eq_true rfl) (zfit_of (by omega) (by decide)) ⟨Nat.le_refl _, Nat.le_refl _⟩ rfl ?_
  refine zV_if_eq (n := 11) C 30 dX8_on_8 (by decide) (by first | omega | exact zb_rg) rfl (fun h8 => ?_) (fun h8 => ?_)
  · skip
    simp only [zb_eq0, Decidable.not_not] at h8
    refine zV_aload_n (i := 0) (n := 31) C dX8_on_30 rfl rfl rfl ?_
    refine zV_iconst (n := 32) C dX8_on_31 rfl ?_
    refine zV_callV1u (n := 35) C zk7 jX8_tell lX8_61 (c_tell (d := d) (f := 0) (code := -1000000001) (by decide) (by decide)) dX8_on_32 zs_cls rfl (Nat.le_of_ble_eq_true rfl) (zfit_of (by omega) (by decide)) ⟨Nat.le_refl _, Nat.le_refl _⟩ rfl ?_
    exact zV_ireturn C hr hlk dX8_on_35 (by first | exact congrArg (fun z => some (Value.int (zi z))) (zif_t (by omega) (zif_t (by omega) rfl)) | exact congrArg (fun z => some (Value.int (zi z))) (zif_t (by omega) (zif_f (by omega) rfl)) | exact congrArg (fun z => some (Value.int (zi z))) (zif_f (by omega) rfl)) (by first | exact zif_t (by omega) (rfl) | exact zif_f (by omega) rfl)
  · skip
    simp only [zb_eq0, Decidable.not_not] at h8
    refine zV_iload_n (i := 2) (n := 12) C dX8_on_11 rfl rfl rfl ?_
    refine zV_if_lt (n := 15) C 30 dX8_on_12 (by decide) (by first | omega | exact zb_rg) rfl (fun h12 => ?_) (fun h12 => ?_)
    · skip
      refine zV_aload_n (i := 0) (n := 31) C dX8_on_30 rfl rfl rfl ?_
      refine zV_iconst (n := 32) C dX8_on_31 rfl ?_
      refine zV_callV1u (n := 35) C zk7 jX8_tell lX8_61 (c_tell (d := d) (f := 0) (code := -1000000001) (by decide) (by decide)) dX8_on_32 zs_cls rfl (Nat.le_of_ble_eq_true rfl) (zfit_of (by omega) (by decide)) ⟨Nat.le_refl _, Nat.le_refl _⟩ rfl ?_
      exact zV_ireturn C hr hlk dX8_on_35 (by first | exact congrArg (fun z => some (Value.int (zi z))) (zif_t (by omega) (zif_t (by omega) rfl)) | exact congrArg (fun z => some (Value.int (zi z))) (zif_t (by omega) (zif_f (by omega) rfl)) | exact congrArg (fun z => some (Value.int (zi z))) (zif_f (by omega) rfl)) (by first | exact zif_t (by omega) (rfl) | exact zif_f (by omega) rfl)
    · skip
      refine zV_iload_n (i := 2) (n := 16) C dX8_on_15 rfl rfl rfl ?_
      refine zV_bipush (n := 18) C dX8_on_16 (by decide) rfl ?_
      refine zV_icmp_gt (n := 21) C 30 dX8_on_18 (by decide) (by first | omega | exact zb_rg) (by first | omega | exact zb_rg) rfl (fun h18 => ?_) (fun h18 => ?_)
      · skip
        refine zV_aload_n (i := 0) (n := 31) C dX8_on_30 rfl rfl rfl ?_
        refine zV_iconst (n := 32) C dX8_on_31 rfl ?_
        refine zV_callV1u (n := 35) C zk7 jX8_tell lX8_61 (c_tell (d := d) (f := 0) (code := -1000000001) (by decide) (by decide)) dX8_on_32 zs_cls rfl (Nat.le_of_ble_eq_true rfl) (zfit_of (by omega) (by decide)) ⟨Nat.le_refl _, Nat.le_refl _⟩ rfl ?_
        exact zV_ireturn C hr hlk dX8_on_35 (by first | exact congrArg (fun z => some (Value.int (zi z))) (zif_t (by omega) (zif_t (by omega) rfl)) | exact congrArg (fun z => some (Value.int (zi z))) (zif_t (by omega) (zif_f (by omega) rfl)) | exact congrArg (fun z => some (Value.int (zi z))) (zif_f (by omega) rfl)) (by first | exact zif_t (by omega) (rfl) | exact zif_f (by omega) rfl)
      · skip
        refine zV_iload_n (i := 3) (n := 22) C dX8_on_21 rfl rfl rfl ?_
        refine zV_if_lt (n := 25) C 30 dX8_on_22 (by decide) (by first | omega | exact zb_rg) rfl (fun h22 => ?_) (fun h22 => ?_)
        · skip
          refine zV_aload_n (i := 0) (n := 31) C dX8_on_30 rfl rfl rfl ?_
          refine zV_iconst (n := 32) C dX8_on_31 rfl ?_
          refine zV_callV1u (n := 35) C zk7 jX8_tell lX8_61 (c_tell (d := d) (f := 0) (code := -1000000001) (by decide) (by decide)) dX8_on_32 zs_cls rfl (Nat.le_of_ble_eq_true rfl) (zfit_of (by omega) (by decide)) ⟨Nat.le_refl _, Nat.le_refl _⟩ rfl ?_
          exact zV_ireturn C hr hlk dX8_on_35 (by first | exact congrArg (fun z => some (Value.int (zi z))) (zif_t (by omega) (zif_t (by omega) rfl)) | exact congrArg (fun z => some (Value.int (zi z))) (zif_t (by omega) (zif_f (by omega) rfl)) | exact congrArg (fun z => some (Value.int (zi z))) (zif_f (by omega) rfl)) (by first | exact zif_t (by omega) (rfl) | exact zif_f (by omega) rfl)
        · skip
          refine zV_iload_n (i := 3) (n := 26) C dX8_on_25 rfl rfl rfl ?_
          refine zV_iconst (n := 27) C dX8_on_26 rfl ?_
          refine zV_icmp_le (n := 30) C 36 dX8_on_27 (by decide) (by first | omega | exact zb_rg) (by first | omega | exact zb_rg) rfl (fun h27 => ?_) (fun h27 => ?_)
          · skip
            refine zV_aload_n (i := 0) (n := 37) C dX8_on_36 rfl rfl rfl ?_
            refine zV_getP (f := 2) (n := 40) C zk7 fX8_19 dX8_on_37 zs_cls rfl (by decide) rfl ?_
            refine zV_aload_n (i := 0) (n := 41) C dX8_on_40 rfl rfl rfl ?_
            refine zV_getP (f := 0) (n := 44) C zk7 fX8_10 dX8_on_41 zs_cls rfl (by decide) rfl ?_
            refine zV_callV1v (n := 47) C zk0 jX0_become lX8_165 (c_become (d := d) (by omega) (by omega) (by omega) I) dX8_on_44 (zs_car (by omega)) rfl (Nat.le_of_ble_eq_true rfl) (zfit_of (by omega) (by decide)) ⟨Nat.le_refl _, Nat.le_refl _⟩ rfl ?_
            refine zV_aload_n (i := 0) (n := 48) C dX8_on_47 rfl rfl rfl ?_
            refine zV_getP (f := 2) (n := 51) C zk7 fX8_19 dX8_on_48 zs_cls rfl (by decide) rfl ?_
            refine zV_iload_n (i := 2) (n := 52) C dX8_on_51 rfl rfl rfl ?_
            refine zV_callV1v (n := 55) C zk0 jX0_passMinutes lX8_149 (c_passMinutes (d := d) (by omega) I (by omega) (by omega)) dX8_on_52 (zs_car (by omega)) rfl (Nat.le_of_ble_eq_true rfl) (zfit_of (by omega) (by decide)) ⟨Nat.le_refl _, Nat.le_refl _⟩ rfl ?_
            refine zV_iload_n (i := 3) (n := 56) C dX8_on_55 rfl rfl rfl ?_
            refine zV_if_ne (n := 59) C 74 dX8_on_56 (by decide) (by first | omega | exact zb_rg) rfl (fun h56 => ?_) (fun h56 => ?_)
            · skip
              have e0 : (rGo n.toNat S) 0 = S 0 := rGo_0 (N := 0) I
              refine zV_aload_n (i := 0) (n := 75) C dX8_on_74 rfl rfl rfl ?_
              refine zV_getP (f := 2) (n := 78) C zk7 fX8_19 dX8_on_75 zs_cls rfl (by decide) rfl ?_
              refine zV_getP (f := 1) (n := 81) C zk0 fX8_92 dX8_on_78 (zs_car (by omega)) rfl (by decide) rfl ?_
              refine zV_iload_n (i := 1) (n := 82) C dX8_on_81 rfl rfl rfl ?_
              refine zV_aald (n := 83) C dX8_on_82 (zs_carC (by omega)) (by first | omega | exact zb_rg) (by decide) (by decide) rfl ?_
              refine zV_getI (f := 5) (fi := 5) (n := 86) C zk2 fX8_133 dX8_on_83 (zs_child (by omega) (by omega)) rfl (by decide) rfl rfl ?_
              rw [zc_kid (by omega) (by omega)]
              refine zV_eqm (zcar_comm (by decide)) ?_
              exact zV_ireturn C hr hlk dX8_on_86 (by first | exact congrArg (fun z => some (Value.int (zi z))) (zif_t (by omega) (zif_t (by omega) rfl)) | exact congrArg (fun z => some (Value.int (zi z))) (zif_t (by omega) (zif_f (by omega) rfl)) | exact congrArg (fun z => some (Value.int (zi z))) (zif_f (by omega) rfl)) (by first | exact zif_t (by omega) (rfl) | exact zif_f (by omega) rfl)
            · skip
              have e0 : (rGo n.toNat S) 0 = S 0 := rGo_0 (N := 0) I
              refine zV_aload_n (i := 0) (n := 60) C dX8_on_59 rfl rfl rfl ?_
              refine zV_getP (f := 2) (n := 63) C zk7 fX8_19 dX8_on_60 zs_cls rfl (by decide) rfl ?_
              refine zV_getP (f := 1) (n := 66) C zk0 fX8_92 dX8_on_63 (zs_car (by omega)) rfl (by decide) rfl ?_
              refine zV_iload_n (i := 1) (n := 67) C dX8_on_66 rfl rfl rfl ?_
              refine zV_aald (n := 68) C dX8_on_67 (zs_carC (by omega)) (by first | omega | exact zb_rg) (by decide) (by decide) rfl ?_
              refine zV_getI (f := 2) (fi := 2) (n := 71) C zk2 fX8_114 dX8_on_68 (zs_child (by omega) (by omega)) rfl (by decide) rfl rfl ?_
              rw [zc_kid (by omega) (by omega)]
              refine zV_goto C 86 dX8_on_71 (by decide) ?_
              refine zV_eqm (zcar_comm (by decide)) ?_
              exact zV_ireturn C hr hlk dX8_on_86 (by first | exact congrArg (fun z => some (Value.int (zi z))) (zif_t (by omega) (zif_t (by omega) rfl)) | exact congrArg (fun z => some (Value.int (zi z))) (zif_t (by omega) (zif_f (by omega) rfl)) | exact congrArg (fun z => some (Value.int (zi z))) (zif_f (by omega) rfl)) (by first | exact zif_t (by omega) (rfl) | exact zif_f (by omega) rfl)
          · skip
            refine zV_aload_n (i := 0) (n := 31) C dX8_on_30 rfl rfl rfl ?_
            refine zV_iconst (n := 32) C dX8_on_31 rfl ?_
            refine zV_callV1u (n := 35) C zk7 jX8_tell lX8_61 (c_tell (d := d) (f := 0) (code := -1000000001) (by decide) (by decide)) dX8_on_32 zs_cls rfl (Nat.le_of_ble_eq_true rfl) (zfit_of (by omega) (by decide)) ⟨Nat.le_refl _, Nat.le_refl _⟩ rfl ?_
            exact zV_ireturn C hr hlk dX8_on_35 (by first | exact congrArg (fun z => some (Value.int (zi z))) (zif_t (by omega) (zif_t (by omega) rfl)) | exact congrArg (fun z => some (Value.int (zi z))) (zif_t (by omega) (zif_f (by omega) rfl)) | exact congrArg (fun z => some (Value.int (zi z))) (zif_f (by omega) rfl)) (by first | exact zif_t (by omega) (rfl) | exact zif_f (by omega) rfl)

set_option maxRecDepth 100000 in
set_option maxHeartbeats 4000000 in
theorem c_out_loop {Γ : zC} {l : Launch} {d : Nat} {p : Program} {e : Env} {s : State} {m : MethodId} {args : Array Value} {below : List Frame} {meth : Method} {c : Code} {Q : State → Prop} (C : zCx Γ (zAA Γ) p s m args c RX8 cX8_out 3) {μ : zMem} {x : Int} :
    ∀ (i : Nat) (k N : Int) (S : Int → Int) (J : rInv N S) (hN : N + i ≤ 20000) (hx : 0 ≤ x ∧ x < S 0) (hs : 0 ≤ rAt S x) (h0 : 1 ≤ k) (hi : k + i = 61) (K1 : (rOI x 60 i S (k - 1)) ≤ 60 → zV Γ (zAA Γ) p l e (zRm (d + 4)) s m args below meth c 0 0 Q 79 [.ref (za Γ 4 0), .int (zi x), .int (zi (rOI x 60 i S (k - 1)))] [] (zcar μ 2 (cOutT x i S))) (K2 : (rOI x 60 i S (k - 1)) = 61 → zV Γ (zAA Γ) p l e (zRm (d + 4)) s m args below meth c 0 0 Q 87 [.ref (za Γ 4 0), .int (zi x), .int (zi 61)] [] (zcar μ 2 (cOutT x i S))), zV Γ (zAA Γ) p l e (zRm (d + 4)) s m args below meth c 0 0 Q 51 [.ref (za Γ 4 0), .int (zi x), .int (zi k)] [] (zcar μ 2 S) := by
  intro i
  induction i with
  | zero =>
    intro k N S J hN hx hs h0 hi K1 K2
    have hk : k = 61 := by omega
    subst hk
    refine zV_iload_n (i := 2) (n := 52) C dX8_out_51 rfl rfl rfl ?_
    refine zV_bipush (n := 54) C dX8_out_52 (by decide) rfl ?_
    refine zV_icmp_gt (n := 57) C 87 dX8_out_54 (by decide) (by first | omega | exact zb_rg) (by first | omega | exact zb_rg) rfl (fun h54 => ?_) (fun h => by exfalso; first | omega | exact zb_rg)
    exact K2 (by unfold rOI; exact if_pos hs)
  | succ i ih =>
    intro k N S J hN hx hs h0 hi K1 K2
    have I := J
    have z0 := J.1
    have e : rOI x 60 (i + 1) S (k - 1) = rOI x 60 i (rMin S) (k + 1 - 1) := by rw [rOI, if_pos hs]; congr 1; omega
    refine zV_iload_n (i := 2) (n := 52) C dX8_out_51 rfl rfl rfl ?_
    refine zV_bipush (n := 54) C dX8_out_52 (by decide) rfl ?_
    refine zV_icmp_gt (n := 57) C 87 dX8_out_54 (by decide) (by first | omega | exact zb_rg) (by first | omega | exact zb_rg) rfl (fun h => by exfalso; first | omega | exact zb_rg) (fun h54 => ?_)
    refine zV_aload_n (i := 0) (n := 58) C dX8_out_57 rfl rfl rfl ?_
    refine zV_getP (f := 2) (n := 61) C zk7 fX8_19 dX8_out_58 zs_cls rfl (by decide) rfl ?_
    refine zV_callV0v (n := 64) C zk0 jX0_passMinute lX8_169 (c_passMinute (d := d) (by omega) I (by omega)) dX8_out_61 (zs_car (by omega)) rfl (Nat.le_of_ble_eq_true rfl) (zfit_of (by omega) (by decide)) ⟨Nat.le_refl _, Nat.le_refl _⟩ rfl ?_
    have I := rMin_inv J
    have e0 := rMin_0 J
    refine zV_aload_n (i := 0) (n := 65) C dX8_out_64 rfl rfl rfl ?_
    refine zV_getP (f := 2) (n := 68) C zk7 fX8_19 dX8_out_65 zs_cls rfl (by decide) rfl ?_
    refine zV_getP (f := 1) (n := 71) C zk0 fX8_92 dX8_out_68 (zs_car (by omega)) rfl (by decide) rfl ?_
    refine zV_iload_n (i := 1) (n := 72) C dX8_out_71 rfl rfl rfl ?_
    refine zV_aald (n := 73) C dX8_out_72 (zs_carC (by omega)) (by first | omega | exact zb_rg) (by decide) (by decide) rfl ?_
    refine zV_callV0u (n := 76) C zk2 jX2_sits lX8_124 (c_kid_sits (d := d) (by omega) I (by omega)) dX8_out_73 (zs_child (by omega) (by omega)) rfl (Nat.le_of_ble_eq_true rfl) (zfit_of (by omega) (by decide)) ⟨Nat.le_refl _, Nat.le_refl _⟩ rfl ?_
    refine zV_if_ne (n := 79) C 81 dX8_out_76 (by decide) (by first | omega | exact zb_rg) rfl (fun h76 => ?_) (fun h76 => ?_)
    · skip
      simp only [zb_eq0, Decidable.not_not] at h76
      refine zS_iinc_3_2 (n := 84) C dX8_out_81 rfl rfl ?_
      refine zV_goto C 51 dX8_out_84 (by decide) ?_
      have eT : cOutT x (i + 1) S = cOutT x i (rMin S) := by rw [cOutT]; exact if_pos h76
      rw [e, eT] at K1 K2
      exact ih (k + 1) (N + 1) (rMin S) (rMin_inv J) (by omega) (by omega) h76 (by omega) (by omega) K1 K2
    · skip
      simp only [zb_eq0, Decidable.not_not] at h76
      have eT : cOutT x (i + 1) S = rMin S := by rw [cOutT]; exact if_neg h76
      have eV : rOI x 60 (i + 1) S (k - 1) = k := by rw [e, rOI_no h76]; omega
      rw [eV, eT] at K1
      exact K1 (by omega)

set_option maxRecDepth 100000 in
set_option maxHeartbeats 4000000 in
theorem c_out {Γ : zC} {l : Launch} {d : Nat} {μ : zMem} {S : Int → Int} {N : Int} (I : rInv N S) (hN : N ≤ 10000) {x : Int} (hx : -2147483648 ≤ x ∧ x ≤ 2147483647) : zRet Γ l (d + 4) qX8_out [.ref (za Γ 4 0), .int (zi x)] (zcar μ 0 S) (some (.int (zi (if (0 ≤ x ∧ x ≤ S 0 - 1) then (if 0 ≤ rAt S x then (if rOI x 60 60 S 0 ≤ 60 then rOI x 60 60 S 0 else -1000000004) else -1000000005) else -1000000001)))) (if (0 ≤ x ∧ x ≤ S 0 - 1) then (if 0 ≤ rAt S x then (if rOI x 60 60 S 0 ≤ 60 then (zcar (zcar μ 2 (cOutT x 60 S)) 0 S) else zset (zcar (zcar μ 2 (cOutT x 60 S)) 0 S) 4 17 (rFind ((zcar (zcar μ 2 (cOutT x 60 S)) 0 S) 4 17) (-1000000004))) else zset (zcar μ 0 S) 4 17 (rFind ((zcar μ 0 S) 4 17) (-1000000005))) else zset (zcar μ 0 S) 4 17 (rFind ((zcar μ 0 S) 4 17) (-1000000001))) := by
  refine zRet.mk 1 [.ref (za Γ 4 0), .int (zi x), .null] RX8 rfl (by decide +kernel) (Nat.le_of_ble_eq_true rfl) rfl ?_
  intro p e s m below meth c C hr hlk
  have ha := rAt_rg S x
  have h0 := I.1
  have h1 := I.2.1
  have h2 := I.2.2.1
  have h3 := I.2.2.2.1
  refine zV_aload_n (i := 0) (n := 1) C dX8_out_0 rfl rfl rfl ?_
  refine zV_getP (f := 0) (n := 4) C zk7 fX8_10 dX8_out_1 zs_cls rfl (by decide) rfl ?_
  refine zV_iload_n (i := 1) (n := 5) C dX8_out_4 rfl rfl rfl ?_
  refine zV_callV1u (n := 8) C zk0 jX0_has lX8_89 (c_has (d := d) (by omega) I (by omega)) dX8_out_5 (zs_car (by omega)) rfl (Nat.le_of_ble_eq_true rfl) (zfit_of (by omega) (by decide)) ⟨Nat.le_refl _, Nat.le_refl _⟩ rfl ?_
  refine zV_if_ne (n := 11) C 17 dX8_out_8 (by decide) (by first | omega | exact zb_rg) rfl (fun h8 => ?_) (fun h8 => ?_)
  · skip
    simp only [zb_eq0, Decidable.not_not] at h8
    refine zV_aload_n (i := 0) (n := 18) C dX8_out_17 rfl rfl rfl ?_
    refine zV_getP (f := 0) (n := 21) C zk7 fX8_10 dX8_out_18 zs_cls rfl (by decide) rfl ?_
    refine zV_getP (f := 1) (n := 24) C zk0 fX8_92 dX8_out_21 (zs_car (by omega)) rfl (by decide) rfl ?_
    refine zV_iload_n (i := 1) (n := 25) C dX8_out_24 rfl rfl rfl ?_
    refine zV_aald (n := 26) C dX8_out_25 (zs_carC (by omega)) (by first | omega | exact zb_rg) (by decide) (by decide) rfl ?_
    refine zV_callV0u (n := 29) C zk2 jX2_sits lX8_124 (c_kid_sits (d := d) (by omega) I (by omega)) dX8_out_26 (zs_child (by omega) (by omega)) rfl (Nat.le_of_ble_eq_true rfl) (zfit_of (by omega) (by decide)) ⟨Nat.le_refl _, Nat.le_refl _⟩ rfl ?_
    refine zV_if_ne (n := 32) C 38 dX8_out_29 (by decide) (by first | omega | exact zb_rg) rfl (fun h29 => ?_) (fun h29 => ?_)
    · skip
      simp only [zb_eq0, Decidable.not_not] at h29
      refine zV_aload_n (i := 0) (n := 39) C dX8_out_38 rfl rfl rfl ?_
      refine zV_getP (f := 2) (n := 42) C zk7 fX8_19 dX8_out_39 zs_cls rfl (by decide) rfl ?_
      refine zV_aload_n (i := 0) (n := 43) C dX8_out_42 rfl rfl rfl ?_
      refine zV_getP (f := 0) (n := 46) C zk7 fX8_10 dX8_out_43 zs_cls rfl (by decide) rfl ?_
      refine zV_callV1v (n := 49) C zk0 jX0_become lX8_165 (c_become (d := d) (by omega) (by omega) (by omega) I) dX8_out_46 (zs_car (by omega)) rfl (Nat.le_of_ble_eq_true rfl) (zfit_of (by omega) (by decide)) ⟨Nat.le_refl _, Nat.le_refl _⟩ rfl ?_
      refine zV_iconst (n := 50) C dX8_out_49 rfl ?_
      refine zS_istore_n_3_2 (n := 51) C dX8_out_50 rfl rfl ?_
      refine c_out_loop C 60 1 N S I (by omega) (by omega) (by omega) (by omega) (by omega) (fun hV => ?_) (fun hV => ?_)
      · skip
        have hV : rOI x 60 60 S 0 ≤ 60 := hV
        skip
        refine zV_eqm (zcar_comm (by decide)) ?_
        refine zV_iload_n (i := 2) (n := 80) C dX8_out_79 rfl rfl rfl ?_
        exact zV_ireturn C hr hlk dX8_out_80 (by first | exact congrArg (fun z => some (Value.int (zi z))) (zif_t (by omega) (zif_t (by omega) (zif_t hV rfl)))) (by exact zif_t (by omega) (zif_t (by omega) (zif_t hV rfl)))
      · skip
        have hV : rOI x 60 60 S 0 = 61 := hV
        refine zV_eqm (zcar_comm (by decide)) ?_
        refine zV_aload_n (i := 0) (n := 88) C dX8_out_87 rfl rfl rfl ?_
        refine zV_iconst (n := 89) C dX8_out_88 rfl ?_
        refine zV_callV1u (n := 92) C zk7 jX8_tell lX8_61 (c_tell (d := d) (f := 3) (code := -1000000004) (by decide) (by decide)) dX8_out_89 zs_cls rfl (Nat.le_of_ble_eq_true rfl) (zfit_of (by omega) (by decide)) ⟨Nat.le_refl _, Nat.le_refl _⟩ rfl ?_
        exact zV_ireturn C hr hlk dX8_out_92 (by first | exact congrArg (fun z => some (Value.int (zi z))) (zif_t (by omega) (zif_t (by omega) (zif_f (by omega) rfl)))) (by exact zif_t (by omega) (zif_t (by omega) (zif_f (by omega) rfl)))
    · skip
      simp only [zb_eq0, Decidable.not_not] at h29
      refine zV_aload_n (i := 0) (n := 33) C dX8_out_32 rfl rfl rfl ?_
      refine zV_iconst (n := 34) C dX8_out_33 rfl ?_
      refine zV_callV1u (n := 37) C zk7 jX8_tell lX8_61 (c_tell (d := d) (f := 4) (code := -1000000005) (by decide) (by decide)) dX8_out_34 zs_cls rfl (Nat.le_of_ble_eq_true rfl) (zfit_of (by omega) (by decide)) ⟨Nat.le_refl _, Nat.le_refl _⟩ rfl ?_
      exact zV_ireturn C hr hlk dX8_out_37 (by first | exact congrArg (fun z => some (Value.int (zi z))) (zif_t (by omega) (zif_t (by omega) (zif_t (by omega) (rfl)))) | exact congrArg (fun z => some (Value.int (zi z))) (zif_t (by omega) (zif_t (by omega) (zif_f (by omega) rfl))) | exact congrArg (fun z => some (Value.int (zi z))) (zif_t (by omega) (zif_f (by omega) rfl)) | exact congrArg (fun z => some (Value.int (zi z))) (zif_f (by omega) rfl)) (by first | exact zif_t (by omega) (zif_t (by omega) (zif_t (by omega) (rfl))) | exact zif_t (by omega) (zif_t (by omega) (zif_f (by omega) rfl)) | exact zif_t (by omega) (zif_f (by omega) rfl) | exact zif_f (by omega) rfl)
  · skip
    simp only [zb_eq0, Decidable.not_not] at h8
    refine zV_aload_n (i := 0) (n := 12) C dX8_out_11 rfl rfl rfl ?_
    refine zV_iconst (n := 13) C dX8_out_12 rfl ?_
    refine zV_callV1u (n := 16) C zk7 jX8_tell lX8_61 (c_tell (d := d) (f := 0) (code := -1000000001) (by decide) (by decide)) dX8_out_13 zs_cls rfl (Nat.le_of_ble_eq_true rfl) (zfit_of (by omega) (by decide)) ⟨Nat.le_refl _, Nat.le_refl _⟩ rfl ?_
    exact zV_ireturn C hr hlk dX8_out_16 (by first | exact congrArg (fun z => some (Value.int (zi z))) (zif_t (by omega) (zif_t (by omega) (zif_t (by omega) (rfl)))) | exact congrArg (fun z => some (Value.int (zi z))) (zif_t (by omega) (zif_t (by omega) (zif_f (by omega) rfl))) | exact congrArg (fun z => some (Value.int (zi z))) (zif_t (by omega) (zif_f (by omega) rfl)) | exact congrArg (fun z => some (Value.int (zi z))) (zif_f (by omega) rfl)) (by first | exact zif_t (by omega) (zif_t (by omega) (zif_t (by omega) (rfl))) | exact zif_t (by omega) (zif_t (by omega) (zif_f (by omega) rfl)) | exact zif_t (by omega) (zif_f (by omega) rfl) | exact zif_f (by omega) rfl)

set_option maxRecDepth 100000 in
set_option maxHeartbeats 4000000 in
theorem c_firstOut_loop {Γ : zC} {l : Launch} {d : Nat} {p : Program} {e : Env} {s : State} {m : MethodId} {args : Array Value} {below : List Frame} {meth : Method} {c : Code} {Q : State → Prop} (C : zCx Γ (zAA Γ) p s m args c RX8 cX8_firstOut 3) {μ : zMem} {z : Int} (hz : 0 ≤ z ∧ z < 64) :
    ∀ (i : Nat) (k N : Int) (S : Int → Int) (J : rInv N S) (hN : N + i ≤ 20000) (h0 : 1 ≤ k) (hi : k + i = 61) (K1 : (cFO z i S k) ≤ 60 → zV Γ (zAA Γ) p l e (zRm (d + 4)) s m args below meth c 0 0 Q 45 [.ref (za Γ 4 0), .int (zi z), .int (zi (cFO z i S k))] [] (zcar μ 2 (cFOT z i S))) (K2 : (cFO z i S k) = 61 → zV Γ (zAA Γ) p l e (zRm (d + 4)) s m args below meth c 0 0 Q 53 [.ref (za Γ 4 0), .int (zi z), .int (zi 61)] [] (zcar μ 2 (cFOT z i S))), zV Γ (zAA Γ) p l e (zRm (d + 4)) s m args below meth c 0 0 Q 21 [.ref (za Γ 4 0), .int (zi z), .int (zi k)] [] (zcar μ 2 S) := by
  intro i
  induction i with
  | zero =>
    intro k N S J hN h0 hi K1 K2
    have hk : k = 61 := by omega
    subst hk
    refine zV_iload_n (i := 2) (n := 22) C dX8_firstOut_21 rfl rfl rfl ?_
    refine zV_bipush (n := 24) C dX8_firstOut_22 (by decide) rfl ?_
    refine zV_icmp_gt (n := 27) C 53 dX8_firstOut_24 (by decide) (by first | omega | exact zb_rg) (by first | omega | exact zb_rg) rfl (fun h24 => ?_) (fun h => by exfalso; first | omega | exact zb_rg)
    exact K2 rfl
  | succ i ih =>
    intro k N S J hN h0 hi K1 K2
    have I := J
    refine zV_iload_n (i := 2) (n := 22) C dX8_firstOut_21 rfl rfl rfl ?_
    refine zV_bipush (n := 24) C dX8_firstOut_22 (by decide) rfl ?_
    refine zV_icmp_gt (n := 27) C 53 dX8_firstOut_24 (by decide) (by first | omega | exact zb_rg) (by first | omega | exact zb_rg) rfl (fun h => by exfalso; first | omega | exact zb_rg) (fun h24 => ?_)
    refine zV_aload_n (i := 0) (n := 28) C dX8_firstOut_27 rfl rfl rfl ?_
    refine zV_getP (f := 2) (n := 31) C zk7 fX8_19 dX8_firstOut_28 zs_cls rfl (by decide) rfl ?_
    refine zV_callV0v (n := 34) C zk0 jX0_passMinute lX8_169 (c_passMinute (d := d) (by omega) I (by omega)) dX8_firstOut_31 (zs_car (by omega)) rfl (Nat.le_of_ble_eq_true rfl) (zfit_of (by omega) (by decide)) ⟨Nat.le_refl _, Nat.le_refl _⟩ rfl ?_
    have I := rMin_inv J
    have hz2 := rSit_rg I
    refine zV_aload_n (i := 0) (n := 35) C dX8_firstOut_34 rfl rfl rfl ?_
    refine zV_getP (f := 2) (n := 38) C zk7 fX8_19 dX8_firstOut_35 zs_cls rfl (by decide) rfl ?_
    refine zV_callV0u (n := 41) C zk0 jX0_sitting lX8_152 (c_sitting (d := d) (by omega) I) dX8_firstOut_38 (zs_car (by omega)) rfl (Nat.le_of_ble_eq_true rfl) (zfit_of (by omega) (by decide)) ⟨Nat.le_refl _, Nat.le_refl _⟩ rfl ?_
    refine zV_iload_n (i := 1) (n := 42) C dX8_firstOut_41 rfl rfl rfl ?_
    refine zV_icmp_eq (n := 45) C 47 dX8_firstOut_42 (by decide) (by first | omega | exact zb_rg) (by first | omega | exact zb_rg) rfl (fun h42 => ?_) (fun h42 => ?_)
    · skip
      refine zS_iinc_3_2 (n := 50) C dX8_firstOut_47 rfl rfl ?_
      refine zV_goto C 21 dX8_firstOut_50 (by decide) ?_
      have eT : cFOT z (i + 1) S = cFOT z i (rMin S) := by rw [cFOT]; exact if_pos h42
      have eV : cFO z (i + 1) S k = cFO z i (rMin S) (k + 1) := by rw [cFO]; exact if_pos h42
      rw [eV, eT] at K1 K2
      exact ih (k + 1) (N + 1) (rMin S) (rMin_inv J) (by omega) (by omega) (by omega) K1 K2
    · skip
      have eT : cFOT z (i + 1) S = rMin S := by rw [cFOT]; exact if_neg h42
      have eV : cFO z (i + 1) S k = k := by rw [cFO]; exact if_neg h42
      rw [eV, eT] at K1
      exact K1 (by omega)

set_option maxRecDepth 100000 in
set_option maxHeartbeats 4000000 in
theorem c_firstOut {Γ : zC} {l : Launch} {d : Nat} {μ : zMem} {S : Int → Int} {N : Int} (I : rInv N S) (hN : N ≤ 10000)  : zRet Γ l (d + 4) qX8_firstOut [.ref (za Γ 4 0)] (zcar μ 0 S) (some (.int (zi (if cFO (rSit S) 60 S 1 ≤ 60 then cFO (rSit S) 60 S 1 else -1000000004)))) (if cFO (rSit S) 60 S 1 ≤ 60 then (zcar (zcar μ 2 (cFOT (rSit S) 60 S)) 0 S) else zset (zcar (zcar μ 2 (cFOT (rSit S) 60 S)) 0 S) 4 17 (rFind ((zcar (zcar μ 2 (cFOT (rSit S) 60 S)) 0 S) 4 17) (-1000000004))) := by
  refine zRet.mk 2 [.ref (za Γ 4 0), .null, .null] RX8 rfl (by decide +kernel) (Nat.le_of_ble_eq_true rfl) rfl ?_
  intro p e s m below meth c C hr hlk
  have h0 := I.1
  have h1 := I.2.1
  have h2 := I.2.2.1
  have h3 := I.2.2.2.1
  refine zV_aload_n (i := 0) (n := 1) C dX8_firstOut_0 rfl rfl rfl ?_
  refine zV_getP (f := 2) (n := 4) C zk7 fX8_19 dX8_firstOut_1 zs_cls rfl (by decide) rfl ?_
  refine zV_aload_n (i := 0) (n := 5) C dX8_firstOut_4 rfl rfl rfl ?_
  refine zV_getP (f := 0) (n := 8) C zk7 fX8_10 dX8_firstOut_5 zs_cls rfl (by decide) rfl ?_
  refine zV_callV1v (n := 11) C zk0 jX0_become lX8_165 (c_become (d := d) (by omega) (by omega) (by omega) I) dX8_firstOut_8 (zs_car (by omega)) rfl (Nat.le_of_ble_eq_true rfl) (zfit_of (by omega) (by decide)) ⟨Nat.le_refl _, Nat.le_refl _⟩ rfl ?_
  refine zV_eqm (zcar_comm (by decide)) ?_
  refine zV_aload_n (i := 0) (n := 12) C dX8_firstOut_11 rfl rfl rfl ?_
  refine zV_getP (f := 0) (n := 15) C zk7 fX8_10 dX8_firstOut_12 zs_cls rfl (by decide) rfl ?_
  refine zV_callV0u (n := 18) C zk0 jX0_sitting lX8_152 (c_sitting (d := d) (by omega) I) dX8_firstOut_15 (zs_car (by omega)) rfl (Nat.le_of_ble_eq_true rfl) (zfit_of (by omega) (by decide)) ⟨Nat.le_refl _, Nat.le_refl _⟩ rfl ?_
  refine zS_istore_n_3_1 (n := 19) C dX8_firstOut_18 rfl rfl ?_
  refine zV_eqm (zcar_comm (by decide)) ?_
  refine zV_iconst (n := 20) C dX8_firstOut_19 rfl ?_
  refine zS_istore_n_3_2 (n := 21) C dX8_firstOut_20 rfl rfl ?_
  have hz := rSit_rg I
  refine c_firstOut_loop C hz 60 1 N S I (by omega) (by omega) (by omega) (fun hV => ?_) (fun hV => ?_)
  · skip
    refine zV_eqm (zcar_comm (by decide)) ?_
    refine zV_iload_n (i := 2) (n := 46) C dX8_firstOut_45 rfl rfl rfl ?_
    exact zV_ireturn C hr hlk dX8_firstOut_46 (by first | exact congrArg (fun z => some (Value.int (zi z))) (zif_t hV rfl)) (by exact zif_t hV rfl)
  · skip
    refine zV_eqm (zcar_comm (by decide)) ?_
    refine zV_aload_n (i := 0) (n := 54) C dX8_firstOut_53 rfl rfl rfl ?_
    refine zV_iconst (n := 55) C dX8_firstOut_54 rfl ?_
    refine zV_callV1u (n := 58) C zk7 jX8_tell lX8_61 (c_tell (d := d) (f := 3) (code := -1000000004) (by decide) (by decide)) dX8_firstOut_55 zs_cls rfl (Nat.le_of_ble_eq_true rfl) (zfit_of (by omega) (by decide)) ⟨Nat.le_refl _, Nat.le_refl _⟩ rfl ?_
    exact zV_ireturn C hr hlk dX8_firstOut_58 (by first | exact congrArg (fun z => some (Value.int (zi z))) (zif_f (by omega) rfl)) (by exact zif_f (by omega) rfl)

set_option maxRecDepth 100000 in
set_option maxHeartbeats 4000000 in
theorem c_staysInTrial {Γ : zC} {l : Launch} {d : Nat} {μ : zMem} {S : Int → Int} {N : Int} (I : rInv N S) (hN : N ≤ 10000) {x : Int} (hx : 0 ≤ x ∧ x < S 0) {n : Int} (hn : 0 ≤ n ∧ n ≤ 60) : zRet Γ l (d + 5) qX8_staysInTrial [.ref (za Γ 4 0), .int (zi x), .int (zi n)] (zcar μ 2 S) (some (.int (zi (zb (0 ≤ rAt (rGo n.toNat S) x))))) (zcar μ 2 (rGo n.toNat S)) := by
  refine zRet.mk 0 [.ref (za Γ 4 0), .int (zi x), .int (zi n)] RX8 rfl (by decide +kernel) (Nat.le_of_ble_eq_true rfl) rfl ?_
  intro p e s m below meth c C hr hlk
  have z0 := I.1
  refine zV_aload_n (i := 0) (n := 1) C dX8_staysInTrial_0 rfl rfl rfl ?_
  refine zV_getP (f := 2) (n := 4) C zk7 fX8_19 dX8_staysInTrial_1 zs_cls rfl (by decide) rfl ?_
  refine zV_iload_n (i := 2) (n := 5) C dX8_staysInTrial_4 rfl rfl rfl ?_
  refine zV_callV1v (n := 8) C zk0 jX0_passMinutes lX8_149 (c_passMinutes (d := d) (by omega) I (by omega) (by omega)) dX8_staysInTrial_5 (zs_car (by omega)) rfl (Nat.le_of_ble_eq_true rfl) (zfit_of (by omega) (by decide)) ⟨Nat.le_refl _, Nat.le_refl _⟩ rfl ?_
  have e0 : rGo n.toNat S 0 = S 0 := rGo_0 (N := 0) I
  have I : rInv (N + n.toNat) (rGo n.toNat S) := rGo_inv (S := S) I
  refine zV_aload_n (i := 0) (n := 9) C dX8_staysInTrial_8 rfl rfl rfl ?_
  refine zV_getP (f := 2) (n := 12) C zk7 fX8_19 dX8_staysInTrial_9 zs_cls rfl (by decide) rfl ?_
  refine zV_getP (f := 1) (n := 15) C zk0 fX8_92 dX8_staysInTrial_12 (zs_car (by omega)) rfl (by decide) rfl ?_
  refine zV_iload_n (i := 1) (n := 16) C dX8_staysInTrial_15 rfl rfl rfl ?_
  refine zV_aald (n := 17) C dX8_staysInTrial_16 (zs_carC (by omega)) (by first | omega | exact zb_rg) (by decide) (by decide) rfl ?_
  refine zV_callV0u (n := 20) C zk2 jX2_sits lX8_124 (c_kid_sits (d := d) (by omega) I (by omega)) dX8_staysInTrial_17 (zs_child (by omega) (by omega)) rfl (Nat.le_of_ble_eq_true rfl) (zfit_of (by omega) (by decide)) ⟨Nat.le_refl _, Nat.le_refl _⟩ rfl ?_
  exact zV_zreturn C hr hlk dX8_staysInTrial_20 (by first | rfl | exact (zi_z zb_01).1 | exact (zi_z (by omega)).1) (by rfl) (by rfl)

set_option maxRecDepth 100000 in
set_option maxHeartbeats 4000000 in
theorem c_bribes_in {Γ : zC} {l : Launch} {d : Nat} {p : Program} {e : Env} {s : State} {m : MethodId} {args : Array Value} {below : List Frame} {meth : Method} {c : Code} {Q : State → Prop} (C : zCx Γ (zAA Γ) p s m args c RX8 cX8_bribes 5) {μ : zMem} {S : Int → Int} {N : Int} (I : rInv N S) {x n : Int} (hx : 0 ≤ x ∧ x < S 0) {k : Nat} (hk : k ≤ 9) :
    ∀ (i : Nat) (j : Nat) (hi : j + i = k) (KK : zV Γ (zAA Γ) p l e (zRm (d + 6)) s m args below meth c 0 0 Q 91 [.ref (za Γ 4 0), .int (zi x), .int (zi n), .int (zi (k : Int)), .int (zi (k : Int))] [] (zcar μ 2 (cBr x S k))), zV Γ (zAA Γ) p l e (zRm (d + 6)) s m args below meth c 0 0 Q 71 [.ref (za Γ 4 0), .int (zi x), .int (zi n), .int (zi (k : Int)), .int (zi (j : Int))] [] (zcar μ 2 (cBr x S j)) := by
  intro i
  induction i with
  | zero =>
    intro j hi KK
    have hj : j = k := by omega
    subst hj
    refine zV_iload (n := 73) C dX8_bribes_71 rfl rfl ?_
    refine zV_iload_n (i := 3) (n := 74) C dX8_bribes_73 rfl rfl rfl ?_
    refine zV_icmp_ge (n := 77) C 91 dX8_bribes_74 (by decide) (by first | omega | exact zb_rg) (by first | omega | exact zb_rg) rfl (fun h74 => ?_) (fun h => by exfalso; first | omega | exact zb_rg)
    exact KK
  | succ i ih =>
    intro j hi KK
    have z0 := I.1
    have q := cBr_inv I (x := x) (by omega) j
    have e0 := q.2
    refine zV_iload (n := 73) C dX8_bribes_71 rfl rfl ?_
    refine zV_iload_n (i := 3) (n := 74) C dX8_bribes_73 rfl rfl rfl ?_
    refine zV_icmp_ge (n := 77) C 91 dX8_bribes_74 (by decide) (by first | omega | exact zb_rg) (by first | omega | exact zb_rg) rfl (fun h => by exfalso; first | omega | exact zb_rg) (fun h74 => ?_)
    refine zV_aload_n (i := 0) (n := 78) C dX8_bribes_77 rfl rfl rfl ?_
    refine zV_getP (f := 2) (n := 81) C zk7 fX8_19 dX8_bribes_78 zs_cls rfl (by decide) rfl ?_
    refine zV_iload_n (i := 1) (n := 82) C dX8_bribes_81 rfl rfl rfl ?_
    refine zV_callV1v (n := 85) C zk0 jX0_giveBribe lX8_143 (c_giveBribe (d := d) (by omega) q.1 (by omega)) dX8_bribes_82 (zs_car (by omega)) rfl (Nat.le_of_ble_eq_true rfl) (zfit_of (by omega) (by decide)) ⟨Nat.le_refl _, Nat.le_refl _⟩ rfl ?_
    refine zS_iinc_5_4 (n := 88) C dX8_bribes_85 rfl rfl ?_
    refine zV_goto C 71 dX8_bribes_88 (by decide) ?_
    exact ih (j + 1) (by omega) KK

set_option maxRecDepth 100000 in
set_option maxHeartbeats 4000000 in
theorem c_bribes_loop {Γ : zC} {l : Launch} {d : Nat} {p : Program} {e : Env} {s : State} {m : MethodId} {args : Array Value} {below : List Frame} {meth : Method} {c : Code} {Q : State → Prop} (C : zCx Γ (zAA Γ) p s m args c RX8 cX8_bribes 5) {μ : zMem} {S : Int → Int} {N : Int} (I : rInv N S) (hN : N ≤ 10000) {x n : Int} (hx : 0 ≤ x ∧ x < S 0) (hn : 1 ≤ n ∧ n ≤ 60) :
    ∀ (i : Nat) (k : Nat) (v4 : Value) (ν : zMem) (hν : ∀ X : Int → Int, X 0 = S 0 → zcar ν 2 X = zcar μ 2 X) (h9 : i = 0 → ν = zcar μ 2 (rGo n.toNat (cBr x S 9))) (hi : k + i = 10) (K1 : ∀ k8 : Nat, rBs x n.toNat i (cBr x S k) (k : Int) = k8 → ∀ v4 : Value, zV Γ (zAA Γ) p l e (zRm (d + 6)) s m args below meth c 0 0 Q 100 [.ref (za Γ 4 0), .int (zi x), .int (zi n), .int (zi (k8 : Int)), v4] [] (zcar (zcar μ 2 (rGo n.toNat (cBr x S k8))) 0 S)) (K2 : rBs x n.toNat i (cBr x S k) (k : Int) = -1 → ∀ v4 : Value, zV Γ (zAA Γ) p l e (zRm (d + 6)) s m args below meth c 0 0 Q 108 [.ref (za Γ 4 0), .int (zi x), .int (zi n), .int (zi 10), v4] [] (zcar (zcar μ 2 (rGo n.toNat (cBr x S 9))) 0 S)), zV Γ (zAA Γ) p l e (zRm (d + 6)) s m args below meth c 0 0 Q 51 [.ref (za Γ 4 0), .int (zi x), .int (zi n), .int (zi (k : Int)), v4] [] (zcar ν 0 S) := by
  intro i
  induction i with
  | zero =>
    intro k v4 ν hν h9 hi K1 K2
    have hk : k = 10 := by omega
    subst hk
    refine zV_eqm (by rw [h9 rfl]) ?_
    refine zV_iload_n (i := 3) (n := 52) C dX8_bribes_51 rfl rfl rfl ?_
    refine zV_bipush (n := 54) C dX8_bribes_52 (by decide) rfl ?_
    refine zV_icmp_gt (n := 57) C 108 dX8_bribes_54 (by decide) (by first | omega | exact zb_rg) (by first | omega | exact zb_rg) rfl (fun h54 => ?_) (fun h => by exfalso; first | omega | exact zb_rg)
    exact K2 rfl _
  | succ i ih =>
    intro k v4 ν hν h9 hi K1 K2
    have z0 := I.1
    have q := cBr_inv I (x := x) (by omega) k
    have e0 := q.2
    refine zV_iload_n (i := 3) (n := 52) C dX8_bribes_51 rfl rfl rfl ?_
    refine zV_bipush (n := 54) C dX8_bribes_52 (by decide) rfl ?_
    refine zV_icmp_gt (n := 57) C 108 dX8_bribes_54 (by decide) (by first | omega | exact zb_rg) (by first | omega | exact zb_rg) rfl (fun h => by exfalso; first | omega | exact zb_rg) (fun h54 => ?_)
    refine zV_aload_n (i := 0) (n := 58) C dX8_bribes_57 rfl rfl rfl ?_
    refine zV_getP (f := 2) (n := 61) C zk7 fX8_19 dX8_bribes_58 zs_cls rfl (by decide) rfl ?_
    refine zV_aload_n (i := 0) (n := 62) C dX8_bribes_61 rfl rfl rfl ?_
    refine zV_getP (f := 0) (n := 65) C zk7 fX8_10 dX8_bribes_62 zs_cls rfl (by decide) rfl ?_
    refine zV_callV1v (n := 68) C zk0 jX0_become lX8_165 (c_become (d := d) (by omega) (by omega) (by omega) I) dX8_bribes_65 (zs_car (by omega)) rfl (Nat.le_of_ble_eq_true rfl) (zfit_of (by omega) (by decide)) ⟨Nat.le_refl _, Nat.le_refl _⟩ rfl ?_
    refine zV_iconst (n := 69) C dX8_bribes_68 rfl ?_
    refine zS_istore_5_4 (n := 71) C dX8_bribes_69 rfl rfl ?_
    refine c_bribes_in (μ := zcar ν 0 S) C I hx (k := k) (by omega) k 0 (by omega) ?_
    refine zV_aload_n (i := 0) (n := 92) C dX8_bribes_91 rfl rfl rfl ?_
    refine zV_iload_n (i := 1) (n := 93) C dX8_bribes_92 rfl rfl rfl ?_
    refine zV_iload_n (i := 2) (n := 94) C dX8_bribes_93 rfl rfl rfl ?_
    refine zV_callV2u (n := 97) C zk7 jX8_staysInTrial lX8_200 (c_staysInTrial (d := d) q.1 hN (by omega) (by omega)) dX8_bribes_94 zs_cls rfl (Nat.le_of_ble_eq_true rfl) (zfit_of (by omega) (by decide)) ⟨Nat.le_refl _, Nat.le_refl _⟩ rfl ?_
    refine zV_if_eq (n := 100) C 102 dX8_bribes_97 (by decide) (by first | omega | exact zb_rg) rfl (fun hb => ?_) (fun hb => ?_)
    · skip
      simp only [zb_eq0, Decidable.not_not] at hb
      refine zS_iinc_5_3 (n := 105) C dX8_bribes_102 rfl rfl ?_
      refine zV_goto C 51 dX8_bribes_105 (by decide) ?_
      have g0 : rGo n.toNat (cBr x S k) 0 = S 0 := (rGo_0 (N := 0) q.1).trans q.2
      refine zV_eqm (zcar_comm (by decide)) ?_
      refine zV_eqm (by rw [hν _ g0]) ?_
      have K3 := ih (k + 1) (.int (zi (k : Int))) (zcar μ 2 (rGo n.toNat (cBr x S k))) (fun X hX => zcar_car (hX.trans g0.symm)) (fun q9 => by have e9 : k = 9 := (by omega); subst e9; rfl) (by omega) (fun k8 h8 => K1 k8 (by rw [rBs, if_neg hb]; exact h8)) (fun h8 => K2 (by rw [rBs, if_neg hb]; exact h8))
      exact K3
    · skip
      simp only [zb_eq0, Decidable.not_not] at hb
      have g0 : rGo n.toNat (cBr x S k) 0 = S 0 := (rGo_0 (N := 0) q.1).trans q.2
      refine zV_eqm (zcar_comm (by decide)) ?_
      refine zV_eqm (by rw [hν _ g0]) ?_
      exact K1 k (by rw [rBs]; exact if_pos hb) _

set_option maxRecDepth 100000 in
set_option maxHeartbeats 4000000 in
theorem c_bribes {Γ : zC} {l : Launch} {d : Nat} {μ : zMem} {S : Int → Int} {N : Int} (I : rInv N S) (hN : N ≤ 10000) {x : Int} (hx : -2147483648 ≤ x ∧ x ≤ 2147483647) {n : Int} (hn : -2147483648 ≤ n ∧ n ≤ 2147483647) : zRet Γ l (d + 6) qX8_bribes [.ref (za Γ 4 0), .int (zi x), .int (zi n)] (zcar μ 0 S) (some (.int (zi (if rWst S x n = 0 then (if 0 ≤ rBs x n.toNat 10 S 0 then rBs x n.toNat 10 S 0 else -1000000004) else rWst S x n)))) (if rWst S x n = 0 then (if 0 ≤ rBs x n.toNat 10 S 0 then (zcar (zcar μ 2 (rGo n.toNat (cBr x S (if 0 ≤ rBs x n.toNat 10 S 0 then (rBs x n.toNat 10 S 0).toNat else 9)))) 0 S) else zset (zcar (zcar μ 2 (rGo n.toNat (cBr x S (if 0 ≤ rBs x n.toNat 10 S 0 then (rBs x n.toNat 10 S 0).toNat else 9)))) 0 S) 4 17 (rFind ((zcar (zcar μ 2 (rGo n.toNat (cBr x S (if 0 ≤ rBs x n.toNat 10 S 0 then (rBs x n.toNat 10 S 0).toNat else 9)))) 0 S) 4 17) (-1000000004))) else zset (zcar μ 0 S) 4 17 (rFind ((zcar μ 0 S) 4 17) (rWst S x n))) := by
  refine zRet.mk 2 [.ref (za Γ 4 0), .int (zi x), .int (zi n), .null, .null] RX8 rfl (by decide +kernel) (Nat.le_of_ble_eq_true rfl) rfl ?_
  intro p e s m below meth c C hr hlk
  have h0 := I.1
  have h1 := I.2.1
  have h2 := I.2.2.1
  have h3 := I.2.2.2.1
  have ha := rAt_rg S x
  refine zV_aload_n (i := 0) (n := 1) C dX8_bribes_0 rfl rfl rfl ?_
  refine zV_getP (f := 0) (n := 4) C zk7 fX8_10 dX8_bribes_1 zs_cls rfl (by decide) rfl ?_
  refine zV_iload_n (i := 1) (n := 5) C dX8_bribes_4 rfl rfl rfl ?_
  refine zV_callV1u (n := 8) C zk0 jX0_has lX8_89 (c_has (d := d) (by omega) I (by omega)) dX8_bribes_5 (zs_car (by omega)) rfl (Nat.le_of_ble_eq_true rfl) (zfit_of (by omega) (by decide)) ⟨Nat.le_refl _, Nat.le_refl _⟩ rfl ?_
  refine zV_if_eq (n := 11) C 22 dX8_bribes_8 (by decide) (by first | omega | exact zb_rg) rfl (fun h8 => ?_) (fun h8 => ?_)
  · skip
    simp only [zb_eq0, Decidable.not_not] at h8
    refine zV_aload_n (i := 0) (n := 23) C dX8_bribes_22 rfl rfl rfl ?_
    refine zV_iconst (n := 24) C dX8_bribes_23 rfl ?_
    refine zV_callV1u (n := 27) C zk7 jX8_tell lX8_61 (c_tell (d := d) (f := 0) (code := -1000000001) (by decide) (by decide)) dX8_bribes_24 zs_cls rfl (Nat.le_of_ble_eq_true rfl) (zfit_of (by omega) (by decide)) ⟨Nat.le_refl _, Nat.le_refl _⟩ rfl ?_
    exact zV_ireturn C hr hlk dX8_bribes_27 (by exact congrArg (fun z => some (Value.int (zi z))) (by rw [show rWst S x n = -1000000001 from by unfold rWst; exact if_neg (by omega)]; rfl)) (by rw [show rWst S x n = -1000000001 from by unfold rWst; exact if_neg (by omega)]; rfl)
  · skip
    simp only [zb_eq0, Decidable.not_not] at h8
    refine zV_iload_n (i := 2) (n := 12) C dX8_bribes_11 rfl rfl rfl ?_
    refine zV_iconst (n := 13) C dX8_bribes_12 rfl ?_
    refine zV_icmp_lt (n := 16) C 22 dX8_bribes_13 (by decide) (by first | omega | exact zb_rg) (by first | omega | exact zb_rg) rfl (fun h13 => ?_) (fun h13 => ?_)
    · skip
      refine zV_aload_n (i := 0) (n := 23) C dX8_bribes_22 rfl rfl rfl ?_
      refine zV_iconst (n := 24) C dX8_bribes_23 rfl ?_
      refine zV_callV1u (n := 27) C zk7 jX8_tell lX8_61 (c_tell (d := d) (f := 0) (code := -1000000001) (by decide) (by decide)) dX8_bribes_24 zs_cls rfl (Nat.le_of_ble_eq_true rfl) (zfit_of (by omega) (by decide)) ⟨Nat.le_refl _, Nat.le_refl _⟩ rfl ?_
      exact zV_ireturn C hr hlk dX8_bribes_27 (by exact congrArg (fun z => some (Value.int (zi z))) (by rw [show rWst S x n = -1000000001 from by unfold rWst; exact if_neg (by omega)]; rfl)) (by rw [show rWst S x n = -1000000001 from by unfold rWst; exact if_neg (by omega)]; rfl)
    · skip
      refine zV_iload_n (i := 2) (n := 17) C dX8_bribes_16 rfl rfl rfl ?_
      refine zV_bipush (n := 19) C dX8_bribes_17 (by decide) rfl ?_
      refine zV_icmp_le (n := 22) C 28 dX8_bribes_19 (by decide) (by first | omega | exact zb_rg) (by first | omega | exact zb_rg) rfl (fun h19 => ?_) (fun h19 => ?_)
      · skip
        refine zV_aload_n (i := 0) (n := 29) C dX8_bribes_28 rfl rfl rfl ?_
        refine zV_getP (f := 0) (n := 32) C zk7 fX8_10 dX8_bribes_29 zs_cls rfl (by decide) rfl ?_
        refine zV_getP (f := 1) (n := 35) C zk0 fX8_92 dX8_bribes_32 (zs_car (by omega)) rfl (by decide) rfl ?_
        refine zV_iload_n (i := 1) (n := 36) C dX8_bribes_35 rfl rfl rfl ?_
        refine zV_aald (n := 37) C dX8_bribes_36 (zs_carC (by omega)) (by first | omega | exact zb_rg) (by decide) (by decide) rfl ?_
        refine zV_callV0u (n := 40) C zk2 jX2_sits lX8_124 (c_kid_sits (d := d) (by omega) I (by omega)) dX8_bribes_37 (zs_child (by omega) (by omega)) rfl (Nat.le_of_ble_eq_true rfl) (zfit_of (by omega) (by decide)) ⟨Nat.le_refl _, Nat.le_refl _⟩ rfl ?_
        refine zV_if_ne (n := 43) C 49 dX8_bribes_40 (by decide) (by first | omega | exact zb_rg) rfl (fun h40 => ?_) (fun h40 => ?_)
        · skip
          simp only [zb_eq0, Decidable.not_not] at h40
          refine zV_iconst (n := 50) C dX8_bribes_49 rfl ?_
          refine zS_istore_n_5_3 (n := 51) C dX8_bribes_50 rfl rfl ?_
          have hW : rWst S x n = 0 := by unfold rWst; rw [if_pos (by omega)]; exact if_pos (by omega)
          refine c_bribes_loop (μ := μ) C I hN (by omega) (by omega) 10 0 .null μ (fun X _ => rfl) (fun q => by omega) (by omega) (fun k8 hV v4 => ?_) (fun hV v4 => ?_)
          · skip
            have hV : rBs x n.toNat 10 S 0 = (k8 : Int) := hV
            refine zV_iload_n (i := 3) (n := 101) C dX8_bribes_100 rfl rfl rfl ?_
            exact zV_ireturn C hr hlk dX8_bribes_101 (by first | exact congrArg (fun z => some (Value.int (zi z))) (zif_t hW (zif_t (by omega) hV.symm))) (by exact zif_t hW (zif_t (by omega) (by rw [if_pos (by omega), hV, Int.toNat_natCast])))
          · skip
            have hV : rBs x n.toNat 10 S 0 = -1 := hV
            refine zV_aload_n (i := 0) (n := 109) C dX8_bribes_108 rfl rfl rfl ?_
            refine zV_iconst (n := 110) C dX8_bribes_109 rfl ?_
            refine zV_callV1u (n := 113) C zk7 jX8_tell lX8_61 (c_tell (d := d) (f := 3) (code := -1000000004) (by decide) (by decide)) dX8_bribes_110 zs_cls rfl (Nat.le_of_ble_eq_true rfl) (zfit_of (by omega) (by decide)) ⟨Nat.le_refl _, Nat.le_refl _⟩ rfl ?_
            exact zV_ireturn C hr hlk dX8_bribes_113 (by first | exact congrArg (fun z => some (Value.int (zi z))) (zif_t hW (zif_f (by omega) rfl))) (by exact zif_t hW (zif_f (by omega) (by rw [if_neg (by omega)])))
        · skip
          simp only [zb_eq0, Decidable.not_not] at h40
          refine zV_aload_n (i := 0) (n := 44) C dX8_bribes_43 rfl rfl rfl ?_
          refine zV_iconst (n := 45) C dX8_bribes_44 rfl ?_
          refine zV_callV1u (n := 48) C zk7 jX8_tell lX8_61 (c_tell (d := d) (f := 4) (code := -1000000005) (by decide) (by decide)) dX8_bribes_45 zs_cls rfl (Nat.le_of_ble_eq_true rfl) (zfit_of (by omega) (by decide)) ⟨Nat.le_refl _, Nat.le_refl _⟩ rfl ?_
          exact zV_ireturn C hr hlk dX8_bribes_48 (by exact congrArg (fun z => some (Value.int (zi z))) (by rw [show rWst S x n = -1000000005 from by unfold rWst; rw [if_pos (by omega)]; exact if_neg (by omega)]; rfl)) (by rw [show rWst S x n = -1000000005 from by unfold rWst; rw [if_pos (by omega)]; exact if_neg (by omega)]; rfl)
      · skip
        refine zV_aload_n (i := 0) (n := 23) C dX8_bribes_22 rfl rfl rfl ?_
        refine zV_iconst (n := 24) C dX8_bribes_23 rfl ?_
        refine zV_callV1u (n := 27) C zk7 jX8_tell lX8_61 (c_tell (d := d) (f := 0) (code := -1000000001) (by decide) (by decide)) dX8_bribes_24 zs_cls rfl (Nat.le_of_ble_eq_true rfl) (zfit_of (by omega) (by decide)) ⟨Nat.le_refl _, Nat.le_refl _⟩ rfl ?_
        exact zV_ireturn C hr hlk dX8_bribes_27 (by exact congrArg (fun z => some (Value.int (zi z))) (by rw [show rWst S x n = -1000000001 from by unfold rWst; exact if_neg (by omega)]; rfl)) (by rw [show rWst S x n = -1000000001 from by unfold rWst; exact if_neg (by omega)]; rfl)

set_option maxRecDepth 100000 in
set_option maxHeartbeats 4000000 in
theorem c_mood_loop {Γ : zC} {l : Launch} {d : Nat} {p : Program} {e : Env} {s : State} {m : MethodId} {args : Array Value} {below : List Frame} {meth : Method} {c : Code} {Q : State → Prop} (C : zCx Γ (zAA Γ) p s m args c RX8 cX8_mood 4) {μ : zMem} {S : Int → Int} {N : Int} (I : rInv N S) (hN : N ≤ 10000) {x n : Int} (hx : 0 ≤ x ∧ x < S 0) (hn : 1 ≤ n ∧ n ≤ 60) :
    ∀ (i : Nat) (k : Nat) (ν : zMem) (hν : ∀ X : Int → Int, X 0 = S 0 → zcar ν 2 X = zcar μ 2 X) (h9 : i = 0 → ν = zcar μ 2 (rGo n.toNat (zfu S (19 + 6 * x + 2) (9 : Int)))) (hi : k + i = 10) (K1 : ∀ k8 : Nat, rMd x n.toNat S i (k : Int) = k8 → zV Γ (zAA Γ) p l e (zRm (d + 6)) s m args below meth c 0 0 Q 90 [.ref (za Γ 4 0), .int (zi x), .int (zi n), .int (zi (k8 : Int))] [] (zcar (zcar μ 2 (rGo n.toNat (zfu S (19 + 6 * x + 2) (k8 : Int)))) 0 S)) (K2 : rMd x n.toNat S i (k : Int) = -1 → zV Γ (zAA Γ) p l e (zRm (d + 6)) s m args below meth c 0 0 Q 98 [.ref (za Γ 4 0), .int (zi x), .int (zi n), .int (zi 10)] [] (zcar (zcar μ 2 (rGo n.toNat (zfu S (19 + 6 * x + 2) (9 : Int)))) 0 S)), zV Γ (zAA Γ) p l e (zRm (d + 6)) s m args below meth c 0 0 Q 51 [.ref (za Γ 4 0), .int (zi x), .int (zi n), .int (zi (k : Int))] [] (zcar ν 0 S) := by
  intro i
  induction i with
  | zero =>
    intro k ν hν h9 hi K1 K2
    have hk : k = 10 := by omega
    subst hk
    refine zV_eqm (by rw [h9 rfl]) ?_
    refine zV_iload_n (i := 3) (n := 52) C dX8_mood_51 rfl rfl rfl ?_
    refine zV_bipush (n := 54) C dX8_mood_52 (by decide) rfl ?_
    refine zV_icmp_gt (n := 57) C 98 dX8_mood_54 (by decide) (by first | omega | exact zb_rg) (by first | omega | exact zb_rg) rfl (fun h54 => ?_) (fun h => by exfalso; first | omega | exact zb_rg)
    exact K2 rfl
  | succ i ih =>
    intro k ν hν h9 hi K1 K2
    have z0 := I.1
    have q : rInv N (zfu S (19 + 6 * x + 2) (k : Int)) ∧ (zfu S (19 + 6 * x + 2) (k : Int)) 0 = S 0 := ⟨rInv_kid I (by omega) (by omega) (by simp; omega), zfu_ne (by omega)⟩
    have e0 := q.2
    refine zV_iload_n (i := 3) (n := 52) C dX8_mood_51 rfl rfl rfl ?_
    refine zV_bipush (n := 54) C dX8_mood_52 (by decide) rfl ?_
    refine zV_icmp_gt (n := 57) C 98 dX8_mood_54 (by decide) (by first | omega | exact zb_rg) (by first | omega | exact zb_rg) rfl (fun h => by exfalso; first | omega | exact zb_rg) (fun h54 => ?_)
    refine zV_aload_n (i := 0) (n := 58) C dX8_mood_57 rfl rfl rfl ?_
    refine zV_getP (f := 2) (n := 61) C zk7 fX8_19 dX8_mood_58 zs_cls rfl (by decide) rfl ?_
    refine zV_aload_n (i := 0) (n := 62) C dX8_mood_61 rfl rfl rfl ?_
    refine zV_getP (f := 0) (n := 65) C zk7 fX8_10 dX8_mood_62 zs_cls rfl (by decide) rfl ?_
    refine zV_callV1v (n := 68) C zk0 jX0_become lX8_165 (c_become (d := d) (by omega) (by omega) (by omega) I) dX8_mood_65 (zs_car (by omega)) rfl (Nat.le_of_ble_eq_true rfl) (zfit_of (by omega) (by decide)) ⟨Nat.le_refl _, Nat.le_refl _⟩ rfl ?_
    refine zV_aload_n (i := 0) (n := 69) C dX8_mood_68 rfl rfl rfl ?_
    refine zV_getP (f := 2) (n := 72) C zk7 fX8_19 dX8_mood_69 zs_cls rfl (by decide) rfl ?_
    refine zV_getP (f := 1) (n := 75) C zk0 fX8_92 dX8_mood_72 (zs_car (by omega)) rfl (by decide) rfl ?_
    refine zV_iload_n (i := 1) (n := 76) C dX8_mood_75 rfl rfl rfl ?_
    refine zV_aald (n := 77) C dX8_mood_76 (zs_carC (by omega)) (by first | omega | exact zb_rg) (by decide) (by decide) rfl ?_
    refine zV_iload_n (i := 3) (n := 78) C dX8_mood_77 rfl rfl rfl ?_
    refine zV_putI (f := 2) (fi := 2) (n := 81) C zk2 fX8_114 dX8_mood_78 (zs_child (by omega) (by omega)) rfl (by decide) rfl rfl rfl rfl ?_
    rw [zcu_kid (by omega) (by omega)]
    refine zV_aload_n (i := 0) (n := 82) C dX8_mood_81 rfl rfl rfl ?_
    refine zV_iload_n (i := 1) (n := 83) C dX8_mood_82 rfl rfl rfl ?_
    refine zV_iload_n (i := 2) (n := 84) C dX8_mood_83 rfl rfl rfl ?_
    refine zV_callV2u (n := 87) C zk7 jX8_staysInTrial lX8_200 (c_staysInTrial (d := d) q.1 hN (by omega) (by omega)) dX8_mood_84 zs_cls rfl (Nat.le_of_ble_eq_true rfl) (zfit_of (by omega) (by decide)) ⟨Nat.le_refl _, Nat.le_refl _⟩ rfl ?_
    refine zV_if_eq (n := 90) C 92 dX8_mood_87 (by decide) (by first | omega | exact zb_rg) rfl (fun hb => ?_) (fun hb => ?_)
    · skip
      simp only [zb_eq0, Decidable.not_not] at hb
      refine zS_iinc_4_3 (n := 95) C dX8_mood_92 rfl rfl ?_
      refine zV_goto C 51 dX8_mood_95 (by decide) ?_
      have g0 : rGo n.toNat (zfu S (19 + 6 * x + 2) (k : Int)) 0 = S 0 := (rGo_0 (N := 0) q.1).trans q.2
      refine zV_eqm (zcar_comm (by decide)) ?_
      refine zV_eqm (by rw [hν _ g0]) ?_
      have K3 := ih (k + 1) (zcar μ 2 (rGo n.toNat (zfu S (19 + 6 * x + 2) (k : Int)))) (fun X hX => zcar_car (hX.trans g0.symm)) (fun q9 => by have e9 : k = 9 := (by omega); subst e9; rfl) (by omega) (fun k8 h8 => K1 k8 (by rw [rMd, if_neg hb]; exact h8)) (fun h8 => K2 (by rw [rMd, if_neg hb]; exact h8))
      exact K3
    · skip
      simp only [zb_eq0, Decidable.not_not] at hb
      have g0 : rGo n.toNat (zfu S (19 + 6 * x + 2) (k : Int)) 0 = S 0 := (rGo_0 (N := 0) q.1).trans q.2
      refine zV_eqm (zcar_comm (by decide)) ?_
      refine zV_eqm (by rw [hν _ g0]) ?_
      exact K1 k (by rw [rMd]; exact if_pos hb)

set_option maxRecDepth 100000 in
set_option maxHeartbeats 4000000 in
theorem c_mood {Γ : zC} {l : Launch} {d : Nat} {μ : zMem} {S : Int → Int} {N : Int} (I : rInv N S) (hN : N ≤ 10000) {x : Int} (hx : -2147483648 ≤ x ∧ x ≤ 2147483647) {n : Int} (hn : -2147483648 ≤ n ∧ n ≤ 2147483647) : zRet Γ l (d + 6) qX8_mood [.ref (za Γ 4 0), .int (zi x), .int (zi n)] (zcar μ 0 S) (some (.int (zi (if rWst S x n = 0 then (if 0 ≤ rMd x n.toNat S 10 0 then rMd x n.toNat S 10 0 else -1000000004) else rWst S x n)))) (if rWst S x n = 0 then (if 0 ≤ rMd x n.toNat S 10 0 then (zcar (zcar μ 2 (rGo n.toNat (zfu S (19 + 6 * x + 2) ((if 0 ≤ rMd x n.toNat S 10 0 then (rMd x n.toNat S 10 0).toNat else 9) : Int)))) 0 S) else zset (zcar (zcar μ 2 (rGo n.toNat (zfu S (19 + 6 * x + 2) ((if 0 ≤ rMd x n.toNat S 10 0 then (rMd x n.toNat S 10 0).toNat else 9) : Int)))) 0 S) 4 17 (rFind ((zcar (zcar μ 2 (rGo n.toNat (zfu S (19 + 6 * x + 2) ((if 0 ≤ rMd x n.toNat S 10 0 then (rMd x n.toNat S 10 0).toNat else 9) : Int)))) 0 S) 4 17) (-1000000004))) else zset (zcar μ 0 S) 4 17 (rFind ((zcar μ 0 S) 4 17) (rWst S x n))) := by
  refine zRet.mk 1 [.ref (za Γ 4 0), .int (zi x), .int (zi n), .null] RX8 rfl (by decide +kernel) (Nat.le_of_ble_eq_true rfl) rfl ?_
  intro p e s m below meth c C hr hlk
  have h0 := I.1
  have h1 := I.2.1
  have h2 := I.2.2.1
  have h3 := I.2.2.2.1
  have ha := rAt_rg S x
  refine zV_aload_n (i := 0) (n := 1) C dX8_mood_0 rfl rfl rfl ?_
  refine zV_getP (f := 0) (n := 4) C zk7 fX8_10 dX8_mood_1 zs_cls rfl (by decide) rfl ?_
  refine zV_iload_n (i := 1) (n := 5) C dX8_mood_4 rfl rfl rfl ?_
  refine zV_callV1u (n := 8) C zk0 jX0_has lX8_89 (c_has (d := d) (by omega) I (by omega)) dX8_mood_5 (zs_car (by omega)) rfl (Nat.le_of_ble_eq_true rfl) (zfit_of (by omega) (by decide)) ⟨Nat.le_refl _, Nat.le_refl _⟩ rfl ?_
  refine zV_if_eq (n := 11) C 22 dX8_mood_8 (by decide) (by first | omega | exact zb_rg) rfl (fun h8 => ?_) (fun h8 => ?_)
  · skip
    simp only [zb_eq0, Decidable.not_not] at h8
    refine zV_aload_n (i := 0) (n := 23) C dX8_mood_22 rfl rfl rfl ?_
    refine zV_iconst (n := 24) C dX8_mood_23 rfl ?_
    refine zV_callV1u (n := 27) C zk7 jX8_tell lX8_61 (c_tell (d := d) (f := 0) (code := -1000000001) (by decide) (by decide)) dX8_mood_24 zs_cls rfl (Nat.le_of_ble_eq_true rfl) (zfit_of (by omega) (by decide)) ⟨Nat.le_refl _, Nat.le_refl _⟩ rfl ?_
    exact zV_ireturn C hr hlk dX8_mood_27 (by exact congrArg (fun z => some (Value.int (zi z))) (by rw [show rWst S x n = -1000000001 from by unfold rWst; exact if_neg (by omega)]; rfl)) (by rw [show rWst S x n = -1000000001 from by unfold rWst; exact if_neg (by omega)]; rfl)
  · skip
    simp only [zb_eq0, Decidable.not_not] at h8
    refine zV_iload_n (i := 2) (n := 12) C dX8_mood_11 rfl rfl rfl ?_
    refine zV_iconst (n := 13) C dX8_mood_12 rfl ?_
    refine zV_icmp_lt (n := 16) C 22 dX8_mood_13 (by decide) (by first | omega | exact zb_rg) (by first | omega | exact zb_rg) rfl (fun h13 => ?_) (fun h13 => ?_)
    · skip
      refine zV_aload_n (i := 0) (n := 23) C dX8_mood_22 rfl rfl rfl ?_
      refine zV_iconst (n := 24) C dX8_mood_23 rfl ?_
      refine zV_callV1u (n := 27) C zk7 jX8_tell lX8_61 (c_tell (d := d) (f := 0) (code := -1000000001) (by decide) (by decide)) dX8_mood_24 zs_cls rfl (Nat.le_of_ble_eq_true rfl) (zfit_of (by omega) (by decide)) ⟨Nat.le_refl _, Nat.le_refl _⟩ rfl ?_
      exact zV_ireturn C hr hlk dX8_mood_27 (by exact congrArg (fun z => some (Value.int (zi z))) (by rw [show rWst S x n = -1000000001 from by unfold rWst; exact if_neg (by omega)]; rfl)) (by rw [show rWst S x n = -1000000001 from by unfold rWst; exact if_neg (by omega)]; rfl)
    · skip
      refine zV_iload_n (i := 2) (n := 17) C dX8_mood_16 rfl rfl rfl ?_
      refine zV_bipush (n := 19) C dX8_mood_17 (by decide) rfl ?_
      refine zV_icmp_le (n := 22) C 28 dX8_mood_19 (by decide) (by first | omega | exact zb_rg) (by first | omega | exact zb_rg) rfl (fun h19 => ?_) (fun h19 => ?_)
      · skip
        refine zV_aload_n (i := 0) (n := 29) C dX8_mood_28 rfl rfl rfl ?_
        refine zV_getP (f := 0) (n := 32) C zk7 fX8_10 dX8_mood_29 zs_cls rfl (by decide) rfl ?_
        refine zV_getP (f := 1) (n := 35) C zk0 fX8_92 dX8_mood_32 (zs_car (by omega)) rfl (by decide) rfl ?_
        refine zV_iload_n (i := 1) (n := 36) C dX8_mood_35 rfl rfl rfl ?_
        refine zV_aald (n := 37) C dX8_mood_36 (zs_carC (by omega)) (by first | omega | exact zb_rg) (by decide) (by decide) rfl ?_
        refine zV_callV0u (n := 40) C zk2 jX2_sits lX8_124 (c_kid_sits (d := d) (by omega) I (by omega)) dX8_mood_37 (zs_child (by omega) (by omega)) rfl (Nat.le_of_ble_eq_true rfl) (zfit_of (by omega) (by decide)) ⟨Nat.le_refl _, Nat.le_refl _⟩ rfl ?_
        refine zV_if_ne (n := 43) C 49 dX8_mood_40 (by decide) (by first | omega | exact zb_rg) rfl (fun h40 => ?_) (fun h40 => ?_)
        · skip
          simp only [zb_eq0, Decidable.not_not] at h40
          refine zV_iconst (n := 50) C dX8_mood_49 rfl ?_
          refine zS_istore_n_4_3 (n := 51) C dX8_mood_50 rfl rfl ?_
          have hW : rWst S x n = 0 := by unfold rWst; rw [if_pos (by omega)]; exact if_pos (by omega)
          refine c_mood_loop (μ := μ) C I hN (by omega) (by omega) 10 0 μ (fun X _ => rfl) (fun q => by omega) (by omega) (fun k8 hV => ?_) (fun hV => ?_)
          · skip
            have hV : rMd x n.toNat S 10 0 = (k8 : Int) := hV
            refine zV_iload_n (i := 3) (n := 91) C dX8_mood_90 rfl rfl rfl ?_
            exact zV_ireturn C hr hlk dX8_mood_91 (by first | exact congrArg (fun z => some (Value.int (zi z))) (zif_t hW (zif_t (by omega) hV.symm))) (by exact zif_t hW (zif_t (by omega) (by rw [if_pos (by omega), hV, Int.toNat_natCast])))
          · skip
            have hV : rMd x n.toNat S 10 0 = -1 := hV
            refine zV_aload_n (i := 0) (n := 99) C dX8_mood_98 rfl rfl rfl ?_
            refine zV_iconst (n := 100) C dX8_mood_99 rfl ?_
            refine zV_callV1u (n := 103) C zk7 jX8_tell lX8_61 (c_tell (d := d) (f := 3) (code := -1000000004) (by decide) (by decide)) dX8_mood_100 zs_cls rfl (Nat.le_of_ble_eq_true rfl) (zfit_of (by omega) (by decide)) ⟨Nat.le_refl _, Nat.le_refl _⟩ rfl ?_
            exact zV_ireturn C hr hlk dX8_mood_103 (by first | exact congrArg (fun z => some (Value.int (zi z))) (zif_t hW (zif_f (by omega) rfl))) (by exact zif_t hW (zif_f (by omega) (by rw [if_neg (by omega)])))
        · skip
          simp only [zb_eq0, Decidable.not_not] at h40
          refine zV_aload_n (i := 0) (n := 44) C dX8_mood_43 rfl rfl rfl ?_
          refine zV_iconst (n := 45) C dX8_mood_44 rfl ?_
          refine zV_callV1u (n := 48) C zk7 jX8_tell lX8_61 (c_tell (d := d) (f := 4) (code := -1000000005) (by decide) (by decide)) dX8_mood_45 zs_cls rfl (Nat.le_of_ble_eq_true rfl) (zfit_of (by omega) (by decide)) ⟨Nat.le_refl _, Nat.le_refl _⟩ rfl ?_
          exact zV_ireturn C hr hlk dX8_mood_48 (by exact congrArg (fun z => some (Value.int (zi z))) (by rw [show rWst S x n = -1000000005 from by unfold rWst; rw [if_pos (by omega)]; exact if_neg (by omega)]; rfl)) (by rw [show rWst S x n = -1000000005 from by unfold rWst; rw [if_pos (by omega)]; exact if_neg (by omega)]; rfl)
      · skip
        refine zV_aload_n (i := 0) (n := 23) C dX8_mood_22 rfl rfl rfl ?_
        refine zV_iconst (n := 24) C dX8_mood_23 rfl ?_
        refine zV_callV1u (n := 27) C zk7 jX8_tell lX8_61 (c_tell (d := d) (f := 0) (code := -1000000001) (by decide) (by decide)) dX8_mood_24 zs_cls rfl (Nat.le_of_ble_eq_true rfl) (zfit_of (by omega) (by decide)) ⟨Nat.le_refl _, Nat.le_refl _⟩ rfl ?_
        exact zV_ireturn C hr hlk dX8_mood_27 (by exact congrArg (fun z => some (Value.int (zi z))) (by rw [show rWst S x n = -1000000001 from by unfold rWst; exact if_neg (by omega)]; rfl)) (by rw [show rWst S x n = -1000000001 from by unfold rWst; exact if_neg (by omega)]; rfl)

set_option maxRecDepth 100000 in
set_option maxHeartbeats 4000000 in
theorem c_worst_loop {Γ : zC} {l : Launch} {d : Nat} {p : Program} {e : Env} {s : State} {m : MethodId} {args : Array Value} {below : List Frame} {meth : Method} {c : Code} {Q : State → Prop} (C : zCx Γ (zAA Γ) p s m args c RX8 cX8_worst 5) {μ : zMem} {S T : Int → Int} {N : Int} (I : rInv N S) (J : rInv (N + 100) T) (e0 : T 0 = S 0) {n : Int} :
    ∀ (i : Nat) (k b a : Int) (h0 : 0 ≤ k) (hi : k + i = S 0) (hr : (b = -1 ∧ a = 10) ∨ (0 ≤ b ∧ b < 6 ∧ a = toS T b 2)) (KK : ∀ a8 : Int, zV Γ (zAA Γ) p l e (zRm (d + 5)) s m args below meth c 0 0 Q 111 [.ref (za Γ 4 0), .int (zi n), .int (zi (rWo T (zi (rSit S)) i k b)), .int (zi a8), .int (zi (S 0))] [] (zcar (zcar μ 2 T) 0 S)), zV Γ (zAA Γ) p l e (zRm (d + 5)) s m args below meth c 0 0 Q 43 [.ref (za Γ 4 0), .int (zi n), .int (zi b), .int (zi a), .int (zi k)] [] (zcar (zcar μ 2 T) 0 S) := by
  intro i
  induction i with
  | zero =>
    intro k b a h0 hi hr KK
    have z0 := I.1
    have hk : k = S 0 := by omega
    subst hk
    refine zV_iload (n := 45) C dX8_worst_43 rfl rfl ?_
    refine zV_aload_n (i := 0) (n := 46) C dX8_worst_45 rfl rfl rfl ?_
    refine zV_getP (f := 0) (n := 49) C zk7 fX8_10 dX8_worst_46 zs_cls rfl (by decide) rfl ?_
    refine zV_getI (f := 2) (fi := 2) (n := 52) C zk0 fX8_206 dX8_worst_49 (zs_car (by omega)) rfl (by decide) rfl rfl ?_
    rw [zc_cnt]
    refine zV_icmp_ge (n := 55) C 111 dX8_worst_52 (by decide) (by first | omega | exact zb_rg) (by first | omega | exact zb_rg) rfl (fun h52 => ?_) (fun h => by exfalso; first | omega | exact zb_rg)
    exact KK _
  | succ i ih =>
    intro k b a h0 hi hr KK
    have z0 := I.1
    have hb := rSit_bit I (x := k) (by omega)
    have m1 := J.2.2.2.2.2.1 k (by omega) (by omega)
    have m2 := fun (q : 0 ≤ b ∧ b < 6) => J.2.2.2.2.2.1 b q.1 q.2
    have ha : 0 ≤ a ∧ a ≤ 10 := by rcases hr with q | q; exact ⟨by omega, by omega⟩; have := m2 ⟨q.1, q.2.1⟩; exact ⟨by omega, by omega⟩
    have hak := rAt_rg S k
    refine zV_iload (n := 45) C dX8_worst_43 rfl rfl ?_
    refine zV_aload_n (i := 0) (n := 46) C dX8_worst_45 rfl rfl rfl ?_
    refine zV_getP (f := 0) (n := 49) C zk7 fX8_10 dX8_worst_46 zs_cls rfl (by decide) rfl ?_
    refine zV_getI (f := 2) (fi := 2) (n := 52) C zk0 fX8_206 dX8_worst_49 (zs_car (by omega)) rfl (by decide) rfl rfl ?_
    rw [zc_cnt]
    refine zV_icmp_ge (n := 55) C 111 dX8_worst_52 (by decide) (by first | omega | exact zb_rg) (by first | omega | exact zb_rg) rfl (fun h => by exfalso; first | omega | exact zb_rg) (fun h52 => ?_)
    refine zV_aload_n (i := 0) (n := 56) C dX8_worst_55 rfl rfl rfl ?_
    refine zV_getP (f := 0) (n := 59) C zk7 fX8_10 dX8_worst_56 zs_cls rfl (by decide) rfl ?_
    refine zV_getP (f := 1) (n := 62) C zk0 fX8_92 dX8_worst_59 (zs_car (by omega)) rfl (by decide) rfl ?_
    refine zV_iload (n := 64) C dX8_worst_62 rfl rfl ?_
    refine zV_aald (n := 65) C dX8_worst_64 (zs_carC (by omega)) (by first | omega | exact zb_rg) (by decide) (by decide) rfl ?_
    refine zV_callV0u (n := 68) C zk2 jX2_sits lX8_124 (c_kid_sits (d := d) (by omega) I (by omega)) dX8_worst_65 (zs_child (by omega) (by omega)) rfl (Nat.le_of_ble_eq_true rfl) (zfit_of (by omega) (by decide)) ⟨Nat.le_refl _, Nat.le_refl _⟩ rfl ?_
    refine zV_if_eq (n := 71) C 105 dX8_worst_68 (by decide) (by first | omega | exact zb_rg) rfl (fun h68 => ?_) (fun h68 => ?_)
    · skip
      simp only [zb_eq0, Decidable.not_not] at h68
      refine zS_iinc_5_4 (n := 108) C dX8_worst_105 rfl rfl ?_
      refine zV_goto C 43 dX8_worst_108 (by decide) ?_
      have eW : rWo T (zi (rSit S)) (i + 1) k b = rWo T (zi (rSit S)) i (k + 1) b := by rw [rWo]; congr 1; exact if_neg (fun q => by have := hb.mp q.1; omega)
      rw [eW] at KK
      exact ih (k + 1) b a (by omega) (by omega) (by omega) KK
    · skip
      simp only [zb_eq0, Decidable.not_not] at h68
      refine zV_eqm (zcar_comm (by decide)) ?_
      refine zV_aload_n (i := 0) (n := 72) C dX8_worst_71 rfl rfl rfl ?_
      refine zV_getP (f := 2) (n := 75) C zk7 fX8_19 dX8_worst_72 zs_cls rfl (by decide) rfl ?_
      refine zV_getP (f := 1) (n := 78) C zk0 fX8_92 dX8_worst_75 (zs_car (by omega)) rfl (by decide) rfl ?_
      refine zV_iload (n := 80) C dX8_worst_78 rfl rfl ?_
      refine zV_aald (n := 81) C dX8_worst_80 (zs_carC (by omega)) (by first | omega | exact zb_rg) (by decide) (by decide) rfl ?_
      refine zV_getI (f := 2) (fi := 2) (n := 84) C zk2 fX8_114 dX8_worst_81 (zs_child (by omega) (by omega)) rfl (by decide) rfl rfl ?_
      rw [zc_kid (by omega) (by omega)]
      refine zV_iload_n (i := 3) (n := 85) C dX8_worst_84 rfl rfl rfl ?_
      refine zV_icmp_ge (n := 88) C 105 dX8_worst_85 (by decide) (by first | omega | exact zb_rg) (by first | omega | exact zb_rg) rfl (fun h85 => ?_) (fun h85 => ?_)
      · skip
        refine zS_iinc_5_4 (n := 108) C dX8_worst_105 rfl rfl ?_
        refine zV_goto C 43 dX8_worst_108 (by decide) ?_
        refine zV_eqm (zcar_comm (by decide)) ?_
        have eW : rWo T (zi (rSit S)) (i + 1) k b = rWo T (zi (rSit S)) i (k + 1) b := by rw [rWo]; congr 1; exact if_neg (fun q => by omega)
        rw [eW] at KK
        exact ih (k + 1) b a (by omega) (by omega) (by omega) KK
      · skip
        refine zV_iload (n := 90) C dX8_worst_88 rfl rfl ?_
        refine zS_istore_n_5_2 (n := 91) C dX8_worst_90 rfl rfl ?_
        refine zV_aload_n (i := 0) (n := 92) C dX8_worst_91 rfl rfl rfl ?_
        refine zV_getP (f := 2) (n := 95) C zk7 fX8_19 dX8_worst_92 zs_cls rfl (by decide) rfl ?_
        refine zV_getP (f := 1) (n := 98) C zk0 fX8_92 dX8_worst_95 (zs_car (by omega)) rfl (by decide) rfl ?_
        refine zV_iload (n := 100) C dX8_worst_98 rfl rfl ?_
        refine zV_aald (n := 101) C dX8_worst_100 (zs_carC (by omega)) (by first | omega | exact zb_rg) (by decide) (by decide) rfl ?_
        refine zV_getI (f := 2) (fi := 2) (n := 104) C zk2 fX8_114 dX8_worst_101 (zs_child (by omega) (by omega)) rfl (by decide) rfl rfl ?_
        rw [zc_kid (by omega) (by omega)]
        refine zS_istore_n_5_3 (n := 105) C dX8_worst_104 rfl rfl ?_
        refine zS_iinc_5_4 (n := 108) C dX8_worst_105 rfl rfl ?_
        refine zV_goto C 43 dX8_worst_108 (by decide) ?_
        refine zV_eqm (zcar_comm (by decide)) ?_
        have eW : rWo T (zi (rSit S)) (i + 1) k b = rWo T (zi (rSit S)) i (k + 1) k := by rw [rWo]; congr 1; exact if_pos ⟨hb.mpr (by omega), by omega⟩
        rw [eW] at KK
        exact ih (k + 1) k (toS T k 2) (by omega) (by omega) (by omega) KK

set_option maxRecDepth 100000 in
set_option maxHeartbeats 4000000 in
theorem c_worst {Γ : zC} {l : Launch} {d : Nat} {μ : zMem} {S : Int → Int} {N : Int} (I : rInv N S) (hN : N ≤ 10000) {n : Int} (hn : -2147483648 ≤ n ∧ n ≤ 2147483647) : zRet Γ l (d + 5) qX8_worst [.ref (za Γ 4 0), .int (zi n)] (zcar μ 0 S) (some (.int (zi (if (0 ≤ n ∧ n ≤ 60) then (if 0 ≤ rWo (rGo n.toNat S) (zi (rSit S)) (S 0).toNat 0 (-1) then rWo (rGo n.toNat S) (zi (rSit S)) (S 0).toNat 0 (-1) else -1000000004) else -1000000001)))) (if (0 ≤ n ∧ n ≤ 60) then (if 0 ≤ rWo (rGo n.toNat S) (zi (rSit S)) (S 0).toNat 0 (-1) then (zcar (zcar μ 2 (rGo n.toNat S)) 0 S) else zset (zcar (zcar μ 2 (rGo n.toNat S)) 0 S) 4 17 (rFind ((zcar (zcar μ 2 (rGo n.toNat S)) 0 S) 4 17) (-1000000004))) else zset (zcar μ 0 S) 4 17 (rFind ((zcar μ 0 S) 4 17) (-1000000001))) := by
  refine zRet.mk 3 [.ref (za Γ 4 0), .int (zi n), .null, .null, .null] RX8 rfl (by decide +kernel) (Nat.le_of_ble_eq_true rfl) rfl ?_
  intro p e s m below meth c C hr hlk
  have h0 := I.1
  have h1 := I.2.1
  have h2 := I.2.2.1
  have h3 := I.2.2.2.1
  refine zV_iload_n (i := 1) (n := 1) C dX8_worst_0 rfl rfl rfl ?_
  refine zV_if_lt (n := 4) C 10 dX8_worst_1 (by decide) (by first | omega | exact zb_rg) rfl (fun h1 => ?_) (fun h1 => ?_)
  · skip
    refine zV_aload_n (i := 0) (n := 11) C dX8_worst_10 rfl rfl rfl ?_
    refine zV_iconst (n := 12) C dX8_worst_11 rfl ?_
    refine zV_callV1u (n := 15) C zk7 jX8_tell lX8_61 (c_tell (d := d) (f := 0) (code := -1000000001) (by decide) (by decide)) dX8_worst_12 zs_cls rfl (Nat.le_of_ble_eq_true rfl) (zfit_of (by omega) (by decide)) ⟨Nat.le_refl _, Nat.le_refl _⟩ rfl ?_
    exact zV_ireturn C hr hlk dX8_worst_15 (by first | exact congrArg (fun z => some (Value.int (zi z))) (zif_t (by omega) (zif_t (by omega) (rfl))) | exact congrArg (fun z => some (Value.int (zi z))) (zif_t (by omega) (zif_f (by omega) rfl)) | exact congrArg (fun z => some (Value.int (zi z))) (zif_f (by omega) rfl)) (by first | exact zif_t (by omega) (zif_t (by omega) (rfl)) | exact zif_t (by omega) (zif_f (by omega) rfl) | exact zif_f (by omega) rfl)
  · skip
    refine zV_iload_n (i := 1) (n := 5) C dX8_worst_4 rfl rfl rfl ?_
    refine zV_bipush (n := 7) C dX8_worst_5 (by decide) rfl ?_
    refine zV_icmp_le (n := 10) C 16 dX8_worst_7 (by decide) (by first | omega | exact zb_rg) (by first | omega | exact zb_rg) rfl (fun h7 => ?_) (fun h7 => ?_)
    · skip
      refine zV_aload_n (i := 0) (n := 17) C dX8_worst_16 rfl rfl rfl ?_
      refine zV_getP (f := 2) (n := 20) C zk7 fX8_19 dX8_worst_17 zs_cls rfl (by decide) rfl ?_
      refine zV_aload_n (i := 0) (n := 21) C dX8_worst_20 rfl rfl rfl ?_
      refine zV_getP (f := 0) (n := 24) C zk7 fX8_10 dX8_worst_21 zs_cls rfl (by decide) rfl ?_
      refine zV_callV1v (n := 27) C zk0 jX0_become lX8_165 (c_become (d := d) (by omega) (by omega) (by omega) I) dX8_worst_24 (zs_car (by omega)) rfl (Nat.le_of_ble_eq_true rfl) (zfit_of (by omega) (by decide)) ⟨Nat.le_refl _, Nat.le_refl _⟩ rfl ?_
      refine zV_aload_n (i := 0) (n := 28) C dX8_worst_27 rfl rfl rfl ?_
      refine zV_getP (f := 2) (n := 31) C zk7 fX8_19 dX8_worst_28 zs_cls rfl (by decide) rfl ?_
      refine zV_iload_n (i := 1) (n := 32) C dX8_worst_31 rfl rfl rfl ?_
      refine zV_callV1v (n := 35) C zk0 jX0_passMinutes lX8_149 (c_passMinutes (d := d) (by omega) I (by omega) (by omega)) dX8_worst_32 (zs_car (by omega)) rfl (Nat.le_of_ble_eq_true rfl) (zfit_of (by omega) (by decide)) ⟨Nat.le_refl _, Nat.le_refl _⟩ rfl ?_
      refine zV_iconst (n := 36) C dX8_worst_35 rfl ?_
      refine zS_istore_n_5_2 (n := 37) C dX8_worst_36 rfl rfl ?_
      refine zV_bipush (n := 39) C dX8_worst_37 (by decide) rfl ?_
      refine zS_istore_n_5_3 (n := 40) C dX8_worst_39 rfl rfl ?_
      refine zV_iconst (n := 41) C dX8_worst_40 rfl ?_
      refine zS_istore_5_4 (n := 43) C dX8_worst_41 rfl rfl ?_
      refine zV_eqm (zcar_comm (by decide)) ?_
      have e0 : (rGo n.toNat S) 0 = S 0 := rGo_0 (N := 0) I
      have J : rInv (N + 100) (rGo n.toNat S) := rInv_le (rGo_inv (S := S) I) (by omega)
      have hw := rWo_rg (S := (rGo n.toNat S)) (sit := zi (rSit S)) (i := (S 0).toNat) (k := 0) (b := -1) (by omega) (by omega) (by omega)
      refine c_worst_loop C I J e0 (S 0).toNat 0 (-1) 10 (by omega) (by omega) (by omega) (fun a8 => ?_)
      refine zV_iload_n (i := 2) (n := 112) C dX8_worst_111 rfl rfl rfl ?_
      refine zV_iconst (n := 113) C dX8_worst_112 rfl ?_
      refine zV_icmp_ne (n := 116) C 124 dX8_worst_113 (by decide) (by first | omega | exact zb_rg) (by first | omega | exact zb_rg) rfl (fun h113 => ?_) (fun h113 => ?_)
      · skip
        refine zV_iload_n (i := 2) (n := 125) C dX8_worst_124 rfl rfl rfl ?_
        exact zV_ireturn C hr hlk dX8_worst_125 (by first | exact congrArg (fun z => some (Value.int (zi z))) (zif_t (by omega) (zif_t (by omega) rfl)) | exact congrArg (fun z => some (Value.int (zi z))) (zif_t (by omega) (zif_f (by omega) rfl))) (by first | exact zif_t (by omega) (zif_t (by omega) rfl) | exact zif_t (by omega) (zif_f (by omega) rfl))
      · skip
        refine zV_aload_n (i := 0) (n := 117) C dX8_worst_116 rfl rfl rfl ?_
        refine zV_iconst (n := 118) C dX8_worst_117 rfl ?_
        refine zV_callV1u (n := 121) C zk7 jX8_tell lX8_61 (c_tell (d := d) (f := 3) (code := -1000000004) (by decide) (by decide)) dX8_worst_118 zs_cls rfl (Nat.le_of_ble_eq_true rfl) (zfit_of (by omega) (by decide)) ⟨Nat.le_refl _, Nat.le_refl _⟩ rfl ?_
        refine zV_goto C 125 dX8_worst_121 (by decide) ?_
        exact zV_ireturn C hr hlk dX8_worst_125 (by first | exact congrArg (fun z => some (Value.int (zi z))) (zif_t (by omega) (zif_t (by omega) rfl)) | exact congrArg (fun z => some (Value.int (zi z))) (zif_t (by omega) (zif_f (by omega) rfl))) (by first | exact zif_t (by omega) (zif_t (by omega) rfl) | exact zif_t (by omega) (zif_f (by omega) rfl))
    · skip
      refine zV_aload_n (i := 0) (n := 11) C dX8_worst_10 rfl rfl rfl ?_
      refine zV_iconst (n := 12) C dX8_worst_11 rfl ?_
      refine zV_callV1u (n := 15) C zk7 jX8_tell lX8_61 (c_tell (d := d) (f := 0) (code := -1000000001) (by decide) (by decide)) dX8_worst_12 zs_cls rfl (Nat.le_of_ble_eq_true rfl) (zfit_of (by omega) (by decide)) ⟨Nat.le_refl _, Nat.le_refl _⟩ rfl ?_
      exact zV_ireturn C hr hlk dX8_worst_15 (by first | exact congrArg (fun z => some (Value.int (zi z))) (zif_t (by omega) (zif_t (by omega) (rfl))) | exact congrArg (fun z => some (Value.int (zi z))) (zif_t (by omega) (zif_f (by omega) rfl)) | exact congrArg (fun z => some (Value.int (zi z))) (zif_f (by omega) rfl)) (by first | exact zif_t (by omega) (zif_t (by omega) (rfl)) | exact zif_t (by omega) (zif_f (by omega) rfl) | exact zif_f (by omega) rfl)

