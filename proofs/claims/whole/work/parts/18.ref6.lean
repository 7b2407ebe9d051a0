/-! the reference: more of its calls (laid by wip/whole/gen/ref6.py) -/
set_option maxRecDepth 100000 in
set_option maxHeartbeats 4000000 in
theorem m_adds_loop {Γ : zC} {l : Launch} {d : Nat} {p : Program} {e : Env} {s : State} {m : MethodId} {args : Array Value} {below : List Frame} {meth : Method} {c : Code} {Q : State → Prop} (C : zCx Γ (zAA Γ) p s m args c RX9 cX9_adds 4) {μ : zMem} {v x : Int} (hx : 0 ≤ x ∧ x < 6) (KK : zV Γ (zAA Γ) p l e (zRm (d + 1)) s m args below meth c 0 0 Q 32 [.ref (za Γ 5 0), .int (zi v), .int (zi x), .int (zi 6)] [] (zset μ 5 1 (fun j => if 19 + 6 * x ≤ j ∧ j < 19 + 6 * x + 6 then 0 else (μ 5 1) j))) :
    ∀ (i : Nat) (k : Int) (h0 : 0 ≤ k) (hi : k + i = 6), zV Γ (zAA Γ) p l e (zRm (d + 1)) s m args below meth c 0 0 Q 9 [.ref (za Γ 5 0), .int (zi v), .int (zi x), .int (zi k)] [] (zset μ 5 1 (fun j => if 19 + 6 * x ≤ j ∧ j < 19 + 6 * x + k then 0 else (μ 5 1) j)) := by
  intro i
  induction i with
  | zero =>
    intro k h0 hi
    have hk : k = 6 := by omega
    subst hk
    refine zV_iload_n (i := 3) (n := 10) C dX9_adds_9 rfl rfl rfl ?_
    refine zV_bipush (n := 12) C dX9_adds_10 (by decide) rfl ?_
    refine zV_icmp_ge (n := 15) C 32 dX9_adds_12 (by decide) (by omega) (by omega) rfl (fun h12 => ?_) (fun h => by exfalso; omega)
    exact KK
  | succ i ih =>
    intro k h0 hi
    refine zV_iload_n (i := 3) (n := 10) C dX9_adds_9 rfl rfl rfl ?_
    refine zV_bipush (n := 12) C dX9_adds_10 (by decide) rfl ?_
    refine zV_icmp_ge (n := 15) C 32 dX9_adds_12 (by decide) (by omega) (by omega) rfl (fun h => by exfalso; omega) (fun h12 => ?_)
    refine zV_aload_n (i := 0) (n := 16) C dX9_adds_15 rfl rfl rfl ?_
    refine zV_getP (f := 0) (n := 19) C zk8 fX9_7 dX9_adds_16 zs_ref rfl (by decide) rfl ?_
    refine zV_iload_n (i := 2) (n := 20) C dX9_adds_19 rfl rfl rfl ?_
    refine zV_iload_n (i := 3) (n := 21) C dX9_adds_20 rfl rfl rfl ?_
    refine zV_callS2u (n := 24) C jX9_placeOf lX9_60 (m_placeOf (d := d) ) dX9_adds_21 (Nat.le_of_ble_eq_true rfl) (zfit_of (by omega) (by decide)) ⟨Nat.le_refl _, Nat.le_refl _⟩ rfl ?_
    refine zV_iconst (n := 25) C dX9_adds_24 rfl ?_
    refine zV_iast (n := 26) C dX9_adds_25 zs_s (by omega) (by decide) rfl ?_
    rw [zup_set, rAdd_step h0]
    refine zS_iinc_4_3 (n := 29) C dX9_adds_26 rfl rfl ?_
    refine zV_goto C 9 dX9_adds_29 (by decide) ?_
    exact ih (k + 1) (by omega) (by omega)

set_option maxRecDepth 100000 in
set_option maxHeartbeats 4000000 in
theorem m_adds {Γ : zC} {l : Launch} {d : Nat} {μ : zMem} {N : Int} (I : rInv N (μ 5 1)) {v : Int} (h6 : μ 5 1 0 < 6) : zRet Γ l (d + 1) qX9_adds [.ref (za Γ 5 0), .int (zi v)] μ (some (.int (zi ((μ 5 1) 0)))) (zset μ 5 1 (rAdd (μ 5 1) v)) := by
  refine zRet.mk 2 [.ref (za Γ 5 0), .int (zi v), .null, .null] RX9 rfl (by decide +kernel) (Nat.le_of_ble_eq_true rfl) rfl ?_
  intro p e s m below meth c C hr hlk
  have h0 := I.1
  refine zV_aload_n (i := 0) (n := 1) C dX9_adds_0 rfl rfl rfl ?_
  refine zV_getP (f := 0) (n := 4) C zk8 fX9_7 dX9_adds_1 zs_ref rfl (by decide) rfl ?_
  refine zV_iconst (n := 5) C dX9_adds_4 rfl ?_
  refine zV_iald (n := 6) C dX9_adds_5 zs_s (by omega) (by decide) rfl ?_
  refine zS_istore_n_4_2 (n := 7) C dX9_adds_6 rfl rfl ?_
  refine zV_iconst (n := 8) C dX9_adds_7 rfl ?_
  refine zS_istore_n_4_3 (n := 9) C dX9_adds_8 rfl rfl ?_
  refine zV_mem (μ' := zset μ 5 1 (fun j => if 19 + 6 * μ 5 1 0 ≤ j ∧ j < 19 + 6 * μ 5 1 0 + 0 then 0 else μ 5 1 j)) (by have h := zag_row (μ := μ) (F := μ 5 1) (G := fun j => if 19 + 6 * μ 5 1 0 ≤ j ∧ j < 19 + 6 * μ 5 1 0 + 0 then 0 else μ 5 1 j) zs_s (fun j g0 g1 => by rw [if_neg (by omega)]); rw [zset_self] at h; exact h) ?_
  refine m_adds_loop C (by omega) ?_ 6 0 (by omega) (by omega)
  refine zV_aload_n (i := 0) (n := 33) C dX9_adds_32 rfl rfl rfl ?_
  refine zV_getP (f := 0) (n := 36) C zk8 fX9_7 dX9_adds_33 zs_ref rfl (by decide) rfl ?_
  refine zV_iload_n (i := 2) (n := 37) C dX9_adds_36 rfl rfl rfl ?_
  refine zV_iconst (n := 38) C dX9_adds_37 rfl ?_
  refine zV_callS2u (n := 41) C jX9_placeOf lX9_60 (m_placeOf (d := d) ) dX9_adds_38 (Nat.le_of_ble_eq_true rfl) (zfit_of (by omega) (by decide)) ⟨Nat.le_refl _, Nat.le_refl _⟩ rfl ?_
  refine zV_iload_n (i := 1) (n := 42) C dX9_adds_41 rfl rfl rfl ?_
  refine zV_iast (n := 43) C dX9_adds_42 zs_s (by omega) (by decide) rfl ?_
  rw [zup_set]
  refine zV_aload_n (i := 0) (n := 44) C dX9_adds_43 rfl rfl rfl ?_
  refine zV_getP (f := 0) (n := 47) C zk8 fX9_7 dX9_adds_44 zs_ref rfl (by decide) rfl ?_
  refine zV_iload_n (i := 2) (n := 48) C dX9_adds_47 rfl rfl rfl ?_
  refine zV_iconst (n := 49) C dX9_adds_48 rfl ?_
  refine zV_callS2u (n := 52) C jX9_placeOf lX9_60 (m_placeOf (d := d) ) dX9_adds_49 (Nat.le_of_ble_eq_true rfl) (zfit_of (by omega) (by decide)) ⟨Nat.le_refl _, Nat.le_refl _⟩ rfl ?_
  refine zV_bipush (n := 54) C dX9_adds_52 (by decide) rfl ?_
  refine zV_iast (n := 55) C dX9_adds_54 zs_s (by omega) (by decide) rfl ?_
  rw [zup_set]
  refine zV_aload_n (i := 0) (n := 56) C dX9_adds_55 rfl rfl rfl ?_
  refine zV_getP (f := 0) (n := 59) C zk8 fX9_7 dX9_adds_56 zs_ref rfl (by decide) rfl ?_
  refine zV_iload_n (i := 2) (n := 60) C dX9_adds_59 rfl rfl rfl ?_
  refine zV_iconst (n := 61) C dX9_adds_60 rfl ?_
  refine zV_callS2u (n := 64) C jX9_placeOf lX9_60 (m_placeOf (d := d) ) dX9_adds_61 (Nat.le_of_ble_eq_true rfl) (zfit_of (by omega) (by decide)) ⟨Nat.le_refl _, Nat.le_refl _⟩ rfl ?_
  refine zV_iconst (n := 65) C dX9_adds_64 rfl ?_
  refine zV_iast (n := 66) C dX9_adds_65 zs_s (by omega) (by decide) rfl ?_
  rw [zup_set]
  refine zV_aload_n (i := 0) (n := 67) C dX9_adds_66 rfl rfl rfl ?_
  refine zV_getP (f := 0) (n := 70) C zk8 fX9_7 dX9_adds_67 zs_ref rfl (by decide) rfl ?_
  refine zV_iconst (n := 71) C dX9_adds_70 rfl ?_
  refine zV_dup2 (n := 72) C dX9_adds_71 rfl rfl rfl ?_
  refine zV_iald (n := 73) C dX9_adds_72 zs_s (by omega) (by decide) rfl ?_
  simp only [zset_at]
  refine zV_iconst (n := 74) C dX9_adds_73 rfl ?_
  refine zV_iadd (n := 75) C dX9_adds_74 rfl ?_
  refine zV_iast (n := 76) C dX9_adds_75 zs_s (by omega) (by decide) rfl ?_
  rw [zup_set]
  refine zV_iload_n (i := 2) (n := 77) C dX9_adds_76 rfl rfl rfl ?_
  exact zV_ireturn C hr hlk dX9_adds_77 (by rfl) (by rfl)

set_option maxRecDepth 100000 in
set_option maxHeartbeats 4000000 in
theorem m_child {Γ : zC} {l : Launch} {d : Nat} {μ : zMem} {N : Int} (I : rInv N (μ 5 1)) (hN : N ≤ 10000) {v : Int} (hv : -2147483648 ≤ v ∧ v ≤ 2147483647) : zRet Γ l (d + 2) qX9_child [.ref (za Γ 5 0), .int (zi v)] μ (some (.int (zi (if (0 ≤ v ∧ v ≤ 5) then (if (¬ μ 5 1 0 = 6) then (μ 5 1) 0 else -1000000002) else -1000000001)))) (if (0 ≤ v ∧ v ≤ 5) then (if (¬ μ 5 1 0 = 6) then zset μ 5 1 (rAdd (μ 5 1) v) else zset μ 5 5 (rFind (μ 5 5) (-1000000002))) else zset μ 5 5 (rFind (μ 5 5) (-1000000001))) := by
  refine zRet.mk 0 [.ref (za Γ 5 0), .int (zi v)] RX9 rfl (by decide +kernel) (Nat.le_of_ble_eq_true rfl) rfl ?_
  intro p e s m below meth c C hr hlk
  have h0 := I.1
  have h1 := I.2.1
  have h2 := I.2.2.1
  have h3 := I.2.2.2.1
  refine zV_iload_n (i := 1) (n := 1) C dX9_child_0 rfl rfl rfl ?_
  refine zV_callS1u (n := 4) C jX9_isKind lX9_81 (m_isKind (d := d) (by omega)) dX9_child_1 (Nat.le_of_ble_eq_true rfl) (zfit_of (by omega) (by decide)) ⟨Nat.le_refl _, Nat.le_refl _⟩ rfl ?_
  refine zV_if_ne (n := 7) C 14 dX9_child_4 (by decide) (by first | omega | exact zb_rg) rfl (fun h4 => ?_) (fun h4 => ?_)
  · skip
    simp only [zb_eq0, Decidable.not_not] at h4
    refine zV_aload_n (i := 0) (n := 15) C dX9_child_14 rfl rfl rfl ?_
    refine zV_getP (f := 0) (n := 18) C zk8 fX9_7 dX9_child_15 zs_ref rfl (by decide) rfl ?_
    refine zV_iconst (n := 19) C dX9_child_18 rfl ?_
    refine zV_iald (n := 20) C dX9_child_19 zs_s (by first | omega | exact zb_rg) (by decide) rfl ?_
    refine zV_bipush (n := 22) C dX9_child_20 (by decide) rfl ?_
    refine zV_icmp_ne (n := 25) C 34 dX9_child_22 (by decide) (by first | omega | exact zb_rg) (by first | omega | exact zb_rg) rfl (fun h22 => ?_) (fun h22 => ?_)
    · skip
      refine zV_aload_n (i := 0) (n := 35) C dX9_child_34 rfl rfl rfl ?_
      refine zV_iload_n (i := 1) (n := 36) C dX9_child_35 rfl rfl rfl ?_
      refine zV_callV1u (n := 39) C zk8 jX9_adds lX9_85 (m_adds (d := d) I (by omega)) dX9_child_36 zs_ref rfl (Nat.le_of_ble_eq_true rfl) (zfit_of (by omega) (by decide)) ⟨Nat.le_refl _, Nat.le_refl _⟩ rfl ?_
      exact zV_ireturn C hr hlk dX9_child_39 (by first | exact congrArg (fun z => some (Value.int (zi z))) (zif_t (by omega) (zif_t (by omega) (rfl))) | exact congrArg (fun z => some (Value.int (zi z))) (zif_t (by omega) (zif_f (by omega) rfl)) | exact congrArg (fun z => some (Value.int (zi z))) (zif_f (by omega) rfl)) (by first | exact zif_t (by omega) (zif_t (by omega) (rfl)) | exact zif_t (by omega) (zif_f (by omega) rfl) | exact zif_f (by omega) rfl)
    · skip
      refine zV_aload_n (i := 0) (n := 26) C dX9_child_25 rfl rfl rfl ?_
      refine zV_ldc (n := 28) C dX9_child_26 kX9_84 rfl ?_
      refine zV_callV1u (n := 31) C zk8 jX9_finds lX9_75 (m_finds (d := d) (by omega)) dX9_child_28 zs_ref rfl (Nat.le_of_ble_eq_true rfl) (zfit_of (by omega) (by decide)) ⟨Nat.le_refl _, Nat.le_refl _⟩ rfl ?_
      refine zV_goto C 39 dX9_child_31 (by decide) ?_
      exact zV_ireturn C hr hlk dX9_child_39 (by first | exact congrArg (fun z => some (Value.int (zi z))) (zif_t (by omega) (zif_t (by omega) (rfl))) | exact congrArg (fun z => some (Value.int (zi z))) (zif_t (by omega) (zif_f (by omega) rfl)) | exact congrArg (fun z => some (Value.int (zi z))) (zif_f (by omega) rfl)) (by first | exact zif_t (by omega) (zif_t (by omega) (rfl)) | exact zif_t (by omega) (zif_f (by omega) rfl) | exact zif_f (by omega) rfl)
  · skip
    simp only [zb_eq0, Decidable.not_not] at h4
    refine zV_aload_n (i := 0) (n := 8) C dX9_child_7 rfl rfl rfl ?_
    refine zV_ldc (n := 10) C dX9_child_8 kX9_51 rfl ?_
    refine zV_callV1u (n := 13) C zk8 jX9_finds lX9_75 (m_finds (d := d) (by omega)) dX9_child_10 zs_ref rfl (Nat.le_of_ble_eq_true rfl) (zfit_of (by omega) (by decide)) ⟨Nat.le_refl _, Nat.le_refl _⟩ rfl ?_
    exact zV_ireturn C hr hlk dX9_child_13 (by first | exact congrArg (fun z => some (Value.int (zi z))) (zif_t (by omega) (zif_t (by omega) (rfl))) | exact congrArg (fun z => some (Value.int (zi z))) (zif_t (by omega) (zif_f (by omega) rfl)) | exact congrArg (fun z => some (Value.int (zi z))) (zif_f (by omega) rfl)) (by first | exact zif_t (by omega) (zif_t (by omega) (rfl)) | exact zif_t (by omega) (zif_f (by omega) rfl) | exact zif_f (by omega) rfl)

theorem m_minutesGoI {Γ : zC} {l : Launch} {d : Nat} {μ : zMem} {N : Int} (I : rInv N (μ 5 1)) {n : Int} (hn : 0 ≤ n ∧ n ≤ 1000) (hN : N + n ≤ 20000) : zRet Γ l (d + 6) qX9_minutesGo [.ref (za Γ 5 0), .int (zi n)] μ none (zset μ 5 1 (rGo n.toNat (μ 5 1))) := by
  have h := m_minutesGo (Γ := Γ) (l := l) (d := d) I (n := n.toNat) (by omega) (by omega)
  rw [Int.toNat_of_nonneg hn.1] at h
  exact h
set_option maxRecDepth 100000 in
set_option maxHeartbeats 4000000 in
theorem m_drive {Γ : zC} {l : Launch} {d : Nat} {μ : zMem} {N : Int} (I : rInv N (μ 5 1)) (hN : N ≤ 10000) {n : Int} (hn : -2147483648 ≤ n ∧ n ≤ 2147483647) : zRet Γ l (d + 7) qX9_drive [.ref (za Γ 5 0), .int (zi n)] μ (some (.int (zi (if (1 ≤ n ∧ n ≤ 60) then (if ((μ 5 1) 1 + n ≤ 9999) then rSit (rGo n.toNat (μ 5 1)) else -1000000005) else -1000000001)))) (if (1 ≤ n ∧ n ≤ 60) then (if ((μ 5 1) 1 + n ≤ 9999) then zset μ 5 1 (rGo n.toNat (μ 5 1)) else zset μ 5 5 (rFind (μ 5 5) (-1000000005))) else zset μ 5 5 (rFind (μ 5 5) (-1000000001))) := by
  refine zRet.mk 0 [.ref (za Γ 5 0), .int (zi n)] RX9 rfl (by decide +kernel) (Nat.le_of_ble_eq_true rfl) rfl ?_
  intro p e s m below meth c C hr hlk
  have h0 := I.1
  have h1 := I.2.1
  have h2 := I.2.2.1
  have h3 := I.2.2.2.1
  refine zV_iload_n (i := 1) (n := 1) C dX9_drive_0 rfl rfl rfl ?_
  refine zV_i2l (n := 2) C dX9_drive_1 (by first | omega | exact zb_rg) rfl ?_
  refine zV_lconst (v := 1) (n := 3) C dX9_drive_2 rfl rfl ?_
  refine zV_ldc2 (n := 6) C dX9_drive_3 kX9_142 rfl ?_
  refine zV_callS3u (n := 9) C jX9_in lX9_54 (m_in (d := d) (by omega) (by omega) (by omega)) dX9_drive_6 (Nat.le_of_ble_eq_true rfl) (zfit_of (by omega) (by decide)) ⟨Nat.le_refl _, Nat.le_refl _⟩ rfl ?_
  refine zV_if_ne (n := 12) C 19 dX9_drive_9 (by decide) (by first | omega | exact zb_rg) rfl (fun h9 => ?_) (fun h9 => ?_)
  · skip
    simp only [zb_eq0, Decidable.not_not] at h9
    refine zV_aload_n (i := 0) (n := 20) C dX9_drive_19 rfl rfl rfl ?_
    refine zV_getP (f := 0) (n := 23) C zk8 fX9_7 dX9_drive_20 zs_ref rfl (by decide) rfl ?_
    refine zV_iconst (n := 24) C dX9_drive_23 rfl ?_
    refine zV_iald (n := 25) C dX9_drive_24 zs_s (by first | omega | exact zb_rg) (by decide) rfl ?_
    refine zV_iload_n (i := 1) (n := 26) C dX9_drive_25 rfl rfl rfl ?_
    refine zV_iadd (n := 27) C dX9_drive_26 rfl ?_
    refine zV_sipush (n := 30) C dX9_drive_27 (by decide) rfl ?_
    refine zV_icmp_le (n := 33) C 40 dX9_drive_30 (by decide) (by first | omega | exact zb_rg) (by first | omega | exact zb_rg) rfl (fun h30 => ?_) (fun h30 => ?_)
    · skip
      refine zV_aload_n (i := 0) (n := 41) C dX9_drive_40 rfl rfl rfl ?_
      refine zV_iload_n (i := 1) (n := 42) C dX9_drive_41 rfl rfl rfl ?_
      refine zV_callV1v (n := 45) C zk8 jX9_minutesGo lX9_144 (m_minutesGoI (d := d) I (by omega) (by omega)) dX9_drive_42 zs_ref rfl (Nat.le_of_ble_eq_true rfl) (zfit_of (by omega) (by decide)) ⟨Nat.le_refl _, Nat.le_refl _⟩ rfl ?_
      have I : rInv (N + n.toNat) (zset μ 5 1 (rGo n.toNat (μ 5 1)) 5 1) := by rw [zset_at]; exact rGo_inv (S := μ 5 1) I
      refine zV_aload_n (i := 0) (n := 46) C dX9_drive_45 rfl rfl rfl ?_
      refine zV_callV0u (n := 49) C zk8 jX9_seated lX9_147 (m_seated (d := d) I) dX9_drive_46 zs_ref rfl (Nat.le_of_ble_eq_true rfl) (zfit_of (by omega) (by decide)) ⟨Nat.le_refl _, Nat.le_refl _⟩ rfl ?_
      simp only [zset_at]
      exact zV_ireturn C hr hlk dX9_drive_49 (by first | exact congrArg (fun z => some (Value.int (zi z))) (zif_t (by omega) (zif_t (by omega) (rfl))) | exact congrArg (fun z => some (Value.int (zi z))) (zif_t (by omega) (zif_f (by omega) rfl)) | exact congrArg (fun z => some (Value.int (zi z))) (zif_f (by omega) rfl)) (by first | exact zif_t (by omega) (zif_t (by omega) (rfl)) | exact zif_t (by omega) (zif_f (by omega) rfl) | exact zif_f (by omega) rfl)
    · skip
      refine zV_aload_n (i := 0) (n := 34) C dX9_drive_33 rfl rfl rfl ?_
      refine zV_ldc (n := 36) C dX9_drive_34 kX9_128 rfl ?_
      refine zV_callV1u (n := 39) C zk8 jX9_finds lX9_75 (m_finds (d := d) (by omega)) dX9_drive_36 zs_ref rfl (Nat.le_of_ble_eq_true rfl) (zfit_of (by omega) (by decide)) ⟨Nat.le_refl _, Nat.le_refl _⟩ rfl ?_
      exact zV_ireturn C hr hlk dX9_drive_39 (by first | exact congrArg (fun z => some (Value.int (zi z))) (zif_t (by omega) (zif_t (by omega) (rfl))) | exact congrArg (fun z => some (Value.int (zi z))) (zif_t (by omega) (zif_f (by omega) rfl)) | exact congrArg (fun z => some (Value.int (zi z))) (zif_f (by omega) rfl)) (by first | exact zif_t (by omega) (zif_t (by omega) (rfl)) | exact zif_t (by omega) (zif_f (by omega) rfl) | exact zif_f (by omega) rfl)
  · skip
    simp only [zb_eq0, Decidable.not_not] at h9
    refine zV_aload_n (i := 0) (n := 13) C dX9_drive_12 rfl rfl rfl ?_
    refine zV_ldc (n := 15) C dX9_drive_13 kX9_51 rfl ?_
    refine zV_callV1u (n := 18) C zk8 jX9_finds lX9_75 (m_finds (d := d) (by omega)) dX9_drive_15 zs_ref rfl (Nat.le_of_ble_eq_true rfl) (zfit_of (by omega) (by decide)) ⟨Nat.le_refl _, Nat.le_refl _⟩ rfl ?_
    exact zV_ireturn C hr hlk dX9_drive_18 (by first | exact congrArg (fun z => some (Value.int (zi z))) (zif_t (by omega) (zif_t (by omega) (rfl))) | exact congrArg (fun z => some (Value.int (zi z))) (zif_t (by omega) (zif_f (by omega) rfl)) | exact congrArg (fun z => some (Value.int (zi z))) (zif_f (by omega) rfl)) (by first | exact zif_t (by omega) (zif_t (by omega) (rfl)) | exact zif_t (by omega) (zif_f (by omega) rfl) | exact zif_f (by omega) rfl)

set_option maxRecDepth 100000 in
set_option maxHeartbeats 4000000 in
theorem m_now {Γ : zC} {l : Launch} {d : Nat} {μ : zMem} {N : Int} (I : rInv N (μ 5 1)) (hN : N ≤ 10000) {w : Int} (hw : -2147483648 ≤ w ∧ w ≤ 2147483647) : zRet Γ l (d + 4) qX9_now [.ref (za Γ 5 0), .int (zi w)] μ (some (.int (zi (if (0 ≤ w ∧ w ≤ 5) then if w ≤ 2 then (μ 5 1) (1 + w) else if w = 3 then rSit (μ 5 1) else if w = 4 then rSumF (μ 5 1) 2 ((μ 5 1) 0).toNat 0 0 else rSumF (μ 5 1) 5 ((μ 5 1) 0).toNat 0 0 else -1000000001)))) (if (0 ≤ w ∧ w ≤ 5) then μ else zset μ 5 5 (rFind (μ 5 5) (-1000000001))) := by
  refine zRet.mk 0 [.ref (za Γ 5 0), .int (zi w)] RX9 rfl (by decide +kernel) (Nat.le_of_ble_eq_true rfl) rfl ?_
  intro p e s m below meth c C hr hlk
  have h0 := I.1
  have h1 := I.2.1
  have h2 := I.2.2.1
  have h3 := I.2.2.2.1
  refine zV_iload_n (i := 1) (n := 1) C dX9_now_0 rfl rfl rfl ?_
  have hsw1 : w = 0 ∨ w = 1 ∨ w = 2 ∨ w = 3 ∨ w = 4 ∨ w = 5 ∨ (w < 0 ∨ 5 < w) := by omega
  rcases hsw1 with hsw | hsw | hsw | hsw | hsw | hsw | hsw
  · skip
    refine zV_tswIn C 40 dX9_now_1 (by omega) (by omega) (by omega) (by rw [hsw]; rfl) (by decide) ?_
    refine zV_aload_n (i := 0) (n := 41) C dX9_now_40 rfl rfl rfl ?_
    refine zV_getP (f := 0) (n := 44) C zk8 fX9_7 dX9_now_41 zs_ref rfl (by decide) rfl ?_
    refine zV_iconst (n := 45) C dX9_now_44 rfl ?_
    refine zV_iload_n (i := 1) (n := 46) C dX9_now_45 rfl rfl rfl ?_
    refine zV_iadd (n := 47) C dX9_now_46 rfl ?_
    refine zV_iald (n := 48) C dX9_now_47 zs_s (by first | omega | exact zb_rg) (by decide) rfl ?_
    exact zV_ireturn C hr hlk dX9_now_48 (by first | exact congrArg (fun z => some (Value.int (zi z))) (zif_t (by omega) (zif_t (by omega) rfl)) | exact congrArg (fun z => some (Value.int (zi z))) (zif_t (by omega) (zif_f (by omega) (zif_t (by omega) rfl))) | exact congrArg (fun z => some (Value.int (zi z))) (zif_t (by omega) (zif_f (by omega) (zif_f (by omega) (zif_t (by omega) rfl)))) | exact congrArg (fun z => some (Value.int (zi z))) (zif_t (by omega) (zif_f (by omega) (zif_f (by omega) (zif_f (by omega) rfl)))) | exact congrArg (fun z => some (Value.int (zi z))) (zif_f (by omega) rfl)) (by first | exact zif_t (by omega) (rfl) | exact zif_f (by omega) rfl)
  · skip
    refine zV_tswIn C 40 dX9_now_1 (by omega) (by omega) (by omega) (by rw [hsw]; rfl) (by decide) ?_
    refine zV_aload_n (i := 0) (n := 41) C dX9_now_40 rfl rfl rfl ?_
    refine zV_getP (f := 0) (n := 44) C zk8 fX9_7 dX9_now_41 zs_ref rfl (by decide) rfl ?_
    refine zV_iconst (n := 45) C dX9_now_44 rfl ?_
    refine zV_iload_n (i := 1) (n := 46) C dX9_now_45 rfl rfl rfl ?_
    refine zV_iadd (n := 47) C dX9_now_46 rfl ?_
    refine zV_iald (n := 48) C dX9_now_47 zs_s (by first | omega | exact zb_rg) (by decide) rfl ?_
    exact zV_ireturn C hr hlk dX9_now_48 (by first | exact congrArg (fun z => some (Value.int (zi z))) (zif_t (by omega) (zif_t (by omega) rfl)) | exact congrArg (fun z => some (Value.int (zi z))) (zif_t (by omega) (zif_f (by omega) (zif_t (by omega) rfl))) | exact congrArg (fun z => some (Value.int (zi z))) (zif_t (by omega) (zif_f (by omega) (zif_f (by omega) (zif_t (by omega) rfl)))) | exact congrArg (fun z => some (Value.int (zi z))) (zif_t (by omega) (zif_f (by omega) (zif_f (by omega) (zif_f (by omega) rfl)))) | exact congrArg (fun z => some (Value.int (zi z))) (zif_f (by omega) rfl)) (by first | exact zif_t (by omega) (rfl) | exact zif_f (by omega) rfl)
  · skip
    refine zV_tswIn C 40 dX9_now_1 (by omega) (by omega) (by omega) (by rw [hsw]; rfl) (by decide) ?_
    refine zV_aload_n (i := 0) (n := 41) C dX9_now_40 rfl rfl rfl ?_
    refine zV_getP (f := 0) (n := 44) C zk8 fX9_7 dX9_now_41 zs_ref rfl (by decide) rfl ?_
    refine zV_iconst (n := 45) C dX9_now_44 rfl ?_
    refine zV_iload_n (i := 1) (n := 46) C dX9_now_45 rfl rfl rfl ?_
    refine zV_iadd (n := 47) C dX9_now_46 rfl ?_
    refine zV_iald (n := 48) C dX9_now_47 zs_s (by first | omega | exact zb_rg) (by decide) rfl ?_
    exact zV_ireturn C hr hlk dX9_now_48 (by first | exact congrArg (fun z => some (Value.int (zi z))) (zif_t (by omega) (zif_t (by omega) rfl)) | exact congrArg (fun z => some (Value.int (zi z))) (zif_t (by omega) (zif_f (by omega) (zif_t (by omega) rfl))) | exact congrArg (fun z => some (Value.int (zi z))) (zif_t (by omega) (zif_f (by omega) (zif_f (by omega) (zif_t (by omega) rfl)))) | exact congrArg (fun z => some (Value.int (zi z))) (zif_t (by omega) (zif_f (by omega) (zif_f (by omega) (zif_f (by omega) rfl)))) | exact congrArg (fun z => some (Value.int (zi z))) (zif_f (by omega) rfl)) (by first | exact zif_t (by omega) (rfl) | exact zif_f (by omega) rfl)
  · skip
    refine zV_tswIn C 49 dX9_now_1 (by omega) (by omega) (by omega) (by rw [hsw]; rfl) (by decide) ?_
    refine zV_aload_n (i := 0) (n := 50) C dX9_now_49 rfl rfl rfl ?_
    refine zV_callV0u (n := 53) C zk8 jX9_seated lX9_147 (m_seated (d := d) I) dX9_now_50 zs_ref rfl (Nat.le_of_ble_eq_true rfl) (zfit_of (by omega) (by decide)) ⟨Nat.le_refl _, Nat.le_refl _⟩ rfl ?_
    exact zV_ireturn C hr hlk dX9_now_53 (by first | exact congrArg (fun z => some (Value.int (zi z))) (zif_t (by omega) (zif_t (by omega) rfl)) | exact congrArg (fun z => some (Value.int (zi z))) (zif_t (by omega) (zif_f (by omega) (zif_t (by omega) rfl))) | exact congrArg (fun z => some (Value.int (zi z))) (zif_t (by omega) (zif_f (by omega) (zif_f (by omega) (zif_t (by omega) rfl)))) | exact congrArg (fun z => some (Value.int (zi z))) (zif_t (by omega) (zif_f (by omega) (zif_f (by omega) (zif_f (by omega) rfl)))) | exact congrArg (fun z => some (Value.int (zi z))) (zif_f (by omega) rfl)) (by first | exact zif_t (by omega) (rfl) | exact zif_f (by omega) rfl)
  · skip
    refine zV_tswIn C 54 dX9_now_1 (by omega) (by omega) (by omega) (by rw [hsw]; rfl) (by decide) ?_
    refine zV_aload_n (i := 0) (n := 55) C dX9_now_54 rfl rfl rfl ?_
    refine zV_iconst (n := 56) C dX9_now_55 rfl ?_
    refine zV_callV1u (n := 59) C zk8 jX9_together lX9_151 (m_together (d := d) I (by omega)) dX9_now_56 zs_ref rfl (Nat.le_of_ble_eq_true rfl) (zfit_of (by omega) (by decide)) ⟨Nat.le_refl _, Nat.le_refl _⟩ rfl ?_
    exact zV_ireturn C hr hlk dX9_now_59 (by first | exact congrArg (fun z => some (Value.int (zi z))) (zif_t (by omega) (zif_t (by omega) rfl)) | exact congrArg (fun z => some (Value.int (zi z))) (zif_t (by omega) (zif_f (by omega) (zif_t (by omega) rfl))) | exact congrArg (fun z => some (Value.int (zi z))) (zif_t (by omega) (zif_f (by omega) (zif_f (by omega) (zif_t (by omega) rfl)))) | exact congrArg (fun z => some (Value.int (zi z))) (zif_t (by omega) (zif_f (by omega) (zif_f (by omega) (zif_f (by omega) rfl)))) | exact congrArg (fun z => some (Value.int (zi z))) (zif_f (by omega) rfl)) (by first | exact zif_t (by omega) (rfl) | exact zif_f (by omega) rfl)
  · skip
    refine zV_tswIn C 60 dX9_now_1 (by omega) (by omega) (by omega) (by rw [hsw]; rfl) (by decide) ?_
    refine zV_aload_n (i := 0) (n := 61) C dX9_now_60 rfl rfl rfl ?_
    refine zV_iconst (n := 62) C dX9_now_61 rfl ?_
    refine zV_callV1u (n := 65) C zk8 jX9_together lX9_151 (m_together (d := d) I (by omega)) dX9_now_62 zs_ref rfl (Nat.le_of_ble_eq_true rfl) (zfit_of (by omega) (by decide)) ⟨Nat.le_refl _, Nat.le_refl _⟩ rfl ?_
    exact zV_ireturn C hr hlk dX9_now_65 (by first | exact congrArg (fun z => some (Value.int (zi z))) (zif_t (by omega) (zif_t (by omega) rfl)) | exact congrArg (fun z => some (Value.int (zi z))) (zif_t (by omega) (zif_f (by omega) (zif_t (by omega) rfl))) | exact congrArg (fun z => some (Value.int (zi z))) (zif_t (by omega) (zif_f (by omega) (zif_f (by omega) (zif_t (by omega) rfl)))) | exact congrArg (fun z => some (Value.int (zi z))) (zif_t (by omega) (zif_f (by omega) (zif_f (by omega) (zif_f (by omega) rfl)))) | exact congrArg (fun z => some (Value.int (zi z))) (zif_f (by omega) rfl)) (by first | exact zif_t (by omega) (rfl) | exact zif_f (by omega) rfl)
  · skip
    refine zV_tswOut C 66 dX9_now_1 (by omega) (by omega) (by decide) ?_
    refine zV_aload_n (i := 0) (n := 67) C dX9_now_66 rfl rfl rfl ?_
    refine zV_ldc (n := 69) C dX9_now_67 kX9_51 rfl ?_
    refine zV_callV1u (n := 72) C zk8 jX9_finds lX9_75 (m_finds (d := d) (by omega)) dX9_now_69 zs_ref rfl (Nat.le_of_ble_eq_true rfl) (zfit_of (by omega) (by decide)) ⟨Nat.le_refl _, Nat.le_refl _⟩ rfl ?_
    exact zV_ireturn C hr hlk dX9_now_72 (by first | exact congrArg (fun z => some (Value.int (zi z))) (zif_t (by omega) (zif_t (by omega) rfl)) | exact congrArg (fun z => some (Value.int (zi z))) (zif_t (by omega) (zif_f (by omega) (zif_t (by omega) rfl))) | exact congrArg (fun z => some (Value.int (zi z))) (zif_t (by omega) (zif_f (by omega) (zif_f (by omega) (zif_t (by omega) rfl)))) | exact congrArg (fun z => some (Value.int (zi z))) (zif_t (by omega) (zif_f (by omega) (zif_f (by omega) (zif_f (by omega) rfl)))) | exact congrArg (fun z => some (Value.int (zi z))) (zif_f (by omega) rfl)) (by first | exact zif_t (by omega) (rfl) | exact zif_f (by omega) rfl)

set_option maxRecDepth 100000 in
set_option maxHeartbeats 4000000 in
theorem m_on {Γ : zC} {l : Launch} {d : Nat} {μ : zMem} {N : Int} (I : rInv N (μ 5 1)) (hN : N ≤ 10000) {x : Int} (hx : -2147483648 ≤ x ∧ x ≤ 2147483647) {n : Int} (hn : -2147483648 ≤ n ∧ n ≤ 2147483647) {w : Int} (hw : -2147483648 ≤ w ∧ w ≤ 2147483647) : zRet Γ l (d + 7) qX9_on [.ref (za Γ 5 0), .int (zi x), .int (zi n), .int (zi w)] μ (some (.int (zi (if ((0 ≤ x ∧ x ≤ μ 5 1 0 - 1) ∧ (0 ≤ n ∧ n ≤ 60) ∧ (0 ≤ w ∧ w ≤ 1)) then if w = 0 then toS (rGo n.toNat (μ 5 1)) x 2 else toS (rGo n.toNat (μ 5 1)) x 5 else -1000000001)))) (if ((0 ≤ x ∧ x ≤ μ 5 1 0 - 1) ∧ (0 ≤ n ∧ n ≤ 60) ∧ (0 ≤ w ∧ w ≤ 1)) then zset μ 5 4 (μ 5 1) else zset μ 5 5 (rFind (μ 5 5) (-1000000001))) := by
  refine zRet.mk 0 [.ref (za Γ 5 0), .int (zi x), .int (zi n), .int (zi w)] RX9 rfl (by decide +kernel) (Nat.le_of_ble_eq_true rfl) rfl ?_
  intro p e s m below meth c C hr hlk
  have h0 := I.1
  have h1 := I.2.1
  have h2 := I.2.2.1
  have h3 := I.2.2.2.1
  refine zV_aload_n (i := 0) (n := 1) C dX9_on_0 rfl rfl rfl ?_
  refine zV_iload_n (i := 1) (n := 2) C dX9_on_1 rfl rfl rfl ?_
  refine zV_callV1u (n := 5) C zk8 jX9_isChild lX9_100 (m_isChild (d := d) (by omega) (by omega)) dX9_on_2 zs_ref rfl (Nat.le_of_ble_eq_true rfl) (zfit_of (by omega) (by decide)) ⟨Nat.le_refl _, Nat.le_refl _⟩ rfl ?_
  refine zV_if_eq (n := 8) C 30 dX9_on_5 (by decide) (by first | omega | exact zb_rg) rfl (fun h5 => ?_) (fun h5 => ?_)
  · skip
    simp only [zb_eq0, Decidable.not_not] at h5
    refine zV_aload_n (i := 0) (n := 31) C dX9_on_30 rfl rfl rfl ?_
    refine zV_ldc (n := 33) C dX9_on_31 kX9_51 rfl ?_
    refine zV_callV1u (n := 36) C zk8 jX9_finds lX9_75 (m_finds (d := d) (by omega)) dX9_on_33 zs_ref rfl (Nat.le_of_ble_eq_true rfl) (zfit_of (by omega) (by decide)) ⟨Nat.le_refl _, Nat.le_refl _⟩ rfl ?_
    exact zV_ireturn C hr hlk dX9_on_36 (by first | exact congrArg (fun z => some (Value.int (zi z))) (zif_t (by omega) (zif_t (by omega) rfl)) | exact congrArg (fun z => some (Value.int (zi z))) (zif_t (by omega) (zif_f (by omega) rfl)) | exact congrArg (fun z => some (Value.int (zi z))) (zif_f (by omega) rfl)) (by first | exact zif_t (by omega) (rfl) | exact zif_f (by omega) rfl)
  · skip
    simp only [zb_eq0, Decidable.not_not] at h5
    refine zV_iload_n (i := 2) (n := 9) C dX9_on_8 rfl rfl rfl ?_
    refine zV_i2l (n := 10) C dX9_on_9 (by first | omega | exact zb_rg) rfl ?_
    refine zV_lconst (v := 0) (n := 11) C dX9_on_10 rfl rfl ?_
    refine zV_ldc2 (n := 14) C dX9_on_11 kX9_142 rfl ?_
    refine zV_callS3u (n := 17) C jX9_in lX9_54 (m_in (d := d) (by omega) (by omega) (by omega)) dX9_on_14 (Nat.le_of_ble_eq_true rfl) (zfit_of (by omega) (by decide)) ⟨Nat.le_refl _, Nat.le_refl _⟩ rfl ?_
    refine zV_if_eq (n := 20) C 30 dX9_on_17 (by decide) (by first | omega | exact zb_rg) rfl (fun h17 => ?_) (fun h17 => ?_)
    · skip
      simp only [zb_eq0, Decidable.not_not] at h17
      refine zV_aload_n (i := 0) (n := 31) C dX9_on_30 rfl rfl rfl ?_
      refine zV_ldc (n := 33) C dX9_on_31 kX9_51 rfl ?_
      refine zV_callV1u (n := 36) C zk8 jX9_finds lX9_75 (m_finds (d := d) (by omega)) dX9_on_33 zs_ref rfl (Nat.le_of_ble_eq_true rfl) (zfit_of (by omega) (by decide)) ⟨Nat.le_refl _, Nat.le_refl _⟩ rfl ?_
      exact zV_ireturn C hr hlk dX9_on_36 (by first | exact congrArg (fun z => some (Value.int (zi z))) (zif_t (by omega) (zif_t (by omega) rfl)) | exact congrArg (fun z => some (Value.int (zi z))) (zif_t (by omega) (zif_f (by omega) rfl)) | exact congrArg (fun z => some (Value.int (zi z))) (zif_f (by omega) rfl)) (by first | exact zif_t (by omega) (rfl) | exact zif_f (by omega) rfl)
    · skip
      simp only [zb_eq0, Decidable.not_not] at h17
      refine zV_iload_n (i := 3) (n := 21) C dX9_on_20 rfl rfl rfl ?_
      refine zV_i2l (n := 22) C dX9_on_21 (by first | omega | exact zb_rg) rfl ?_
      refine zV_lconst (v := 0) (n := 23) C dX9_on_22 rfl rfl ?_
      refine zV_lconst (v := 1) (n := 24) C dX9_on_23 rfl rfl ?_
      refine zV_callS3u (n := 27) C jX9_in lX9_54 (m_in (d := d) (by omega) (by omega) (by omega)) dX9_on_24 (Nat.le_of_ble_eq_true rfl) (zfit_of (by omega) (by decide)) ⟨Nat.le_refl _, Nat.le_refl _⟩ rfl ?_
      refine zV_if_ne (n := 30) C 37 dX9_on_27 (by decide) (by first | omega | exact zb_rg) rfl (fun h27 => ?_) (fun h27 => ?_)
      · skip
        simp only [zb_eq0, Decidable.not_not] at h27
        refine zV_aload_n (i := 0) (n := 38) C dX9_on_37 rfl rfl rfl ?_
        refine zV_callV0v (n := 41) C zk8 jX9_laysAside lX9_154 (m_laysAside (d := d)) dX9_on_38 zs_ref rfl (Nat.le_of_ble_eq_true rfl) (zfit_of (by omega) (by decide)) ⟨Nat.le_refl _, Nat.le_refl _⟩ rfl ?_
        have I : rInv N (zset μ 5 4 (μ 5 1) 5 1) := by rw [zset_ne (by decide)]; exact I
        refine zV_aload_n (i := 0) (n := 42) C dX9_on_41 rfl rfl rfl ?_
        refine zV_iload_n (i := 2) (n := 43) C dX9_on_42 rfl rfl rfl ?_
        refine zV_callV1v (n := 46) C zk8 jX9_minutesGo lX9_144 (m_minutesGoI (d := d) I (by omega) (by omega)) dX9_on_43 zs_ref rfl (Nat.le_of_ble_eq_true rfl) (zfit_of (by omega) (by decide)) ⟨Nat.le_refl _, Nat.le_refl _⟩ rfl ?_
        rw [show zset μ 5 4 (μ 5 1) 5 1 = μ 5 1 from zset_ne (by decide)]
        refine zV_aload_n (i := 0) (n := 47) C dX9_on_46 rfl rfl rfl ?_
        refine zV_aload_n (i := 0) (n := 48) C dX9_on_47 rfl rfl rfl ?_
        refine zV_iload_n (i := 1) (n := 49) C dX9_on_48 rfl rfl rfl ?_
        refine zV_iload_n (i := 3) (n := 50) C dX9_on_49 rfl rfl rfl ?_
        refine zV_if_ne (n := 53) C 57 dX9_on_50 (by decide) (by first | omega | exact zb_rg) rfl (fun h50 => ?_) (fun h50 => ?_)
        · skip
          refine zV_iconst (n := 58) C dX9_on_57 rfl ?_
          refine zV_callV2u (n := 61) C zk8 jX9_told lX9_94 (m_told (d := d) (by omega)) dX9_on_58 zs_ref rfl (Nat.le_of_ble_eq_true rfl) (zfit_of (by omega) (by decide)) ⟨Nat.le_refl _, Nat.le_refl _⟩ rfl ?_
          simp only [zset_at]
          refine zV_callV1u (n := 64) C zk8 jX9_takesBack lX9_157 (m_takesBack (d := d)) dX9_on_61 zs_ref rfl (Nat.le_of_ble_eq_true rfl) (zfit_of (by omega) (by decide)) ⟨Nat.le_refl _, Nat.le_refl _⟩ rfl ?_
          rw [zset_set, zset_ne (by decide), zset_at, zset_old (by decide)]
          exact zV_ireturn C hr hlk dX9_on_64 (by first | exact congrArg (fun z => some (Value.int (zi z))) (zif_t (by omega) (zif_t (by omega) rfl)) | exact congrArg (fun z => some (Value.int (zi z))) (zif_t (by omega) (zif_f (by omega) rfl)) | exact congrArg (fun z => some (Value.int (zi z))) (zif_f (by omega) rfl)) (by first | exact zif_t (by omega) (rfl) | exact zif_f (by omega) rfl)
        · skip
          refine zV_iconst (n := 54) C dX9_on_53 rfl ?_
          refine zV_goto C 58 dX9_on_54 (by decide) ?_
          refine zV_callV2u (n := 61) C zk8 jX9_told lX9_94 (m_told (d := d) (by omega)) dX9_on_58 zs_ref rfl (Nat.le_of_ble_eq_true rfl) (zfit_of (by omega) (by decide)) ⟨Nat.le_refl _, Nat.le_refl _⟩ rfl ?_
          simp only [zset_at]
          refine zV_callV1u (n := 64) C zk8 jX9_takesBack lX9_157 (m_takesBack (d := d)) dX9_on_61 zs_ref rfl (Nat.le_of_ble_eq_true rfl) (zfit_of (by omega) (by decide)) ⟨Nat.le_refl _, Nat.le_refl _⟩ rfl ?_
          rw [zset_set, zset_ne (by decide), zset_at, zset_old (by decide)]
          exact zV_ireturn C hr hlk dX9_on_64 (by first | exact congrArg (fun z => some (Value.int (zi z))) (zif_t (by omega) (zif_t (by omega) rfl)) | exact congrArg (fun z => some (Value.int (zi z))) (zif_t (by omega) (zif_f (by omega) rfl)) | exact congrArg (fun z => some (Value.int (zi z))) (zif_f (by omega) rfl)) (by first | exact zif_t (by omega) (rfl) | exact zif_f (by omega) rfl)
      · skip
        simp only [zb_eq0, Decidable.not_not] at h27
        refine zV_aload_n (i := 0) (n := 31) C dX9_on_30 rfl rfl rfl ?_
        refine zV_ldc (n := 33) C dX9_on_31 kX9_51 rfl ?_
        refine zV_callV1u (n := 36) C zk8 jX9_finds lX9_75 (m_finds (d := d) (by omega)) dX9_on_33 zs_ref rfl (Nat.le_of_ble_eq_true rfl) (zfit_of (by omega) (by decide)) ⟨Nat.le_refl _, Nat.le_refl _⟩ rfl ?_
        exact zV_ireturn C hr hlk dX9_on_36 (by first | exact congrArg (fun z => some (Value.int (zi z))) (zif_t (by omega) (zif_t (by omega) rfl)) | exact congrArg (fun z => some (Value.int (zi z))) (zif_t (by omega) (zif_f (by omega) rfl)) | exact congrArg (fun z => some (Value.int (zi z))) (zif_f (by omega) rfl)) (by first | exact zif_t (by omega) (rfl) | exact zif_f (by omega) rfl)

set_option maxRecDepth 100000 in
set_option maxHeartbeats 4000000 in
theorem m_out {Γ : zC} {l : Launch} {d : Nat} {μ : zMem} {N : Int} (I : rInv N (μ 5 1)) (hN : N ≤ 10000) {x : Int} (hx : -2147483648 ≤ x ∧ x ≤ 2147483647) : zRet Γ l (d + 7) qX9_out [.ref (za Γ 5 0), .int (zi x)] μ (some (.int (zi (if (0 ≤ x ∧ x ≤ μ 5 1 0 - 1) then (if 0 ≤ rAt (μ 5 1) x then (if rOI x 60 60 (μ 5 1) 0 ≤ 60 then rOI x 60 60 (μ 5 1) 0 else -1000000004) else -1000000005) else -1000000001)))) (if (0 ≤ x ∧ x ≤ μ 5 1 0 - 1) then (if 0 ≤ rAt (μ 5 1) x then (if rOI x 60 60 (μ 5 1) 0 ≤ 60 then zset μ 5 4 (μ 5 1) else zset (zset μ 5 4 (μ 5 1)) 5 5 (rFind (μ 5 5) (-1000000004))) else zset μ 5 5 (rFind (μ 5 5) (-1000000005))) else zset μ 5 5 (rFind (μ 5 5) (-1000000001))) := by
  refine zRet.mk 1 [.ref (za Γ 5 0), .int (zi x), .null] RX9 rfl (by decide +kernel) (Nat.le_of_ble_eq_true rfl) rfl ?_
  intro p e s m below meth c C hr hlk
  have h0 := I.1
  have ha := rAt_rg (μ 5 1) x
  refine zV_aload_n (i := 0) (n := 1) C dX9_out_0 rfl rfl rfl ?_
  refine zV_iload_n (i := 1) (n := 2) C dX9_out_1 rfl rfl rfl ?_
  refine zV_callV1u (n := 5) C zk8 jX9_isChild lX9_100 (m_isChild (d := d) (by omega) (by omega)) dX9_out_2 zs_ref rfl (Nat.le_of_ble_eq_true rfl) (zfit_of (by omega) (by decide)) ⟨Nat.le_refl _, Nat.le_refl _⟩ rfl ?_
  refine zV_if_ne (n := 8) C 15 dX9_out_5 (by decide) (by first | omega | exact zb_rg) rfl (fun h5 => ?_) (fun h5 => ?_)
  · skip
    simp only [zb_eq0, Decidable.not_not] at h5
    refine zV_aload_n (i := 0) (n := 16) C dX9_out_15 rfl rfl rfl ?_
    refine zV_iload_n (i := 1) (n := 17) C dX9_out_16 rfl rfl rfl ?_
    refine zV_callV1u (n := 20) C zk8 jX9_seatedAt lX9_91 (m_seatedAt (d := d) I (by omega)) dX9_out_17 zs_ref rfl (Nat.le_of_ble_eq_true rfl) (zfit_of (by omega) (by decide)) ⟨Nat.le_refl _, Nat.le_refl _⟩ rfl ?_
    refine zV_if_ge (n := 23) C 30 dX9_out_20 (by decide) (by first | omega | exact zb_rg) rfl (fun h20 => ?_) (fun h20 => ?_)
    · skip
      refine zV_aload_n (i := 0) (n := 31) C dX9_out_30 rfl rfl rfl ?_
      refine zV_iload_n (i := 1) (n := 32) C dX9_out_31 rfl rfl rfl ?_
      refine zV_bipush (n := 34) C dX9_out_32 (by decide) rfl ?_
      refine zV_callV2u (n := 37) C zk8 jX9_outIn lX9_160 (m_outIn (d := d) (n := 60) I (by omega) (by omega) (by omega)) dX9_out_34 zs_ref rfl (Nat.le_of_ble_eq_true rfl) (zfit_of (by omega) (by decide)) ⟨Nat.le_refl _, Nat.le_refl _⟩ rfl ?_
      have ho := rOI_rg (x := x) (n := 60) (i := 60) (S := (μ 5 1)) (k := 0) (by omega) (by omega)
      rw [show ((60 : Nat) : Int) = 60 from rfl]
      refine zS_istore_n_3_2 (n := 38) C dX9_out_37 rfl rfl ?_
      refine zV_iload_n (i := 2) (n := 39) C dX9_out_38 rfl rfl rfl ?_
      refine zV_bipush (n := 41) C dX9_out_39 (by decide) rfl ?_
      refine zV_icmp_le (n := 44) C 53 dX9_out_41 (by decide) (by first | omega | exact zb_rg) (by first | omega | exact zb_rg) rfl (fun h41 => ?_) (fun h41 => ?_)
      · skip
        refine zV_iload_n (i := 2) (n := 54) C dX9_out_53 rfl rfl rfl ?_
        exact zV_ireturn C hr hlk dX9_out_54 (by first | exact congrArg (fun z => some (Value.int (zi z))) (zif_t (by omega) (zif_t (by omega) (zif_t (by omega) (rfl)))) | exact congrArg (fun z => some (Value.int (zi z))) (zif_t (by omega) (zif_t (by omega) (zif_f (by omega) rfl))) | exact congrArg (fun z => some (Value.int (zi z))) (zif_t (by omega) (zif_f (by omega) rfl)) | exact congrArg (fun z => some (Value.int (zi z))) (zif_f (by omega) rfl)) (by first | exact zif_t (by omega) (zif_t (by omega) (zif_t (by omega) (rfl))) | exact zif_t (by omega) (zif_t (by omega) (zif_f (by omega) rfl)) | exact zif_t (by omega) (zif_f (by omega) rfl) | exact zif_f (by omega) rfl)
      · skip
        refine zV_aload_n (i := 0) (n := 45) C dX9_out_44 rfl rfl rfl ?_
        refine zV_ldc (n := 47) C dX9_out_45 kX9_163 rfl ?_
        refine zV_callV1u (n := 50) C zk8 jX9_finds lX9_75 (m_finds (d := d) (by omega)) dX9_out_47 zs_ref rfl (Nat.le_of_ble_eq_true rfl) (zfit_of (by omega) (by decide)) ⟨Nat.le_refl _, Nat.le_refl _⟩ rfl ?_
        rw [show zset μ 5 4 (μ 5 1) 5 5 = μ 5 5 from zset_ne (by decide)]
        refine zV_goto C 54 dX9_out_50 (by decide) ?_
        exact zV_ireturn C hr hlk dX9_out_54 (by first | exact congrArg (fun z => some (Value.int (zi z))) (zif_t (by omega) (zif_t (by omega) (zif_t (by omega) (rfl)))) | exact congrArg (fun z => some (Value.int (zi z))) (zif_t (by omega) (zif_t (by omega) (zif_f (by omega) rfl))) | exact congrArg (fun z => some (Value.int (zi z))) (zif_t (by omega) (zif_f (by omega) rfl)) | exact congrArg (fun z => some (Value.int (zi z))) (zif_f (by omega) rfl)) (by first | exact zif_t (by omega) (zif_t (by omega) (zif_t (by omega) (rfl))) | exact zif_t (by omega) (zif_t (by omega) (zif_f (by omega) rfl)) | exact zif_t (by omega) (zif_f (by omega) rfl) | exact zif_f (by omega) rfl)
    · skip
      refine zV_aload_n (i := 0) (n := 24) C dX9_out_23 rfl rfl rfl ?_
      refine zV_ldc (n := 26) C dX9_out_24 kX9_128 rfl ?_
      refine zV_callV1u (n := 29) C zk8 jX9_finds lX9_75 (m_finds (d := d) (by omega)) dX9_out_26 zs_ref rfl (Nat.le_of_ble_eq_true rfl) (zfit_of (by omega) (by decide)) ⟨Nat.le_refl _, Nat.le_refl _⟩ rfl ?_
      exact zV_ireturn C hr hlk dX9_out_29 (by first | exact congrArg (fun z => some (Value.int (zi z))) (zif_t (by omega) (zif_t (by omega) (zif_t (by omega) (rfl)))) | exact congrArg (fun z => some (Value.int (zi z))) (zif_t (by omega) (zif_t (by omega) (zif_f (by omega) rfl))) | exact congrArg (fun z => some (Value.int (zi z))) (zif_t (by omega) (zif_f (by omega) rfl)) | exact congrArg (fun z => some (Value.int (zi z))) (zif_f (by omega) rfl)) (by first | exact zif_t (by omega) (zif_t (by omega) (zif_t (by omega) (rfl))) | exact zif_t (by omega) (zif_t (by omega) (zif_f (by omega) rfl)) | exact zif_t (by omega) (zif_f (by omega) rfl) | exact zif_f (by omega) rfl)
  · skip
    simp only [zb_eq0, Decidable.not_not] at h5
    refine zV_aload_n (i := 0) (n := 9) C dX9_out_8 rfl rfl rfl ?_
    refine zV_ldc (n := 11) C dX9_out_9 kX9_51 rfl ?_
    refine zV_callV1u (n := 14) C zk8 jX9_finds lX9_75 (m_finds (d := d) (by omega)) dX9_out_11 zs_ref rfl (Nat.le_of_ble_eq_true rfl) (zfit_of (by omega) (by decide)) ⟨Nat.le_refl _, Nat.le_refl _⟩ rfl ?_
    exact zV_ireturn C hr hlk dX9_out_14 (by first | exact congrArg (fun z => some (Value.int (zi z))) (zif_t (by omega) (zif_t (by omega) (zif_t (by omega) (rfl)))) | exact congrArg (fun z => some (Value.int (zi z))) (zif_t (by omega) (zif_t (by omega) (zif_f (by omega) rfl))) | exact congrArg (fun z => some (Value.int (zi z))) (zif_t (by omega) (zif_f (by omega) rfl)) | exact congrArg (fun z => some (Value.int (zi z))) (zif_f (by omega) rfl)) (by first | exact zif_t (by omega) (zif_t (by omega) (zif_t (by omega) (rfl))) | exact zif_t (by omega) (zif_t (by omega) (zif_f (by omega) rfl)) | exact zif_t (by omega) (zif_f (by omega) rfl) | exact zif_f (by omega) rfl)

set_option maxRecDepth 100000 in
set_option maxHeartbeats 4000000 in
theorem m_tear {Γ : zC} {l : Launch} {d : Nat} {μ : zMem} (hk : μ 5 0 5 = 0 ∨ μ 5 0 5 = 1) : zRet Γ l (d + 0) qX9_tear [.ref (za Γ 5 0)] μ (some (.int (zi (μ 5 0 5)))) (zup μ 5 0 5 0) := by
  refine zRet.mk 1 [.ref (za Γ 5 0), .null] RX9 rfl (by decide +kernel) (Nat.le_of_ble_eq_true rfl) rfl ?_
  intro p e s m below meth c C hr hlk
  refine zV_aload_n (i := 0) (n := 1) C dX9_tear_0 rfl rfl rfl ?_
  refine zV_getI (f := 5) (fi := 5) (n := 4) C zk8 fX9_315 dX9_tear_1 zs_ref rfl (by decide) rfl rfl ?_
  refine zV_if_eq (n := 7) C 11 dX9_tear_4 (by decide) (by omega) rfl (fun h4 => ?_) (fun h4 => ?_)
  · skip
    refine zV_iconst (n := 12) C dX9_tear_11 rfl ?_
    refine zS_istore_n_2_1 (n := 13) C dX9_tear_12 rfl rfl ?_
    refine zV_aload_n (i := 0) (n := 14) C dX9_tear_13 rfl rfl rfl ?_
    refine zV_iconst (n := 15) C dX9_tear_14 rfl ?_
    refine zV_putZ (f := 5) (fi := 5) (n := 18) C zk8 fX9_315 dX9_tear_15 zs_ref rfl (by decide) rfl rfl rfl (by omega) rfl ?_
    refine zV_iload_n (i := 1) (n := 19) C dX9_tear_18 rfl rfl rfl ?_
    exact zV_ireturn C hr hlk dX9_tear_19 (by exact congrArg (fun z => some (Value.int (zi z))) (by omega)) (by rfl)
  · skip
    refine zV_iconst (n := 8) C dX9_tear_7 rfl ?_
    refine zV_goto C 12 dX9_tear_8 (by decide) ?_
    refine zS_istore_n_2_1 (n := 13) C dX9_tear_12 rfl rfl ?_
    refine zV_aload_n (i := 0) (n := 14) C dX9_tear_13 rfl rfl rfl ?_
    refine zV_iconst (n := 15) C dX9_tear_14 rfl ?_
    refine zV_putZ (f := 5) (fi := 5) (n := 18) C zk8 fX9_315 dX9_tear_15 zs_ref rfl (by decide) rfl rfl rfl (by omega) rfl ?_
    refine zV_iload_n (i := 1) (n := 19) C dX9_tear_18 rfl rfl rfl ?_
    exact zV_ireturn C hr hlk dX9_tear_19 (by exact congrArg (fun z => some (Value.int (zi z))) (by omega)) (by rfl)

set_option maxRecDepth 100000 in
set_option maxHeartbeats 4000000 in
theorem m_wipe {Γ : zC} {l : Launch} {d : Nat} {μ : zMem}  : zRet Γ l (d + 0) qX9_wipe [.ref (za Γ 5 0)] μ (some (.int (zi (μ 5 0 10)))) (zup μ 5 0 10 0) := by
  refine zRet.mk 1 [.ref (za Γ 5 0), .null] RX9 rfl (by decide +kernel) (Nat.le_of_ble_eq_true rfl) rfl ?_
  intro p e s m below meth c C hr hlk
  refine zV_aload_n (i := 0) (n := 1) C dX9_wipe_0 rfl rfl rfl ?_
  refine zV_getI (f := 10) (fi := 10) (n := 4) C zk8 fX9_190 dX9_wipe_1 zs_ref rfl (by decide) rfl rfl ?_
  refine zS_istore_n_2_1 (n := 5) C dX9_wipe_4 rfl rfl ?_
  refine zV_aload_n (i := 0) (n := 6) C dX9_wipe_5 rfl rfl rfl ?_
  refine zV_iconst (n := 7) C dX9_wipe_6 rfl ?_
  refine zV_putI (f := 10) (fi := 10) (n := 10) C zk8 fX9_190 dX9_wipe_7 zs_ref rfl (by decide) rfl rfl rfl rfl ?_
  refine zV_iload_n (i := 1) (n := 11) C dX9_wipe_10 rfl rfl rfl ?_
  exact zV_ireturn C hr hlk dX9_wipe_11 (by rfl) (by rfl)

set_option maxRecDepth 100000 in
set_option maxHeartbeats 4000000 in
theorem m_wears {Γ : zC} {l : Launch} {d : Nat} {μ : zMem}  : zRet Γ l (d + 2) qX9_wears [.ref (za Γ 5 0)] μ (some (.int (zi (rWears (μ 5 1))))) μ := by
  refine zRet.mk 0 [.ref (za Γ 5 0)] RX9 rfl (by decide +kernel) (Nat.le_of_ble_eq_true rfl) rfl ?_
  intro p e s m below meth c C hr hlk
  refine zV_aload_n (i := 0) (n := 1) C dX9_wears_0 rfl rfl rfl ?_
  refine zV_iconst (n := 2) C dX9_wears_1 rfl ?_
  refine zV_iconst (n := 3) C dX9_wears_2 rfl ?_
  refine zV_callV2u (n := 6) C zk8 jX9_its lX9_63 (m_its (d := d) (by omega)) dX9_wears_3 zs_ref rfl (Nat.le_of_ble_eq_true rfl) (zfit_of (by omega) (by decide)) ⟨Nat.le_refl _, Nat.le_refl _⟩ rfl ?_
  refine zV_aload_n (i := 0) (n := 7) C dX9_wears_6 rfl rfl rfl ?_
  refine zV_iconst (n := 8) C dX9_wears_7 rfl ?_
  refine zV_iconst (n := 9) C dX9_wears_8 rfl ?_
  refine zV_callV2u (n := 12) C zk8 jX9_its lX9_63 (m_its (d := d) (by omega)) dX9_wears_9 zs_ref rfl (Nat.le_of_ble_eq_true rfl) (zfit_of (by omega) (by decide)) ⟨Nat.le_refl _, Nat.le_refl _⟩ rfl ?_
  refine zV_iadd (n := 13) C dX9_wears_12 rfl ?_
  refine zV_aload_n (i := 0) (n := 14) C dX9_wears_13 rfl rfl rfl ?_
  refine zV_iconst (n := 15) C dX9_wears_14 rfl ?_
  refine zV_iconst (n := 16) C dX9_wears_15 rfl ?_
  refine zV_callV2u (n := 19) C zk8 jX9_its lX9_63 (m_its (d := d) (by omega)) dX9_wears_16 zs_ref rfl (Nat.le_of_ble_eq_true rfl) (zfit_of (by omega) (by decide)) ⟨Nat.le_refl _, Nat.le_refl _⟩ rfl ?_
  refine zV_iadd (n := 20) C dX9_wears_19 rfl ?_
  exact zV_ireturn C hr hlk dX9_wears_20 (by rfl) (by rfl)

set_option maxRecDepth 100000 in
set_option maxHeartbeats 4000000 in
theorem m_count {Γ : zC} {l : Launch} {d : Nat} {μ : zMem} {N : Int} (I : rInv N (μ 5 1)) (hN : N ≤ 10000) {w : Int} (hw : -2147483648 ≤ w ∧ w ≤ 2147483647) : zRet Γ l (d + 4) qX9_count [.ref (za Γ 5 0), .int (zi w)] μ (some (.int (zi (if (0 ≤ w ∧ w ≤ 3) then if w = 0 then (μ 5 1) 0 else if w = 1 then μ 5 0 10 else if w = 2 then rPop (rSit (μ 5 1)) else rWears (μ 5 1) else -1000000001)))) (if (0 ≤ w ∧ w ≤ 3) then μ else zset μ 5 5 (rFind (μ 5 5) (-1000000001))) := by
  refine zRet.mk 0 [.ref (za Γ 5 0), .int (zi w)] RX9 rfl (by decide +kernel) (Nat.le_of_ble_eq_true rfl) rfl ?_
  intro p e s m below meth c C hr hlk
  have hz := rSit_rg I
  have h0 := I.1
  have h1 := I.2.1
  have h2 := I.2.2.1
  have h3 := I.2.2.2.1
  refine zV_iload_n (i := 1) (n := 1) C dX9_count_0 rfl rfl rfl ?_
  have hsw1 : w = 0 ∨ w = 1 ∨ w = 2 ∨ w = 3 ∨ (w < 0 ∨ 3 < w) := by omega
  rcases hsw1 with hsw | hsw | hsw | hsw | hsw
  · skip
    refine zV_tswIn C 32 dX9_count_1 (by omega) (by omega) (by omega) (by rw [hsw]; rfl) (by decide) ?_
    refine zV_aload_n (i := 0) (n := 33) C dX9_count_32 rfl rfl rfl ?_
    refine zV_getP (f := 0) (n := 36) C zk8 fX9_7 dX9_count_33 zs_ref rfl (by decide) rfl ?_
    refine zV_iconst (n := 37) C dX9_count_36 rfl ?_
    refine zV_iald (n := 38) C dX9_count_37 zs_s (by first | omega | exact zb_rg) (by decide) rfl ?_
    exact zV_ireturn C hr hlk dX9_count_38 (by first | exact congrArg (fun z => some (Value.int (zi z))) (zif_t (by omega) (zif_t (by omega) rfl)) | exact congrArg (fun z => some (Value.int (zi z))) (zif_t (by omega) (zif_f (by omega) (zif_t (by omega) rfl))) | exact congrArg (fun z => some (Value.int (zi z))) (zif_t (by omega) (zif_f (by omega) (zif_f (by omega) (zif_t (by omega) rfl)))) | exact congrArg (fun z => some (Value.int (zi z))) (zif_t (by omega) (zif_f (by omega) (zif_f (by omega) (zif_f (by omega) rfl)))) | exact congrArg (fun z => some (Value.int (zi z))) (zif_f (by omega) rfl)) (by first | exact zif_t (by omega) (rfl) | exact zif_f (by omega) rfl)
  · skip
    refine zV_tswIn C 39 dX9_count_1 (by omega) (by omega) (by omega) (by rw [hsw]; rfl) (by decide) ?_
    refine zV_aload_n (i := 0) (n := 40) C dX9_count_39 rfl rfl rfl ?_
    refine zV_getI (f := 10) (fi := 10) (n := 43) C zk8 fX9_190 dX9_count_40 zs_ref rfl (by decide) rfl rfl ?_
    exact zV_ireturn C hr hlk dX9_count_43 (by first | exact congrArg (fun z => some (Value.int (zi z))) (zif_t (by omega) (zif_t (by omega) rfl)) | exact congrArg (fun z => some (Value.int (zi z))) (zif_t (by omega) (zif_f (by omega) (zif_t (by omega) rfl))) | exact congrArg (fun z => some (Value.int (zi z))) (zif_t (by omega) (zif_f (by omega) (zif_f (by omega) (zif_t (by omega) rfl)))) | exact congrArg (fun z => some (Value.int (zi z))) (zif_t (by omega) (zif_f (by omega) (zif_f (by omega) (zif_f (by omega) rfl)))) | exact congrArg (fun z => some (Value.int (zi z))) (zif_f (by omega) rfl)) (by first | exact zif_t (by omega) (rfl) | exact zif_f (by omega) rfl)
  · skip
    refine zV_tswIn C 44 dX9_count_1 (by omega) (by omega) (by omega) (by rw [hsw]; rfl) (by decide) ?_
    refine zV_aload_n (i := 0) (n := 45) C dX9_count_44 rfl rfl rfl ?_
    refine zV_callV0u (n := 48) C zk8 jX9_seated lX9_147 (m_seated (d := d) I) dX9_count_45 zs_ref rfl (Nat.le_of_ble_eq_true rfl) (zfit_of (by omega) (by decide)) ⟨Nat.le_refl _, Nat.le_refl _⟩ rfl ?_
    refine zV_callS1u (n := 51) C jX9_ones lX9_167 (m_ones (d := d) (by omega)) dX9_count_48 (Nat.le_of_ble_eq_true rfl) (zfit_of (by omega) (by decide)) ⟨Nat.le_refl _, Nat.le_refl _⟩ rfl ?_
    exact zV_ireturn C hr hlk dX9_count_51 (by first | exact congrArg (fun z => some (Value.int (zi z))) (zif_t (by omega) (zif_t (by omega) rfl)) | exact congrArg (fun z => some (Value.int (zi z))) (zif_t (by omega) (zif_f (by omega) (zif_t (by omega) rfl))) | exact congrArg (fun z => some (Value.int (zi z))) (zif_t (by omega) (zif_f (by omega) (zif_f (by omega) (zif_t (by omega) rfl)))) | exact congrArg (fun z => some (Value.int (zi z))) (zif_t (by omega) (zif_f (by omega) (zif_f (by omega) (zif_f (by omega) rfl)))) | exact congrArg (fun z => some (Value.int (zi z))) (zif_f (by omega) rfl)) (by first | exact zif_t (by omega) (rfl) | exact zif_f (by omega) rfl)
  · skip
    refine zV_tswIn C 52 dX9_count_1 (by omega) (by omega) (by omega) (by rw [hsw]; rfl) (by decide) ?_
    refine zV_aload_n (i := 0) (n := 53) C dX9_count_52 rfl rfl rfl ?_
    refine zV_callV0u (n := 56) C zk8 jX9_wears lX9_318 (m_wears (d := d) ) dX9_count_53 zs_ref rfl (Nat.le_of_ble_eq_true rfl) (zfit_of (by omega) (by decide)) ⟨Nat.le_refl _, Nat.le_refl _⟩ rfl ?_
    exact zV_ireturn C hr hlk dX9_count_56 (by first | exact congrArg (fun z => some (Value.int (zi z))) (zif_t (by omega) (zif_t (by omega) rfl)) | exact congrArg (fun z => some (Value.int (zi z))) (zif_t (by omega) (zif_f (by omega) (zif_t (by omega) rfl))) | exact congrArg (fun z => some (Value.int (zi z))) (zif_t (by omega) (zif_f (by omega) (zif_f (by omega) (zif_t (by omega) rfl)))) | exact congrArg (fun z => some (Value.int (zi z))) (zif_t (by omega) (zif_f (by omega) (zif_f (by omega) (zif_f (by omega) rfl)))) | exact congrArg (fun z => some (Value.int (zi z))) (zif_f (by omega) rfl)) (by first | exact zif_t (by omega) (rfl) | exact zif_f (by omega) rfl)
  · skip
    refine zV_tswOut C 57 dX9_count_1 (by omega) (by omega) (by decide) ?_
    refine zV_aload_n (i := 0) (n := 58) C dX9_count_57 rfl rfl rfl ?_
    refine zV_ldc (n := 60) C dX9_count_58 kX9_51 rfl ?_
    refine zV_callV1u (n := 63) C zk8 jX9_finds lX9_75 (m_finds (d := d) (by omega)) dX9_count_60 zs_ref rfl (Nat.le_of_ble_eq_true rfl) (zfit_of (by omega) (by decide)) ⟨Nat.le_refl _, Nat.le_refl _⟩ rfl ?_
    exact zV_ireturn C hr hlk dX9_count_63 (by first | exact congrArg (fun z => some (Value.int (zi z))) (zif_t (by omega) (zif_t (by omega) rfl)) | exact congrArg (fun z => some (Value.int (zi z))) (zif_t (by omega) (zif_f (by omega) (zif_t (by omega) rfl))) | exact congrArg (fun z => some (Value.int (zi z))) (zif_t (by omega) (zif_f (by omega) (zif_f (by omega) (zif_t (by omega) rfl)))) | exact congrArg (fun z => some (Value.int (zi z))) (zif_t (by omega) (zif_f (by omega) (zif_f (by omega) (zif_f (by omega) rfl)))) | exact congrArg (fun z => some (Value.int (zi z))) (zif_f (by omega) rfl)) (by first | exact zif_t (by omega) (rfl) | exact zif_f (by omega) rfl)

set_option maxRecDepth 100000 in
set_option maxHeartbeats 4000000 in
theorem m_wrongSeeker {Γ : zC} {l : Launch} {d : Nat} {μ : zMem} {N : Int} (I : rInv N (μ 5 1)) {x : Int} (hx : -2147483648 ≤ x ∧ x ≤ 2147483647) : zRet Γ l (d + 3) qX9_wrongSeeker [.ref (za Γ 5 0), .int (zi x)] μ (some (.int (zi (rWS (μ 5 1) x)))) μ := by
  refine zRet.mk 1 [.ref (za Γ 5 0), .int (zi x), .null] RX9 rfl (by decide +kernel) (Nat.le_of_ble_eq_true rfl) rfl ?_
  intro p e s m below meth c C hr hlk
  have h0 := I.1
  have ha := rAt_rg (μ 5 1) x
  refine zV_aload_n (i := 0) (n := 1) C dX9_wrongSeeker_0 rfl rfl rfl ?_
  refine zV_iconst (n := 2) C dX9_wrongSeeker_1 rfl ?_
  refine zV_callV1u (n := 5) C zk8 jX9_isTaken lX9_88 (m_isTaken (d := d) I (by omega)) dX9_wrongSeeker_2 zs_ref rfl (Nat.le_of_ble_eq_true rfl) (zfit_of (by omega) (by decide)) ⟨Nat.le_refl _, Nat.le_refl _⟩ rfl ?_
  refine zV_if_eq (n := 8) C 28 dX9_wrongSeeker_5 (by decide) (by first | omega | exact zb_rg) rfl (fun h5 => ?_) (fun h5 => ?_)
  · skip
    simp only [zb_eq0, Decidable.not_not] at h5
    refine zV_iconst (n := 29) C dX9_wrongSeeker_28 rfl ?_
    refine zS_istore_n_3_2 (n := 30) C dX9_wrongSeeker_29 rfl rfl ?_
    refine zV_aload_n (i := 0) (n := 31) C dX9_wrongSeeker_30 rfl rfl rfl ?_
    refine zV_iload_n (i := 1) (n := 32) C dX9_wrongSeeker_31 rfl rfl rfl ?_
    refine zV_callV1u (n := 35) C zk8 jX9_isChild lX9_100 (m_isChild (d := d) (by omega) (by omega)) dX9_wrongSeeker_32 zs_ref rfl (Nat.le_of_ble_eq_true rfl) (zfit_of (by omega) (by decide)) ⟨Nat.le_refl _, Nat.le_refl _⟩ rfl ?_
    refine zV_if_ne (n := 38) C 43 dX9_wrongSeeker_35 (by decide) (by first | omega | exact zb_rg) rfl (fun h35 => ?_) (fun h35 => ?_)
    · skip
      simp only [zb_eq0, Decidable.not_not] at h35
      refine zV_aload_n (i := 0) (n := 44) C dX9_wrongSeeker_43 rfl rfl rfl ?_
      refine zV_iload_n (i := 1) (n := 45) C dX9_wrongSeeker_44 rfl rfl rfl ?_
      refine zV_callV1u (n := 48) C zk8 jX9_seatedAt lX9_91 (m_seatedAt (d := d) I (by omega)) dX9_wrongSeeker_45 zs_ref rfl (Nat.le_of_ble_eq_true rfl) (zfit_of (by omega) (by decide)) ⟨Nat.le_refl _, Nat.le_refl _⟩ rfl ?_
      refine zV_if_lt (n := 51) C 56 dX9_wrongSeeker_48 (by decide) (by first | omega | exact zb_rg) rfl (fun h48 => ?_) (fun h48 => ?_)
      · skip
        refine zV_iload_n (i := 2) (n := 57) C dX9_wrongSeeker_56 rfl rfl rfl ?_
        refine zV_if_eq (n := 60) C 65 dX9_wrongSeeker_57 (by decide) (by first | omega | exact zb_rg) rfl (fun h57 => ?_) (fun h57 => ?_)
        · skip
          refine zV_iconst (n := 66) C dX9_wrongSeeker_65 rfl ?_
          exact zV_ireturn C hr hlk dX9_wrongSeeker_66 (by exact congrArg (fun z => some (Value.int (zi z))) (by unfold rWS; (repeat' split) <;> omega)) (by rfl)
        · skip
          refine zV_ldc (n := 62) C dX9_wrongSeeker_60 kX9_163 rfl ?_
          refine zV_goto C 66 dX9_wrongSeeker_62 (by decide) ?_
          exact zV_ireturn C hr hlk dX9_wrongSeeker_66 (by exact congrArg (fun z => some (Value.int (zi z))) (by unfold rWS; (repeat' split) <;> omega)) (by rfl)
      · skip
        refine zV_ldc (n := 53) C dX9_wrongSeeker_51 kX9_128 rfl ?_
        refine zV_goto C 66 dX9_wrongSeeker_53 (by decide) ?_
        exact zV_ireturn C hr hlk dX9_wrongSeeker_66 (by exact congrArg (fun z => some (Value.int (zi z))) (by unfold rWS; (repeat' split) <;> omega)) (by rfl)
    · skip
      simp only [zb_eq0, Decidable.not_not] at h35
      refine zV_ldc (n := 40) C dX9_wrongSeeker_38 kX9_51 rfl ?_
      refine zV_goto C 66 dX9_wrongSeeker_40 (by decide) ?_
      exact zV_ireturn C hr hlk dX9_wrongSeeker_66 (by exact congrArg (fun z => some (Value.int (zi z))) (by unfold rWS; (repeat' split) <;> omega)) (by rfl)
  · skip
    simp only [zb_eq0, Decidable.not_not] at h5
    refine zV_aload_n (i := 0) (n := 9) C dX9_wrongSeeker_8 rfl rfl rfl ?_
    refine zV_iconst (n := 10) C dX9_wrongSeeker_9 rfl ?_
    refine zV_callV1u (n := 13) C zk8 jX9_isTaken lX9_88 (m_isTaken (d := d) I (by omega)) dX9_wrongSeeker_10 zs_ref rfl (Nat.le_of_ble_eq_true rfl) (zfit_of (by omega) (by decide)) ⟨Nat.le_refl _, Nat.le_refl _⟩ rfl ?_
    refine zV_if_eq (n := 16) C 28 dX9_wrongSeeker_13 (by decide) (by first | omega | exact zb_rg) rfl (fun h13 => ?_) (fun h13 => ?_)
    · skip
      simp only [zb_eq0, Decidable.not_not] at h13
      refine zV_iconst (n := 29) C dX9_wrongSeeker_28 rfl ?_
      refine zS_istore_n_3_2 (n := 30) C dX9_wrongSeeker_29 rfl rfl ?_
      refine zV_aload_n (i := 0) (n := 31) C dX9_wrongSeeker_30 rfl rfl rfl ?_
      refine zV_iload_n (i := 1) (n := 32) C dX9_wrongSeeker_31 rfl rfl rfl ?_
      refine zV_callV1u (n := 35) C zk8 jX9_isChild lX9_100 (m_isChild (d := d) (by omega) (by omega)) dX9_wrongSeeker_32 zs_ref rfl (Nat.le_of_ble_eq_true rfl) (zfit_of (by omega) (by decide)) ⟨Nat.le_refl _, Nat.le_refl _⟩ rfl ?_
      refine zV_if_ne (n := 38) C 43 dX9_wrongSeeker_35 (by decide) (by first | omega | exact zb_rg) rfl (fun h35 => ?_) (fun h35 => ?_)
      · skip
        simp only [zb_eq0, Decidable.not_not] at h35
        refine zV_aload_n (i := 0) (n := 44) C dX9_wrongSeeker_43 rfl rfl rfl ?_
        refine zV_iload_n (i := 1) (n := 45) C dX9_wrongSeeker_44 rfl rfl rfl ?_
        refine zV_callV1u (n := 48) C zk8 jX9_seatedAt lX9_91 (m_seatedAt (d := d) I (by omega)) dX9_wrongSeeker_45 zs_ref rfl (Nat.le_of_ble_eq_true rfl) (zfit_of (by omega) (by decide)) ⟨Nat.le_refl _, Nat.le_refl _⟩ rfl ?_
        refine zV_if_lt (n := 51) C 56 dX9_wrongSeeker_48 (by decide) (by first | omega | exact zb_rg) rfl (fun h48 => ?_) (fun h48 => ?_)
        · skip
          refine zV_iload_n (i := 2) (n := 57) C dX9_wrongSeeker_56 rfl rfl rfl ?_
          refine zV_if_eq (n := 60) C 65 dX9_wrongSeeker_57 (by decide) (by first | omega | exact zb_rg) rfl (fun h57 => ?_) (fun h57 => ?_)
          · skip
            refine zV_iconst (n := 66) C dX9_wrongSeeker_65 rfl ?_
            exact zV_ireturn C hr hlk dX9_wrongSeeker_66 (by exact congrArg (fun z => some (Value.int (zi z))) (by unfold rWS; (repeat' split) <;> omega)) (by rfl)
          · skip
            refine zV_ldc (n := 62) C dX9_wrongSeeker_60 kX9_163 rfl ?_
            refine zV_goto C 66 dX9_wrongSeeker_62 (by decide) ?_
            exact zV_ireturn C hr hlk dX9_wrongSeeker_66 (by exact congrArg (fun z => some (Value.int (zi z))) (by unfold rWS; (repeat' split) <;> omega)) (by rfl)
        · skip
          refine zV_ldc (n := 53) C dX9_wrongSeeker_51 kX9_128 rfl ?_
          refine zV_goto C 66 dX9_wrongSeeker_53 (by decide) ?_
          exact zV_ireturn C hr hlk dX9_wrongSeeker_66 (by exact congrArg (fun z => some (Value.int (zi z))) (by unfold rWS; (repeat' split) <;> omega)) (by rfl)
      · skip
        simp only [zb_eq0, Decidable.not_not] at h35
        refine zV_ldc (n := 40) C dX9_wrongSeeker_38 kX9_51 rfl ?_
        refine zV_goto C 66 dX9_wrongSeeker_40 (by decide) ?_
        exact zV_ireturn C hr hlk dX9_wrongSeeker_66 (by exact congrArg (fun z => some (Value.int (zi z))) (by unfold rWS; (repeat' split) <;> omega)) (by rfl)
    · skip
      simp only [zb_eq0, Decidable.not_not] at h13
      refine zV_aload_n (i := 0) (n := 17) C dX9_wrongSeeker_16 rfl rfl rfl ?_
      refine zV_iconst (n := 18) C dX9_wrongSeeker_17 rfl ?_
      refine zV_callV1u (n := 21) C zk8 jX9_isTaken lX9_88 (m_isTaken (d := d) I (by omega)) dX9_wrongSeeker_18 zs_ref rfl (Nat.le_of_ble_eq_true rfl) (zfit_of (by omega) (by decide)) ⟨Nat.le_refl _, Nat.le_refl _⟩ rfl ?_
      refine zV_if_eq (n := 24) C 28 dX9_wrongSeeker_21 (by decide) (by first | omega | exact zb_rg) rfl (fun h21 => ?_) (fun h21 => ?_)
      · skip
        simp only [zb_eq0, Decidable.not_not] at h21
        refine zV_iconst (n := 29) C dX9_wrongSeeker_28 rfl ?_
        refine zS_istore_n_3_2 (n := 30) C dX9_wrongSeeker_29 rfl rfl ?_
        refine zV_aload_n (i := 0) (n := 31) C dX9_wrongSeeker_30 rfl rfl rfl ?_
        refine zV_iload_n (i := 1) (n := 32) C dX9_wrongSeeker_31 rfl rfl rfl ?_
        refine zV_callV1u (n := 35) C zk8 jX9_isChild lX9_100 (m_isChild (d := d) (by omega) (by omega)) dX9_wrongSeeker_32 zs_ref rfl (Nat.le_of_ble_eq_true rfl) (zfit_of (by omega) (by decide)) ⟨Nat.le_refl _, Nat.le_refl _⟩ rfl ?_
        refine zV_if_ne (n := 38) C 43 dX9_wrongSeeker_35 (by decide) (by first | omega | exact zb_rg) rfl (fun h35 => ?_) (fun h35 => ?_)
        · skip
          simp only [zb_eq0, Decidable.not_not] at h35
          refine zV_aload_n (i := 0) (n := 44) C dX9_wrongSeeker_43 rfl rfl rfl ?_
          refine zV_iload_n (i := 1) (n := 45) C dX9_wrongSeeker_44 rfl rfl rfl ?_
          refine zV_callV1u (n := 48) C zk8 jX9_seatedAt lX9_91 (m_seatedAt (d := d) I (by omega)) dX9_wrongSeeker_45 zs_ref rfl (Nat.le_of_ble_eq_true rfl) (zfit_of (by omega) (by decide)) ⟨Nat.le_refl _, Nat.le_refl _⟩ rfl ?_
          refine zV_if_lt (n := 51) C 56 dX9_wrongSeeker_48 (by decide) (by first | omega | exact zb_rg) rfl (fun h48 => ?_) (fun h48 => ?_)
          · skip
            refine zV_iload_n (i := 2) (n := 57) C dX9_wrongSeeker_56 rfl rfl rfl ?_
            refine zV_if_eq (n := 60) C 65 dX9_wrongSeeker_57 (by decide) (by first | omega | exact zb_rg) rfl (fun h57 => ?_) (fun h57 => ?_)
            · skip
              refine zV_iconst (n := 66) C dX9_wrongSeeker_65 rfl ?_
              exact zV_ireturn C hr hlk dX9_wrongSeeker_66 (by exact congrArg (fun z => some (Value.int (zi z))) (by unfold rWS; (repeat' split) <;> omega)) (by rfl)
            · skip
              refine zV_ldc (n := 62) C dX9_wrongSeeker_60 kX9_163 rfl ?_
              refine zV_goto C 66 dX9_wrongSeeker_62 (by decide) ?_
              exact zV_ireturn C hr hlk dX9_wrongSeeker_66 (by exact congrArg (fun z => some (Value.int (zi z))) (by unfold rWS; (repeat' split) <;> omega)) (by rfl)
          · skip
            refine zV_ldc (n := 53) C dX9_wrongSeeker_51 kX9_128 rfl ?_
            refine zV_goto C 66 dX9_wrongSeeker_53 (by decide) ?_
            exact zV_ireturn C hr hlk dX9_wrongSeeker_66 (by exact congrArg (fun z => some (Value.int (zi z))) (by unfold rWS; (repeat' split) <;> omega)) (by rfl)
        · skip
          simp only [zb_eq0, Decidable.not_not] at h35
          refine zV_ldc (n := 40) C dX9_wrongSeeker_38 kX9_51 rfl ?_
          refine zV_goto C 66 dX9_wrongSeeker_40 (by decide) ?_
          exact zV_ireturn C hr hlk dX9_wrongSeeker_66 (by exact congrArg (fun z => some (Value.int (zi z))) (by unfold rWS; (repeat' split) <;> omega)) (by rfl)
      · skip
        simp only [zb_eq0, Decidable.not_not] at h21
        refine zV_iconst (n := 25) C dX9_wrongSeeker_24 rfl ?_
        refine zV_goto C 29 dX9_wrongSeeker_25 (by decide) ?_
        refine zS_istore_n_3_2 (n := 30) C dX9_wrongSeeker_29 rfl rfl ?_
        refine zV_aload_n (i := 0) (n := 31) C dX9_wrongSeeker_30 rfl rfl rfl ?_
        refine zV_iload_n (i := 1) (n := 32) C dX9_wrongSeeker_31 rfl rfl rfl ?_
        refine zV_callV1u (n := 35) C zk8 jX9_isChild lX9_100 (m_isChild (d := d) (by omega) (by omega)) dX9_wrongSeeker_32 zs_ref rfl (Nat.le_of_ble_eq_true rfl) (zfit_of (by omega) (by decide)) ⟨Nat.le_refl _, Nat.le_refl _⟩ rfl ?_
        refine zV_if_ne (n := 38) C 43 dX9_wrongSeeker_35 (by decide) (by first | omega | exact zb_rg) rfl (fun h35 => ?_) (fun h35 => ?_)
        · skip
          simp only [zb_eq0, Decidable.not_not] at h35
          refine zV_aload_n (i := 0) (n := 44) C dX9_wrongSeeker_43 rfl rfl rfl ?_
          refine zV_iload_n (i := 1) (n := 45) C dX9_wrongSeeker_44 rfl rfl rfl ?_
          refine zV_callV1u (n := 48) C zk8 jX9_seatedAt lX9_91 (m_seatedAt (d := d) I (by omega)) dX9_wrongSeeker_45 zs_ref rfl (Nat.le_of_ble_eq_true rfl) (zfit_of (by omega) (by decide)) ⟨Nat.le_refl _, Nat.le_refl _⟩ rfl ?_
          refine zV_if_lt (n := 51) C 56 dX9_wrongSeeker_48 (by decide) (by first | omega | exact zb_rg) rfl (fun h48 => ?_) (fun h48 => ?_)
          · skip
            refine zV_iload_n (i := 2) (n := 57) C dX9_wrongSeeker_56 rfl rfl rfl ?_
            refine zV_if_eq (n := 60) C 65 dX9_wrongSeeker_57 (by decide) (by first | omega | exact zb_rg) rfl (fun h57 => ?_) (fun h57 => ?_)
            · skip
              refine zV_iconst (n := 66) C dX9_wrongSeeker_65 rfl ?_
              exact zV_ireturn C hr hlk dX9_wrongSeeker_66 (by exact congrArg (fun z => some (Value.int (zi z))) (by unfold rWS; (repeat' split) <;> omega)) (by rfl)
            · skip
              refine zV_ldc (n := 62) C dX9_wrongSeeker_60 kX9_163 rfl ?_
              refine zV_goto C 66 dX9_wrongSeeker_62 (by decide) ?_
              exact zV_ireturn C hr hlk dX9_wrongSeeker_66 (by exact congrArg (fun z => some (Value.int (zi z))) (by unfold rWS; (repeat' split) <;> omega)) (by rfl)
          · skip
            refine zV_ldc (n := 53) C dX9_wrongSeeker_51 kX9_128 rfl ?_
            refine zV_goto C 66 dX9_wrongSeeker_53 (by decide) ?_
            exact zV_ireturn C hr hlk dX9_wrongSeeker_66 (by exact congrArg (fun z => some (Value.int (zi z))) (by unfold rWS; (repeat' split) <;> omega)) (by rfl)
        · skip
          simp only [zb_eq0, Decidable.not_not] at h35
          refine zV_ldc (n := 40) C dX9_wrongSeeker_38 kX9_51 rfl ?_
          refine zV_goto C 66 dX9_wrongSeeker_40 (by decide) ?_
          exact zV_ireturn C hr hlk dX9_wrongSeeker_66 (by exact congrArg (fun z => some (Value.int (zi z))) (by unfold rWS; (repeat' split) <;> omega)) (by rfl)

set_option maxRecDepth 100000 in
set_option maxHeartbeats 4000000 in
theorem m_wrongThree {Γ : zC} {l : Launch} {d : Nat} {μ : zMem} {N : Int} (I : rInv N (μ 5 1)) {x : Int} (hx : -2147483648 ≤ x ∧ x ≤ 2147483647) : zRet Γ l (d + 4) qX9_wrongThree [.ref (za Γ 5 0), .int (zi x)] μ (some (.int (zi (rW3 (μ 5 1) x)))) μ := by
  refine zRet.mk 0 [.ref (za Γ 5 0), .int (zi x)] RX9 rfl (by decide +kernel) (Nat.le_of_ble_eq_true rfl) rfl ?_
  intro p e s m below meth c C hr hlk
  have h0 := I.1
  have hz := rSit_rg I
  have hp := rP2_rg ((μ 5 1) 0)
  have hq := rPop_rg (x := x)
  refine zV_iload_n (i := 1) (n := 1) C dX9_wrongThree_0 rfl rfl rfl ?_
  refine zV_i2l (n := 2) C dX9_wrongThree_1 (by first | omega | exact zb_rg) rfl ?_
  refine zV_lconst (v := 0) (n := 3) C dX9_wrongThree_2 rfl rfl ?_
  refine zV_iconst (n := 4) C dX9_wrongThree_3 rfl ?_
  refine zV_aload_n (i := 0) (n := 5) C dX9_wrongThree_4 rfl rfl rfl ?_
  refine zV_getP (f := 0) (n := 8) C zk8 fX9_7 dX9_wrongThree_5 zs_ref rfl (by decide) rfl ?_
  refine zV_iconst (n := 9) C dX9_wrongThree_8 rfl ?_
  refine zV_iald (n := 10) C dX9_wrongThree_9 zs_s (by first | omega | exact zb_rg) (by decide) rfl ?_
  refine zV_ishl (n := 11) C dX9_wrongThree_10 (rP2_sh (by omega)) rfl ?_
  refine zV_iconst (n := 12) C dX9_wrongThree_11 rfl ?_
  refine zV_isub (n := 13) C dX9_wrongThree_12 rfl ?_
  refine zV_i2l (n := 14) C dX9_wrongThree_13 (by first | omega | exact zb_rg) rfl ?_
  refine zV_callS3u (n := 17) C jX9_in lX9_54 (m_in (d := d) (by omega) (by omega) (by omega)) dX9_wrongThree_14 (Nat.le_of_ble_eq_true rfl) (zfit_of (by omega) (by decide)) ⟨Nat.le_refl _, Nat.le_refl _⟩ rfl ?_
  refine zV_if_ne (n := 20) C 25 dX9_wrongThree_17 (by decide) (by first | omega | exact zb_rg) rfl (fun h17 => ?_) (fun h17 => ?_)
  · skip
    simp only [zb_eq0, Decidable.not_not] at h17
    refine zV_iload_n (i := 1) (n := 26) C dX9_wrongThree_25 rfl rfl rfl ?_
    refine zV_callS1u (n := 29) C jX9_ones lX9_167 (m_ones (d := d) (by omega)) dX9_wrongThree_26 (Nat.le_of_ble_eq_true rfl) (zfit_of (by omega) (by decide)) ⟨Nat.le_refl _, Nat.le_refl _⟩ rfl ?_
    refine zV_iconst (n := 30) C dX9_wrongThree_29 rfl ?_
    refine zV_icmp_eq (n := 33) C 38 dX9_wrongThree_30 (by decide) (by first | omega | exact zb_rg) (by first | omega | exact zb_rg) rfl (fun h30 => ?_) (fun h30 => ?_)
    · skip
      refine zV_aload_n (i := 0) (n := 39) C dX9_wrongThree_38 rfl rfl rfl ?_
      refine zV_callV0u (n := 42) C zk8 jX9_seated lX9_147 (m_seated (d := d) I) dX9_wrongThree_39 zs_ref rfl (Nat.le_of_ble_eq_true rfl) (zfit_of (by omega) (by decide)) ⟨Nat.le_refl _, Nat.le_refl _⟩ rfl ?_
      refine zV_if_eq (n := 45) C 50 dX9_wrongThree_42 (by decide) (by first | omega | exact zb_rg) rfl (fun h42 => ?_) (fun h42 => ?_)
      · skip
        refine zV_iconst (n := 51) C dX9_wrongThree_50 rfl ?_
        exact zV_ireturn C hr hlk dX9_wrongThree_51 (by exact congrArg (fun z => some (Value.int (zi z))) (by unfold rW3; (repeat' split) <;> omega)) (by rfl)
      · skip
        refine zV_ldc (n := 47) C dX9_wrongThree_45 kX9_128 rfl ?_
        refine zV_goto C 51 dX9_wrongThree_47 (by decide) ?_
        exact zV_ireturn C hr hlk dX9_wrongThree_51 (by exact congrArg (fun z => some (Value.int (zi z))) (by unfold rW3; (repeat' split) <;> omega)) (by rfl)
    · skip
      refine zV_ldc (n := 35) C dX9_wrongThree_33 kX9_170 rfl ?_
      refine zV_goto C 51 dX9_wrongThree_35 (by decide) ?_
      exact zV_ireturn C hr hlk dX9_wrongThree_51 (by exact congrArg (fun z => some (Value.int (zi z))) (by unfold rW3; (repeat' split) <;> omega)) (by rfl)
  · skip
    simp only [zb_eq0, Decidable.not_not] at h17
    refine zV_ldc (n := 22) C dX9_wrongThree_20 kX9_51 rfl ?_
    refine zV_goto C 51 dX9_wrongThree_22 (by decide) ?_
    exact zV_ireturn C hr hlk dX9_wrongThree_51 (by exact congrArg (fun z => some (Value.int (zi z))) (by unfold rW3; (repeat' split) <;> omega)) (by rfl)

set_option maxRecDepth 100000 in
set_option maxHeartbeats 4000000 in
theorem m_wrongStay {Γ : zC} {l : Launch} {d : Nat} {μ : zMem} {N : Int} (I : rInv N (μ 5 1)) {x n : Int} (hx : -2147483648 ≤ x ∧ x ≤ 2147483647) (hn : -2147483648 ≤ n ∧ n ≤ 2147483647) : zRet Γ l (d + 3) qX9_wrongStay [.ref (za Γ 5 0), .int (zi x), .int (zi n)] μ (some (.int (zi (rWst (μ 5 1) x n)))) μ := by
  refine zRet.mk 0 [.ref (za Γ 5 0), .int (zi x), .int (zi n)] RX9 rfl (by decide +kernel) (Nat.le_of_ble_eq_true rfl) rfl ?_
  intro p e s m below meth c C hr hlk
  have h0 := I.1
  have ha := rAt_rg (μ 5 1) x
  refine zV_aload_n (i := 0) (n := 1) C dX9_wrongStay_0 rfl rfl rfl ?_
  refine zV_iload_n (i := 1) (n := 2) C dX9_wrongStay_1 rfl rfl rfl ?_
  refine zV_callV1u (n := 5) C zk8 jX9_isChild lX9_100 (m_isChild (d := d) (by omega) (by omega)) dX9_wrongStay_2 zs_ref rfl (Nat.le_of_ble_eq_true rfl) (zfit_of (by omega) (by decide)) ⟨Nat.le_refl _, Nat.le_refl _⟩ rfl ?_
  refine zV_if_eq (n := 8) C 20 dX9_wrongStay_5 (by decide) (by first | omega | exact zb_rg) rfl (fun h5 => ?_) (fun h5 => ?_)
  · skip
    simp only [zb_eq0, Decidable.not_not] at h5
    refine zV_ldc (n := 22) C dX9_wrongStay_20 kX9_51 rfl ?_
    refine zV_goto C 39 dX9_wrongStay_22 (by decide) ?_
    exact zV_ireturn C hr hlk dX9_wrongStay_39 (by exact congrArg (fun z => some (Value.int (zi z))) (by unfold rWst; (repeat' split) <;> omega)) (by rfl)
  · skip
    simp only [zb_eq0, Decidable.not_not] at h5
    refine zV_iload_n (i := 2) (n := 9) C dX9_wrongStay_8 rfl rfl rfl ?_
    refine zV_i2l (n := 10) C dX9_wrongStay_9 (by first | omega | exact zb_rg) rfl ?_
    refine zV_lconst (v := 1) (n := 11) C dX9_wrongStay_10 rfl rfl ?_
    refine zV_ldc2 (n := 14) C dX9_wrongStay_11 kX9_142 rfl ?_
    refine zV_callS3u (n := 17) C jX9_in lX9_54 (m_in (d := d) (by omega) (by omega) (by omega)) dX9_wrongStay_14 (Nat.le_of_ble_eq_true rfl) (zfit_of (by omega) (by decide)) ⟨Nat.le_refl _, Nat.le_refl _⟩ rfl ?_
    refine zV_if_ne (n := 20) C 25 dX9_wrongStay_17 (by decide) (by first | omega | exact zb_rg) rfl (fun h17 => ?_) (fun h17 => ?_)
    · skip
      simp only [zb_eq0, Decidable.not_not] at h17
      refine zV_aload_n (i := 0) (n := 26) C dX9_wrongStay_25 rfl rfl rfl ?_
      refine zV_iload_n (i := 1) (n := 27) C dX9_wrongStay_26 rfl rfl rfl ?_
      refine zV_callV1u (n := 30) C zk8 jX9_seatedAt lX9_91 (m_seatedAt (d := d) I (by omega)) dX9_wrongStay_27 zs_ref rfl (Nat.le_of_ble_eq_true rfl) (zfit_of (by omega) (by decide)) ⟨Nat.le_refl _, Nat.le_refl _⟩ rfl ?_
      refine zV_if_ge (n := 33) C 38 dX9_wrongStay_30 (by decide) (by first | omega | exact zb_rg) rfl (fun h30 => ?_) (fun h30 => ?_)
      · skip
        refine zV_iconst (n := 39) C dX9_wrongStay_38 rfl ?_
        exact zV_ireturn C hr hlk dX9_wrongStay_39 (by exact congrArg (fun z => some (Value.int (zi z))) (by unfold rWst; (repeat' split) <;> omega)) (by rfl)
      · skip
        refine zV_ldc (n := 35) C dX9_wrongStay_33 kX9_128 rfl ?_
        refine zV_goto C 39 dX9_wrongStay_35 (by decide) ?_
        exact zV_ireturn C hr hlk dX9_wrongStay_39 (by exact congrArg (fun z => some (Value.int (zi z))) (by unfold rWst; (repeat' split) <;> omega)) (by rfl)
    · skip
      simp only [zb_eq0, Decidable.not_not] at h17
      refine zV_ldc (n := 22) C dX9_wrongStay_20 kX9_51 rfl ?_
      refine zV_goto C 39 dX9_wrongStay_22 (by decide) ?_
      exact zV_ireturn C hr hlk dX9_wrongStay_39 (by exact congrArg (fun z => some (Value.int (zi z))) (by unfold rWst; (repeat' split) <;> omega)) (by rfl)

set_option maxRecDepth 100000 in
set_option maxHeartbeats 4000000 in
theorem m_isInStill {Γ : zC} {l : Launch} {d : Nat} {μ : zMem} {N : Int} (I : rInv N (μ 5 1)) {x : Int} (hx : 0 ≤ x ∧ x < 6) {n : Int} (hn : 0 ≤ n ∧ n ≤ 60) (hN : N ≤ 10000) : zRet Γ l (d + 7) qX9_isInStill [.ref (za Γ 5 0), .int (zi x), .int (zi n)] μ (some (.int (zi (zb (0 ≤ rAt (rGo n.toNat (μ 5 1)) x))))) (zset μ 5 4 (μ 5 1)) := by
  refine zRet.mk 0 [.ref (za Γ 5 0), .int (zi x), .int (zi n)] RX9 rfl (by decide +kernel) (Nat.le_of_ble_eq_true rfl) rfl ?_
  intro p e s m below meth c C hr hlk
  have I2 := I
  refine zV_aload_n (i := 0) (n := 1) C dX9_isInStill_0 rfl rfl rfl ?_
  refine zV_callV0v (n := 4) C zk8 jX9_laysAside lX9_154 (m_laysAside (d := d)) dX9_isInStill_1 zs_ref rfl (Nat.le_of_ble_eq_true rfl) (zfit_of (by omega) (by decide)) ⟨Nat.le_refl _, Nat.le_refl _⟩ rfl ?_
  have I : rInv N (zset μ 5 4 (μ 5 1) 5 1) := by rw [zset_ne (by decide)]; exact I
  refine zV_aload_n (i := 0) (n := 5) C dX9_isInStill_4 rfl rfl rfl ?_
  refine zV_iload_n (i := 2) (n := 6) C dX9_isInStill_5 rfl rfl rfl ?_
  refine zV_callV1v (n := 9) C zk8 jX9_minutesGo lX9_144 (m_minutesGoI (d := d) I (by omega) (by omega)) dX9_isInStill_6 zs_ref rfl (Nat.le_of_ble_eq_true rfl) (zfit_of (by omega) (by decide)) ⟨Nat.le_refl _, Nat.le_refl _⟩ rfl ?_
  rw [show zset μ 5 4 (μ 5 1) 5 1 = μ 5 1 from zset_ne (by decide)]
  have I : rInv (N + n.toNat) (zset (zset μ 5 4 (μ 5 1)) 5 1 (rGo n.toNat (μ 5 1)) 5 1) := by rw [zset_at]; exact rGo_inv (S := μ 5 1) I2
  have ha := rAt_rg (rGo n.toNat (μ 5 1)) x
  refine zV_aload_n (i := 0) (n := 10) C dX9_isInStill_9 rfl rfl rfl ?_
  refine zV_aload_n (i := 0) (n := 11) C dX9_isInStill_10 rfl rfl rfl ?_
  refine zV_iload_n (i := 1) (n := 12) C dX9_isInStill_11 rfl rfl rfl ?_
  refine zV_callV1u (n := 15) C zk8 jX9_seatedAt lX9_91 (m_seatedAt (d := d) I (by omega)) dX9_isInStill_12 zs_ref rfl (Nat.le_of_ble_eq_true rfl) (zfit_of (by omega) (by decide)) ⟨Nat.le_refl _, Nat.le_refl _⟩ rfl ?_
  simp only [zset_at]
  refine zV_if_lt (n := 18) C 22 dX9_isInStill_15 (by decide) (by first | omega | exact zb_rg) rfl (fun h15 => ?_) (fun h15 => ?_)
  · skip
    refine zV_iconst (n := 23) C dX9_isInStill_22 rfl ?_
    refine zV_callV1u (n := 26) C zk8 jX9_takesBack lX9_157 (m_takesBack (d := d)) dX9_isInStill_23 zs_ref rfl (Nat.le_of_ble_eq_true rfl) (zfit_of (by omega) (by decide)) ⟨Nat.le_refl _, Nat.le_refl _⟩ rfl ?_
    rw [zset_set, zset_ne (by decide), zset_at, zset_old (by decide)]
    refine zV_iconst (n := 27) C dX9_isInStill_26 rfl ?_
    refine zV_icmp_ne (n := 30) C 34 dX9_isInStill_27 (by decide) (by first | omega | exact zb_rg) (by first | omega | exact zb_rg) rfl (fun h27 => ?_) (fun h27 => ?_)
    · skip
      refine zV_iconst (n := 35) C dX9_isInStill_34 rfl ?_
      exact zV_zreturn C hr hlk dX9_isInStill_35 (by first | rfl | exact (zi_z zb_01).1 | exact (zi_z (by omega)).1) (by first | exact (congrArg (fun z => some (Value.int (zi z))) (zb_t (by omega)).symm) | exact (congrArg (fun z => some (Value.int (zi z))) (zb_f (by omega)).symm)) (by rfl)
    · skip
      refine zV_iconst (n := 31) C dX9_isInStill_30 rfl ?_
      refine zV_goto C 35 dX9_isInStill_31 (by decide) ?_
      exact zV_zreturn C hr hlk dX9_isInStill_35 (by first | rfl | exact (zi_z zb_01).1 | exact (zi_z (by omega)).1) (by first | exact (congrArg (fun z => some (Value.int (zi z))) (zb_t (by omega)).symm) | exact (congrArg (fun z => some (Value.int (zi z))) (zb_f (by omega)).symm)) (by rfl)
  · skip
    refine zV_iconst (n := 19) C dX9_isInStill_18 rfl ?_
    refine zV_goto C 23 dX9_isInStill_19 (by decide) ?_
    refine zV_callV1u (n := 26) C zk8 jX9_takesBack lX9_157 (m_takesBack (d := d)) dX9_isInStill_23 zs_ref rfl (Nat.le_of_ble_eq_true rfl) (zfit_of (by omega) (by decide)) ⟨Nat.le_refl _, Nat.le_refl _⟩ rfl ?_
    rw [zset_set, zset_ne (by decide), zset_at, zset_old (by decide)]
    refine zV_iconst (n := 27) C dX9_isInStill_26 rfl ?_
    refine zV_icmp_ne (n := 30) C 34 dX9_isInStill_27 (by decide) (by first | omega | exact zb_rg) (by first | omega | exact zb_rg) rfl (fun h27 => ?_) (fun h27 => ?_)
    · skip
      refine zV_iconst (n := 35) C dX9_isInStill_34 rfl ?_
      exact zV_zreturn C hr hlk dX9_isInStill_35 (by first | rfl | exact (zi_z zb_01).1 | exact (zi_z (by omega)).1) (by first | exact (congrArg (fun z => some (Value.int (zi z))) (zb_t (by omega)).symm) | exact (congrArg (fun z => some (Value.int (zi z))) (zb_f (by omega)).symm)) (by rfl)
    · skip
      refine zV_iconst (n := 31) C dX9_isInStill_30 rfl ?_
      refine zV_goto C 35 dX9_isInStill_31 (by decide) ?_
      exact zV_zreturn C hr hlk dX9_isInStill_35 (by first | rfl | exact (zi_z zb_01).1 | exact (zi_z (by omega)).1) (by first | exact (congrArg (fun z => some (Value.int (zi z))) (zb_t (by omega)).symm) | exact (congrArg (fun z => some (Value.int (zi z))) (zb_f (by omega)).symm)) (by rfl)

