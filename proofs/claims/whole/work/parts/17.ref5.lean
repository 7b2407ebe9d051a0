/-! the reference: its calls, those without loops of their own (laid by wip/whole/gen/ref5.py) -/
set_option maxRecDepth 100000 in
set_option maxHeartbeats 4000000 in
theorem m_seat {Γ : zC} {l : Launch} {d : Nat} {μ : zMem} {N : Int} (I : rInv N (μ 5 1)) (hN : N ≤ 20000) {x : Int} (hx : -2147483648 ≤ x ∧ x ≤ 2147483647) {w : Int} (hw : -2147483648 ≤ w ∧ w ≤ 2147483647) {v : Int} (hv : -2147483648 ≤ v ∧ v ≤ 2147483647) : zRet Γ l (d + 2) qX9_seat [.ref (za Γ 5 0), .int (zi x), .int (zi w), .int (zi v)] μ (some (.int (zi (if ((0 ≤ x ∧ x ≤ 2) ∧ 0 ≤ v ∧ ((w = 0 ∧ v ≤ 5) ∨ (w = 1 ∧ v ≤ 9) ∨ (w = 2 ∧ v ≤ 1))) then itS (μ 5 1) x w else -1000000001)))) (if ((0 ≤ x ∧ x ≤ 2) ∧ 0 ≤ v ∧ ((w = 0 ∧ v ≤ 5) ∨ (w = 1 ∧ v ≤ 9) ∨ (w = 2 ∧ v ≤ 1))) then zset μ 5 1 (zfu (μ 5 1) (4 + 5 * x + w) v) else zset μ 5 5 (rFind (μ 5 5) (-1000000001))) := by
  refine zRet.mk 1 [.ref (za Γ 5 0), .int (zi x), .int (zi w), .int (zi v), .null] RX9 rfl (by decide +kernel) (Nat.le_of_ble_eq_true rfl) rfl ?_
  intro p e s m below meth c C hr hlk
  have h0 := I.1
  have h1 := I.2.1
  have h2 := I.2.2.1
  have h3 := I.2.2.2.1
  refine zV_iload_n (i := 2) (n := 1) C dX9_seat_0 rfl rfl rfl ?_
  refine zV_i2l (n := 2) C dX9_seat_1 (by first | omega | exact zb_rg) rfl ?_
  refine zV_lconst (v := 0) (n := 3) C dX9_seat_2 rfl rfl ?_
  refine zV_ldc2 (n := 6) C dX9_seat_3 kX9_52 rfl ?_
  refine zV_callS3u (n := 9) C jX9_in lX9_54 (m_in (d := d) (by omega) (by omega) (by omega)) dX9_seat_6 (Nat.le_of_ble_eq_true rfl) (zfit_of (by omega) (by decide)) ⟨Nat.le_refl _, Nat.le_refl _⟩ rfl ?_
  refine zV_if_eq (n := 12) C 47 dX9_seat_9 (by decide) (by first | omega | exact zb_rg) rfl (fun h9 => ?_) (fun h9 => ?_)
  · skip
    simp only [zb_eq0, Decidable.not_not] at h9
    refine zV_iconst (n := 48) C dX9_seat_47 rfl ?_
    refine zS_istore_5_4 (n := 50) C dX9_seat_48 rfl rfl ?_
    refine zV_iload_n (i := 1) (n := 51) C dX9_seat_50 rfl rfl rfl ?_
    refine zV_callS1u (n := 54) C jX9_isSeat lX9_68 (m_isSeat (d := d) (by omega)) dX9_seat_51 (Nat.le_of_ble_eq_true rfl) (zfit_of (by omega) (by decide)) ⟨Nat.le_refl _, Nat.le_refl _⟩ rfl ?_
    refine zV_if_eq (n := 57) C 75 dX9_seat_54 (by decide) (by first | omega | exact zb_rg) rfl (fun h54 => ?_) (fun h54 => ?_)
    · skip
      simp only [zb_eq0, Decidable.not_not] at h54
      refine zV_aload_n (i := 0) (n := 76) C dX9_seat_75 rfl rfl rfl ?_
      refine zV_ldc (n := 78) C dX9_seat_76 kX9_51 rfl ?_
      refine zV_callV1u (n := 81) C zk8 jX9_finds lX9_75 (m_finds (d := d) (by omega)) dX9_seat_78 zs_ref rfl (Nat.le_of_ble_eq_true rfl) (zfit_of (by omega) (by decide)) ⟨Nat.le_refl _, Nat.le_refl _⟩ rfl ?_
      exact zV_ireturn C hr hlk dX9_seat_81 (by first | exact congrArg (fun z => some (Value.int (zi z))) (zif_t (by omega) (rfl)) | exact congrArg (fun z => some (Value.int (zi z))) (zif_f (by omega) rfl)) (by first | exact zif_t (by omega) (rfl) | exact zif_f (by omega) rfl)
    · skip
      simp only [zb_eq0, Decidable.not_not] at h54
      refine zV_iload (n := 59) C dX9_seat_57 rfl rfl ?_
      refine zV_if_eq (n := 62) C 75 dX9_seat_59 (by decide) (by first | omega | exact zb_rg) rfl (fun h59 => ?_) (fun h59 => ?_)
      · skip
        refine zV_aload_n (i := 0) (n := 76) C dX9_seat_75 rfl rfl rfl ?_
        refine zV_ldc (n := 78) C dX9_seat_76 kX9_51 rfl ?_
        refine zV_callV1u (n := 81) C zk8 jX9_finds lX9_75 (m_finds (d := d) (by omega)) dX9_seat_78 zs_ref rfl (Nat.le_of_ble_eq_true rfl) (zfit_of (by omega) (by decide)) ⟨Nat.le_refl _, Nat.le_refl _⟩ rfl ?_
        exact zV_ireturn C hr hlk dX9_seat_81 (by first | exact congrArg (fun z => some (Value.int (zi z))) (zif_t (by omega) (rfl)) | exact congrArg (fun z => some (Value.int (zi z))) (zif_f (by omega) rfl)) (by first | exact zif_t (by omega) (rfl) | exact zif_f (by omega) rfl)
      · skip
        refine zV_aload_n (i := 0) (n := 63) C dX9_seat_62 rfl rfl rfl ?_
        refine zV_iload_n (i := 1) (n := 64) C dX9_seat_63 rfl rfl rfl ?_
        refine zV_iload_n (i := 2) (n := 65) C dX9_seat_64 rfl rfl rfl ?_
        refine zV_callS2u (n := 68) C jX9_spotOf lX9_47 (m_spotOf (d := d) ) dX9_seat_65 (Nat.le_of_ble_eq_true rfl) (zfit_of (by omega) (by decide)) ⟨Nat.le_refl _, Nat.le_refl _⟩ rfl ?_
        refine zV_iload_n (i := 3) (n := 69) C dX9_seat_68 rfl rfl rfl ?_
        refine zV_callV2u (n := 72) C zk8 jX9_becomes lX9_72 (m_becomes (d := d) (by omega)) dX9_seat_69 zs_ref rfl (Nat.le_of_ble_eq_true rfl) (zfit_of (by omega) (by decide)) ⟨Nat.le_refl _, Nat.le_refl _⟩ rfl ?_
        refine zV_goto C 81 dX9_seat_72 (by decide) ?_
        exact zV_ireturn C hr hlk dX9_seat_81 (by first | exact congrArg (fun z => some (Value.int (zi z))) (zif_t (by omega) (rfl)) | exact congrArg (fun z => some (Value.int (zi z))) (zif_f (by omega) rfl)) (by first | exact zif_t (by omega) (rfl) | exact zif_f (by omega) rfl)
  · skip
    simp only [zb_eq0, Decidable.not_not] at h9
    refine zV_iload_n (i := 3) (n := 13) C dX9_seat_12 rfl rfl rfl ?_
    refine zV_i2l (n := 14) C dX9_seat_13 (by first | omega | exact zb_rg) rfl ?_
    refine zV_lconst (v := 0) (n := 15) C dX9_seat_14 rfl rfl ?_
    refine zV_iload_n (i := 2) (n := 16) C dX9_seat_15 rfl rfl rfl ?_
    refine zV_if_ne (n := 19) C 25 dX9_seat_16 (by decide) (by first | omega | exact zb_rg) rfl (fun h16 => ?_) (fun h16 => ?_)
    · skip
      refine zV_iload_n (i := 2) (n := 26) C dX9_seat_25 rfl rfl rfl ?_
      refine zV_iconst (n := 27) C dX9_seat_26 rfl ?_
      refine zV_icmp_ne (n := 30) C 36 dX9_seat_27 (by decide) (by first | omega | exact zb_rg) (by first | omega | exact zb_rg) rfl (fun h27 => ?_) (fun h27 => ?_)
      · skip
        refine zV_lconst (v := 1) (n := 37) C dX9_seat_36 rfl rfl ?_
        refine zV_callS3u (n := 40) C jX9_in lX9_54 (m_in (d := d) (by omega) (by omega) (by omega)) dX9_seat_37 (Nat.le_of_ble_eq_true rfl) (zfit_of (by omega) (by decide)) ⟨Nat.le_refl _, Nat.le_refl _⟩ rfl ?_
        refine zV_if_eq (n := 43) C 47 dX9_seat_40 (by decide) (by first | omega | exact zb_rg) rfl (fun h40 => ?_) (fun h40 => ?_)
        · skip
          simp only [zb_eq0, Decidable.not_not] at h40
          refine zV_iconst (n := 48) C dX9_seat_47 rfl ?_
          refine zS_istore_5_4 (n := 50) C dX9_seat_48 rfl rfl ?_
          refine zV_iload_n (i := 1) (n := 51) C dX9_seat_50 rfl rfl rfl ?_
          refine zV_callS1u (n := 54) C jX9_isSeat lX9_68 (m_isSeat (d := d) (by omega)) dX9_seat_51 (Nat.le_of_ble_eq_true rfl) (zfit_of (by omega) (by decide)) ⟨Nat.le_refl _, Nat.le_refl _⟩ rfl ?_
          refine zV_if_eq (n := 57) C 75 dX9_seat_54 (by decide) (by first | omega | exact zb_rg) rfl (fun h54 => ?_) (fun h54 => ?_)
          · skip
            simp only [zb_eq0, Decidable.not_not] at h54
            refine zV_aload_n (i := 0) (n := 76) C dX9_seat_75 rfl rfl rfl ?_
            refine zV_ldc (n := 78) C dX9_seat_76 kX9_51 rfl ?_
            refine zV_callV1u (n := 81) C zk8 jX9_finds lX9_75 (m_finds (d := d) (by omega)) dX9_seat_78 zs_ref rfl (Nat.le_of_ble_eq_true rfl) (zfit_of (by omega) (by decide)) ⟨Nat.le_refl _, Nat.le_refl _⟩ rfl ?_
            exact zV_ireturn C hr hlk dX9_seat_81 (by first | exact congrArg (fun z => some (Value.int (zi z))) (zif_t (by omega) (rfl)) | exact congrArg (fun z => some (Value.int (zi z))) (zif_f (by omega) rfl)) (by first | exact zif_t (by omega) (rfl) | exact zif_f (by omega) rfl)
          · skip
            simp only [zb_eq0, Decidable.not_not] at h54
            refine zV_iload (n := 59) C dX9_seat_57 rfl rfl ?_
            refine zV_if_eq (n := 62) C 75 dX9_seat_59 (by decide) (by first | omega | exact zb_rg) rfl (fun h59 => ?_) (fun h59 => ?_)
            · skip
              refine zV_aload_n (i := 0) (n := 76) C dX9_seat_75 rfl rfl rfl ?_
              refine zV_ldc (n := 78) C dX9_seat_76 kX9_51 rfl ?_
              refine zV_callV1u (n := 81) C zk8 jX9_finds lX9_75 (m_finds (d := d) (by omega)) dX9_seat_78 zs_ref rfl (Nat.le_of_ble_eq_true rfl) (zfit_of (by omega) (by decide)) ⟨Nat.le_refl _, Nat.le_refl _⟩ rfl ?_
              exact zV_ireturn C hr hlk dX9_seat_81 (by first | exact congrArg (fun z => some (Value.int (zi z))) (zif_t (by omega) (rfl)) | exact congrArg (fun z => some (Value.int (zi z))) (zif_f (by omega) rfl)) (by first | exact zif_t (by omega) (rfl) | exact zif_f (by omega) rfl)
            · skip
              refine zV_aload_n (i := 0) (n := 63) C dX9_seat_62 rfl rfl rfl ?_
              refine zV_iload_n (i := 1) (n := 64) C dX9_seat_63 rfl rfl rfl ?_
              refine zV_iload_n (i := 2) (n := 65) C dX9_seat_64 rfl rfl rfl ?_
              refine zV_callS2u (n := 68) C jX9_spotOf lX9_47 (m_spotOf (d := d) ) dX9_seat_65 (Nat.le_of_ble_eq_true rfl) (zfit_of (by omega) (by decide)) ⟨Nat.le_refl _, Nat.le_refl _⟩ rfl ?_
              refine zV_iload_n (i := 3) (n := 69) C dX9_seat_68 rfl rfl rfl ?_
              refine zV_callV2u (n := 72) C zk8 jX9_becomes lX9_72 (m_becomes (d := d) (by omega)) dX9_seat_69 zs_ref rfl (Nat.le_of_ble_eq_true rfl) (zfit_of (by omega) (by decide)) ⟨Nat.le_refl _, Nat.le_refl _⟩ rfl ?_
              refine zV_goto C 81 dX9_seat_72 (by decide) ?_
              exact zV_ireturn C hr hlk dX9_seat_81 (by first | exact congrArg (fun z => some (Value.int (zi z))) (zif_t (by omega) (rfl)) | exact congrArg (fun z => some (Value.int (zi z))) (zif_f (by omega) rfl)) (by first | exact zif_t (by omega) (rfl) | exact zif_f (by omega) rfl)
        · skip
          simp only [zb_eq0, Decidable.not_not] at h40
          refine zV_iconst (n := 44) C dX9_seat_43 rfl ?_
          refine zV_goto C 48 dX9_seat_44 (by decide) ?_
          refine zS_istore_5_4 (n := 50) C dX9_seat_48 rfl rfl ?_
          refine zV_iload_n (i := 1) (n := 51) C dX9_seat_50 rfl rfl rfl ?_
          refine zV_callS1u (n := 54) C jX9_isSeat lX9_68 (m_isSeat (d := d) (by omega)) dX9_seat_51 (Nat.le_of_ble_eq_true rfl) (zfit_of (by omega) (by decide)) ⟨Nat.le_refl _, Nat.le_refl _⟩ rfl ?_
          refine zV_if_eq (n := 57) C 75 dX9_seat_54 (by decide) (by first | omega | exact zb_rg) rfl (fun h54 => ?_) (fun h54 => ?_)
          · skip
            simp only [zb_eq0, Decidable.not_not] at h54
            refine zV_aload_n (i := 0) (n := 76) C dX9_seat_75 rfl rfl rfl ?_
            refine zV_ldc (n := 78) C dX9_seat_76 kX9_51 rfl ?_
            refine zV_callV1u (n := 81) C zk8 jX9_finds lX9_75 (m_finds (d := d) (by omega)) dX9_seat_78 zs_ref rfl (Nat.le_of_ble_eq_true rfl) (zfit_of (by omega) (by decide)) ⟨Nat.le_refl _, Nat.le_refl _⟩ rfl ?_
            exact zV_ireturn C hr hlk dX9_seat_81 (by first | exact congrArg (fun z => some (Value.int (zi z))) (zif_t (by omega) (rfl)) | exact congrArg (fun z => some (Value.int (zi z))) (zif_f (by omega) rfl)) (by first | exact zif_t (by omega) (rfl) | exact zif_f (by omega) rfl)
          · skip
            simp only [zb_eq0, Decidable.not_not] at h54
            refine zV_iload (n := 59) C dX9_seat_57 rfl rfl ?_
            refine zV_if_eq (n := 62) C 75 dX9_seat_59 (by decide) (by first | omega | exact zb_rg) rfl (fun h59 => ?_) (fun h59 => ?_)
            · skip
              refine zV_aload_n (i := 0) (n := 76) C dX9_seat_75 rfl rfl rfl ?_
              refine zV_ldc (n := 78) C dX9_seat_76 kX9_51 rfl ?_
              refine zV_callV1u (n := 81) C zk8 jX9_finds lX9_75 (m_finds (d := d) (by omega)) dX9_seat_78 zs_ref rfl (Nat.le_of_ble_eq_true rfl) (zfit_of (by omega) (by decide)) ⟨Nat.le_refl _, Nat.le_refl _⟩ rfl ?_
              exact zV_ireturn C hr hlk dX9_seat_81 (by first | exact congrArg (fun z => some (Value.int (zi z))) (zif_t (by omega) (rfl)) | exact congrArg (fun z => some (Value.int (zi z))) (zif_f (by omega) rfl)) (by first | exact zif_t (by omega) (rfl) | exact zif_f (by omega) rfl)
            · skip
              refine zV_aload_n (i := 0) (n := 63) C dX9_seat_62 rfl rfl rfl ?_
              refine zV_iload_n (i := 1) (n := 64) C dX9_seat_63 rfl rfl rfl ?_
              refine zV_iload_n (i := 2) (n := 65) C dX9_seat_64 rfl rfl rfl ?_
              refine zV_callS2u (n := 68) C jX9_spotOf lX9_47 (m_spotOf (d := d) ) dX9_seat_65 (Nat.le_of_ble_eq_true rfl) (zfit_of (by omega) (by decide)) ⟨Nat.le_refl _, Nat.le_refl _⟩ rfl ?_
              refine zV_iload_n (i := 3) (n := 69) C dX9_seat_68 rfl rfl rfl ?_
              refine zV_callV2u (n := 72) C zk8 jX9_becomes lX9_72 (m_becomes (d := d) (by omega)) dX9_seat_69 zs_ref rfl (Nat.le_of_ble_eq_true rfl) (zfit_of (by omega) (by decide)) ⟨Nat.le_refl _, Nat.le_refl _⟩ rfl ?_
              refine zV_goto C 81 dX9_seat_72 (by decide) ?_
              exact zV_ireturn C hr hlk dX9_seat_81 (by first | exact congrArg (fun z => some (Value.int (zi z))) (zif_t (by omega) (rfl)) | exact congrArg (fun z => some (Value.int (zi z))) (zif_f (by omega) rfl)) (by first | exact zif_t (by omega) (rfl) | exact zif_f (by omega) rfl)
      · skip
        refine zV_ldc2 (n := 33) C dX9_seat_30 kX9_66 rfl ?_
        refine zV_goto C 37 dX9_seat_33 (by decide) ?_
        refine zV_callS3u (n := 40) C jX9_in lX9_54 (m_in (d := d) (by omega) (by omega) (by omega)) dX9_seat_37 (Nat.le_of_ble_eq_true rfl) (zfit_of (by omega) (by decide)) ⟨Nat.le_refl _, Nat.le_refl _⟩ rfl ?_
        refine zV_if_eq (n := 43) C 47 dX9_seat_40 (by decide) (by first | omega | exact zb_rg) rfl (fun h40 => ?_) (fun h40 => ?_)
        · skip
          simp only [zb_eq0, Decidable.not_not] at h40
          refine zV_iconst (n := 48) C dX9_seat_47 rfl ?_
          refine zS_istore_5_4 (n := 50) C dX9_seat_48 rfl rfl ?_
          refine zV_iload_n (i := 1) (n := 51) C dX9_seat_50 rfl rfl rfl ?_
          refine zV_callS1u (n := 54) C jX9_isSeat lX9_68 (m_isSeat (d := d) (by omega)) dX9_seat_51 (Nat.le_of_ble_eq_true rfl) (zfit_of (by omega) (by decide)) ⟨Nat.le_refl _, Nat.le_refl _⟩ rfl ?_
          refine zV_if_eq (n := 57) C 75 dX9_seat_54 (by decide) (by first | omega | exact zb_rg) rfl (fun h54 => ?_) (fun h54 => ?_)
          · skip
            simp only [zb_eq0, Decidable.not_not] at h54
            refine zV_aload_n (i := 0) (n := 76) C dX9_seat_75 rfl rfl rfl ?_
            refine zV_ldc (n := 78) C dX9_seat_76 kX9_51 rfl ?_
            refine zV_callV1u (n := 81) C zk8 jX9_finds lX9_75 (m_finds (d := d) (by omega)) dX9_seat_78 zs_ref rfl (Nat.le_of_ble_eq_true rfl) (zfit_of (by omega) (by decide)) ⟨Nat.le_refl _, Nat.le_refl _⟩ rfl ?_
            exact zV_ireturn C hr hlk dX9_seat_81 (by first | exact congrArg (fun z => some (Value.int (zi z))) (zif_t (by omega) (rfl)) | exact congrArg (fun z => some (Value.int (zi z))) (zif_f (by omega) rfl)) (by first | exact zif_t (by omega) (rfl) | exact zif_f (by omega) rfl)
          · skip
            simp only [zb_eq0, Decidable.not_not] at h54
            refine zV_iload (n := 59) C dX9_seat_57 rfl rfl ?_
            refine zV_if_eq (n := 62) C 75 dX9_seat_59 (by decide) (by first | omega | exact zb_rg) rfl (fun h59 => ?_) (fun h59 => ?_)
            · skip
              refine zV_aload_n (i := 0) (n := 76) C dX9_seat_75 rfl rfl rfl ?_
              refine zV_ldc (n := 78) C dX9_seat_76 kX9_51 rfl ?_
              refine zV_callV1u (n := 81) C zk8 jX9_finds lX9_75 (m_finds (d := d) (by omega)) dX9_seat_78 zs_ref rfl (Nat.le_of_ble_eq_true rfl) (zfit_of (by omega) (by decide)) ⟨Nat.le_refl _, Nat.le_refl _⟩ rfl ?_
              exact zV_ireturn C hr hlk dX9_seat_81 (by first | exact congrArg (fun z => some (Value.int (zi z))) (zif_t (by omega) (rfl)) | exact congrArg (fun z => some (Value.int (zi z))) (zif_f (by omega) rfl)) (by first | exact zif_t (by omega) (rfl) | exact zif_f (by omega) rfl)
            · skip
              refine zV_aload_n (i := 0) (n := 63) C dX9_seat_62 rfl rfl rfl ?_
              refine zV_iload_n (i := 1) (n := 64) C dX9_seat_63 rfl rfl rfl ?_
              refine zV_iload_n (i := 2) (n := 65) C dX9_seat_64 rfl rfl rfl ?_
              refine zV_callS2u (n := 68) C jX9_spotOf lX9_47 (m_spotOf (d := d) ) dX9_seat_65 (Nat.le_of_ble_eq_true rfl) (zfit_of (by omega) (by decide)) ⟨Nat.le_refl _, Nat.le_refl _⟩ rfl ?_
              refine zV_iload_n (i := 3) (n := 69) C dX9_seat_68 rfl rfl rfl ?_
              refine zV_callV2u (n := 72) C zk8 jX9_becomes lX9_72 (m_becomes (d := d) (by omega)) dX9_seat_69 zs_ref rfl (Nat.le_of_ble_eq_true rfl) (zfit_of (by omega) (by decide)) ⟨Nat.le_refl _, Nat.le_refl _⟩ rfl ?_
              refine zV_goto C 81 dX9_seat_72 (by decide) ?_
              exact zV_ireturn C hr hlk dX9_seat_81 (by first | exact congrArg (fun z => some (Value.int (zi z))) (zif_t (by omega) (rfl)) | exact congrArg (fun z => some (Value.int (zi z))) (zif_f (by omega) rfl)) (by first | exact zif_t (by omega) (rfl) | exact zif_f (by omega) rfl)
        · skip
          simp only [zb_eq0, Decidable.not_not] at h40
          refine zV_iconst (n := 44) C dX9_seat_43 rfl ?_
          refine zV_goto C 48 dX9_seat_44 (by decide) ?_
          refine zS_istore_5_4 (n := 50) C dX9_seat_48 rfl rfl ?_
          refine zV_iload_n (i := 1) (n := 51) C dX9_seat_50 rfl rfl rfl ?_
          refine zV_callS1u (n := 54) C jX9_isSeat lX9_68 (m_isSeat (d := d) (by omega)) dX9_seat_51 (Nat.le_of_ble_eq_true rfl) (zfit_of (by omega) (by decide)) ⟨Nat.le_refl _, Nat.le_refl _⟩ rfl ?_
          refine zV_if_eq (n := 57) C 75 dX9_seat_54 (by decide) (by first | omega | exact zb_rg) rfl (fun h54 => ?_) (fun h54 => ?_)
          · skip
            simp only [zb_eq0, Decidable.not_not] at h54
            refine zV_aload_n (i := 0) (n := 76) C dX9_seat_75 rfl rfl rfl ?_
            refine zV_ldc (n := 78) C dX9_seat_76 kX9_51 rfl ?_
            refine zV_callV1u (n := 81) C zk8 jX9_finds lX9_75 (m_finds (d := d) (by omega)) dX9_seat_78 zs_ref rfl (Nat.le_of_ble_eq_true rfl) (zfit_of (by omega) (by decide)) ⟨Nat.le_refl _, Nat.le_refl _⟩ rfl ?_
            exact zV_ireturn C hr hlk dX9_seat_81 (by first | exact congrArg (fun z => some (Value.int (zi z))) (zif_t (by omega) (rfl)) | exact congrArg (fun z => some (Value.int (zi z))) (zif_f (by omega) rfl)) (by first | exact zif_t (by omega) (rfl) | exact zif_f (by omega) rfl)
          · skip
            simp only [zb_eq0, Decidable.not_not] at h54
            refine zV_iload (n := 59) C dX9_seat_57 rfl rfl ?_
            refine zV_if_eq (n := 62) C 75 dX9_seat_59 (by decide) (by first | omega | exact zb_rg) rfl (fun h59 => ?_) (fun h59 => ?_)
            · skip
              refine zV_aload_n (i := 0) (n := 76) C dX9_seat_75 rfl rfl rfl ?_
              refine zV_ldc (n := 78) C dX9_seat_76 kX9_51 rfl ?_
              refine zV_callV1u (n := 81) C zk8 jX9_finds lX9_75 (m_finds (d := d) (by omega)) dX9_seat_78 zs_ref rfl (Nat.le_of_ble_eq_true rfl) (zfit_of (by omega) (by decide)) ⟨Nat.le_refl _, Nat.le_refl _⟩ rfl ?_
              exact zV_ireturn C hr hlk dX9_seat_81 (by first | exact congrArg (fun z => some (Value.int (zi z))) (zif_t (by omega) (rfl)) | exact congrArg (fun z => some (Value.int (zi z))) (zif_f (by omega) rfl)) (by first | exact zif_t (by omega) (rfl) | exact zif_f (by omega) rfl)
            · skip
              refine zV_aload_n (i := 0) (n := 63) C dX9_seat_62 rfl rfl rfl ?_
              refine zV_iload_n (i := 1) (n := 64) C dX9_seat_63 rfl rfl rfl ?_
              refine zV_iload_n (i := 2) (n := 65) C dX9_seat_64 rfl rfl rfl ?_
              refine zV_callS2u (n := 68) C jX9_spotOf lX9_47 (m_spotOf (d := d) ) dX9_seat_65 (Nat.le_of_ble_eq_true rfl) (zfit_of (by omega) (by decide)) ⟨Nat.le_refl _, Nat.le_refl _⟩ rfl ?_
              refine zV_iload_n (i := 3) (n := 69) C dX9_seat_68 rfl rfl rfl ?_
              refine zV_callV2u (n := 72) C zk8 jX9_becomes lX9_72 (m_becomes (d := d) (by omega)) dX9_seat_69 zs_ref rfl (Nat.le_of_ble_eq_true rfl) (zfit_of (by omega) (by decide)) ⟨Nat.le_refl _, Nat.le_refl _⟩ rfl ?_
              refine zV_goto C 81 dX9_seat_72 (by decide) ?_
              exact zV_ireturn C hr hlk dX9_seat_81 (by first | exact congrArg (fun z => some (Value.int (zi z))) (zif_t (by omega) (rfl)) | exact congrArg (fun z => some (Value.int (zi z))) (zif_f (by omega) rfl)) (by first | exact zif_t (by omega) (rfl) | exact zif_f (by omega) rfl)
    · skip
      refine zV_ldc2 (n := 22) C dX9_seat_19 kX9_58 rfl ?_
      refine zV_goto C 37 dX9_seat_22 (by decide) ?_
      refine zV_callS3u (n := 40) C jX9_in lX9_54 (m_in (d := d) (by omega) (by omega) (by omega)) dX9_seat_37 (Nat.le_of_ble_eq_true rfl) (zfit_of (by omega) (by decide)) ⟨Nat.le_refl _, Nat.le_refl _⟩ rfl ?_
      refine zV_if_eq (n := 43) C 47 dX9_seat_40 (by decide) (by first | omega | exact zb_rg) rfl (fun h40 => ?_) (fun h40 => ?_)
      · skip
        simp only [zb_eq0, Decidable.not_not] at h40
        refine zV_iconst (n := 48) C dX9_seat_47 rfl ?_
        refine zS_istore_5_4 (n := 50) C dX9_seat_48 rfl rfl ?_
        refine zV_iload_n (i := 1) (n := 51) C dX9_seat_50 rfl rfl rfl ?_
        refine zV_callS1u (n := 54) C jX9_isSeat lX9_68 (m_isSeat (d := d) (by omega)) dX9_seat_51 (Nat.le_of_ble_eq_true rfl) (zfit_of (by omega) (by decide)) ⟨Nat.le_refl _, Nat.le_refl _⟩ rfl ?_
        refine zV_if_eq (n := 57) C 75 dX9_seat_54 (by decide) (by first | omega | exact zb_rg) rfl (fun h54 => ?_) (fun h54 => ?_)
        · skip
          simp only [zb_eq0, Decidable.not_not] at h54
          refine zV_aload_n (i := 0) (n := 76) C dX9_seat_75 rfl rfl rfl ?_
          refine zV_ldc (n := 78) C dX9_seat_76 kX9_51 rfl ?_
          refine zV_callV1u (n := 81) C zk8 jX9_finds lX9_75 (m_finds (d := d) (by omega)) dX9_seat_78 zs_ref rfl (Nat.le_of_ble_eq_true rfl) (zfit_of (by omega) (by decide)) ⟨Nat.le_refl _, Nat.le_refl _⟩ rfl ?_
          exact zV_ireturn C hr hlk dX9_seat_81 (by first | exact congrArg (fun z => some (Value.int (zi z))) (zif_t (by omega) (rfl)) | exact congrArg (fun z => some (Value.int (zi z))) (zif_f (by omega) rfl)) (by first | exact zif_t (by omega) (rfl) | exact zif_f (by omega) rfl)
        · skip
          simp only [zb_eq0, Decidable.not_not] at h54
          refine zV_iload (n := 59) C dX9_seat_57 rfl rfl ?_
          refine zV_if_eq (n := 62) C 75 dX9_seat_59 (by decide) (by first | omega | exact zb_rg) rfl (fun h59 => ?_) (fun h59 => ?_)
          · skip
            refine zV_aload_n (i := 0) (n := 76) C dX9_seat_75 rfl rfl rfl ?_
            refine zV_ldc (n := 78) C dX9_seat_76 kX9_51 rfl ?_
            refine zV_callV1u (n := 81) C zk8 jX9_finds lX9_75 (m_finds (d := d) (by omega)) dX9_seat_78 zs_ref rfl (Nat.le_of_ble_eq_true rfl) (zfit_of (by omega) (by decide)) ⟨Nat.le_refl _, Nat.le_refl _⟩ rfl ?_
            exact zV_ireturn C hr hlk dX9_seat_81 (by first | exact congrArg (fun z => some (Value.int (zi z))) (zif_t (by omega) (rfl)) | exact congrArg (fun z => some (Value.int (zi z))) (zif_f (by omega) rfl)) (by first | exact zif_t (by omega) (rfl) | exact zif_f (by omega) rfl)
          · skip
            refine zV_aload_n (i := 0) (n := 63) C dX9_seat_62 rfl rfl rfl ?_
            refine zV_iload_n (i := 1) (n := 64) C dX9_seat_63 rfl rfl rfl ?_
            refine zV_iload_n (i := 2) (n := 65) C dX9_seat_64 rfl rfl rfl ?_
            refine zV_callS2u (n := 68) C jX9_spotOf lX9_47 (m_spotOf (d := d) ) dX9_seat_65 (Nat.le_of_ble_eq_true rfl) (zfit_of (by omega) (by decide)) ⟨Nat.le_refl _, Nat.le_refl _⟩ rfl ?_
            refine zV_iload_n (i := 3) (n := 69) C dX9_seat_68 rfl rfl rfl ?_
            refine zV_callV2u (n := 72) C zk8 jX9_becomes lX9_72 (m_becomes (d := d) (by omega)) dX9_seat_69 zs_ref rfl (Nat.le_of_ble_eq_true rfl) (zfit_of (by omega) (by decide)) ⟨Nat.le_refl _, Nat.le_refl _⟩ rfl ?_
            refine zV_goto C 81 dX9_seat_72 (by decide) ?_
            exact zV_ireturn C hr hlk dX9_seat_81 (by first | exact congrArg (fun z => some (Value.int (zi z))) (zif_t (by omega) (rfl)) | exact congrArg (fun z => some (Value.int (zi z))) (zif_f (by omega) rfl)) (by first | exact zif_t (by omega) (rfl) | exact zif_f (by omega) rfl)
      · skip
        simp only [zb_eq0, Decidable.not_not] at h40
        refine zV_iconst (n := 44) C dX9_seat_43 rfl ?_
        refine zV_goto C 48 dX9_seat_44 (by decide) ?_
        refine zS_istore_5_4 (n := 50) C dX9_seat_48 rfl rfl ?_
        refine zV_iload_n (i := 1) (n := 51) C dX9_seat_50 rfl rfl rfl ?_
        refine zV_callS1u (n := 54) C jX9_isSeat lX9_68 (m_isSeat (d := d) (by omega)) dX9_seat_51 (Nat.le_of_ble_eq_true rfl) (zfit_of (by omega) (by decide)) ⟨Nat.le_refl _, Nat.le_refl _⟩ rfl ?_
        refine zV_if_eq (n := 57) C 75 dX9_seat_54 (by decide) (by first | omega | exact zb_rg) rfl (fun h54 => ?_) (fun h54 => ?_)
        · skip
          simp only [zb_eq0, Decidable.not_not] at h54
          refine zV_aload_n (i := 0) (n := 76) C dX9_seat_75 rfl rfl rfl ?_
          refine zV_ldc (n := 78) C dX9_seat_76 kX9_51 rfl ?_
          refine zV_callV1u (n := 81) C zk8 jX9_finds lX9_75 (m_finds (d := d) (by omega)) dX9_seat_78 zs_ref rfl (Nat.le_of_ble_eq_true rfl) (zfit_of (by omega) (by decide)) ⟨Nat.le_refl _, Nat.le_refl _⟩ rfl ?_
          exact zV_ireturn C hr hlk dX9_seat_81 (by first | exact congrArg (fun z => some (Value.int (zi z))) (zif_t (by omega) (rfl)) | exact congrArg (fun z => some (Value.int (zi z))) (zif_f (by omega) rfl)) (by first | exact zif_t (by omega) (rfl) | exact zif_f (by omega) rfl)
        · skip
          simp only [zb_eq0, Decidable.not_not] at h54
          refine zV_iload (n := 59) C dX9_seat_57 rfl rfl ?_
          refine zV_if_eq (n := 62) C 75 dX9_seat_59 (by decide) (by first | omega | exact zb_rg) rfl (fun h59 => ?_) (fun h59 => ?_)
          · skip
            refine zV_aload_n (i := 0) (n := 76) C dX9_seat_75 rfl rfl rfl ?_
            refine zV_ldc (n := 78) C dX9_seat_76 kX9_51 rfl ?_
            refine zV_callV1u (n := 81) C zk8 jX9_finds lX9_75 (m_finds (d := d) (by omega)) dX9_seat_78 zs_ref rfl (Nat.le_of_ble_eq_true rfl) (zfit_of (by omega) (by decide)) ⟨Nat.le_refl _, Nat.le_refl _⟩ rfl ?_
            exact zV_ireturn C hr hlk dX9_seat_81 (by first | exact congrArg (fun z => some (Value.int (zi z))) (zif_t (by omega) (rfl)) | exact congrArg (fun z => some (Value.int (zi z))) (zif_f (by omega) rfl)) (by first | exact zif_t (by omega) (rfl) | exact zif_f (by omega) rfl)
          · skip
            refine zV_aload_n (i := 0) (n := 63) C dX9_seat_62 rfl rfl rfl ?_
            refine zV_iload_n (i := 1) (n := 64) C dX9_seat_63 rfl rfl rfl ?_
            refine zV_iload_n (i := 2) (n := 65) C dX9_seat_64 rfl rfl rfl ?_
            refine zV_callS2u (n := 68) C jX9_spotOf lX9_47 (m_spotOf (d := d) ) dX9_seat_65 (Nat.le_of_ble_eq_true rfl) (zfit_of (by omega) (by decide)) ⟨Nat.le_refl _, Nat.le_refl _⟩ rfl ?_
            refine zV_iload_n (i := 3) (n := 69) C dX9_seat_68 rfl rfl rfl ?_
            refine zV_callV2u (n := 72) C zk8 jX9_becomes lX9_72 (m_becomes (d := d) (by omega)) dX9_seat_69 zs_ref rfl (Nat.le_of_ble_eq_true rfl) (zfit_of (by omega) (by decide)) ⟨Nat.le_refl _, Nat.le_refl _⟩ rfl ?_
            refine zV_goto C 81 dX9_seat_72 (by decide) ?_
            exact zV_ireturn C hr hlk dX9_seat_81 (by first | exact congrArg (fun z => some (Value.int (zi z))) (zif_t (by omega) (rfl)) | exact congrArg (fun z => some (Value.int (zi z))) (zif_f (by omega) rfl)) (by first | exact zif_t (by omega) (rfl) | exact zif_f (by omega) rfl)

set_option maxRecDepth 100000 in
set_option maxHeartbeats 4000000 in
theorem m_seatOf {Γ : zC} {l : Launch} {d : Nat} {μ : zMem} {N : Int} (I : rInv N (μ 5 1)) (hN : N ≤ 20000) {x : Int} (hx : -2147483648 ≤ x ∧ x ≤ 2147483647) {w : Int} (hw : -2147483648 ≤ w ∧ w ≤ 2147483647) : zRet Γ l (d + 2) qX9_seatOf [.ref (za Γ 5 0), .int (zi x), .int (zi w)] μ (some (.int (zi (if ((0 ≤ x ∧ x ≤ 2) ∧ (0 ≤ w ∧ w ≤ 4)) then itS (μ 5 1) x w else -1000000001)))) (if ((0 ≤ x ∧ x ≤ 2) ∧ (0 ≤ w ∧ w ≤ 4)) then μ else zset μ 5 5 (rFind (μ 5 5) (-1000000001))) := by
  refine zRet.mk 0 [.ref (za Γ 5 0), .int (zi x), .int (zi w)] RX9 rfl (by decide +kernel) (Nat.le_of_ble_eq_true rfl) rfl ?_
  intro p e s m below meth c C hr hlk
  have h0 := I.1
  have h1 := I.2.1
  have h2 := I.2.2.1
  have h3 := I.2.2.2.1
  refine zV_iload_n (i := 1) (n := 1) C dX9_seatOf_0 rfl rfl rfl ?_
  refine zV_callS1u (n := 4) C jX9_isSeat lX9_68 (m_isSeat (d := d) (by omega)) dX9_seatOf_1 (Nat.le_of_ble_eq_true rfl) (zfit_of (by omega) (by decide)) ⟨Nat.le_refl _, Nat.le_refl _⟩ rfl ?_
  refine zV_if_eq (n := 7) C 28 dX9_seatOf_4 (by decide) (by first | omega | exact zb_rg) rfl (fun h4 => ?_) (fun h4 => ?_)
  · skip
    simp only [zb_eq0, Decidable.not_not] at h4
    refine zV_aload_n (i := 0) (n := 29) C dX9_seatOf_28 rfl rfl rfl ?_
    refine zV_ldc (n := 31) C dX9_seatOf_29 kX9_51 rfl ?_
    refine zV_callV1u (n := 34) C zk8 jX9_finds lX9_75 (m_finds (d := d) (by omega)) dX9_seatOf_31 zs_ref rfl (Nat.le_of_ble_eq_true rfl) (zfit_of (by omega) (by decide)) ⟨Nat.le_refl _, Nat.le_refl _⟩ rfl ?_
    exact zV_ireturn C hr hlk dX9_seatOf_34 (by first | exact congrArg (fun z => some (Value.int (zi z))) (zif_t (by omega) (rfl)) | exact congrArg (fun z => some (Value.int (zi z))) (zif_f (by omega) rfl)) (by first | exact zif_t (by omega) (rfl) | exact zif_f (by omega) rfl)
  · skip
    simp only [zb_eq0, Decidable.not_not] at h4
    refine zV_iload_n (i := 2) (n := 8) C dX9_seatOf_7 rfl rfl rfl ?_
    refine zV_i2l (n := 9) C dX9_seatOf_8 (by first | omega | exact zb_rg) rfl ?_
    refine zV_lconst (v := 0) (n := 10) C dX9_seatOf_9 rfl rfl ?_
    refine zV_ldc2 (n := 13) C dX9_seatOf_10 kX9_79 rfl ?_
    refine zV_callS3u (n := 16) C jX9_in lX9_54 (m_in (d := d) (by omega) (by omega) (by omega)) dX9_seatOf_13 (Nat.le_of_ble_eq_true rfl) (zfit_of (by omega) (by decide)) ⟨Nat.le_refl _, Nat.le_refl _⟩ rfl ?_
    refine zV_if_eq (n := 19) C 28 dX9_seatOf_16 (by decide) (by first | omega | exact zb_rg) rfl (fun h16 => ?_) (fun h16 => ?_)
    · skip
      simp only [zb_eq0, Decidable.not_not] at h16
      refine zV_aload_n (i := 0) (n := 29) C dX9_seatOf_28 rfl rfl rfl ?_
      refine zV_ldc (n := 31) C dX9_seatOf_29 kX9_51 rfl ?_
      refine zV_callV1u (n := 34) C zk8 jX9_finds lX9_75 (m_finds (d := d) (by omega)) dX9_seatOf_31 zs_ref rfl (Nat.le_of_ble_eq_true rfl) (zfit_of (by omega) (by decide)) ⟨Nat.le_refl _, Nat.le_refl _⟩ rfl ?_
      exact zV_ireturn C hr hlk dX9_seatOf_34 (by first | exact congrArg (fun z => some (Value.int (zi z))) (zif_t (by omega) (rfl)) | exact congrArg (fun z => some (Value.int (zi z))) (zif_f (by omega) rfl)) (by first | exact zif_t (by omega) (rfl) | exact zif_f (by omega) rfl)
    · skip
      simp only [zb_eq0, Decidable.not_not] at h16
      refine zV_aload_n (i := 0) (n := 20) C dX9_seatOf_19 rfl rfl rfl ?_
      refine zV_iload_n (i := 1) (n := 21) C dX9_seatOf_20 rfl rfl rfl ?_
      refine zV_iload_n (i := 2) (n := 22) C dX9_seatOf_21 rfl rfl rfl ?_
      refine zV_callV2u (n := 25) C zk8 jX9_its lX9_63 (m_its (d := d) (by omega)) dX9_seatOf_22 zs_ref rfl (Nat.le_of_ble_eq_true rfl) (zfit_of (by omega) (by decide)) ⟨Nat.le_refl _, Nat.le_refl _⟩ rfl ?_
      refine zV_goto C 34 dX9_seatOf_25 (by decide) ?_
      exact zV_ireturn C hr hlk dX9_seatOf_34 (by first | exact congrArg (fun z => some (Value.int (zi z))) (zif_t (by omega) (rfl)) | exact congrArg (fun z => some (Value.int (zi z))) (zif_f (by omega) rfl)) (by first | exact zif_t (by omega) (rfl) | exact zif_f (by omega) rfl)

set_option maxRecDepth 100000 in
set_option maxHeartbeats 4000000 in
theorem m_rain {Γ : zC} {l : Launch} {d : Nat} {μ : zMem} {N : Int} (I : rInv N (μ 5 1)) (hN : N ≤ 20000) {v : Int} (hv : -2147483648 ≤ v ∧ v ≤ 2147483647) : zRet Γ l (d + 1) qX9_rain [.ref (za Γ 5 0), .int (zi v)] μ (some (.int (zi (if (0 ≤ v ∧ v ≤ 9) then (μ 5 1) 3 else -1000000001)))) (if (0 ≤ v ∧ v ≤ 9) then zset μ 5 1 (zfu (μ 5 1) 3 v) else zset μ 5 5 (rFind (μ 5 5) (-1000000001))) := by
  refine zRet.mk 0 [.ref (za Γ 5 0), .int (zi v)] RX9 rfl (by decide +kernel) (Nat.le_of_ble_eq_true rfl) rfl ?_
  intro p e s m below meth c C hr hlk
  have h0 := I.1
  have h1 := I.2.1
  have h2 := I.2.2.1
  have h3 := I.2.2.2.1
  refine zV_iload_n (i := 1) (n := 1) C dX9_rain_0 rfl rfl rfl ?_
  refine zV_i2l (n := 2) C dX9_rain_1 (by first | omega | exact zb_rg) rfl ?_
  refine zV_lconst (v := 0) (n := 3) C dX9_rain_2 rfl rfl ?_
  refine zV_ldc2 (n := 6) C dX9_rain_3 kX9_66 rfl ?_
  refine zV_callS3u (n := 9) C jX9_in lX9_54 (m_in (d := d) (by omega) (by omega) (by omega)) dX9_rain_6 (Nat.le_of_ble_eq_true rfl) (zfit_of (by omega) (by decide)) ⟨Nat.le_refl _, Nat.le_refl _⟩ rfl ?_
  refine zV_if_eq (n := 12) C 21 dX9_rain_9 (by decide) (by first | omega | exact zb_rg) rfl (fun h9 => ?_) (fun h9 => ?_)
  · skip
    simp only [zb_eq0, Decidable.not_not] at h9
    refine zV_aload_n (i := 0) (n := 22) C dX9_rain_21 rfl rfl rfl ?_
    refine zV_ldc (n := 24) C dX9_rain_22 kX9_51 rfl ?_
    refine zV_callV1u (n := 27) C zk8 jX9_finds lX9_75 (m_finds (d := d) (by omega)) dX9_rain_24 zs_ref rfl (Nat.le_of_ble_eq_true rfl) (zfit_of (by omega) (by decide)) ⟨Nat.le_refl _, Nat.le_refl _⟩ rfl ?_
    exact zV_ireturn C hr hlk dX9_rain_27 (by first | exact congrArg (fun z => some (Value.int (zi z))) (zif_t (by omega) (rfl)) | exact congrArg (fun z => some (Value.int (zi z))) (zif_f (by omega) rfl)) (by first | exact zif_t (by omega) (rfl) | exact zif_f (by omega) rfl)
  · skip
    simp only [zb_eq0, Decidable.not_not] at h9
    refine zV_aload_n (i := 0) (n := 13) C dX9_rain_12 rfl rfl rfl ?_
    refine zV_iconst (n := 14) C dX9_rain_13 rfl ?_
    refine zV_iload_n (i := 1) (n := 15) C dX9_rain_14 rfl rfl rfl ?_
    refine zV_callV2u (n := 18) C zk8 jX9_becomes lX9_72 (m_becomes (d := d) (by omega)) dX9_rain_15 zs_ref rfl (Nat.le_of_ble_eq_true rfl) (zfit_of (by omega) (by decide)) ⟨Nat.le_refl _, Nat.le_refl _⟩ rfl ?_
    refine zV_goto C 27 dX9_rain_18 (by decide) ?_
    exact zV_ireturn C hr hlk dX9_rain_27 (by first | exact congrArg (fun z => some (Value.int (zi z))) (zif_t (by omega) (rfl)) | exact congrArg (fun z => some (Value.int (zi z))) (zif_f (by omega) rfl)) (by first | exact zif_t (by omega) (rfl) | exact zif_f (by omega) rfl)

set_option maxRecDepth 100000 in
set_option maxHeartbeats 4000000 in
theorem m_of {Γ : zC} {l : Launch} {d : Nat} {μ : zMem} {N : Int} (I : rInv N (μ 5 1)) (hN : N ≤ 20000) {x : Int} (hx : -2147483648 ≤ x ∧ x ≤ 2147483647) {w : Int} (hw : -2147483648 ≤ w ∧ w ≤ 2147483647) : zRet Γ l (d + 5) qX9_of [.ref (za Γ 5 0), .int (zi x), .int (zi w)] μ (some (.int (zi (if ((0 ≤ x ∧ x ≤ μ 5 1 0 - 1) ∧ (0 ≤ w ∧ w ≤ 7)) then if w ≤ 5 then toS (μ 5 1) x w else if w = 6 then rAt (μ 5 1) x else rFr (μ 5 1) x else -1000000001)))) (if ((0 ≤ x ∧ x ≤ μ 5 1 0 - 1) ∧ (0 ≤ w ∧ w ≤ 7)) then μ else zset μ 5 5 (rFind (μ 5 5) (-1000000001))) := by
  refine zRet.mk 0 [.ref (za Γ 5 0), .int (zi x), .int (zi w)] RX9 rfl (by decide +kernel) (Nat.le_of_ble_eq_true rfl) rfl ?_
  intro p e s m below meth c C hr hlk
  have h0 := I.1
  have h1 := I.2.1
  have h2 := I.2.2.1
  have h3 := I.2.2.2.1
  refine zV_aload_n (i := 0) (n := 1) C dX9_of_0 rfl rfl rfl ?_
  refine zV_iload_n (i := 1) (n := 2) C dX9_of_1 rfl rfl rfl ?_
  refine zV_callV1u (n := 5) C zk8 jX9_isChild lX9_100 (m_isChild (d := d) (by omega) (by omega)) dX9_of_2 zs_ref rfl (Nat.le_of_ble_eq_true rfl) (zfit_of (by omega) (by decide)) ⟨Nat.le_refl _, Nat.le_refl _⟩ rfl ?_
  refine zV_if_eq (n := 8) C 20 dX9_of_5 (by decide) (by first | omega | exact zb_rg) rfl (fun h5 => ?_) (fun h5 => ?_)
  · skip
    simp only [zb_eq0, Decidable.not_not] at h5
    refine zV_aload_n (i := 0) (n := 21) C dX9_of_20 rfl rfl rfl ?_
    refine zV_ldc (n := 23) C dX9_of_21 kX9_51 rfl ?_
    refine zV_callV1u (n := 26) C zk8 jX9_finds lX9_75 (m_finds (d := d) (by omega)) dX9_of_23 zs_ref rfl (Nat.le_of_ble_eq_true rfl) (zfit_of (by omega) (by decide)) ⟨Nat.le_refl _, Nat.le_refl _⟩ rfl ?_
    exact zV_ireturn C hr hlk dX9_of_26 (by first | exact congrArg (fun z => some (Value.int (zi z))) (zif_t (by omega) (zif_t (by omega) rfl)) | exact congrArg (fun z => some (Value.int (zi z))) (zif_t (by omega) (zif_f (by omega) (zif_t (by omega) rfl))) | exact congrArg (fun z => some (Value.int (zi z))) (zif_t (by omega) (zif_f (by omega) (zif_f (by omega) rfl))) | exact congrArg (fun z => some (Value.int (zi z))) (zif_f (by omega) rfl)) (by first | exact zif_t (by omega) (rfl) | exact zif_f (by omega) rfl)
  · skip
    simp only [zb_eq0, Decidable.not_not] at h5
    refine zV_iload_n (i := 2) (n := 9) C dX9_of_8 rfl rfl rfl ?_
    refine zV_i2l (n := 10) C dX9_of_9 (by first | omega | exact zb_rg) rfl ?_
    refine zV_lconst (v := 0) (n := 11) C dX9_of_10 rfl rfl ?_
    refine zV_ldc2 (n := 14) C dX9_of_11 kX9_103 rfl ?_
    refine zV_callS3u (n := 17) C jX9_in lX9_54 (m_in (d := d) (by omega) (by omega) (by omega)) dX9_of_14 (Nat.le_of_ble_eq_true rfl) (zfit_of (by omega) (by decide)) ⟨Nat.le_refl _, Nat.le_refl _⟩ rfl ?_
    refine zV_if_ne (n := 20) C 27 dX9_of_17 (by decide) (by first | omega | exact zb_rg) rfl (fun h17 => ?_) (fun h17 => ?_)
    · skip
      simp only [zb_eq0, Decidable.not_not] at h17
      refine zV_iload_n (i := 2) (n := 28) C dX9_of_27 rfl rfl rfl ?_
      refine zV_iconst (n := 29) C dX9_of_28 rfl ?_
      refine zV_icmp_gt (n := 32) C 41 dX9_of_29 (by decide) (by first | omega | exact zb_rg) (by first | omega | exact zb_rg) rfl (fun h29 => ?_) (fun h29 => ?_)
      · skip
        refine zV_iload_n (i := 2) (n := 42) C dX9_of_41 rfl rfl rfl ?_
        refine zV_bipush (n := 44) C dX9_of_42 (by decide) rfl ?_
        refine zV_icmp_ne (n := 47) C 55 dX9_of_44 (by decide) (by first | omega | exact zb_rg) (by first | omega | exact zb_rg) rfl (fun h44 => ?_) (fun h44 => ?_)
        · skip
          refine zV_aload_n (i := 0) (n := 56) C dX9_of_55 rfl rfl rfl ?_
          refine zV_iload_n (i := 1) (n := 57) C dX9_of_56 rfl rfl rfl ?_
          refine zV_callV1u (n := 60) C zk8 jX9_frets lX9_105 (m_frets (d := d) I (by omega) (by omega)) dX9_of_57 zs_ref rfl (Nat.le_of_ble_eq_true rfl) (zfit_of (by omega) (by decide)) ⟨Nat.le_refl _, Nat.le_refl _⟩ rfl ?_
          exact zV_ireturn C hr hlk dX9_of_60 (by first | exact congrArg (fun z => some (Value.int (zi z))) (zif_t (by omega) (zif_t (by omega) rfl)) | exact congrArg (fun z => some (Value.int (zi z))) (zif_t (by omega) (zif_f (by omega) (zif_t (by omega) rfl))) | exact congrArg (fun z => some (Value.int (zi z))) (zif_t (by omega) (zif_f (by omega) (zif_f (by omega) rfl))) | exact congrArg (fun z => some (Value.int (zi z))) (zif_f (by omega) rfl)) (by first | exact zif_t (by omega) (rfl) | exact zif_f (by omega) rfl)
        · skip
          refine zV_aload_n (i := 0) (n := 48) C dX9_of_47 rfl rfl rfl ?_
          refine zV_iload_n (i := 1) (n := 49) C dX9_of_48 rfl rfl rfl ?_
          refine zV_callV1u (n := 52) C zk8 jX9_seatedAt lX9_91 (m_seatedAt (d := d) I (by omega)) dX9_of_49 zs_ref rfl (Nat.le_of_ble_eq_true rfl) (zfit_of (by omega) (by decide)) ⟨Nat.le_refl _, Nat.le_refl _⟩ rfl ?_
          refine zV_goto C 60 dX9_of_52 (by decide) ?_
          exact zV_ireturn C hr hlk dX9_of_60 (by first | exact congrArg (fun z => some (Value.int (zi z))) (zif_t (by omega) (zif_t (by omega) rfl)) | exact congrArg (fun z => some (Value.int (zi z))) (zif_t (by omega) (zif_f (by omega) (zif_t (by omega) rfl))) | exact congrArg (fun z => some (Value.int (zi z))) (zif_t (by omega) (zif_f (by omega) (zif_f (by omega) rfl))) | exact congrArg (fun z => some (Value.int (zi z))) (zif_f (by omega) rfl)) (by first | exact zif_t (by omega) (rfl) | exact zif_f (by omega) rfl)
      · skip
        refine zV_aload_n (i := 0) (n := 33) C dX9_of_32 rfl rfl rfl ?_
        refine zV_iload_n (i := 1) (n := 34) C dX9_of_33 rfl rfl rfl ?_
        refine zV_iload_n (i := 2) (n := 35) C dX9_of_34 rfl rfl rfl ?_
        refine zV_callV2u (n := 38) C zk8 jX9_told lX9_94 (m_told (d := d) (by omega)) dX9_of_35 zs_ref rfl (Nat.le_of_ble_eq_true rfl) (zfit_of (by omega) (by decide)) ⟨Nat.le_refl _, Nat.le_refl _⟩ rfl ?_
        refine zV_goto C 60 dX9_of_38 (by decide) ?_
        exact zV_ireturn C hr hlk dX9_of_60 (by first | exact congrArg (fun z => some (Value.int (zi z))) (zif_t (by omega) (zif_t (by omega) rfl)) | exact congrArg (fun z => some (Value.int (zi z))) (zif_t (by omega) (zif_f (by omega) (zif_t (by omega) rfl))) | exact congrArg (fun z => some (Value.int (zi z))) (zif_t (by omega) (zif_f (by omega) (zif_f (by omega) rfl))) | exact congrArg (fun z => some (Value.int (zi z))) (zif_f (by omega) rfl)) (by first | exact zif_t (by omega) (rfl) | exact zif_f (by omega) rfl)
    · skip
      simp only [zb_eq0, Decidable.not_not] at h17
      refine zV_aload_n (i := 0) (n := 21) C dX9_of_20 rfl rfl rfl ?_
      refine zV_ldc (n := 23) C dX9_of_21 kX9_51 rfl ?_
      refine zV_callV1u (n := 26) C zk8 jX9_finds lX9_75 (m_finds (d := d) (by omega)) dX9_of_23 zs_ref rfl (Nat.le_of_ble_eq_true rfl) (zfit_of (by omega) (by decide)) ⟨Nat.le_refl _, Nat.le_refl _⟩ rfl ?_
      exact zV_ireturn C hr hlk dX9_of_26 (by first | exact congrArg (fun z => some (Value.int (zi z))) (zif_t (by omega) (zif_t (by omega) rfl)) | exact congrArg (fun z => some (Value.int (zi z))) (zif_t (by omega) (zif_f (by omega) (zif_t (by omega) rfl))) | exact congrArg (fun z => some (Value.int (zi z))) (zif_t (by omega) (zif_f (by omega) (zif_f (by omega) rfl))) | exact congrArg (fun z => some (Value.int (zi z))) (zif_f (by omega) rfl)) (by first | exact zif_t (by omega) (rfl) | exact zif_f (by omega) rfl)

set_option maxRecDepth 100000 in
set_option maxHeartbeats 4000000 in
theorem m_set {Γ : zC} {l : Launch} {d : Nat} {μ : zMem} {N : Int} (I : rInv N (μ 5 1)) (hN : N ≤ 20000) {x : Int} (hx : -2147483648 ≤ x ∧ x ≤ 2147483647) {w : Int} (hw : -2147483648 ≤ w ∧ w ≤ 2147483647) {v : Int} (hv : -2147483648 ≤ v ∧ v ≤ 2147483647) : zRet Γ l (d + 2) qX9_set [.ref (za Γ 5 0), .int (zi x), .int (zi w), .int (zi v)] μ (some (.int (zi (if ((0 ≤ x ∧ x ≤ μ 5 1 0 - 1) ∧ 0 ≤ v ∧ ((w = 1 ∧ v ≤ 99) ∨ (w = 2 ∧ v ≤ 9) ∨ (w = 3 ∧ v ≤ 1) ∨ (w = 4 ∧ v ≤ 9))) then toS (μ 5 1) x w else -1000000001)))) (if ((0 ≤ x ∧ x ≤ μ 5 1 0 - 1) ∧ 0 ≤ v ∧ ((w = 1 ∧ v ≤ 99) ∨ (w = 2 ∧ v ≤ 9) ∨ (w = 3 ∧ v ≤ 1) ∨ (w = 4 ∧ v ≤ 9))) then zset μ 5 1 (zfu (μ 5 1) (19 + 6 * x + w) v) else zset μ 5 5 (rFind (μ 5 5) (-1000000001))) := by
  refine zRet.mk 1 [.ref (za Γ 5 0), .int (zi x), .int (zi w), .int (zi v), .null] RX9 rfl (by decide +kernel) (Nat.le_of_ble_eq_true rfl) rfl ?_
  intro p e s m below meth c C hr hlk
  have h0 := I.1
  have h1 := I.2.1
  have h2 := I.2.2.1
  have h3 := I.2.2.2.1
  refine zV_iload_n (i := 2) (n := 1) C dX9_set_0 rfl rfl rfl ?_
  refine zV_i2l (n := 2) C dX9_set_1 (by first | omega | exact zb_rg) rfl ?_
  refine zV_lconst (v := 1) (n := 3) C dX9_set_2 rfl rfl ?_
  refine zV_ldc2 (n := 6) C dX9_set_3 kX9_79 rfl ?_
  refine zV_callS3u (n := 9) C jX9_in lX9_54 (m_in (d := d) (by omega) (by omega) (by omega)) dX9_set_6 (Nat.le_of_ble_eq_true rfl) (zfit_of (by omega) (by decide)) ⟨Nat.le_refl _, Nat.le_refl _⟩ rfl ?_
  refine zV_if_eq (n := 12) C 48 dX9_set_9 (by decide) (by first | omega | exact zb_rg) rfl (fun h9 => ?_) (fun h9 => ?_)
  · skip
    simp only [zb_eq0, Decidable.not_not] at h9
    refine zV_iconst (n := 49) C dX9_set_48 rfl ?_
    refine zS_istore_5_4 (n := 51) C dX9_set_49 rfl rfl ?_
    refine zV_aload_n (i := 0) (n := 52) C dX9_set_51 rfl rfl rfl ?_
    refine zV_iload_n (i := 1) (n := 53) C dX9_set_52 rfl rfl rfl ?_
    refine zV_callV1u (n := 56) C zk8 jX9_isChild lX9_100 (m_isChild (d := d) (by omega) (by omega)) dX9_set_53 zs_ref rfl (Nat.le_of_ble_eq_true rfl) (zfit_of (by omega) (by decide)) ⟨Nat.le_refl _, Nat.le_refl _⟩ rfl ?_
    refine zV_if_eq (n := 59) C 77 dX9_set_56 (by decide) (by first | omega | exact zb_rg) rfl (fun h56 => ?_) (fun h56 => ?_)
    · skip
      simp only [zb_eq0, Decidable.not_not] at h56
      refine zV_aload_n (i := 0) (n := 78) C dX9_set_77 rfl rfl rfl ?_
      refine zV_ldc (n := 80) C dX9_set_78 kX9_51 rfl ?_
      refine zV_callV1u (n := 83) C zk8 jX9_finds lX9_75 (m_finds (d := d) (by omega)) dX9_set_80 zs_ref rfl (Nat.le_of_ble_eq_true rfl) (zfit_of (by omega) (by decide)) ⟨Nat.le_refl _, Nat.le_refl _⟩ rfl ?_
      exact zV_ireturn C hr hlk dX9_set_83 (by first | exact congrArg (fun z => some (Value.int (zi z))) (zif_t (by omega) (rfl)) | exact congrArg (fun z => some (Value.int (zi z))) (zif_f (by omega) rfl)) (by first | exact zif_t (by omega) (rfl) | exact zif_f (by omega) rfl)
    · skip
      simp only [zb_eq0, Decidable.not_not] at h56
      refine zV_iload (n := 61) C dX9_set_59 rfl rfl ?_
      refine zV_if_eq (n := 64) C 77 dX9_set_61 (by decide) (by first | omega | exact zb_rg) rfl (fun h61 => ?_) (fun h61 => ?_)
      · skip
        refine zV_aload_n (i := 0) (n := 78) C dX9_set_77 rfl rfl rfl ?_
        refine zV_ldc (n := 80) C dX9_set_78 kX9_51 rfl ?_
        refine zV_callV1u (n := 83) C zk8 jX9_finds lX9_75 (m_finds (d := d) (by omega)) dX9_set_80 zs_ref rfl (Nat.le_of_ble_eq_true rfl) (zfit_of (by omega) (by decide)) ⟨Nat.le_refl _, Nat.le_refl _⟩ rfl ?_
        exact zV_ireturn C hr hlk dX9_set_83 (by first | exact congrArg (fun z => some (Value.int (zi z))) (zif_t (by omega) (rfl)) | exact congrArg (fun z => some (Value.int (zi z))) (zif_f (by omega) rfl)) (by first | exact zif_t (by omega) (rfl) | exact zif_f (by omega) rfl)
      · skip
        refine zV_aload_n (i := 0) (n := 65) C dX9_set_64 rfl rfl rfl ?_
        refine zV_iload_n (i := 1) (n := 66) C dX9_set_65 rfl rfl rfl ?_
        refine zV_iload_n (i := 2) (n := 67) C dX9_set_66 rfl rfl rfl ?_
        refine zV_callS2u (n := 70) C jX9_placeOf lX9_60 (m_placeOf (d := d) ) dX9_set_67 (Nat.le_of_ble_eq_true rfl) (zfit_of (by omega) (by decide)) ⟨Nat.le_refl _, Nat.le_refl _⟩ rfl ?_
        refine zV_iload_n (i := 3) (n := 71) C dX9_set_70 rfl rfl rfl ?_
        refine zV_callV2u (n := 74) C zk8 jX9_becomes lX9_72 (m_becomes (d := d) (by omega)) dX9_set_71 zs_ref rfl (Nat.le_of_ble_eq_true rfl) (zfit_of (by omega) (by decide)) ⟨Nat.le_refl _, Nat.le_refl _⟩ rfl ?_
        refine zV_goto C 83 dX9_set_74 (by decide) ?_
        exact zV_ireturn C hr hlk dX9_set_83 (by first | exact congrArg (fun z => some (Value.int (zi z))) (zif_t (by omega) (rfl)) | exact congrArg (fun z => some (Value.int (zi z))) (zif_f (by omega) rfl)) (by first | exact zif_t (by omega) (rfl) | exact zif_f (by omega) rfl)
  · skip
    simp only [zb_eq0, Decidable.not_not] at h9
    refine zV_iload_n (i := 3) (n := 13) C dX9_set_12 rfl rfl rfl ?_
    refine zV_i2l (n := 14) C dX9_set_13 (by first | omega | exact zb_rg) rfl ?_
    refine zV_lconst (v := 0) (n := 15) C dX9_set_14 rfl rfl ?_
    refine zV_iload_n (i := 2) (n := 16) C dX9_set_15 rfl rfl rfl ?_
    refine zV_iconst (n := 17) C dX9_set_16 rfl ?_
    refine zV_icmp_ne (n := 20) C 26 dX9_set_17 (by decide) (by first | omega | exact zb_rg) (by first | omega | exact zb_rg) rfl (fun h17 => ?_) (fun h17 => ?_)
    · skip
      refine zV_iload_n (i := 2) (n := 27) C dX9_set_26 rfl rfl rfl ?_
      refine zV_iconst (n := 28) C dX9_set_27 rfl ?_
      refine zV_icmp_ne (n := 31) C 35 dX9_set_28 (by decide) (by first | omega | exact zb_rg) (by first | omega | exact zb_rg) rfl (fun h28 => ?_) (fun h28 => ?_)
      · skip
        refine zV_ldc2 (n := 38) C dX9_set_35 kX9_66 rfl ?_
        refine zV_callS3u (n := 41) C jX9_in lX9_54 (m_in (d := d) (by omega) (by omega) (by omega)) dX9_set_38 (Nat.le_of_ble_eq_true rfl) (zfit_of (by omega) (by decide)) ⟨Nat.le_refl _, Nat.le_refl _⟩ rfl ?_
        refine zV_if_eq (n := 44) C 48 dX9_set_41 (by decide) (by first | omega | exact zb_rg) rfl (fun h41 => ?_) (fun h41 => ?_)
        · skip
          simp only [zb_eq0, Decidable.not_not] at h41
          refine zV_iconst (n := 49) C dX9_set_48 rfl ?_
          refine zS_istore_5_4 (n := 51) C dX9_set_49 rfl rfl ?_
          refine zV_aload_n (i := 0) (n := 52) C dX9_set_51 rfl rfl rfl ?_
          refine zV_iload_n (i := 1) (n := 53) C dX9_set_52 rfl rfl rfl ?_
          refine zV_callV1u (n := 56) C zk8 jX9_isChild lX9_100 (m_isChild (d := d) (by omega) (by omega)) dX9_set_53 zs_ref rfl (Nat.le_of_ble_eq_true rfl) (zfit_of (by omega) (by decide)) ⟨Nat.le_refl _, Nat.le_refl _⟩ rfl ?_
          refine zV_if_eq (n := 59) C 77 dX9_set_56 (by decide) (by first | omega | exact zb_rg) rfl (fun h56 => ?_) (fun h56 => ?_)
          · skip
            simp only [zb_eq0, Decidable.not_not] at h56
            refine zV_aload_n (i := 0) (n := 78) C dX9_set_77 rfl rfl rfl ?_
            refine zV_ldc (n := 80) C dX9_set_78 kX9_51 rfl ?_
            refine zV_callV1u (n := 83) C zk8 jX9_finds lX9_75 (m_finds (d := d) (by omega)) dX9_set_80 zs_ref rfl (Nat.le_of_ble_eq_true rfl) (zfit_of (by omega) (by decide)) ⟨Nat.le_refl _, Nat.le_refl _⟩ rfl ?_
            exact zV_ireturn C hr hlk dX9_set_83 (by first | exact congrArg (fun z => some (Value.int (zi z))) (zif_t (by omega) (rfl)) | exact congrArg (fun z => some (Value.int (zi z))) (zif_f (by omega) rfl)) (by first | exact zif_t (by omega) (rfl) | exact zif_f (by omega) rfl)
          · skip
            simp only [zb_eq0, Decidable.not_not] at h56
            refine zV_iload (n := 61) C dX9_set_59 rfl rfl ?_
            refine zV_if_eq (n := 64) C 77 dX9_set_61 (by decide) (by first | omega | exact zb_rg) rfl (fun h61 => ?_) (fun h61 => ?_)
            · skip
              refine zV_aload_n (i := 0) (n := 78) C dX9_set_77 rfl rfl rfl ?_
              refine zV_ldc (n := 80) C dX9_set_78 kX9_51 rfl ?_
              refine zV_callV1u (n := 83) C zk8 jX9_finds lX9_75 (m_finds (d := d) (by omega)) dX9_set_80 zs_ref rfl (Nat.le_of_ble_eq_true rfl) (zfit_of (by omega) (by decide)) ⟨Nat.le_refl _, Nat.le_refl _⟩ rfl ?_
              exact zV_ireturn C hr hlk dX9_set_83 (by first | exact congrArg (fun z => some (Value.int (zi z))) (zif_t (by omega) (rfl)) | exact congrArg (fun z => some (Value.int (zi z))) (zif_f (by omega) rfl)) (by first | exact zif_t (by omega) (rfl) | exact zif_f (by omega) rfl)
            · skip
              refine zV_aload_n (i := 0) (n := 65) C dX9_set_64 rfl rfl rfl ?_
              refine zV_iload_n (i := 1) (n := 66) C dX9_set_65 rfl rfl rfl ?_
              refine zV_iload_n (i := 2) (n := 67) C dX9_set_66 rfl rfl rfl ?_
              refine zV_callS2u (n := 70) C jX9_placeOf lX9_60 (m_placeOf (d := d) ) dX9_set_67 (Nat.le_of_ble_eq_true rfl) (zfit_of (by omega) (by decide)) ⟨Nat.le_refl _, Nat.le_refl _⟩ rfl ?_
              refine zV_iload_n (i := 3) (n := 71) C dX9_set_70 rfl rfl rfl ?_
              refine zV_callV2u (n := 74) C zk8 jX9_becomes lX9_72 (m_becomes (d := d) (by omega)) dX9_set_71 zs_ref rfl (Nat.le_of_ble_eq_true rfl) (zfit_of (by omega) (by decide)) ⟨Nat.le_refl _, Nat.le_refl _⟩ rfl ?_
              refine zV_goto C 83 dX9_set_74 (by decide) ?_
              exact zV_ireturn C hr hlk dX9_set_83 (by first | exact congrArg (fun z => some (Value.int (zi z))) (zif_t (by omega) (rfl)) | exact congrArg (fun z => some (Value.int (zi z))) (zif_f (by omega) rfl)) (by first | exact zif_t (by omega) (rfl) | exact zif_f (by omega) rfl)
        · skip
          simp only [zb_eq0, Decidable.not_not] at h41
          refine zV_iconst (n := 45) C dX9_set_44 rfl ?_
          refine zV_goto C 49 dX9_set_45 (by decide) ?_
          refine zS_istore_5_4 (n := 51) C dX9_set_49 rfl rfl ?_
          refine zV_aload_n (i := 0) (n := 52) C dX9_set_51 rfl rfl rfl ?_
          refine zV_iload_n (i := 1) (n := 53) C dX9_set_52 rfl rfl rfl ?_
          refine zV_callV1u (n := 56) C zk8 jX9_isChild lX9_100 (m_isChild (d := d) (by omega) (by omega)) dX9_set_53 zs_ref rfl (Nat.le_of_ble_eq_true rfl) (zfit_of (by omega) (by decide)) ⟨Nat.le_refl _, Nat.le_refl _⟩ rfl ?_
          refine zV_if_eq (n := 59) C 77 dX9_set_56 (by decide) (by first | omega | exact zb_rg) rfl (fun h56 => ?_) (fun h56 => ?_)
          · skip
            simp only [zb_eq0, Decidable.not_not] at h56
            refine zV_aload_n (i := 0) (n := 78) C dX9_set_77 rfl rfl rfl ?_
            refine zV_ldc (n := 80) C dX9_set_78 kX9_51 rfl ?_
            refine zV_callV1u (n := 83) C zk8 jX9_finds lX9_75 (m_finds (d := d) (by omega)) dX9_set_80 zs_ref rfl (Nat.le_of_ble_eq_true rfl) (zfit_of (by omega) (by decide)) ⟨Nat.le_refl _, Nat.le_refl _⟩ rfl ?_
            exact zV_ireturn C hr hlk dX9_set_83 (by first | exact congrArg (fun z => some (Value.int (zi z))) (zif_t (by omega) (rfl)) | exact congrArg (fun z => some (Value.int (zi z))) (zif_f (by omega) rfl)) (by first | exact zif_t (by omega) (rfl) | exact zif_f (by omega) rfl)
          · skip
            simp only [zb_eq0, Decidable.not_not] at h56
            refine zV_iload (n := 61) C dX9_set_59 rfl rfl ?_
            refine zV_if_eq (n := 64) C 77 dX9_set_61 (by decide) (by first | omega | exact zb_rg) rfl (fun h61 => ?_) (fun h61 => ?_)
            · skip
              refine zV_aload_n (i := 0) (n := 78) C dX9_set_77 rfl rfl rfl ?_
              refine zV_ldc (n := 80) C dX9_set_78 kX9_51 rfl ?_
              refine zV_callV1u (n := 83) C zk8 jX9_finds lX9_75 (m_finds (d := d) (by omega)) dX9_set_80 zs_ref rfl (Nat.le_of_ble_eq_true rfl) (zfit_of (by omega) (by decide)) ⟨Nat.le_refl _, Nat.le_refl _⟩ rfl ?_
              exact zV_ireturn C hr hlk dX9_set_83 (by first | exact congrArg (fun z => some (Value.int (zi z))) (zif_t (by omega) (rfl)) | exact congrArg (fun z => some (Value.int (zi z))) (zif_f (by omega) rfl)) (by first | exact zif_t (by omega) (rfl) | exact zif_f (by omega) rfl)
            · skip
              refine zV_aload_n (i := 0) (n := 65) C dX9_set_64 rfl rfl rfl ?_
              refine zV_iload_n (i := 1) (n := 66) C dX9_set_65 rfl rfl rfl ?_
              refine zV_iload_n (i := 2) (n := 67) C dX9_set_66 rfl rfl rfl ?_
              refine zV_callS2u (n := 70) C jX9_placeOf lX9_60 (m_placeOf (d := d) ) dX9_set_67 (Nat.le_of_ble_eq_true rfl) (zfit_of (by omega) (by decide)) ⟨Nat.le_refl _, Nat.le_refl _⟩ rfl ?_
              refine zV_iload_n (i := 3) (n := 71) C dX9_set_70 rfl rfl rfl ?_
              refine zV_callV2u (n := 74) C zk8 jX9_becomes lX9_72 (m_becomes (d := d) (by omega)) dX9_set_71 zs_ref rfl (Nat.le_of_ble_eq_true rfl) (zfit_of (by omega) (by decide)) ⟨Nat.le_refl _, Nat.le_refl _⟩ rfl ?_
              refine zV_goto C 83 dX9_set_74 (by decide) ?_
              exact zV_ireturn C hr hlk dX9_set_83 (by first | exact congrArg (fun z => some (Value.int (zi z))) (zif_t (by omega) (rfl)) | exact congrArg (fun z => some (Value.int (zi z))) (zif_f (by omega) rfl)) (by first | exact zif_t (by omega) (rfl) | exact zif_f (by omega) rfl)
      · skip
        refine zV_lconst (v := 1) (n := 32) C dX9_set_31 rfl rfl ?_
        refine zV_goto C 38 dX9_set_32 (by decide) ?_
        refine zV_callS3u (n := 41) C jX9_in lX9_54 (m_in (d := d) (by omega) (by omega) (by omega)) dX9_set_38 (Nat.le_of_ble_eq_true rfl) (zfit_of (by omega) (by decide)) ⟨Nat.le_refl _, Nat.le_refl _⟩ rfl ?_
        refine zV_if_eq (n := 44) C 48 dX9_set_41 (by decide) (by first | omega | exact zb_rg) rfl (fun h41 => ?_) (fun h41 => ?_)
        · skip
          simp only [zb_eq0, Decidable.not_not] at h41
          refine zV_iconst (n := 49) C dX9_set_48 rfl ?_
          refine zS_istore_5_4 (n := 51) C dX9_set_49 rfl rfl ?_
          refine zV_aload_n (i := 0) (n := 52) C dX9_set_51 rfl rfl rfl ?_
          refine zV_iload_n (i := 1) (n := 53) C dX9_set_52 rfl rfl rfl ?_
          refine zV_callV1u (n := 56) C zk8 jX9_isChild lX9_100 (m_isChild (d := d) (by omega) (by omega)) dX9_set_53 zs_ref rfl (Nat.le_of_ble_eq_true rfl) (zfit_of (by omega) (by decide)) ⟨Nat.le_refl _, Nat.le_refl _⟩ rfl ?_
          refine zV_if_eq (n := 59) C 77 dX9_set_56 (by decide) (by first | omega | exact zb_rg) rfl (fun h56 => ?_) (fun h56 => ?_)
          · skip
            simp only [zb_eq0, Decidable.not_not] at h56
            refine zV_aload_n (i := 0) (n := 78) C dX9_set_77 rfl rfl rfl ?_
            refine zV_ldc (n := 80) C dX9_set_78 kX9_51 rfl ?_
            refine zV_callV1u (n := 83) C zk8 jX9_finds lX9_75 (m_finds (d := d) (by omega)) dX9_set_80 zs_ref rfl (Nat.le_of_ble_eq_true rfl) (zfit_of (by omega) (by decide)) ⟨Nat.le_refl _, Nat.le_refl _⟩ rfl ?_
            exact zV_ireturn C hr hlk dX9_set_83 (by first | exact congrArg (fun z => some (Value.int (zi z))) (zif_t (by omega) (rfl)) | exact congrArg (fun z => some (Value.int (zi z))) (zif_f (by omega) rfl)) (by first | exact zif_t (by omega) (rfl) | exact zif_f (by omega) rfl)
          · skip
            simp only [zb_eq0, Decidable.not_not] at h56
            refine zV_iload (n := 61) C dX9_set_59 rfl rfl ?_
            refine zV_if_eq (n := 64) C 77 dX9_set_61 (by decide) (by first | omega | exact zb_rg) rfl (fun h61 => ?_) (fun h61 => ?_)
            · skip
              refine zV_aload_n (i := 0) (n := 78) C dX9_set_77 rfl rfl rfl ?_
              refine zV_ldc (n := 80) C dX9_set_78 kX9_51 rfl ?_
              refine zV_callV1u (n := 83) C zk8 jX9_finds lX9_75 (m_finds (d := d) (by omega)) dX9_set_80 zs_ref rfl (Nat.le_of_ble_eq_true rfl) (zfit_of (by omega) (by decide)) ⟨Nat.le_refl _, Nat.le_refl _⟩ rfl ?_
              exact zV_ireturn C hr hlk dX9_set_83 (by first | exact congrArg (fun z => some (Value.int (zi z))) (zif_t (by omega) (rfl)) | exact congrArg (fun z => some (Value.int (zi z))) (zif_f (by omega) rfl)) (by first | exact zif_t (by omega) (rfl) | exact zif_f (by omega) rfl)
            · skip
              refine zV_aload_n (i := 0) (n := 65) C dX9_set_64 rfl rfl rfl ?_
              refine zV_iload_n (i := 1) (n := 66) C dX9_set_65 rfl rfl rfl ?_
              refine zV_iload_n (i := 2) (n := 67) C dX9_set_66 rfl rfl rfl ?_
              refine zV_callS2u (n := 70) C jX9_placeOf lX9_60 (m_placeOf (d := d) ) dX9_set_67 (Nat.le_of_ble_eq_true rfl) (zfit_of (by omega) (by decide)) ⟨Nat.le_refl _, Nat.le_refl _⟩ rfl ?_
              refine zV_iload_n (i := 3) (n := 71) C dX9_set_70 rfl rfl rfl ?_
              refine zV_callV2u (n := 74) C zk8 jX9_becomes lX9_72 (m_becomes (d := d) (by omega)) dX9_set_71 zs_ref rfl (Nat.le_of_ble_eq_true rfl) (zfit_of (by omega) (by decide)) ⟨Nat.le_refl _, Nat.le_refl _⟩ rfl ?_
              refine zV_goto C 83 dX9_set_74 (by decide) ?_
              exact zV_ireturn C hr hlk dX9_set_83 (by first | exact congrArg (fun z => some (Value.int (zi z))) (zif_t (by omega) (rfl)) | exact congrArg (fun z => some (Value.int (zi z))) (zif_f (by omega) rfl)) (by first | exact zif_t (by omega) (rfl) | exact zif_f (by omega) rfl)
        · skip
          simp only [zb_eq0, Decidable.not_not] at h41
          refine zV_iconst (n := 45) C dX9_set_44 rfl ?_
          refine zV_goto C 49 dX9_set_45 (by decide) ?_
          refine zS_istore_5_4 (n := 51) C dX9_set_49 rfl rfl ?_
          refine zV_aload_n (i := 0) (n := 52) C dX9_set_51 rfl rfl rfl ?_
          refine zV_iload_n (i := 1) (n := 53) C dX9_set_52 rfl rfl rfl ?_
          refine zV_callV1u (n := 56) C zk8 jX9_isChild lX9_100 (m_isChild (d := d) (by omega) (by omega)) dX9_set_53 zs_ref rfl (Nat.le_of_ble_eq_true rfl) (zfit_of (by omega) (by decide)) ⟨Nat.le_refl _, Nat.le_refl _⟩ rfl ?_
          refine zV_if_eq (n := 59) C 77 dX9_set_56 (by decide) (by first | omega | exact zb_rg) rfl (fun h56 => ?_) (fun h56 => ?_)
          · skip
            simp only [zb_eq0, Decidable.not_not] at h56
            refine zV_aload_n (i := 0) (n := 78) C dX9_set_77 rfl rfl rfl ?_
            refine zV_ldc (n := 80) C dX9_set_78 kX9_51 rfl ?_
            refine zV_callV1u (n := 83) C zk8 jX9_finds lX9_75 (m_finds (d := d) (by omega)) dX9_set_80 zs_ref rfl (Nat.le_of_ble_eq_true rfl) (zfit_of (by omega) (by decide)) ⟨Nat.le_refl _, Nat.le_refl _⟩ rfl ?_
            exact zV_ireturn C hr hlk dX9_set_83 (by first | exact congrArg (fun z => some (Value.int (zi z))) (zif_t (by omega) (rfl)) | exact congrArg (fun z => some (Value.int (zi z))) (zif_f (by omega) rfl)) (by first | exact zif_t (by omega) (rfl) | exact zif_f (by omega) rfl)
          · skip
            simp only [zb_eq0, Decidable.not_not] at h56
            refine zV_iload (n := 61) C dX9_set_59 rfl rfl ?_
            refine zV_if_eq (n := 64) C 77 dX9_set_61 (by decide) (by first | omega | exact zb_rg) rfl (fun h61 => ?_) (fun h61 => ?_)
            · skip
              refine zV_aload_n (i := 0) (n := 78) C dX9_set_77 rfl rfl rfl ?_
              refine zV_ldc (n := 80) C dX9_set_78 kX9_51 rfl ?_
              refine zV_callV1u (n := 83) C zk8 jX9_finds lX9_75 (m_finds (d := d) (by omega)) dX9_set_80 zs_ref rfl (Nat.le_of_ble_eq_true rfl) (zfit_of (by omega) (by decide)) ⟨Nat.le_refl _, Nat.le_refl _⟩ rfl ?_
              exact zV_ireturn C hr hlk dX9_set_83 (by first | exact congrArg (fun z => some (Value.int (zi z))) (zif_t (by omega) (rfl)) | exact congrArg (fun z => some (Value.int (zi z))) (zif_f (by omega) rfl)) (by first | exact zif_t (by omega) (rfl) | exact zif_f (by omega) rfl)
            · skip
              refine zV_aload_n (i := 0) (n := 65) C dX9_set_64 rfl rfl rfl ?_
              refine zV_iload_n (i := 1) (n := 66) C dX9_set_65 rfl rfl rfl ?_
              refine zV_iload_n (i := 2) (n := 67) C dX9_set_66 rfl rfl rfl ?_
              refine zV_callS2u (n := 70) C jX9_placeOf lX9_60 (m_placeOf (d := d) ) dX9_set_67 (Nat.le_of_ble_eq_true rfl) (zfit_of (by omega) (by decide)) ⟨Nat.le_refl _, Nat.le_refl _⟩ rfl ?_
              refine zV_iload_n (i := 3) (n := 71) C dX9_set_70 rfl rfl rfl ?_
              refine zV_callV2u (n := 74) C zk8 jX9_becomes lX9_72 (m_becomes (d := d) (by omega)) dX9_set_71 zs_ref rfl (Nat.le_of_ble_eq_true rfl) (zfit_of (by omega) (by decide)) ⟨Nat.le_refl _, Nat.le_refl _⟩ rfl ?_
              refine zV_goto C 83 dX9_set_74 (by decide) ?_
              exact zV_ireturn C hr hlk dX9_set_83 (by first | exact congrArg (fun z => some (Value.int (zi z))) (zif_t (by omega) (rfl)) | exact congrArg (fun z => some (Value.int (zi z))) (zif_f (by omega) rfl)) (by first | exact zif_t (by omega) (rfl) | exact zif_f (by omega) rfl)
    · skip
      refine zV_ldc2 (n := 23) C dX9_set_20 kX9_108 rfl ?_
      refine zV_goto C 38 dX9_set_23 (by decide) ?_
      refine zV_callS3u (n := 41) C jX9_in lX9_54 (m_in (d := d) (by omega) (by omega) (by omega)) dX9_set_38 (Nat.le_of_ble_eq_true rfl) (zfit_of (by omega) (by decide)) ⟨Nat.le_refl _, Nat.le_refl _⟩ rfl ?_
      refine zV_if_eq (n := 44) C 48 dX9_set_41 (by decide) (by first | omega | exact zb_rg) rfl (fun h41 => ?_) (fun h41 => ?_)
      · skip
        simp only [zb_eq0, Decidable.not_not] at h41
        refine zV_iconst (n := 49) C dX9_set_48 rfl ?_
        refine zS_istore_5_4 (n := 51) C dX9_set_49 rfl rfl ?_
        refine zV_aload_n (i := 0) (n := 52) C dX9_set_51 rfl rfl rfl ?_
        refine zV_iload_n (i := 1) (n := 53) C dX9_set_52 rfl rfl rfl ?_
        refine zV_callV1u (n := 56) C zk8 jX9_isChild lX9_100 (m_isChild (d := d) (by omega) (by omega)) dX9_set_53 zs_ref rfl (Nat.le_of_ble_eq_true rfl) (zfit_of (by omega) (by decide)) ⟨Nat.le_refl _, Nat.le_refl _⟩ rfl ?_
        refine zV_if_eq (n := 59) C 77 dX9_set_56 (by decide) (by first | omega | exact zb_rg) rfl (fun h56 => ?_) (fun h56 => ?_)
        · skip
          simp only [zb_eq0, Decidable.not_not] at h56
          refine zV_aload_n (i := 0) (n := 78) C dX9_set_77 rfl rfl rfl ?_
          refine zV_ldc (n := 80) C dX9_set_78 kX9_51 rfl ?_
          refine zV_callV1u (n := 83) C zk8 jX9_finds lX9_75 (m_finds (d := d) (by omega)) dX9_set_80 zs_ref rfl (Nat.le_of_ble_eq_true rfl) (zfit_of (by omega) (by decide)) ⟨Nat.le_refl _, Nat.le_refl _⟩ rfl ?_
          exact zV_ireturn C hr hlk dX9_set_83 (by first | exact congrArg (fun z => some (Value.int (zi z))) (zif_t (by omega) (rfl)) | exact congrArg (fun z => some (Value.int (zi z))) (zif_f (by omega) rfl)) (by first | exact zif_t (by omega) (rfl) | exact zif_f (by omega) rfl)
        · skip
          simp only [zb_eq0, Decidable.not_not] at h56
          refine zV_iload (n := 61) C dX9_set_59 rfl rfl ?_
          refine zV_if_eq (n := 64) C 77 dX9_set_61 (by decide) (by first | omega | exact zb_rg) rfl (fun h61 => ?_) (fun h61 => ?_)
          · skip
            refine zV_aload_n (i := 0) (n := 78) C dX9_set_77 rfl rfl rfl ?_
            refine zV_ldc (n := 80) C dX9_set_78 kX9_51 rfl ?_
            refine zV_callV1u (n := 83) C zk8 jX9_finds lX9_75 (m_finds (d := d) (by omega)) dX9_set_80 zs_ref rfl (Nat.le_of_ble_eq_true rfl) (zfit_of (by omega) (by decide)) ⟨Nat.le_refl _, Nat.le_refl _⟩ rfl ?_
            exact zV_ireturn C hr hlk dX9_set_83 (by first | exact congrArg (fun z => some (Value.int (zi z))) (zif_t (by omega) (rfl)) | exact congrArg (fun z => some (Value.int (zi z))) (zif_f (by omega) rfl)) (by first | exact zif_t (by omega) (rfl) | exact zif_f (by omega) rfl)
          · skip
            refine zV_aload_n (i := 0) (n := 65) C dX9_set_64 rfl rfl rfl ?_
            refine zV_iload_n (i := 1) (n := 66) C dX9_set_65 rfl rfl rfl ?_
            refine zV_iload_n (i := 2) (n := 67) C dX9_set_66 rfl rfl rfl ?_
            refine zV_callS2u (n := 70) C jX9_placeOf lX9_60 (m_placeOf (d := d) ) dX9_set_67 (Nat.le_of_ble_eq_true rfl) (zfit_of (by omega) (by decide)) ⟨Nat.le_refl _, Nat.le_refl _⟩ rfl ?_
            refine zV_iload_n (i := 3) (n := 71) C dX9_set_70 rfl rfl rfl ?_
            refine zV_callV2u (n := 74) C zk8 jX9_becomes lX9_72 (m_becomes (d := d) (by omega)) dX9_set_71 zs_ref rfl (Nat.le_of_ble_eq_true rfl) (zfit_of (by omega) (by decide)) ⟨Nat.le_refl _, Nat.le_refl _⟩ rfl ?_
            refine zV_goto C 83 dX9_set_74 (by decide) ?_
            exact zV_ireturn C hr hlk dX9_set_83 (by first | exact congrArg (fun z => some (Value.int (zi z))) (zif_t (by omega) (rfl)) | exact congrArg (fun z => some (Value.int (zi z))) (zif_f (by omega) rfl)) (by first | exact zif_t (by omega) (rfl) | exact zif_f (by omega) rfl)
      · skip
        simp only [zb_eq0, Decidable.not_not] at h41
        refine zV_iconst (n := 45) C dX9_set_44 rfl ?_
        refine zV_goto C 49 dX9_set_45 (by decide) ?_
        refine zS_istore_5_4 (n := 51) C dX9_set_49 rfl rfl ?_
        refine zV_aload_n (i := 0) (n := 52) C dX9_set_51 rfl rfl rfl ?_
        refine zV_iload_n (i := 1) (n := 53) C dX9_set_52 rfl rfl rfl ?_
        refine zV_callV1u (n := 56) C zk8 jX9_isChild lX9_100 (m_isChild (d := d) (by omega) (by omega)) dX9_set_53 zs_ref rfl (Nat.le_of_ble_eq_true rfl) (zfit_of (by omega) (by decide)) ⟨Nat.le_refl _, Nat.le_refl _⟩ rfl ?_
        refine zV_if_eq (n := 59) C 77 dX9_set_56 (by decide) (by first | omega | exact zb_rg) rfl (fun h56 => ?_) (fun h56 => ?_)
        · skip
          simp only [zb_eq0, Decidable.not_not] at h56
          refine zV_aload_n (i := 0) (n := 78) C dX9_set_77 rfl rfl rfl ?_
          refine zV_ldc (n := 80) C dX9_set_78 kX9_51 rfl ?_
          refine zV_callV1u (n := 83) C zk8 jX9_finds lX9_75 (m_finds (d := d) (by omega)) dX9_set_80 zs_ref rfl (Nat.le_of_ble_eq_true rfl) (zfit_of (by omega) (by decide)) ⟨Nat.le_refl _, Nat.le_refl _⟩ rfl ?_
          exact zV_ireturn C hr hlk dX9_set_83 (by first | exact congrArg (fun z => some (Value.int (zi z))) (zif_t (by omega) (rfl)) | exact congrArg (fun z => some (Value.int (zi z))) (zif_f (by omega) rfl)) (by first | exact zif_t (by omega) (rfl) | exact zif_f (by omega) rfl)
        · skip
          simp only [zb_eq0, Decidable.not_not] at h56
          refine zV_iload (n := 61) C dX9_set_59 rfl rfl ?_
          refine zV_if_eq (n := 64) C 77 dX9_set_61 (by decide) (by first | omega | exact zb_rg) rfl (fun h61 => ?_) (fun h61 => ?_)
          · skip
            refine zV_aload_n (i := 0) (n := 78) C dX9_set_77 rfl rfl rfl ?_
            refine zV_ldc (n := 80) C dX9_set_78 kX9_51 rfl ?_
            refine zV_callV1u (n := 83) C zk8 jX9_finds lX9_75 (m_finds (d := d) (by omega)) dX9_set_80 zs_ref rfl (Nat.le_of_ble_eq_true rfl) (zfit_of (by omega) (by decide)) ⟨Nat.le_refl _, Nat.le_refl _⟩ rfl ?_
            exact zV_ireturn C hr hlk dX9_set_83 (by first | exact congrArg (fun z => some (Value.int (zi z))) (zif_t (by omega) (rfl)) | exact congrArg (fun z => some (Value.int (zi z))) (zif_f (by omega) rfl)) (by first | exact zif_t (by omega) (rfl) | exact zif_f (by omega) rfl)
          · skip
            refine zV_aload_n (i := 0) (n := 65) C dX9_set_64 rfl rfl rfl ?_
            refine zV_iload_n (i := 1) (n := 66) C dX9_set_65 rfl rfl rfl ?_
            refine zV_iload_n (i := 2) (n := 67) C dX9_set_66 rfl rfl rfl ?_
            refine zV_callS2u (n := 70) C jX9_placeOf lX9_60 (m_placeOf (d := d) ) dX9_set_67 (Nat.le_of_ble_eq_true rfl) (zfit_of (by omega) (by decide)) ⟨Nat.le_refl _, Nat.le_refl _⟩ rfl ?_
            refine zV_iload_n (i := 3) (n := 71) C dX9_set_70 rfl rfl rfl ?_
            refine zV_callV2u (n := 74) C zk8 jX9_becomes lX9_72 (m_becomes (d := d) (by omega)) dX9_set_71 zs_ref rfl (Nat.le_of_ble_eq_true rfl) (zfit_of (by omega) (by decide)) ⟨Nat.le_refl _, Nat.le_refl _⟩ rfl ?_
            refine zV_goto C 83 dX9_set_74 (by decide) ?_
            exact zV_ireturn C hr hlk dX9_set_83 (by first | exact congrArg (fun z => some (Value.int (zi z))) (zif_t (by omega) (rfl)) | exact congrArg (fun z => some (Value.int (zi z))) (zif_f (by omega) rfl)) (by first | exact zif_t (by omega) (rfl) | exact zif_f (by omega) rfl)

set_option maxRecDepth 100000 in
set_option maxHeartbeats 4000000 in
theorem m_turn {Γ : zC} {l : Launch} {d : Nat} {μ : zMem} {N : Int} (I : rInv N (μ 5 1)) (hN : N ≤ 20000) {x : Int} (hx : -2147483648 ≤ x ∧ x ≤ 2147483647) {v : Int} (hv : -2147483648 ≤ v ∧ v ≤ 2147483647) : zRet Γ l (d + 2) qX9_turn [.ref (za Γ 5 0), .int (zi x), .int (zi v)] μ (some (.int (zi (if ((0 ≤ x ∧ x ≤ μ 5 1 0 - 1) ∧ (0 ≤ v ∧ v ≤ 5)) then toS (μ 5 1) x 0 else -1000000001)))) (if ((0 ≤ x ∧ x ≤ μ 5 1 0 - 1) ∧ (0 ≤ v ∧ v ≤ 5)) then zset μ 5 1 (zfu (μ 5 1) (19 + 6 * x + 0) v) else zset μ 5 5 (rFind (μ 5 5) (-1000000001))) := by
  refine zRet.mk 0 [.ref (za Γ 5 0), .int (zi x), .int (zi v)] RX9 rfl (by decide +kernel) (Nat.le_of_ble_eq_true rfl) rfl ?_
  intro p e s m below meth c C hr hlk
  have h0 := I.1
  have h1 := I.2.1
  have h2 := I.2.2.1
  have h3 := I.2.2.2.1
  refine zV_aload_n (i := 0) (n := 1) C dX9_turn_0 rfl rfl rfl ?_
  refine zV_iload_n (i := 1) (n := 2) C dX9_turn_1 rfl rfl rfl ?_
  refine zV_callV1u (n := 5) C zk8 jX9_isChild lX9_100 (m_isChild (d := d) (by omega) (by omega)) dX9_turn_2 zs_ref rfl (Nat.le_of_ble_eq_true rfl) (zfit_of (by omega) (by decide)) ⟨Nat.le_refl _, Nat.le_refl _⟩ rfl ?_
  refine zV_if_eq (n := 8) C 28 dX9_turn_5 (by decide) (by first | omega | exact zb_rg) rfl (fun h5 => ?_) (fun h5 => ?_)
  · skip
    simp only [zb_eq0, Decidable.not_not] at h5
    refine zV_aload_n (i := 0) (n := 29) C dX9_turn_28 rfl rfl rfl ?_
    refine zV_ldc (n := 31) C dX9_turn_29 kX9_51 rfl ?_
    refine zV_callV1u (n := 34) C zk8 jX9_finds lX9_75 (m_finds (d := d) (by omega)) dX9_turn_31 zs_ref rfl (Nat.le_of_ble_eq_true rfl) (zfit_of (by omega) (by decide)) ⟨Nat.le_refl _, Nat.le_refl _⟩ rfl ?_
    exact zV_ireturn C hr hlk dX9_turn_34 (by first | exact congrArg (fun z => some (Value.int (zi z))) (zif_t (by omega) (rfl)) | exact congrArg (fun z => some (Value.int (zi z))) (zif_f (by omega) rfl)) (by first | exact zif_t (by omega) (rfl) | exact zif_f (by omega) rfl)
  · skip
    simp only [zb_eq0, Decidable.not_not] at h5
    refine zV_iload_n (i := 2) (n := 9) C dX9_turn_8 rfl rfl rfl ?_
    refine zV_callS1u (n := 12) C jX9_isKind lX9_81 (m_isKind (d := d) (by omega)) dX9_turn_9 (Nat.le_of_ble_eq_true rfl) (zfit_of (by omega) (by decide)) ⟨Nat.le_refl _, Nat.le_refl _⟩ rfl ?_
    refine zV_if_eq (n := 15) C 28 dX9_turn_12 (by decide) (by first | omega | exact zb_rg) rfl (fun h12 => ?_) (fun h12 => ?_)
    · skip
      simp only [zb_eq0, Decidable.not_not] at h12
      refine zV_aload_n (i := 0) (n := 29) C dX9_turn_28 rfl rfl rfl ?_
      refine zV_ldc (n := 31) C dX9_turn_29 kX9_51 rfl ?_
      refine zV_callV1u (n := 34) C zk8 jX9_finds lX9_75 (m_finds (d := d) (by omega)) dX9_turn_31 zs_ref rfl (Nat.le_of_ble_eq_true rfl) (zfit_of (by omega) (by decide)) ⟨Nat.le_refl _, Nat.le_refl _⟩ rfl ?_
      exact zV_ireturn C hr hlk dX9_turn_34 (by first | exact congrArg (fun z => some (Value.int (zi z))) (zif_t (by omega) (rfl)) | exact congrArg (fun z => some (Value.int (zi z))) (zif_f (by omega) rfl)) (by first | exact zif_t (by omega) (rfl) | exact zif_f (by omega) rfl)
    · skip
      simp only [zb_eq0, Decidable.not_not] at h12
      refine zV_aload_n (i := 0) (n := 16) C dX9_turn_15 rfl rfl rfl ?_
      refine zV_iload_n (i := 1) (n := 17) C dX9_turn_16 rfl rfl rfl ?_
      refine zV_iconst (n := 18) C dX9_turn_17 rfl ?_
      refine zV_callS2u (n := 21) C jX9_placeOf lX9_60 (m_placeOf (d := d) ) dX9_turn_18 (Nat.le_of_ble_eq_true rfl) (zfit_of (by omega) (by decide)) ⟨Nat.le_refl _, Nat.le_refl _⟩ rfl ?_
      refine zV_iload_n (i := 2) (n := 22) C dX9_turn_21 rfl rfl rfl ?_
      refine zV_callV2u (n := 25) C zk8 jX9_becomes lX9_72 (m_becomes (d := d) (by omega)) dX9_turn_22 zs_ref rfl (Nat.le_of_ble_eq_true rfl) (zfit_of (by omega) (by decide)) ⟨Nat.le_refl _, Nat.le_refl _⟩ rfl ?_
      refine zV_goto C 34 dX9_turn_25 (by decide) ?_
      exact zV_ireturn C hr hlk dX9_turn_34 (by first | exact congrArg (fun z => some (Value.int (zi z))) (zif_t (by omega) (rfl)) | exact congrArg (fun z => some (Value.int (zi z))) (zif_f (by omega) rfl)) (by first | exact zif_t (by omega) (rfl) | exact zif_f (by omega) rfl)

set_option maxRecDepth 100000 in
set_option maxHeartbeats 4000000 in
theorem m_seconds {Γ : zC} {l : Launch} {d : Nat} {μ : zMem} {N : Int} (I : rInv N (μ 5 1)) (hN : N ≤ 20000) {x : Int} (hx : -2147483648 ≤ x ∧ x ≤ 2147483647) {k : Int} (hk : -2147483648 ≤ k ∧ k ≤ 2147483647) : zRet Γ l (d + 4) qX9_seconds [.ref (za Γ 5 0), .int (zi x), .int (zi k)] μ (some (.int (zi (if ((0 ≤ x ∧ x ≤ μ 5 1 0 - 1) ∧ (0 ≤ k ∧ k ≤ 2)) then rSec (μ 5 1) x k else -1000000001)))) (if ((0 ≤ x ∧ x ≤ μ 5 1 0 - 1) ∧ (0 ≤ k ∧ k ≤ 2)) then μ else zset μ 5 5 (rFind (μ 5 5) (-1000000001))) := by
  refine zRet.mk 0 [.ref (za Γ 5 0), .int (zi x), .int (zi k)] RX9 rfl (by decide +kernel) (Nat.le_of_ble_eq_true rfl) rfl ?_
  intro p e s m below meth c C hr hlk
  have h0 := I.1
  have h1 := I.2.1
  have h2 := I.2.2.1
  have h3 := I.2.2.2.1
  refine zV_aload_n (i := 0) (n := 1) C dX9_seconds_0 rfl rfl rfl ?_
  refine zV_iload_n (i := 1) (n := 2) C dX9_seconds_1 rfl rfl rfl ?_
  refine zV_callV1u (n := 5) C zk8 jX9_isChild lX9_100 (m_isChild (d := d) (by omega) (by omega)) dX9_seconds_2 zs_ref rfl (Nat.le_of_ble_eq_true rfl) (zfit_of (by omega) (by decide)) ⟨Nat.le_refl _, Nat.le_refl _⟩ rfl ?_
  refine zV_if_eq (n := 8) C 24 dX9_seconds_5 (by decide) (by first | omega | exact zb_rg) rfl (fun h5 => ?_) (fun h5 => ?_)
  · skip
    simp only [zb_eq0, Decidable.not_not] at h5
    refine zV_aload_n (i := 0) (n := 25) C dX9_seconds_24 rfl rfl rfl ?_
    refine zV_ldc (n := 27) C dX9_seconds_25 kX9_51 rfl ?_
    refine zV_callV1u (n := 30) C zk8 jX9_finds lX9_75 (m_finds (d := d) (by omega)) dX9_seconds_27 zs_ref rfl (Nat.le_of_ble_eq_true rfl) (zfit_of (by omega) (by decide)) ⟨Nat.le_refl _, Nat.le_refl _⟩ rfl ?_
    exact zV_ireturn C hr hlk dX9_seconds_30 (by first | exact congrArg (fun z => some (Value.int (zi z))) (zif_t (by omega) (rfl)) | exact congrArg (fun z => some (Value.int (zi z))) (zif_f (by omega) rfl)) (by first | exact zif_t (by omega) (rfl) | exact zif_f (by omega) rfl)
  · skip
    simp only [zb_eq0, Decidable.not_not] at h5
    refine zV_iload_n (i := 2) (n := 9) C dX9_seconds_8 rfl rfl rfl ?_
    refine zV_callS1u (n := 12) C jX9_isSeat lX9_68 (m_isSeat (d := d) (by omega)) dX9_seconds_9 (Nat.le_of_ble_eq_true rfl) (zfit_of (by omega) (by decide)) ⟨Nat.le_refl _, Nat.le_refl _⟩ rfl ?_
    refine zV_if_eq (n := 15) C 24 dX9_seconds_12 (by decide) (by first | omega | exact zb_rg) rfl (fun h12 => ?_) (fun h12 => ?_)
    · skip
      simp only [zb_eq0, Decidable.not_not] at h12
      refine zV_aload_n (i := 0) (n := 25) C dX9_seconds_24 rfl rfl rfl ?_
      refine zV_ldc (n := 27) C dX9_seconds_25 kX9_51 rfl ?_
      refine zV_callV1u (n := 30) C zk8 jX9_finds lX9_75 (m_finds (d := d) (by omega)) dX9_seconds_27 zs_ref rfl (Nat.le_of_ble_eq_true rfl) (zfit_of (by omega) (by decide)) ⟨Nat.le_refl _, Nat.le_refl _⟩ rfl ?_
      exact zV_ireturn C hr hlk dX9_seconds_30 (by first | exact congrArg (fun z => some (Value.int (zi z))) (zif_t (by omega) (rfl)) | exact congrArg (fun z => some (Value.int (zi z))) (zif_f (by omega) rfl)) (by first | exact zif_t (by omega) (rfl) | exact zif_f (by omega) rfl)
    · skip
      simp only [zb_eq0, Decidable.not_not] at h12
      refine zV_aload_n (i := 0) (n := 16) C dX9_seconds_15 rfl rfl rfl ?_
      refine zV_iload_n (i := 1) (n := 17) C dX9_seconds_16 rfl rfl rfl ?_
      refine zV_iload_n (i := 2) (n := 18) C dX9_seconds_17 rfl rfl rfl ?_
      refine zV_callV2u (n := 21) C zk8 jX9_secondsOf lX9_118 (m_secondsOf (d := d) I (by omega) (by omega)) dX9_seconds_18 zs_ref rfl (Nat.le_of_ble_eq_true rfl) (zfit_of (by omega) (by decide)) ⟨Nat.le_refl _, Nat.le_refl _⟩ rfl ?_
      refine zV_goto C 30 dX9_seconds_21 (by decide) ?_
      exact zV_ireturn C hr hlk dX9_seconds_30 (by first | exact congrArg (fun z => some (Value.int (zi z))) (zif_t (by omega) (rfl)) | exact congrArg (fun z => some (Value.int (zi z))) (zif_f (by omega) rfl)) (by first | exact zif_t (by omega) (rfl) | exact zif_f (by omega) rfl)

set_option maxRecDepth 100000 in
set_option maxHeartbeats 4000000 in
theorem m_snug {Γ : zC} {l : Launch} {d : Nat} {μ : zMem} {N : Int} (I : rInv N (μ 5 1)) (hN : N ≤ 20000) {x : Int} (hx : -2147483648 ≤ x ∧ x ≤ 2147483647) {k : Int} (hk : -2147483648 ≤ k ∧ k ≤ 2147483647) : zRet Γ l (d + 3) qX9_snug [.ref (za Γ 5 0), .int (zi x), .int (zi k)] μ (some (.int (zi (if ((0 ≤ x ∧ x ≤ μ 5 1 0 - 1) ∧ (0 ≤ k ∧ k ≤ 2)) then rSnug (μ 5 1) x k else -1000000001)))) (if ((0 ≤ x ∧ x ≤ μ 5 1 0 - 1) ∧ (0 ≤ k ∧ k ≤ 2)) then μ else zset μ 5 5 (rFind (μ 5 5) (-1000000001))) := by
  refine zRet.mk 0 [.ref (za Γ 5 0), .int (zi x), .int (zi k)] RX9 rfl (by decide +kernel) (Nat.le_of_ble_eq_true rfl) rfl ?_
  intro p e s m below meth c C hr hlk
  have h0 := I.1
  have h1 := I.2.1
  have h2 := I.2.2.1
  have h3 := I.2.2.2.1
  refine zV_aload_n (i := 0) (n := 1) C dX9_snug_0 rfl rfl rfl ?_
  refine zV_iload_n (i := 1) (n := 2) C dX9_snug_1 rfl rfl rfl ?_
  refine zV_callV1u (n := 5) C zk8 jX9_isChild lX9_100 (m_isChild (d := d) (by omega) (by omega)) dX9_snug_2 zs_ref rfl (Nat.le_of_ble_eq_true rfl) (zfit_of (by omega) (by decide)) ⟨Nat.le_refl _, Nat.le_refl _⟩ rfl ?_
  refine zV_if_eq (n := 8) C 24 dX9_snug_5 (by decide) (by first | omega | exact zb_rg) rfl (fun h5 => ?_) (fun h5 => ?_)
  · skip
    simp only [zb_eq0, Decidable.not_not] at h5
    refine zV_aload_n (i := 0) (n := 25) C dX9_snug_24 rfl rfl rfl ?_
    refine zV_ldc (n := 27) C dX9_snug_25 kX9_51 rfl ?_
    refine zV_callV1u (n := 30) C zk8 jX9_finds lX9_75 (m_finds (d := d) (by omega)) dX9_snug_27 zs_ref rfl (Nat.le_of_ble_eq_true rfl) (zfit_of (by omega) (by decide)) ⟨Nat.le_refl _, Nat.le_refl _⟩ rfl ?_
    exact zV_ireturn C hr hlk dX9_snug_30 (by first | exact congrArg (fun z => some (Value.int (zi z))) (zif_t (by omega) (rfl)) | exact congrArg (fun z => some (Value.int (zi z))) (zif_f (by omega) rfl)) (by first | exact zif_t (by omega) (rfl) | exact zif_f (by omega) rfl)
  · skip
    simp only [zb_eq0, Decidable.not_not] at h5
    refine zV_iload_n (i := 2) (n := 9) C dX9_snug_8 rfl rfl rfl ?_
    refine zV_callS1u (n := 12) C jX9_isSeat lX9_68 (m_isSeat (d := d) (by omega)) dX9_snug_9 (Nat.le_of_ble_eq_true rfl) (zfit_of (by omega) (by decide)) ⟨Nat.le_refl _, Nat.le_refl _⟩ rfl ?_
    refine zV_if_eq (n := 15) C 24 dX9_snug_12 (by decide) (by first | omega | exact zb_rg) rfl (fun h12 => ?_) (fun h12 => ?_)
    · skip
      simp only [zb_eq0, Decidable.not_not] at h12
      refine zV_aload_n (i := 0) (n := 25) C dX9_snug_24 rfl rfl rfl ?_
      refine zV_ldc (n := 27) C dX9_snug_25 kX9_51 rfl ?_
      refine zV_callV1u (n := 30) C zk8 jX9_finds lX9_75 (m_finds (d := d) (by omega)) dX9_snug_27 zs_ref rfl (Nat.le_of_ble_eq_true rfl) (zfit_of (by omega) (by decide)) ⟨Nat.le_refl _, Nat.le_refl _⟩ rfl ?_
      exact zV_ireturn C hr hlk dX9_snug_30 (by first | exact congrArg (fun z => some (Value.int (zi z))) (zif_t (by omega) (rfl)) | exact congrArg (fun z => some (Value.int (zi z))) (zif_f (by omega) rfl)) (by first | exact zif_t (by omega) (rfl) | exact zif_f (by omega) rfl)
    · skip
      simp only [zb_eq0, Decidable.not_not] at h12
      refine zV_aload_n (i := 0) (n := 16) C dX9_snug_15 rfl rfl rfl ?_
      refine zV_iload_n (i := 1) (n := 17) C dX9_snug_16 rfl rfl rfl ?_
      refine zV_iload_n (i := 2) (n := 18) C dX9_snug_17 rfl rfl rfl ?_
      refine zV_callV2u (n := 21) C zk8 jX9_snugOf lX9_121 (m_snugOf (d := d) I (by omega) (by omega)) dX9_snug_18 zs_ref rfl (Nat.le_of_ble_eq_true rfl) (zfit_of (by omega) (by decide)) ⟨Nat.le_refl _, Nat.le_refl _⟩ rfl ?_
      refine zV_goto C 30 dX9_snug_21 (by decide) ?_
      exact zV_ireturn C hr hlk dX9_snug_30 (by first | exact congrArg (fun z => some (Value.int (zi z))) (zif_t (by omega) (rfl)) | exact congrArg (fun z => some (Value.int (zi z))) (zif_f (by omega) rfl)) (by first | exact zif_t (by omega) (rfl) | exact zif_f (by omega) rfl)

set_option maxRecDepth 100000 in
set_option maxHeartbeats 4000000 in
theorem m_coat {Γ : zC} {l : Launch} {d : Nat} {μ : zMem} {N : Int} (I : rInv N (μ 5 1)) (hN : N ≤ 20000) {x : Int} (hx : -2147483648 ≤ x ∧ x ≤ 2147483647) {k : Int} (hk : -2147483648 ≤ k ∧ k ≤ 2147483647) : zRet Γ l (d + 2) qX9_coat [.ref (za Γ 5 0), .int (zi x), .int (zi k)] μ (some (.int (zi (if ((0 ≤ x ∧ x ≤ μ 5 1 0 - 1) ∧ (0 ≤ k ∧ k ≤ 2)) then 1000 + 4 * toS (μ 5 1) x 3 - (μ 5 1) 3 else -1000000001)))) (if ((0 ≤ x ∧ x ≤ μ 5 1 0 - 1) ∧ (0 ≤ k ∧ k ≤ 2)) then μ else zset μ 5 5 (rFind (μ 5 5) (-1000000001))) := by
  refine zRet.mk 0 [.ref (za Γ 5 0), .int (zi x), .int (zi k)] RX9 rfl (by decide +kernel) (Nat.le_of_ble_eq_true rfl) rfl ?_
  intro p e s m below meth c C hr hlk
  have h0 := I.1
  have h1 := I.2.1
  have h2 := I.2.2.1
  have h3 := I.2.2.2.1
  refine zV_aload_n (i := 0) (n := 1) C dX9_coat_0 rfl rfl rfl ?_
  refine zV_iload_n (i := 1) (n := 2) C dX9_coat_1 rfl rfl rfl ?_
  refine zV_callV1u (n := 5) C zk8 jX9_isChild lX9_100 (m_isChild (d := d) (by omega) (by omega)) dX9_coat_2 zs_ref rfl (Nat.le_of_ble_eq_true rfl) (zfit_of (by omega) (by decide)) ⟨Nat.le_refl _, Nat.le_refl _⟩ rfl ?_
  refine zV_if_eq (n := 8) C 37 dX9_coat_5 (by decide) (by first | omega | exact zb_rg) rfl (fun h5 => ?_) (fun h5 => ?_)
  · skip
    simp only [zb_eq0, Decidable.not_not] at h5
    refine zV_aload_n (i := 0) (n := 38) C dX9_coat_37 rfl rfl rfl ?_
    refine zV_ldc (n := 40) C dX9_coat_38 kX9_51 rfl ?_
    refine zV_callV1u (n := 43) C zk8 jX9_finds lX9_75 (m_finds (d := d) (by omega)) dX9_coat_40 zs_ref rfl (Nat.le_of_ble_eq_true rfl) (zfit_of (by omega) (by decide)) ⟨Nat.le_refl _, Nat.le_refl _⟩ rfl ?_
    exact zV_ireturn C hr hlk dX9_coat_43 (by first | exact congrArg (fun z => some (Value.int (zi z))) (zif_t (by omega) (rfl)) | exact congrArg (fun z => some (Value.int (zi z))) (zif_f (by omega) rfl)) (by first | exact zif_t (by omega) (rfl) | exact zif_f (by omega) rfl)
  · skip
    simp only [zb_eq0, Decidable.not_not] at h5
    refine zV_iload_n (i := 2) (n := 9) C dX9_coat_8 rfl rfl rfl ?_
    refine zV_callS1u (n := 12) C jX9_isSeat lX9_68 (m_isSeat (d := d) (by omega)) dX9_coat_9 (Nat.le_of_ble_eq_true rfl) (zfit_of (by omega) (by decide)) ⟨Nat.le_refl _, Nat.le_refl _⟩ rfl ?_
    refine zV_if_eq (n := 15) C 37 dX9_coat_12 (by decide) (by first | omega | exact zb_rg) rfl (fun h12 => ?_) (fun h12 => ?_)
    · skip
      simp only [zb_eq0, Decidable.not_not] at h12
      refine zV_aload_n (i := 0) (n := 38) C dX9_coat_37 rfl rfl rfl ?_
      refine zV_ldc (n := 40) C dX9_coat_38 kX9_51 rfl ?_
      refine zV_callV1u (n := 43) C zk8 jX9_finds lX9_75 (m_finds (d := d) (by omega)) dX9_coat_40 zs_ref rfl (Nat.le_of_ble_eq_true rfl) (zfit_of (by omega) (by decide)) ⟨Nat.le_refl _, Nat.le_refl _⟩ rfl ?_
      exact zV_ireturn C hr hlk dX9_coat_43 (by first | exact congrArg (fun z => some (Value.int (zi z))) (zif_t (by omega) (rfl)) | exact congrArg (fun z => some (Value.int (zi z))) (zif_f (by omega) rfl)) (by first | exact zif_t (by omega) (rfl) | exact zif_f (by omega) rfl)
    · skip
      simp only [zb_eq0, Decidable.not_not] at h12
      refine zV_sipush (n := 18) C dX9_coat_15 (by decide) rfl ?_
      refine zV_iconst (n := 19) C dX9_coat_18 rfl ?_
      refine zV_aload_n (i := 0) (n := 20) C dX9_coat_19 rfl rfl rfl ?_
      refine zV_iload_n (i := 1) (n := 21) C dX9_coat_20 rfl rfl rfl ?_
      refine zV_iconst (n := 22) C dX9_coat_21 rfl ?_
      refine zV_callV2u (n := 25) C zk8 jX9_told lX9_94 (m_told (d := d) (by omega)) dX9_coat_22 zs_ref rfl (Nat.le_of_ble_eq_true rfl) (zfit_of (by omega) (by decide)) ⟨Nat.le_refl _, Nat.le_refl _⟩ rfl ?_
      refine zV_imul (n := 26) C dX9_coat_25 rfl ?_
      refine zV_iadd (n := 27) C dX9_coat_26 rfl ?_
      refine zV_aload_n (i := 0) (n := 28) C dX9_coat_27 rfl rfl rfl ?_
      refine zV_getP (f := 0) (n := 31) C zk8 fX9_7 dX9_coat_28 zs_ref rfl (by decide) rfl ?_
      refine zV_iconst (n := 32) C dX9_coat_31 rfl ?_
      refine zV_iald (n := 33) C dX9_coat_32 zs_s (by first | omega | exact zb_rg) (by decide) rfl ?_
      refine zV_isub (n := 34) C dX9_coat_33 rfl ?_
      refine zV_goto C 43 dX9_coat_34 (by decide) ?_
      exact zV_ireturn C hr hlk dX9_coat_43 (by first | exact congrArg (fun z => some (Value.int (zi z))) (zif_t (by omega) (rfl)) | exact congrArg (fun z => some (Value.int (zi z))) (zif_f (by omega) rfl)) (by first | exact zif_t (by omega) (rfl) | exact zif_f (by omega) rfl)

set_option maxRecDepth 100000 in
set_option maxHeartbeats 4000000 in
theorem m_bribe {Γ : zC} {l : Launch} {d : Nat} {μ : zMem} {N : Int} (I : rInv N (μ 5 1)) (hN : N ≤ 20000) {x : Int} (hx : -2147483648 ≤ x ∧ x ≤ 2147483647) : zRet Γ l (d + 4) qX9_bribe [.ref (za Γ 5 0), .int (zi x)] μ (some (.int (zi (if (0 ≤ x ∧ x ≤ μ 5 1 0 - 1) then toS (rBr (μ 5 1) x) x 2 else -1000000001)))) (if (0 ≤ x ∧ x ≤ μ 5 1 0 - 1) then zset μ 5 1 (rBr (μ 5 1) x) else zset μ 5 5 (rFind (μ 5 5) (-1000000001))) := by
  refine zRet.mk 0 [.ref (za Γ 5 0), .int (zi x)] RX9 rfl (by decide +kernel) (Nat.le_of_ble_eq_true rfl) rfl ?_
  intro p e s m below meth c C hr hlk
  have h0 := I.1
  have h1 := I.2.1
  have h2 := I.2.2.1
  have h3 := I.2.2.2.1
  refine zV_aload_n (i := 0) (n := 1) C dX9_bribe_0 rfl rfl rfl ?_
  refine zV_iload_n (i := 1) (n := 2) C dX9_bribe_1 rfl rfl rfl ?_
  refine zV_callV1u (n := 5) C zk8 jX9_isChild lX9_100 (m_isChild (d := d) (by omega) (by omega)) dX9_bribe_2 zs_ref rfl (Nat.le_of_ble_eq_true rfl) (zfit_of (by omega) (by decide)) ⟨Nat.le_refl _, Nat.le_refl _⟩ rfl ?_
  refine zV_if_ne (n := 8) C 15 dX9_bribe_5 (by decide) (by first | omega | exact zb_rg) rfl (fun h5 => ?_) (fun h5 => ?_)
  · skip
    simp only [zb_eq0, Decidable.not_not] at h5
    refine zV_aload_n (i := 0) (n := 16) C dX9_bribe_15 rfl rfl rfl ?_
    refine zV_iload_n (i := 1) (n := 17) C dX9_bribe_16 rfl rfl rfl ?_
    refine zV_callV1v (n := 20) C zk8 jX9_bribed lX9_136 (m_bribed (d := d) I (by omega)) dX9_bribe_17 zs_ref rfl (Nat.le_of_ble_eq_true rfl) (zfit_of (by omega) (by decide)) ⟨Nat.le_refl _, Nat.le_refl _⟩ rfl ?_
    refine zV_aload_n (i := 0) (n := 21) C dX9_bribe_20 rfl rfl rfl ?_
    refine zV_iload_n (i := 1) (n := 22) C dX9_bribe_21 rfl rfl rfl ?_
    refine zV_iconst (n := 23) C dX9_bribe_22 rfl ?_
    refine zV_callV2u (n := 26) C zk8 jX9_told lX9_94 (m_told (d := d) (by omega)) dX9_bribe_23 zs_ref rfl (Nat.le_of_ble_eq_true rfl) (zfit_of (by omega) (by decide)) ⟨Nat.le_refl _, Nat.le_refl _⟩ rfl ?_
    simp only [zset_at]
    exact zV_ireturn C hr hlk dX9_bribe_26 (by first | exact congrArg (fun z => some (Value.int (zi z))) (zif_t (by omega) (rfl)) | exact congrArg (fun z => some (Value.int (zi z))) (zif_f (by omega) rfl)) (by first | exact zif_t (by omega) (rfl) | exact zif_f (by omega) rfl)
  · skip
    simp only [zb_eq0, Decidable.not_not] at h5
    refine zV_aload_n (i := 0) (n := 9) C dX9_bribe_8 rfl rfl rfl ?_
    refine zV_ldc (n := 11) C dX9_bribe_9 kX9_51 rfl ?_
    refine zV_callV1u (n := 14) C zk8 jX9_finds lX9_75 (m_finds (d := d) (by omega)) dX9_bribe_11 zs_ref rfl (Nat.le_of_ble_eq_true rfl) (zfit_of (by omega) (by decide)) ⟨Nat.le_refl _, Nat.le_refl _⟩ rfl ?_
    exact zV_ireturn C hr hlk dX9_bribe_14 (by first | exact congrArg (fun z => some (Value.int (zi z))) (zif_t (by omega) (rfl)) | exact congrArg (fun z => some (Value.int (zi z))) (zif_f (by omega) rfl)) (by first | exact zif_t (by omega) (rfl) | exact zif_f (by omega) rfl)

set_option maxRecDepth 100000 in
set_option maxHeartbeats 4000000 in
theorem m_as {Γ : zC} {l : Launch} {d : Nat} {μ : zMem} {N : Int} (I : rInv N (μ 5 1)) (hN : N ≤ 20000) {x : Int} (hx : -2147483648 ≤ x ∧ x ≤ 2147483647) {v : Int} (hv : -2147483648 ≤ v ∧ v ≤ 2147483647) : zRet Γ l (d + 2) qX9_as [.ref (za Γ 5 0), .int (zi x), .int (zi v)] μ (some (.int (zi (if ((0 ≤ x ∧ x ≤ μ 5 1 0 - 1) ∧ (0 ≤ v ∧ v ≤ 5)) then (if rUnder (toS (μ 5 1) x 0) v then toS (μ 5 1) x 2 else -1000000003) else -1000000001)))) (if ((0 ≤ x ∧ x ≤ μ 5 1 0 - 1) ∧ (0 ≤ v ∧ v ≤ 5)) then (if rUnder (toS (μ 5 1) x 0) v then μ else zset μ 5 5 (rFind (μ 5 5) (-1000000003))) else zset μ 5 5 (rFind (μ 5 5) (-1000000001))) := by
  refine zRet.mk 0 [.ref (za Γ 5 0), .int (zi x), .int (zi v)] RX9 rfl (by decide +kernel) (Nat.le_of_ble_eq_true rfl) rfl ?_
  intro p e s m below meth c C hr hlk
  have h0 := I.1
  have h1 := I.2.1
  have h2 := I.2.2.1
  have h3 := I.2.2.2.1
  refine zV_aload_n (i := 0) (n := 1) C dX9_as_0 rfl rfl rfl ?_
  refine zV_iload_n (i := 1) (n := 2) C dX9_as_1 rfl rfl rfl ?_
  refine zV_callV1u (n := 5) C zk8 jX9_isChild lX9_100 (m_isChild (d := d) (by omega) (by omega)) dX9_as_2 zs_ref rfl (Nat.le_of_ble_eq_true rfl) (zfit_of (by omega) (by decide)) ⟨Nat.le_refl _, Nat.le_refl _⟩ rfl ?_
  refine zV_if_eq (n := 8) C 15 dX9_as_5 (by decide) (by first | omega | exact zb_rg) rfl (fun h5 => ?_) (fun h5 => ?_)
  · skip
    simp only [zb_eq0, Decidable.not_not] at h5
    refine zV_aload_n (i := 0) (n := 16) C dX9_as_15 rfl rfl rfl ?_
    refine zV_ldc (n := 18) C dX9_as_16 kX9_51 rfl ?_
    refine zV_callV1u (n := 21) C zk8 jX9_finds lX9_75 (m_finds (d := d) (by omega)) dX9_as_18 zs_ref rfl (Nat.le_of_ble_eq_true rfl) (zfit_of (by omega) (by decide)) ⟨Nat.le_refl _, Nat.le_refl _⟩ rfl ?_
    exact zV_ireturn C hr hlk dX9_as_21 (by first | exact congrArg (fun z => some (Value.int (zi z))) (zif_t (by omega) (zif_t (by omega) (rfl))) | exact congrArg (fun z => some (Value.int (zi z))) (zif_t (by omega) (zif_f (by omega) rfl)) | exact congrArg (fun z => some (Value.int (zi z))) (zif_f (by omega) rfl)) (by first | exact zif_t (by omega) (zif_t (by omega) (rfl)) | exact zif_t (by omega) (zif_f (by omega) rfl) | exact zif_f (by omega) rfl)
  · skip
    simp only [zb_eq0, Decidable.not_not] at h5
    refine zV_iload_n (i := 2) (n := 9) C dX9_as_8 rfl rfl rfl ?_
    refine zV_callS1u (n := 12) C jX9_isKind lX9_81 (m_isKind (d := d) (by omega)) dX9_as_9 (Nat.le_of_ble_eq_true rfl) (zfit_of (by omega) (by decide)) ⟨Nat.le_refl _, Nat.le_refl _⟩ rfl ?_
    refine zV_if_ne (n := 15) C 22 dX9_as_12 (by decide) (by first | omega | exact zb_rg) rfl (fun h12 => ?_) (fun h12 => ?_)
    · skip
      simp only [zb_eq0, Decidable.not_not] at h12
      have hc := I.2.2.2.2.2.1 x (by omega) (by omega)
      refine zV_aload_n (i := 0) (n := 23) C dX9_as_22 rfl rfl rfl ?_
      refine zV_iload_n (i := 1) (n := 24) C dX9_as_23 rfl rfl rfl ?_
      refine zV_iconst (n := 25) C dX9_as_24 rfl ?_
      refine zV_callV2u (n := 28) C zk8 jX9_told lX9_94 (m_told (d := d) (by omega)) dX9_as_25 zs_ref rfl (Nat.le_of_ble_eq_true rfl) (zfit_of (by omega) (by decide)) ⟨Nat.le_refl _, Nat.le_refl _⟩ rfl ?_
      refine zV_iload_n (i := 2) (n := 29) C dX9_as_28 rfl rfl rfl ?_
      refine zV_callS2u (n := 32) C jX9_isUnder lX9_110 (m_isUnder (d := d) (by omega) (by omega)) dX9_as_29 (Nat.le_of_ble_eq_true rfl) (zfit_of (by omega) (by decide)) ⟨Nat.le_refl _, Nat.le_refl _⟩ rfl ?_
      refine zV_if_eq (n := 35) C 44 dX9_as_32 (by decide) (by first | omega | exact zb_rg) rfl (fun h32 => ?_) (fun h32 => ?_)
      · skip
        simp only [zb_eq0, Decidable.not_not] at h32
        refine zV_aload_n (i := 0) (n := 45) C dX9_as_44 rfl rfl rfl ?_
        refine zV_ldc (n := 47) C dX9_as_45 kX9_114 rfl ?_
        refine zV_callV1u (n := 50) C zk8 jX9_finds lX9_75 (m_finds (d := d) (by omega)) dX9_as_47 zs_ref rfl (Nat.le_of_ble_eq_true rfl) (zfit_of (by omega) (by decide)) ⟨Nat.le_refl _, Nat.le_refl _⟩ rfl ?_
        exact zV_ireturn C hr hlk dX9_as_50 (by first | exact congrArg (fun z => some (Value.int (zi z))) (zif_t (by omega) (zif_t (by omega) (rfl))) | exact congrArg (fun z => some (Value.int (zi z))) (zif_t (by omega) (zif_f (by omega) rfl)) | exact congrArg (fun z => some (Value.int (zi z))) (zif_f (by omega) rfl)) (by first | exact zif_t (by omega) (zif_t (by omega) (rfl)) | exact zif_t (by omega) (zif_f (by omega) rfl) | exact zif_f (by omega) rfl)
      · skip
        simp only [zb_eq0, Decidable.not_not] at h32
        refine zV_aload_n (i := 0) (n := 36) C dX9_as_35 rfl rfl rfl ?_
        refine zV_iload_n (i := 1) (n := 37) C dX9_as_36 rfl rfl rfl ?_
        refine zV_iconst (n := 38) C dX9_as_37 rfl ?_
        refine zV_callV2u (n := 41) C zk8 jX9_told lX9_94 (m_told (d := d) (by omega)) dX9_as_38 zs_ref rfl (Nat.le_of_ble_eq_true rfl) (zfit_of (by omega) (by decide)) ⟨Nat.le_refl _, Nat.le_refl _⟩ rfl ?_
        refine zV_goto C 50 dX9_as_41 (by decide) ?_
        exact zV_ireturn C hr hlk dX9_as_50 (by first | exact congrArg (fun z => some (Value.int (zi z))) (zif_t (by omega) (zif_t (by omega) (rfl))) | exact congrArg (fun z => some (Value.int (zi z))) (zif_t (by omega) (zif_f (by omega) rfl)) | exact congrArg (fun z => some (Value.int (zi z))) (zif_f (by omega) rfl)) (by first | exact zif_t (by omega) (zif_t (by omega) (rfl)) | exact zif_t (by omega) (zif_f (by omega) rfl) | exact zif_f (by omega) rfl)
    · skip
      simp only [zb_eq0, Decidable.not_not] at h12
      refine zV_aload_n (i := 0) (n := 16) C dX9_as_15 rfl rfl rfl ?_
      refine zV_ldc (n := 18) C dX9_as_16 kX9_51 rfl ?_
      refine zV_callV1u (n := 21) C zk8 jX9_finds lX9_75 (m_finds (d := d) (by omega)) dX9_as_18 zs_ref rfl (Nat.le_of_ble_eq_true rfl) (zfit_of (by omega) (by decide)) ⟨Nat.le_refl _, Nat.le_refl _⟩ rfl ?_
      exact zV_ireturn C hr hlk dX9_as_21 (by first | exact congrArg (fun z => some (Value.int (zi z))) (zif_t (by omega) (zif_t (by omega) (rfl))) | exact congrArg (fun z => some (Value.int (zi z))) (zif_t (by omega) (zif_f (by omega) rfl)) | exact congrArg (fun z => some (Value.int (zi z))) (zif_f (by omega) rfl)) (by first | exact zif_t (by omega) (zif_t (by omega) (rfl)) | exact zif_t (by omega) (zif_f (by omega) rfl) | exact zif_f (by omega) rfl)

set_option maxRecDepth 100000 in
set_option maxHeartbeats 4000000 in
theorem m_click {Γ : zC} {l : Launch} {d : Nat} {μ : zMem} {N : Int} (I : rInv N (μ 5 1)) (hN : N ≤ 20000) {x : Int} (hx : -2147483648 ≤ x ∧ x ≤ 2147483647) {k : Int} (hk : -2147483648 ≤ k ∧ k ≤ 2147483647) : zRet Γ l (d + 5) qX9_click [.ref (za Γ 5 0), .int (zi x), .int (zi k)] μ (some (.int (zi (if ((0 ≤ x ∧ x ≤ μ 5 1 0 - 1) ∧ (0 ≤ k ∧ k ≤ 2)) then (if (rAt (μ 5 1) x < 0 ∧ ¬ rTk (μ 5 1) k) then toS (rClick (μ 5 1) x k) x 5 else -1000000005) else -1000000001)))) (if ((0 ≤ x ∧ x ≤ μ 5 1 0 - 1) ∧ (0 ≤ k ∧ k ≤ 2)) then (if (rAt (μ 5 1) x < 0 ∧ ¬ rTk (μ 5 1) k) then zset μ 5 1 (rClick (μ 5 1) x k) else zset μ 5 5 (rFind (μ 5 5) (-1000000005))) else zset μ 5 5 (rFind (μ 5 5) (-1000000001))) := by
  refine zRet.mk 1 [.ref (za Γ 5 0), .int (zi x), .int (zi k), .null] RX9 rfl (by decide +kernel) (Nat.le_of_ble_eq_true rfl) rfl ?_
  intro p e s m below meth c C hr hlk
  have ha := rAt_rg (μ 5 1) x
  have h0 := I.1
  have h1 := I.2.1
  have h2 := I.2.2.1
  have h3 := I.2.2.2.1
  refine zV_aload_n (i := 0) (n := 1) C dX9_click_0 rfl rfl rfl ?_
  refine zV_iload_n (i := 1) (n := 2) C dX9_click_1 rfl rfl rfl ?_
  refine zV_callV1u (n := 5) C zk8 jX9_isChild lX9_100 (m_isChild (d := d) (by omega) (by omega)) dX9_click_2 zs_ref rfl (Nat.le_of_ble_eq_true rfl) (zfit_of (by omega) (by decide)) ⟨Nat.le_refl _, Nat.le_refl _⟩ rfl ?_
  refine zV_if_eq (n := 8) C 15 dX9_click_5 (by decide) (by first | omega | exact zb_rg) rfl (fun h5 => ?_) (fun h5 => ?_)
  · skip
    simp only [zb_eq0, Decidable.not_not] at h5
    refine zV_aload_n (i := 0) (n := 16) C dX9_click_15 rfl rfl rfl ?_
    refine zV_ldc (n := 18) C dX9_click_16 kX9_51 rfl ?_
    refine zV_callV1u (n := 21) C zk8 jX9_finds lX9_75 (m_finds (d := d) (by omega)) dX9_click_18 zs_ref rfl (Nat.le_of_ble_eq_true rfl) (zfit_of (by omega) (by decide)) ⟨Nat.le_refl _, Nat.le_refl _⟩ rfl ?_
    exact zV_ireturn C hr hlk dX9_click_21 (by first | exact congrArg (fun z => some (Value.int (zi z))) (zif_t (by omega) (zif_t (by omega) (rfl))) | exact congrArg (fun z => some (Value.int (zi z))) (zif_t (by omega) (zif_f (by omega) rfl)) | exact congrArg (fun z => some (Value.int (zi z))) (zif_f (by omega) rfl)) (by first | exact zif_t (by omega) (zif_t (by omega) (rfl)) | exact zif_t (by omega) (zif_f (by omega) rfl) | exact zif_f (by omega) rfl)
  · skip
    simp only [zb_eq0, Decidable.not_not] at h5
    refine zV_iload_n (i := 2) (n := 9) C dX9_click_8 rfl rfl rfl ?_
    refine zV_callS1u (n := 12) C jX9_isSeat lX9_68 (m_isSeat (d := d) (by omega)) dX9_click_9 (Nat.le_of_ble_eq_true rfl) (zfit_of (by omega) (by decide)) ⟨Nat.le_refl _, Nat.le_refl _⟩ rfl ?_
    refine zV_if_ne (n := 15) C 22 dX9_click_12 (by decide) (by first | omega | exact zb_rg) rfl (fun h12 => ?_) (fun h12 => ?_)
    · skip
      simp only [zb_eq0, Decidable.not_not] at h12
      refine zV_aload_n (i := 0) (n := 23) C dX9_click_22 rfl rfl rfl ?_
      refine zV_iload_n (i := 1) (n := 24) C dX9_click_23 rfl rfl rfl ?_
      refine zV_callV1u (n := 27) C zk8 jX9_seatedAt lX9_91 (m_seatedAt (d := d) I (by omega)) dX9_click_24 zs_ref rfl (Nat.le_of_ble_eq_true rfl) (zfit_of (by omega) (by decide)) ⟨Nat.le_refl _, Nat.le_refl _⟩ rfl ?_
      refine zV_if_ge (n := 30) C 38 dX9_click_27 (by decide) (by first | omega | exact zb_rg) rfl (fun h27 => ?_) (fun h27 => ?_)
      · skip
        refine zV_aload_n (i := 0) (n := 39) C dX9_click_38 rfl rfl rfl ?_
        refine zV_ldc (n := 41) C dX9_click_39 kX9_128 rfl ?_
        refine zV_callV1u (n := 44) C zk8 jX9_finds lX9_75 (m_finds (d := d) (by omega)) dX9_click_41 zs_ref rfl (Nat.le_of_ble_eq_true rfl) (zfit_of (by omega) (by decide)) ⟨Nat.le_refl _, Nat.le_refl _⟩ rfl ?_
        exact zV_ireturn C hr hlk dX9_click_44 (by first | exact congrArg (fun z => some (Value.int (zi z))) (zif_t (by omega) (zif_t (by omega) (rfl))) | exact congrArg (fun z => some (Value.int (zi z))) (zif_t (by omega) (zif_f (by omega) rfl)) | exact congrArg (fun z => some (Value.int (zi z))) (zif_f (by omega) rfl)) (by first | exact zif_t (by omega) (zif_t (by omega) (rfl)) | exact zif_t (by omega) (zif_f (by omega) rfl) | exact zif_f (by omega) rfl)
      · skip
        refine zV_aload_n (i := 0) (n := 31) C dX9_click_30 rfl rfl rfl ?_
        refine zV_iload_n (i := 2) (n := 32) C dX9_click_31 rfl rfl rfl ?_
        refine zV_callV1u (n := 35) C zk8 jX9_isTaken lX9_88 (m_isTaken (d := d) I (by omega)) dX9_click_32 zs_ref rfl (Nat.le_of_ble_eq_true rfl) (zfit_of (by omega) (by decide)) ⟨Nat.le_refl _, Nat.le_refl _⟩ rfl ?_
        refine zV_if_eq (n := 38) C 45 dX9_click_35 (by decide) (by first | omega | exact zb_rg) rfl (fun h35 => ?_) (fun h35 => ?_)
        · skip
          simp only [zb_eq0, Decidable.not_not] at h35
          refine zV_aload_n (i := 0) (n := 46) C dX9_click_45 rfl rfl rfl ?_
          refine zV_iload_n (i := 1) (n := 47) C dX9_click_46 rfl rfl rfl ?_
          refine zV_iload_n (i := 2) (n := 48) C dX9_click_47 rfl rfl rfl ?_
          refine zV_callV2u (n := 51) C zk8 jX9_clicks lX9_129 (m_clicks (d := d) I (by omega) (by omega) (by omega) (by omega)) dX9_click_48 zs_ref rfl (Nat.le_of_ble_eq_true rfl) (zfit_of (by omega) (by decide)) ⟨Nat.le_refl _, Nat.le_refl _⟩ rfl ?_
          refine zS_istore_n_4_3 (n := 52) C dX9_click_51 rfl rfl ?_
          refine zV_aload_n (i := 0) (n := 53) C dX9_click_52 rfl rfl rfl ?_
          refine zV_iload_n (i := 1) (n := 54) C dX9_click_53 rfl rfl rfl ?_
          refine zV_iconst (n := 55) C dX9_click_54 rfl ?_
          refine zV_callV2u (n := 58) C zk8 jX9_told lX9_94 (m_told (d := d) (by omega)) dX9_click_55 zs_ref rfl (Nat.le_of_ble_eq_true rfl) (zfit_of (by omega) (by decide)) ⟨Nat.le_refl _, Nat.le_refl _⟩ rfl ?_
          simp only [zset_at]
          exact zV_ireturn C hr hlk dX9_click_58 (by first | exact congrArg (fun z => some (Value.int (zi z))) (zif_t (by omega) (zif_t (by omega) (rfl))) | exact congrArg (fun z => some (Value.int (zi z))) (zif_t (by omega) (zif_f (by omega) rfl)) | exact congrArg (fun z => some (Value.int (zi z))) (zif_f (by omega) rfl)) (by first | exact zif_t (by omega) (zif_t (by omega) (rfl)) | exact zif_t (by omega) (zif_f (by omega) rfl) | exact zif_f (by omega) rfl)
        · skip
          simp only [zb_eq0, Decidable.not_not] at h35
          refine zV_aload_n (i := 0) (n := 39) C dX9_click_38 rfl rfl rfl ?_
          refine zV_ldc (n := 41) C dX9_click_39 kX9_128 rfl ?_
          refine zV_callV1u (n := 44) C zk8 jX9_finds lX9_75 (m_finds (d := d) (by omega)) dX9_click_41 zs_ref rfl (Nat.le_of_ble_eq_true rfl) (zfit_of (by omega) (by decide)) ⟨Nat.le_refl _, Nat.le_refl _⟩ rfl ?_
          exact zV_ireturn C hr hlk dX9_click_44 (by first | exact congrArg (fun z => some (Value.int (zi z))) (zif_t (by omega) (zif_t (by omega) (rfl))) | exact congrArg (fun z => some (Value.int (zi z))) (zif_t (by omega) (zif_f (by omega) rfl)) | exact congrArg (fun z => some (Value.int (zi z))) (zif_f (by omega) rfl)) (by first | exact zif_t (by omega) (zif_t (by omega) (rfl)) | exact zif_t (by omega) (zif_f (by omega) rfl) | exact zif_f (by omega) rfl)
    · skip
      simp only [zb_eq0, Decidable.not_not] at h12
      refine zV_aload_n (i := 0) (n := 16) C dX9_click_15 rfl rfl rfl ?_
      refine zV_ldc (n := 18) C dX9_click_16 kX9_51 rfl ?_
      refine zV_callV1u (n := 21) C zk8 jX9_finds lX9_75 (m_finds (d := d) (by omega)) dX9_click_18 zs_ref rfl (Nat.le_of_ble_eq_true rfl) (zfit_of (by omega) (by decide)) ⟨Nat.le_refl _, Nat.le_refl _⟩ rfl ?_
      exact zV_ireturn C hr hlk dX9_click_21 (by first | exact congrArg (fun z => some (Value.int (zi z))) (zif_t (by omega) (zif_t (by omega) (rfl))) | exact congrArg (fun z => some (Value.int (zi z))) (zif_t (by omega) (zif_f (by omega) rfl)) | exact congrArg (fun z => some (Value.int (zi z))) (zif_f (by omega) rfl)) (by first | exact zif_t (by omega) (zif_t (by omega) (rfl)) | exact zif_t (by omega) (zif_f (by omega) rfl) | exact zif_f (by omega) rfl)

set_option maxRecDepth 100000 in
set_option maxHeartbeats 4000000 in
theorem m_letOut {Γ : zC} {l : Launch} {d : Nat} {μ : zMem} {N : Int} (I : rInv N (μ 5 1)) (hN : N ≤ 20000) {x : Int} (hx : -2147483648 ≤ x ∧ x ≤ 2147483647) : zRet Γ l (d + 3) qX9_letOut [.ref (za Γ 5 0), .int (zi x)] μ (some (.int (zi (if (0 ≤ x ∧ x ≤ μ 5 1 0 - 1) then (if 0 ≤ rAt (μ 5 1) x then rAt (μ 5 1) x else -1000000005) else -1000000001)))) (if (0 ≤ x ∧ x ≤ μ 5 1 0 - 1) then (if 0 ≤ rAt (μ 5 1) x then zset μ 5 1 (rOut (μ 5 1) (rAt (μ 5 1) x)) else zset μ 5 5 (rFind (μ 5 5) (-1000000005))) else zset μ 5 5 (rFind (μ 5 5) (-1000000001))) := by
  refine zRet.mk 1 [.ref (za Γ 5 0), .int (zi x), .null] RX9 rfl (by decide +kernel) (Nat.le_of_ble_eq_true rfl) rfl ?_
  intro p e s m below meth c C hr hlk
  have ha := rAt_rg (μ 5 1) x
  have h0 := I.1
  have h1 := I.2.1
  have h2 := I.2.2.1
  have h3 := I.2.2.2.1
  refine zV_aload_n (i := 0) (n := 1) C dX9_letOut_0 rfl rfl rfl ?_
  refine zV_iload_n (i := 1) (n := 2) C dX9_letOut_1 rfl rfl rfl ?_
  refine zV_callV1u (n := 5) C zk8 jX9_isChild lX9_100 (m_isChild (d := d) (by omega) (by omega)) dX9_letOut_2 zs_ref rfl (Nat.le_of_ble_eq_true rfl) (zfit_of (by omega) (by decide)) ⟨Nat.le_refl _, Nat.le_refl _⟩ rfl ?_
  refine zV_if_ne (n := 8) C 15 dX9_letOut_5 (by decide) (by first | omega | exact zb_rg) rfl (fun h5 => ?_) (fun h5 => ?_)
  · skip
    simp only [zb_eq0, Decidable.not_not] at h5
    refine zV_aload_n (i := 0) (n := 16) C dX9_letOut_15 rfl rfl rfl ?_
    refine zV_iload_n (i := 1) (n := 17) C dX9_letOut_16 rfl rfl rfl ?_
    refine zV_callV1u (n := 20) C zk8 jX9_seatedAt lX9_91 (m_seatedAt (d := d) I (by omega)) dX9_letOut_17 zs_ref rfl (Nat.le_of_ble_eq_true rfl) (zfit_of (by omega) (by decide)) ⟨Nat.le_refl _, Nat.le_refl _⟩ rfl ?_
    refine zS_istore_n_3_2 (n := 21) C dX9_letOut_20 rfl rfl ?_
    refine zV_iload_n (i := 2) (n := 22) C dX9_letOut_21 rfl rfl rfl ?_
    refine zV_if_ge (n := 25) C 32 dX9_letOut_22 (by decide) (by first | omega | exact zb_rg) rfl (fun h22 => ?_) (fun h22 => ?_)
    · skip
      refine zV_aload_n (i := 0) (n := 33) C dX9_letOut_32 rfl rfl rfl ?_
      refine zV_iload_n (i := 2) (n := 34) C dX9_letOut_33 rfl rfl rfl ?_
      refine zV_callV1v (n := 37) C zk8 jX9_goesOut lX9_132 (m_goesOut (d := d) I (by omega) (rAt_tk (by omega) (by omega))) dX9_letOut_34 zs_ref rfl (Nat.le_of_ble_eq_true rfl) (zfit_of (by omega) (by decide)) ⟨Nat.le_refl _, Nat.le_refl _⟩ rfl ?_
      refine zV_iload_n (i := 2) (n := 38) C dX9_letOut_37 rfl rfl rfl ?_
      exact zV_ireturn C hr hlk dX9_letOut_38 (by first | exact congrArg (fun z => some (Value.int (zi z))) (zif_t (by omega) (zif_t (by omega) (rfl))) | exact congrArg (fun z => some (Value.int (zi z))) (zif_t (by omega) (zif_f (by omega) rfl)) | exact congrArg (fun z => some (Value.int (zi z))) (zif_f (by omega) rfl)) (by first | exact zif_t (by omega) (zif_t (by omega) (rfl)) | exact zif_t (by omega) (zif_f (by omega) rfl) | exact zif_f (by omega) rfl)
    · skip
      refine zV_aload_n (i := 0) (n := 26) C dX9_letOut_25 rfl rfl rfl ?_
      refine zV_ldc (n := 28) C dX9_letOut_26 kX9_128 rfl ?_
      refine zV_callV1u (n := 31) C zk8 jX9_finds lX9_75 (m_finds (d := d) (by omega)) dX9_letOut_28 zs_ref rfl (Nat.le_of_ble_eq_true rfl) (zfit_of (by omega) (by decide)) ⟨Nat.le_refl _, Nat.le_refl _⟩ rfl ?_
      exact zV_ireturn C hr hlk dX9_letOut_31 (by first | exact congrArg (fun z => some (Value.int (zi z))) (zif_t (by omega) (zif_t (by omega) (rfl))) | exact congrArg (fun z => some (Value.int (zi z))) (zif_t (by omega) (zif_f (by omega) rfl)) | exact congrArg (fun z => some (Value.int (zi z))) (zif_f (by omega) rfl)) (by first | exact zif_t (by omega) (zif_t (by omega) (rfl)) | exact zif_t (by omega) (zif_f (by omega) rfl) | exact zif_f (by omega) rfl)
  · skip
    simp only [zb_eq0, Decidable.not_not] at h5
    refine zV_aload_n (i := 0) (n := 9) C dX9_letOut_8 rfl rfl rfl ?_
    refine zV_ldc (n := 11) C dX9_letOut_9 kX9_51 rfl ?_
    refine zV_callV1u (n := 14) C zk8 jX9_finds lX9_75 (m_finds (d := d) (by omega)) dX9_letOut_11 zs_ref rfl (Nat.le_of_ble_eq_true rfl) (zfit_of (by omega) (by decide)) ⟨Nat.le_refl _, Nat.le_refl _⟩ rfl ?_
    exact zV_ireturn C hr hlk dX9_letOut_14 (by first | exact congrArg (fun z => some (Value.int (zi z))) (zif_t (by omega) (zif_t (by omega) (rfl))) | exact congrArg (fun z => some (Value.int (zi z))) (zif_t (by omega) (zif_f (by omega) rfl)) | exact congrArg (fun z => some (Value.int (zi z))) (zif_f (by omega) rfl)) (by first | exact zif_t (by omega) (zif_t (by omega) (rfl)) | exact zif_t (by omega) (zif_f (by omega) rfl) | exact zif_f (by omega) rfl)

