/-! the reference: what is computed of its car (laid by wip/whole/gen/ref2.py) -/
set_option maxRecDepth 100000 in
set_option maxHeartbeats 4000000 in
theorem m_frets {Γ : zC} {l : Launch} {d : Nat} {μ : zMem} {N : Int} (I : rInv N (μ 5 1)) (hN : N ≤ 20000) {x : Int} (hx : 0 ≤ x ∧ x < 6)  : zRet Γ l (d + 4) qX9_frets [.ref (za Γ 5 0), .int (zi x)] μ (some (.int (zi (rFr (μ 5 1) x)))) μ := by
  refine zRet.mk 3 [.ref (za Γ 5 0), .int (zi x), .null, .null, .null] RX9 rfl (by decide +kernel) (Nat.le_of_ble_eq_true rfl) rfl ?_
  intro p e s m below meth c C hr hlk
  have hc := I.2.2.2.2.2.1 x hx.1 hx.2
  have h0 := I.1
  have h1 := I.2.1
  have h2 := I.2.2.1
  have h3 := I.2.2.2.1
  have ha := rAt_rg (μ 5 1) x
  refine zV_aload_n (i := 0) (n := 1) C dX9_frets_0 rfl rfl rfl ?_
  refine zV_iload_n (i := 1) (n := 2) C dX9_frets_1 rfl rfl rfl ?_
  refine zV_callV1u (n := 5) C zk8 jX9_seatedAt lX9_91 (m_seatedAt (d := d) I (by omega)) dX9_frets_2 zs_ref rfl (Nat.le_of_ble_eq_true rfl) (zfit_of (by omega) (by decide)) ⟨Nat.le_refl _, Nat.le_refl _⟩ rfl ?_
  refine zS_istore_n_5_2 (n := 6) C dX9_frets_5 rfl rfl ?_
  refine zV_aload_n (i := 0) (n := 7) C dX9_frets_6 rfl rfl rfl ?_
  refine zV_getP (f := 0) (n := 10) C zk8 fX9_7 dX9_frets_7 zs_ref rfl (by decide) rfl ?_
  refine zV_iconst (n := 11) C dX9_frets_10 rfl ?_
  refine zV_iald (n := 12) C dX9_frets_11 zs_s (by first | omega | exact zb_rg) (by decide) rfl ?_
  refine zV_iconst (n := 13) C dX9_frets_12 rfl ?_
  refine zV_irem (n := 14) C dX9_frets_13 (by first | omega | exact zb_rg) (by first | omega | exact zb_rg) rfl ?_
  refine zV_if_ne (n := 17) C 21 dX9_frets_14 (by decide) (by first | omega | exact zb_rg) rfl (fun h14 => ?_) (fun h14 => ?_)
  · skip
    refine zV_iconst (n := 22) C dX9_frets_21 rfl ?_
    refine zS_istore_n_5_3 (n := 23) C dX9_frets_22 rfl rfl ?_
    refine zV_aload_n (i := 0) (n := 24) C dX9_frets_23 rfl rfl rfl ?_
    refine zV_iload_n (i := 1) (n := 25) C dX9_frets_24 rfl rfl rfl ?_
    refine zV_iconst (n := 26) C dX9_frets_25 rfl ?_
    refine zV_callV2u (n := 29) C zk8 jX9_told lX9_94 (m_told (d := d) (by omega)) dX9_frets_26 zs_ref rfl (Nat.le_of_ble_eq_true rfl) (zfit_of (by omega) (by decide)) ⟨Nat.le_refl _, Nat.le_refl _⟩ rfl ?_
    refine zV_bipush (n := 31) C dX9_frets_29 (by decide) rfl ?_
    refine zV_icmp_le (n := 34) C 40 dX9_frets_31 (by decide) (by first | omega | exact zb_rg) (by first | omega | exact zb_rg) rfl (fun h31 => ?_) (fun h31 => ?_)
    · skip
      refine zV_iload_n (i := 3) (n := 41) C dX9_frets_40 rfl rfl rfl ?_
      refine zS_istore_5_4 (n := 43) C dX9_frets_41 rfl rfl ?_
      refine zV_aload_n (i := 0) (n := 44) C dX9_frets_43 rfl rfl rfl ?_
      refine zV_iload_n (i := 1) (n := 45) C dX9_frets_44 rfl rfl rfl ?_
      refine zV_iconst (n := 46) C dX9_frets_45 rfl ?_
      refine zV_callV2u (n := 49) C zk8 jX9_told lX9_94 (m_told (d := d) (by omega)) dX9_frets_46 zs_ref rfl (Nat.le_of_ble_eq_true rfl) (zfit_of (by omega) (by decide)) ⟨Nat.le_refl _, Nat.le_refl _⟩ rfl ?_
      have hsw49 : toS (μ 5 1) x 0 = 1 ∨ toS (μ 5 1) x 0 = 2 ∨ toS (μ 5 1) x 0 = 3 ∨ toS (μ 5 1) x 0 = 4 ∨ (toS (μ 5 1) x 0 < 1 ∨ 4 < toS (μ 5 1) x 0) := by omega
      rcases hsw49 with hsw | hsw | hsw | hsw | hsw
      · skip
        refine zV_tswIn C 80 dX9_frets_49 (by omega) (by omega) (by omega) (by rw [hsw]; rfl) (by decide) ?_
        refine zV_iload (n := 82) C dX9_frets_80 rfl rfl ?_
        exact zV_ireturn C hr hlk dX9_frets_82 (by exact congrArg (fun z => some (Value.int (zi z))) (by unfold rFr rAr rPl; (repeat' split) <;> omega)) (by rfl)
      · skip
        refine zV_tswIn C 108 dX9_frets_49 (by omega) (by omega) (by omega) (by rw [hsw]; rfl) (by decide) ?_
        refine zV_iload_n (i := 3) (n := 109) C dX9_frets_108 rfl rfl rfl ?_
        exact zV_ireturn C hr hlk dX9_frets_109 (by exact congrArg (fun z => some (Value.int (zi z))) (by unfold rFr rAr rPl; (repeat' split) <;> omega)) (by rfl)
      · skip
        refine zV_tswIn C 83 dX9_frets_49 (by omega) (by omega) (by omega) (by rw [hsw]; rfl) (by decide) ?_
        refine zV_iload_n (i := 2) (n := 84) C dX9_frets_83 rfl rfl rfl ?_
        refine zV_if_lt (n := 87) C 95 dX9_frets_84 (by decide) (by first | omega | exact zb_rg) rfl (fun h84 => ?_) (fun h84 => ?_)
        · skip
          refine zV_iload_n (i := 3) (n := 96) C dX9_frets_95 rfl rfl rfl ?_
          refine zV_iconst (n := 97) C dX9_frets_96 rfl ?_
          refine zV_iadd (n := 98) C dX9_frets_97 rfl ?_
          refine zV_goto C 102 dX9_frets_98 (by decide) ?_
          exact zV_ireturn C hr hlk dX9_frets_102 (by exact congrArg (fun z => some (Value.int (zi z))) (by unfold rFr rAr rPl; (repeat' split) <;> omega)) (by rfl)
        · skip
          refine zV_aload_n (i := 0) (n := 88) C dX9_frets_87 rfl rfl rfl ?_
          refine zV_iload_n (i := 2) (n := 89) C dX9_frets_88 rfl rfl rfl ?_
          refine zV_callV1u (n := 92) C zk8 jX9_isNear lX9_97 (m_isNear (d := d) I (by omega)) dX9_frets_89 zs_ref rfl (Nat.le_of_ble_eq_true rfl) (zfit_of (by omega) (by decide)) ⟨Nat.le_refl _, Nat.le_refl _⟩ rfl ?_
          refine zV_if_ne (n := 95) C 101 dX9_frets_92 (by decide) (by first | omega | exact zb_rg) rfl (fun h92 => ?_) (fun h92 => ?_)
          · skip
            simp only [zb_eq0, Decidable.not_not] at h92
            refine zV_iload_n (i := 3) (n := 102) C dX9_frets_101 rfl rfl rfl ?_
            exact zV_ireturn C hr hlk dX9_frets_102 (by exact congrArg (fun z => some (Value.int (zi z))) (by unfold rFr rAr rPl; (repeat' split) <;> omega)) (by rfl)
          · skip
            simp only [zb_eq0, Decidable.not_not] at h92
            refine zV_iload_n (i := 3) (n := 96) C dX9_frets_95 rfl rfl rfl ?_
            refine zV_iconst (n := 97) C dX9_frets_96 rfl ?_
            refine zV_iadd (n := 98) C dX9_frets_97 rfl ?_
            refine zV_goto C 102 dX9_frets_98 (by decide) ?_
            exact zV_ireturn C hr hlk dX9_frets_102 (by exact congrArg (fun z => some (Value.int (zi z))) (by unfold rFr rAr rPl; (repeat' split) <;> omega)) (by rfl)
      · skip
        refine zV_tswIn C 103 dX9_frets_49 (by omega) (by omega) (by omega) (by rw [hsw]; rfl) (by decide) ?_
        refine zV_iconst (n := 104) C dX9_frets_103 rfl ?_
        refine zV_iload (n := 106) C dX9_frets_104 rfl rfl ?_
        refine zV_imul (n := 107) C dX9_frets_106 rfl ?_
        exact zV_ireturn C hr hlk dX9_frets_107 (by exact congrArg (fun z => some (Value.int (zi z))) (by unfold rFr rAr rPl; (repeat' split) <;> omega)) (by rfl)
      · skip
        refine zV_tswOut C 108 dX9_frets_49 (by omega) (by omega) (by decide) ?_
        refine zV_iload_n (i := 3) (n := 109) C dX9_frets_108 rfl rfl rfl ?_
        exact zV_ireturn C hr hlk dX9_frets_109 (by exact congrArg (fun z => some (Value.int (zi z))) (by unfold rFr rAr rPl; (repeat' split) <;> omega)) (by rfl)
    · skip
      refine zV_iload_n (i := 3) (n := 35) C dX9_frets_34 rfl rfl rfl ?_
      refine zV_iconst (n := 36) C dX9_frets_35 rfl ?_
      refine zV_iadd (n := 37) C dX9_frets_36 rfl ?_
      refine zV_goto C 41 dX9_frets_37 (by decide) ?_
      refine zS_istore_5_4 (n := 43) C dX9_frets_41 rfl rfl ?_
      refine zV_aload_n (i := 0) (n := 44) C dX9_frets_43 rfl rfl rfl ?_
      refine zV_iload_n (i := 1) (n := 45) C dX9_frets_44 rfl rfl rfl ?_
      refine zV_iconst (n := 46) C dX9_frets_45 rfl ?_
      refine zV_callV2u (n := 49) C zk8 jX9_told lX9_94 (m_told (d := d) (by omega)) dX9_frets_46 zs_ref rfl (Nat.le_of_ble_eq_true rfl) (zfit_of (by omega) (by decide)) ⟨Nat.le_refl _, Nat.le_refl _⟩ rfl ?_
      have hsw49 : toS (μ 5 1) x 0 = 1 ∨ toS (μ 5 1) x 0 = 2 ∨ toS (μ 5 1) x 0 = 3 ∨ toS (μ 5 1) x 0 = 4 ∨ (toS (μ 5 1) x 0 < 1 ∨ 4 < toS (μ 5 1) x 0) := by omega
      rcases hsw49 with hsw | hsw | hsw | hsw | hsw
      · skip
        refine zV_tswIn C 80 dX9_frets_49 (by omega) (by omega) (by omega) (by rw [hsw]; rfl) (by decide) ?_
        refine zV_iload (n := 82) C dX9_frets_80 rfl rfl ?_
        exact zV_ireturn C hr hlk dX9_frets_82 (by exact congrArg (fun z => some (Value.int (zi z))) (by unfold rFr rAr rPl; (repeat' split) <;> omega)) (by rfl)
      · skip
        refine zV_tswIn C 108 dX9_frets_49 (by omega) (by omega) (by omega) (by rw [hsw]; rfl) (by decide) ?_
        refine zV_iload_n (i := 3) (n := 109) C dX9_frets_108 rfl rfl rfl ?_
        exact zV_ireturn C hr hlk dX9_frets_109 (by exact congrArg (fun z => some (Value.int (zi z))) (by unfold rFr rAr rPl; (repeat' split) <;> omega)) (by rfl)
      · skip
        refine zV_tswIn C 83 dX9_frets_49 (by omega) (by omega) (by omega) (by rw [hsw]; rfl) (by decide) ?_
        refine zV_iload_n (i := 2) (n := 84) C dX9_frets_83 rfl rfl rfl ?_
        refine zV_if_lt (n := 87) C 95 dX9_frets_84 (by decide) (by first | omega | exact zb_rg) rfl (fun h84 => ?_) (fun h84 => ?_)
        · skip
          refine zV_iload_n (i := 3) (n := 96) C dX9_frets_95 rfl rfl rfl ?_
          refine zV_iconst (n := 97) C dX9_frets_96 rfl ?_
          refine zV_iadd (n := 98) C dX9_frets_97 rfl ?_
          refine zV_goto C 102 dX9_frets_98 (by decide) ?_
          exact zV_ireturn C hr hlk dX9_frets_102 (by exact congrArg (fun z => some (Value.int (zi z))) (by unfold rFr rAr rPl; (repeat' split) <;> omega)) (by rfl)
        · skip
          refine zV_aload_n (i := 0) (n := 88) C dX9_frets_87 rfl rfl rfl ?_
          refine zV_iload_n (i := 2) (n := 89) C dX9_frets_88 rfl rfl rfl ?_
          refine zV_callV1u (n := 92) C zk8 jX9_isNear lX9_97 (m_isNear (d := d) I (by omega)) dX9_frets_89 zs_ref rfl (Nat.le_of_ble_eq_true rfl) (zfit_of (by omega) (by decide)) ⟨Nat.le_refl _, Nat.le_refl _⟩ rfl ?_
          refine zV_if_ne (n := 95) C 101 dX9_frets_92 (by decide) (by first | omega | exact zb_rg) rfl (fun h92 => ?_) (fun h92 => ?_)
          · skip
            simp only [zb_eq0, Decidable.not_not] at h92
            refine zV_iload_n (i := 3) (n := 102) C dX9_frets_101 rfl rfl rfl ?_
            exact zV_ireturn C hr hlk dX9_frets_102 (by exact congrArg (fun z => some (Value.int (zi z))) (by unfold rFr rAr rPl; (repeat' split) <;> omega)) (by rfl)
          · skip
            simp only [zb_eq0, Decidable.not_not] at h92
            refine zV_iload_n (i := 3) (n := 96) C dX9_frets_95 rfl rfl rfl ?_
            refine zV_iconst (n := 97) C dX9_frets_96 rfl ?_
            refine zV_iadd (n := 98) C dX9_frets_97 rfl ?_
            refine zV_goto C 102 dX9_frets_98 (by decide) ?_
            exact zV_ireturn C hr hlk dX9_frets_102 (by exact congrArg (fun z => some (Value.int (zi z))) (by unfold rFr rAr rPl; (repeat' split) <;> omega)) (by rfl)
      · skip
        refine zV_tswIn C 103 dX9_frets_49 (by omega) (by omega) (by omega) (by rw [hsw]; rfl) (by decide) ?_
        refine zV_iconst (n := 104) C dX9_frets_103 rfl ?_
        refine zV_iload (n := 106) C dX9_frets_104 rfl rfl ?_
        refine zV_imul (n := 107) C dX9_frets_106 rfl ?_
        exact zV_ireturn C hr hlk dX9_frets_107 (by exact congrArg (fun z => some (Value.int (zi z))) (by unfold rFr rAr rPl; (repeat' split) <;> omega)) (by rfl)
      · skip
        refine zV_tswOut C 108 dX9_frets_49 (by omega) (by omega) (by decide) ?_
        refine zV_iload_n (i := 3) (n := 109) C dX9_frets_108 rfl rfl rfl ?_
        exact zV_ireturn C hr hlk dX9_frets_109 (by exact congrArg (fun z => some (Value.int (zi z))) (by unfold rFr rAr rPl; (repeat' split) <;> omega)) (by rfl)
  · skip
    refine zV_iconst (n := 18) C dX9_frets_17 rfl ?_
    refine zV_goto C 22 dX9_frets_18 (by decide) ?_
    refine zS_istore_n_5_3 (n := 23) C dX9_frets_22 rfl rfl ?_
    refine zV_aload_n (i := 0) (n := 24) C dX9_frets_23 rfl rfl rfl ?_
    refine zV_iload_n (i := 1) (n := 25) C dX9_frets_24 rfl rfl rfl ?_
    refine zV_iconst (n := 26) C dX9_frets_25 rfl ?_
    refine zV_callV2u (n := 29) C zk8 jX9_told lX9_94 (m_told (d := d) (by omega)) dX9_frets_26 zs_ref rfl (Nat.le_of_ble_eq_true rfl) (zfit_of (by omega) (by decide)) ⟨Nat.le_refl _, Nat.le_refl _⟩ rfl ?_
    refine zV_bipush (n := 31) C dX9_frets_29 (by decide) rfl ?_
    refine zV_icmp_le (n := 34) C 40 dX9_frets_31 (by decide) (by first | omega | exact zb_rg) (by first | omega | exact zb_rg) rfl (fun h31 => ?_) (fun h31 => ?_)
    · skip
      refine zV_iload_n (i := 3) (n := 41) C dX9_frets_40 rfl rfl rfl ?_
      refine zS_istore_5_4 (n := 43) C dX9_frets_41 rfl rfl ?_
      refine zV_aload_n (i := 0) (n := 44) C dX9_frets_43 rfl rfl rfl ?_
      refine zV_iload_n (i := 1) (n := 45) C dX9_frets_44 rfl rfl rfl ?_
      refine zV_iconst (n := 46) C dX9_frets_45 rfl ?_
      refine zV_callV2u (n := 49) C zk8 jX9_told lX9_94 (m_told (d := d) (by omega)) dX9_frets_46 zs_ref rfl (Nat.le_of_ble_eq_true rfl) (zfit_of (by omega) (by decide)) ⟨Nat.le_refl _, Nat.le_refl _⟩ rfl ?_
      have hsw49 : toS (μ 5 1) x 0 = 1 ∨ toS (μ 5 1) x 0 = 2 ∨ toS (μ 5 1) x 0 = 3 ∨ toS (μ 5 1) x 0 = 4 ∨ (toS (μ 5 1) x 0 < 1 ∨ 4 < toS (μ 5 1) x 0) := by omega
      rcases hsw49 with hsw | hsw | hsw | hsw | hsw
      · skip
        refine zV_tswIn C 80 dX9_frets_49 (by omega) (by omega) (by omega) (by rw [hsw]; rfl) (by decide) ?_
        refine zV_iload (n := 82) C dX9_frets_80 rfl rfl ?_
        exact zV_ireturn C hr hlk dX9_frets_82 (by exact congrArg (fun z => some (Value.int (zi z))) (by unfold rFr rAr rPl; (repeat' split) <;> omega)) (by rfl)
      · skip
        refine zV_tswIn C 108 dX9_frets_49 (by omega) (by omega) (by omega) (by rw [hsw]; rfl) (by decide) ?_
        refine zV_iload_n (i := 3) (n := 109) C dX9_frets_108 rfl rfl rfl ?_
        exact zV_ireturn C hr hlk dX9_frets_109 (by exact congrArg (fun z => some (Value.int (zi z))) (by unfold rFr rAr rPl; (repeat' split) <;> omega)) (by rfl)
      · skip
        refine zV_tswIn C 83 dX9_frets_49 (by omega) (by omega) (by omega) (by rw [hsw]; rfl) (by decide) ?_
        refine zV_iload_n (i := 2) (n := 84) C dX9_frets_83 rfl rfl rfl ?_
        refine zV_if_lt (n := 87) C 95 dX9_frets_84 (by decide) (by first | omega | exact zb_rg) rfl (fun h84 => ?_) (fun h84 => ?_)
        · skip
          refine zV_iload_n (i := 3) (n := 96) C dX9_frets_95 rfl rfl rfl ?_
          refine zV_iconst (n := 97) C dX9_frets_96 rfl ?_
          refine zV_iadd (n := 98) C dX9_frets_97 rfl ?_
          refine zV_goto C 102 dX9_frets_98 (by decide) ?_
          exact zV_ireturn C hr hlk dX9_frets_102 (by exact congrArg (fun z => some (Value.int (zi z))) (by unfold rFr rAr rPl; (repeat' split) <;> omega)) (by rfl)
        · skip
          refine zV_aload_n (i := 0) (n := 88) C dX9_frets_87 rfl rfl rfl ?_
          refine zV_iload_n (i := 2) (n := 89) C dX9_frets_88 rfl rfl rfl ?_
          refine zV_callV1u (n := 92) C zk8 jX9_isNear lX9_97 (m_isNear (d := d) I (by omega)) dX9_frets_89 zs_ref rfl (Nat.le_of_ble_eq_true rfl) (zfit_of (by omega) (by decide)) ⟨Nat.le_refl _, Nat.le_refl _⟩ rfl ?_
          refine zV_if_ne (n := 95) C 101 dX9_frets_92 (by decide) (by first | omega | exact zb_rg) rfl (fun h92 => ?_) (fun h92 => ?_)
          · skip
            simp only [zb_eq0, Decidable.not_not] at h92
            refine zV_iload_n (i := 3) (n := 102) C dX9_frets_101 rfl rfl rfl ?_
            exact zV_ireturn C hr hlk dX9_frets_102 (by exact congrArg (fun z => some (Value.int (zi z))) (by unfold rFr rAr rPl; (repeat' split) <;> omega)) (by rfl)
          · skip
            simp only [zb_eq0, Decidable.not_not] at h92
            refine zV_iload_n (i := 3) (n := 96) C dX9_frets_95 rfl rfl rfl ?_
            refine zV_iconst (n := 97) C dX9_frets_96 rfl ?_
            refine zV_iadd (n := 98) C dX9_frets_97 rfl ?_
            refine zV_goto C 102 dX9_frets_98 (by decide) ?_
            exact zV_ireturn C hr hlk dX9_frets_102 (by exact congrArg (fun z => some (Value.int (zi z))) (by unfold rFr rAr rPl; (repeat' split) <;> omega)) (by rfl)
      · skip
        refine zV_tswIn C 103 dX9_frets_49 (by omega) (by omega) (by omega) (by rw [hsw]; rfl) (by decide) ?_
        refine zV_iconst (n := 104) C dX9_frets_103 rfl ?_
        refine zV_iload (n := 106) C dX9_frets_104 rfl rfl ?_
        refine zV_imul (n := 107) C dX9_frets_106 rfl ?_
        exact zV_ireturn C hr hlk dX9_frets_107 (by exact congrArg (fun z => some (Value.int (zi z))) (by unfold rFr rAr rPl; (repeat' split) <;> omega)) (by rfl)
      · skip
        refine zV_tswOut C 108 dX9_frets_49 (by omega) (by omega) (by decide) ?_
        refine zV_iload_n (i := 3) (n := 109) C dX9_frets_108 rfl rfl rfl ?_
        exact zV_ireturn C hr hlk dX9_frets_109 (by exact congrArg (fun z => some (Value.int (zi z))) (by unfold rFr rAr rPl; (repeat' split) <;> omega)) (by rfl)
    · skip
      refine zV_iload_n (i := 3) (n := 35) C dX9_frets_34 rfl rfl rfl ?_
      refine zV_iconst (n := 36) C dX9_frets_35 rfl ?_
      refine zV_iadd (n := 37) C dX9_frets_36 rfl ?_
      refine zV_goto C 41 dX9_frets_37 (by decide) ?_
      refine zS_istore_5_4 (n := 43) C dX9_frets_41 rfl rfl ?_
      refine zV_aload_n (i := 0) (n := 44) C dX9_frets_43 rfl rfl rfl ?_
      refine zV_iload_n (i := 1) (n := 45) C dX9_frets_44 rfl rfl rfl ?_
      refine zV_iconst (n := 46) C dX9_frets_45 rfl ?_
      refine zV_callV2u (n := 49) C zk8 jX9_told lX9_94 (m_told (d := d) (by omega)) dX9_frets_46 zs_ref rfl (Nat.le_of_ble_eq_true rfl) (zfit_of (by omega) (by decide)) ⟨Nat.le_refl _, Nat.le_refl _⟩ rfl ?_
      have hsw49 : toS (μ 5 1) x 0 = 1 ∨ toS (μ 5 1) x 0 = 2 ∨ toS (μ 5 1) x 0 = 3 ∨ toS (μ 5 1) x 0 = 4 ∨ (toS (μ 5 1) x 0 < 1 ∨ 4 < toS (μ 5 1) x 0) := by omega
      rcases hsw49 with hsw | hsw | hsw | hsw | hsw
      · skip
        refine zV_tswIn C 80 dX9_frets_49 (by omega) (by omega) (by omega) (by rw [hsw]; rfl) (by decide) ?_
        refine zV_iload (n := 82) C dX9_frets_80 rfl rfl ?_
        exact zV_ireturn C hr hlk dX9_frets_82 (by exact congrArg (fun z => some (Value.int (zi z))) (by unfold rFr rAr rPl; (repeat' split) <;> omega)) (by rfl)
      · skip
        refine zV_tswIn C 108 dX9_frets_49 (by omega) (by omega) (by omega) (by rw [hsw]; rfl) (by decide) ?_
        refine zV_iload_n (i := 3) (n := 109) C dX9_frets_108 rfl rfl rfl ?_
        exact zV_ireturn C hr hlk dX9_frets_109 (by exact congrArg (fun z => some (Value.int (zi z))) (by unfold rFr rAr rPl; (repeat' split) <;> omega)) (by rfl)
      · skip
        refine zV_tswIn C 83 dX9_frets_49 (by omega) (by omega) (by omega) (by rw [hsw]; rfl) (by decide) ?_
        refine zV_iload_n (i := 2) (n := 84) C dX9_frets_83 rfl rfl rfl ?_
        refine zV_if_lt (n := 87) C 95 dX9_frets_84 (by decide) (by first | omega | exact zb_rg) rfl (fun h84 => ?_) (fun h84 => ?_)
        · skip
          refine zV_iload_n (i := 3) (n := 96) C dX9_frets_95 rfl rfl rfl ?_
          refine zV_iconst (n := 97) C dX9_frets_96 rfl ?_
          refine zV_iadd (n := 98) C dX9_frets_97 rfl ?_
          refine zV_goto C 102 dX9_frets_98 (by decide) ?_
          exact zV_ireturn C hr hlk dX9_frets_102 (by exact congrArg (fun z => some (Value.int (zi z))) (by unfold rFr rAr rPl; (repeat' split) <;> omega)) (by rfl)
        · skip
          refine zV_aload_n (i := 0) (n := 88) C dX9_frets_87 rfl rfl rfl ?_
          refine zV_iload_n (i := 2) (n := 89) C dX9_frets_88 rfl rfl rfl ?_
          refine zV_callV1u (n := 92) C zk8 jX9_isNear lX9_97 (m_isNear (d := d) I (by omega)) dX9_frets_89 zs_ref rfl (Nat.le_of_ble_eq_true rfl) (zfit_of (by omega) (by decide)) ⟨Nat.le_refl _, Nat.le_refl _⟩ rfl ?_
          refine zV_if_ne (n := 95) C 101 dX9_frets_92 (by decide) (by first | omega | exact zb_rg) rfl (fun h92 => ?_) (fun h92 => ?_)
          · skip
            simp only [zb_eq0, Decidable.not_not] at h92
            refine zV_iload_n (i := 3) (n := 102) C dX9_frets_101 rfl rfl rfl ?_
            exact zV_ireturn C hr hlk dX9_frets_102 (by exact congrArg (fun z => some (Value.int (zi z))) (by unfold rFr rAr rPl; (repeat' split) <;> omega)) (by rfl)
          · skip
            simp only [zb_eq0, Decidable.not_not] at h92
            refine zV_iload_n (i := 3) (n := 96) C dX9_frets_95 rfl rfl rfl ?_
            refine zV_iconst (n := 97) C dX9_frets_96 rfl ?_
            refine zV_iadd (n := 98) C dX9_frets_97 rfl ?_
            refine zV_goto C 102 dX9_frets_98 (by decide) ?_
            exact zV_ireturn C hr hlk dX9_frets_102 (by exact congrArg (fun z => some (Value.int (zi z))) (by unfold rFr rAr rPl; (repeat' split) <;> omega)) (by rfl)
      · skip
        refine zV_tswIn C 103 dX9_frets_49 (by omega) (by omega) (by omega) (by rw [hsw]; rfl) (by decide) ?_
        refine zV_iconst (n := 104) C dX9_frets_103 rfl ?_
        refine zV_iload (n := 106) C dX9_frets_104 rfl rfl ?_
        refine zV_imul (n := 107) C dX9_frets_106 rfl ?_
        exact zV_ireturn C hr hlk dX9_frets_107 (by exact congrArg (fun z => some (Value.int (zi z))) (by unfold rFr rAr rPl; (repeat' split) <;> omega)) (by rfl)
      · skip
        refine zV_tswOut C 108 dX9_frets_49 (by omega) (by omega) (by decide) ?_
        refine zV_iload_n (i := 3) (n := 109) C dX9_frets_108 rfl rfl rfl ?_
        exact zV_ireturn C hr hlk dX9_frets_109 (by exact congrArg (fun z => some (Value.int (zi z))) (by unfold rFr rAr rPl; (repeat' split) <;> omega)) (by rfl)

set_option maxRecDepth 100000 in
set_option maxHeartbeats 4000000 in
theorem m_takes {Γ : zC} {l : Launch} {d : Nat} {μ : zMem} {N : Int} (I : rInv N (μ 5 1)) {x : Int} (hx : 0 ≤ x ∧ x < 6) {k : Int} (hk : 0 ≤ k ∧ k < 3)  : zRet Γ l (d + 2) qX9_takes [.ref (za Γ 5 0), .int (zi x), .int (zi k)] μ (some (.int (zi (rTakes (μ 5 1) (toS (μ 5 1) x 0) x k)))) μ := by
  refine zRet.mk 1 [.ref (za Γ 5 0), .int (zi x), .int (zi k), .null] RX9 rfl (by decide +kernel) (Nat.le_of_ble_eq_true rfl) rfl ?_
  intro p e s m below meth c C hr hlk
  have hc := I.2.2.2.2.2.1 x hx.1 hx.2
  have hs := I.2.2.2.2.1 k hk.1 hk.2
  have h0 := I.1
  have h1 := I.2.1
  have h2 := I.2.2.1
  have h3 := I.2.2.2.1
  refine zV_bipush (n := 2) C dX9_takes_0 (by decide) rfl ?_
  refine zV_iconst (n := 3) C dX9_takes_2 rfl ?_
  refine zV_aload_n (i := 0) (n := 4) C dX9_takes_3 rfl rfl rfl ?_
  refine zV_iload_n (i := 1) (n := 5) C dX9_takes_4 rfl rfl rfl ?_
  refine zV_iconst (n := 6) C dX9_takes_5 rfl ?_
  refine zV_callV2u (n := 9) C zk8 jX9_told lX9_94 (m_told (d := d) (by omega)) dX9_takes_6 zs_ref rfl (Nat.le_of_ble_eq_true rfl) (zfit_of (by omega) (by decide)) ⟨Nat.le_refl _, Nat.le_refl _⟩ rfl ?_
  refine zV_imul (n := 10) C dX9_takes_9 rfl ?_
  refine zV_iadd (n := 11) C dX9_takes_10 rfl ?_
  refine zS_istore_n_4_3 (n := 12) C dX9_takes_11 rfl rfl ?_
  refine zV_aload_n (i := 0) (n := 13) C dX9_takes_12 rfl rfl rfl ?_
  refine zV_iload_n (i := 1) (n := 14) C dX9_takes_13 rfl rfl rfl ?_
  refine zV_iconst (n := 15) C dX9_takes_14 rfl ?_
  refine zV_callV2u (n := 18) C zk8 jX9_told lX9_94 (m_told (d := d) (by omega)) dX9_takes_15 zs_ref rfl (Nat.le_of_ble_eq_true rfl) (zfit_of (by omega) (by decide)) ⟨Nat.le_refl _, Nat.le_refl _⟩ rfl ?_
  have hsw18 : toS (μ 5 1) x 0 = 1 ∨ toS (μ 5 1) x 0 = 2 ∨ toS (μ 5 1) x 0 = 3 ∨ toS (μ 5 1) x 0 = 4 ∨ toS (μ 5 1) x 0 = 5 ∨ (toS (μ 5 1) x 0 < 1 ∨ 5 < toS (μ 5 1) x 0) := by omega
  rcases hsw18 with hsw | hsw | hsw | hsw | hsw | hsw
  · skip
    refine zV_tswIn C 52 dX9_takes_18 (by omega) (by omega) (by omega) (by rw [hsw]; rfl) (by decide) ?_
    refine zV_iload_n (i := 3) (n := 53) C dX9_takes_52 rfl rfl rfl ?_
    exact zV_ireturn C hr hlk dX9_takes_53 (by exact congrArg (fun z => some (Value.int (zi z))) (by unfold rTakes; (repeat' split) <;> omega)) (by rfl)
  · skip
    refine zV_tswIn C 54 dX9_takes_18 (by omega) (by omega) (by omega) (by rw [hsw]; rfl) (by decide) ?_
    refine zV_iconst (n := 55) C dX9_takes_54 rfl ?_
    exact zV_ireturn C hr hlk dX9_takes_55 (by exact congrArg (fun z => some (Value.int (zi z))) (by unfold rTakes; (repeat' split) <;> omega)) (by rfl)
  · skip
    refine zV_tswIn C 56 dX9_takes_18 (by omega) (by omega) (by omega) (by rw [hsw]; rfl) (by decide) ?_
    refine zV_aload_n (i := 0) (n := 57) C dX9_takes_56 rfl rfl rfl ?_
    refine zV_iload_n (i := 2) (n := 58) C dX9_takes_57 rfl rfl rfl ?_
    refine zV_iconst (n := 59) C dX9_takes_58 rfl ?_
    refine zV_callV2u (n := 62) C zk8 jX9_its lX9_63 (m_its (d := d) (by omega)) dX9_takes_59 zs_ref rfl (Nat.le_of_ble_eq_true rfl) (zfit_of (by omega) (by decide)) ⟨Nat.le_refl _, Nat.le_refl _⟩ rfl ?_
    refine zV_iconst (n := 63) C dX9_takes_62 rfl ?_
    refine zV_icmp_ne (n := 66) C 71 dX9_takes_63 (by decide) (by first | omega | exact zb_rg) (by first | omega | exact zb_rg) rfl (fun h63 => ?_) (fun h63 => ?_)
    · skip
      refine zV_bipush (n := 73) C dX9_takes_71 (by decide) rfl ?_
      exact zV_ireturn C hr hlk dX9_takes_73 (by exact congrArg (fun z => some (Value.int (zi z))) (by unfold rTakes; (repeat' split) <;> omega)) (by rfl)
    · skip
      refine zV_bipush (n := 68) C dX9_takes_66 (by decide) rfl ?_
      refine zV_goto C 73 dX9_takes_68 (by decide) ?_
      exact zV_ireturn C hr hlk dX9_takes_73 (by exact congrArg (fun z => some (Value.int (zi z))) (by unfold rTakes; (repeat' split) <;> omega)) (by rfl)
  · skip
    refine zV_tswIn C 74 dX9_takes_18 (by omega) (by omega) (by omega) (by rw [hsw]; rfl) (by decide) ?_
    refine zV_aload_n (i := 0) (n := 75) C dX9_takes_74 rfl rfl rfl ?_
    refine zV_iload_n (i := 1) (n := 76) C dX9_takes_75 rfl rfl rfl ?_
    refine zV_iconst (n := 77) C dX9_takes_76 rfl ?_
    refine zV_callV2u (n := 80) C zk8 jX9_told lX9_94 (m_told (d := d) (by omega)) dX9_takes_77 zs_ref rfl (Nat.le_of_ble_eq_true rfl) (zfit_of (by omega) (by decide)) ⟨Nat.le_refl _, Nat.le_refl _⟩ rfl ?_
    refine zV_iconst (n := 81) C dX9_takes_80 rfl ?_
    refine zV_icmp_ge (n := 84) C 90 dX9_takes_81 (by decide) (by first | omega | exact zb_rg) (by first | omega | exact zb_rg) rfl (fun h81 => ?_) (fun h81 => ?_)
    · skip
      refine zV_iload_n (i := 3) (n := 91) C dX9_takes_90 rfl rfl rfl ?_
      exact zV_ireturn C hr hlk dX9_takes_91 (by exact congrArg (fun z => some (Value.int (zi z))) (by unfold rTakes; (repeat' split) <;> omega)) (by rfl)
    · skip
      refine zV_iconst (n := 85) C dX9_takes_84 rfl ?_
      refine zV_iload_n (i := 3) (n := 86) C dX9_takes_85 rfl rfl rfl ?_
      refine zV_imul (n := 87) C dX9_takes_86 rfl ?_
      refine zV_goto C 91 dX9_takes_87 (by decide) ?_
      exact zV_ireturn C hr hlk dX9_takes_91 (by exact congrArg (fun z => some (Value.int (zi z))) (by unfold rTakes; (repeat' split) <;> omega)) (by rfl)
  · skip
    refine zV_tswIn C 92 dX9_takes_18 (by omega) (by omega) (by omega) (by rw [hsw]; rfl) (by decide) ?_
    refine zV_aload_n (i := 0) (n := 93) C dX9_takes_92 rfl rfl rfl ?_
    refine zV_iload_n (i := 1) (n := 94) C dX9_takes_93 rfl rfl rfl ?_
    refine zV_iconst (n := 95) C dX9_takes_94 rfl ?_
    refine zV_callV2u (n := 98) C zk8 jX9_told lX9_94 (m_told (d := d) (by omega)) dX9_takes_95 zs_ref rfl (Nat.le_of_ble_eq_true rfl) (zfit_of (by omega) (by decide)) ⟨Nat.le_refl _, Nat.le_refl _⟩ rfl ?_
    refine zV_bipush (n := 100) C dX9_takes_98 (by decide) rfl ?_
    refine zV_icmp_lt (n := 103) C 107 dX9_takes_100 (by decide) (by first | omega | exact zb_rg) (by first | omega | exact zb_rg) rfl (fun h100 => ?_) (fun h100 => ?_)
    · skip
      refine zV_iconst (n := 108) C dX9_takes_107 rfl ?_
      exact zV_ireturn C hr hlk dX9_takes_108 (by exact congrArg (fun z => some (Value.int (zi z))) (by unfold rTakes; (repeat' split) <;> omega)) (by rfl)
    · skip
      refine zV_iconst (n := 104) C dX9_takes_103 rfl ?_
      refine zV_goto C 108 dX9_takes_104 (by decide) ?_
      exact zV_ireturn C hr hlk dX9_takes_108 (by exact congrArg (fun z => some (Value.int (zi z))) (by unfold rTakes; (repeat' split) <;> omega)) (by rfl)
  · skip
    refine zV_tswOut C 109 dX9_takes_18 (by omega) (by omega) (by decide) ?_
    refine zV_bipush (n := 111) C dX9_takes_109 (by decide) rfl ?_
    exact zV_ireturn C hr hlk dX9_takes_111 (by exact congrArg (fun z => some (Value.int (zi z))) (by unfold rTakes; (repeat' split) <;> omega)) (by rfl)

set_option maxRecDepth 100000 in
set_option maxHeartbeats 4000000 in
theorem m_secondsOf {Γ : zC} {l : Launch} {d : Nat} {μ : zMem} {N : Int} (I : rInv N (μ 5 1)) {x : Int} (hx : 0 ≤ x ∧ x < 6) {k : Int} (hk : 0 ≤ k ∧ k < 3)  : zRet Γ l (d + 3) qX9_secondsOf [.ref (za Γ 5 0), .int (zi x), .int (zi k)] μ (some (.int (zi (rSec (μ 5 1) x k)))) μ := by
  refine zRet.mk 2 [.ref (za Γ 5 0), .int (zi x), .int (zi k), .null, .null] RX9 rfl (by decide +kernel) (Nat.le_of_ble_eq_true rfl) rfl ?_
  intro p e s m below meth c C hr hlk
  have hc := I.2.2.2.2.2.1 x hx.1 hx.2
  have hs := I.2.2.2.2.1 k hk.1 hk.2
  have h0 := I.1
  have h1 := I.2.1
  have h2 := I.2.2.1
  have h3 := I.2.2.2.1
  refine zV_aload_n (i := 0) (n := 1) C dX9_secondsOf_0 rfl rfl rfl ?_
  refine zV_iconst (n := 2) C dX9_secondsOf_1 rfl ?_
  refine zV_callV1u (n := 5) C zk8 jX9_isTaken lX9_88 (m_isTaken (d := d) I (by omega)) dX9_secondsOf_2 zs_ref rfl (Nat.le_of_ble_eq_true rfl) (zfit_of (by omega) (by decide)) ⟨Nat.le_refl _, Nat.le_refl _⟩ rfl ?_
  refine zV_if_eq (n := 8) C 13 dX9_secondsOf_5 (by decide) (by first | omega | exact zb_rg) rfl (fun h5 => ?_) (fun h5 => ?_)
  · skip
    simp only [zb_eq0, Decidable.not_not] at h5
    refine zV_iconst (n := 14) C dX9_secondsOf_13 rfl ?_
    refine zV_aload_n (i := 0) (n := 15) C dX9_secondsOf_14 rfl rfl rfl ?_
    refine zV_iconst (n := 16) C dX9_secondsOf_15 rfl ?_
    refine zV_callV1u (n := 19) C zk8 jX9_isTaken lX9_88 (m_isTaken (d := d) I (by omega)) dX9_secondsOf_16 zs_ref rfl (Nat.le_of_ble_eq_true rfl) (zfit_of (by omega) (by decide)) ⟨Nat.le_refl _, Nat.le_refl _⟩ rfl ?_
    refine zV_if_eq (n := 22) C 27 dX9_secondsOf_19 (by decide) (by first | omega | exact zb_rg) rfl (fun h19 => ?_) (fun h19 => ?_)
    · skip
      simp only [zb_eq0, Decidable.not_not] at h19
      refine zV_iconst (n := 28) C dX9_secondsOf_27 rfl ?_
      refine zV_iadd (n := 29) C dX9_secondsOf_28 rfl ?_
      refine zS_istore_n_5_3 (n := 30) C dX9_secondsOf_29 rfl rfl ?_
      refine zV_iload_n (i := 2) (n := 31) C dX9_secondsOf_30 rfl rfl rfl ?_
      refine zV_iconst (n := 32) C dX9_secondsOf_31 rfl ?_
      refine zV_icmp_ne (n := 35) C 39 dX9_secondsOf_32 (by decide) (by first | omega | exact zb_rg) (by first | omega | exact zb_rg) rfl (fun h32 => ?_) (fun h32 => ?_)
      · skip
        refine zV_aload_n (i := 0) (n := 40) C dX9_secondsOf_39 rfl rfl rfl ?_
        refine zV_iconst (n := 41) C dX9_secondsOf_40 rfl ?_
        refine zV_callV1u (n := 44) C zk8 jX9_isTaken lX9_88 (m_isTaken (d := d) I (by omega)) dX9_secondsOf_41 zs_ref rfl (Nat.le_of_ble_eq_true rfl) (zfit_of (by omega) (by decide)) ⟨Nat.le_refl _, Nat.le_refl _⟩ rfl ?_
        refine zV_if_eq (n := 47) C 51 dX9_secondsOf_44 (by decide) (by first | omega | exact zb_rg) rfl (fun h44 => ?_) (fun h44 => ?_)
        · skip
          simp only [zb_eq0, Decidable.not_not] at h44
          refine zV_iconst (n := 52) C dX9_secondsOf_51 rfl ?_
          refine zS_istore_5_4 (n := 54) C dX9_secondsOf_52 rfl rfl ?_
          refine zV_aload_n (i := 0) (n := 55) C dX9_secondsOf_54 rfl rfl rfl ?_
          refine zV_iload_n (i := 1) (n := 56) C dX9_secondsOf_55 rfl rfl rfl ?_
          refine zV_iload_n (i := 2) (n := 57) C dX9_secondsOf_56 rfl rfl rfl ?_
          refine zV_callV2u (n := 60) C zk8 jX9_takes lX9_115 (m_takes (d := d) I (by omega) (by omega)) dX9_secondsOf_57 zs_ref rfl (Nat.le_of_ble_eq_true rfl) (zfit_of (by omega) (by decide)) ⟨Nat.le_refl _, Nat.le_refl _⟩ rfl ?_
          refine zV_iconst (n := 61) C dX9_secondsOf_60 rfl ?_
          refine zV_aload_n (i := 0) (n := 62) C dX9_secondsOf_61 rfl rfl rfl ?_
          refine zV_iload_n (i := 2) (n := 63) C dX9_secondsOf_62 rfl rfl rfl ?_
          refine zV_iconst (n := 64) C dX9_secondsOf_63 rfl ?_
          refine zV_callV2u (n := 67) C zk8 jX9_its lX9_63 (m_its (d := d) (by omega)) dX9_secondsOf_64 zs_ref rfl (Nat.le_of_ble_eq_true rfl) (zfit_of (by omega) (by decide)) ⟨Nat.le_refl _, Nat.le_refl _⟩ rfl ?_
          refine zV_imul (n := 68) C dX9_secondsOf_67 rfl ?_
          refine zV_iadd (n := 69) C dX9_secondsOf_68 rfl ?_
          refine zV_iconst (n := 70) C dX9_secondsOf_69 rfl ?_
          refine zV_aload_n (i := 0) (n := 71) C dX9_secondsOf_70 rfl rfl rfl ?_
          refine zV_iload_n (i := 2) (n := 72) C dX9_secondsOf_71 rfl rfl rfl ?_
          refine zV_iconst (n := 73) C dX9_secondsOf_72 rfl ?_
          refine zV_callV2u (n := 76) C zk8 jX9_its lX9_63 (m_its (d := d) (by omega)) dX9_secondsOf_73 zs_ref rfl (Nat.le_of_ble_eq_true rfl) (zfit_of (by omega) (by decide)) ⟨Nat.le_refl _, Nat.le_refl _⟩ rfl ?_
          refine zV_imul (n := 77) C dX9_secondsOf_76 rfl ?_
          refine zV_iadd (n := 78) C dX9_secondsOf_77 rfl ?_
          refine zV_iconst (n := 79) C dX9_secondsOf_78 rfl ?_
          refine zV_aload_n (i := 0) (n := 80) C dX9_secondsOf_79 rfl rfl rfl ?_
          refine zV_iload_n (i := 1) (n := 81) C dX9_secondsOf_80 rfl rfl rfl ?_
          refine zV_iconst (n := 82) C dX9_secondsOf_81 rfl ?_
          refine zV_callV2u (n := 85) C zk8 jX9_told lX9_94 (m_told (d := d) (by omega)) dX9_secondsOf_82 zs_ref rfl (Nat.le_of_ble_eq_true rfl) (zfit_of (by omega) (by decide)) ⟨Nat.le_refl _, Nat.le_refl _⟩ rfl ?_
          refine zV_imul (n := 86) C dX9_secondsOf_85 rfl ?_
          refine zV_iadd (n := 87) C dX9_secondsOf_86 rfl ?_
          refine zV_aload_n (i := 0) (n := 88) C dX9_secondsOf_87 rfl rfl rfl ?_
          refine zV_getP (f := 0) (n := 91) C zk8 fX9_7 dX9_secondsOf_88 zs_ref rfl (by decide) rfl ?_
          refine zV_iconst (n := 92) C dX9_secondsOf_91 rfl ?_
          refine zV_iald (n := 93) C dX9_secondsOf_92 zs_s (by first | omega | exact zb_rg) (by decide) rfl ?_
          refine zV_iadd (n := 94) C dX9_secondsOf_93 rfl ?_
          refine zV_iload (n := 96) C dX9_secondsOf_94 rfl rfl ?_
          refine zV_iadd (n := 97) C dX9_secondsOf_96 rfl ?_
          exact zV_ireturn C hr hlk dX9_secondsOf_97 (by exact congrArg (fun z => some (Value.int (zi z))) (by unfold rSec rSecK rWay; (repeat' split) <;> omega)) (by rfl)
        · skip
          simp only [zb_eq0, Decidable.not_not] at h44
          refine zV_iconst (n := 48) C dX9_secondsOf_47 rfl ?_
          refine zV_goto C 52 dX9_secondsOf_48 (by decide) ?_
          refine zS_istore_5_4 (n := 54) C dX9_secondsOf_52 rfl rfl ?_
          refine zV_aload_n (i := 0) (n := 55) C dX9_secondsOf_54 rfl rfl rfl ?_
          refine zV_iload_n (i := 1) (n := 56) C dX9_secondsOf_55 rfl rfl rfl ?_
          refine zV_iload_n (i := 2) (n := 57) C dX9_secondsOf_56 rfl rfl rfl ?_
          refine zV_callV2u (n := 60) C zk8 jX9_takes lX9_115 (m_takes (d := d) I (by omega) (by omega)) dX9_secondsOf_57 zs_ref rfl (Nat.le_of_ble_eq_true rfl) (zfit_of (by omega) (by decide)) ⟨Nat.le_refl _, Nat.le_refl _⟩ rfl ?_
          refine zV_iconst (n := 61) C dX9_secondsOf_60 rfl ?_
          refine zV_aload_n (i := 0) (n := 62) C dX9_secondsOf_61 rfl rfl rfl ?_
          refine zV_iload_n (i := 2) (n := 63) C dX9_secondsOf_62 rfl rfl rfl ?_
          refine zV_iconst (n := 64) C dX9_secondsOf_63 rfl ?_
          refine zV_callV2u (n := 67) C zk8 jX9_its lX9_63 (m_its (d := d) (by omega)) dX9_secondsOf_64 zs_ref rfl (Nat.le_of_ble_eq_true rfl) (zfit_of (by omega) (by decide)) ⟨Nat.le_refl _, Nat.le_refl _⟩ rfl ?_
          refine zV_imul (n := 68) C dX9_secondsOf_67 rfl ?_
          refine zV_iadd (n := 69) C dX9_secondsOf_68 rfl ?_
          refine zV_iconst (n := 70) C dX9_secondsOf_69 rfl ?_
          refine zV_aload_n (i := 0) (n := 71) C dX9_secondsOf_70 rfl rfl rfl ?_
          refine zV_iload_n (i := 2) (n := 72) C dX9_secondsOf_71 rfl rfl rfl ?_
          refine zV_iconst (n := 73) C dX9_secondsOf_72 rfl ?_
          refine zV_callV2u (n := 76) C zk8 jX9_its lX9_63 (m_its (d := d) (by omega)) dX9_secondsOf_73 zs_ref rfl (Nat.le_of_ble_eq_true rfl) (zfit_of (by omega) (by decide)) ⟨Nat.le_refl _, Nat.le_refl _⟩ rfl ?_
          refine zV_imul (n := 77) C dX9_secondsOf_76 rfl ?_
          refine zV_iadd (n := 78) C dX9_secondsOf_77 rfl ?_
          refine zV_iconst (n := 79) C dX9_secondsOf_78 rfl ?_
          refine zV_aload_n (i := 0) (n := 80) C dX9_secondsOf_79 rfl rfl rfl ?_
          refine zV_iload_n (i := 1) (n := 81) C dX9_secondsOf_80 rfl rfl rfl ?_
          refine zV_iconst (n := 82) C dX9_secondsOf_81 rfl ?_
          refine zV_callV2u (n := 85) C zk8 jX9_told lX9_94 (m_told (d := d) (by omega)) dX9_secondsOf_82 zs_ref rfl (Nat.le_of_ble_eq_true rfl) (zfit_of (by omega) (by decide)) ⟨Nat.le_refl _, Nat.le_refl _⟩ rfl ?_
          refine zV_imul (n := 86) C dX9_secondsOf_85 rfl ?_
          refine zV_iadd (n := 87) C dX9_secondsOf_86 rfl ?_
          refine zV_aload_n (i := 0) (n := 88) C dX9_secondsOf_87 rfl rfl rfl ?_
          refine zV_getP (f := 0) (n := 91) C zk8 fX9_7 dX9_secondsOf_88 zs_ref rfl (by decide) rfl ?_
          refine zV_iconst (n := 92) C dX9_secondsOf_91 rfl ?_
          refine zV_iald (n := 93) C dX9_secondsOf_92 zs_s (by first | omega | exact zb_rg) (by decide) rfl ?_
          refine zV_iadd (n := 94) C dX9_secondsOf_93 rfl ?_
          refine zV_iload (n := 96) C dX9_secondsOf_94 rfl rfl ?_
          refine zV_iadd (n := 97) C dX9_secondsOf_96 rfl ?_
          exact zV_ireturn C hr hlk dX9_secondsOf_97 (by exact congrArg (fun z => some (Value.int (zi z))) (by unfold rSec rSecK rWay; (repeat' split) <;> omega)) (by rfl)
      · skip
        refine zV_iload_n (i := 3) (n := 36) C dX9_secondsOf_35 rfl rfl rfl ?_
        refine zV_goto C 52 dX9_secondsOf_36 (by decide) ?_
        refine zS_istore_5_4 (n := 54) C dX9_secondsOf_52 rfl rfl ?_
        refine zV_aload_n (i := 0) (n := 55) C dX9_secondsOf_54 rfl rfl rfl ?_
        refine zV_iload_n (i := 1) (n := 56) C dX9_secondsOf_55 rfl rfl rfl ?_
        refine zV_iload_n (i := 2) (n := 57) C dX9_secondsOf_56 rfl rfl rfl ?_
        refine zV_callV2u (n := 60) C zk8 jX9_takes lX9_115 (m_takes (d := d) I (by omega) (by omega)) dX9_secondsOf_57 zs_ref rfl (Nat.le_of_ble_eq_true rfl) (zfit_of (by omega) (by decide)) ⟨Nat.le_refl _, Nat.le_refl _⟩ rfl ?_
        refine zV_iconst (n := 61) C dX9_secondsOf_60 rfl ?_
        refine zV_aload_n (i := 0) (n := 62) C dX9_secondsOf_61 rfl rfl rfl ?_
        refine zV_iload_n (i := 2) (n := 63) C dX9_secondsOf_62 rfl rfl rfl ?_
        refine zV_iconst (n := 64) C dX9_secondsOf_63 rfl ?_
        refine zV_callV2u (n := 67) C zk8 jX9_its lX9_63 (m_its (d := d) (by omega)) dX9_secondsOf_64 zs_ref rfl (Nat.le_of_ble_eq_true rfl) (zfit_of (by omega) (by decide)) ⟨Nat.le_refl _, Nat.le_refl _⟩ rfl ?_
        refine zV_imul (n := 68) C dX9_secondsOf_67 rfl ?_
        refine zV_iadd (n := 69) C dX9_secondsOf_68 rfl ?_
        refine zV_iconst (n := 70) C dX9_secondsOf_69 rfl ?_
        refine zV_aload_n (i := 0) (n := 71) C dX9_secondsOf_70 rfl rfl rfl ?_
        refine zV_iload_n (i := 2) (n := 72) C dX9_secondsOf_71 rfl rfl rfl ?_
        refine zV_iconst (n := 73) C dX9_secondsOf_72 rfl ?_
        refine zV_callV2u (n := 76) C zk8 jX9_its lX9_63 (m_its (d := d) (by omega)) dX9_secondsOf_73 zs_ref rfl (Nat.le_of_ble_eq_true rfl) (zfit_of (by omega) (by decide)) ⟨Nat.le_refl _, Nat.le_refl _⟩ rfl ?_
        refine zV_imul (n := 77) C dX9_secondsOf_76 rfl ?_
        refine zV_iadd (n := 78) C dX9_secondsOf_77 rfl ?_
        refine zV_iconst (n := 79) C dX9_secondsOf_78 rfl ?_
        refine zV_aload_n (i := 0) (n := 80) C dX9_secondsOf_79 rfl rfl rfl ?_
        refine zV_iload_n (i := 1) (n := 81) C dX9_secondsOf_80 rfl rfl rfl ?_
        refine zV_iconst (n := 82) C dX9_secondsOf_81 rfl ?_
        refine zV_callV2u (n := 85) C zk8 jX9_told lX9_94 (m_told (d := d) (by omega)) dX9_secondsOf_82 zs_ref rfl (Nat.le_of_ble_eq_true rfl) (zfit_of (by omega) (by decide)) ⟨Nat.le_refl _, Nat.le_refl _⟩ rfl ?_
        refine zV_imul (n := 86) C dX9_secondsOf_85 rfl ?_
        refine zV_iadd (n := 87) C dX9_secondsOf_86 rfl ?_
        refine zV_aload_n (i := 0) (n := 88) C dX9_secondsOf_87 rfl rfl rfl ?_
        refine zV_getP (f := 0) (n := 91) C zk8 fX9_7 dX9_secondsOf_88 zs_ref rfl (by decide) rfl ?_
        refine zV_iconst (n := 92) C dX9_secondsOf_91 rfl ?_
        refine zV_iald (n := 93) C dX9_secondsOf_92 zs_s (by first | omega | exact zb_rg) (by decide) rfl ?_
        refine zV_iadd (n := 94) C dX9_secondsOf_93 rfl ?_
        refine zV_iload (n := 96) C dX9_secondsOf_94 rfl rfl ?_
        refine zV_iadd (n := 97) C dX9_secondsOf_96 rfl ?_
        exact zV_ireturn C hr hlk dX9_secondsOf_97 (by exact congrArg (fun z => some (Value.int (zi z))) (by unfold rSec rSecK rWay; (repeat' split) <;> omega)) (by rfl)
    · skip
      simp only [zb_eq0, Decidable.not_not] at h19
      refine zV_bipush (n := 24) C dX9_secondsOf_22 (by decide) rfl ?_
      refine zV_goto C 28 dX9_secondsOf_24 (by decide) ?_
      refine zV_iadd (n := 29) C dX9_secondsOf_28 rfl ?_
      refine zS_istore_n_5_3 (n := 30) C dX9_secondsOf_29 rfl rfl ?_
      refine zV_iload_n (i := 2) (n := 31) C dX9_secondsOf_30 rfl rfl rfl ?_
      refine zV_iconst (n := 32) C dX9_secondsOf_31 rfl ?_
      refine zV_icmp_ne (n := 35) C 39 dX9_secondsOf_32 (by decide) (by first | omega | exact zb_rg) (by first | omega | exact zb_rg) rfl (fun h32 => ?_) (fun h32 => ?_)
      · skip
        refine zV_aload_n (i := 0) (n := 40) C dX9_secondsOf_39 rfl rfl rfl ?_
        refine zV_iconst (n := 41) C dX9_secondsOf_40 rfl ?_
        refine zV_callV1u (n := 44) C zk8 jX9_isTaken lX9_88 (m_isTaken (d := d) I (by omega)) dX9_secondsOf_41 zs_ref rfl (Nat.le_of_ble_eq_true rfl) (zfit_of (by omega) (by decide)) ⟨Nat.le_refl _, Nat.le_refl _⟩ rfl ?_
        refine zV_if_eq (n := 47) C 51 dX9_secondsOf_44 (by decide) (by first | omega | exact zb_rg) rfl (fun h44 => ?_) (fun h44 => ?_)
        · skip
          simp only [zb_eq0, Decidable.not_not] at h44
          refine zV_iconst (n := 52) C dX9_secondsOf_51 rfl ?_
          refine zS_istore_5_4 (n := 54) C dX9_secondsOf_52 rfl rfl ?_
          refine zV_aload_n (i := 0) (n := 55) C dX9_secondsOf_54 rfl rfl rfl ?_
          refine zV_iload_n (i := 1) (n := 56) C dX9_secondsOf_55 rfl rfl rfl ?_
          refine zV_iload_n (i := 2) (n := 57) C dX9_secondsOf_56 rfl rfl rfl ?_
          refine zV_callV2u (n := 60) C zk8 jX9_takes lX9_115 (m_takes (d := d) I (by omega) (by omega)) dX9_secondsOf_57 zs_ref rfl (Nat.le_of_ble_eq_true rfl) (zfit_of (by omega) (by decide)) ⟨Nat.le_refl _, Nat.le_refl _⟩ rfl ?_
          refine zV_iconst (n := 61) C dX9_secondsOf_60 rfl ?_
          refine zV_aload_n (i := 0) (n := 62) C dX9_secondsOf_61 rfl rfl rfl ?_
          refine zV_iload_n (i := 2) (n := 63) C dX9_secondsOf_62 rfl rfl rfl ?_
          refine zV_iconst (n := 64) C dX9_secondsOf_63 rfl ?_
          refine zV_callV2u (n := 67) C zk8 jX9_its lX9_63 (m_its (d := d) (by omega)) dX9_secondsOf_64 zs_ref rfl (Nat.le_of_ble_eq_true rfl) (zfit_of (by omega) (by decide)) ⟨Nat.le_refl _, Nat.le_refl _⟩ rfl ?_
          refine zV_imul (n := 68) C dX9_secondsOf_67 rfl ?_
          refine zV_iadd (n := 69) C dX9_secondsOf_68 rfl ?_
          refine zV_iconst (n := 70) C dX9_secondsOf_69 rfl ?_
          refine zV_aload_n (i := 0) (n := 71) C dX9_secondsOf_70 rfl rfl rfl ?_
          refine zV_iload_n (i := 2) (n := 72) C dX9_secondsOf_71 rfl rfl rfl ?_
          refine zV_iconst (n := 73) C dX9_secondsOf_72 rfl ?_
          refine zV_callV2u (n := 76) C zk8 jX9_its lX9_63 (m_its (d := d) (by omega)) dX9_secondsOf_73 zs_ref rfl (Nat.le_of_ble_eq_true rfl) (zfit_of (by omega) (by decide)) ⟨Nat.le_refl _, Nat.le_refl _⟩ rfl ?_
          refine zV_imul (n := 77) C dX9_secondsOf_76 rfl ?_
          refine zV_iadd (n := 78) C dX9_secondsOf_77 rfl ?_
          refine zV_iconst (n := 79) C dX9_secondsOf_78 rfl ?_
          refine zV_aload_n (i := 0) (n := 80) C dX9_secondsOf_79 rfl rfl rfl ?_
          refine zV_iload_n (i := 1) (n := 81) C dX9_secondsOf_80 rfl rfl rfl ?_
          refine zV_iconst (n := 82) C dX9_secondsOf_81 rfl ?_
          refine zV_callV2u (n := 85) C zk8 jX9_told lX9_94 (m_told (d := d) (by omega)) dX9_secondsOf_82 zs_ref rfl (Nat.le_of_ble_eq_true rfl) (zfit_of (by omega) (by decide)) ⟨Nat.le_refl _, Nat.le_refl _⟩ rfl ?_
          refine zV_imul (n := 86) C dX9_secondsOf_85 rfl ?_
          refine zV_iadd (n := 87) C dX9_secondsOf_86 rfl ?_
          refine zV_aload_n (i := 0) (n := 88) C dX9_secondsOf_87 rfl rfl rfl ?_
          refine zV_getP (f := 0) (n := 91) C zk8 fX9_7 dX9_secondsOf_88 zs_ref rfl (by decide) rfl ?_
          refine zV_iconst (n := 92) C dX9_secondsOf_91 rfl ?_
          refine zV_iald (n := 93) C dX9_secondsOf_92 zs_s (by first | omega | exact zb_rg) (by decide) rfl ?_
          refine zV_iadd (n := 94) C dX9_secondsOf_93 rfl ?_
          refine zV_iload (n := 96) C dX9_secondsOf_94 rfl rfl ?_
          refine zV_iadd (n := 97) C dX9_secondsOf_96 rfl ?_
          exact zV_ireturn C hr hlk dX9_secondsOf_97 (by exact congrArg (fun z => some (Value.int (zi z))) (by unfold rSec rSecK rWay; (repeat' split) <;> omega)) (by rfl)
        · skip
          simp only [zb_eq0, Decidable.not_not] at h44
          refine zV_iconst (n := 48) C dX9_secondsOf_47 rfl ?_
          refine zV_goto C 52 dX9_secondsOf_48 (by decide) ?_
          refine zS_istore_5_4 (n := 54) C dX9_secondsOf_52 rfl rfl ?_
          refine zV_aload_n (i := 0) (n := 55) C dX9_secondsOf_54 rfl rfl rfl ?_
          refine zV_iload_n (i := 1) (n := 56) C dX9_secondsOf_55 rfl rfl rfl ?_
          refine zV_iload_n (i := 2) (n := 57) C dX9_secondsOf_56 rfl rfl rfl ?_
          refine zV_callV2u (n := 60) C zk8 jX9_takes lX9_115 (m_takes (d := d) I (by omega) (by omega)) dX9_secondsOf_57 zs_ref rfl (Nat.le_of_ble_eq_true rfl) (zfit_of (by omega) (by decide)) ⟨Nat.le_refl _, Nat.le_refl _⟩ rfl ?_
          refine zV_iconst (n := 61) C dX9_secondsOf_60 rfl ?_
          refine zV_aload_n (i := 0) (n := 62) C dX9_secondsOf_61 rfl rfl rfl ?_
          refine zV_iload_n (i := 2) (n := 63) C dX9_secondsOf_62 rfl rfl rfl ?_
          refine zV_iconst (n := 64) C dX9_secondsOf_63 rfl ?_
          refine zV_callV2u (n := 67) C zk8 jX9_its lX9_63 (m_its (d := d) (by omega)) dX9_secondsOf_64 zs_ref rfl (Nat.le_of_ble_eq_true rfl) (zfit_of (by omega) (by decide)) ⟨Nat.le_refl _, Nat.le_refl _⟩ rfl ?_
          refine zV_imul (n := 68) C dX9_secondsOf_67 rfl ?_
          refine zV_iadd (n := 69) C dX9_secondsOf_68 rfl ?_
          refine zV_iconst (n := 70) C dX9_secondsOf_69 rfl ?_
          refine zV_aload_n (i := 0) (n := 71) C dX9_secondsOf_70 rfl rfl rfl ?_
          refine zV_iload_n (i := 2) (n := 72) C dX9_secondsOf_71 rfl rfl rfl ?_
          refine zV_iconst (n := 73) C dX9_secondsOf_72 rfl ?_
          refine zV_callV2u (n := 76) C zk8 jX9_its lX9_63 (m_its (d := d) (by omega)) dX9_secondsOf_73 zs_ref rfl (Nat.le_of_ble_eq_true rfl) (zfit_of (by omega) (by decide)) ⟨Nat.le_refl _, Nat.le_refl _⟩ rfl ?_
          refine zV_imul (n := 77) C dX9_secondsOf_76 rfl ?_
          refine zV_iadd (n := 78) C dX9_secondsOf_77 rfl ?_
          refine zV_iconst (n := 79) C dX9_secondsOf_78 rfl ?_
          refine zV_aload_n (i := 0) (n := 80) C dX9_secondsOf_79 rfl rfl rfl ?_
          refine zV_iload_n (i := 1) (n := 81) C dX9_secondsOf_80 rfl rfl rfl ?_
          refine zV_iconst (n := 82) C dX9_secondsOf_81 rfl ?_
          refine zV_callV2u (n := 85) C zk8 jX9_told lX9_94 (m_told (d := d) (by omega)) dX9_secondsOf_82 zs_ref rfl (Nat.le_of_ble_eq_true rfl) (zfit_of (by omega) (by decide)) ⟨Nat.le_refl _, Nat.le_refl _⟩ rfl ?_
          refine zV_imul (n := 86) C dX9_secondsOf_85 rfl ?_
          refine zV_iadd (n := 87) C dX9_secondsOf_86 rfl ?_
          refine zV_aload_n (i := 0) (n := 88) C dX9_secondsOf_87 rfl rfl rfl ?_
          refine zV_getP (f := 0) (n := 91) C zk8 fX9_7 dX9_secondsOf_88 zs_ref rfl (by decide) rfl ?_
          refine zV_iconst (n := 92) C dX9_secondsOf_91 rfl ?_
          refine zV_iald (n := 93) C dX9_secondsOf_92 zs_s (by first | omega | exact zb_rg) (by decide) rfl ?_
          refine zV_iadd (n := 94) C dX9_secondsOf_93 rfl ?_
          refine zV_iload (n := 96) C dX9_secondsOf_94 rfl rfl ?_
          refine zV_iadd (n := 97) C dX9_secondsOf_96 rfl ?_
          exact zV_ireturn C hr hlk dX9_secondsOf_97 (by exact congrArg (fun z => some (Value.int (zi z))) (by unfold rSec rSecK rWay; (repeat' split) <;> omega)) (by rfl)
      · skip
        refine zV_iload_n (i := 3) (n := 36) C dX9_secondsOf_35 rfl rfl rfl ?_
        refine zV_goto C 52 dX9_secondsOf_36 (by decide) ?_
        refine zS_istore_5_4 (n := 54) C dX9_secondsOf_52 rfl rfl ?_
        refine zV_aload_n (i := 0) (n := 55) C dX9_secondsOf_54 rfl rfl rfl ?_
        refine zV_iload_n (i := 1) (n := 56) C dX9_secondsOf_55 rfl rfl rfl ?_
        refine zV_iload_n (i := 2) (n := 57) C dX9_secondsOf_56 rfl rfl rfl ?_
        refine zV_callV2u (n := 60) C zk8 jX9_takes lX9_115 (m_takes (d := d) I (by omega) (by omega)) dX9_secondsOf_57 zs_ref rfl (Nat.le_of_ble_eq_true rfl) (zfit_of (by omega) (by decide)) ⟨Nat.le_refl _, Nat.le_refl _⟩ rfl ?_
        refine zV_iconst (n := 61) C dX9_secondsOf_60 rfl ?_
        refine zV_aload_n (i := 0) (n := 62) C dX9_secondsOf_61 rfl rfl rfl ?_
        refine zV_iload_n (i := 2) (n := 63) C dX9_secondsOf_62 rfl rfl rfl ?_
        refine zV_iconst (n := 64) C dX9_secondsOf_63 rfl ?_
        refine zV_callV2u (n := 67) C zk8 jX9_its lX9_63 (m_its (d := d) (by omega)) dX9_secondsOf_64 zs_ref rfl (Nat.le_of_ble_eq_true rfl) (zfit_of (by omega) (by decide)) ⟨Nat.le_refl _, Nat.le_refl _⟩ rfl ?_
        refine zV_imul (n := 68) C dX9_secondsOf_67 rfl ?_
        refine zV_iadd (n := 69) C dX9_secondsOf_68 rfl ?_
        refine zV_iconst (n := 70) C dX9_secondsOf_69 rfl ?_
        refine zV_aload_n (i := 0) (n := 71) C dX9_secondsOf_70 rfl rfl rfl ?_
        refine zV_iload_n (i := 2) (n := 72) C dX9_secondsOf_71 rfl rfl rfl ?_
        refine zV_iconst (n := 73) C dX9_secondsOf_72 rfl ?_
        refine zV_callV2u (n := 76) C zk8 jX9_its lX9_63 (m_its (d := d) (by omega)) dX9_secondsOf_73 zs_ref rfl (Nat.le_of_ble_eq_true rfl) (zfit_of (by omega) (by decide)) ⟨Nat.le_refl _, Nat.le_refl _⟩ rfl ?_
        refine zV_imul (n := 77) C dX9_secondsOf_76 rfl ?_
        refine zV_iadd (n := 78) C dX9_secondsOf_77 rfl ?_
        refine zV_iconst (n := 79) C dX9_secondsOf_78 rfl ?_
        refine zV_aload_n (i := 0) (n := 80) C dX9_secondsOf_79 rfl rfl rfl ?_
        refine zV_iload_n (i := 1) (n := 81) C dX9_secondsOf_80 rfl rfl rfl ?_
        refine zV_iconst (n := 82) C dX9_secondsOf_81 rfl ?_
        refine zV_callV2u (n := 85) C zk8 jX9_told lX9_94 (m_told (d := d) (by omega)) dX9_secondsOf_82 zs_ref rfl (Nat.le_of_ble_eq_true rfl) (zfit_of (by omega) (by decide)) ⟨Nat.le_refl _, Nat.le_refl _⟩ rfl ?_
        refine zV_imul (n := 86) C dX9_secondsOf_85 rfl ?_
        refine zV_iadd (n := 87) C dX9_secondsOf_86 rfl ?_
        refine zV_aload_n (i := 0) (n := 88) C dX9_secondsOf_87 rfl rfl rfl ?_
        refine zV_getP (f := 0) (n := 91) C zk8 fX9_7 dX9_secondsOf_88 zs_ref rfl (by decide) rfl ?_
        refine zV_iconst (n := 92) C dX9_secondsOf_91 rfl ?_
        refine zV_iald (n := 93) C dX9_secondsOf_92 zs_s (by first | omega | exact zb_rg) (by decide) rfl ?_
        refine zV_iadd (n := 94) C dX9_secondsOf_93 rfl ?_
        refine zV_iload (n := 96) C dX9_secondsOf_94 rfl rfl ?_
        refine zV_iadd (n := 97) C dX9_secondsOf_96 rfl ?_
        exact zV_ireturn C hr hlk dX9_secondsOf_97 (by exact congrArg (fun z => some (Value.int (zi z))) (by unfold rSec rSecK rWay; (repeat' split) <;> omega)) (by rfl)
  · skip
    simp only [zb_eq0, Decidable.not_not] at h5
    refine zV_bipush (n := 10) C dX9_secondsOf_8 (by decide) rfl ?_
    refine zV_goto C 14 dX9_secondsOf_10 (by decide) ?_
    refine zV_aload_n (i := 0) (n := 15) C dX9_secondsOf_14 rfl rfl rfl ?_
    refine zV_iconst (n := 16) C dX9_secondsOf_15 rfl ?_
    refine zV_callV1u (n := 19) C zk8 jX9_isTaken lX9_88 (m_isTaken (d := d) I (by omega)) dX9_secondsOf_16 zs_ref rfl (Nat.le_of_ble_eq_true rfl) (zfit_of (by omega) (by decide)) ⟨Nat.le_refl _, Nat.le_refl _⟩ rfl ?_
    refine zV_if_eq (n := 22) C 27 dX9_secondsOf_19 (by decide) (by first | omega | exact zb_rg) rfl (fun h19 => ?_) (fun h19 => ?_)
    · skip
      simp only [zb_eq0, Decidable.not_not] at h19
      refine zV_iconst (n := 28) C dX9_secondsOf_27 rfl ?_
      refine zV_iadd (n := 29) C dX9_secondsOf_28 rfl ?_
      refine zS_istore_n_5_3 (n := 30) C dX9_secondsOf_29 rfl rfl ?_
      refine zV_iload_n (i := 2) (n := 31) C dX9_secondsOf_30 rfl rfl rfl ?_
      refine zV_iconst (n := 32) C dX9_secondsOf_31 rfl ?_
      refine zV_icmp_ne (n := 35) C 39 dX9_secondsOf_32 (by decide) (by first | omega | exact zb_rg) (by first | omega | exact zb_rg) rfl (fun h32 => ?_) (fun h32 => ?_)
      · skip
        refine zV_aload_n (i := 0) (n := 40) C dX9_secondsOf_39 rfl rfl rfl ?_
        refine zV_iconst (n := 41) C dX9_secondsOf_40 rfl ?_
        refine zV_callV1u (n := 44) C zk8 jX9_isTaken lX9_88 (m_isTaken (d := d) I (by omega)) dX9_secondsOf_41 zs_ref rfl (Nat.le_of_ble_eq_true rfl) (zfit_of (by omega) (by decide)) ⟨Nat.le_refl _, Nat.le_refl _⟩ rfl ?_
        refine zV_if_eq (n := 47) C 51 dX9_secondsOf_44 (by decide) (by first | omega | exact zb_rg) rfl (fun h44 => ?_) (fun h44 => ?_)
        · skip
          simp only [zb_eq0, Decidable.not_not] at h44
          refine zV_iconst (n := 52) C dX9_secondsOf_51 rfl ?_
          refine zS_istore_5_4 (n := 54) C dX9_secondsOf_52 rfl rfl ?_
          refine zV_aload_n (i := 0) (n := 55) C dX9_secondsOf_54 rfl rfl rfl ?_
          refine zV_iload_n (i := 1) (n := 56) C dX9_secondsOf_55 rfl rfl rfl ?_
          refine zV_iload_n (i := 2) (n := 57) C dX9_secondsOf_56 rfl rfl rfl ?_
          refine zV_callV2u (n := 60) C zk8 jX9_takes lX9_115 (m_takes (d := d) I (by omega) (by omega)) dX9_secondsOf_57 zs_ref rfl (Nat.le_of_ble_eq_true rfl) (zfit_of (by omega) (by decide)) ⟨Nat.le_refl _, Nat.le_refl _⟩ rfl ?_
          refine zV_iconst (n := 61) C dX9_secondsOf_60 rfl ?_
          refine zV_aload_n (i := 0) (n := 62) C dX9_secondsOf_61 rfl rfl rfl ?_
          refine zV_iload_n (i := 2) (n := 63) C dX9_secondsOf_62 rfl rfl rfl ?_
          refine zV_iconst (n := 64) C dX9_secondsOf_63 rfl ?_
          refine zV_callV2u (n := 67) C zk8 jX9_its lX9_63 (m_its (d := d) (by omega)) dX9_secondsOf_64 zs_ref rfl (Nat.le_of_ble_eq_true rfl) (zfit_of (by omega) (by decide)) ⟨Nat.le_refl _, Nat.le_refl _⟩ rfl ?_
          refine zV_imul (n := 68) C dX9_secondsOf_67 rfl ?_
          refine zV_iadd (n := 69) C dX9_secondsOf_68 rfl ?_
          refine zV_iconst (n := 70) C dX9_secondsOf_69 rfl ?_
          refine zV_aload_n (i := 0) (n := 71) C dX9_secondsOf_70 rfl rfl rfl ?_
          refine zV_iload_n (i := 2) (n := 72) C dX9_secondsOf_71 rfl rfl rfl ?_
          refine zV_iconst (n := 73) C dX9_secondsOf_72 rfl ?_
          refine zV_callV2u (n := 76) C zk8 jX9_its lX9_63 (m_its (d := d) (by omega)) dX9_secondsOf_73 zs_ref rfl (Nat.le_of_ble_eq_true rfl) (zfit_of (by omega) (by decide)) ⟨Nat.le_refl _, Nat.le_refl _⟩ rfl ?_
          refine zV_imul (n := 77) C dX9_secondsOf_76 rfl ?_
          refine zV_iadd (n := 78) C dX9_secondsOf_77 rfl ?_
          refine zV_iconst (n := 79) C dX9_secondsOf_78 rfl ?_
          refine zV_aload_n (i := 0) (n := 80) C dX9_secondsOf_79 rfl rfl rfl ?_
          refine zV_iload_n (i := 1) (n := 81) C dX9_secondsOf_80 rfl rfl rfl ?_
          refine zV_iconst (n := 82) C dX9_secondsOf_81 rfl ?_
          refine zV_callV2u (n := 85) C zk8 jX9_told lX9_94 (m_told (d := d) (by omega)) dX9_secondsOf_82 zs_ref rfl (Nat.le_of_ble_eq_true rfl) (zfit_of (by omega) (by decide)) ⟨Nat.le_refl _, Nat.le_refl _⟩ rfl ?_
          refine zV_imul (n := 86) C dX9_secondsOf_85 rfl ?_
          refine zV_iadd (n := 87) C dX9_secondsOf_86 rfl ?_
          refine zV_aload_n (i := 0) (n := 88) C dX9_secondsOf_87 rfl rfl rfl ?_
          refine zV_getP (f := 0) (n := 91) C zk8 fX9_7 dX9_secondsOf_88 zs_ref rfl (by decide) rfl ?_
          refine zV_iconst (n := 92) C dX9_secondsOf_91 rfl ?_
          refine zV_iald (n := 93) C dX9_secondsOf_92 zs_s (by first | omega | exact zb_rg) (by decide) rfl ?_
          refine zV_iadd (n := 94) C dX9_secondsOf_93 rfl ?_
          refine zV_iload (n := 96) C dX9_secondsOf_94 rfl rfl ?_
          refine zV_iadd (n := 97) C dX9_secondsOf_96 rfl ?_
          exact zV_ireturn C hr hlk dX9_secondsOf_97 (by exact congrArg (fun z => some (Value.int (zi z))) (by unfold rSec rSecK rWay; (repeat' split) <;> omega)) (by rfl)
        · skip
          simp only [zb_eq0, Decidable.not_not] at h44
          refine zV_iconst (n := 48) C dX9_secondsOf_47 rfl ?_
          refine zV_goto C 52 dX9_secondsOf_48 (by decide) ?_
          refine zS_istore_5_4 (n := 54) C dX9_secondsOf_52 rfl rfl ?_
          refine zV_aload_n (i := 0) (n := 55) C dX9_secondsOf_54 rfl rfl rfl ?_
          refine zV_iload_n (i := 1) (n := 56) C dX9_secondsOf_55 rfl rfl rfl ?_
          refine zV_iload_n (i := 2) (n := 57) C dX9_secondsOf_56 rfl rfl rfl ?_
          refine zV_callV2u (n := 60) C zk8 jX9_takes lX9_115 (m_takes (d := d) I (by omega) (by omega)) dX9_secondsOf_57 zs_ref rfl (Nat.le_of_ble_eq_true rfl) (zfit_of (by omega) (by decide)) ⟨Nat.le_refl _, Nat.le_refl _⟩ rfl ?_
          refine zV_iconst (n := 61) C dX9_secondsOf_60 rfl ?_
          refine zV_aload_n (i := 0) (n := 62) C dX9_secondsOf_61 rfl rfl rfl ?_
          refine zV_iload_n (i := 2) (n := 63) C dX9_secondsOf_62 rfl rfl rfl ?_
          refine zV_iconst (n := 64) C dX9_secondsOf_63 rfl ?_
          refine zV_callV2u (n := 67) C zk8 jX9_its lX9_63 (m_its (d := d) (by omega)) dX9_secondsOf_64 zs_ref rfl (Nat.le_of_ble_eq_true rfl) (zfit_of (by omega) (by decide)) ⟨Nat.le_refl _, Nat.le_refl _⟩ rfl ?_
          refine zV_imul (n := 68) C dX9_secondsOf_67 rfl ?_
          refine zV_iadd (n := 69) C dX9_secondsOf_68 rfl ?_
          refine zV_iconst (n := 70) C dX9_secondsOf_69 rfl ?_
          refine zV_aload_n (i := 0) (n := 71) C dX9_secondsOf_70 rfl rfl rfl ?_
          refine zV_iload_n (i := 2) (n := 72) C dX9_secondsOf_71 rfl rfl rfl ?_
          refine zV_iconst (n := 73) C dX9_secondsOf_72 rfl ?_
          refine zV_callV2u (n := 76) C zk8 jX9_its lX9_63 (m_its (d := d) (by omega)) dX9_secondsOf_73 zs_ref rfl (Nat.le_of_ble_eq_true rfl) (zfit_of (by omega) (by decide)) ⟨Nat.le_refl _, Nat.le_refl _⟩ rfl ?_
          refine zV_imul (n := 77) C dX9_secondsOf_76 rfl ?_
          refine zV_iadd (n := 78) C dX9_secondsOf_77 rfl ?_
          refine zV_iconst (n := 79) C dX9_secondsOf_78 rfl ?_
          refine zV_aload_n (i := 0) (n := 80) C dX9_secondsOf_79 rfl rfl rfl ?_
          refine zV_iload_n (i := 1) (n := 81) C dX9_secondsOf_80 rfl rfl rfl ?_
          refine zV_iconst (n := 82) C dX9_secondsOf_81 rfl ?_
          refine zV_callV2u (n := 85) C zk8 jX9_told lX9_94 (m_told (d := d) (by omega)) dX9_secondsOf_82 zs_ref rfl (Nat.le_of_ble_eq_true rfl) (zfit_of (by omega) (by decide)) ⟨Nat.le_refl _, Nat.le_refl _⟩ rfl ?_
          refine zV_imul (n := 86) C dX9_secondsOf_85 rfl ?_
          refine zV_iadd (n := 87) C dX9_secondsOf_86 rfl ?_
          refine zV_aload_n (i := 0) (n := 88) C dX9_secondsOf_87 rfl rfl rfl ?_
          refine zV_getP (f := 0) (n := 91) C zk8 fX9_7 dX9_secondsOf_88 zs_ref rfl (by decide) rfl ?_
          refine zV_iconst (n := 92) C dX9_secondsOf_91 rfl ?_
          refine zV_iald (n := 93) C dX9_secondsOf_92 zs_s (by first | omega | exact zb_rg) (by decide) rfl ?_
          refine zV_iadd (n := 94) C dX9_secondsOf_93 rfl ?_
          refine zV_iload (n := 96) C dX9_secondsOf_94 rfl rfl ?_
          refine zV_iadd (n := 97) C dX9_secondsOf_96 rfl ?_
          exact zV_ireturn C hr hlk dX9_secondsOf_97 (by exact congrArg (fun z => some (Value.int (zi z))) (by unfold rSec rSecK rWay; (repeat' split) <;> omega)) (by rfl)
      · skip
        refine zV_iload_n (i := 3) (n := 36) C dX9_secondsOf_35 rfl rfl rfl ?_
        refine zV_goto C 52 dX9_secondsOf_36 (by decide) ?_
        refine zS_istore_5_4 (n := 54) C dX9_secondsOf_52 rfl rfl ?_
        refine zV_aload_n (i := 0) (n := 55) C dX9_secondsOf_54 rfl rfl rfl ?_
        refine zV_iload_n (i := 1) (n := 56) C dX9_secondsOf_55 rfl rfl rfl ?_
        refine zV_iload_n (i := 2) (n := 57) C dX9_secondsOf_56 rfl rfl rfl ?_
        refine zV_callV2u (n := 60) C zk8 jX9_takes lX9_115 (m_takes (d := d) I (by omega) (by omega)) dX9_secondsOf_57 zs_ref rfl (Nat.le_of_ble_eq_true rfl) (zfit_of (by omega) (by decide)) ⟨Nat.le_refl _, Nat.le_refl _⟩ rfl ?_
        refine zV_iconst (n := 61) C dX9_secondsOf_60 rfl ?_
        refine zV_aload_n (i := 0) (n := 62) C dX9_secondsOf_61 rfl rfl rfl ?_
        refine zV_iload_n (i := 2) (n := 63) C dX9_secondsOf_62 rfl rfl rfl ?_
        refine zV_iconst (n := 64) C dX9_secondsOf_63 rfl ?_
        refine zV_callV2u (n := 67) C zk8 jX9_its lX9_63 (m_its (d := d) (by omega)) dX9_secondsOf_64 zs_ref rfl (Nat.le_of_ble_eq_true rfl) (zfit_of (by omega) (by decide)) ⟨Nat.le_refl _, Nat.le_refl _⟩ rfl ?_
        refine zV_imul (n := 68) C dX9_secondsOf_67 rfl ?_
        refine zV_iadd (n := 69) C dX9_secondsOf_68 rfl ?_
        refine zV_iconst (n := 70) C dX9_secondsOf_69 rfl ?_
        refine zV_aload_n (i := 0) (n := 71) C dX9_secondsOf_70 rfl rfl rfl ?_
        refine zV_iload_n (i := 2) (n := 72) C dX9_secondsOf_71 rfl rfl rfl ?_
        refine zV_iconst (n := 73) C dX9_secondsOf_72 rfl ?_
        refine zV_callV2u (n := 76) C zk8 jX9_its lX9_63 (m_its (d := d) (by omega)) dX9_secondsOf_73 zs_ref rfl (Nat.le_of_ble_eq_true rfl) (zfit_of (by omega) (by decide)) ⟨Nat.le_refl _, Nat.le_refl _⟩ rfl ?_
        refine zV_imul (n := 77) C dX9_secondsOf_76 rfl ?_
        refine zV_iadd (n := 78) C dX9_secondsOf_77 rfl ?_
        refine zV_iconst (n := 79) C dX9_secondsOf_78 rfl ?_
        refine zV_aload_n (i := 0) (n := 80) C dX9_secondsOf_79 rfl rfl rfl ?_
        refine zV_iload_n (i := 1) (n := 81) C dX9_secondsOf_80 rfl rfl rfl ?_
        refine zV_iconst (n := 82) C dX9_secondsOf_81 rfl ?_
        refine zV_callV2u (n := 85) C zk8 jX9_told lX9_94 (m_told (d := d) (by omega)) dX9_secondsOf_82 zs_ref rfl (Nat.le_of_ble_eq_true rfl) (zfit_of (by omega) (by decide)) ⟨Nat.le_refl _, Nat.le_refl _⟩ rfl ?_
        refine zV_imul (n := 86) C dX9_secondsOf_85 rfl ?_
        refine zV_iadd (n := 87) C dX9_secondsOf_86 rfl ?_
        refine zV_aload_n (i := 0) (n := 88) C dX9_secondsOf_87 rfl rfl rfl ?_
        refine zV_getP (f := 0) (n := 91) C zk8 fX9_7 dX9_secondsOf_88 zs_ref rfl (by decide) rfl ?_
        refine zV_iconst (n := 92) C dX9_secondsOf_91 rfl ?_
        refine zV_iald (n := 93) C dX9_secondsOf_92 zs_s (by first | omega | exact zb_rg) (by decide) rfl ?_
        refine zV_iadd (n := 94) C dX9_secondsOf_93 rfl ?_
        refine zV_iload (n := 96) C dX9_secondsOf_94 rfl rfl ?_
        refine zV_iadd (n := 97) C dX9_secondsOf_96 rfl ?_
        exact zV_ireturn C hr hlk dX9_secondsOf_97 (by exact congrArg (fun z => some (Value.int (zi z))) (by unfold rSec rSecK rWay; (repeat' split) <;> omega)) (by rfl)
    · skip
      simp only [zb_eq0, Decidable.not_not] at h19
      refine zV_bipush (n := 24) C dX9_secondsOf_22 (by decide) rfl ?_
      refine zV_goto C 28 dX9_secondsOf_24 (by decide) ?_
      refine zV_iadd (n := 29) C dX9_secondsOf_28 rfl ?_
      refine zS_istore_n_5_3 (n := 30) C dX9_secondsOf_29 rfl rfl ?_
      refine zV_iload_n (i := 2) (n := 31) C dX9_secondsOf_30 rfl rfl rfl ?_
      refine zV_iconst (n := 32) C dX9_secondsOf_31 rfl ?_
      refine zV_icmp_ne (n := 35) C 39 dX9_secondsOf_32 (by decide) (by first | omega | exact zb_rg) (by first | omega | exact zb_rg) rfl (fun h32 => ?_) (fun h32 => ?_)
      · skip
        refine zV_aload_n (i := 0) (n := 40) C dX9_secondsOf_39 rfl rfl rfl ?_
        refine zV_iconst (n := 41) C dX9_secondsOf_40 rfl ?_
        refine zV_callV1u (n := 44) C zk8 jX9_isTaken lX9_88 (m_isTaken (d := d) I (by omega)) dX9_secondsOf_41 zs_ref rfl (Nat.le_of_ble_eq_true rfl) (zfit_of (by omega) (by decide)) ⟨Nat.le_refl _, Nat.le_refl _⟩ rfl ?_
        refine zV_if_eq (n := 47) C 51 dX9_secondsOf_44 (by decide) (by first | omega | exact zb_rg) rfl (fun h44 => ?_) (fun h44 => ?_)
        · skip
          simp only [zb_eq0, Decidable.not_not] at h44
          refine zV_iconst (n := 52) C dX9_secondsOf_51 rfl ?_
          refine zS_istore_5_4 (n := 54) C dX9_secondsOf_52 rfl rfl ?_
          refine zV_aload_n (i := 0) (n := 55) C dX9_secondsOf_54 rfl rfl rfl ?_
          refine zV_iload_n (i := 1) (n := 56) C dX9_secondsOf_55 rfl rfl rfl ?_
          refine zV_iload_n (i := 2) (n := 57) C dX9_secondsOf_56 rfl rfl rfl ?_
          refine zV_callV2u (n := 60) C zk8 jX9_takes lX9_115 (m_takes (d := d) I (by omega) (by omega)) dX9_secondsOf_57 zs_ref rfl (Nat.le_of_ble_eq_true rfl) (zfit_of (by omega) (by decide)) ⟨Nat.le_refl _, Nat.le_refl _⟩ rfl ?_
          refine zV_iconst (n := 61) C dX9_secondsOf_60 rfl ?_
          refine zV_aload_n (i := 0) (n := 62) C dX9_secondsOf_61 rfl rfl rfl ?_
          refine zV_iload_n (i := 2) (n := 63) C dX9_secondsOf_62 rfl rfl rfl ?_
          refine zV_iconst (n := 64) C dX9_secondsOf_63 rfl ?_
          refine zV_callV2u (n := 67) C zk8 jX9_its lX9_63 (m_its (d := d) (by omega)) dX9_secondsOf_64 zs_ref rfl (Nat.le_of_ble_eq_true rfl) (zfit_of (by omega) (by decide)) ⟨Nat.le_refl _, Nat.le_refl _⟩ rfl ?_
          refine zV_imul (n := 68) C dX9_secondsOf_67 rfl ?_
          refine zV_iadd (n := 69) C dX9_secondsOf_68 rfl ?_
          refine zV_iconst (n := 70) C dX9_secondsOf_69 rfl ?_
          refine zV_aload_n (i := 0) (n := 71) C dX9_secondsOf_70 rfl rfl rfl ?_
          refine zV_iload_n (i := 2) (n := 72) C dX9_secondsOf_71 rfl rfl rfl ?_
          refine zV_iconst (n := 73) C dX9_secondsOf_72 rfl ?_
          refine zV_callV2u (n := 76) C zk8 jX9_its lX9_63 (m_its (d := d) (by omega)) dX9_secondsOf_73 zs_ref rfl (Nat.le_of_ble_eq_true rfl) (zfit_of (by omega) (by decide)) ⟨Nat.le_refl _, Nat.le_refl _⟩ rfl ?_
          refine zV_imul (n := 77) C dX9_secondsOf_76 rfl ?_
          refine zV_iadd (n := 78) C dX9_secondsOf_77 rfl ?_
          refine zV_iconst (n := 79) C dX9_secondsOf_78 rfl ?_
          refine zV_aload_n (i := 0) (n := 80) C dX9_secondsOf_79 rfl rfl rfl ?_
          refine zV_iload_n (i := 1) (n := 81) C dX9_secondsOf_80 rfl rfl rfl ?_
          refine zV_iconst (n := 82) C dX9_secondsOf_81 rfl ?_
          refine zV_callV2u (n := 85) C zk8 jX9_told lX9_94 (m_told (d := d) (by omega)) dX9_secondsOf_82 zs_ref rfl (Nat.le_of_ble_eq_true rfl) (zfit_of (by omega) (by decide)) ⟨Nat.le_refl _, Nat.le_refl _⟩ rfl ?_
          refine zV_imul (n := 86) C dX9_secondsOf_85 rfl ?_
          refine zV_iadd (n := 87) C dX9_secondsOf_86 rfl ?_
          refine zV_aload_n (i := 0) (n := 88) C dX9_secondsOf_87 rfl rfl rfl ?_
          refine zV_getP (f := 0) (n := 91) C zk8 fX9_7 dX9_secondsOf_88 zs_ref rfl (by decide) rfl ?_
          refine zV_iconst (n := 92) C dX9_secondsOf_91 rfl ?_
          refine zV_iald (n := 93) C dX9_secondsOf_92 zs_s (by first | omega | exact zb_rg) (by decide) rfl ?_
          refine zV_iadd (n := 94) C dX9_secondsOf_93 rfl ?_
          refine zV_iload (n := 96) C dX9_secondsOf_94 rfl rfl ?_
          refine zV_iadd (n := 97) C dX9_secondsOf_96 rfl ?_
          exact zV_ireturn C hr hlk dX9_secondsOf_97 (by exact congrArg (fun z => some (Value.int (zi z))) (by unfold rSec rSecK rWay; (repeat' split) <;> omega)) (by rfl)
        · skip
          simp only [zb_eq0, Decidable.not_not] at h44
          refine zV_iconst (n := 48) C dX9_secondsOf_47 rfl ?_
          refine zV_goto C 52 dX9_secondsOf_48 (by decide) ?_
          refine zS_istore_5_4 (n := 54) C dX9_secondsOf_52 rfl rfl ?_
          refine zV_aload_n (i := 0) (n := 55) C dX9_secondsOf_54 rfl rfl rfl ?_
          refine zV_iload_n (i := 1) (n := 56) C dX9_secondsOf_55 rfl rfl rfl ?_
          refine zV_iload_n (i := 2) (n := 57) C dX9_secondsOf_56 rfl rfl rfl ?_
          refine zV_callV2u (n := 60) C zk8 jX9_takes lX9_115 (m_takes (d := d) I (by omega) (by omega)) dX9_secondsOf_57 zs_ref rfl (Nat.le_of_ble_eq_true rfl) (zfit_of (by omega) (by decide)) ⟨Nat.le_refl _, Nat.le_refl _⟩ rfl ?_
          refine zV_iconst (n := 61) C dX9_secondsOf_60 rfl ?_
          refine zV_aload_n (i := 0) (n := 62) C dX9_secondsOf_61 rfl rfl rfl ?_
          refine zV_iload_n (i := 2) (n := 63) C dX9_secondsOf_62 rfl rfl rfl ?_
          refine zV_iconst (n := 64) C dX9_secondsOf_63 rfl ?_
          refine zV_callV2u (n := 67) C zk8 jX9_its lX9_63 (m_its (d := d) (by omega)) dX9_secondsOf_64 zs_ref rfl (Nat.le_of_ble_eq_true rfl) (zfit_of (by omega) (by decide)) ⟨Nat.le_refl _, Nat.le_refl _⟩ rfl ?_
          refine zV_imul (n := 68) C dX9_secondsOf_67 rfl ?_
          refine zV_iadd (n := 69) C dX9_secondsOf_68 rfl ?_
          refine zV_iconst (n := 70) C dX9_secondsOf_69 rfl ?_
          refine zV_aload_n (i := 0) (n := 71) C dX9_secondsOf_70 rfl rfl rfl ?_
          refine zV_iload_n (i := 2) (n := 72) C dX9_secondsOf_71 rfl rfl rfl ?_
          refine zV_iconst (n := 73) C dX9_secondsOf_72 rfl ?_
          refine zV_callV2u (n := 76) C zk8 jX9_its lX9_63 (m_its (d := d) (by omega)) dX9_secondsOf_73 zs_ref rfl (Nat.le_of_ble_eq_true rfl) (zfit_of (by omega) (by decide)) ⟨Nat.le_refl _, Nat.le_refl _⟩ rfl ?_
          refine zV_imul (n := 77) C dX9_secondsOf_76 rfl ?_
          refine zV_iadd (n := 78) C dX9_secondsOf_77 rfl ?_
          refine zV_iconst (n := 79) C dX9_secondsOf_78 rfl ?_
          refine zV_aload_n (i := 0) (n := 80) C dX9_secondsOf_79 rfl rfl rfl ?_
          refine zV_iload_n (i := 1) (n := 81) C dX9_secondsOf_80 rfl rfl rfl ?_
          refine zV_iconst (n := 82) C dX9_secondsOf_81 rfl ?_
          refine zV_callV2u (n := 85) C zk8 jX9_told lX9_94 (m_told (d := d) (by omega)) dX9_secondsOf_82 zs_ref rfl (Nat.le_of_ble_eq_true rfl) (zfit_of (by omega) (by decide)) ⟨Nat.le_refl _, Nat.le_refl _⟩ rfl ?_
          refine zV_imul (n := 86) C dX9_secondsOf_85 rfl ?_
          refine zV_iadd (n := 87) C dX9_secondsOf_86 rfl ?_
          refine zV_aload_n (i := 0) (n := 88) C dX9_secondsOf_87 rfl rfl rfl ?_
          refine zV_getP (f := 0) (n := 91) C zk8 fX9_7 dX9_secondsOf_88 zs_ref rfl (by decide) rfl ?_
          refine zV_iconst (n := 92) C dX9_secondsOf_91 rfl ?_
          refine zV_iald (n := 93) C dX9_secondsOf_92 zs_s (by first | omega | exact zb_rg) (by decide) rfl ?_
          refine zV_iadd (n := 94) C dX9_secondsOf_93 rfl ?_
          refine zV_iload (n := 96) C dX9_secondsOf_94 rfl rfl ?_
          refine zV_iadd (n := 97) C dX9_secondsOf_96 rfl ?_
          exact zV_ireturn C hr hlk dX9_secondsOf_97 (by exact congrArg (fun z => some (Value.int (zi z))) (by unfold rSec rSecK rWay; (repeat' split) <;> omega)) (by rfl)
      · skip
        refine zV_iload_n (i := 3) (n := 36) C dX9_secondsOf_35 rfl rfl rfl ?_
        refine zV_goto C 52 dX9_secondsOf_36 (by decide) ?_
        refine zS_istore_5_4 (n := 54) C dX9_secondsOf_52 rfl rfl ?_
        refine zV_aload_n (i := 0) (n := 55) C dX9_secondsOf_54 rfl rfl rfl ?_
        refine zV_iload_n (i := 1) (n := 56) C dX9_secondsOf_55 rfl rfl rfl ?_
        refine zV_iload_n (i := 2) (n := 57) C dX9_secondsOf_56 rfl rfl rfl ?_
        refine zV_callV2u (n := 60) C zk8 jX9_takes lX9_115 (m_takes (d := d) I (by omega) (by omega)) dX9_secondsOf_57 zs_ref rfl (Nat.le_of_ble_eq_true rfl) (zfit_of (by omega) (by decide)) ⟨Nat.le_refl _, Nat.le_refl _⟩ rfl ?_
        refine zV_iconst (n := 61) C dX9_secondsOf_60 rfl ?_
        refine zV_aload_n (i := 0) (n := 62) C dX9_secondsOf_61 rfl rfl rfl ?_
        refine zV_iload_n (i := 2) (n := 63) C dX9_secondsOf_62 rfl rfl rfl ?_
        refine zV_iconst (n := 64) C dX9_secondsOf_63 rfl ?_
        refine zV_callV2u (n := 67) C zk8 jX9_its lX9_63 (m_its (d := d) (by omega)) dX9_secondsOf_64 zs_ref rfl (Nat.le_of_ble_eq_true rfl) (zfit_of (by omega) (by decide)) ⟨Nat.le_refl _, Nat.le_refl _⟩ rfl ?_
        refine zV_imul (n := 68) C dX9_secondsOf_67 rfl ?_
        refine zV_iadd (n := 69) C dX9_secondsOf_68 rfl ?_
        refine zV_iconst (n := 70) C dX9_secondsOf_69 rfl ?_
        refine zV_aload_n (i := 0) (n := 71) C dX9_secondsOf_70 rfl rfl rfl ?_
        refine zV_iload_n (i := 2) (n := 72) C dX9_secondsOf_71 rfl rfl rfl ?_
        refine zV_iconst (n := 73) C dX9_secondsOf_72 rfl ?_
        refine zV_callV2u (n := 76) C zk8 jX9_its lX9_63 (m_its (d := d) (by omega)) dX9_secondsOf_73 zs_ref rfl (Nat.le_of_ble_eq_true rfl) (zfit_of (by omega) (by decide)) ⟨Nat.le_refl _, Nat.le_refl _⟩ rfl ?_
        refine zV_imul (n := 77) C dX9_secondsOf_76 rfl ?_
        refine zV_iadd (n := 78) C dX9_secondsOf_77 rfl ?_
        refine zV_iconst (n := 79) C dX9_secondsOf_78 rfl ?_
        refine zV_aload_n (i := 0) (n := 80) C dX9_secondsOf_79 rfl rfl rfl ?_
        refine zV_iload_n (i := 1) (n := 81) C dX9_secondsOf_80 rfl rfl rfl ?_
        refine zV_iconst (n := 82) C dX9_secondsOf_81 rfl ?_
        refine zV_callV2u (n := 85) C zk8 jX9_told lX9_94 (m_told (d := d) (by omega)) dX9_secondsOf_82 zs_ref rfl (Nat.le_of_ble_eq_true rfl) (zfit_of (by omega) (by decide)) ⟨Nat.le_refl _, Nat.le_refl _⟩ rfl ?_
        refine zV_imul (n := 86) C dX9_secondsOf_85 rfl ?_
        refine zV_iadd (n := 87) C dX9_secondsOf_86 rfl ?_
        refine zV_aload_n (i := 0) (n := 88) C dX9_secondsOf_87 rfl rfl rfl ?_
        refine zV_getP (f := 0) (n := 91) C zk8 fX9_7 dX9_secondsOf_88 zs_ref rfl (by decide) rfl ?_
        refine zV_iconst (n := 92) C dX9_secondsOf_91 rfl ?_
        refine zV_iald (n := 93) C dX9_secondsOf_92 zs_s (by first | omega | exact zb_rg) (by decide) rfl ?_
        refine zV_iadd (n := 94) C dX9_secondsOf_93 rfl ?_
        refine zV_iload (n := 96) C dX9_secondsOf_94 rfl rfl ?_
        refine zV_iadd (n := 97) C dX9_secondsOf_96 rfl ?_
        exact zV_ireturn C hr hlk dX9_secondsOf_97 (by exact congrArg (fun z => some (Value.int (zi z))) (by unfold rSec rSecK rWay; (repeat' split) <;> omega)) (by rfl)

set_option maxRecDepth 100000 in
set_option maxHeartbeats 4000000 in
theorem m_snugOf {Γ : zC} {l : Launch} {d : Nat} {μ : zMem} {N : Int} (I : rInv N (μ 5 1)) {x : Int} (hx : 0 ≤ x ∧ x < 6) {k : Int} (hk : 0 ≤ k ∧ k < 3)  : zRet Γ l (d + 2) qX9_snugOf [.ref (za Γ 5 0), .int (zi x), .int (zi k)] μ (some (.int (zi (rSnug (μ 5 1) x k)))) μ := by
  refine zRet.mk 1 [.ref (za Γ 5 0), .int (zi x), .int (zi k), .null] RX9 rfl (by decide +kernel) (Nat.le_of_ble_eq_true rfl) rfl ?_
  intro p e s m below meth c C hr hlk
  have hc := I.2.2.2.2.2.1 x hx.1 hx.2
  have hs := I.2.2.2.2.1 k hk.1 hk.2
  have h0 := I.1
  have h1 := I.2.1
  have h2 := I.2.2.1
  have h3 := I.2.2.2.1
  refine zV_bipush (n := 2) C dX9_snugOf_0 (by decide) rfl ?_
  refine zV_aload_n (i := 0) (n := 3) C dX9_snugOf_2 rfl rfl rfl ?_
  refine zV_iload_n (i := 2) (n := 4) C dX9_snugOf_3 rfl rfl rfl ?_
  refine zV_iconst (n := 5) C dX9_snugOf_4 rfl ?_
  refine zV_callV2u (n := 8) C zk8 jX9_its lX9_63 (m_its (d := d) (by omega)) dX9_snugOf_5 zs_ref rfl (Nat.le_of_ble_eq_true rfl) (zfit_of (by omega) (by decide)) ⟨Nat.le_refl _, Nat.le_refl _⟩ rfl ?_
  refine zV_isub (n := 9) C dX9_snugOf_8 rfl ?_
  refine zS_istore_n_4_3 (n := 10) C dX9_snugOf_9 rfl rfl ?_
  refine zV_aload_n (i := 0) (n := 11) C dX9_snugOf_10 rfl rfl rfl ?_
  refine zV_iload_n (i := 1) (n := 12) C dX9_snugOf_11 rfl rfl rfl ?_
  refine zV_iconst (n := 13) C dX9_snugOf_12 rfl ?_
  refine zV_callV2u (n := 16) C zk8 jX9_told lX9_94 (m_told (d := d) (by omega)) dX9_snugOf_13 zs_ref rfl (Nat.le_of_ble_eq_true rfl) (zfit_of (by omega) (by decide)) ⟨Nat.le_refl _, Nat.le_refl _⟩ rfl ?_
  have hsw16 : toS (μ 5 1) x 0 = 1 ∨ toS (μ 5 1) x 0 = 2 ∨ toS (μ 5 1) x 0 = 3 ∨ toS (μ 5 1) x 0 = 4 ∨ toS (μ 5 1) x 0 = 5 ∨ (toS (μ 5 1) x 0 < 1 ∨ 5 < toS (μ 5 1) x 0) := by omega
  rcases hsw16 with hsw | hsw | hsw | hsw | hsw | hsw
  · skip
    refine zV_tswIn C 52 dX9_snugOf_16 (by omega) (by omega) (by omega) (by rw [hsw]; rfl) (by decide) ?_
    refine zV_iload_n (i := 3) (n := 53) C dX9_snugOf_52 rfl rfl rfl ?_
    refine zV_aload_n (i := 0) (n := 54) C dX9_snugOf_53 rfl rfl rfl ?_
    refine zV_iload_n (i := 1) (n := 55) C dX9_snugOf_54 rfl rfl rfl ?_
    refine zV_iconst (n := 56) C dX9_snugOf_55 rfl ?_
    refine zV_callV2u (n := 59) C zk8 jX9_told lX9_94 (m_told (d := d) (by omega)) dX9_snugOf_56 zs_ref rfl (Nat.le_of_ble_eq_true rfl) (zfit_of (by omega) (by decide)) ⟨Nat.le_refl _, Nat.le_refl _⟩ rfl ?_
    refine zV_iconst (n := 60) C dX9_snugOf_59 rfl ?_
    refine zV_idiv (n := 61) C dX9_snugOf_60 (by first | omega | exact zb_rg) (by first | omega | exact zb_rg) rfl ?_
    refine zV_isub (n := 62) C dX9_snugOf_61 rfl ?_
    refine zS_istore_n_4_3 (n := 63) C dX9_snugOf_62 rfl rfl ?_
    refine zV_goto C 119 dX9_snugOf_63 (by decide) ?_
    refine zV_iload_n (i := 3) (n := 120) C dX9_snugOf_119 rfl rfl rfl ?_
    refine zV_iconst (n := 121) C dX9_snugOf_120 rfl ?_
    refine zV_aload_n (i := 0) (n := 122) C dX9_snugOf_121 rfl rfl rfl ?_
    refine zV_iload_n (i := 1) (n := 123) C dX9_snugOf_122 rfl rfl rfl ?_
    refine zV_iconst (n := 124) C dX9_snugOf_123 rfl ?_
    refine zV_callV2u (n := 127) C zk8 jX9_told lX9_94 (m_told (d := d) (by omega)) dX9_snugOf_124 zs_ref rfl (Nat.le_of_ble_eq_true rfl) (zfit_of (by omega) (by decide)) ⟨Nat.le_refl _, Nat.le_refl _⟩ rfl ?_
    refine zV_imul (n := 128) C dX9_snugOf_127 rfl ?_
    refine zV_isub (n := 129) C dX9_snugOf_128 rfl ?_
    refine zS_istore_n_4_3 (n := 130) C dX9_snugOf_129 rfl rfl ?_
    refine zV_iload_n (i := 3) (n := 131) C dX9_snugOf_130 rfl rfl rfl ?_
    refine zV_if_ge (n := 134) C 138 dX9_snugOf_131 (by decide) (by first | omega | exact zb_rg) rfl (fun h131 => ?_) (fun h131 => ?_)
    · skip
      refine zV_iload_n (i := 3) (n := 139) C dX9_snugOf_138 rfl rfl rfl ?_
      exact zV_ireturn C hr hlk dX9_snugOf_139 (by exact congrArg (fun z => some (Value.int (zi z))) (by unfold rSnug rSnugs; (repeat' split) <;> omega)) (by rfl)
    · skip
      refine zV_iconst (n := 135) C dX9_snugOf_134 rfl ?_
      refine zV_goto C 139 dX9_snugOf_135 (by decide) ?_
      exact zV_ireturn C hr hlk dX9_snugOf_139 (by exact congrArg (fun z => some (Value.int (zi z))) (by unfold rSnug rSnugs; (repeat' split) <;> omega)) (by rfl)
  · skip
    refine zV_tswIn C 66 dX9_snugOf_16 (by omega) (by omega) (by omega) (by rw [hsw]; rfl) (by decide) ?_
    refine zV_iload_n (i := 3) (n := 67) C dX9_snugOf_66 rfl rfl rfl ?_
    refine zV_aload_n (i := 0) (n := 68) C dX9_snugOf_67 rfl rfl rfl ?_
    refine zV_iload_n (i := 1) (n := 69) C dX9_snugOf_68 rfl rfl rfl ?_
    refine zV_iconst (n := 70) C dX9_snugOf_69 rfl ?_
    refine zV_callV2u (n := 73) C zk8 jX9_told lX9_94 (m_told (d := d) (by omega)) dX9_snugOf_70 zs_ref rfl (Nat.le_of_ble_eq_true rfl) (zfit_of (by omega) (by decide)) ⟨Nat.le_refl _, Nat.le_refl _⟩ rfl ?_
    refine zV_bipush (n := 75) C dX9_snugOf_73 (by decide) rfl ?_
    refine zV_idiv (n := 76) C dX9_snugOf_75 (by first | omega | exact zb_rg) (by first | omega | exact zb_rg) rfl ?_
    refine zV_isub (n := 77) C dX9_snugOf_76 rfl ?_
    refine zS_istore_n_4_3 (n := 78) C dX9_snugOf_77 rfl rfl ?_
    refine zV_goto C 119 dX9_snugOf_78 (by decide) ?_
    refine zV_iload_n (i := 3) (n := 120) C dX9_snugOf_119 rfl rfl rfl ?_
    refine zV_iconst (n := 121) C dX9_snugOf_120 rfl ?_
    refine zV_aload_n (i := 0) (n := 122) C dX9_snugOf_121 rfl rfl rfl ?_
    refine zV_iload_n (i := 1) (n := 123) C dX9_snugOf_122 rfl rfl rfl ?_
    refine zV_iconst (n := 124) C dX9_snugOf_123 rfl ?_
    refine zV_callV2u (n := 127) C zk8 jX9_told lX9_94 (m_told (d := d) (by omega)) dX9_snugOf_124 zs_ref rfl (Nat.le_of_ble_eq_true rfl) (zfit_of (by omega) (by decide)) ⟨Nat.le_refl _, Nat.le_refl _⟩ rfl ?_
    refine zV_imul (n := 128) C dX9_snugOf_127 rfl ?_
    refine zV_isub (n := 129) C dX9_snugOf_128 rfl ?_
    refine zS_istore_n_4_3 (n := 130) C dX9_snugOf_129 rfl rfl ?_
    refine zV_iload_n (i := 3) (n := 131) C dX9_snugOf_130 rfl rfl rfl ?_
    refine zV_if_ge (n := 134) C 138 dX9_snugOf_131 (by decide) (by first | omega | exact zb_rg) rfl (fun h131 => ?_) (fun h131 => ?_)
    · skip
      refine zV_iload_n (i := 3) (n := 139) C dX9_snugOf_138 rfl rfl rfl ?_
      exact zV_ireturn C hr hlk dX9_snugOf_139 (by exact congrArg (fun z => some (Value.int (zi z))) (by unfold rSnug rSnugs; (repeat' split) <;> omega)) (by rfl)
    · skip
      refine zV_iconst (n := 135) C dX9_snugOf_134 rfl ?_
      refine zV_goto C 139 dX9_snugOf_135 (by decide) ?_
      exact zV_ireturn C hr hlk dX9_snugOf_139 (by exact congrArg (fun z => some (Value.int (zi z))) (by unfold rSnug rSnugs; (repeat' split) <;> omega)) (by rfl)
  · skip
    refine zV_tswIn C 81 dX9_snugOf_16 (by omega) (by omega) (by omega) (by rw [hsw]; rfl) (by decide) ?_
    refine zV_iload_n (i := 3) (n := 82) C dX9_snugOf_81 rfl rfl rfl ?_
    refine zV_aload_n (i := 0) (n := 83) C dX9_snugOf_82 rfl rfl rfl ?_
    refine zV_iload_n (i := 2) (n := 84) C dX9_snugOf_83 rfl rfl rfl ?_
    refine zV_iconst (n := 85) C dX9_snugOf_84 rfl ?_
    refine zV_callV2u (n := 88) C zk8 jX9_its lX9_63 (m_its (d := d) (by omega)) dX9_snugOf_85 zs_ref rfl (Nat.le_of_ble_eq_true rfl) (zfit_of (by omega) (by decide)) ⟨Nat.le_refl _, Nat.le_refl _⟩ rfl ?_
    refine zV_iconst (n := 89) C dX9_snugOf_88 rfl ?_
    refine zV_icmp_ne (n := 92) C 96 dX9_snugOf_89 (by decide) (by first | omega | exact zb_rg) (by first | omega | exact zb_rg) rfl (fun h89 => ?_) (fun h89 => ?_)
    · skip
      refine zV_iconst (n := 97) C dX9_snugOf_96 rfl ?_
      refine zV_isub (n := 98) C dX9_snugOf_97 rfl ?_
      refine zS_istore_n_4_3 (n := 99) C dX9_snugOf_98 rfl rfl ?_
      refine zV_goto C 119 dX9_snugOf_99 (by decide) ?_
      refine zV_iload_n (i := 3) (n := 120) C dX9_snugOf_119 rfl rfl rfl ?_
      refine zV_iconst (n := 121) C dX9_snugOf_120 rfl ?_
      refine zV_aload_n (i := 0) (n := 122) C dX9_snugOf_121 rfl rfl rfl ?_
      refine zV_iload_n (i := 1) (n := 123) C dX9_snugOf_122 rfl rfl rfl ?_
      refine zV_iconst (n := 124) C dX9_snugOf_123 rfl ?_
      refine zV_callV2u (n := 127) C zk8 jX9_told lX9_94 (m_told (d := d) (by omega)) dX9_snugOf_124 zs_ref rfl (Nat.le_of_ble_eq_true rfl) (zfit_of (by omega) (by decide)) ⟨Nat.le_refl _, Nat.le_refl _⟩ rfl ?_
      refine zV_imul (n := 128) C dX9_snugOf_127 rfl ?_
      refine zV_isub (n := 129) C dX9_snugOf_128 rfl ?_
      refine zS_istore_n_4_3 (n := 130) C dX9_snugOf_129 rfl rfl ?_
      refine zV_iload_n (i := 3) (n := 131) C dX9_snugOf_130 rfl rfl rfl ?_
      refine zV_if_ge (n := 134) C 138 dX9_snugOf_131 (by decide) (by first | omega | exact zb_rg) rfl (fun h131 => ?_) (fun h131 => ?_)
      · skip
        refine zV_iload_n (i := 3) (n := 139) C dX9_snugOf_138 rfl rfl rfl ?_
        exact zV_ireturn C hr hlk dX9_snugOf_139 (by exact congrArg (fun z => some (Value.int (zi z))) (by unfold rSnug rSnugs; (repeat' split) <;> omega)) (by rfl)
      · skip
        refine zV_iconst (n := 135) C dX9_snugOf_134 rfl ?_
        refine zV_goto C 139 dX9_snugOf_135 (by decide) ?_
        exact zV_ireturn C hr hlk dX9_snugOf_139 (by exact congrArg (fun z => some (Value.int (zi z))) (by unfold rSnug rSnugs; (repeat' split) <;> omega)) (by rfl)
    · skip
      refine zV_iconst (n := 93) C dX9_snugOf_92 rfl ?_
      refine zV_goto C 97 dX9_snugOf_93 (by decide) ?_
      refine zV_isub (n := 98) C dX9_snugOf_97 rfl ?_
      refine zS_istore_n_4_3 (n := 99) C dX9_snugOf_98 rfl rfl ?_
      refine zV_goto C 119 dX9_snugOf_99 (by decide) ?_
      refine zV_iload_n (i := 3) (n := 120) C dX9_snugOf_119 rfl rfl rfl ?_
      refine zV_iconst (n := 121) C dX9_snugOf_120 rfl ?_
      refine zV_aload_n (i := 0) (n := 122) C dX9_snugOf_121 rfl rfl rfl ?_
      refine zV_iload_n (i := 1) (n := 123) C dX9_snugOf_122 rfl rfl rfl ?_
      refine zV_iconst (n := 124) C dX9_snugOf_123 rfl ?_
      refine zV_callV2u (n := 127) C zk8 jX9_told lX9_94 (m_told (d := d) (by omega)) dX9_snugOf_124 zs_ref rfl (Nat.le_of_ble_eq_true rfl) (zfit_of (by omega) (by decide)) ⟨Nat.le_refl _, Nat.le_refl _⟩ rfl ?_
      refine zV_imul (n := 128) C dX9_snugOf_127 rfl ?_
      refine zV_isub (n := 129) C dX9_snugOf_128 rfl ?_
      refine zS_istore_n_4_3 (n := 130) C dX9_snugOf_129 rfl rfl ?_
      refine zV_iload_n (i := 3) (n := 131) C dX9_snugOf_130 rfl rfl rfl ?_
      refine zV_if_ge (n := 134) C 138 dX9_snugOf_131 (by decide) (by first | omega | exact zb_rg) rfl (fun h131 => ?_) (fun h131 => ?_)
      · skip
        refine zV_iload_n (i := 3) (n := 139) C dX9_snugOf_138 rfl rfl rfl ?_
        exact zV_ireturn C hr hlk dX9_snugOf_139 (by exact congrArg (fun z => some (Value.int (zi z))) (by unfold rSnug rSnugs; (repeat' split) <;> omega)) (by rfl)
      · skip
        refine zV_iconst (n := 135) C dX9_snugOf_134 rfl ?_
        refine zV_goto C 139 dX9_snugOf_135 (by decide) ?_
        exact zV_ireturn C hr hlk dX9_snugOf_139 (by exact congrArg (fun z => some (Value.int (zi z))) (by unfold rSnug rSnugs; (repeat' split) <;> omega)) (by rfl)
  · skip
    refine zV_tswIn C 52 dX9_snugOf_16 (by omega) (by omega) (by omega) (by rw [hsw]; rfl) (by decide) ?_
    refine zV_iload_n (i := 3) (n := 53) C dX9_snugOf_52 rfl rfl rfl ?_
    refine zV_aload_n (i := 0) (n := 54) C dX9_snugOf_53 rfl rfl rfl ?_
    refine zV_iload_n (i := 1) (n := 55) C dX9_snugOf_54 rfl rfl rfl ?_
    refine zV_iconst (n := 56) C dX9_snugOf_55 rfl ?_
    refine zV_callV2u (n := 59) C zk8 jX9_told lX9_94 (m_told (d := d) (by omega)) dX9_snugOf_56 zs_ref rfl (Nat.le_of_ble_eq_true rfl) (zfit_of (by omega) (by decide)) ⟨Nat.le_refl _, Nat.le_refl _⟩ rfl ?_
    refine zV_iconst (n := 60) C dX9_snugOf_59 rfl ?_
    refine zV_idiv (n := 61) C dX9_snugOf_60 (by first | omega | exact zb_rg) (by first | omega | exact zb_rg) rfl ?_
    refine zV_isub (n := 62) C dX9_snugOf_61 rfl ?_
    refine zS_istore_n_4_3 (n := 63) C dX9_snugOf_62 rfl rfl ?_
    refine zV_goto C 119 dX9_snugOf_63 (by decide) ?_
    refine zV_iload_n (i := 3) (n := 120) C dX9_snugOf_119 rfl rfl rfl ?_
    refine zV_iconst (n := 121) C dX9_snugOf_120 rfl ?_
    refine zV_aload_n (i := 0) (n := 122) C dX9_snugOf_121 rfl rfl rfl ?_
    refine zV_iload_n (i := 1) (n := 123) C dX9_snugOf_122 rfl rfl rfl ?_
    refine zV_iconst (n := 124) C dX9_snugOf_123 rfl ?_
    refine zV_callV2u (n := 127) C zk8 jX9_told lX9_94 (m_told (d := d) (by omega)) dX9_snugOf_124 zs_ref rfl (Nat.le_of_ble_eq_true rfl) (zfit_of (by omega) (by decide)) ⟨Nat.le_refl _, Nat.le_refl _⟩ rfl ?_
    refine zV_imul (n := 128) C dX9_snugOf_127 rfl ?_
    refine zV_isub (n := 129) C dX9_snugOf_128 rfl ?_
    refine zS_istore_n_4_3 (n := 130) C dX9_snugOf_129 rfl rfl ?_
    refine zV_iload_n (i := 3) (n := 131) C dX9_snugOf_130 rfl rfl rfl ?_
    refine zV_if_ge (n := 134) C 138 dX9_snugOf_131 (by decide) (by first | omega | exact zb_rg) rfl (fun h131 => ?_) (fun h131 => ?_)
    · skip
      refine zV_iload_n (i := 3) (n := 139) C dX9_snugOf_138 rfl rfl rfl ?_
      exact zV_ireturn C hr hlk dX9_snugOf_139 (by exact congrArg (fun z => some (Value.int (zi z))) (by unfold rSnug rSnugs; (repeat' split) <;> omega)) (by rfl)
    · skip
      refine zV_iconst (n := 135) C dX9_snugOf_134 rfl ?_
      refine zV_goto C 139 dX9_snugOf_135 (by decide) ?_
      exact zV_ireturn C hr hlk dX9_snugOf_139 (by exact congrArg (fun z => some (Value.int (zi z))) (by unfold rSnug rSnugs; (repeat' split) <;> omega)) (by rfl)
  · skip
    refine zV_tswIn C 102 dX9_snugOf_16 (by omega) (by omega) (by omega) (by rw [hsw]; rfl) (by decide) ?_
    refine zV_iload_n (i := 3) (n := 103) C dX9_snugOf_102 rfl rfl rfl ?_
    refine zV_aload_n (i := 0) (n := 104) C dX9_snugOf_103 rfl rfl rfl ?_
    refine zV_iload_n (i := 1) (n := 105) C dX9_snugOf_104 rfl rfl rfl ?_
    refine zV_iconst (n := 106) C dX9_snugOf_105 rfl ?_
    refine zV_callV2u (n := 109) C zk8 jX9_told lX9_94 (m_told (d := d) (by omega)) dX9_snugOf_106 zs_ref rfl (Nat.le_of_ble_eq_true rfl) (zfit_of (by omega) (by decide)) ⟨Nat.le_refl _, Nat.le_refl _⟩ rfl ?_
    refine zV_bipush (n := 111) C dX9_snugOf_109 (by decide) rfl ?_
    refine zV_idiv (n := 112) C dX9_snugOf_111 (by first | omega | exact zb_rg) (by first | omega | exact zb_rg) rfl ?_
    refine zV_iconst (n := 113) C dX9_snugOf_112 rfl ?_
    refine zV_iadd (n := 114) C dX9_snugOf_113 rfl ?_
    refine zV_isub (n := 115) C dX9_snugOf_114 rfl ?_
    refine zS_istore_n_4_3 (n := 116) C dX9_snugOf_115 rfl rfl ?_
    refine zV_goto C 119 dX9_snugOf_116 (by decide) ?_
    refine zV_iload_n (i := 3) (n := 120) C dX9_snugOf_119 rfl rfl rfl ?_
    refine zV_iconst (n := 121) C dX9_snugOf_120 rfl ?_
    refine zV_aload_n (i := 0) (n := 122) C dX9_snugOf_121 rfl rfl rfl ?_
    refine zV_iload_n (i := 1) (n := 123) C dX9_snugOf_122 rfl rfl rfl ?_
    refine zV_iconst (n := 124) C dX9_snugOf_123 rfl ?_
    refine zV_callV2u (n := 127) C zk8 jX9_told lX9_94 (m_told (d := d) (by omega)) dX9_snugOf_124 zs_ref rfl (Nat.le_of_ble_eq_true rfl) (zfit_of (by omega) (by decide)) ⟨Nat.le_refl _, Nat.le_refl _⟩ rfl ?_
    refine zV_imul (n := 128) C dX9_snugOf_127 rfl ?_
    refine zV_isub (n := 129) C dX9_snugOf_128 rfl ?_
    refine zS_istore_n_4_3 (n := 130) C dX9_snugOf_129 rfl rfl ?_
    refine zV_iload_n (i := 3) (n := 131) C dX9_snugOf_130 rfl rfl rfl ?_
    refine zV_if_ge (n := 134) C 138 dX9_snugOf_131 (by decide) (by first | omega | exact zb_rg) rfl (fun h131 => ?_) (fun h131 => ?_)
    · skip
      refine zV_iload_n (i := 3) (n := 139) C dX9_snugOf_138 rfl rfl rfl ?_
      exact zV_ireturn C hr hlk dX9_snugOf_139 (by exact congrArg (fun z => some (Value.int (zi z))) (by unfold rSnug rSnugs; (repeat' split) <;> omega)) (by rfl)
    · skip
      refine zV_iconst (n := 135) C dX9_snugOf_134 rfl ?_
      refine zV_goto C 139 dX9_snugOf_135 (by decide) ?_
      exact zV_ireturn C hr hlk dX9_snugOf_139 (by exact congrArg (fun z => some (Value.int (zi z))) (by unfold rSnug rSnugs; (repeat' split) <;> omega)) (by rfl)
  · skip
    refine zV_tswOut C 119 dX9_snugOf_16 (by omega) (by omega) (by decide) ?_
    refine zV_iload_n (i := 3) (n := 120) C dX9_snugOf_119 rfl rfl rfl ?_
    refine zV_iconst (n := 121) C dX9_snugOf_120 rfl ?_
    refine zV_aload_n (i := 0) (n := 122) C dX9_snugOf_121 rfl rfl rfl ?_
    refine zV_iload_n (i := 1) (n := 123) C dX9_snugOf_122 rfl rfl rfl ?_
    refine zV_iconst (n := 124) C dX9_snugOf_123 rfl ?_
    refine zV_callV2u (n := 127) C zk8 jX9_told lX9_94 (m_told (d := d) (by omega)) dX9_snugOf_124 zs_ref rfl (Nat.le_of_ble_eq_true rfl) (zfit_of (by omega) (by decide)) ⟨Nat.le_refl _, Nat.le_refl _⟩ rfl ?_
    refine zV_imul (n := 128) C dX9_snugOf_127 rfl ?_
    refine zV_isub (n := 129) C dX9_snugOf_128 rfl ?_
    refine zS_istore_n_4_3 (n := 130) C dX9_snugOf_129 rfl rfl ?_
    refine zV_iload_n (i := 3) (n := 131) C dX9_snugOf_130 rfl rfl rfl ?_
    refine zV_if_ge (n := 134) C 138 dX9_snugOf_131 (by decide) (by first | omega | exact zb_rg) rfl (fun h131 => ?_) (fun h131 => ?_)
    · skip
      refine zV_iload_n (i := 3) (n := 139) C dX9_snugOf_138 rfl rfl rfl ?_
      exact zV_ireturn C hr hlk dX9_snugOf_139 (by exact congrArg (fun z => some (Value.int (zi z))) (by unfold rSnug rSnugs; (repeat' split) <;> omega)) (by rfl)
    · skip
      refine zV_iconst (n := 135) C dX9_snugOf_134 rfl ?_
      refine zV_goto C 139 dX9_snugOf_135 (by decide) ?_
      exact zV_ireturn C hr hlk dX9_snugOf_139 (by exact congrArg (fun z => some (Value.int (zi z))) (by unfold rSnug rSnugs; (repeat' split) <;> omega)) (by rfl)

