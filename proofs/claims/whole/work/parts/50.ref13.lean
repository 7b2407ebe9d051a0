/-! the reference: its text (laid by wip/whole/gen/ref13.py) -/
set_option maxRecDepth 100000 in
set_option maxHeartbeats 4000000 in
theorem m_byteAt {Γ : zC} {l : Launch} {d : Nat} {μ : zMem} (hT : tapeOk (μ 5 8) (μ 5 0 10)) {i : Int} (hi : 0 ≤ i ∧ i ≤ 200) : zRet Γ l (d + 0) qX9_byteAt [.ref (za Γ 5 0), .int (zi i)] μ (some (.int (zi (bA (μ 5 8) (μ 5 0 10) i)))) μ := by
  refine zRet.mk 0 [.ref (za Γ 5 0), .int (zi i)] RX9 rfl (by decide +kernel) (Nat.le_of_ble_eq_true rfl) rfl ?_
  intro p e s m below meth c C hr hlk
  have hn := hT.1
  refine zV_iload_n (i := 1) (n := 1) C dX9_byteAt_0 rfl rfl rfl ?_
  refine zV_aload_n (i := 0) (n := 2) C dX9_byteAt_1 rfl rfl rfl ?_
  refine zV_getI (f := 10) (fi := 10) (n := 5) C zk8 fX9_190 dX9_byteAt_2 zs_ref rfl (by decide) rfl rfl ?_
  refine zV_icmp_ge (n := 8) C 17 dX9_byteAt_5 (by decide) (by first | omega | exact zb_rg) (by first | omega | exact zb_rg) rfl (fun h5 => ?_) (fun h5 => ?_)
  · skip
    refine zV_iconst (n := 18) C dX9_byteAt_17 rfl ?_
    exact zV_ireturn C hr hlk dX9_byteAt_18 (by first | exact congrArg (fun z => some (Value.int (zi z))) ((if_pos (by omega)).symm) | exact congrArg (fun z => some (Value.int (zi z))) ((if_neg (by omega)).symm)) (by rfl)
  · skip
    refine zV_aload_n (i := 0) (n := 9) C dX9_byteAt_8 rfl rfl rfl ?_
    refine zV_getP (f := 9) (n := 12) C zk8 fX9_31 dX9_byteAt_9 zs_ref rfl (by decide) rfl ?_
    refine zV_iload_n (i := 1) (n := 13) C dX9_byteAt_12 rfl rfl rfl ?_
    refine zV_iald (n := 14) C dX9_byteAt_13 zs_rtape (by first | omega | exact zb_rg) (by decide) rfl ?_
    refine zV_goto C 18 dX9_byteAt_14 (by decide) ?_
    exact zV_ireturn C hr hlk dX9_byteAt_18 (by first | exact congrArg (fun z => some (Value.int (zi z))) ((if_pos (by omega)).symm) | exact congrArg (fun z => some (Value.int (zi z))) ((if_neg (by omega)).symm)) (by rfl)

set_option maxRecDepth 100000 in
set_option maxHeartbeats 4000000 in
theorem m_token_sk {Γ : zC} {l : Launch} {d : Nat} {p : Program} {e : Env} {s : State} {m : MethodId} {args : Array Value} {below : List Frame} {meth : Method} {c : Code} {Q : State → Prop} (C : zCx Γ (zAA Γ) p s m args c RX9 cX9_token 3) {μ : zMem} (hT : tapeOk (μ 5 8) (μ 5 0 10)) {t v w : Int} {S : Int → Int} {v1 v2 : Value} :
    ∀ (i : Nat) (e9 : Int) (h0 : 0 ≤ e9) (hi : e9 + i = (μ 5 0 10)) (KK : zV Γ (zAA Γ) p l e (zRm (d + 2)) s m args below meth c 0 0 Q 34 [.ref (za Γ 5 0), v1, v2] [] (zp μ (sk (μ 5 8) (μ 5 0 10) i e9) t v w S)), zV Γ (zAA Γ) p l e (zRm (d + 2)) s m args below meth c 0 0 Q 8 [.ref (za Γ 5 0), v1, v2] [] (zp μ e9 t v w S) := by
  intro i
  induction i with
  | zero =>
    intro e9 h0 hi KK
    have hn := hT.1
    have hb := bA_rg (i := e9) hT h0
    refine zV_aload_n (i := 0) (n := 9) C dX9_token_8 rfl rfl rfl ?_
    refine zV_aload_n (i := 0) (n := 10) C dX9_token_9 rfl rfl rfl ?_
    refine zV_getI (f := 11) (fi := 11) (n := 13) C zk8 fX9_204 dX9_token_10 zs_ref rfl (by decide) rfl rfl ?_
    rw [zp_f]
    refine zV_callV1u (n := 16) C zk8 jX9_byteAt lX9_207 (m_byteAt (d := d) (μ := (zp μ e9 t v w S)) (show tapeOk ((zp μ e9 t v w S) 5 8) ((zp μ e9 t v w S) 5 0 10) from hT) (by omega)) dX9_token_13 zs_ref rfl (Nat.le_of_ble_eq_true rfl) (zfit_of (by omega) (by decide)) ⟨Nat.le_refl _, Nat.le_refl _⟩ rfl ?_
    rw [zp_T, zp_n]
    refine zV_bipush (n := 18) C dX9_token_16 (by decide) rfl ?_
    refine zV_icmp_ne (n := 21) C 34 dX9_token_18 (by decide) (by first | omega | exact zb_rg) (by first | omega | exact zb_rg) rfl (fun h18 => ?_) (fun h => by exfalso; first | omega | exact zb_rg)
    exact KK
  | succ i ih =>
    intro e9 h0 hi KK
    have hn := hT.1
    have hb := bA_rg (i := e9) hT h0
    unfold sk at KK
    refine zV_aload_n (i := 0) (n := 9) C dX9_token_8 rfl rfl rfl ?_
    refine zV_aload_n (i := 0) (n := 10) C dX9_token_9 rfl rfl rfl ?_
    refine zV_getI (f := 11) (fi := 11) (n := 13) C zk8 fX9_204 dX9_token_10 zs_ref rfl (by decide) rfl rfl ?_
    rw [zp_f]
    refine zV_callV1u (n := 16) C zk8 jX9_byteAt lX9_207 (m_byteAt (d := d) (μ := (zp μ e9 t v w S)) (show tapeOk ((zp μ e9 t v w S) 5 8) ((zp μ e9 t v w S) 5 0 10) from hT) (by omega)) dX9_token_13 zs_ref rfl (Nat.le_of_ble_eq_true rfl) (zfit_of (by omega) (by decide)) ⟨Nat.le_refl _, Nat.le_refl _⟩ rfl ?_
    rw [zp_T, zp_n]
    refine zV_bipush (n := 18) C dX9_token_16 (by decide) rfl ?_
    refine zV_icmp_ne (n := 21) C 34 dX9_token_18 (by decide) (by first | omega | exact zb_rg) (by first | omega | exact zb_rg) rfl (fun h18 => ?_) (fun h18 => ?_)
    · skip
      rw [if_neg h18] at KK; exact KK
    · skip
      refine zV_aload_n (i := 0) (n := 22) C dX9_token_21 rfl rfl rfl ?_
      refine zV_dup (n := 23) C dX9_token_22 rfl rfl ?_
      refine zV_getI (f := 11) (fi := 11) (n := 26) C zk8 fX9_204 dX9_token_23 zs_ref rfl (by decide) rfl rfl ?_
      rw [zp_f]
      refine zV_iconst (n := 27) C dX9_token_26 rfl ?_
      refine zV_iadd (n := 28) C dX9_token_27 rfl ?_
      refine zV_putI (f := 11) (fi := 11) (n := 31) C zk8 fX9_204 dX9_token_28 zs_ref rfl (by decide) rfl rfl rfl rfl ?_
      rw [zpu_f]
      refine zV_goto C 8 dX9_token_31 (by decide) ?_
      rw [if_pos h18] at KK; exact ih (e9 + 1) (by omega) (by omega) KK

set_option maxRecDepth 100000 in
set_option maxHeartbeats 4000000 in
theorem m_token_xw {Γ : zC} {l : Launch} {d : Nat} {p : Program} {e : Env} {s : State} {m : MethodId} {args : Array Value} {below : List Frame} {meth : Method} {c : Code} {Q : State → Prop} (C : zCx Γ (zAA Γ) p s m args c RX9 cX9_token 3) {μ : zMem} (hT : tapeOk (μ 5 8) (μ 5 0 10)) {f v w : Int} {S : Int → Int} :
    ∀ (i : Nat) (e9 : Int) (h0 : 0 ≤ e9) (hi : e9 + i = (μ 5 0 10)) (KK : zV Γ (zAA Γ) p l e (zRm (d + 2)) s m args below meth c 0 0 Q 135 [.ref (za Γ 5 0), .int (zi 1), .int (zi 0)] [] (zp μ f (xt (μ 5 8) (μ 5 0 10) 1 i e9) v w S)), zV Γ (zAA Γ) p l e (zRm (d + 2)) s m args below meth c 0 0 Q 86 [.ref (za Γ 5 0), .int (zi 1), .int (zi 0)] [] (zp μ f e9 v w S) := by
  intro i
  induction i with
  | zero =>
    intro e9 h0 hi KK
    have hn := hT.1
    have hb := bA_rg (i := e9) hT h0
    have hk9 := tk1 (b := bA (μ 5 8) (μ 5 0 10) e9)
    refine zV_iload_n (i := 1) (n := 87) C dX9_token_86 rfl rfl rfl ?_
    refine zV_if_eq (n := 90) C 104 dX9_token_87 (by decide) (by first | omega | exact zb_rg) rfl (fun h => by exfalso; first | omega | exact zb_rg) (fun h87 => ?_)
    refine zV_aload_n (i := 0) (n := 91) C dX9_token_90 rfl rfl rfl ?_
    refine zV_aload_n (i := 0) (n := 92) C dX9_token_91 rfl rfl rfl ?_
    refine zV_getI (f := 12) (fi := 12) (n := 95) C zk8 fX9_201 dX9_token_92 zs_ref rfl (by decide) rfl rfl ?_
    rw [zp_t]
    refine zV_callV1u (n := 98) C zk8 jX9_byteAt lX9_207 (m_byteAt (d := d) (μ := (zp μ f e9 v w S)) (show tapeOk ((zp μ f e9 v w S) 5 8) ((zp μ f e9 v w S) 5 0 10) from hT) (by omega)) dX9_token_95 zs_ref rfl (Nat.le_of_ble_eq_true rfl) (zfit_of (by omega) (by decide)) ⟨Nat.le_refl _, Nat.le_refl _⟩ rfl ?_
    rw [zp_T, zp_n]
    refine zV_callS1u (n := 101) C jX9_isLetter lX9_210 (m_isLetter (d := d) (by omega)) dX9_token_98 (Nat.le_of_ble_eq_true rfl) (zfit_of (by omega) (by decide)) ⟨Nat.le_refl _, Nat.le_refl _⟩ rfl ?_
    refine zV_if_ne (n := 104) C 122 dX9_token_101 (by decide) (by first | omega | exact zb_rg) rfl (fun h => by simp only [zb_eq0, Decidable.not_not] at h; exfalso; omega) (fun h101 => ?_)
    simp only [zb_eq0, Decidable.not_not] at h101
    refine zV_iload_n (i := 2) (n := 105) C dX9_token_104 rfl rfl rfl ?_
    refine zV_if_eq (n := 108) C 135 dX9_token_105 (by decide) (by first | omega | exact zb_rg) rfl (fun h105 => ?_) (fun h => by exfalso; first | omega | exact zb_rg)
    exact KK
  | succ i ih =>
    intro e9 h0 hi KK
    have hn := hT.1
    have hb := bA_rg (i := e9) hT h0
    have hk9 := tk1 (b := bA (μ 5 8) (μ 5 0 10) e9)
    unfold xt at KK
    refine zV_iload_n (i := 1) (n := 87) C dX9_token_86 rfl rfl rfl ?_
    refine zV_if_eq (n := 90) C 104 dX9_token_87 (by decide) (by first | omega | exact zb_rg) rfl (fun h => by exfalso; first | omega | exact zb_rg) (fun h87 => ?_)
    refine zV_aload_n (i := 0) (n := 91) C dX9_token_90 rfl rfl rfl ?_
    refine zV_aload_n (i := 0) (n := 92) C dX9_token_91 rfl rfl rfl ?_
    refine zV_getI (f := 12) (fi := 12) (n := 95) C zk8 fX9_201 dX9_token_92 zs_ref rfl (by decide) rfl rfl ?_
    rw [zp_t]
    refine zV_callV1u (n := 98) C zk8 jX9_byteAt lX9_207 (m_byteAt (d := d) (μ := (zp μ f e9 v w S)) (show tapeOk ((zp μ f e9 v w S) 5 8) ((zp μ f e9 v w S) 5 0 10) from hT) (by omega)) dX9_token_95 zs_ref rfl (Nat.le_of_ble_eq_true rfl) (zfit_of (by omega) (by decide)) ⟨Nat.le_refl _, Nat.le_refl _⟩ rfl ?_
    rw [zp_T, zp_n]
    refine zV_callS1u (n := 101) C jX9_isLetter lX9_210 (m_isLetter (d := d) (by omega)) dX9_token_98 (Nat.le_of_ble_eq_true rfl) (zfit_of (by omega) (by decide)) ⟨Nat.le_refl _, Nat.le_refl _⟩ rfl ?_
    refine zV_if_ne (n := 104) C 122 dX9_token_101 (by decide) (by first | omega | exact zb_rg) rfl (fun h101 => ?_) (fun h101 => ?_)
    · skip
      simp only [zb_eq0, Decidable.not_not] at h101
      refine zV_aload_n (i := 0) (n := 123) C dX9_token_122 rfl rfl rfl ?_
      refine zV_dup (n := 124) C dX9_token_123 rfl rfl ?_
      refine zV_getI (f := 12) (fi := 12) (n := 127) C zk8 fX9_201 dX9_token_124 zs_ref rfl (by decide) rfl rfl ?_
      rw [zp_t]
      refine zV_iconst (n := 128) C dX9_token_127 rfl ?_
      refine zV_iadd (n := 129) C dX9_token_128 rfl ?_
      refine zV_putI (f := 12) (fi := 12) (n := 132) C zk8 fX9_201 dX9_token_129 zs_ref rfl (by decide) rfl rfl rfl rfl ?_
      rw [zpu_t]
      refine zV_goto C 86 dX9_token_132 (by decide) ?_
      rw [if_pos (hk9.mpr (by omega))] at KK; exact ih (e9 + 1) (by omega) (by omega) KK
    · skip
      simp only [zb_eq0, Decidable.not_not] at h101
      refine zV_iload_n (i := 2) (n := 105) C dX9_token_104 rfl rfl rfl ?_
      refine zV_if_eq (n := 108) C 135 dX9_token_105 (by decide) (by first | omega | exact zb_rg) rfl (fun h105 => ?_) (fun h => by exfalso; first | omega | exact zb_rg)
      rw [if_neg (fun q => by have := hk9.mp q; omega)] at KK; exact KK

set_option maxRecDepth 100000 in
set_option maxHeartbeats 4000000 in
theorem m_token_xd {Γ : zC} {l : Launch} {d : Nat} {p : Program} {e : Env} {s : State} {m : MethodId} {args : Array Value} {below : List Frame} {meth : Method} {c : Code} {Q : State → Prop} (C : zCx Γ (zAA Γ) p s m args c RX9 cX9_token 3) {μ : zMem} (hT : tapeOk (μ 5 8) (μ 5 0 10)) {f v w : Int} {S : Int → Int} :
    ∀ (i : Nat) (e9 : Int) (h0 : 0 ≤ e9) (hi : e9 + i = (μ 5 0 10)) (KK : zV Γ (zAA Γ) p l e (zRm (d + 2)) s m args below meth c 0 0 Q 135 [.ref (za Γ 5 0), .int (zi 0), .int (zi 1)] [] (zp μ f (xt (μ 5 8) (μ 5 0 10) 2 i e9) v w S)), zV Γ (zAA Γ) p l e (zRm (d + 2)) s m args below meth c 0 0 Q 86 [.ref (za Γ 5 0), .int (zi 0), .int (zi 1)] [] (zp μ f e9 v w S) := by
  intro i
  induction i with
  | zero =>
    intro e9 h0 hi KK
    have hn := hT.1
    have hb := bA_rg (i := e9) hT h0
    have hk9 := tk2 (b := bA (μ 5 8) (μ 5 0 10) e9)
    refine zV_iload_n (i := 1) (n := 87) C dX9_token_86 rfl rfl rfl ?_
    refine zV_if_eq (n := 90) C 104 dX9_token_87 (by decide) (by first | omega | exact zb_rg) rfl (fun h87 => ?_) (fun h => by exfalso; first | omega | exact zb_rg)
    refine zV_iload_n (i := 2) (n := 105) C dX9_token_104 rfl rfl rfl ?_
    refine zV_if_eq (n := 108) C 135 dX9_token_105 (by decide) (by first | omega | exact zb_rg) rfl (fun h => by exfalso; first | omega | exact zb_rg) (fun h105 => ?_)
    refine zV_aload_n (i := 0) (n := 109) C dX9_token_108 rfl rfl rfl ?_
    refine zV_aload_n (i := 0) (n := 110) C dX9_token_109 rfl rfl rfl ?_
    refine zV_getI (f := 12) (fi := 12) (n := 113) C zk8 fX9_201 dX9_token_110 zs_ref rfl (by decide) rfl rfl ?_
    rw [zp_t]
    refine zV_callV1u (n := 116) C zk8 jX9_byteAt lX9_207 (m_byteAt (d := d) (μ := (zp μ f e9 v w S)) (show tapeOk ((zp μ f e9 v w S) 5 8) ((zp μ f e9 v w S) 5 0 10) from hT) (by omega)) dX9_token_113 zs_ref rfl (Nat.le_of_ble_eq_true rfl) (zfit_of (by omega) (by decide)) ⟨Nat.le_refl _, Nat.le_refl _⟩ rfl ?_
    rw [zp_T, zp_n]
    refine zV_callS1u (n := 119) C jX9_isDigit lX9_213 (m_isDigit (d := d) (by omega)) dX9_token_116 (Nat.le_of_ble_eq_true rfl) (zfit_of (by omega) (by decide)) ⟨Nat.le_refl _, Nat.le_refl _⟩ rfl ?_
    refine zV_if_eq (n := 122) C 135 dX9_token_119 (by decide) (by first | omega | exact zb_rg) rfl (fun h119 => ?_) (fun h => by simp only [zb_eq0, Decidable.not_not] at h; exfalso; omega)
    simp only [zb_eq0, Decidable.not_not] at h119
    exact KK
  | succ i ih =>
    intro e9 h0 hi KK
    have hn := hT.1
    have hb := bA_rg (i := e9) hT h0
    have hk9 := tk2 (b := bA (μ 5 8) (μ 5 0 10) e9)
    unfold xt at KK
    refine zV_iload_n (i := 1) (n := 87) C dX9_token_86 rfl rfl rfl ?_
    refine zV_if_eq (n := 90) C 104 dX9_token_87 (by decide) (by first | omega | exact zb_rg) rfl (fun h87 => ?_) (fun h => by exfalso; first | omega | exact zb_rg)
    refine zV_iload_n (i := 2) (n := 105) C dX9_token_104 rfl rfl rfl ?_
    refine zV_if_eq (n := 108) C 135 dX9_token_105 (by decide) (by first | omega | exact zb_rg) rfl (fun h => by exfalso; first | omega | exact zb_rg) (fun h105 => ?_)
    refine zV_aload_n (i := 0) (n := 109) C dX9_token_108 rfl rfl rfl ?_
    refine zV_aload_n (i := 0) (n := 110) C dX9_token_109 rfl rfl rfl ?_
    refine zV_getI (f := 12) (fi := 12) (n := 113) C zk8 fX9_201 dX9_token_110 zs_ref rfl (by decide) rfl rfl ?_
    rw [zp_t]
    refine zV_callV1u (n := 116) C zk8 jX9_byteAt lX9_207 (m_byteAt (d := d) (μ := (zp μ f e9 v w S)) (show tapeOk ((zp μ f e9 v w S) 5 8) ((zp μ f e9 v w S) 5 0 10) from hT) (by omega)) dX9_token_113 zs_ref rfl (Nat.le_of_ble_eq_true rfl) (zfit_of (by omega) (by decide)) ⟨Nat.le_refl _, Nat.le_refl _⟩ rfl ?_
    rw [zp_T, zp_n]
    refine zV_callS1u (n := 119) C jX9_isDigit lX9_213 (m_isDigit (d := d) (by omega)) dX9_token_116 (Nat.le_of_ble_eq_true rfl) (zfit_of (by omega) (by decide)) ⟨Nat.le_refl _, Nat.le_refl _⟩ rfl ?_
    refine zV_if_eq (n := 122) C 135 dX9_token_119 (by decide) (by first | omega | exact zb_rg) rfl (fun h119 => ?_) (fun h119 => ?_)
    · skip
      simp only [zb_eq0, Decidable.not_not] at h119
      rw [if_neg (fun q => by have := hk9.mp q; omega)] at KK; exact KK
    · skip
      simp only [zb_eq0, Decidable.not_not] at h119
      refine zV_aload_n (i := 0) (n := 123) C dX9_token_122 rfl rfl rfl ?_
      refine zV_dup (n := 124) C dX9_token_123 rfl rfl ?_
      refine zV_getI (f := 12) (fi := 12) (n := 127) C zk8 fX9_201 dX9_token_124 zs_ref rfl (by decide) rfl rfl ?_
      rw [zp_t]
      refine zV_iconst (n := 128) C dX9_token_127 rfl ?_
      refine zV_iadd (n := 129) C dX9_token_128 rfl ?_
      refine zV_putI (f := 12) (fi := 12) (n := 132) C zk8 fX9_201 dX9_token_129 zs_ref rfl (by decide) rfl rfl rfl rfl ?_
      rw [zpu_t]
      refine zV_goto C 86 dX9_token_132 (by decide) ?_
      rw [if_pos (hk9.mpr (by omega))] at KK; exact ih (e9 + 1) (by omega) (by omega) KK

set_option maxRecDepth 100000 in
set_option maxHeartbeats 4000000 in
theorem m_token {Γ : zC} {l : Launch} {d : Nat} {μ : zMem} {f t v w : Int} {S : Int → Int} (hT : tapeOk (μ 5 8) (μ 5 0 10)) (ht : 0 ≤ t ∧ t ≤ (μ 5 0 10)) : zRet Γ l (d + 2) qX9_token [.ref (za Γ 5 0)] (zp μ f t v w S) none (zp μ (nxF (μ 5 8) (μ 5 0 10) t) (nxT (μ 5 8) (μ 5 0 10) (nxF (μ 5 8) (μ 5 0 10) t)) v w S) := by
  refine zRet.mk 2 [.ref (za Γ 5 0), .null, .null] RX9 rfl (by decide +kernel) (Nat.le_of_ble_eq_true rfl) rfl ?_
  intro p e s m below meth c C hr hlk
  have hn := hT.1
  have hF := nxF_rg (T := (μ 5 8)) ht
  have hb := bA_rg (i := (nxF (μ 5 8) (μ 5 0 10) t)) hT (by omega)
  refine zV_aload_n (i := 0) (n := 1) C dX9_token_0 rfl rfl rfl ?_
  refine zV_aload_n (i := 0) (n := 2) C dX9_token_1 rfl rfl rfl ?_
  refine zV_getI (f := 12) (fi := 12) (n := 5) C zk8 fX9_201 dX9_token_2 zs_ref rfl (by decide) rfl rfl ?_
  rw [zp_t]
  refine zV_putI (f := 11) (fi := 11) (n := 8) C zk8 fX9_204 dX9_token_5 zs_ref rfl (by decide) rfl rfl rfl rfl ?_
  rw [zpu_f]
  refine m_token_sk C hT ((μ 5 0 10) - t).toNat t ht.1 (by omega) ?_
  refine zV_eqm (μ' := (zp μ (nxF (μ 5 8) (μ 5 0 10) t) t v w S)) rfl ?_
  refine zV_aload_n (i := 0) (n := 35) C dX9_token_34 rfl rfl rfl ?_
  refine zV_aload_n (i := 0) (n := 36) C dX9_token_35 rfl rfl rfl ?_
  refine zV_getI (f := 11) (fi := 11) (n := 39) C zk8 fX9_204 dX9_token_36 zs_ref rfl (by decide) rfl rfl ?_
  rw [zp_f]
  refine zV_callV1u (n := 42) C zk8 jX9_byteAt lX9_207 (m_byteAt (d := d) (μ := (zp μ (nxF (μ 5 8) (μ 5 0 10) t) t v w S)) (show tapeOk ((zp μ (nxF (μ 5 8) (μ 5 0 10) t) t v w S) 5 8) ((zp μ (nxF (μ 5 8) (μ 5 0 10) t) t v w S) 5 0 10) from hT) (by omega)) dX9_token_39 zs_ref rfl (Nat.le_of_ble_eq_true rfl) (zfit_of (by omega) (by decide)) ⟨Nat.le_refl _, Nat.le_refl _⟩ rfl ?_
  rw [zp_T, zp_n]
  refine zV_callS1u (n := 45) C jX9_isLetter lX9_210 (m_isLetter (d := d) (by omega)) dX9_token_42 (Nat.le_of_ble_eq_true rfl) (zfit_of (by omega) (by decide)) ⟨Nat.le_refl _, Nat.le_refl _⟩ rfl ?_
  refine zS_istore_n_3_1 (n := 46) C dX9_token_45 rfl rfl ?_
  refine zV_aload_n (i := 0) (n := 47) C dX9_token_46 rfl rfl rfl ?_
  refine zV_aload_n (i := 0) (n := 48) C dX9_token_47 rfl rfl rfl ?_
  refine zV_getI (f := 11) (fi := 11) (n := 51) C zk8 fX9_204 dX9_token_48 zs_ref rfl (by decide) rfl rfl ?_
  rw [zp_f]
  refine zV_callV1u (n := 54) C zk8 jX9_byteAt lX9_207 (m_byteAt (d := d) (μ := (zp μ (nxF (μ 5 8) (μ 5 0 10) t) t v w S)) (show tapeOk ((zp μ (nxF (μ 5 8) (μ 5 0 10) t) t v w S) 5 8) ((zp μ (nxF (μ 5 8) (μ 5 0 10) t) t v w S) 5 0 10) from hT) (by omega)) dX9_token_51 zs_ref rfl (Nat.le_of_ble_eq_true rfl) (zfit_of (by omega) (by decide)) ⟨Nat.le_refl _, Nat.le_refl _⟩ rfl ?_
  rw [zp_T, zp_n]
  refine zV_callS1u (n := 57) C jX9_isDigit lX9_213 (m_isDigit (d := d) (by omega)) dX9_token_54 (Nat.le_of_ble_eq_true rfl) (zfit_of (by omega) (by decide)) ⟨Nat.le_refl _, Nat.le_refl _⟩ rfl ?_
  refine zS_istore_n_3_2 (n := 58) C dX9_token_57 rfl rfl ?_
  refine zV_aload_n (i := 0) (n := 59) C dX9_token_58 rfl rfl rfl ?_
  refine zV_aload_n (i := 0) (n := 60) C dX9_token_59 rfl rfl rfl ?_
  refine zV_getI (f := 11) (fi := 11) (n := 63) C zk8 fX9_204 dX9_token_60 zs_ref rfl (by decide) rfl rfl ?_
  rw [zp_f]
  refine zV_aload_n (i := 0) (n := 64) C dX9_token_63 rfl rfl rfl ?_
  refine zV_getI (f := 10) (fi := 10) (n := 67) C zk8 fX9_190 dX9_token_64 zs_ref rfl (by decide) rfl rfl ?_
  rw [zp_n]
  refine zV_icmp_ge (n := 70) C 79 dX9_token_67 (by decide) (by first | omega | exact zb_rg) (by first | omega | exact zb_rg) rfl (fun h67 => ?_) (fun h67 => ?_)
  · skip
    refine zV_aload_n (i := 0) (n := 80) C dX9_token_79 rfl rfl rfl ?_
    refine zV_getI (f := 11) (fi := 11) (n := 83) C zk8 fX9_204 dX9_token_80 zs_ref rfl (by decide) rfl rfl ?_
    rw [zp_f]
    refine zV_putI (f := 12) (fi := 12) (n := 86) C zk8 fX9_201 dX9_token_83 zs_ref rfl (by decide) rfl rfl rfl rfl ?_
    rw [zpu_t]
    by_cases q1 : 97 ≤ bA (μ 5 8) (μ 5 0 10) (nxF (μ 5 8) (μ 5 0 10) t) ∧ bA (μ 5 8) (μ 5 0 10) (nxF (μ 5 8) (μ 5 0 10) t) ≤ 122
    · exfalso; omega
    · rw [zb_f q1]
      by_cases q2 : 48 ≤ bA (μ 5 8) (μ 5 0 10) (nxF (μ 5 8) (μ 5 0 10) t) ∧ bA (μ 5 8) (μ 5 0 10) (nxF (μ 5 8) (μ 5 0 10) t) ≤ 57
      · exfalso; omega
      · rw [zb_f q2]
        refine zV_iload_n (i := 1) (n := 87) C dX9_token_86 rfl rfl rfl ?_
        refine zV_if_eq (n := 90) C 104 dX9_token_87 (by decide) (by first | omega | exact zb_rg) rfl (fun h87 => ?_) (fun h => by exfalso; first | omega | exact zb_rg)
        refine zV_iload_n (i := 2) (n := 105) C dX9_token_104 rfl rfl rfl ?_
        refine zV_if_eq (n := 108) C 135 dX9_token_105 (by decide) (by first | omega | exact zb_rg) rfl (fun h105 => ?_) (fun h => by exfalso; first | omega | exact zb_rg)
        exact zV_return C hr hlk dX9_token_135 (by rfl) (by unfold nxT nxE; rw [if_neg (fun q => q.elim (fun z => q1 (tk1.mp z)) (fun z => q2 (tk2.mp z)))]; first | rw [if_pos (by omega)] | rw [if_neg (by omega)])
  · skip
    refine zV_aload_n (i := 0) (n := 71) C dX9_token_70 rfl rfl rfl ?_
    refine zV_getI (f := 11) (fi := 11) (n := 74) C zk8 fX9_204 dX9_token_71 zs_ref rfl (by decide) rfl rfl ?_
    rw [zp_f]
    refine zV_iconst (n := 75) C dX9_token_74 rfl ?_
    refine zV_iadd (n := 76) C dX9_token_75 rfl ?_
    refine zV_goto C 83 dX9_token_76 (by decide) ?_
    refine zV_putI (f := 12) (fi := 12) (n := 86) C zk8 fX9_201 dX9_token_83 zs_ref rfl (by decide) rfl rfl rfl rfl ?_
    rw [zpu_t]
    by_cases q1 : 97 ≤ bA (μ 5 8) (μ 5 0 10) (nxF (μ 5 8) (μ 5 0 10) t) ∧ bA (μ 5 8) (μ 5 0 10) (nxF (μ 5 8) (μ 5 0 10) t) ≤ 122
    · rw [zb_t q1, zb_f (show ¬ (48 ≤ bA (μ 5 8) (μ 5 0 10) (nxF (μ 5 8) (μ 5 0 10) t) ∧ bA (μ 5 8) (μ 5 0 10) (nxF (μ 5 8) (μ 5 0 10) t) ≤ 57) from by omega)]
      refine m_token_xw C hT ((μ 5 0 10) - ((nxF (μ 5 8) (μ 5 0 10) t) + 1)).toNat ((nxF (μ 5 8) (μ 5 0 10) t) + 1) (by omega) (by omega) ?_
      exact zV_return C hr hlk dX9_token_135 rfl (by unfold nxT; rw [if_pos (Or.inl (tk1.mpr q1)), tk1.mpr q1])
    · rw [zb_f q1]
      by_cases q2 : 48 ≤ bA (μ 5 8) (μ 5 0 10) (nxF (μ 5 8) (μ 5 0 10) t) ∧ bA (μ 5 8) (μ 5 0 10) (nxF (μ 5 8) (μ 5 0 10) t) ≤ 57
      · rw [zb_t q2]
        refine m_token_xd C hT ((μ 5 0 10) - ((nxF (μ 5 8) (μ 5 0 10) t) + 1)).toNat ((nxF (μ 5 8) (μ 5 0 10) t) + 1) (by omega) (by omega) ?_
        exact zV_return C hr hlk dX9_token_135 rfl (by unfold nxT; rw [if_pos (Or.inr (tk2.mpr q2)), tk2.mpr q2])
      · rw [zb_f q2]
        refine zV_iload_n (i := 1) (n := 87) C dX9_token_86 rfl rfl rfl ?_
        refine zV_if_eq (n := 90) C 104 dX9_token_87 (by decide) (by first | omega | exact zb_rg) rfl (fun h87 => ?_) (fun h => by exfalso; first | omega | exact zb_rg)
        refine zV_iload_n (i := 2) (n := 105) C dX9_token_104 rfl rfl rfl ?_
        refine zV_if_eq (n := 108) C 135 dX9_token_105 (by decide) (by first | omega | exact zb_rg) rfl (fun h105 => ?_) (fun h => by exfalso; first | omega | exact zb_rg)
        exact zV_return C hr hlk dX9_token_135 (by rfl) (by unfold nxT nxE; rw [if_neg (fun q => q.elim (fun z => q1 (tk1.mp z)) (fun z => q2 (tk2.mp z)))]; first | rw [if_pos (by omega)] | rw [if_neg (by omega)])

set_option maxRecDepth 100000 in
set_option maxHeartbeats 4000000 in
theorem m_must {Γ : zC} {l : Launch} {d : Nat} {μ : zMem} {P : Pst} {N : Int} (hT : tapeOk (μ 5 8) (μ 5 0 10)) (hP : pOk N (μ 5 8) (μ 5 0 10) P) {b : Int} (hbb : b = 0 ∨ b = 1) : zRet Γ l (d + 3) qX9_must [.ref (za Γ 5 0), .int (zi b)] (pMem μ P) none (pMem μ (pMust (μ 5 8) (μ 5 0 10) b P)) := by
  refine zRet.mk 0 [.ref (za Γ 5 0), .int (zi b)] RX9 rfl (by decide +kernel) (Nat.le_of_ble_eq_true rfl) rfl ?_
  intro p e s m below meth c C hr hlk
  obtain ⟨f, t, v, w, S⟩ := P
  have hP1 : (0 ≤ f ∧ f ≤ μ 5 0 10) ∧ t = nxT (μ 5 8) (μ 5 0 10) f ∧ (w = 0 ∨ w = 1) ∧ (0 ≤ v ∧ v ≤ 9999) ∧ rInv N S := hP
  have ht : f ≤ t ∧ t ≤ μ 5 0 10 ∧ (f < μ 5 0 10 → f < t) := pOk_t hT hP
  have hn := hT.1
  have hw := hP1.2.2.1
  have hf := hP1.1
  have hv := hP1.2.2.2.1
  have hb := bA_rg (i := f) hT hf.1
  refine zV_eqm (μ' := (zp μ f t v w S)) rfl ?_
  rcases hw with rfl | rfl <;> rcases hbb with rfl | rfl
  · skip
    refine zV_aload_n (i := 0) (n := 1) C dX9_must_0 rfl rfl rfl ?_
    refine zV_aload_n (i := 0) (n := 2) C dX9_must_1 rfl rfl rfl ?_
    refine zV_getI (f := 14) (fi := 14) (n := 5) C zk8 fX9_216 dX9_must_2 zs_ref rfl (by decide) rfl rfl ?_
    rw [zp_w]
    refine zV_if_ne (n := 8) C 12 dX9_must_5 (by decide) (by first | omega | exact zb_rg) rfl (fun h => by exfalso; first | omega | exact zb_rg) (fun h5 => ?_)
    refine zV_iload_n (i := 1) (n := 9) C dX9_must_8 rfl rfl rfl ?_
    refine zV_if_ne (n := 12) C 16 dX9_must_9 (by decide) (by first | omega | exact zb_rg) rfl (fun h => by exfalso; first | omega | exact zb_rg) (fun h9 => ?_)
    refine zV_iconst (n := 13) C dX9_must_12 rfl ?_
    refine zV_goto C 17 dX9_must_13 (by decide) ?_
    refine zV_putZ (f := 14) (fi := 14) (n := 20) C zk8 fX9_216 dX9_must_17 zs_ref rfl (by decide) rfl rfl rfl (by omega) rfl ?_
    rw [zpu_w]
    refine zV_aload_n (i := 0) (n := 21) C dX9_must_20 rfl rfl rfl ?_
    refine zV_getI (f := 14) (fi := 14) (n := 24) C zk8 fX9_216 dX9_must_21 zs_ref rfl (by decide) rfl rfl ?_
    rw [zp_w]
    refine zV_if_ne (n := 27) C 31 dX9_must_24 (by decide) (by first | omega | exact zb_rg) rfl (fun h24 => ?_) (fun h => by exfalso; first | omega | exact zb_rg)
    exact zV_return C hr hlk dX9_must_31 (by rfl) (by exact congrArg (pMem μ) (show ((f, t, v, (1 : Int), S) : Pst) = pMust (μ 5 8) (μ 5 0 10) 0 (f, t, v, 0, S) from (if_neg (show ¬ ((0 : Int) = 0 ∧ (0 : Int) = 1) from by omega)).symm))
  · skip
    refine zV_aload_n (i := 0) (n := 1) C dX9_must_0 rfl rfl rfl ?_
    refine zV_aload_n (i := 0) (n := 2) C dX9_must_1 rfl rfl rfl ?_
    refine zV_getI (f := 14) (fi := 14) (n := 5) C zk8 fX9_216 dX9_must_2 zs_ref rfl (by decide) rfl rfl ?_
    rw [zp_w]
    refine zV_if_ne (n := 8) C 12 dX9_must_5 (by decide) (by first | omega | exact zb_rg) rfl (fun h => by exfalso; first | omega | exact zb_rg) (fun h5 => ?_)
    refine zV_iload_n (i := 1) (n := 9) C dX9_must_8 rfl rfl rfl ?_
    refine zV_if_ne (n := 12) C 16 dX9_must_9 (by decide) (by first | omega | exact zb_rg) rfl (fun h9 => ?_) (fun h => by exfalso; first | omega | exact zb_rg)
    refine zV_iconst (n := 17) C dX9_must_16 rfl ?_
    refine zV_putZ (f := 14) (fi := 14) (n := 20) C zk8 fX9_216 dX9_must_17 zs_ref rfl (by decide) rfl rfl rfl (by omega) rfl ?_
    rw [zpu_w]
    refine zV_aload_n (i := 0) (n := 21) C dX9_must_20 rfl rfl rfl ?_
    refine zV_getI (f := 14) (fi := 14) (n := 24) C zk8 fX9_216 dX9_must_21 zs_ref rfl (by decide) rfl rfl ?_
    rw [zp_w]
    refine zV_if_ne (n := 27) C 31 dX9_must_24 (by decide) (by first | omega | exact zb_rg) rfl (fun h => by exfalso; first | omega | exact zb_rg) (fun h24 => ?_)
    refine zV_aload_n (i := 0) (n := 28) C dX9_must_27 rfl rfl rfl ?_
    refine zV_callV0v (n := 31) C zk8 jX9_token lX9_220 (m_token (d := d) hT (by omega)) dX9_must_28 zs_ref rfl (Nat.le_of_ble_eq_true rfl) (zfit_of (by omega) (by decide)) ⟨Nat.le_refl _, Nat.le_refl _⟩ rfl ?_
    exact zV_return C hr hlk dX9_must_31 (by rfl) (by exact congrArg (pMem μ) (show pTok (μ 5 8) (μ 5 0 10) (f, t, v, 0, S) = pMust (μ 5 8) (μ 5 0 10) 1 (f, t, v, 0, S) from (if_pos (show (0 : Int) = 0 ∧ (1 : Int) = 1 from by omega)).symm))
  · skip
    refine zV_aload_n (i := 0) (n := 1) C dX9_must_0 rfl rfl rfl ?_
    refine zV_aload_n (i := 0) (n := 2) C dX9_must_1 rfl rfl rfl ?_
    refine zV_getI (f := 14) (fi := 14) (n := 5) C zk8 fX9_216 dX9_must_2 zs_ref rfl (by decide) rfl rfl ?_
    rw [zp_w]
    refine zV_if_ne (n := 8) C 12 dX9_must_5 (by decide) (by first | omega | exact zb_rg) rfl (fun h5 => ?_) (fun h => by exfalso; first | omega | exact zb_rg)
    refine zV_iconst (n := 13) C dX9_must_12 rfl ?_
    refine zV_goto C 17 dX9_must_13 (by decide) ?_
    refine zV_putZ (f := 14) (fi := 14) (n := 20) C zk8 fX9_216 dX9_must_17 zs_ref rfl (by decide) rfl rfl rfl (by omega) rfl ?_
    rw [zpu_w]
    refine zV_aload_n (i := 0) (n := 21) C dX9_must_20 rfl rfl rfl ?_
    refine zV_getI (f := 14) (fi := 14) (n := 24) C zk8 fX9_216 dX9_must_21 zs_ref rfl (by decide) rfl rfl ?_
    rw [zp_w]
    refine zV_if_ne (n := 27) C 31 dX9_must_24 (by decide) (by first | omega | exact zb_rg) rfl (fun h24 => ?_) (fun h => by exfalso; first | omega | exact zb_rg)
    exact zV_return C hr hlk dX9_must_31 (by rfl) (by exact congrArg (pMem μ) (show ((f, t, v, (1 : Int), S) : Pst) = pMust (μ 5 8) (μ 5 0 10) 0 (f, t, v, 1, S) from (if_neg (show ¬ ((1 : Int) = 0 ∧ (0 : Int) = 1) from by omega)).symm))
  · skip
    refine zV_aload_n (i := 0) (n := 1) C dX9_must_0 rfl rfl rfl ?_
    refine zV_aload_n (i := 0) (n := 2) C dX9_must_1 rfl rfl rfl ?_
    refine zV_getI (f := 14) (fi := 14) (n := 5) C zk8 fX9_216 dX9_must_2 zs_ref rfl (by decide) rfl rfl ?_
    rw [zp_w]
    refine zV_if_ne (n := 8) C 12 dX9_must_5 (by decide) (by first | omega | exact zb_rg) rfl (fun h5 => ?_) (fun h => by exfalso; first | omega | exact zb_rg)
    refine zV_iconst (n := 13) C dX9_must_12 rfl ?_
    refine zV_goto C 17 dX9_must_13 (by decide) ?_
    refine zV_putZ (f := 14) (fi := 14) (n := 20) C zk8 fX9_216 dX9_must_17 zs_ref rfl (by decide) rfl rfl rfl (by omega) rfl ?_
    rw [zpu_w]
    refine zV_aload_n (i := 0) (n := 21) C dX9_must_20 rfl rfl rfl ?_
    refine zV_getI (f := 14) (fi := 14) (n := 24) C zk8 fX9_216 dX9_must_21 zs_ref rfl (by decide) rfl rfl ?_
    rw [zp_w]
    refine zV_if_ne (n := 27) C 31 dX9_must_24 (by decide) (by first | omega | exact zb_rg) rfl (fun h24 => ?_) (fun h => by exfalso; first | omega | exact zb_rg)
    exact zV_return C hr hlk dX9_must_31 (by rfl) (by exact congrArg (pMem μ) (show ((f, t, v, (1 : Int), S) : Pst) = pMust (μ 5 8) (μ 5 0 10) 1 (f, t, v, 1, S) from (if_neg (show ¬ ((1 : Int) = 0 ∧ (1 : Int) = 1) from by omega)).symm))

set_option maxRecDepth 100000 in
set_option maxHeartbeats 4000000 in
theorem m_word_a {Γ : zC} {l : Launch} {d : Nat} {p : Program} {e : Env} {s : State} {m : MethodId} {args : Array Value} {below : List Frame} {meth : Method} {c : Code} {Q : State → Prop} (C : zCx Γ (zAA Γ) p s m args c RX9 cX9_word 4) {μ : zMem} (hT : tapeOk (μ 5 8) (μ 5 0 10)) {f t v w : Int} {S : Int → Int} (hl : ∀ j : Int, f ≤ j → j < t → 97 ≤ (μ 5 8) j ∧ (μ 5 8) j ≤ 122) (ht : 0 ≤ f ∧ t ≤ (μ 5 0 10)) :
    ∀ (i : Nat) (e9 u : Int) (h0 : f ≤ e9) (hi : e9 + i = t) (hu : 0 ≤ u ∧ u ≤ 1152921504606846976) (KK : ∀ v3 : Value, zV Γ (zAA Γ) p l e (zRm (d + 2)) s m args below meth c 0 0 Q 50 [.ref (za Γ 5 0), .long (zl (wh (μ 5 8) i e9 u)), .null, v3] [] (zp μ f t v w S)), zV Γ (zAA Γ) p l e (zRm (d + 2)) s m args below meth c 0 0 Q 7 [.ref (za Γ 5 0), .long (zl u), .null, .int (zi e9)] [] (zp μ f t v w S) := by
  intro i
  induction i with
  | zero =>
    intro e9 u h0 hi hu KK
    have hn := hT.1
    have he : e9 = t := by omega
    subst he
    refine zV_iload_n (i := 3) (n := 8) C dX9_word_7 rfl rfl rfl ?_
    refine zV_aload_n (i := 0) (n := 9) C dX9_word_8 rfl rfl rfl ?_
    refine zV_getI (f := 12) (fi := 12) (n := 12) C zk8 fX9_201 dX9_word_9 zs_ref rfl (by decide) rfl rfl ?_
    rw [zp_t]
    refine zV_icmp_ge (n := 15) C 50 dX9_word_12 (by decide) (by first | omega | exact zb_rg) (by first | omega | exact zb_rg) rfl (fun h12 => ?_) (fun h => by exfalso; first | omega | exact zb_rg)
    exact KK _
  | succ i ih =>
    intro e9 u h0 hi hu KK
    have hn := hT.1
    have hl9 := hl e9 (by omega) (by omega)
    unfold wh at KK
    refine zV_iload_n (i := 3) (n := 8) C dX9_word_7 rfl rfl rfl ?_
    refine zV_aload_n (i := 0) (n := 9) C dX9_word_8 rfl rfl rfl ?_
    refine zV_getI (f := 12) (fi := 12) (n := 12) C zk8 fX9_201 dX9_word_9 zs_ref rfl (by decide) rfl rfl ?_
    rw [zp_t]
    refine zV_icmp_ge (n := 15) C 50 dX9_word_12 (by decide) (by first | omega | exact zb_rg) (by first | omega | exact zb_rg) rfl (fun h => by exfalso; first | omega | exact zb_rg) (fun h12 => ?_)
    refine zV_lload_n (i := 1) (n := 16) C dX9_word_15 rfl rfl rfl ?_
    refine zV_ldc2 (n := 19) C dX9_word_16 kX9_223 rfl ?_
    refine zV_lcmp_le (n := 23) C 27 dX9_word_19 dX9_word_20 (by decide) (by first | omega | exact zb_rg) (by first | omega | exact zb_rg) rfl (fun h19 => ?_) (fun h19 => ?_)
    · skip
      refine zV_ldc2 (n := 30) C dX9_word_27 kX9_225 rfl ?_
      refine zV_lload_n (i := 1) (n := 31) C dX9_word_30 rfl rfl rfl ?_
      refine zV_lmul (n := 32) C dX9_word_31 rfl ?_
      refine zV_aload_n (i := 0) (n := 33) C dX9_word_32 rfl rfl rfl ?_
      refine zV_getP (f := 9) (n := 36) C zk8 fX9_31 dX9_word_33 zs_ref rfl (by decide) rfl ?_
      refine zV_iload_n (i := 3) (n := 37) C dX9_word_36 rfl rfl rfl ?_
      refine zV_iald (n := 38) C dX9_word_37 zs_rtape (by first | omega | exact zb_rg) (by decide) rfl ?_
      rw [zp_T]
      refine zV_bipush (n := 40) C dX9_word_38 (by decide) rfl ?_
      refine zV_isub (n := 41) C dX9_word_40 rfl ?_
      refine zV_i2l (n := 42) C dX9_word_41 (by first | omega | exact zb_rg) rfl ?_
      refine zV_ladd (n := 43) C dX9_word_42 rfl ?_
      refine zS_lstore_n_4_1 (n := 44) C dX9_word_43 rfl rfl ?_
      refine zS_iinc_4_3 (n := 47) C dX9_word_44 rfl rfl ?_
      refine zV_goto C 7 dX9_word_47 (by decide) ?_
      first | (rw [if_pos (by omega)] at KK; exact ih (e9 + 1) _ (by omega) (by omega) (by omega) KK) | (rw [if_neg (by omega)] at KK; exact ih (e9 + 1) _ (by omega) (by omega) (by omega) KK)
    · skip
      refine zV_lload_n (i := 1) (n := 24) C dX9_word_23 rfl rfl rfl ?_
      refine zV_goto C 43 dX9_word_24 (by decide) ?_
      refine zS_lstore_n_4_1 (n := 44) C dX9_word_43 rfl rfl ?_
      refine zS_iinc_4_3 (n := 47) C dX9_word_44 rfl rfl ?_
      refine zV_goto C 7 dX9_word_47 (by decide) ?_
      first | (rw [if_pos (by omega)] at KK; exact ih (e9 + 1) _ (by omega) (by omega) (by omega) KK) | (rw [if_neg (by omega)] at KK; exact ih (e9 + 1) _ (by omega) (by omega) (by omega) KK)

set_option maxRecDepth 100000 in
set_option maxHeartbeats 4000000 in
theorem m_word_b {Γ : zC} {l : Launch} {d : Nat} {p : Program} {e : Env} {s : State} {m : MethodId} {args : Array Value} {below : List Frame} {meth : Method} {c : Code} {Q : State → Prop} (C : zCx Γ (zAA Γ) p s m args c RX9 cX9_word 4) {μ : zMem} (hT : tapeOk (μ 5 8) (μ 5 0 10)) {f t v w : Int} {S : Int → Int} (ht : 0 ≤ f ∧ t ≤ (μ 5 0 10)) :
    ∀ (i : Nat) (e9 u : Int) (h0 : f ≤ e9) (hi : e9 + i = t) (hu : -9223372036854775808 ≤ u ∧ u ≤ 9223372036854775807) (KK : ∀ (u : Int) (v3 : Value), zV Γ (zAA Γ) p l e (zRm (d + 2)) s m args below meth c 0 0 Q 50 [.ref (za Γ 5 0), .long (zl u), .null, v3] [] (zp μ f t v w S)), zV Γ (zAA Γ) p l e (zRm (d + 2)) s m args below meth c 0 0 Q 7 [.ref (za Γ 5 0), .long (zl u), .null, .int (zi e9)] [] (zp μ f t v w S) := by
  intro i
  induction i with
  | zero =>
    intro e9 u h0 hi hu KK
    have hn := hT.1
    have he : e9 = t := by omega
    subst he
    refine zV_iload_n (i := 3) (n := 8) C dX9_word_7 rfl rfl rfl ?_
    refine zV_aload_n (i := 0) (n := 9) C dX9_word_8 rfl rfl rfl ?_
    refine zV_getI (f := 12) (fi := 12) (n := 12) C zk8 fX9_201 dX9_word_9 zs_ref rfl (by decide) rfl rfl ?_
    rw [zp_t]
    refine zV_icmp_ge (n := 15) C 50 dX9_word_12 (by decide) (by first | omega | exact zb_rg) (by first | omega | exact zb_rg) rfl (fun h12 => ?_) (fun h => by exfalso; first | omega | exact zb_rg)
    exact KK _ _
  | succ i ih =>
    intro e9 u h0 hi hu KK
    have hn := hT.1
    have hl9 := hT.2 e9 (by omega) (by omega)
    refine zV_iload_n (i := 3) (n := 8) C dX9_word_7 rfl rfl rfl ?_
    refine zV_aload_n (i := 0) (n := 9) C dX9_word_8 rfl rfl rfl ?_
    refine zV_getI (f := 12) (fi := 12) (n := 12) C zk8 fX9_201 dX9_word_9 zs_ref rfl (by decide) rfl rfl ?_
    rw [zp_t]
    refine zV_icmp_ge (n := 15) C 50 dX9_word_12 (by decide) (by first | omega | exact zb_rg) (by first | omega | exact zb_rg) rfl (fun h => by exfalso; first | omega | exact zb_rg) (fun h12 => ?_)
    refine zV_lload_n (i := 1) (n := 16) C dX9_word_15 rfl rfl rfl ?_
    refine zV_ldc2 (n := 19) C dX9_word_16 kX9_223 rfl ?_
    refine zV_lcmp_le (n := 23) C 27 dX9_word_19 dX9_word_20 (by decide) (by first | omega | exact zb_rg) (by first | omega | exact zb_rg) rfl (fun h19 => ?_) (fun h19 => ?_)
    · skip
      refine zV_ldc2 (n := 30) C dX9_word_27 kX9_225 rfl ?_
      refine zV_lload_n (i := 1) (n := 31) C dX9_word_30 rfl rfl rfl ?_
      refine zV_lmul (n := 32) C dX9_word_31 rfl ?_
      refine zV_aload_n (i := 0) (n := 33) C dX9_word_32 rfl rfl rfl ?_
      refine zV_getP (f := 9) (n := 36) C zk8 fX9_31 dX9_word_33 zs_ref rfl (by decide) rfl ?_
      refine zV_iload_n (i := 3) (n := 37) C dX9_word_36 rfl rfl rfl ?_
      refine zV_iald (n := 38) C dX9_word_37 zs_rtape (by first | omega | exact zb_rg) (by decide) rfl ?_
      rw [zp_T]
      refine zV_bipush (n := 40) C dX9_word_38 (by decide) rfl ?_
      refine zV_isub (n := 41) C dX9_word_40 rfl ?_
      refine zV_i2l (n := 42) C dX9_word_41 (by first | omega | exact zb_rg) rfl ?_
      refine zV_ladd (n := 43) C dX9_word_42 rfl ?_
      rw [← zl_of (zl (32 * u + ((μ 5 8) e9 - 96)))]
      have hu2 := z64 (zl (32 * u + ((μ 5 8) e9 - 96)))
      refine zS_lstore_n_4_1 (n := 44) C dX9_word_43 rfl rfl ?_
      refine zS_iinc_4_3 (n := 47) C dX9_word_44 rfl rfl ?_
      refine zV_goto C 7 dX9_word_47 (by decide) ?_
      first | exact ih (e9 + 1) _ (by omega) (by omega) hu2 KK | exact ih (e9 + 1) _ (by omega) (by omega) hu KK
    · skip
      refine zV_lload_n (i := 1) (n := 24) C dX9_word_23 rfl rfl rfl ?_
      refine zV_goto C 43 dX9_word_24 (by decide) ?_
      refine zS_lstore_n_4_1 (n := 44) C dX9_word_43 rfl rfl ?_
      refine zS_iinc_4_3 (n := 47) C dX9_word_44 rfl rfl ?_
      refine zV_goto C 7 dX9_word_47 (by decide) ?_
      first | exact ih (e9 + 1) _ (by omega) (by omega) hu2 KK | exact ih (e9 + 1) _ (by omega) (by omega) hu KK

set_option maxRecDepth 100000 in
set_option maxHeartbeats 4000000 in
theorem m_word {Γ : zC} {l : Launch} {d : Nat} {μ : zMem} {P : Pst} {N : Int} (hT : tapeOk (μ 5 8) (μ 5 0 10)) (hP : pOk N (μ 5 8) (μ 5 0 10) P)  : zRet Γ l (d + 2) qX9_word [.ref (za Γ 5 0)] (pMem μ P) (some (.long (zl (pWord (μ 5 8) (μ 5 0 10) P)))) (pMem μ P) := by
  refine zRet.mk 3 [.ref (za Γ 5 0), .null, .null, .null] RX9 rfl (by decide +kernel) (Nat.le_of_ble_eq_true rfl) rfl ?_
  intro p e s m below meth c C hr hlk
  obtain ⟨f, t, v, w, S⟩ := P
  have hP1 : (0 ≤ f ∧ f ≤ μ 5 0 10) ∧ t = nxT (μ 5 8) (μ 5 0 10) f ∧ (w = 0 ∨ w = 1) ∧ (0 ≤ v ∧ v ≤ 9999) ∧ rInv N S := hP
  have ht : f ≤ t ∧ t ≤ μ 5 0 10 ∧ (f < μ 5 0 10 → f < t) := pOk_t hT hP
  have hn := hT.1
  have hw := hP1.2.2.1
  have hf := hP1.1
  have hv := hP1.2.2.2.1
  have hb := bA_rg (i := f) hT hf.1
  refine zV_eqm (μ' := (zp μ f t v w S)) rfl ?_
  refine zV_lconst (v := 0) (n := 1) C dX9_word_0 rfl rfl ?_
  refine zS_lstore_n_4_1 (n := 2) C dX9_word_1 rfl rfl ?_
  refine zV_aload_n (i := 0) (n := 3) C dX9_word_2 rfl rfl rfl ?_
  refine zV_getI (f := 11) (fi := 11) (n := 6) C zk8 fX9_204 dX9_word_3 zs_ref rfl (by decide) rfl rfl ?_
  rw [zp_f]
  refine zS_istore_n_4_3 (n := 7) C dX9_word_6 rfl rfl ?_
  by_cases q1 : 97 ≤ bA (μ 5 8) (μ 5 0 10) f ∧ bA (μ 5 8) (μ 5 0 10) f ≤ 122
  · rcases hw with hw0 | hw1
    · refine m_word_a C hT (fun j j0 j1 => (tok_let (tk1.mpr q1) j0 (by rw [← hP1.2.1]; exact j1)).1) (by omega) (t - f).toNat f 0 (by omega) (by omega) (by omega) (fun v3 => ?_)
      refine zV_aload_n (i := 0) (n := 51) C dX9_word_50 rfl rfl rfl ?_
      refine zV_getI (f := 14) (fi := 14) (n := 54) C zk8 fX9_216 dX9_word_51 zs_ref rfl (by decide) rfl rfl ?_
      rw [zp_w]
      refine zV_if_ne (n := 57) C 71 dX9_word_54 (by decide) (by first | omega | exact zb_rg) rfl (fun h => by exfalso; first | omega | exact zb_rg) (fun h54 => ?_)
      refine zV_aload_n (i := 0) (n := 58) C dX9_word_57 rfl rfl rfl ?_
      refine zV_aload_n (i := 0) (n := 59) C dX9_word_58 rfl rfl rfl ?_
      refine zV_getI (f := 11) (fi := 11) (n := 62) C zk8 fX9_204 dX9_word_59 zs_ref rfl (by decide) rfl rfl ?_
      rw [zp_f]
      refine zV_callV1u (n := 65) C zk8 jX9_byteAt lX9_207 (m_byteAt (d := d) (μ := (zp μ f t v w S)) (show tapeOk ((zp μ f t v w S) 5 8) ((zp μ f t v w S) 5 0 10) from hT) (by omega)) dX9_word_62 zs_ref rfl (Nat.le_of_ble_eq_true rfl) (zfit_of (by omega) (by decide)) ⟨Nat.le_refl _, Nat.le_refl _⟩ rfl ?_
      rw [zp_T, zp_n]
      refine zV_callS1u (n := 68) C jX9_isLetter lX9_210 (m_isLetter (d := d) (by omega)) dX9_word_65 (Nat.le_of_ble_eq_true rfl) (zfit_of (by omega) (by decide)) ⟨Nat.le_refl _, Nat.le_refl _⟩ rfl ?_
      refine zV_if_ne (n := 71) C 75 dX9_word_68 (by decide) (by first | omega | exact zb_rg) rfl (fun h68 => ?_) (fun h => by simp only [zb_eq0, Decidable.not_not] at h; exfalso; omega)
      simp only [zb_eq0, Decidable.not_not] at h68
      refine zV_lload_n (i := 1) (n := 76) C dX9_word_75 rfl rfl rfl ?_
      exact zV_lreturn C hr hlk dX9_word_76 (by exact congrArg (fun z => some (Value.long (zl z))) ((if_pos (show (w = 0 ∧ tk (bA (μ 5 8) (μ 5 0 10) f) = 1) from ⟨hw0, tk1.mpr q1⟩)).symm)) (by rfl)
    · refine m_word_a C hT (fun j j0 j1 => (tok_let (tk1.mpr q1) j0 (by rw [← hP1.2.1]; exact j1)).1) (by omega) (t - f).toNat f 0 (by omega) (by omega) (by omega) (fun v3 => ?_)
      refine zV_aload_n (i := 0) (n := 51) C dX9_word_50 rfl rfl rfl ?_
      refine zV_getI (f := 14) (fi := 14) (n := 54) C zk8 fX9_216 dX9_word_51 zs_ref rfl (by decide) rfl rfl ?_
      rw [zp_w]
      refine zV_if_ne (n := 57) C 71 dX9_word_54 (by decide) (by first | omega | exact zb_rg) rfl (fun h54 => ?_) (fun h => by exfalso; first | omega | exact zb_rg)
      refine zV_lconst (v := 0) (n := 72) C dX9_word_71 rfl rfl ?_
      refine zV_goto C 76 dX9_word_72 (by decide) ?_
      exact zV_lreturn C hr hlk dX9_word_76 (by exact congrArg (fun z => some (Value.long (zl z))) ((if_neg (show ¬ (w = 0 ∧ tk (bA (μ 5 8) (μ 5 0 10) f) = 1) from fun q => by omega)).symm)) (by rfl)
  · refine m_word_b C hT (by omega) (t - f).toNat f 0 (by omega) (by omega) (by omega) (fun u v3 => ?_)
    rcases hw with hw0 | hw1
    · skip
      refine zV_aload_n (i := 0) (n := 51) C dX9_word_50 rfl rfl rfl ?_
      refine zV_getI (f := 14) (fi := 14) (n := 54) C zk8 fX9_216 dX9_word_51 zs_ref rfl (by decide) rfl rfl ?_
      rw [zp_w]
      refine zV_if_ne (n := 57) C 71 dX9_word_54 (by decide) (by first | omega | exact zb_rg) rfl (fun h => by exfalso; first | omega | exact zb_rg) (fun h54 => ?_)
      refine zV_aload_n (i := 0) (n := 58) C dX9_word_57 rfl rfl rfl ?_
      refine zV_aload_n (i := 0) (n := 59) C dX9_word_58 rfl rfl rfl ?_
      refine zV_getI (f := 11) (fi := 11) (n := 62) C zk8 fX9_204 dX9_word_59 zs_ref rfl (by decide) rfl rfl ?_
      rw [zp_f]
      refine zV_callV1u (n := 65) C zk8 jX9_byteAt lX9_207 (m_byteAt (d := d) (μ := (zp μ f t v w S)) (show tapeOk ((zp μ f t v w S) 5 8) ((zp μ f t v w S) 5 0 10) from hT) (by omega)) dX9_word_62 zs_ref rfl (Nat.le_of_ble_eq_true rfl) (zfit_of (by omega) (by decide)) ⟨Nat.le_refl _, Nat.le_refl _⟩ rfl ?_
      rw [zp_T, zp_n]
      refine zV_callS1u (n := 68) C jX9_isLetter lX9_210 (m_isLetter (d := d) (by omega)) dX9_word_65 (Nat.le_of_ble_eq_true rfl) (zfit_of (by omega) (by decide)) ⟨Nat.le_refl _, Nat.le_refl _⟩ rfl ?_
      refine zV_if_ne (n := 71) C 75 dX9_word_68 (by decide) (by first | omega | exact zb_rg) rfl (fun h => by simp only [zb_eq0, Decidable.not_not] at h; exfalso; omega) (fun h68 => ?_)
      simp only [zb_eq0, Decidable.not_not] at h68
      refine zV_lconst (v := 0) (n := 72) C dX9_word_71 rfl rfl ?_
      refine zV_goto C 76 dX9_word_72 (by decide) ?_
      exact zV_lreturn C hr hlk dX9_word_76 (by exact congrArg (fun z => some (Value.long (zl z))) ((if_neg (show ¬ (w = 0 ∧ tk (bA (μ 5 8) (μ 5 0 10) f) = 1) from fun q => absurd (tk1.mp q.2) q1)).symm)) (by rfl)
    · skip
      refine zV_aload_n (i := 0) (n := 51) C dX9_word_50 rfl rfl rfl ?_
      refine zV_getI (f := 14) (fi := 14) (n := 54) C zk8 fX9_216 dX9_word_51 zs_ref rfl (by decide) rfl rfl ?_
      rw [zp_w]
      refine zV_if_ne (n := 57) C 71 dX9_word_54 (by decide) (by first | omega | exact zb_rg) rfl (fun h54 => ?_) (fun h => by exfalso; first | omega | exact zb_rg)
      refine zV_lconst (v := 0) (n := 72) C dX9_word_71 rfl rfl ?_
      refine zV_goto C 76 dX9_word_72 (by decide) ?_
      exact zV_lreturn C hr hlk dX9_word_76 (by exact congrArg (fun z => some (Value.long (zl z))) ((if_neg (show ¬ (w = 0 ∧ tk (bA (μ 5 8) (μ 5 0 10) f) = 1) from fun q => by omega)).symm)) (by rfl)

set_option maxRecDepth 100000 in
set_option maxHeartbeats 4000000 in
theorem m_number_a {Γ : zC} {l : Launch} {d : Nat} {p : Program} {e : Env} {s : State} {m : MethodId} {args : Array Value} {below : List Frame} {meth : Method} {c : Code} {Q : State → Prop} (C : zCx Γ (zAA Γ) p s m args c RX9 cX9_number 6) {μ : zMem} (hT : tapeOk (μ 5 8) (μ 5 0 10)) {f t v w : Int} {S : Int → Int} {hi : Int} (hl : ∀ j : Int, f ≤ j → j < t → 48 ≤ (μ 5 8) j ∧ (μ 5 8) j ≤ 57) (ht : 0 ≤ f ∧ t ≤ (μ 5 0 10)) :
    ∀ (i : Nat) (e9 u : Int) (h0 : f ≤ e9) (hi9 : e9 + i = t) (hu : 0 ≤ u ∧ u ≤ 9999) (KK : ∀ v3 : Value, zV Γ (zAA Γ) p l e (zRm (d + 4)) s m args below meth c 0 0 Q 79 [.ref (za Γ 5 0), .int (zi 0), .int (zi hi), .int (zi 1), .int (zi (vlR (μ 5 8) i e9 u)), v3] [] (zp μ f t v w S)), zV Γ (zAA Γ) p l e (zRm (d + 4)) s m args below meth c 0 0 Q 29 [.ref (za Γ 5 0), .int (zi 0), .int (zi hi), .int (zi 1), .int (zi u), .int (zi e9)] [] (zp μ f t v w S) := by
  intro i
  induction i with
  | zero =>
    intro e9 u h0 hi9 hu KK
    have hn := hT.1
    have he : e9 = t := by omega
    subst he
    refine zV_iload (n := 31) C dX9_number_29 rfl rfl ?_
    refine zV_aload_n (i := 0) (n := 32) C dX9_number_31 rfl rfl rfl ?_
    refine zV_getI (f := 12) (fi := 12) (n := 35) C zk8 fX9_201 dX9_number_32 zs_ref rfl (by decide) rfl rfl ?_
    rw [zp_t]
    refine zV_icmp_ge (n := 38) C 79 dX9_number_35 (by decide) (by first | omega | exact zb_rg) (by first | omega | exact zb_rg) rfl (fun h35 => ?_) (fun h => by exfalso; first | omega | exact zb_rg)
    exact KK _
  | succ i ih =>
    intro e9 u h0 hi9 hu KK
    have hn := hT.1
    have hl9 := hl e9 (by omega) (by omega)
    unfold vlR at KK
    refine zV_iload (n := 31) C dX9_number_29 rfl rfl ?_
    refine zV_aload_n (i := 0) (n := 32) C dX9_number_31 rfl rfl rfl ?_
    refine zV_getI (f := 12) (fi := 12) (n := 35) C zk8 fX9_201 dX9_number_32 zs_ref rfl (by decide) rfl rfl ?_
    rw [zp_t]
    refine zV_icmp_ge (n := 38) C 79 dX9_number_35 (by decide) (by first | omega | exact zb_rg) (by first | omega | exact zb_rg) rfl (fun h => by exfalso; first | omega | exact zb_rg) (fun h35 => ?_)
    refine zV_iload_n (i := 3) (n := 39) C dX9_number_38 rfl rfl rfl ?_
    refine zV_if_eq (n := 42) C 79 dX9_number_39 (by decide) (by first | omega | exact zb_rg) rfl (fun h => by exfalso; first | omega | exact zb_rg) (fun h39 => ?_)
    refine zV_iload (n := 44) C dX9_number_42 rfl rfl ?_
    refine zV_sipush (n := 47) C dX9_number_44 (by decide) rfl ?_
    refine zV_icmp_le (n := 50) C 55 dX9_number_47 (by decide) (by first | omega | exact zb_rg) (by first | omega | exact zb_rg) rfl (fun h47 => ?_) (fun h47 => ?_)
    · skip
      refine zV_bipush (n := 57) C dX9_number_55 (by decide) rfl ?_
      refine zV_iload (n := 59) C dX9_number_57 rfl rfl ?_
      refine zV_imul (n := 60) C dX9_number_59 rfl ?_
      refine zV_aload_n (i := 0) (n := 61) C dX9_number_60 rfl rfl rfl ?_
      refine zV_getP (f := 9) (n := 64) C zk8 fX9_31 dX9_number_61 zs_ref rfl (by decide) rfl ?_
      refine zV_iload (n := 66) C dX9_number_64 rfl rfl ?_
      refine zV_iald (n := 67) C dX9_number_66 zs_rtape (by first | omega | exact zb_rg) (by decide) rfl ?_
      rw [zp_T]
      refine zV_iadd (n := 68) C dX9_number_67 rfl ?_
      refine zV_bipush (n := 70) C dX9_number_68 (by decide) rfl ?_
      refine zV_isub (n := 71) C dX9_number_70 rfl ?_
      refine zS_istore_6_4 (n := 73) C dX9_number_71 rfl rfl ?_
      refine zS_iinc_6_5 (n := 76) C dX9_number_73 rfl rfl ?_
      refine zV_goto C 29 dX9_number_76 (by decide) ?_
      first | (rw [if_pos (by omega)] at KK; exact ih (e9 + 1) _ (by omega) (by omega) (by omega) KK) | (rw [if_neg (by omega)] at KK; exact ih (e9 + 1) _ (by omega) (by omega) (by omega) KK)
    · skip
      refine zV_iload (n := 52) C dX9_number_50 rfl rfl ?_
      refine zV_goto C 71 dX9_number_52 (by decide) ?_
      refine zS_istore_6_4 (n := 73) C dX9_number_71 rfl rfl ?_
      refine zS_iinc_6_5 (n := 76) C dX9_number_73 rfl rfl ?_
      refine zV_goto C 29 dX9_number_76 (by decide) ?_
      first | (rw [if_pos (by omega)] at KK; exact ih (e9 + 1) _ (by omega) (by omega) (by omega) KK) | (rw [if_neg (by omega)] at KK; exact ih (e9 + 1) _ (by omega) (by omega) (by omega) KK)

theorem pNum_eq {n hi b : Int} {T : Int → Int} {f t v u w : Int} {S : Int → Int} (hw : w = 0) (hu : u = pVal T n (f, t, v, w, S)) (hb : b = if tk (bA T n f) = 2 ∧ u ≤ hi then 1 else 0) : pNum T n hi (f, t, v, w, S) = pMust T n b (f, t, u, w, S) := by
  subst hu
  subst hb
  exact if_pos hw
set_option maxRecDepth 100000 in
set_option maxHeartbeats 4000000 in
theorem m_number {Γ : zC} {l : Launch} {d : Nat} {μ : zMem} {P : Pst} {N : Int} (hT : tapeOk (μ 5 8) (μ 5 0 10)) (hP : pOk N (μ 5 8) (μ 5 0 10) P) {hi : Int} (hhi : 0 ≤ hi ∧ hi ≤ 1000) : zRet Γ l (d + 4) qX9_number [.ref (za Γ 5 0), .int (zi 0), .int (zi hi)] (pMem μ P) none (pMem μ (pNum (μ 5 8) (μ 5 0 10) hi P)) := by
  refine zRet.mk 3 [.ref (za Γ 5 0), .int (zi 0), .int (zi hi), .null, .null, .null] RX9 rfl (by decide +kernel) (Nat.le_of_ble_eq_true rfl) rfl ?_
  intro p e s m below meth c C hr hlk
  obtain ⟨f, t, v, w, S⟩ := P
  have hP1 : (0 ≤ f ∧ f ≤ μ 5 0 10) ∧ t = nxT (μ 5 8) (μ 5 0 10) f ∧ (w = 0 ∨ w = 1) ∧ (0 ≤ v ∧ v ≤ 9999) ∧ rInv N S := hP
  have ht : f ≤ t ∧ t ≤ μ 5 0 10 ∧ (f < μ 5 0 10 → f < t) := pOk_t hT hP
  have hn := hT.1
  have hw := hP1.2.2.1
  have hf := hP1.1
  have hv := hP1.2.2.2.1
  have hb := bA_rg (i := f) hT hf.1
  refine zV_eqm (μ' := (zp μ f t v w S)) rfl ?_
  rcases hw with rfl | rfl
  · skip
    refine zV_aload_n (i := 0) (n := 1) C dX9_number_0 rfl rfl rfl ?_
    refine zV_getI (f := 14) (fi := 14) (n := 4) C zk8 fX9_216 dX9_number_1 zs_ref rfl (by decide) rfl rfl ?_
    rw [zp_w]
    refine zV_if_eq (n := 7) C 8 dX9_number_4 (by decide) (by first | omega | exact zb_rg) rfl (fun h4 => ?_) (fun h => by exfalso; first | omega | exact zb_rg)
    refine zV_aload_n (i := 0) (n := 9) C dX9_number_8 rfl rfl rfl ?_
    refine zV_aload_n (i := 0) (n := 10) C dX9_number_9 rfl rfl rfl ?_
    refine zV_getI (f := 11) (fi := 11) (n := 13) C zk8 fX9_204 dX9_number_10 zs_ref rfl (by decide) rfl rfl ?_
    rw [zp_f]
    refine zV_callV1u (n := 16) C zk8 jX9_byteAt lX9_207 (m_byteAt (d := d) (μ := (zp μ f t v 0 S)) (show tapeOk ((zp μ f t v 0 S) 5 8) ((zp μ f t v 0 S) 5 0 10) from hT) (by omega)) dX9_number_13 zs_ref rfl (Nat.le_of_ble_eq_true rfl) (zfit_of (by omega) (by decide)) ⟨Nat.le_refl _, Nat.le_refl _⟩ rfl ?_
    rw [zp_T, zp_n]
    refine zV_callS1u (n := 19) C jX9_isDigit lX9_213 (m_isDigit (d := d) (by omega)) dX9_number_16 (Nat.le_of_ble_eq_true rfl) (zfit_of (by omega) (by decide)) ⟨Nat.le_refl _, Nat.le_refl _⟩ rfl ?_
    refine zS_istore_n_6_3 (n := 20) C dX9_number_19 rfl rfl ?_
    refine zV_iconst (n := 21) C dX9_number_20 rfl ?_
    refine zS_istore_6_4 (n := 23) C dX9_number_21 rfl rfl ?_
    refine zV_aload_n (i := 0) (n := 24) C dX9_number_23 rfl rfl rfl ?_
    refine zV_getI (f := 11) (fi := 11) (n := 27) C zk8 fX9_204 dX9_number_24 zs_ref rfl (by decide) rfl rfl ?_
    rw [zp_f]
    refine zS_istore_6_5 (n := 29) C dX9_number_27 rfl rfl ?_
    by_cases q2 : 48 ≤ bA (μ 5 8) (μ 5 0 10) f ∧ bA (μ 5 8) (μ 5 0 10) f ≤ 57
    · rw [zb_t q2]
      have hU := vl_eq (T := (μ 5 8)) (i := (t - f).toNat) (e := f) (v := 0) (by omega) (fun j j0 j1 => (tok_dig (tk2.mpr q2) j0 (by rw [← hP1.2.1]; omega)).1)
      have hU2 := hU.2.2 (by omega)
      refine m_number_a C hT (fun j j0 j1 => (tok_dig (tk2.mpr q2) j0 (by rw [← hP1.2.1]; exact j1)).1) (by omega) (t - f).toNat f 0 (by omega) (by omega) (by omega) (fun v3 => ?_)
      have eU : (vlR (μ 5 8) (t - f).toNat f 0) = pVal (μ 5 8) (μ 5 0 10) (f, t, v, 0, S) := (if_pos (tk2.mpr q2)).symm
      generalize (vlR (μ 5 8) (t - f).toNat f 0) = u at *
      have hQ : pOk N (μ 5 8) (μ 5 0 10) (f, t, u, 0, S) := ⟨hP1.1, hP1.2.1, Or.inl rfl, (show 0 ≤ u ∧ u ≤ 9999 from by omega), hP1.2.2.2.2⟩
      refine zV_aload_n (i := 0) (n := 80) C dX9_number_79 rfl rfl rfl ?_
      refine zV_iload (n := 82) C dX9_number_80 rfl rfl ?_
      refine zV_putI (f := 13) (fi := 13) (n := 85) C zk8 fX9_227 dX9_number_82 zs_ref rfl (by decide) rfl rfl rfl rfl ?_
      rw [zpu_v]
      refine zV_aload_n (i := 0) (n := 86) C dX9_number_85 rfl rfl rfl ?_
      refine zV_iload_n (i := 3) (n := 87) C dX9_number_86 rfl rfl rfl ?_
      refine zV_if_eq (n := 90) C 107 dX9_number_87 (by decide) (by first | omega | exact zb_rg) rfl (fun h => by exfalso; first | omega | exact zb_rg) (fun h87 => ?_)
      refine zV_iload (n := 92) C dX9_number_90 rfl rfl ?_
      refine zV_i2l (n := 93) C dX9_number_92 (by first | omega | exact zb_rg) rfl ?_
      refine zV_iload_n (i := 1) (n := 94) C dX9_number_93 rfl rfl rfl ?_
      refine zV_i2l (n := 95) C dX9_number_94 (by first | omega | exact zb_rg) rfl ?_
      refine zV_iload_n (i := 2) (n := 96) C dX9_number_95 rfl rfl rfl ?_
      refine zV_i2l (n := 97) C dX9_number_96 (by first | omega | exact zb_rg) rfl ?_
      refine zV_callS3u (n := 100) C jX9_in lX9_54 (m_in (d := d) (by omega) (by omega) (by omega)) dX9_number_97 (Nat.le_of_ble_eq_true rfl) (zfit_of (by omega) (by decide)) ⟨Nat.le_refl _, Nat.le_refl _⟩ rfl ?_
      refine zV_if_eq (n := 103) C 107 dX9_number_100 (by decide) (by first | omega | exact zb_rg) rfl (fun h100 => ?_) (fun h100 => ?_)
      · skip
        simp only [zb_eq0, Decidable.not_not] at h100
        refine zV_iconst (n := 108) C dX9_number_107 rfl ?_
        refine zV_callV1v (n := 111) C zk8 jX9_must lX9_230 (m_must (d := d) (P := (f, t, u, 0, S)) hT hQ (by omega)) dX9_number_108 zs_ref rfl (Nat.le_of_ble_eq_true rfl) (zfit_of (by omega) (by decide)) ⟨Nat.le_refl _, Nat.le_refl _⟩ rfl ?_
        exact zV_return C hr hlk dX9_number_111 (by rfl) (by exact congrArg (pMem μ) (pNum_eq rfl eU (by first | exact (if_pos ⟨tk2.mpr q2, by omega⟩).symm | exact (if_neg (fun z => by omega)).symm)).symm)
      · skip
        simp only [zb_eq0, Decidable.not_not] at h100
        refine zV_iconst (n := 104) C dX9_number_103 rfl ?_
        refine zV_goto C 108 dX9_number_104 (by decide) ?_
        refine zV_callV1v (n := 111) C zk8 jX9_must lX9_230 (m_must (d := d) (P := (f, t, u, 0, S)) hT hQ (by omega)) dX9_number_108 zs_ref rfl (Nat.le_of_ble_eq_true rfl) (zfit_of (by omega) (by decide)) ⟨Nat.le_refl _, Nat.le_refl _⟩ rfl ?_
        exact zV_return C hr hlk dX9_number_111 (by rfl) (by exact congrArg (pMem μ) (pNum_eq rfl eU (by first | exact (if_pos ⟨tk2.mpr q2, by omega⟩).symm | exact (if_neg (fun z => by omega)).symm)).symm)
    · rw [zb_f q2]
      have eU : (0 : Int) = pVal (μ 5 8) (μ 5 0 10) (f, t, v, 0, S) := (if_neg (fun z => q2 (tk2.mp z))).symm
      have hQ : pOk N (μ 5 8) (μ 5 0 10) (f, t, 0, 0, S) := ⟨hP1.1, hP1.2.1, Or.inl rfl, (show (0 : Int) ≤ 0 ∧ (0 : Int) ≤ 9999 from by omega), hP1.2.2.2.2⟩
      refine zV_iload (n := 31) C dX9_number_29 rfl rfl ?_
      refine zV_aload_n (i := 0) (n := 32) C dX9_number_31 rfl rfl rfl ?_
      refine zV_getI (f := 12) (fi := 12) (n := 35) C zk8 fX9_201 dX9_number_32 zs_ref rfl (by decide) rfl rfl ?_
      rw [zp_t]
      refine zV_icmp_ge (n := 38) C 79 dX9_number_35 (by decide) (by first | omega | exact zb_rg) (by first | omega | exact zb_rg) rfl (fun h35 => ?_) (fun h35 => ?_)
      · skip
        refine zV_aload_n (i := 0) (n := 80) C dX9_number_79 rfl rfl rfl ?_
        refine zV_iload (n := 82) C dX9_number_80 rfl rfl ?_
        refine zV_putI (f := 13) (fi := 13) (n := 85) C zk8 fX9_227 dX9_number_82 zs_ref rfl (by decide) rfl rfl rfl rfl ?_
        rw [zpu_v]
        refine zV_aload_n (i := 0) (n := 86) C dX9_number_85 rfl rfl rfl ?_
        refine zV_iload_n (i := 3) (n := 87) C dX9_number_86 rfl rfl rfl ?_
        refine zV_if_eq (n := 90) C 107 dX9_number_87 (by decide) (by first | omega | exact zb_rg) rfl (fun h87 => ?_) (fun h => by exfalso; first | omega | exact zb_rg)
        refine zV_iconst (n := 108) C dX9_number_107 rfl ?_
        refine zV_callV1v (n := 111) C zk8 jX9_must lX9_230 (m_must (d := d) (P := (f, t, 0, 0, S)) hT hQ (by omega)) dX9_number_108 zs_ref rfl (Nat.le_of_ble_eq_true rfl) (zfit_of (by omega) (by decide)) ⟨Nat.le_refl _, Nat.le_refl _⟩ rfl ?_
        exact zV_return C hr hlk dX9_number_111 (by rfl) (by exact congrArg (pMem μ) (pNum_eq rfl eU (if_neg (fun z => q2 (tk2.mp z.1))).symm).symm)
      · skip
        refine zV_iload_n (i := 3) (n := 39) C dX9_number_38 rfl rfl rfl ?_
        refine zV_if_eq (n := 42) C 79 dX9_number_39 (by decide) (by first | omega | exact zb_rg) rfl (fun h39 => ?_) (fun h => by exfalso; first | omega | exact zb_rg)
        refine zV_aload_n (i := 0) (n := 80) C dX9_number_79 rfl rfl rfl ?_
        refine zV_iload (n := 82) C dX9_number_80 rfl rfl ?_
        refine zV_putI (f := 13) (fi := 13) (n := 85) C zk8 fX9_227 dX9_number_82 zs_ref rfl (by decide) rfl rfl rfl rfl ?_
        rw [zpu_v]
        refine zV_aload_n (i := 0) (n := 86) C dX9_number_85 rfl rfl rfl ?_
        refine zV_iload_n (i := 3) (n := 87) C dX9_number_86 rfl rfl rfl ?_
        refine zV_if_eq (n := 90) C 107 dX9_number_87 (by decide) (by first | omega | exact zb_rg) rfl (fun h87 => ?_) (fun h => by exfalso; first | omega | exact zb_rg)
        refine zV_iconst (n := 108) C dX9_number_107 rfl ?_
        refine zV_callV1v (n := 111) C zk8 jX9_must lX9_230 (m_must (d := d) (P := (f, t, 0, 0, S)) hT hQ (by omega)) dX9_number_108 zs_ref rfl (Nat.le_of_ble_eq_true rfl) (zfit_of (by omega) (by decide)) ⟨Nat.le_refl _, Nat.le_refl _⟩ rfl ?_
        exact zV_return C hr hlk dX9_number_111 (by rfl) (by exact congrArg (pMem μ) (pNum_eq rfl eU (if_neg (fun z => q2 (tk2.mp z.1))).symm).symm)
  · skip
    refine zV_aload_n (i := 0) (n := 1) C dX9_number_0 rfl rfl rfl ?_
    refine zV_getI (f := 14) (fi := 14) (n := 4) C zk8 fX9_216 dX9_number_1 zs_ref rfl (by decide) rfl rfl ?_
    rw [zp_w]
    refine zV_if_eq (n := 7) C 8 dX9_number_4 (by decide) (by first | omega | exact zb_rg) rfl (fun h => by exfalso; first | omega | exact zb_rg) (fun h4 => ?_)
    exact zV_return C hr hlk dX9_number_7 (by rfl) (by exact congrArg (pMem μ) (show ((f, t, v, (1 : Int), S) : Pst) = pNum (μ 5 8) (μ 5 0 10) hi (f, t, v, 1, S) from (if_neg (show ¬ ((1 : Int) = 0) from by omega)).symm))

