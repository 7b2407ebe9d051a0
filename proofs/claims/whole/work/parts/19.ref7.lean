/-! the reference: calls with loops (laid by wip/whole/gen/ref7.py) -/
set_option maxRecDepth 100000 in
set_option maxHeartbeats 4000000 in
theorem m_firstOut_loop {Γ : zC} {l : Launch} {d : Nat} {p : Program} {e : Env} {s : State} {m : MethodId} {args : Array Value} {below : List Frame} {meth : Method} {c : Code} {Q : State → Prop} (C : zCx Γ (zAA Γ) p s m args c RX9 cX9_firstOut 4) {μ : zMem} {N : Int} (J : rInv N (μ 5 1)) (hN : N ≤ 10000)  :
    ∀ (i : Nat) (k a : Int) (G : Int → Int) (v3 : Value) (h0 : 0 ≤ k) (hi : k + i = (μ 5 1) 0) (ha : 0 ≤ a ∧ a ≤ 61) (KK : ∀ v3 : Value, zV Γ (zAA Γ) p l e (zRm (d + 7)) s m args below meth c 0 0 Q 52 [.ref (za Γ 5 0), .int (zi (rFO (μ 5 1) i k a)), .int (zi ((μ 5 1) 0)), v3] [] (zset μ 5 4 (rFOm (μ 5 1) i k G))), zV Γ (zAA Γ) p l e (zRm (d + 7)) s m args below meth c 0 0 Q 5 [.ref (za Γ 5 0), .int (zi a), .int (zi k), v3] [] (zset μ 5 4 G) := by
  intro i
  induction i with
  | zero =>
    intro k a G v3 h0 hi ha KK
    have I : rInv N (zset μ 5 4 G 5 1) := by rw [zset_ne (by decide)]; exact J
    have hz := J.1
    have hk : k = (μ 5 1) 0 := by omega
    subst hk
    refine zV_iload_n (i := 2) (n := 6) C dX9_firstOut_5 rfl rfl rfl ?_
    refine zV_aload_n (i := 0) (n := 7) C dX9_firstOut_6 rfl rfl rfl ?_
    refine zV_getP (f := 0) (n := 10) C zk8 fX9_7 dX9_firstOut_7 zs_ref rfl (by decide) rfl ?_
    refine zV_iconst (n := 11) C dX9_firstOut_10 rfl ?_
    refine zV_iald (n := 12) C dX9_firstOut_11 zs_s (by omega) (by decide) rfl ?_
    rw [show zset μ 5 4 G 5 1 = μ 5 1 from zset_ne (by decide)]
    refine zV_icmp_ge (n := 15) C 52 dX9_firstOut_12 (by decide) (by omega) (by omega) rfl (fun h12 => ?_) (fun h => by exfalso; omega)
    exact KK _
  | succ i ih =>
    intro k a G v3 h0 hi ha KK
    have I : rInv N (zset μ 5 4 G 5 1) := by rw [zset_ne (by decide)]; exact J
    have hz := J.1
    have hr9 := rAt_rg (μ 5 1) k
    have ho := rOI_rg (x := k) (n := 60) (i := 60) (S := (μ 5 1)) (k := 0) (by omega) (by omega)
    refine zV_iload_n (i := 2) (n := 6) C dX9_firstOut_5 rfl rfl rfl ?_
    refine zV_aload_n (i := 0) (n := 7) C dX9_firstOut_6 rfl rfl rfl ?_
    refine zV_getP (f := 0) (n := 10) C zk8 fX9_7 dX9_firstOut_7 zs_ref rfl (by decide) rfl ?_
    refine zV_iconst (n := 11) C dX9_firstOut_10 rfl ?_
    refine zV_iald (n := 12) C dX9_firstOut_11 zs_s (by omega) (by decide) rfl ?_
    rw [show zset μ 5 4 G 5 1 = μ 5 1 from zset_ne (by decide)]
    refine zV_icmp_ge (n := 15) C 52 dX9_firstOut_12 (by decide) (by omega) (by omega) rfl (fun h => by exfalso; omega) (fun h12 => ?_)
    refine zV_aload_n (i := 0) (n := 16) C dX9_firstOut_15 rfl rfl rfl ?_
    refine zV_iload_n (i := 2) (n := 17) C dX9_firstOut_16 rfl rfl rfl ?_
    refine zV_callV1u (n := 20) C zk8 jX9_seatedAt lX9_91 (m_seatedAt (d := d) I (by omega)) dX9_firstOut_17 zs_ref rfl (Nat.le_of_ble_eq_true rfl) (zfit_of (by omega) (by decide)) ⟨Nat.le_refl _, Nat.le_refl _⟩ rfl ?_
    rw [show zset μ 5 4 G 5 1 = μ 5 1 from zset_ne (by decide)]
    refine zV_if_lt (n := 23) C 33 dX9_firstOut_20 (by decide) (by omega) rfl (fun h20 => ?_) (fun h20 => ?_)
    · skip
      refine zV_iload_n (i := 1) (n := 34) C dX9_firstOut_33 rfl rfl rfl ?_
      refine zS_istore_n_4_3 (n := 35) C dX9_firstOut_34 rfl rfl ?_
      refine zV_iload_n (i := 3) (n := 36) C dX9_firstOut_35 rfl rfl rfl ?_
      refine zV_iload_n (i := 1) (n := 37) C dX9_firstOut_36 rfl rfl rfl ?_
      refine zV_icmp_ge (n := 40) C 44 dX9_firstOut_37 (by decide) (by omega) (by omega) rfl (fun h37 => ?_) (fun h37 => ?_)
      · skip
        refine zV_iload_n (i := 1) (n := 45) C dX9_firstOut_44 rfl rfl rfl ?_
        refine zS_istore_n_4_1 (n := 46) C dX9_firstOut_45 rfl rfl ?_
        refine zS_iinc_4_2 (n := 49) C dX9_firstOut_46 rfl rfl ?_
        refine zV_goto C 5 dX9_firstOut_49 (by decide) ?_
        unfold rFO rFOm at KK
        simp only at KK
        first | (simp only [if_pos h20, if_pos h37] at KK; exact ih _ _ _ _ (by omega) (by omega) (by omega) KK) | (simp only [if_pos h20, if_neg (Int.not_lt.mpr h37)] at KK; exact ih _ _ _ _ (by omega) (by omega) (by omega) KK) | (simp only [if_neg (Int.not_le.mpr h20), if_pos h37] at KK; exact ih _ _ _ _ (by omega) (by omega) (by omega) KK) | (simp only [if_neg (Int.not_le.mpr h20), if_neg (Int.not_lt.mpr h37)] at KK; exact ih _ _ _ _ (by omega) (by omega) (by omega) KK)
      · skip
        refine zV_iload_n (i := 3) (n := 41) C dX9_firstOut_40 rfl rfl rfl ?_
        refine zV_goto C 45 dX9_firstOut_41 (by decide) ?_
        refine zS_istore_n_4_1 (n := 46) C dX9_firstOut_45 rfl rfl ?_
        refine zS_iinc_4_2 (n := 49) C dX9_firstOut_46 rfl rfl ?_
        refine zV_goto C 5 dX9_firstOut_49 (by decide) ?_
        unfold rFO rFOm at KK
        simp only at KK
        first | (simp only [if_pos h20, if_pos h37] at KK; exact ih _ _ _ _ (by omega) (by omega) (by omega) KK) | (simp only [if_pos h20, if_neg (Int.not_lt.mpr h37)] at KK; exact ih _ _ _ _ (by omega) (by omega) (by omega) KK) | (simp only [if_neg (Int.not_le.mpr h20), if_pos h37] at KK; exact ih _ _ _ _ (by omega) (by omega) (by omega) KK) | (simp only [if_neg (Int.not_le.mpr h20), if_neg (Int.not_lt.mpr h37)] at KK; exact ih _ _ _ _ (by omega) (by omega) (by omega) KK)
    · skip
      refine zV_aload_n (i := 0) (n := 24) C dX9_firstOut_23 rfl rfl rfl ?_
      refine zV_iload_n (i := 2) (n := 25) C dX9_firstOut_24 rfl rfl rfl ?_
      refine zV_bipush (n := 27) C dX9_firstOut_25 (by decide) rfl ?_
      refine zV_callV2u (n := 30) C zk8 jX9_outIn lX9_160 (m_outIn (d := d) (n := 60) I (by omega) (by omega) (by omega)) dX9_firstOut_27 zs_ref rfl (Nat.le_of_ble_eq_true rfl) (zfit_of (by omega) (by decide)) ⟨Nat.le_refl _, Nat.le_refl _⟩ rfl ?_
      rw [show zset μ 5 4 G 5 1 = μ 5 1 from zset_ne (by decide)]
      rw [zset_set, show ((60 : Nat) : Int) = 60 from rfl]
      refine zV_goto C 34 dX9_firstOut_30 (by decide) ?_
      refine zS_istore_n_4_3 (n := 35) C dX9_firstOut_34 rfl rfl ?_
      refine zV_iload_n (i := 3) (n := 36) C dX9_firstOut_35 rfl rfl rfl ?_
      refine zV_iload_n (i := 1) (n := 37) C dX9_firstOut_36 rfl rfl rfl ?_
      refine zV_icmp_ge (n := 40) C 44 dX9_firstOut_37 (by decide) (by omega) (by omega) rfl (fun h37 => ?_) (fun h37 => ?_)
      · skip
        refine zV_iload_n (i := 1) (n := 45) C dX9_firstOut_44 rfl rfl rfl ?_
        refine zS_istore_n_4_1 (n := 46) C dX9_firstOut_45 rfl rfl ?_
        refine zS_iinc_4_2 (n := 49) C dX9_firstOut_46 rfl rfl ?_
        refine zV_goto C 5 dX9_firstOut_49 (by decide) ?_
        unfold rFO rFOm at KK
        simp only at KK
        first | (simp only [if_pos h20, if_pos h37] at KK; exact ih _ _ _ _ (by omega) (by omega) (by omega) KK) | (simp only [if_pos h20, if_neg (Int.not_lt.mpr h37)] at KK; exact ih _ _ _ _ (by omega) (by omega) (by omega) KK) | (simp only [if_neg (Int.not_le.mpr h20), if_pos h37] at KK; exact ih _ _ _ _ (by omega) (by omega) (by omega) KK) | (simp only [if_neg (Int.not_le.mpr h20), if_neg (Int.not_lt.mpr h37)] at KK; exact ih _ _ _ _ (by omega) (by omega) (by omega) KK)
      · skip
        refine zV_iload_n (i := 3) (n := 41) C dX9_firstOut_40 rfl rfl rfl ?_
        refine zV_goto C 45 dX9_firstOut_41 (by decide) ?_
        refine zS_istore_n_4_1 (n := 46) C dX9_firstOut_45 rfl rfl ?_
        refine zS_iinc_4_2 (n := 49) C dX9_firstOut_46 rfl rfl ?_
        refine zV_goto C 5 dX9_firstOut_49 (by decide) ?_
        unfold rFO rFOm at KK
        simp only at KK
        first | (simp only [if_pos h20, if_pos h37] at KK; exact ih _ _ _ _ (by omega) (by omega) (by omega) KK) | (simp only [if_pos h20, if_neg (Int.not_lt.mpr h37)] at KK; exact ih _ _ _ _ (by omega) (by omega) (by omega) KK) | (simp only [if_neg (Int.not_le.mpr h20), if_pos h37] at KK; exact ih _ _ _ _ (by omega) (by omega) (by omega) KK) | (simp only [if_neg (Int.not_le.mpr h20), if_neg (Int.not_lt.mpr h37)] at KK; exact ih _ _ _ _ (by omega) (by omega) (by omega) KK)

set_option maxRecDepth 100000 in
set_option maxHeartbeats 4000000 in
theorem m_firstOut {Γ : zC} {l : Launch} {d : Nat} {μ : zMem} {N : Int} (I : rInv N (μ 5 1)) (hN : N ≤ 10000)  : zRet Γ l (d + 7) qX9_firstOut [.ref (za Γ 5 0)] μ (some (.int (zi (if rFO (μ 5 1) ((μ 5 1) 0).toNat 0 61 ≤ 60 then rFO (μ 5 1) ((μ 5 1) 0).toNat 0 61 else -1000000004)))) (if rFO (μ 5 1) ((μ 5 1) 0).toNat 0 61 ≤ 60 then (zset μ 5 4 (rFOm (μ 5 1) ((μ 5 1) 0).toNat 0 (μ 5 4))) else zset (zset μ 5 4 (rFOm (μ 5 1) ((μ 5 1) 0).toNat 0 (μ 5 4))) 5 5 (rFind (μ 5 5) (-1000000004))) := by
  refine zRet.mk 3 [.ref (za Γ 5 0), .null, .null, .null] RX9 rfl (by decide +kernel) (Nat.le_of_ble_eq_true rfl) rfl ?_
  intro p e s m below meth c C hr hlk
  have h0 := I.1
  refine zV_bipush (n := 2) C dX9_firstOut_0 (by decide) rfl ?_
  refine zS_istore_n_4_1 (n := 3) C dX9_firstOut_2 rfl rfl ?_
  refine zV_iconst (n := 4) C dX9_firstOut_3 rfl ?_
  refine zS_istore_n_4_2 (n := 5) C dX9_firstOut_4 rfl rfl ?_
  refine zV_eqm (μ' := zset μ 5 4 (μ 5 4)) zset_self.symm ?_
  refine m_firstOut_loop C I hN ((μ 5 1) 0).toNat 0 61 (μ 5 4) .null (by omega) (by omega) (by omega) (fun v3 => ?_)
  have hf := rFO_rg (S := (μ 5 1)) (i := ((μ 5 1) 0).toNat) (k := 0) (a := 61) (by omega) (by omega)
  refine zV_iload_n (i := 1) (n := 53) C dX9_firstOut_52 rfl rfl rfl ?_
  refine zV_bipush (n := 55) C dX9_firstOut_53 (by decide) rfl ?_
  refine zV_icmp_le (n := 58) C 67 dX9_firstOut_55 (by decide) (by first | omega | exact zb_rg) (by first | omega | exact zb_rg) rfl (fun h55 => ?_) (fun h55 => ?_)
  · skip
    refine zV_iload_n (i := 1) (n := 68) C dX9_firstOut_67 rfl rfl rfl ?_
    exact zV_ireturn C hr hlk dX9_firstOut_68 (by first | exact congrArg (fun z => some (Value.int (zi z))) (zif_t (by omega) (rfl)) | exact congrArg (fun z => some (Value.int (zi z))) (zif_f (by omega) rfl)) (by first | exact zif_t (by omega) (rfl) | exact zif_f (by omega) rfl)
  · skip
    refine zV_aload_n (i := 0) (n := 59) C dX9_firstOut_58 rfl rfl rfl ?_
    refine zV_ldc (n := 61) C dX9_firstOut_59 kX9_163 rfl ?_
    refine zV_callV1u (n := 64) C zk8 jX9_finds lX9_75 (m_finds (d := d) (by omega)) dX9_firstOut_61 zs_ref rfl (Nat.le_of_ble_eq_true rfl) (zfit_of (by omega) (by decide)) ⟨Nat.le_refl _, Nat.le_refl _⟩ rfl ?_
    rw [show (zset μ 5 4 (rFOm (μ 5 1) ((μ 5 1) 0).toNat 0 (μ 5 4))) 5 5 = μ 5 5 from zset_ne (by decide)]
    refine zV_goto C 68 dX9_firstOut_64 (by decide) ?_
    exact zV_ireturn C hr hlk dX9_firstOut_68 (by first | exact congrArg (fun z => some (Value.int (zi z))) (zif_t (by omega) (rfl)) | exact congrArg (fun z => some (Value.int (zi z))) (zif_f (by omega) rfl)) (by first | exact zif_t (by omega) (rfl) | exact zif_f (by omega) rfl)

set_option maxRecDepth 100000 in
set_option maxHeartbeats 4000000 in
theorem m_quick_step {Γ : zC} {l : Launch} {d : Nat} {p : Program} {e : Env} {s : State} {m : MethodId} {args : Array Value} {below : List Frame} {meth : Method} {c : Code} {Q : State → Prop} (C : zCx Γ (zAA Γ) p s m args c RX9 cX9_quick 5) {μ : zMem} {N : Int} (I : rInv N (μ 5 1)) {x : Int} (hx : 0 ≤ x ∧ x < 6) {k : Int} (hk : 0 ≤ k ∧ k < 3) {w b : Int} (hb : -1 ≤ b ∧ b < 3) (KK : zV Γ (zAA Γ) p l e (zRm (d + 4)) s m args below meth c 0 0 Q 21 [.ref (za Γ 5 0), .int (zi x), .int (zi w), .int (zi (rQ (μ 5 1) x k b)), .int (zi (k + 1))] [] μ) :
    zV Γ (zAA Γ) p l e (zRm (d + 4)) s m args below meth c 0 0 Q 21 [.ref (za Γ 5 0), .int (zi x), .int (zi w), .int (zi b), .int (zi k)] [] μ := by
  refine zV_iload (n := 23) C dX9_quick_21 rfl rfl ?_
  refine zV_iconst (n := 24) C dX9_quick_23 rfl ?_
  refine zV_icmp_ge (n := 27) C 69 dX9_quick_24 (by decide) (by first | omega | exact zb_rg) (by first | omega | exact zb_rg) rfl (fun h => by exfalso; first | omega | exact zb_rg) (fun h24 => ?_)
  refine zV_aload_n (i := 0) (n := 28) C dX9_quick_27 rfl rfl rfl ?_
  refine zV_iload (n := 30) C dX9_quick_28 rfl rfl ?_
  refine zV_callV1u (n := 33) C zk8 jX9_isTaken lX9_88 (m_isTaken (d := d) I (by omega)) dX9_quick_30 zs_ref rfl (Nat.le_of_ble_eq_true rfl) (zfit_of (by omega) (by decide)) ⟨Nat.le_refl _, Nat.le_refl _⟩ rfl ?_
  refine zV_if_ne (n := 36) C 61 dX9_quick_33 (by decide) (by first | omega | exact zb_rg) rfl (fun h33 => ?_) (fun h33 => ?_)
  · skip
    simp only [zb_eq0, Decidable.not_not] at h33
    refine zV_iload_n (i := 3) (n := 62) C dX9_quick_61 rfl rfl rfl ?_
    refine zS_istore_n_5_3 (n := 63) C dX9_quick_62 rfl rfl ?_
    refine zS_iinc_5_4 (n := 66) C dX9_quick_63 rfl rfl ?_
    refine zV_goto C 21 dX9_quick_66 (by decide) ?_
    first | exact Eq.mp (by rw [show rQ (μ 5 1) x k b = k from by unfold rQ; exact if_pos (by omega)]) KK | exact Eq.mp (by rw [show rQ (μ 5 1) x k b = b from by unfold rQ; exact if_neg (by omega)]) KK
  · skip
    simp only [zb_eq0, Decidable.not_not] at h33
    refine zV_iload_n (i := 3) (n := 37) C dX9_quick_36 rfl rfl rfl ?_
    refine zV_if_lt (n := 40) C 56 dX9_quick_37 (by decide) (by first | omega | exact zb_rg) rfl (fun h37 => ?_) (fun h37 => ?_)
    · skip
      refine zV_iload (n := 58) C dX9_quick_56 rfl rfl ?_
      refine zV_goto C 62 dX9_quick_58 (by decide) ?_
      refine zS_istore_n_5_3 (n := 63) C dX9_quick_62 rfl rfl ?_
      refine zS_iinc_5_4 (n := 66) C dX9_quick_63 rfl rfl ?_
      refine zV_goto C 21 dX9_quick_66 (by decide) ?_
      first | exact Eq.mp (by rw [show rQ (μ 5 1) x k b = k from by unfold rQ; exact if_pos (by omega)]) KK | exact Eq.mp (by rw [show rQ (μ 5 1) x k b = b from by unfold rQ; exact if_neg (by omega)]) KK
    · skip
      refine zV_aload_n (i := 0) (n := 41) C dX9_quick_40 rfl rfl rfl ?_
      refine zV_iload_n (i := 1) (n := 42) C dX9_quick_41 rfl rfl rfl ?_
      refine zV_iload (n := 44) C dX9_quick_42 rfl rfl ?_
      refine zV_callV2u (n := 47) C zk8 jX9_secondsOf lX9_118 (m_secondsOf (d := d) I (by omega) (by omega)) dX9_quick_44 zs_ref rfl (Nat.le_of_ble_eq_true rfl) (zfit_of (by omega) (by decide)) ⟨Nat.le_refl _, Nat.le_refl _⟩ rfl ?_
      have r1 := rSec_rg I hx hk
      refine zV_aload_n (i := 0) (n := 48) C dX9_quick_47 rfl rfl rfl ?_
      refine zV_iload_n (i := 1) (n := 49) C dX9_quick_48 rfl rfl rfl ?_
      refine zV_iload_n (i := 3) (n := 50) C dX9_quick_49 rfl rfl rfl ?_
      refine zV_callV2u (n := 53) C zk8 jX9_secondsOf lX9_118 (m_secondsOf (d := d) I (by omega) (by omega)) dX9_quick_50 zs_ref rfl (Nat.le_of_ble_eq_true rfl) (zfit_of (by omega) (by decide)) ⟨Nat.le_refl _, Nat.le_refl _⟩ rfl ?_
      have r2 := rSec_rg I hx (k := b) (by omega)
      refine zV_icmp_ge (n := 56) C 61 dX9_quick_53 (by decide) (by first | omega | exact zb_rg) (by first | omega | exact zb_rg) rfl (fun h53 => ?_) (fun h53 => ?_)
      · skip
        refine zV_iload_n (i := 3) (n := 62) C dX9_quick_61 rfl rfl rfl ?_
        refine zS_istore_n_5_3 (n := 63) C dX9_quick_62 rfl rfl ?_
        refine zS_iinc_5_4 (n := 66) C dX9_quick_63 rfl rfl ?_
        refine zV_goto C 21 dX9_quick_66 (by decide) ?_
        first | exact Eq.mp (by rw [show rQ (μ 5 1) x k b = k from by unfold rQ; exact if_pos (by omega)]) KK | exact Eq.mp (by rw [show rQ (μ 5 1) x k b = b from by unfold rQ; exact if_neg (by omega)]) KK
      · skip
        refine zV_iload (n := 58) C dX9_quick_56 rfl rfl ?_
        refine zV_goto C 62 dX9_quick_58 (by decide) ?_
        refine zS_istore_n_5_3 (n := 63) C dX9_quick_62 rfl rfl ?_
        refine zS_iinc_5_4 (n := 66) C dX9_quick_63 rfl rfl ?_
        refine zV_goto C 21 dX9_quick_66 (by decide) ?_
        first | exact Eq.mp (by rw [show rQ (μ 5 1) x k b = k from by unfold rQ; exact if_pos (by omega)]) KK | exact Eq.mp (by rw [show rQ (μ 5 1) x k b = b from by unfold rQ; exact if_neg (by omega)]) KK

set_option maxRecDepth 100000 in
set_option maxHeartbeats 4000000 in
theorem m_quick {Γ : zC} {l : Launch} {d : Nat} {μ : zMem} {N : Int} (I : rInv N (μ 5 1)) {x : Int} (hx : -2147483648 ≤ x ∧ x ≤ 2147483647) : zRet Γ l (d + 4) qX9_quick [.ref (za Γ 5 0), .int (zi x)] μ (some (.int (zi (if rWS (μ 5 1) x = 0 then rQuick (μ 5 1) x else rWS (μ 5 1) x)))) (if rWS (μ 5 1) x = 0 then μ else zset μ 5 5 (rFind (μ 5 5) (rWS (μ 5 1) x))) := by
  refine zRet.mk 3 [.ref (za Γ 5 0), .int (zi x), .null, .null, .null] RX9 rfl (by decide +kernel) (Nat.le_of_ble_eq_true rfl) rfl ?_
  intro p e s m below meth c C hr hlk
  have h0 := I.1
  have hw := rWS_rg (μ 5 1) x
  refine zV_aload_n (i := 0) (n := 1) C dX9_quick_0 rfl rfl rfl ?_
  refine zV_iload_n (i := 1) (n := 2) C dX9_quick_1 rfl rfl rfl ?_
  refine zV_callV1u (n := 5) C zk8 jX9_wrongSeeker lX9_164 (m_wrongSeeker (d := d) I (by omega)) dX9_quick_2 zs_ref rfl (Nat.le_of_ble_eq_true rfl) (zfit_of (by omega) (by decide)) ⟨Nat.le_refl _, Nat.le_refl _⟩ rfl ?_
  refine zS_istore_n_5_2 (n := 6) C dX9_quick_5 rfl rfl ?_
  refine zV_iload_n (i := 2) (n := 7) C dX9_quick_6 rfl rfl rfl ?_
  refine zV_if_eq (n := 10) C 16 dX9_quick_7 (by decide) (by first | omega | exact zb_rg) rfl (fun h7 => ?_) (fun h7 => ?_)
  · skip
    refine zV_iconst (n := 17) C dX9_quick_16 rfl ?_
    refine zS_istore_n_5_3 (n := 18) C dX9_quick_17 rfl rfl ?_
    refine zV_iconst (n := 19) C dX9_quick_18 rfl ?_
    refine zS_istore_5_4 (n := 21) C dX9_quick_19 rfl rfl ?_
    have hx6 : 0 ≤ x ∧ x < 6 := by unfold rWS at h7 hw; revert h7; (repeat' split) <;> omega
    have B1 := rQ_rg (S := (μ 5 1)) (x := x) (k := 0) (b := -1) (by omega) (by omega)
    have B2 := rQ_rg (S := (μ 5 1)) (x := x) (k := 1) (b := (rQ (μ 5 1) x 0 (-1))) (by omega) B1
    refine m_quick_step C I hx6 (k := 0) (b := -1) (by omega) (by omega) ?_
    refine m_quick_step C I hx6 (k := 1) (by omega) B1 ?_
    refine m_quick_step C I hx6 (k := 2) (by omega) B2 ?_
    refine zV_iload (n := 23) C dX9_quick_21 rfl rfl ?_
    refine zV_iconst (n := 24) C dX9_quick_23 rfl ?_
    refine zV_icmp_ge (n := 27) C 69 dX9_quick_24 (by decide) (by omega) (by omega) rfl (fun h => ?_) (fun h => by exfalso; omega)
    refine zV_iload_n (i := 3) (n := 70) C dX9_quick_69 rfl rfl rfl ?_
    exact zV_ireturn C hr hlk dX9_quick_70 (congrArg (fun z => some (Value.int (zi z))) (zif_t (by omega) rfl)) (zif_t (by omega) rfl)
  · skip
    refine zV_aload_n (i := 0) (n := 11) C dX9_quick_10 rfl rfl rfl ?_
    refine zV_iload_n (i := 2) (n := 12) C dX9_quick_11 rfl rfl rfl ?_
    refine zV_callV1u (n := 15) C zk8 jX9_finds lX9_75 (m_finds (d := d) (by omega)) dX9_quick_12 zs_ref rfl (Nat.le_of_ble_eq_true rfl) (zfit_of (by omega) (by decide)) ⟨Nat.le_refl _, Nat.le_refl _⟩ rfl ?_
    exact zV_ireturn C hr hlk dX9_quick_15 (by first | exact congrArg (fun z => some (Value.int (zi z))) (zif_t (by omega) (rfl)) | exact congrArg (fun z => some (Value.int (zi z))) (zif_f (by omega) rfl)) (by first | exact zif_t (by omega) (rfl) | exact zif_f (by omega) rfl)

set_option maxRecDepth 100000 in
set_option maxHeartbeats 4000000 in
theorem m_safe_step {Γ : zC} {l : Launch} {d : Nat} {p : Program} {e : Env} {s : State} {m : MethodId} {args : Array Value} {below : List Frame} {meth : Method} {c : Code} {Q : State → Prop} (C : zCx Γ (zAA Γ) p s m args c RX9 cX9_safe 5) {μ : zMem} {N : Int} (I : rInv N (μ 5 1)) {x : Int} (hx : 0 ≤ x ∧ x < 6) {k : Int} (hk : 0 ≤ k ∧ k < 3) {w b : Int} (hb : -1 ≤ b ∧ b < 3) (KK : zV Γ (zAA Γ) p l e (zRm (d + 4)) s m args below meth c 0 0 Q 21 [.ref (za Γ 5 0), .int (zi x), .int (zi w), .int (zi (rSf (μ 5 1) x k b)), .int (zi (k + 1))] [] μ) :
    zV Γ (zAA Γ) p l e (zRm (d + 4)) s m args below meth c 0 0 Q 21 [.ref (za Γ 5 0), .int (zi x), .int (zi w), .int (zi b), .int (zi k)] [] μ := by
  refine zV_iload (n := 23) C dX9_safe_21 rfl rfl ?_
  refine zV_iconst (n := 24) C dX9_safe_23 rfl ?_
  refine zV_icmp_ge (n := 27) C 69 dX9_safe_24 (by decide) (by first | omega | exact zb_rg) (by first | omega | exact zb_rg) rfl (fun h => by exfalso; first | omega | exact zb_rg) (fun h24 => ?_)
  refine zV_aload_n (i := 0) (n := 28) C dX9_safe_27 rfl rfl rfl ?_
  refine zV_iload (n := 30) C dX9_safe_28 rfl rfl ?_
  refine zV_callV1u (n := 33) C zk8 jX9_isTaken lX9_88 (m_isTaken (d := d) I (by omega)) dX9_safe_30 zs_ref rfl (Nat.le_of_ble_eq_true rfl) (zfit_of (by omega) (by decide)) ⟨Nat.le_refl _, Nat.le_refl _⟩ rfl ?_
  refine zV_if_ne (n := 36) C 61 dX9_safe_33 (by decide) (by first | omega | exact zb_rg) rfl (fun h33 => ?_) (fun h33 => ?_)
  · skip
    simp only [zb_eq0, Decidable.not_not] at h33
    refine zV_iload_n (i := 3) (n := 62) C dX9_safe_61 rfl rfl rfl ?_
    refine zS_istore_n_5_3 (n := 63) C dX9_safe_62 rfl rfl ?_
    refine zS_iinc_5_4 (n := 66) C dX9_safe_63 rfl rfl ?_
    refine zV_goto C 21 dX9_safe_66 (by decide) ?_
    first | exact Eq.mp (by rw [show rSf (μ 5 1) x k b = k from by unfold rSf; exact if_pos (by omega)]) KK | exact Eq.mp (by rw [show rSf (μ 5 1) x k b = b from by unfold rSf; exact if_neg (by omega)]) KK
  · skip
    simp only [zb_eq0, Decidable.not_not] at h33
    refine zV_iload_n (i := 3) (n := 37) C dX9_safe_36 rfl rfl rfl ?_
    refine zV_if_lt (n := 40) C 56 dX9_safe_37 (by decide) (by first | omega | exact zb_rg) rfl (fun h37 => ?_) (fun h37 => ?_)
    · skip
      refine zV_iload (n := 58) C dX9_safe_56 rfl rfl ?_
      refine zV_goto C 62 dX9_safe_58 (by decide) ?_
      refine zS_istore_n_5_3 (n := 63) C dX9_safe_62 rfl rfl ?_
      refine zS_iinc_5_4 (n := 66) C dX9_safe_63 rfl rfl ?_
      refine zV_goto C 21 dX9_safe_66 (by decide) ?_
      first | exact Eq.mp (by rw [show rSf (μ 5 1) x k b = k from by unfold rSf; exact if_pos (by omega)]) KK | exact Eq.mp (by rw [show rSf (μ 5 1) x k b = b from by unfold rSf; exact if_neg (by omega)]) KK
    · skip
      refine zV_aload_n (i := 0) (n := 41) C dX9_safe_40 rfl rfl rfl ?_
      refine zV_iload_n (i := 1) (n := 42) C dX9_safe_41 rfl rfl rfl ?_
      refine zV_iload (n := 44) C dX9_safe_42 rfl rfl ?_
      refine zV_callV2u (n := 47) C zk8 jX9_snugOf lX9_121 (m_snugOf (d := d) I (by omega) (by omega)) dX9_safe_44 zs_ref rfl (Nat.le_of_ble_eq_true rfl) (zfit_of (by omega) (by decide)) ⟨Nat.le_refl _, Nat.le_refl _⟩ rfl ?_
      have r1 := rSnug_rg I hx hk
      refine zV_aload_n (i := 0) (n := 48) C dX9_safe_47 rfl rfl rfl ?_
      refine zV_iload_n (i := 1) (n := 49) C dX9_safe_48 rfl rfl rfl ?_
      refine zV_iload_n (i := 3) (n := 50) C dX9_safe_49 rfl rfl rfl ?_
      refine zV_callV2u (n := 53) C zk8 jX9_snugOf lX9_121 (m_snugOf (d := d) I (by omega) (by omega)) dX9_safe_50 zs_ref rfl (Nat.le_of_ble_eq_true rfl) (zfit_of (by omega) (by decide)) ⟨Nat.le_refl _, Nat.le_refl _⟩ rfl ?_
      have r2 := rSnug_rg I hx (k := b) (by omega)
      refine zV_icmp_le (n := 56) C 61 dX9_safe_53 (by decide) (by first | omega | exact zb_rg) (by first | omega | exact zb_rg) rfl (fun h53 => ?_) (fun h53 => ?_)
      · skip
        refine zV_iload_n (i := 3) (n := 62) C dX9_safe_61 rfl rfl rfl ?_
        refine zS_istore_n_5_3 (n := 63) C dX9_safe_62 rfl rfl ?_
        refine zS_iinc_5_4 (n := 66) C dX9_safe_63 rfl rfl ?_
        refine zV_goto C 21 dX9_safe_66 (by decide) ?_
        first | exact Eq.mp (by rw [show rSf (μ 5 1) x k b = k from by unfold rSf; exact if_pos (by omega)]) KK | exact Eq.mp (by rw [show rSf (μ 5 1) x k b = b from by unfold rSf; exact if_neg (by omega)]) KK
      · skip
        refine zV_iload (n := 58) C dX9_safe_56 rfl rfl ?_
        refine zV_goto C 62 dX9_safe_58 (by decide) ?_
        refine zS_istore_n_5_3 (n := 63) C dX9_safe_62 rfl rfl ?_
        refine zS_iinc_5_4 (n := 66) C dX9_safe_63 rfl rfl ?_
        refine zV_goto C 21 dX9_safe_66 (by decide) ?_
        first | exact Eq.mp (by rw [show rSf (μ 5 1) x k b = k from by unfold rSf; exact if_pos (by omega)]) KK | exact Eq.mp (by rw [show rSf (μ 5 1) x k b = b from by unfold rSf; exact if_neg (by omega)]) KK

set_option maxRecDepth 100000 in
set_option maxHeartbeats 4000000 in
theorem m_safe {Γ : zC} {l : Launch} {d : Nat} {μ : zMem} {N : Int} (I : rInv N (μ 5 1)) {x : Int} (hx : -2147483648 ≤ x ∧ x ≤ 2147483647) : zRet Γ l (d + 4) qX9_safe [.ref (za Γ 5 0), .int (zi x)] μ (some (.int (zi (if rWS (μ 5 1) x = 0 then rSafe (μ 5 1) x else rWS (μ 5 1) x)))) (if rWS (μ 5 1) x = 0 then μ else zset μ 5 5 (rFind (μ 5 5) (rWS (μ 5 1) x))) := by
  refine zRet.mk 3 [.ref (za Γ 5 0), .int (zi x), .null, .null, .null] RX9 rfl (by decide +kernel) (Nat.le_of_ble_eq_true rfl) rfl ?_
  intro p e s m below meth c C hr hlk
  have h0 := I.1
  have hw := rWS_rg (μ 5 1) x
  refine zV_aload_n (i := 0) (n := 1) C dX9_safe_0 rfl rfl rfl ?_
  refine zV_iload_n (i := 1) (n := 2) C dX9_safe_1 rfl rfl rfl ?_
  refine zV_callV1u (n := 5) C zk8 jX9_wrongSeeker lX9_164 (m_wrongSeeker (d := d) I (by omega)) dX9_safe_2 zs_ref rfl (Nat.le_of_ble_eq_true rfl) (zfit_of (by omega) (by decide)) ⟨Nat.le_refl _, Nat.le_refl _⟩ rfl ?_
  refine zS_istore_n_5_2 (n := 6) C dX9_safe_5 rfl rfl ?_
  refine zV_iload_n (i := 2) (n := 7) C dX9_safe_6 rfl rfl rfl ?_
  refine zV_if_eq (n := 10) C 16 dX9_safe_7 (by decide) (by first | omega | exact zb_rg) rfl (fun h7 => ?_) (fun h7 => ?_)
  · skip
    refine zV_iconst (n := 17) C dX9_safe_16 rfl ?_
    refine zS_istore_n_5_3 (n := 18) C dX9_safe_17 rfl rfl ?_
    refine zV_iconst (n := 19) C dX9_safe_18 rfl ?_
    refine zS_istore_5_4 (n := 21) C dX9_safe_19 rfl rfl ?_
    have hx6 : 0 ≤ x ∧ x < 6 := by unfold rWS at h7 hw; revert h7; (repeat' split) <;> omega
    have B1 := rSf_rg (S := (μ 5 1)) (x := x) (k := 0) (b := -1) (by omega) (by omega)
    have B2 := rSf_rg (S := (μ 5 1)) (x := x) (k := 1) (b := (rSf (μ 5 1) x 0 (-1))) (by omega) B1
    refine m_safe_step C I hx6 (k := 0) (b := -1) (by omega) (by omega) ?_
    refine m_safe_step C I hx6 (k := 1) (by omega) B1 ?_
    refine m_safe_step C I hx6 (k := 2) (by omega) B2 ?_
    refine zV_iload (n := 23) C dX9_safe_21 rfl rfl ?_
    refine zV_iconst (n := 24) C dX9_safe_23 rfl ?_
    refine zV_icmp_ge (n := 27) C 69 dX9_safe_24 (by decide) (by omega) (by omega) rfl (fun h => ?_) (fun h => by exfalso; omega)
    refine zV_iload_n (i := 3) (n := 70) C dX9_safe_69 rfl rfl rfl ?_
    exact zV_ireturn C hr hlk dX9_safe_70 (congrArg (fun z => some (Value.int (zi z))) (zif_t (by omega) rfl)) (zif_t (by omega) rfl)
  · skip
    refine zV_aload_n (i := 0) (n := 11) C dX9_safe_10 rfl rfl rfl ?_
    refine zV_iload_n (i := 2) (n := 12) C dX9_safe_11 rfl rfl rfl ?_
    refine zV_callV1u (n := 15) C zk8 jX9_finds lX9_75 (m_finds (d := d) (by omega)) dX9_safe_12 zs_ref rfl (Nat.le_of_ble_eq_true rfl) (zfit_of (by omega) (by decide)) ⟨Nat.le_refl _, Nat.le_refl _⟩ rfl ?_
    exact zV_ireturn C hr hlk dX9_safe_15 (by first | exact congrArg (fun z => some (Value.int (zi z))) (zif_t (by omega) (rfl)) | exact congrArg (fun z => some (Value.int (zi z))) (zif_f (by omega) rfl)) (by first | exact zif_t (by omega) (rfl) | exact zif_f (by omega) rfl)

