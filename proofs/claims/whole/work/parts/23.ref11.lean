/-! the reference: books and their reader, the tape is fed (laid by wip/whole/gen/ref11.py) -/
set_option maxRecDepth 100000 in
set_option maxHeartbeats 4000000 in
theorem m_book_loop {Γ : zC} {l : Launch} {d : Nat} {p : Program} {e : Env} {s : State} {m : MethodId} {args : Array Value} {below : List Frame} {meth : Method} {c : Code} {Q : State → Prop} (C : zCx Γ (zAA Γ) p s m args c RX9 cX9_book 5) {μ : zMem} (hS : rSh (μ 5 9) (μ 5 10) (μ 5 11)) {j x w : Int} (hj : 0 ≤ j ∧ j < 4) (hx : 0 ≤ x ∧ x < 6) :
    ∀ (i : Nat) (k N : Int) (T Q9 : Int → Int) (JT : rInv N T) (hN : N + i ≤ 20000) (h0 : 0 ≤ k) (hi : k + i = (μ 5 10) j) (KK : ∀ (v4 : Value) (T8 : Int → Int), zV Γ (zAA Γ) p l e (zRm (d + 6)) s m args below meth c 0 0 Q 73 [.ref (za Γ 5 0), .int (zi j), .int (zi x), .int (zi w), v4] [] (zset (zset (zset μ 5 4 (μ 5 1)) 5 1 T8) 5 11 (rBook x (40 * j) i k T Q9))), zV Γ (zAA Γ) p l e (zRm (d + 6)) s m args below meth c 0 0 Q 24 [.ref (za Γ 5 0), .int (zi j), .int (zi x), .int (zi w), .int (zi k)] [] (zset (zset (zset μ 5 4 (μ 5 1)) 5 1 T) 5 11 Q9) := by
  intro i
  induction i with
  | zero =>
    intro k N T Q9 JT hN h0 hi KK
    have hq := hS.1 j hj.1 hj.2
    have hc := JT.2.2.2.2.2.1 x hx.1 hx.2
    have hk : k = μ 5 10 j := by omega
    subst hk
    refine zV_iload (n := 26) C dX9_book_24 rfl rfl ?_
    refine zV_aload_n (i := 0) (n := 27) C dX9_book_26 rfl rfl rfl ?_
    refine zV_getP (f := 16) (n := 30) C zk8 fX9_37 dX9_book_27 zs_ref rfl (by decide) rfl ?_
    refine zV_iload_n (i := 1) (n := 31) C dX9_book_30 rfl rfl rfl ?_
    refine zV_iald (n := 32) C dX9_book_31 zs_sizeOf (by omega) (by decide) rfl ?_
    rw [show (zset (zset (zset μ 5 4 (μ 5 1)) 5 1 T) 5 11 Q9) 5 10 = μ 5 10 from by rw [zset_ne (by decide), zset_ne (by decide), zset_ne (by decide)]]
    refine zV_icmp_ge (n := 35) C 73 dX9_book_32 (by decide) (by omega) (by omega) rfl (fun h32 => ?_) (fun h => by exfalso; omega)
    exact KK _ T
  | succ i ih =>
    intro k N T Q9 JT hN h0 hi KK
    have hq := hS.1 j hj.1 hj.2
    have hc := JT.2.2.2.2.2.1 x hx.1 hx.2
    refine zV_iload (n := 26) C dX9_book_24 rfl rfl ?_
    refine zV_aload_n (i := 0) (n := 27) C dX9_book_26 rfl rfl rfl ?_
    refine zV_getP (f := 16) (n := 30) C zk8 fX9_37 dX9_book_27 zs_ref rfl (by decide) rfl ?_
    refine zV_iload_n (i := 1) (n := 31) C dX9_book_30 rfl rfl rfl ?_
    refine zV_iald (n := 32) C dX9_book_31 zs_sizeOf (by first | omega | exact zb_rg) (by decide) rfl ?_
    rw [show (zset (zset (zset μ 5 4 (μ 5 1)) 5 1 T) 5 11 Q9) 5 10 = μ 5 10 from by rw [zset_ne (by decide), zset_ne (by decide), zset_ne (by decide)]]
    refine zV_icmp_ge (n := 35) C 73 dX9_book_32 (by decide) (by first | omega | exact zb_rg) (by first | omega | exact zb_rg) rfl (fun h => by exfalso; first | omega | exact zb_rg) (fun h32 => ?_)
    refine zV_aload_n (i := 0) (n := 36) C dX9_book_35 rfl rfl rfl ?_
    refine zV_getP (f := 17) (n := 39) C zk8 fX9_40 dX9_book_36 zs_ref rfl (by decide) rfl ?_
    refine zV_bipush (n := 41) C dX9_book_39 (by decide) rfl ?_
    refine zV_iload_n (i := 1) (n := 42) C dX9_book_41 rfl rfl rfl ?_
    refine zV_imul (n := 43) C dX9_book_42 rfl ?_
    refine zV_iload (n := 45) C dX9_book_43 rfl rfl ?_
    refine zV_iadd (n := 46) C dX9_book_45 rfl ?_
    refine zV_aload_n (i := 0) (n := 47) C dX9_book_46 rfl rfl rfl ?_
    refine zV_getP (f := 15) (n := 50) C zk8 fX9_34 dX9_book_47 zs_ref rfl (by decide) rfl ?_
    refine zV_iload_n (i := 1) (n := 51) C dX9_book_50 rfl rfl rfl ?_
    refine zV_iald (n := 52) C dX9_book_51 zs_bitsOf (by first | omega | exact zb_rg) (by decide) rfl ?_
    rw [show (zset (zset (zset μ 5 4 (μ 5 1)) 5 1 T) 5 11 Q9) 5 9 = μ 5 9 from by rw [zset_ne (by decide), zset_ne (by decide), zset_ne (by decide)]]
    refine zV_aload_n (i := 0) (n := 53) C dX9_book_52 rfl rfl rfl ?_
    refine zV_iload_n (i := 2) (n := 54) C dX9_book_53 rfl rfl rfl ?_
    refine zV_iconst (n := 55) C dX9_book_54 rfl ?_
    refine zV_callV2u (n := 58) C zk8 jX9_told lX9_94 (m_told (d := d) (by omega)) dX9_book_55 zs_ref rfl (Nat.le_of_ble_eq_true rfl) (zfit_of (by omega) (by decide)) ⟨Nat.le_refl _, Nat.le_refl _⟩ rfl ?_
    rw [show (zset (zset (zset μ 5 4 (μ 5 1)) 5 1 T) 5 11 Q9) 5 1 = T from by rw [zset_ne (by decide), zset_at]]
    refine zV_i2l (n := 59) C dX9_book_58 (by first | omega | exact zb_rg) rfl ?_
    refine zV_callS2u (n := 62) C jX9_narrowed lX9_305 (m_narrowed (d := d) (by omega) (by omega)) dX9_book_59 (Nat.le_of_ble_eq_true rfl) (zfit_of (by omega) (by decide)) ⟨Nat.le_refl _, Nat.le_refl _⟩ rfl ?_
    rw [rNar_small (by omega)]
    refine zV_last (n := 63) C dX9_book_62 zs_numbers (by first | omega | exact zb_rg) (by decide) rfl ?_
    rw [zup_set]
    have I : rInv N (zset (zset (zset μ 5 4 (μ 5 1)) 5 1 T) 5 11 (zfu Q9 (40 * j + k) (toS T x 2)) 5 1) := by rw [zset_ne (by decide), zset_at]; exact JT
    refine zV_aload_n (i := 0) (n := 64) C dX9_book_63 rfl rfl rfl ?_
    refine zV_callV0v (n := 67) C zk8 jX9_minute lX9_139 (m_minute (d := d) I (by omega)) dX9_book_64 zs_ref rfl (Nat.le_of_ble_eq_true rfl) (zfit_of (by omega) (by decide)) ⟨Nat.le_refl _, Nat.le_refl _⟩ rfl ?_
    rw [show zset (zset (zset μ 5 4 (μ 5 1)) 5 1 T) 5 11 (zfu Q9 (40 * j + k) (toS T x 2)) 5 1 = T from by rw [zset_ne (by decide), zset_at], zset_swap (by decide)]
    refine zS_iinc_5_4 (n := 70) C dX9_book_67 rfl rfl ?_
    refine zV_goto C 24 dX9_book_70 (by decide) ?_
    exact ih (k + 1) (N + 1) (rMin T) _ (rMin_inv JT) (by omega) (by omega) (by omega) KK

set_option maxRecDepth 100000 in
set_option maxHeartbeats 4000000 in
theorem m_book {Γ : zC} {l : Launch} {d : Nat} {μ : zMem} {N : Int} (I : rInv N (μ 5 1)) (hN : N ≤ 10000) (hS : rSh (μ 5 9) (μ 5 10) (μ 5 11)) {j : Int} (hj : -2147483648 ≤ j ∧ j ≤ 2147483647) {x : Int} (hx : -2147483648 ≤ x ∧ x ≤ 2147483647) : zRet Γ l (d + 6) qX9_book [.ref (za Γ 5 0), .int (zi j), .int (zi x)] μ (some (.int (zi (if rWbk (μ 5 9) (μ 5 1) j x = 0 then (μ 5 10) j else rWbk (μ 5 9) (μ 5 1) j x)))) (if rWbk (μ 5 9) (μ 5 1) j x = 0 then (zset (zset μ 5 4 (μ 5 1)) 5 11 (rBook x (40 * j) ((μ 5 10) j).toNat 0 (μ 5 1) (μ 5 11))) else zset μ 5 5 (rFind (μ 5 5) (rWbk (μ 5 9) (μ 5 1) j x))) := by
  refine zRet.mk 2 [.ref (za Γ 5 0), .int (zi j), .int (zi x), .null, .null] RX9 rfl (by decide +kernel) (Nat.le_of_ble_eq_true rfl) rfl ?_
  intro p e s m below meth c C hr hlk
  have I2 := I
  have h0 := I.1
  have hw := rWbk_rg (μ 5 9) (μ 5 1) j x
  refine zV_aload_n (i := 0) (n := 1) C dX9_book_0 rfl rfl rfl ?_
  refine zV_iload_n (i := 1) (n := 2) C dX9_book_1 rfl rfl rfl ?_
  refine zV_iload_n (i := 2) (n := 3) C dX9_book_2 rfl rfl rfl ?_
  refine zV_callV2u (n := 6) C zk8 jX9_wrongBook lX9_309 (m_wrongBook (d := d) I hS (by omega) (by omega)) dX9_book_3 zs_ref rfl (Nat.le_of_ble_eq_true rfl) (zfit_of (by omega) (by decide)) ⟨Nat.le_refl _, Nat.le_refl _⟩ rfl ?_
  refine zS_istore_n_5_3 (n := 7) C dX9_book_6 rfl rfl ?_
  refine zV_iload_n (i := 3) (n := 8) C dX9_book_7 rfl rfl rfl ?_
  refine zV_if_eq (n := 11) C 17 dX9_book_8 (by decide) (by first | omega | exact zb_rg) rfl (fun h8 => ?_) (fun h8 => ?_)
  · skip
    refine zV_aload_n (i := 0) (n := 18) C dX9_book_17 rfl rfl rfl ?_
    refine zV_callV0v (n := 21) C zk8 jX9_laysAside lX9_154 (m_laysAside (d := d)) dX9_book_18 zs_ref rfl (Nat.le_of_ble_eq_true rfl) (zfit_of (by omega) (by decide)) ⟨Nat.le_refl _, Nat.le_refl _⟩ rfl ?_
    refine zV_iconst (n := 22) C dX9_book_21 rfl ?_
    refine zS_istore_5_4 (n := 24) C dX9_book_22 rfl rfl ?_
    have hj := rWbk_0 h8
    have hq := hS.1 j hj.1.1 hj.1.2
    refine zV_eqm (μ' := (zset (zset (zset μ 5 4 (μ 5 1)) 5 1 (μ 5 1)) 5 11 (μ 5 11))) (by rw [zset_old (by decide), zset_old (by decide)]) ?_
    refine m_book_loop C hS hj.1 (by omega) ((μ 5 10) j).toNat 0 N (μ 5 1) (μ 5 11) I2 (by omega) (by omega) (by omega) (fun v4 T8 => ?_)
    refine zV_aload_n (i := 0) (n := 74) C dX9_book_73 rfl rfl rfl ?_
    refine zV_aload_n (i := 0) (n := 75) C dX9_book_74 rfl rfl rfl ?_
    refine zV_getP (f := 16) (n := 78) C zk8 fX9_37 dX9_book_75 zs_ref rfl (by decide) rfl ?_
    refine zV_iload_n (i := 1) (n := 79) C dX9_book_78 rfl rfl rfl ?_
    refine zV_iald (n := 80) C dX9_book_79 zs_sizeOf (by first | omega | exact zb_rg) (by decide) rfl ?_
    rw [show (zset (zset (zset μ 5 4 (μ 5 1)) 5 1 T8) 5 11 (rBook x (40 * j) ((μ 5 10) j).toNat 0 (μ 5 1) (μ 5 11))) 5 10 = μ 5 10 from by rw [zset_ne (by decide), zset_ne (by decide), zset_ne (by decide)]]
    refine zV_callV1u (n := 83) C zk8 jX9_takesBack lX9_157 (m_takesBack (d := d)) dX9_book_80 zs_ref rfl (Nat.le_of_ble_eq_true rfl) (zfit_of (by omega) (by decide)) ⟨Nat.le_refl _, Nat.le_refl _⟩ rfl ?_
    rw [zset_swap (by decide), show zset (zset (zset μ 5 4 (μ 5 1)) 5 1 T8) 5 11 (rBook x (40 * j) ((μ 5 10) j).toNat 0 (μ 5 1) (μ 5 11)) 5 4 = μ 5 1 from by rw [zset_ne (by decide), zset_ne (by decide), zset_at], zset_old (by decide)]
    exact zV_ireturn C hr hlk dX9_book_83 (by first | exact congrArg (fun z => some (Value.int (zi z))) (zif_t (by omega) rfl)) (by exact zif_t (by omega) rfl)
  · skip
    refine zV_aload_n (i := 0) (n := 12) C dX9_book_11 rfl rfl rfl ?_
    refine zV_iload_n (i := 3) (n := 13) C dX9_book_12 rfl rfl rfl ?_
    refine zV_callV1u (n := 16) C zk8 jX9_finds lX9_75 (m_finds (d := d) (by omega)) dX9_book_13 zs_ref rfl (Nat.le_of_ble_eq_true rfl) (zfit_of (by omega) (by decide)) ⟨Nat.le_refl _, Nat.le_refl _⟩ rfl ?_
    exact zV_ireturn C hr hlk dX9_book_16 (by first | exact congrArg (fun z => some (Value.int (zi z))) (zif_t (by omega) (rfl)) | exact congrArg (fun z => some (Value.int (zi z))) (zif_f (by omega) rfl)) (by first | exact zif_t (by omega) (rfl) | exact zif_f (by omega) rfl)

set_option maxRecDepth 100000 in
set_option maxHeartbeats 4000000 in
theorem m_isBook_loop {Γ : zC} {l : Launch} {d : Nat} {p : Program} {e : Env} {s : State} {m : MethodId} {args : Array Value} {below : List Frame} {meth : Method} {c : Code} {Q : State → Prop} (C : zCx Γ (zAA Γ) p s m args c RX9 cX9_isBook 4) {μ : zMem} (hS : rSh (μ 5 9) (μ 5 10) (μ 5 11)) {j x : Int} (hj : 0 ≤ j ∧ j < 4) (hx : 0 ≤ x ∧ x < 6) :
    ∀ (i : Nat) (k N : Int) (T : Int → Int) (JT : rInv N T) (hN : N + i ≤ 20000) (h0 : 0 ≤ k) (hi : k + i = (μ 5 10) j) (K1 : rIb (μ 5 11) x (40 * j) i k T = 1 → ∀ v3 : Int, zV Γ (zAA Γ) p l e (zRm (d + 6)) s m args below meth c 0 0 Q 47 [.ref (za Γ 5 0), .int (zi j), .int (zi x), .int (zi v3)] [.int (zi 1)] (zset μ 5 1 (rIbS (μ 5 11) x (40 * j) i k T))) (K0 : rIb (μ 5 11) x (40 * j) i k T = 0 → ∀ v3 : Int, zV Γ (zAA Γ) p l e (zRm (d + 6)) s m args below meth c 0 0 Q 35 [.ref (za Γ 5 0), .int (zi j), .int (zi x), .int (zi v3)] [.int (zi 0)] (zset μ 5 1 (rIbS (μ 5 11) x (40 * j) i k T))), zV Γ (zAA Γ) p l e (zRm (d + 6)) s m args below meth c 0 0 Q 2 [.ref (za Γ 5 0), .int (zi j), .int (zi x), .int (zi k)] [] (zset μ 5 1 T) := by
  intro i
  induction i with
  | zero =>
    intro k N T JT hN h0 hi K1 K0
    have hq := hS.1 j hj.1 hj.2
    have hc := JT.2.2.2.2.2.1 x hx.1 hx.2
    have hk : k = μ 5 10 j := by omega
    subst hk
    refine zV_iload_n (i := 3) (n := 3) C dX9_isBook_2 rfl rfl rfl ?_
    refine zV_aload_n (i := 0) (n := 4) C dX9_isBook_3 rfl rfl rfl ?_
    refine zV_getP (f := 16) (n := 7) C zk8 fX9_37 dX9_isBook_4 zs_ref rfl (by decide) rfl ?_
    refine zV_iload_n (i := 1) (n := 8) C dX9_isBook_7 rfl rfl rfl ?_
    refine zV_iald (n := 9) C dX9_isBook_8 zs_sizeOf (by omega) (by decide) rfl ?_
    rw [show zset μ 5 1 T 5 10 = μ 5 10 from zset_ne (by decide)]
    refine zV_icmp_ge (n := 12) C 46 dX9_isBook_9 (by decide) (by omega) (by omega) rfl (fun h9 => ?_) (fun h => by exfalso; omega)
    refine zV_iconst (n := 47) C dX9_isBook_46 rfl ?_
    exact K1 rfl _
  | succ i ih =>
    intro k N T JT hN h0 hi K1 K0
    have hq := hS.1 j hj.1 hj.2
    have hc := JT.2.2.2.2.2.1 x hx.1 hx.2
    have hv := hS.2 (40 * j + k) (by omega) (by omega)
    refine zV_iload_n (i := 3) (n := 3) C dX9_isBook_2 rfl rfl rfl ?_
    refine zV_aload_n (i := 0) (n := 4) C dX9_isBook_3 rfl rfl rfl ?_
    refine zV_getP (f := 16) (n := 7) C zk8 fX9_37 dX9_isBook_4 zs_ref rfl (by decide) rfl ?_
    refine zV_iload_n (i := 1) (n := 8) C dX9_isBook_7 rfl rfl rfl ?_
    refine zV_iald (n := 9) C dX9_isBook_8 zs_sizeOf (by first | omega | exact zb_rg) (by decide) rfl ?_
    rw [show zset μ 5 1 T 5 10 = μ 5 10 from zset_ne (by decide)]
    refine zV_icmp_ge (n := 12) C 46 dX9_isBook_9 (by decide) (by first | omega | exact zb_rg) (by first | omega | exact zb_rg) rfl (fun h => by exfalso; first | omega | exact zb_rg) (fun h9 => ?_)
    refine zV_aload_n (i := 0) (n := 13) C dX9_isBook_12 rfl rfl rfl ?_
    refine zV_getP (f := 17) (n := 16) C zk8 fX9_40 dX9_isBook_13 zs_ref rfl (by decide) rfl ?_
    refine zV_bipush (n := 18) C dX9_isBook_16 (by decide) rfl ?_
    refine zV_iload_n (i := 1) (n := 19) C dX9_isBook_18 rfl rfl rfl ?_
    refine zV_imul (n := 20) C dX9_isBook_19 rfl ?_
    refine zV_iload_n (i := 3) (n := 21) C dX9_isBook_20 rfl rfl rfl ?_
    refine zV_iadd (n := 22) C dX9_isBook_21 rfl ?_
    refine zV_lald (n := 23) C dX9_isBook_22 zs_numbers (by first | omega | exact zb_rg) (by decide) rfl ?_
    rw [show zset μ 5 1 T 5 11 = μ 5 11 from zset_ne (by decide)]
    refine zV_aload_n (i := 0) (n := 24) C dX9_isBook_23 rfl rfl rfl ?_
    refine zV_iload_n (i := 2) (n := 25) C dX9_isBook_24 rfl rfl rfl ?_
    refine zV_iconst (n := 26) C dX9_isBook_25 rfl ?_
    refine zV_callV2u (n := 29) C zk8 jX9_told lX9_94 (m_told (d := d) (by omega)) dX9_isBook_26 zs_ref rfl (Nat.le_of_ble_eq_true rfl) (zfit_of (by omega) (by decide)) ⟨Nat.le_refl _, Nat.le_refl _⟩ rfl ?_
    simp only [zset_at]
    refine zV_i2l (n := 30) C dX9_isBook_29 (by first | omega | exact zb_rg) rfl ?_
    refine zV_lcmp_eq (n := 34) C 36 dX9_isBook_30 dX9_isBook_31 (by decide) (by first | omega | exact zb_rg) (by first | omega | exact zb_rg) rfl (fun h30 => ?_) (fun h30 => ?_)
    · skip
      have I : rInv N (zset μ 5 1 T 5 1) := by rw [zset_at]; exact JT
      refine zV_aload_n (i := 0) (n := 37) C dX9_isBook_36 rfl rfl rfl ?_
      refine zV_callV0v (n := 40) C zk8 jX9_minute lX9_139 (m_minute (d := d) I (by omega)) dX9_isBook_37 zs_ref rfl (Nat.le_of_ble_eq_true rfl) (zfit_of (by omega) (by decide)) ⟨Nat.le_refl _, Nat.le_refl _⟩ rfl ?_
      rw [zset_set, zset_at]
      refine zS_iinc_4_3 (n := 43) C dX9_isBook_40 rfl rfl ?_
      refine zV_goto C 2 dX9_isBook_43 (by decide) ?_
      refine ih (k + 1) (N + 1) (rMin T) (rMin_inv JT) (by omega) (by omega) (by omega) (fun q v3 => ?_) (fun q v3 => ?_)
      · exact Eq.mp (by rw [show rIbS (μ 5 11) x (40 * j) (i + 1) k T = rIbS (μ 5 11) x (40 * j) i (k + 1) (rMin T) from by rw [rIbS]; exact if_pos h30]) (K1 (by rw [rIb, if_pos h30]; exact q) v3)
      · exact Eq.mp (by rw [show rIbS (μ 5 11) x (40 * j) (i + 1) k T = rIbS (μ 5 11) x (40 * j) i (k + 1) (rMin T) from by rw [rIbS]; exact if_pos h30]) (K0 (by rw [rIb, if_pos h30]; exact q) v3)
    · skip
      refine zV_iconst (n := 35) C dX9_isBook_34 rfl ?_
      exact Eq.mp (by rw [show rIbS (μ 5 11) x (40 * j) (i + 1) k T = T from by rw [rIbS]; exact if_neg h30]) (K0 (by rw [rIb]; exact if_neg h30) k)

set_option maxRecDepth 100000 in
set_option maxHeartbeats 4000000 in
theorem m_isBook {Γ : zC} {l : Launch} {d : Nat} {μ : zMem} {N : Int} (I : rInv N (μ 5 1)) (hN : N ≤ 10000) (hS : rSh (μ 5 9) (μ 5 10) (μ 5 11)) {j x : Int} (hj : 0 ≤ j ∧ j < 4) (hx : 0 ≤ x ∧ x < 6) : zRet Γ l (d + 6) qX9_isBook [.ref (za Γ 5 0), .int (zi j), .int (zi x)] μ (some (.int (zi (rIb (μ 5 11) x (40 * j) ((μ 5 10) j).toNat 0 (μ 5 1))))) (zset μ 5 1 (rIbS (μ 5 11) x (40 * j) ((μ 5 10) j).toNat 0 (μ 5 1))) := by
  refine zRet.mk 1 [.ref (za Γ 5 0), .int (zi j), .int (zi x), .null] RX9 rfl (by decide +kernel) (Nat.le_of_ble_eq_true rfl) rfl ?_
  intro p e s m below meth c C hr hlk
  refine zV_iconst (n := 1) C dX9_isBook_0 rfl ?_
  refine zS_istore_n_4_3 (n := 2) C dX9_isBook_1 rfl rfl ?_
  have hq := hS.1 j hj.1 hj.2
  refine zV_eqm (μ' := zset μ 5 1 (μ 5 1)) zset_self.symm ?_
  refine m_isBook_loop C hS hj hx ((μ 5 10) j).toNat 0 N (μ 5 1) I (by omega) (by omega) (by omega) (fun q v3 => ?_) (fun q v3 => ?_)
  · exact zV_zreturn C hr hlk dX9_isBook_47 rfl (congrArg (fun z => some (Value.int (zi z))) q.symm) rfl
  · exact zV_zreturn C hr hlk dX9_isBook_35 rfl (congrArg (fun z => some (Value.int (zi z))) q.symm) rfl

set_option maxRecDepth 100000 in
set_option maxHeartbeats 4000000 in
theorem m_read_loop {Γ : zC} {l : Launch} {d : Nat} {p : Program} {e : Env} {s : State} {m : MethodId} {args : Array Value} {below : List Frame} {meth : Method} {c : Code} {Q : State → Prop} (C : zCx Γ (zAA Γ) p s m args c RX9 cX9_read 7) {μ : zMem} {N : Int} (J : rInv N (μ 5 1)) (hN : N ≤ 10000) (hS : rSh (μ 5 9) (μ 5 10) (μ 5 11)) {j x w tg : Int} (htg : tg = 1 ∨ tg = 10) (hj : 0 ≤ j ∧ j < 4) (hx : 0 ≤ x ∧ x < 6) :
    ∀ (i : Nat) (q n : Int) (h0 : 0 ≤ q) (hi : q + i = 6 * tg) (KK : zV Γ (zAA Γ) p l e (zRm (d + 7)) s m args below meth c 0 0 Q 112 [.ref (za Γ 5 0), .int (zi j), .int (zi x), .int (zi w), .int (zi tg), .int (zi (rRd (μ 5 11) x (40 * j) tg ((μ 5 10) j).toNat (μ 5 1) i q n)), .int (zi (6 * tg))] [] (zset μ 5 4 (μ 5 1))), zV Γ (zAA Γ) p l e (zRm (d + 7)) s m args below meth c 0 0 Q 43 [.ref (za Γ 5 0), .int (zi j), .int (zi x), .int (zi w), .int (zi tg), .int (zi n), .int (zi q)] [] (zset μ 5 4 (μ 5 1)) := by
  intro i
  induction i with
  | zero =>
    intro q n h0 hi KK
    have hk : q = 6 * tg := by omega
    subst hk
    refine zV_iload (n := 45) C dX9_read_43 rfl rfl ?_
    refine zV_bipush (n := 47) C dX9_read_45 (by decide) rfl ?_
    refine zV_iload (n := 49) C dX9_read_47 rfl rfl ?_
    refine zV_imul (n := 50) C dX9_read_49 rfl ?_
    refine zV_icmp_ge (n := 53) C 112 dX9_read_50 (by decide) (by omega) (by omega) rfl (fun h50 => ?_) (fun h => by exfalso; omega)
    exact KK
  | succ i ih =>
    intro q n h0 hi KK
    have hlt : q < 6 * tg := by omega
    have hrg := rIb_rg (M := (μ 5 11)) (x := x) (a := (40 * j)) (i := ((μ 5 10) j).toNat) (k := 0) (S := (zfu (zfu (μ 5 1) (19 + 6 * x + 0) (q / tg)) (19 + 6 * x + 5) (q % tg)))
    have hdm : 0 ≤ q / tg ∧ q / tg ≤ 5 ∧ 0 ≤ q % tg ∧ q % tg ≤ 9 := by rcases htg with rfl | rfl <;> omega
    have JQ : rInv N (zfu (zfu (μ 5 1) (19 + 6 * x + 0) (q / tg)) (19 + 6 * x + 5) (q % tg)) := rInv_kid (rInv_kid J hx (by omega) (by simp; omega)) hx (by omega) (by simp; omega)
    have hmul : q < 6 * tg := by omega
    refine zV_iload (n := 45) C dX9_read_43 rfl rfl ?_
    refine zV_bipush (n := 47) C dX9_read_45 (by decide) rfl ?_
    refine zV_iload (n := 49) C dX9_read_47 rfl rfl ?_
    refine zV_imul (n := 50) C dX9_read_49 rfl ?_
    refine zV_icmp_ge (n := 53) C 112 dX9_read_50 (by decide) (by first | omega | exact zb_rg) (by first | omega | exact zb_rg) rfl (fun h => by exfalso; first | omega | exact zb_rg) (fun h50 => ?_)
    refine zV_aload_n (i := 0) (n := 54) C dX9_read_53 rfl rfl rfl ?_
    refine zV_getP (f := 0) (n := 57) C zk8 fX9_7 dX9_read_54 zs_ref rfl (by decide) rfl ?_
    refine zV_iload_n (i := 2) (n := 58) C dX9_read_57 rfl rfl rfl ?_
    refine zV_iconst (n := 59) C dX9_read_58 rfl ?_
    refine zV_callS2u (n := 62) C jX9_placeOf lX9_60 (m_placeOf (d := d) ) dX9_read_59 (Nat.le_of_ble_eq_true rfl) (zfit_of (by omega) (by decide)) ⟨Nat.le_refl _, Nat.le_refl _⟩ rfl ?_
    refine zV_iload (n := 64) C dX9_read_62 rfl rfl ?_
    refine zV_iload (n := 66) C dX9_read_64 rfl rfl ?_
    refine zV_idiv (n := 67) C dX9_read_66 (by first | omega | exact zb_rg) (by first | omega | exact zb_rg) rfl ?_
    refine zV_iast (n := 68) C dX9_read_67 zs_s (by first | omega | exact zb_rg) (by decide) rfl ?_
    rw [zup_zset, show zset μ 5 4 (μ 5 1) 5 1 = μ 5 1 from zset_ne (by decide)]
    refine zV_aload_n (i := 0) (n := 69) C dX9_read_68 rfl rfl rfl ?_
    refine zV_getP (f := 0) (n := 72) C zk8 fX9_7 dX9_read_69 zs_ref rfl (by decide) rfl ?_
    refine zV_iload_n (i := 2) (n := 73) C dX9_read_72 rfl rfl rfl ?_
    refine zV_iconst (n := 74) C dX9_read_73 rfl ?_
    refine zV_callS2u (n := 77) C jX9_placeOf lX9_60 (m_placeOf (d := d) ) dX9_read_74 (Nat.le_of_ble_eq_true rfl) (zfit_of (by omega) (by decide)) ⟨Nat.le_refl _, Nat.le_refl _⟩ rfl ?_
    refine zV_iload (n := 79) C dX9_read_77 rfl rfl ?_
    refine zV_iload (n := 81) C dX9_read_79 rfl rfl ?_
    refine zV_irem (n := 82) C dX9_read_81 (by first | omega | exact zb_rg) (by first | omega | exact zb_rg) rfl ?_
    refine zV_iast (n := 83) C dX9_read_82 zs_s (by first | omega | exact zb_rg) (by decide) rfl ?_
    rw [zup_set]
    have I : rInv N ((zset (zset μ 5 4 (μ 5 1)) 5 1 (zfu (zfu (μ 5 1) (19 + 6 * x + 0) (q / tg)) (19 + 6 * x + 5) (q % tg))) 5 1) := by rw [zset_at]; exact JQ
    have hS2 : rSh ((zset (zset μ 5 4 (μ 5 1)) 5 1 (zfu (zfu (μ 5 1) (19 + 6 * x + 0) (q / tg)) (19 + 6 * x + 5) (q % tg))) 5 9) ((zset (zset μ 5 4 (μ 5 1)) 5 1 (zfu (zfu (μ 5 1) (19 + 6 * x + 0) (q / tg)) (19 + 6 * x + 5) (q % tg))) 5 10) ((zset (zset μ 5 4 (μ 5 1)) 5 1 (zfu (zfu (μ 5 1) (19 + 6 * x + 0) (q / tg)) (19 + 6 * x + 5) (q % tg))) 5 11) := hS
    refine zV_aload_n (i := 0) (n := 84) C dX9_read_83 rfl rfl rfl ?_
    refine zV_iload (n := 86) C dX9_read_84 rfl rfl ?_
    refine zV_aload_n (i := 0) (n := 87) C dX9_read_86 rfl rfl rfl ?_
    refine zV_iload_n (i := 1) (n := 88) C dX9_read_87 rfl rfl rfl ?_
    refine zV_iload_n (i := 2) (n := 89) C dX9_read_88 rfl rfl rfl ?_
    refine zV_callV2u (n := 92) C zk8 jX9_isBook lX9_312 (m_isBook (d := d) I hN hS2 hj hx) dX9_read_89 zs_ref rfl (Nat.le_of_ble_eq_true rfl) (zfit_of (by omega) (by decide)) ⟨Nat.le_refl _, Nat.le_refl _⟩ rfl ?_
    rw [show (zset (zset μ 5 4 (μ 5 1)) 5 1 (zfu (zfu (μ 5 1) (19 + 6 * x + 0) (q / tg)) (19 + 6 * x + 5) (q % tg))) 5 11 = (μ 5 11) from rfl, show (zset (zset μ 5 4 (μ 5 1)) 5 1 (zfu (zfu (μ 5 1) (19 + 6 * x + 0) (q / tg)) (19 + 6 * x + 5) (q % tg))) 5 10 = (μ 5 10) from rfl, zset_at, zset_set]
    refine zV_if_eq (n := 95) C 99 dX9_read_92 (by decide) (by first | omega | exact zb_rg) rfl (fun h92 => ?_) (fun h92 => ?_)
    · skip
      refine zV_iconst (n := 100) C dX9_read_99 rfl ?_
      refine zV_iadd (n := 101) C dX9_read_100 rfl ?_
      refine zV_callV1u (n := 104) C zk8 jX9_takesBack lX9_157 (m_takesBack (d := d)) dX9_read_101 zs_ref rfl (Nat.le_of_ble_eq_true rfl) (zfit_of (by omega) (by decide)) ⟨Nat.le_refl _, Nat.le_refl _⟩ rfl ?_
      rw [zset_set, zset_ne (by decide), zset_at, zset_old (by decide)]
      refine zS_istore_7_5 (n := 106) C dX9_read_104 rfl rfl ?_
      refine zS_iinc_7_6 (n := 109) C dX9_read_106 rfl rfl ?_
      refine zV_goto C 43 dX9_read_109 (by decide) ?_
      rw [show rRd (μ 5 11) x (40 * j) tg ((μ 5 10) j).toNat (μ 5 1) (i + 1) q n = rRd (μ 5 11) x (40 * j) tg ((μ 5 10) j).toNat (μ 5 1) i (q + 1) (n + 0) from by rw [rRd, show rIb (μ 5 11) x (40 * j) ((μ 5 10) j).toNat 0 (zfu (zfu (μ 5 1) (19 + 6 * x + 0) (q / tg)) (19 + 6 * x + 5) (q % tg)) = 0 from by omega]] at KK
      exact ih (q + 1) _ (by omega) (by omega) KK
    · skip
      refine zV_iconst (n := 96) C dX9_read_95 rfl ?_
      refine zV_goto C 100 dX9_read_96 (by decide) ?_
      refine zV_iadd (n := 101) C dX9_read_100 rfl ?_
      refine zV_callV1u (n := 104) C zk8 jX9_takesBack lX9_157 (m_takesBack (d := d)) dX9_read_101 zs_ref rfl (Nat.le_of_ble_eq_true rfl) (zfit_of (by omega) (by decide)) ⟨Nat.le_refl _, Nat.le_refl _⟩ rfl ?_
      rw [zset_set, zset_ne (by decide), zset_at, zset_old (by decide)]
      refine zS_istore_7_5 (n := 106) C dX9_read_104 rfl rfl ?_
      refine zS_iinc_7_6 (n := 109) C dX9_read_106 rfl rfl ?_
      refine zV_goto C 43 dX9_read_109 (by decide) ?_
      rw [show rRd (μ 5 11) x (40 * j) tg ((μ 5 10) j).toNat (μ 5 1) (i + 1) q n = rRd (μ 5 11) x (40 * j) tg ((μ 5 10) j).toNat (μ 5 1) i (q + 1) (n + 1) from by rw [rRd, show rIb (μ 5 11) x (40 * j) ((μ 5 10) j).toNat 0 (zfu (zfu (μ 5 1) (19 + 6 * x + 0) (q / tg)) (19 + 6 * x + 5) (q % tg)) = 1 from by omega]] at KK
      exact ih (q + 1) _ (by omega) (by omega) KK

set_option maxRecDepth 100000 in
set_option maxHeartbeats 4000000 in
theorem m_read {Γ : zC} {l : Launch} {d : Nat} {μ : zMem} {N : Int} (I : rInv N (μ 5 1)) (hN : N ≤ 10000) (hS : rSh (μ 5 9) (μ 5 10) (μ 5 11)) {j : Int} (hj : -2147483648 ≤ j ∧ j ≤ 2147483647) {x : Int} (hx : -2147483648 ≤ x ∧ x ≤ 2147483647) : zRet Γ l (d + 7) qX9_read [.ref (za Γ 5 0), .int (zi j), .int (zi x)] μ (some (.int (zi (if rWbk (μ 5 9) (μ 5 1) j x = 0 then (rRd (μ 5 11) x (40 * j) (if rAt (μ 5 1) x < 0 then (1 : Int) else 10) ((μ 5 10) j).toNat (μ 5 1) (6 * (if rAt (μ 5 1) x < 0 then (1 : Int) else 10)).toNat 0 0) else rWbk (μ 5 9) (μ 5 1) j x)))) (if rWbk (μ 5 9) (μ 5 1) j x = 0 then zset μ 5 4 (μ 5 1) else zset μ 5 5 (rFind (μ 5 5) (rWbk (μ 5 9) (μ 5 1) j x))) := by
  refine zRet.mk 4 [.ref (za Γ 5 0), .int (zi j), .int (zi x), .null, .null, .null, .null] RX9 rfl (by decide +kernel) (Nat.le_of_ble_eq_true rfl) rfl ?_
  intro p e s m below meth c C hr hlk
  have I2 := I
  have h0 := I.1
  have hw := rWbk_rg (μ 5 9) (μ 5 1) j x
  have ha := rAt_rg (μ 5 1) x
  refine zV_aload_n (i := 0) (n := 1) C dX9_read_0 rfl rfl rfl ?_
  refine zV_iload_n (i := 1) (n := 2) C dX9_read_1 rfl rfl rfl ?_
  refine zV_iload_n (i := 2) (n := 3) C dX9_read_2 rfl rfl rfl ?_
  refine zV_callV2u (n := 6) C zk8 jX9_wrongBook lX9_309 (m_wrongBook (d := d) I hS (by omega) (by omega)) dX9_read_3 zs_ref rfl (Nat.le_of_ble_eq_true rfl) (zfit_of (by omega) (by decide)) ⟨Nat.le_refl _, Nat.le_refl _⟩ rfl ?_
  refine zS_istore_n_7_3 (n := 7) C dX9_read_6 rfl rfl ?_
  refine zV_iload_n (i := 3) (n := 8) C dX9_read_7 rfl rfl rfl ?_
  refine zV_if_eq (n := 11) C 17 dX9_read_8 (by decide) (by first | omega | exact zb_rg) rfl (fun h8 => ?_) (fun h8 => ?_)
  · skip
    refine zV_aload_n (i := 0) (n := 18) C dX9_read_17 rfl rfl rfl ?_
    refine zV_iload_n (i := 2) (n := 19) C dX9_read_18 rfl rfl rfl ?_
    refine zV_callV1u (n := 22) C zk8 jX9_seatedAt lX9_91 (m_seatedAt (d := d) I (by omega)) dX9_read_19 zs_ref rfl (Nat.le_of_ble_eq_true rfl) (zfit_of (by omega) (by decide)) ⟨Nat.le_refl _, Nat.le_refl _⟩ rfl ?_
    refine zV_if_ge (n := 25) C 29 dX9_read_22 (by decide) (by first | omega | exact zb_rg) rfl (fun h22 => ?_) (fun h22 => ?_)
    · skip
      refine zV_bipush (n := 31) C dX9_read_29 (by decide) rfl ?_
      refine zS_istore_7_4 (n := 33) C dX9_read_31 rfl rfl ?_
      refine zV_aload_n (i := 0) (n := 34) C dX9_read_33 rfl rfl rfl ?_
      refine zV_callV0v (n := 37) C zk8 jX9_laysAside lX9_154 (m_laysAside (d := d)) dX9_read_34 zs_ref rfl (Nat.le_of_ble_eq_true rfl) (zfit_of (by omega) (by decide)) ⟨Nat.le_refl _, Nat.le_refl _⟩ rfl ?_
      refine zV_iconst (n := 38) C dX9_read_37 rfl ?_
      refine zS_istore_7_5 (n := 40) C dX9_read_38 rfl rfl ?_
      refine zV_iconst (n := 41) C dX9_read_40 rfl ?_
      refine zS_istore_7_6 (n := 43) C dX9_read_41 rfl rfl ?_
      have hj := rWbk_0 h8
      have hq := hS.1 j hj.1.1 hj.1.2
      have et : (if rAt (μ 5 1) x < 0 then (1 : Int) else 10) = 10 := if_neg (by omega)
      refine m_read_loop C I2 hN hS (tg := 10) (by omega) hj.1 (by omega) 60 0 0 (by omega) (by omega) ?_
      refine zV_iload (n := 114) C dX9_read_112 rfl rfl ?_
      exact zV_ireturn C hr hlk dX9_read_114 (congrArg (fun z => some (Value.int (zi z))) (zif_t h8 (by rw [et]; rfl))) (zif_t h8 rfl)
    · skip
      refine zV_iconst (n := 26) C dX9_read_25 rfl ?_
      refine zV_goto C 31 dX9_read_26 (by decide) ?_
      refine zS_istore_7_4 (n := 33) C dX9_read_31 rfl rfl ?_
      refine zV_aload_n (i := 0) (n := 34) C dX9_read_33 rfl rfl rfl ?_
      refine zV_callV0v (n := 37) C zk8 jX9_laysAside lX9_154 (m_laysAside (d := d)) dX9_read_34 zs_ref rfl (Nat.le_of_ble_eq_true rfl) (zfit_of (by omega) (by decide)) ⟨Nat.le_refl _, Nat.le_refl _⟩ rfl ?_
      refine zV_iconst (n := 38) C dX9_read_37 rfl ?_
      refine zS_istore_7_5 (n := 40) C dX9_read_38 rfl rfl ?_
      refine zV_iconst (n := 41) C dX9_read_40 rfl ?_
      refine zS_istore_7_6 (n := 43) C dX9_read_41 rfl rfl ?_
      have hj := rWbk_0 h8
      have hq := hS.1 j hj.1.1 hj.1.2
      have et : (if rAt (μ 5 1) x < 0 then (1 : Int) else 10) = 1 := if_pos h22
      refine m_read_loop C I2 hN hS (tg := 1) (by omega) hj.1 (by omega) 6 0 0 (by omega) (by omega) ?_
      refine zV_iload (n := 114) C dX9_read_112 rfl rfl ?_
      exact zV_ireturn C hr hlk dX9_read_114 (congrArg (fun z => some (Value.int (zi z))) (zif_t h8 (by rw [et]; rfl))) (zif_t h8 rfl)
  · skip
    refine zV_aload_n (i := 0) (n := 12) C dX9_read_11 rfl rfl rfl ?_
    refine zV_iload_n (i := 3) (n := 13) C dX9_read_12 rfl rfl rfl ?_
    refine zV_callV1u (n := 16) C zk8 jX9_finds lX9_75 (m_finds (d := d) (by omega)) dX9_read_13 zs_ref rfl (Nat.le_of_ble_eq_true rfl) (zfit_of (by omega) (by decide)) ⟨Nat.le_refl _, Nat.le_refl _⟩ rfl ?_
    exact zV_ireturn C hr hlk dX9_read_16 (by first | exact congrArg (fun z => some (Value.int (zi z))) (zif_t (by omega) (rfl)) | exact congrArg (fun z => some (Value.int (zi z))) (zif_f (by omega) rfl)) (by first | exact zif_t (by omega) (rfl) | exact zif_f (by omega) rfl)

set_option maxRecDepth 100000 in
set_option maxHeartbeats 4000000 in
theorem m_feed_loop {Γ : zC} {l : Launch} {d : Nat} {p : Program} {e : Env} {s : State} {m : MethodId} {args : Array Value} {below : List Frame} {meth : Method} {c : Code} {Q : State → Prop} (C : zCx Γ (zAA Γ) p s m args c RX9 cX9_feed 4) {μ : zMem} {b : Int32} {n : Int} :
    ∀ (i : Nat) (T : Int → Int) (q : Int) (hq : 0 ≤ q ∧ q + i ≤ 120) (KK : zV Γ (zAA Γ) p l e (zRm (d + 1)) s m args below meth c 0 0 Q 80 [.ref (za Γ 5 0), .int b, .int (zi n), .int (zi (-1))] [] (zset (zset μ 5 8 (rFeed b i T q)) 5 0 (zfu (μ 5 0) 10 (q + i)))), zV Γ (zAA Γ) p l e (zRm (d + 1)) s m args below meth c 0 0 Q 41 [.ref (za Γ 5 0), .int b, .int (zi n), .int (zi ((i : Int) - 1))] [] (zset (zset μ 5 8 T) 5 0 (zfu (μ 5 0) 10 q)) := by
  intro i
  induction i with
  | zero =>
    intro T q hq KK
    rw [show q + ((0 : Nat) : Int) = q from by omega] at KK
    rw [show (((0 : Nat) : Int) - 1) = -1 from by omega]
    refine zV_iload_n (i := 3) (n := 42) C dX9_feed_41 rfl rfl rfl ?_
    refine zV_if_lt (n := 45) C 80 dX9_feed_42 (by decide) (by first | omega | exact zb_rg) rfl (fun h42 => ?_) (fun h => by exfalso; first | omega | exact zb_rg)
    exact KK
  | succ i ih =>
    intro T q hq KK
    rw [show (((i + 1 : Nat) : Int) - 1) = (i : Int) from by omega]
    refine zV_iload_n (i := 3) (n := 42) C dX9_feed_41 rfl rfl rfl ?_
    refine zV_if_lt (n := 45) C 80 dX9_feed_42 (by decide) (by first | omega | exact zb_rg) rfl (fun h => by exfalso; first | omega | exact zb_rg) (fun h42 => ?_)
    refine zV_aload_n (i := 0) (n := 46) C dX9_feed_45 rfl rfl rfl ?_
    refine zV_getP (f := 9) (n := 49) C zk8 fX9_31 dX9_feed_46 zs_ref rfl (by decide) rfl ?_
    refine zV_aload_n (i := 0) (n := 50) C dX9_feed_49 rfl rfl rfl ?_
    refine zV_getI (f := 10) (fi := 10) (n := 53) C zk8 fX9_190 dX9_feed_50 zs_ref rfl (by decide) rfl rfl ?_
    rw [show (zset (zset μ 5 8 T) 5 0 (zfu (μ 5 0) 10 q)) 5 0 10 = q from by rw [zset_at, zfu_at]]
    refine zV_iload_n (i := 1) (n := 54) C dX9_feed_53 rfl rfl rfl ?_
    refine zV_bipush (n := 56) C dX9_feed_54 (by decide) rfl ?_
    refine zV_iload_n (i := 3) (n := 57) C dX9_feed_56 rfl rfl rfl ?_
    refine zV_imul (n := 58) C dX9_feed_57 rfl ?_
    refine zV_ishr0 (n := 59) C dX9_feed_58 rfl ?_
    refine zV_sipush (n := 62) C dX9_feed_59 (by decide) rfl ?_
    refine zV_iand (n := 63) C dX9_feed_62 (zi_of _).symm rfl ?_
    refine zV_iast (n := 64) C dX9_feed_63 zs_rtape (by first | omega | exact zb_rg) (by decide) rfl ?_
    refine zV_eqm (μ' := (zset (zset μ 5 8 (zfu T q (rByte b (i : Int)))) 5 0 (zfu (μ 5 0) 10 q))) (by rw [zup_zset, zset_swap (by decide), zset_ne (by decide), zset_at]; rfl) ?_
    refine zV_aload_n (i := 0) (n := 65) C dX9_feed_64 rfl rfl rfl ?_
    refine zV_dup (n := 66) C dX9_feed_65 rfl rfl ?_
    refine zV_getI (f := 10) (fi := 10) (n := 69) C zk8 fX9_190 dX9_feed_66 zs_ref rfl (by decide) rfl rfl ?_
    rw [show zset (zset μ 5 8 (zfu T q (rByte b (i : Int)))) 5 0 (zfu (μ 5 0) 10 q) 5 0 10 = q from by rw [zset_at, zfu_at]]
    refine zV_iconst (n := 70) C dX9_feed_69 rfl ?_
    refine zV_iadd (n := 71) C dX9_feed_70 rfl ?_
    refine zV_putI (f := 10) (fi := 10) (n := 74) C zk8 fX9_190 dX9_feed_71 zs_ref rfl (by decide) rfl rfl rfl rfl ?_
    rw [zup_set, zfu_fu]
    refine zS_iinc_4_3 (n := 77) C dX9_feed_74 rfl rfl ?_
    refine zV_goto C 41 dX9_feed_77 (by decide) ?_
    rw [show (i : Int) + -1 = (i : Int) - 1 from by omega]
    refine ih _ _ (by omega) ?_
    rw [show q + 1 + (i : Int) = q + ((i + 1 : Nat) : Int) from by omega]
    exact KK

set_option maxRecDepth 100000 in
set_option maxHeartbeats 4000000 in
theorem m_feed {Γ : zC} {l : Launch} {d : Nat} {μ : zMem} (h10 : 0 ≤ μ 5 0 10 ∧ μ 5 0 10 ≤ 120) {b : Int32} {n : Int} (hn : -2147483648 ≤ n ∧ n ≤ 2147483647) : zRet Γ l (d + 1) qX9_feed [.ref (za Γ 5 0), .int b, .int (zi n)] μ (some (.int (zi (if (1 ≤ n ∧ n ≤ 4) then (if (μ 5 0 10 + n ≤ 120) then μ 5 0 10 + n else -1000000002) else -1000000001)))) (if (1 ≤ n ∧ n ≤ 4) then (if (μ 5 0 10 + n ≤ 120) then (zset (zset μ 5 8 (rFeed b n.toNat (μ 5 8) (μ 5 0 10))) 5 0 (zfu (μ 5 0) 10 (μ 5 0 10 + n))) else zset μ 5 5 (rFind (μ 5 5) (-1000000002))) else zset μ 5 5 (rFind (μ 5 5) (-1000000001))) := by
  refine zRet.mk 1 [.ref (za Γ 5 0), .int b, .int (zi n), .null] RX9 rfl (by decide +kernel) (Nat.le_of_ble_eq_true rfl) rfl ?_
  intro p e s m below meth c C hr hlk
  refine zV_iload_n (i := 2) (n := 1) C dX9_feed_0 rfl rfl rfl ?_
  refine zV_i2l (n := 2) C dX9_feed_1 (by first | omega | exact zb_rg) rfl ?_
  refine zV_lconst (v := 1) (n := 3) C dX9_feed_2 rfl rfl ?_
  refine zV_ldc2 (n := 6) C dX9_feed_3 kX9_79 rfl ?_
  refine zV_callS3u (n := 9) C jX9_in lX9_54 (m_in (d := d) (by omega) (by omega) (by omega)) dX9_feed_6 (Nat.le_of_ble_eq_true rfl) (zfit_of (by omega) (by decide)) ⟨Nat.le_refl _, Nat.le_refl _⟩ rfl ?_
  refine zV_if_ne (n := 12) C 19 dX9_feed_9 (by decide) (by first | omega | exact zb_rg) rfl (fun h9 => ?_) (fun h9 => ?_)
  · skip
    simp only [zb_eq0, Decidable.not_not] at h9
    refine zV_aload_n (i := 0) (n := 20) C dX9_feed_19 rfl rfl rfl ?_
    refine zV_getI (f := 10) (fi := 10) (n := 23) C zk8 fX9_190 dX9_feed_20 zs_ref rfl (by decide) rfl rfl ?_
    refine zV_iload_n (i := 2) (n := 24) C dX9_feed_23 rfl rfl rfl ?_
    refine zV_iadd (n := 25) C dX9_feed_24 rfl ?_
    refine zV_bipush (n := 27) C dX9_feed_25 (by decide) rfl ?_
    refine zV_icmp_le (n := 30) C 37 dX9_feed_27 (by decide) (by first | omega | exact zb_rg) (by first | omega | exact zb_rg) rfl (fun h27 => ?_) (fun h27 => ?_)
    · skip
      refine zV_iload_n (i := 2) (n := 38) C dX9_feed_37 rfl rfl rfl ?_
      refine zV_iconst (n := 39) C dX9_feed_38 rfl ?_
      refine zV_isub (n := 40) C dX9_feed_39 rfl ?_
      refine zS_istore_n_4_3 (n := 41) C dX9_feed_40 rfl rfl ?_
      refine zV_eqm (μ' := (zset (zset μ 5 8 (μ 5 8)) 5 0 (zfu (μ 5 0) 10 (μ 5 0 10)))) (by rw [zfu_self (show μ 5 0 10 = μ 5 0 10 from rfl), zset_self, zset_self]) ?_
      have en : ((n.toNat : Nat) : Int) = n := Int.toNat_of_nonneg (by omega)
      refine Eq.mp (by rw [en]) (m_feed_loop (n := n) C n.toNat (μ 5 8) (μ 5 0 10) (by omega) ?_)
      rw [en]
      refine zV_aload_n (i := 0) (n := 81) C dX9_feed_80 rfl rfl rfl ?_
      refine zV_getI (f := 10) (fi := 10) (n := 84) C zk8 fX9_190 dX9_feed_81 zs_ref rfl (by decide) rfl rfl ?_
      rw [zset_at, zfu_at]
      exact zV_ireturn C hr hlk dX9_feed_84 (by first | exact congrArg (fun z => some (Value.int (zi z))) (zif_t (by omega) (zif_t (by omega) rfl))) (by exact zif_t (by omega) (zif_t (by omega) rfl))
    · skip
      refine zV_aload_n (i := 0) (n := 31) C dX9_feed_30 rfl rfl rfl ?_
      refine zV_ldc (n := 33) C dX9_feed_31 kX9_84 rfl ?_
      refine zV_callV1u (n := 36) C zk8 jX9_finds lX9_75 (m_finds (d := d) (by omega)) dX9_feed_33 zs_ref rfl (Nat.le_of_ble_eq_true rfl) (zfit_of (by omega) (by decide)) ⟨Nat.le_refl _, Nat.le_refl _⟩ rfl ?_
      exact zV_ireturn C hr hlk dX9_feed_36 (by first | exact congrArg (fun z => some (Value.int (zi z))) (zif_t (by omega) (zif_t (by omega) (rfl))) | exact congrArg (fun z => some (Value.int (zi z))) (zif_t (by omega) (zif_f (by omega) rfl)) | exact congrArg (fun z => some (Value.int (zi z))) (zif_f (by omega) rfl)) (by first | exact zif_t (by omega) (zif_t (by omega) (rfl)) | exact zif_t (by omega) (zif_f (by omega) rfl) | exact zif_f (by omega) rfl)
  · skip
    simp only [zb_eq0, Decidable.not_not] at h9
    refine zV_aload_n (i := 0) (n := 13) C dX9_feed_12 rfl rfl rfl ?_
    refine zV_ldc (n := 15) C dX9_feed_13 kX9_51 rfl ?_
    refine zV_callV1u (n := 18) C zk8 jX9_finds lX9_75 (m_finds (d := d) (by omega)) dX9_feed_15 zs_ref rfl (Nat.le_of_ble_eq_true rfl) (zfit_of (by omega) (by decide)) ⟨Nat.le_refl _, Nat.le_refl _⟩ rfl ?_
    exact zV_ireturn C hr hlk dX9_feed_18 (by first | exact congrArg (fun z => some (Value.int (zi z))) (zif_t (by omega) (zif_t (by omega) (rfl))) | exact congrArg (fun z => some (Value.int (zi z))) (zif_t (by omega) (zif_f (by omega) rfl)) | exact congrArg (fun z => some (Value.int (zi z))) (zif_f (by omega) rfl)) (by first | exact zif_t (by omega) (zif_t (by omega) (rfl)) | exact zif_t (by omega) (zif_f (by omega) rfl) | exact zif_f (by omega) rfl)

