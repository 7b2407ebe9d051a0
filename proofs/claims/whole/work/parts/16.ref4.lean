/-! the reference: rows laid aside, loops (laid by wip/whole/gen/ref4.py) -/
set_option maxRecDepth 100000 in
set_option maxHeartbeats 4000000 in
theorem m_laysAside_loop {Γ : zC} {l : Launch} {d : Nat} {p : Program} {e : Env} {s : State} {m : MethodId} {args : Array Value} {below : List Frame} {meth : Method} {c : Code} {Q : State → Prop} (C : zCx Γ (zAA Γ) p s m args c RX9 cX9_laysAside 2) {μ : zMem} (KK : zV Γ (zAA Γ) p l e (zRm (d + 0)) s m args below meth c 0 0 Q 26 [.ref (za Γ 5 0), .int (zi 55)] [] (zset μ 5 4 (fun j => if j < 55 then μ 5 1 j else μ 5 4 j))) :
    ∀ (i : Nat) (k : Int) (h0 : 0 ≤ k) (hi : k + i = 55), zV Γ (zAA Γ) p l e (zRm (d + 0)) s m args below meth c 0 0 Q 2 [.ref (za Γ 5 0), .int (zi k)] [] (zset μ 5 4 (fun j => if j < k then μ 5 1 j else μ 5 4 j)) := by
  intro i
  induction i with
  | zero =>
    intro k h0 hi
    have hk : k = 55 := by omega
    subst hk
    refine zV_iload_n (i := 1) (n := 3) C dX9_laysAside_2 rfl rfl rfl ?_
    refine zV_bipush (n := 5) C dX9_laysAside_3 (by decide) rfl ?_
    refine zV_icmp_ge (n := 8) C 26 dX9_laysAside_5 (by decide) (by omega) (by omega) rfl (fun h5 => ?_) (fun h => by exfalso; omega)
    exact KK
  | succ i ih =>
    intro k h0 hi
    refine zV_iload_n (i := 1) (n := 3) C dX9_laysAside_2 rfl rfl rfl ?_
    refine zV_bipush (n := 5) C dX9_laysAside_3 (by decide) rfl ?_
    refine zV_icmp_ge (n := 8) C 26 dX9_laysAside_5 (by decide) (by omega) (by omega) rfl (fun h => by exfalso; omega) (fun h5 => ?_)
    refine zV_aload_n (i := 0) (n := 9) C dX9_laysAside_8 rfl rfl rfl ?_
    refine zV_getP (f := 3) (n := 12) C zk8 fX9_19 dX9_laysAside_9 zs_ref rfl (by decide) rfl ?_
    refine zV_iload_n (i := 1) (n := 13) C dX9_laysAside_12 rfl rfl rfl ?_
    refine zV_aload_n (i := 0) (n := 14) C dX9_laysAside_13 rfl rfl rfl ?_
    refine zV_getP (f := 0) (n := 17) C zk8 fX9_7 dX9_laysAside_14 zs_ref rfl (by decide) rfl ?_
    refine zV_iload_n (i := 1) (n := 18) C dX9_laysAside_17 rfl rfl rfl ?_
    refine zV_iald (n := 19) C dX9_laysAside_18 zs_s (by omega) (by decide) rfl ?_
    rw [show zset μ 5 4 (fun j => if j < k then μ 5 1 j else μ 5 4 j) 5 1 = μ 5 1 from zset_ne (by decide)]
    refine zV_iast (n := 20) C dX9_laysAside_19 zs_aside (by omega) (by decide) rfl ?_
    rw [zup_set, zcp_step]
    refine zS_iinc_2_1 (n := 23) C dX9_laysAside_20 rfl rfl ?_
    refine zV_goto C 2 dX9_laysAside_23 (by decide) ?_
    exact ih (k + 1) (by omega) (by omega)

set_option maxRecDepth 100000 in
set_option maxHeartbeats 4000000 in
theorem m_laysAside {Γ : zC} {l : Launch} {d : Nat} {μ : zMem}  : zRet Γ l (d + 0) qX9_laysAside [.ref (za Γ 5 0)] μ none (zset μ 5 4 (μ 5 1)) := by
  refine zRet.mk 1 [.ref (za Γ 5 0), .null] RX9 rfl (by decide +kernel) (Nat.le_of_ble_eq_true rfl) rfl ?_
  intro p e s m below meth c C hr hlk
  refine zV_iconst (n := 1) C dX9_laysAside_0 rfl ?_
  refine zS_istore_n_2_1 (n := 2) C dX9_laysAside_1 rfl rfl ?_
  refine zV_mem (μ' := zset μ 5 4 (fun j => if j < 0 then μ 5 1 j else μ 5 4 j)) (by have h := zag_row (μ := μ) (F := μ 5 4) (G := (fun j => if j < 0 then μ 5 1 j else μ 5 4 j)) zs_aside (fun j g0 g1 => by rw [if_neg (by omega)]); rw [zset_self] at h; exact h) ?_
  refine m_laysAside_loop C ?_ 55 0 (by omega) (by omega)
  refine zV_mem (μ' := zset μ 5 4 (μ 5 1)) (zag_row zs_aside (fun j g0 g1 => by rw [if_pos (by simp only [zlenS] at g1; omega)])) ?_
  exact zV_return C hr hlk dX9_laysAside_26 rfl rfl

set_option maxRecDepth 100000 in
set_option maxHeartbeats 4000000 in
theorem m_saves_loop {Γ : zC} {l : Launch} {d : Nat} {p : Program} {e : Env} {s : State} {m : MethodId} {args : Array Value} {below : List Frame} {meth : Method} {c : Code} {Q : State → Prop} (C : zCx Γ (zAA Γ) p s m args c RX9 cX9_saves 2) {μ : zMem} (KK : zV Γ (zAA Γ) p l e (zRm (d + 0)) s m args below meth c 0 0 Q 26 [.ref (za Γ 5 0), .int (zi 55)] [] (zset μ 5 3 (fun j => if j < 55 then μ 5 1 j else μ 5 3 j))) :
    ∀ (i : Nat) (k : Int) (h0 : 0 ≤ k) (hi : k + i = 55), zV Γ (zAA Γ) p l e (zRm (d + 0)) s m args below meth c 0 0 Q 2 [.ref (za Γ 5 0), .int (zi k)] [] (zset μ 5 3 (fun j => if j < k then μ 5 1 j else μ 5 3 j)) := by
  intro i
  induction i with
  | zero =>
    intro k h0 hi
    have hk : k = 55 := by omega
    subst hk
    refine zV_iload_n (i := 1) (n := 3) C dX9_saves_2 rfl rfl rfl ?_
    refine zV_bipush (n := 5) C dX9_saves_3 (by decide) rfl ?_
    refine zV_icmp_ge (n := 8) C 26 dX9_saves_5 (by decide) (by omega) (by omega) rfl (fun h5 => ?_) (fun h => by exfalso; omega)
    exact KK
  | succ i ih =>
    intro k h0 hi
    refine zV_iload_n (i := 1) (n := 3) C dX9_saves_2 rfl rfl rfl ?_
    refine zV_bipush (n := 5) C dX9_saves_3 (by decide) rfl ?_
    refine zV_icmp_ge (n := 8) C 26 dX9_saves_5 (by decide) (by omega) (by omega) rfl (fun h => by exfalso; omega) (fun h5 => ?_)
    refine zV_aload_n (i := 0) (n := 9) C dX9_saves_8 rfl rfl rfl ?_
    refine zV_getP (f := 2) (n := 12) C zk8 fX9_16 dX9_saves_9 zs_ref rfl (by decide) rfl ?_
    refine zV_iload_n (i := 1) (n := 13) C dX9_saves_12 rfl rfl rfl ?_
    refine zV_aload_n (i := 0) (n := 14) C dX9_saves_13 rfl rfl rfl ?_
    refine zV_getP (f := 0) (n := 17) C zk8 fX9_7 dX9_saves_14 zs_ref rfl (by decide) rfl ?_
    refine zV_iload_n (i := 1) (n := 18) C dX9_saves_17 rfl rfl rfl ?_
    refine zV_iald (n := 19) C dX9_saves_18 zs_s (by omega) (by decide) rfl ?_
    rw [show zset μ 5 3 (fun j => if j < k then μ 5 1 j else μ 5 3 j) 5 1 = μ 5 1 from zset_ne (by decide)]
    refine zV_iast (n := 20) C dX9_saves_19 zs_other (by omega) (by decide) rfl ?_
    rw [zup_set, zcp_step]
    refine zS_iinc_2_1 (n := 23) C dX9_saves_20 rfl rfl ?_
    refine zV_goto C 2 dX9_saves_23 (by decide) ?_
    exact ih (k + 1) (by omega) (by omega)

set_option maxRecDepth 100000 in
set_option maxHeartbeats 4000000 in
theorem m_saves {Γ : zC} {l : Launch} {d : Nat} {μ : zMem}  : zRet Γ l (d + 0) qX9_saves [.ref (za Γ 5 0)] μ none (zset μ 5 3 (μ 5 1)) := by
  refine zRet.mk 1 [.ref (za Γ 5 0), .null] RX9 rfl (by decide +kernel) (Nat.le_of_ble_eq_true rfl) rfl ?_
  intro p e s m below meth c C hr hlk
  refine zV_iconst (n := 1) C dX9_saves_0 rfl ?_
  refine zS_istore_n_2_1 (n := 2) C dX9_saves_1 rfl rfl ?_
  refine zV_mem (μ' := zset μ 5 3 (fun j => if j < 0 then μ 5 1 j else μ 5 3 j)) (by have h := zag_row (μ := μ) (F := μ 5 3) (G := (fun j => if j < 0 then μ 5 1 j else μ 5 3 j)) zs_other (fun j g0 g1 => by rw [if_neg (by omega)]); rw [zset_self] at h; exact h) ?_
  refine m_saves_loop C ?_ 55 0 (by omega) (by omega)
  refine zV_mem (μ' := zset μ 5 3 (μ 5 1)) (zag_row zs_other (fun j g0 g1 => by rw [if_pos (by simp only [zlenS] at g1; omega)])) ?_
  exact zV_return C hr hlk dX9_saves_26 rfl rfl

set_option maxRecDepth 100000 in
set_option maxHeartbeats 4000000 in
theorem m_putsBack_loop {Γ : zC} {l : Launch} {d : Nat} {p : Program} {e : Env} {s : State} {m : MethodId} {args : Array Value} {below : List Frame} {meth : Method} {c : Code} {Q : State → Prop} (C : zCx Γ (zAA Γ) p s m args c RX9 cX9_putsBack 2) {μ : zMem} (KK : zV Γ (zAA Γ) p l e (zRm (d + 0)) s m args below meth c 0 0 Q 26 [.ref (za Γ 5 0), .int (zi 55)] [] (zset μ 5 1 (fun j => if j < 55 then μ 5 3 j else μ 5 1 j))) :
    ∀ (i : Nat) (k : Int) (h0 : 0 ≤ k) (hi : k + i = 55), zV Γ (zAA Γ) p l e (zRm (d + 0)) s m args below meth c 0 0 Q 2 [.ref (za Γ 5 0), .int (zi k)] [] (zset μ 5 1 (fun j => if j < k then μ 5 3 j else μ 5 1 j)) := by
  intro i
  induction i with
  | zero =>
    intro k h0 hi
    have hk : k = 55 := by omega
    subst hk
    refine zV_iload_n (i := 1) (n := 3) C dX9_putsBack_2 rfl rfl rfl ?_
    refine zV_bipush (n := 5) C dX9_putsBack_3 (by decide) rfl ?_
    refine zV_icmp_ge (n := 8) C 26 dX9_putsBack_5 (by decide) (by omega) (by omega) rfl (fun h5 => ?_) (fun h => by exfalso; omega)
    exact KK
  | succ i ih =>
    intro k h0 hi
    refine zV_iload_n (i := 1) (n := 3) C dX9_putsBack_2 rfl rfl rfl ?_
    refine zV_bipush (n := 5) C dX9_putsBack_3 (by decide) rfl ?_
    refine zV_icmp_ge (n := 8) C 26 dX9_putsBack_5 (by decide) (by omega) (by omega) rfl (fun h => by exfalso; omega) (fun h5 => ?_)
    refine zV_aload_n (i := 0) (n := 9) C dX9_putsBack_8 rfl rfl rfl ?_
    refine zV_getP (f := 0) (n := 12) C zk8 fX9_7 dX9_putsBack_9 zs_ref rfl (by decide) rfl ?_
    refine zV_iload_n (i := 1) (n := 13) C dX9_putsBack_12 rfl rfl rfl ?_
    refine zV_aload_n (i := 0) (n := 14) C dX9_putsBack_13 rfl rfl rfl ?_
    refine zV_getP (f := 2) (n := 17) C zk8 fX9_16 dX9_putsBack_14 zs_ref rfl (by decide) rfl ?_
    refine zV_iload_n (i := 1) (n := 18) C dX9_putsBack_17 rfl rfl rfl ?_
    refine zV_iald (n := 19) C dX9_putsBack_18 zs_other (by omega) (by decide) rfl ?_
    rw [show zset μ 5 1 (fun j => if j < k then μ 5 3 j else μ 5 1 j) 5 3 = μ 5 3 from zset_ne (by decide)]
    refine zV_iast (n := 20) C dX9_putsBack_19 zs_s (by omega) (by decide) rfl ?_
    rw [zup_set, zcp_step]
    refine zS_iinc_2_1 (n := 23) C dX9_putsBack_20 rfl rfl ?_
    refine zV_goto C 2 dX9_putsBack_23 (by decide) ?_
    exact ih (k + 1) (by omega) (by omega)

set_option maxRecDepth 100000 in
set_option maxHeartbeats 4000000 in
theorem m_putsBack {Γ : zC} {l : Launch} {d : Nat} {μ : zMem}  : zRet Γ l (d + 0) qX9_putsBack [.ref (za Γ 5 0)] μ none (zset μ 5 1 (μ 5 3)) := by
  refine zRet.mk 1 [.ref (za Γ 5 0), .null] RX9 rfl (by decide +kernel) (Nat.le_of_ble_eq_true rfl) rfl ?_
  intro p e s m below meth c C hr hlk
  refine zV_iconst (n := 1) C dX9_putsBack_0 rfl ?_
  refine zS_istore_n_2_1 (n := 2) C dX9_putsBack_1 rfl rfl ?_
  refine zV_mem (μ' := zset μ 5 1 (fun j => if j < 0 then μ 5 3 j else μ 5 1 j)) (by have h := zag_row (μ := μ) (F := μ 5 1) (G := (fun j => if j < 0 then μ 5 3 j else μ 5 1 j)) zs_s (fun j g0 g1 => by rw [if_neg (by omega)]); rw [zset_self] at h; exact h) ?_
  refine m_putsBack_loop C ?_ 55 0 (by omega) (by omega)
  refine zV_mem (μ' := zset μ 5 1 (μ 5 3)) (zag_row zs_s (fun j g0 g1 => by rw [if_pos (by simp only [zlenS] at g1; omega)])) ?_
  exact zV_return C hr hlk dX9_putsBack_26 rfl rfl

set_option maxRecDepth 100000 in
set_option maxHeartbeats 4000000 in
theorem m_takesBack_loop {Γ : zC} {l : Launch} {d : Nat} {p : Program} {e : Env} {s : State} {m : MethodId} {args : Array Value} {below : List Frame} {meth : Method} {c : Code} {Q : State → Prop} (C : zCx Γ (zAA Γ) p s m args c RX9 cX9_takesBack 3) {μ : zMem} {w : Int32} (KK : zV Γ (zAA Γ) p l e (zRm (d + 0)) s m args below meth c 0 0 Q 26 [.ref (za Γ 5 0), .int w, .int (zi 55)] [] (zset μ 5 1 (fun j => if j < 55 then μ 5 4 j else μ 5 1 j))) :
    ∀ (i : Nat) (k : Int) (h0 : 0 ≤ k) (hi : k + i = 55), zV Γ (zAA Γ) p l e (zRm (d + 0)) s m args below meth c 0 0 Q 2 [.ref (za Γ 5 0), .int w, .int (zi k)] [] (zset μ 5 1 (fun j => if j < k then μ 5 4 j else μ 5 1 j)) := by
  intro i
  induction i with
  | zero =>
    intro k h0 hi
    have hk : k = 55 := by omega
    subst hk
    refine zV_iload_n (i := 2) (n := 3) C dX9_takesBack_2 rfl rfl rfl ?_
    refine zV_bipush (n := 5) C dX9_takesBack_3 (by decide) rfl ?_
    refine zV_icmp_ge (n := 8) C 26 dX9_takesBack_5 (by decide) (by omega) (by omega) rfl (fun h5 => ?_) (fun h => by exfalso; omega)
    exact KK
  | succ i ih =>
    intro k h0 hi
    refine zV_iload_n (i := 2) (n := 3) C dX9_takesBack_2 rfl rfl rfl ?_
    refine zV_bipush (n := 5) C dX9_takesBack_3 (by decide) rfl ?_
    refine zV_icmp_ge (n := 8) C 26 dX9_takesBack_5 (by decide) (by omega) (by omega) rfl (fun h => by exfalso; omega) (fun h5 => ?_)
    refine zV_aload_n (i := 0) (n := 9) C dX9_takesBack_8 rfl rfl rfl ?_
    refine zV_getP (f := 0) (n := 12) C zk8 fX9_7 dX9_takesBack_9 zs_ref rfl (by decide) rfl ?_
    refine zV_iload_n (i := 2) (n := 13) C dX9_takesBack_12 rfl rfl rfl ?_
    refine zV_aload_n (i := 0) (n := 14) C dX9_takesBack_13 rfl rfl rfl ?_
    refine zV_getP (f := 3) (n := 17) C zk8 fX9_19 dX9_takesBack_14 zs_ref rfl (by decide) rfl ?_
    refine zV_iload_n (i := 2) (n := 18) C dX9_takesBack_17 rfl rfl rfl ?_
    refine zV_iald (n := 19) C dX9_takesBack_18 zs_aside (by omega) (by decide) rfl ?_
    rw [show zset μ 5 1 (fun j => if j < k then μ 5 4 j else μ 5 1 j) 5 4 = μ 5 4 from zset_ne (by decide)]
    refine zV_iast (n := 20) C dX9_takesBack_19 zs_s (by omega) (by decide) rfl ?_
    rw [zup_set, zcp_step]
    refine zS_iinc_3_2 (n := 23) C dX9_takesBack_20 rfl rfl ?_
    refine zV_goto C 2 dX9_takesBack_23 (by decide) ?_
    exact ih (k + 1) (by omega) (by omega)

set_option maxRecDepth 100000 in
set_option maxHeartbeats 4000000 in
theorem m_takesBack {Γ : zC} {l : Launch} {d : Nat} {μ : zMem} {v : Int} : zRet Γ l (d + 0) qX9_takesBack [.ref (za Γ 5 0), .int (zi v)] μ (some (.int (zi v))) (zset μ 5 1 (μ 5 4)) := by
  refine zRet.mk 1 [.ref (za Γ 5 0), .int (zi v), .null] RX9 rfl (by decide +kernel) (Nat.le_of_ble_eq_true rfl) rfl ?_
  intro p e s m below meth c C hr hlk
  refine zV_iconst (n := 1) C dX9_takesBack_0 rfl ?_
  refine zS_istore_n_3_2 (n := 2) C dX9_takesBack_1 rfl rfl ?_
  refine zV_mem (μ' := zset μ 5 1 (fun j => if j < 0 then μ 5 4 j else μ 5 1 j)) (by have h := zag_row (μ := μ) (F := μ 5 1) (G := (fun j => if j < 0 then μ 5 4 j else μ 5 1 j)) zs_s (fun j g0 g1 => by rw [if_neg (by omega)]); rw [zset_self] at h; exact h) ?_
  refine m_takesBack_loop C ?_ 55 0 (by omega) (by omega)
  refine zV_mem (μ' := zset μ 5 1 (μ 5 4)) (zag_row zs_s (fun j g0 g1 => by rw [if_pos (by simp only [zlenS] at g1; omega)])) ?_
  refine zV_iload_n (i := 1) (n := 27) C dX9_takesBack_26 rfl rfl rfl ?_
  exact zV_ireturn C hr hlk dX9_takesBack_27 rfl rfl

set_option maxRecDepth 100000 in
set_option maxHeartbeats 4000000 in
theorem m_minutesGo_loop {Γ : zC} {l : Launch} {d : Nat} {p : Program} {e : Env} {s : State} {m : MethodId} {args : Array Value} {below : List Frame} {meth : Method} {c : Code} {Q : State → Prop} (C : zCx Γ (zAA Γ) p s m args c RX9 cX9_minutesGo 3) {μ : zMem} {n : Int} (hn : n ≤ 1000) :
    ∀ (i : Nat) (k N : Int) (S : Int → Int) (J : rInv N S) (hN : N + i ≤ 20000) (h0 : 0 ≤ k) (hi : k + i = n) (KK : zV Γ (zAA Γ) p l e (zRm (d + 6)) s m args below meth c 0 0 Q 17 [.ref (za Γ 5 0), .int (zi n), .int (zi n)] [] (zset μ 5 1 (rGo i S))), zV Γ (zAA Γ) p l e (zRm (d + 6)) s m args below meth c 0 0 Q 2 [.ref (za Γ 5 0), .int (zi n), .int (zi k)] [] (zset μ 5 1 S) := by
  intro i
  induction i with
  | zero =>
    intro k N S J hN h0 hi KK
    have hk : k = n := by omega
    subst hk
    refine zV_iload_n (i := 2) (n := 3) C dX9_minutesGo_2 rfl rfl rfl ?_
    refine zV_iload_n (i := 1) (n := 4) C dX9_minutesGo_3 rfl rfl rfl ?_
    refine zV_icmp_ge (n := 7) C 17 dX9_minutesGo_4 (by decide) (by omega) (by omega) rfl (fun h4 => ?_) (fun h => by exfalso; omega)
    exact KK
  | succ i ih =>
    intro k N S J hN h0 hi KK
    have I : rInv N (zset μ 5 1 S 5 1) := by rw [zset_at]; exact J
    refine zV_iload_n (i := 2) (n := 3) C dX9_minutesGo_2 rfl rfl rfl ?_
    refine zV_iload_n (i := 1) (n := 4) C dX9_minutesGo_3 rfl rfl rfl ?_
    refine zV_icmp_ge (n := 7) C 17 dX9_minutesGo_4 (by decide) (by omega) (by omega) rfl (fun h => by exfalso; omega) (fun h4 => ?_)
    refine zV_aload_n (i := 0) (n := 8) C dX9_minutesGo_7 rfl rfl rfl ?_
    refine zV_callV0v (n := 11) C zk8 jX9_minute lX9_139 (m_minute (d := d) I (by omega)) dX9_minutesGo_8 zs_ref rfl (Nat.le_of_ble_eq_true rfl) (zfit_of (by omega) (by decide)) ⟨Nat.le_refl _, Nat.le_refl _⟩ rfl ?_
    rw [zset_set, zset_at]
    refine zS_iinc_3_2 (n := 14) C dX9_minutesGo_11 rfl rfl ?_
    refine zV_goto C 2 dX9_minutesGo_14 (by decide) ?_
    exact ih (k + 1) (N + 1) (rMin S) (rMin_inv J) (by omega) (by omega) (by omega) KK

set_option maxRecDepth 100000 in
set_option maxHeartbeats 4000000 in
theorem m_minutesGo {Γ : zC} {l : Launch} {d : Nat} {μ : zMem} {N : Int} (I : rInv N (μ 5 1)) {n : Nat} (hn : n ≤ 1000) (hN : N + n ≤ 20000) : zRet Γ l (d + 6) qX9_minutesGo [.ref (za Γ 5 0), .int (zi (n : Int))] μ none (zset μ 5 1 (rGo n (μ 5 1))) := by
  refine zRet.mk 1 [.ref (za Γ 5 0), .int (zi (n : Int)), .null] RX9 rfl (by decide +kernel) (Nat.le_of_ble_eq_true rfl) rfl ?_
  intro p e s m below meth c C hr hlk
  refine zV_iconst (n := 1) C dX9_minutesGo_0 rfl ?_
  refine zS_istore_n_3_2 (n := 2) C dX9_minutesGo_1 rfl rfl ?_
  refine zV_eqm (μ' := zset μ 5 1 (μ 5 1)) zset_self.symm ?_
  refine m_minutesGo_loop C (by omega) n 0 N (μ 5 1) I (by omega) (by omega) (by omega) ?_
  exact zV_return C hr hlk dX9_minutesGo_17 rfl rfl

set_option maxRecDepth 100000 in
set_option maxHeartbeats 4000000 in
theorem m_seated_step {Γ : zC} {l : Launch} {d : Nat} {p : Program} {e : Env} {s : State} {m : MethodId} {args : Array Value} {below : List Frame} {meth : Method} {c : Code} {Q : State → Prop} (C : zCx Γ (zAA Γ) p s m args c RX9 cX9_seated 3) {μ : zMem} {N : Int} (I : rInv N (μ 5 1)) {a : Int32} {k : Int} (hk : 0 ≤ k ∧ k < 3) (KK : zV Γ (zAA Γ) p l e (zRm (d + 3)) s m args below meth c 0 0 Q 4 [.ref (za Γ 5 0), .int (a ||| rbit (itS (μ 5 1) k 4)), .int (zi (k + 1))] [] μ) :
    zV Γ (zAA Γ) p l e (zRm (d + 3)) s m args below meth c 0 0 Q 4 [.ref (za Γ 5 0), .int a, .int (zi k)] [] μ := by
  have hs := I.2.2.2.2.1 k hk.1 hk.2
  have h0 := I.1
  refine zV_iload_n (i := 2) (n := 5) C dX9_seated_4 rfl rfl rfl ?_
  refine zV_iconst (n := 6) C dX9_seated_5 rfl ?_
  refine zV_icmp_ge (n := 9) C 38 dX9_seated_6 (by decide) (by first | omega | exact zb_rg) (by first | omega | exact zb_rg) rfl (fun h => by exfalso; first | omega | exact zb_rg) (fun h6 => ?_)
  refine zV_iload_n (i := 1) (n := 10) C dX9_seated_9 rfl rfl rfl ?_
  refine zV_aload_n (i := 0) (n := 11) C dX9_seated_10 rfl rfl rfl ?_
  refine zV_iload_n (i := 2) (n := 12) C dX9_seated_11 rfl rfl rfl ?_
  refine zV_callV1u (n := 15) C zk8 jX9_isTaken lX9_88 (m_isTaken (d := d) I (by omega)) dX9_seated_12 zs_ref rfl (Nat.le_of_ble_eq_true rfl) (zfit_of (by omega) (by decide)) ⟨Nat.le_refl _, Nat.le_refl _⟩ rfl ?_
  refine zV_if_eq (n := 18) C 29 dX9_seated_15 (by decide) (by first | omega | exact zb_rg) rfl (fun h15 => ?_) (fun h15 => ?_)
  · skip
    simp only [zb_eq0, Decidable.not_not] at h15
    refine zV_iconst (n := 30) C dX9_seated_29 rfl ?_
    refine zV_ior0 (n := 31) C dX9_seated_30 rfl ?_
    refine zS_istore_n_3_1 (n := 32) C dX9_seated_31 rfl rfl ?_
    refine zS_iinc_3_2 (n := 35) C dX9_seated_32 rfl rfl ?_
    refine zV_goto C 4 dX9_seated_35 (by decide) ?_
    unfold rbit at KK; first | (rw [if_pos h15] at KK; exact KK) | (rw [if_neg h15] at KK; exact KK)
  · skip
    simp only [zb_eq0, Decidable.not_not] at h15
    refine zV_iconst (n := 19) C dX9_seated_18 rfl ?_
    refine zV_aload_n (i := 0) (n := 20) C dX9_seated_19 rfl rfl rfl ?_
    refine zV_iload_n (i := 2) (n := 21) C dX9_seated_20 rfl rfl rfl ?_
    refine zV_iconst (n := 22) C dX9_seated_21 rfl ?_
    refine zV_callV2u (n := 25) C zk8 jX9_its lX9_63 (m_its (d := d) (by omega)) dX9_seated_22 zs_ref rfl (Nat.le_of_ble_eq_true rfl) (zfit_of (by omega) (by decide)) ⟨Nat.le_refl _, Nat.le_refl _⟩ rfl ?_
    refine zV_ishl0 (n := 26) C dX9_seated_25 rfl ?_
    refine zV_goto C 30 dX9_seated_26 (by decide) ?_
    refine zV_ior0 (n := 31) C dX9_seated_30 rfl ?_
    refine zS_istore_n_3_1 (n := 32) C dX9_seated_31 rfl rfl ?_
    refine zS_iinc_3_2 (n := 35) C dX9_seated_32 rfl rfl ?_
    refine zV_goto C 4 dX9_seated_35 (by decide) ?_
    unfold rbit at KK; first | (rw [if_pos h15] at KK; exact KK) | (rw [if_neg h15] at KK; exact KK)

set_option maxRecDepth 100000 in
set_option maxHeartbeats 4000000 in
theorem m_seated {Γ : zC} {l : Launch} {d : Nat} {μ : zMem} {N : Int} (I : rInv N (μ 5 1))  : zRet Γ l (d + 3) qX9_seated [.ref (za Γ 5 0)] μ (some (.int (zi (rSit (μ 5 1))))) μ := by
  refine zRet.mk 2 [.ref (za Γ 5 0), .null, .null] RX9 rfl (by decide +kernel) (Nat.le_of_ble_eq_true rfl) rfl ?_
  intro p e s m below meth c C hr hlk
  refine zV_iconst (n := 1) C dX9_seated_0 rfl ?_
  refine zS_istore_n_3_1 (n := 2) C dX9_seated_1 rfl rfl ?_
  refine zV_iconst (n := 3) C dX9_seated_2 rfl ?_
  refine zS_istore_n_3_2 (n := 4) C dX9_seated_3 rfl rfl ?_
  refine m_seated_step C I (by omega) ?_
  refine m_seated_step C I (by omega) ?_
  refine m_seated_step C I (by omega) ?_
  refine zV_iload_n (i := 2) (n := 5) C dX9_seated_4 rfl rfl rfl ?_
  refine zV_iconst (n := 6) C dX9_seated_5 rfl ?_
  refine zV_icmp_ge (n := 9) C 38 dX9_seated_6 (by decide) (by omega) (by omega) rfl (fun h => ?_) (fun h => by exfalso; omega)
  refine zV_iload_n (i := 1) (n := 39) C dX9_seated_38 rfl rfl rfl ?_
  exact zV_ireturn C hr hlk dX9_seated_39 (congrArg (fun z => some (Value.int z)) (zi_of _).symm) rfl

set_option maxRecDepth 100000 in
set_option maxHeartbeats 4000000 in
theorem m_together_loop {Γ : zC} {l : Launch} {d : Nat} {p : Program} {e : Env} {s : State} {m : MethodId} {args : Array Value} {below : List Frame} {meth : Method} {c : Code} {Q : State → Prop} (C : zCx Γ (zAA Γ) p s m args c RX9 cX9_together 4) {μ : zMem} {N : Int} (I : rInv N (μ 5 1)) {w : Int} (hw : 0 ≤ w ∧ w < 6) :
    ∀ (i : Nat) (k a : Int) (h0 : 0 ≤ k) (hi : k + i = μ 5 1 0) (KK : zV Γ (zAA Γ) p l e (zRm (d + 2)) s m args below meth c 0 0 Q 29 [.ref (za Γ 5 0), .int (zi w), .int (zi (rSumF (μ 5 1) w i k a)), .int (zi (μ 5 1 0))] [] μ), zV Γ (zAA Γ) p l e (zRm (d + 2)) s m args below meth c 0 0 Q 4 [.ref (za Γ 5 0), .int (zi w), .int (zi a), .int (zi k)] [] μ := by
  intro i
  induction i with
  | zero =>
    intro k a h0 hi KK
    have hz := I.1
    have hk : k = μ 5 1 0 := by omega
    subst hk
    refine zV_iload_n (i := 3) (n := 5) C dX9_together_4 rfl rfl rfl ?_
    refine zV_aload_n (i := 0) (n := 6) C dX9_together_5 rfl rfl rfl ?_
    refine zV_getP (f := 0) (n := 9) C zk8 fX9_7 dX9_together_6 zs_ref rfl (by decide) rfl ?_
    refine zV_iconst (n := 10) C dX9_together_9 rfl ?_
    refine zV_iald (n := 11) C dX9_together_10 zs_s (by omega) (by decide) rfl ?_
    refine zV_icmp_ge (n := 14) C 29 dX9_together_11 (by decide) (by omega) (by omega) rfl (fun h11 => ?_) (fun h => by exfalso; omega)
    exact KK
  | succ i ih =>
    intro k a h0 hi KK
    have hz := I.1
    refine zV_iload_n (i := 3) (n := 5) C dX9_together_4 rfl rfl rfl ?_
    refine zV_aload_n (i := 0) (n := 6) C dX9_together_5 rfl rfl rfl ?_
    refine zV_getP (f := 0) (n := 9) C zk8 fX9_7 dX9_together_6 zs_ref rfl (by decide) rfl ?_
    refine zV_iconst (n := 10) C dX9_together_9 rfl ?_
    refine zV_iald (n := 11) C dX9_together_10 zs_s (by omega) (by decide) rfl ?_
    refine zV_icmp_ge (n := 14) C 29 dX9_together_11 (by decide) (by omega) (by omega) rfl (fun h => by exfalso; omega) (fun h11 => ?_)
    refine zV_iload_n (i := 2) (n := 15) C dX9_together_14 rfl rfl rfl ?_
    refine zV_aload_n (i := 0) (n := 16) C dX9_together_15 rfl rfl rfl ?_
    refine zV_iload_n (i := 3) (n := 17) C dX9_together_16 rfl rfl rfl ?_
    refine zV_iload_n (i := 1) (n := 18) C dX9_together_17 rfl rfl rfl ?_
    refine zV_callV2u (n := 21) C zk8 jX9_told lX9_94 (m_told (d := d) (by omega)) dX9_together_18 zs_ref rfl (Nat.le_of_ble_eq_true rfl) (zfit_of (by omega) (by decide)) ⟨Nat.le_refl _, Nat.le_refl _⟩ rfl ?_
    refine zV_iadd (n := 22) C dX9_together_21 rfl ?_
    refine zS_istore_n_4_2 (n := 23) C dX9_together_22 rfl rfl ?_
    refine zS_iinc_4_3 (n := 26) C dX9_together_23 rfl rfl ?_
    refine zV_goto C 4 dX9_together_26 (by decide) ?_
    exact ih (k + 1) (a + toS (μ 5 1) k w) (by omega) (by omega) KK

set_option maxRecDepth 100000 in
set_option maxHeartbeats 4000000 in
theorem m_together {Γ : zC} {l : Launch} {d : Nat} {μ : zMem} {N : Int} (I : rInv N (μ 5 1)) {w : Int} (hw : 0 ≤ w ∧ w < 6) : zRet Γ l (d + 2) qX9_together [.ref (za Γ 5 0), .int (zi w)] μ (some (.int (zi (rSumF (μ 5 1) w (μ 5 1 0).toNat 0 0)))) μ := by
  refine zRet.mk 2 [.ref (za Γ 5 0), .int (zi w), .null, .null] RX9 rfl (by decide +kernel) (Nat.le_of_ble_eq_true rfl) rfl ?_
  intro p e s m below meth c C hr hlk
  refine zV_iconst (n := 1) C dX9_together_0 rfl ?_
  refine zS_istore_n_4_2 (n := 2) C dX9_together_1 rfl rfl ?_
  refine zV_iconst (n := 3) C dX9_together_2 rfl ?_
  refine zS_istore_n_4_3 (n := 4) C dX9_together_3 rfl rfl ?_
  have hz := I.1
  refine m_together_loop C I hw (μ 5 1 0).toNat 0 0 (by omega) (by omega) ?_
  refine zV_iload_n (i := 2) (n := 30) C dX9_together_29 rfl rfl rfl ?_
  exact zV_ireturn C hr hlk dX9_together_30 rfl rfl

set_option maxRecDepth 100000 in
set_option maxHeartbeats 4000000 in
theorem m_outIn_loop {Γ : zC} {l : Launch} {d : Nat} {p : Program} {e : Env} {s : State} {m : MethodId} {args : Array Value} {below : List Frame} {meth : Method} {c : Code} {Q : State → Prop} (C : zCx Γ (zAA Γ) p s m args c RX9 cX9_outIn 4) {μ : zMem} {S0 : Int → Int} {x n : Int} (hx : 0 ≤ x ∧ x < 6) (hn : n ≤ 1000) :
    ∀ (i : Nat) (k N : Int) (S : Int → Int) (J : rInv N S) (hN : N + i ≤ 20000) (h0 : 0 ≤ k) (hi : k + i = n) (KK : ∀ k8 : Int, zV Γ (zAA Γ) p l e (zRm (d + 6)) s m args below meth c 0 0 Q 48 [.ref (za Γ 5 0), .int (zi x), .int (zi n), .int (zi k8)] [.int (zi (rOI x n i S k))] (zset (zset μ 5 4 S0) 5 1 S0)), zV Γ (zAA Γ) p l e (zRm (d + 6)) s m args below meth c 0 0 Q 6 [.ref (za Γ 5 0), .int (zi x), .int (zi n), .int (zi k)] [] (zset (zset μ 5 4 S0) 5 1 S) := by
  intro i
  induction i with
  | zero =>
    intro k N S J hN h0 hi KK
    have hk : k = n := by omega
    subst hk
    have I : rInv N (zset (zset μ 5 4 S0) 5 1 S 5 1) := by rw [zset_at]; exact J
    have ha := rAt_rg S x
    unfold rOI at KK
    refine zV_iload_n (i := 3) (n := 7) C dX9_outIn_6 rfl rfl rfl ?_
    refine zV_iload_n (i := 2) (n := 8) C dX9_outIn_7 rfl rfl rfl ?_
    refine zV_icmp_ge (n := 11) C 29 dX9_outIn_8 (by decide) (by first | omega | exact zb_rg) (by first | omega | exact zb_rg) rfl (fun h8 => ?_) (fun h => by exfalso; first | omega | exact zb_rg)
    refine zV_aload_n (i := 0) (n := 30) C dX9_outIn_29 rfl rfl rfl ?_
    refine zV_aload_n (i := 0) (n := 31) C dX9_outIn_30 rfl rfl rfl ?_
    refine zV_iload_n (i := 1) (n := 32) C dX9_outIn_31 rfl rfl rfl ?_
    refine zV_callV1u (n := 35) C zk8 jX9_seatedAt lX9_91 (m_seatedAt (d := d) I (by omega)) dX9_outIn_32 zs_ref rfl (Nat.le_of_ble_eq_true rfl) (zfit_of (by omega) (by decide)) ⟨Nat.le_refl _, Nat.le_refl _⟩ rfl ?_
    simp only [zset_at]
    refine zV_if_lt (n := 38) C 44 dX9_outIn_35 (by decide) (by first | omega | exact zb_rg) rfl (fun h35 => ?_) (fun h35 => ?_)
    · skip
      refine zV_iload_n (i := 3) (n := 45) C dX9_outIn_44 rfl rfl rfl ?_
      refine zV_callV1u (n := 48) C zk8 jX9_takesBack lX9_157 (m_takesBack (d := d)) dX9_outIn_45 zs_ref rfl (Nat.le_of_ble_eq_true rfl) (zfit_of (by omega) (by decide)) ⟨Nat.le_refl _, Nat.le_refl _⟩ rfl ?_
      rw [zset_set, zset_ne (by decide), zset_at]
      first | (rw [if_pos (by omega)] at KK; exact KK _) | (rw [if_neg (by omega)] at KK; exact KK _)
    · skip
      refine zV_iload_n (i := 2) (n := 39) C dX9_outIn_38 rfl rfl rfl ?_
      refine zV_iconst (n := 40) C dX9_outIn_39 rfl ?_
      refine zV_iadd (n := 41) C dX9_outIn_40 rfl ?_
      refine zV_goto C 45 dX9_outIn_41 (by decide) ?_
      refine zV_callV1u (n := 48) C zk8 jX9_takesBack lX9_157 (m_takesBack (d := d)) dX9_outIn_45 zs_ref rfl (Nat.le_of_ble_eq_true rfl) (zfit_of (by omega) (by decide)) ⟨Nat.le_refl _, Nat.le_refl _⟩ rfl ?_
      rw [zset_set, zset_ne (by decide), zset_at]
      first | (rw [if_pos (by omega)] at KK; exact KK _) | (rw [if_neg (by omega)] at KK; exact KK _)
  | succ i ih =>
    intro k N S J hN h0 hi KK
    have I : rInv N (zset (zset μ 5 4 S0) 5 1 S 5 1) := by rw [zset_at]; exact J
    have ha := rAt_rg S x
    unfold rOI at KK
    refine zV_iload_n (i := 3) (n := 7) C dX9_outIn_6 rfl rfl rfl ?_
    refine zV_iload_n (i := 2) (n := 8) C dX9_outIn_7 rfl rfl rfl ?_
    refine zV_icmp_ge (n := 11) C 29 dX9_outIn_8 (by decide) (by first | omega | exact zb_rg) (by first | omega | exact zb_rg) rfl (fun h => by exfalso; first | omega | exact zb_rg) (fun h8 => ?_)
    refine zV_aload_n (i := 0) (n := 12) C dX9_outIn_11 rfl rfl rfl ?_
    refine zV_iload_n (i := 1) (n := 13) C dX9_outIn_12 rfl rfl rfl ?_
    refine zV_callV1u (n := 16) C zk8 jX9_seatedAt lX9_91 (m_seatedAt (d := d) I (by omega)) dX9_outIn_13 zs_ref rfl (Nat.le_of_ble_eq_true rfl) (zfit_of (by omega) (by decide)) ⟨Nat.le_refl _, Nat.le_refl _⟩ rfl ?_
    simp only [zset_at]
    refine zV_if_lt (n := 19) C 29 dX9_outIn_16 (by decide) (by first | omega | exact zb_rg) rfl (fun h16 => ?_) (fun h16 => ?_)
    · skip
      refine zV_aload_n (i := 0) (n := 30) C dX9_outIn_29 rfl rfl rfl ?_
      refine zV_aload_n (i := 0) (n := 31) C dX9_outIn_30 rfl rfl rfl ?_
      refine zV_iload_n (i := 1) (n := 32) C dX9_outIn_31 rfl rfl rfl ?_
      refine zV_callV1u (n := 35) C zk8 jX9_seatedAt lX9_91 (m_seatedAt (d := d) I (by omega)) dX9_outIn_32 zs_ref rfl (Nat.le_of_ble_eq_true rfl) (zfit_of (by omega) (by decide)) ⟨Nat.le_refl _, Nat.le_refl _⟩ rfl ?_
      simp only [zset_at]
      refine zV_if_lt (n := 38) C 44 dX9_outIn_35 (by decide) (by first | omega | exact zb_rg) rfl (fun h35 => ?_) (fun h => by exfalso; first | omega | exact zb_rg)
      refine zV_iload_n (i := 3) (n := 45) C dX9_outIn_44 rfl rfl rfl ?_
      refine zV_callV1u (n := 48) C zk8 jX9_takesBack lX9_157 (m_takesBack (d := d)) dX9_outIn_45 zs_ref rfl (Nat.le_of_ble_eq_true rfl) (zfit_of (by omega) (by decide)) ⟨Nat.le_refl _, Nat.le_refl _⟩ rfl ?_
      rw [zset_set, zset_ne (by decide), zset_at]
      first | (rw [if_pos (by omega)] at KK; exact KK _) | (rw [if_neg (by omega)] at KK; exact KK _)
    · skip
      refine zV_aload_n (i := 0) (n := 20) C dX9_outIn_19 rfl rfl rfl ?_
      refine zV_callV0v (n := 23) C zk8 jX9_minute lX9_139 (m_minute (d := d) I (by omega)) dX9_outIn_20 zs_ref rfl (Nat.le_of_ble_eq_true rfl) (zfit_of (by omega) (by decide)) ⟨Nat.le_refl _, Nat.le_refl _⟩ rfl ?_
      rw [zset_set, zset_at]
      refine zS_iinc_4_3 (n := 26) C dX9_outIn_23 rfl rfl ?_
      refine zV_goto C 6 dX9_outIn_26 (by decide) ?_
      rw [if_pos (by omega)] at KK; exact ih (k + 1) (N + 1) (rMin S) (rMin_inv J) (by omega) (by omega) (by omega) KK

set_option maxRecDepth 100000 in
set_option maxHeartbeats 4000000 in
theorem m_outIn {Γ : zC} {l : Launch} {d : Nat} {μ : zMem} {N : Int} (I : rInv N (μ 5 1)) {x : Int} (hx : 0 ≤ x ∧ x < 6) {n : Nat} (hn : n ≤ 1000) (hN : N + n ≤ 20000) : zRet Γ l (d + 6) qX9_outIn [.ref (za Γ 5 0), .int (zi x), .int (zi (n : Int))] μ (some (.int (zi (rOI x n n (μ 5 1) 0)))) (zset μ 5 4 (μ 5 1)) := by
  refine zRet.mk 1 [.ref (za Γ 5 0), .int (zi x), .int (zi (n : Int)), .null] RX9 rfl (by decide +kernel) (Nat.le_of_ble_eq_true rfl) rfl ?_
  intro p e s m below meth c C hr hlk
  refine zV_aload_n (i := 0) (n := 1) C dX9_outIn_0 rfl rfl rfl ?_
  refine zV_callV0v (n := 4) C zk8 jX9_laysAside lX9_154 (m_laysAside (d := d)) dX9_outIn_1 zs_ref rfl (Nat.le_of_ble_eq_true rfl) (zfit_of (by omega) (by decide)) ⟨Nat.le_refl _, Nat.le_refl _⟩ rfl ?_
  refine zV_iconst (n := 5) C dX9_outIn_4 rfl ?_
  refine zS_istore_n_4_3 (n := 6) C dX9_outIn_5 rfl rfl ?_
  refine zV_eqm (μ' := zset (zset μ 5 4 (μ 5 1)) 5 1 (μ 5 1)) (zset_old (by decide)).symm ?_
  refine m_outIn_loop C hx (by omega) n 0 N (μ 5 1) I (by omega) (by omega) (by omega) (fun k8 => ?_)
  exact zV_ireturn C hr hlk dX9_outIn_48 rfl (zset_old (by decide))

set_option maxRecDepth 100000 in
set_option maxHeartbeats 4000000 in
theorem m_ones_loop {Γ : zC} {l : Launch} {d : Nat} {p : Program} {e : Env} {s : State} {m : MethodId} {args : Array Value} {below : List Frame} {meth : Method} {c : Code} {Q : State → Prop} (C : zCx Γ (zAA Γ) p s m args c RX9 cX9_ones 3) {μ : zMem} {v0 : Value} (hv0 : v0.category = 1) :
    ∀ (i : Nat) (x a : Int) (hx : 0 ≤ x ∧ x ≤ i) (hi : i < 64) (KK : ∀ v2 : Value, zV Γ (zAA Γ) p l e (zRm (d + 0)) s m args below meth c 0 0 Q 20 [v0, .int (zi (a + rPop x)), v2] [] μ), zV Γ (zAA Γ) p l e (zRm (d + 0)) s m args below meth c 0 0 Q 4 [v0, .int (zi a), .int (zi x)] [] μ := by
  intro i
  induction i with
  | zero =>
    intro x a hx hi KK
    have hk : x = 0 := by omega
    subst hk
    have KK := KK (.int (zi 0))
    rw [show rPop 0 = 0 from rfl, Int.add_zero] at KK
    refine zV_iload_n (i := 2) (n := 5) C dX9_ones_4 rfl rfl rfl ?_
    refine zV_if_eq (n := 8) C 20 dX9_ones_5 (by decide) (by omega) rfl (fun h5 => ?_) (fun h => by exfalso; omega)
    exact KK
  | succ i ih =>
    intro x a hx hi KK
    by_cases hz : x = 0
    · exact ih x a (by omega) (by omega) KK
    refine zV_iload_n (i := 2) (n := 5) C dX9_ones_4 rfl rfl rfl ?_
    refine zV_if_eq (n := 8) C 20 dX9_ones_5 (by decide) (by omega) rfl (fun h => by exfalso; omega) (fun h5 => ?_)
    obtain ⟨y, hy⟩ := rPop_step (x := x) (by omega)
    refine zS_iinc_3_1 (n := 11) C dX9_ones_8 hv0 rfl ?_
    refine zV_iload_n (i := 2) (n := 12) C dX9_ones_11 rfl rfl rfl ?_
    refine zV_iload_n (i := 2) (n := 13) C dX9_ones_12 rfl rfl rfl ?_
    refine zV_iconst (n := 14) C dX9_ones_13 rfl ?_
    refine zV_isub (n := 15) C dX9_ones_14 rfl ?_
    refine zV_iand (n := 16) C dX9_ones_15 hy.1 rfl ?_
    refine zS_istore_n_3_2 (n := 17) C dX9_ones_16 rfl rfl ?_
    refine zV_goto C 4 dX9_ones_17 (by decide) ?_
    refine ih y (a + 1) (by omega) (by omega) (fun v2 => ?_)
    have KK := KK v2
    rw [hy.2.2.2, show a + (rPop y + 1) = a + 1 + rPop y from by omega] at KK
    exact KK

set_option maxRecDepth 100000 in
set_option maxHeartbeats 4000000 in
theorem m_ones {Γ : zC} {l : Launch} {d : Nat} {μ : zMem} {x : Int} (hx : 0 ≤ x ∧ x < 64) : zRet Γ l (d + 0) qX9_ones [.int (zi x)] μ (some (.int (zi (rPop x)))) μ := by
  refine zRet.mk 2 [.int (zi x), .null, .null] RX9 rfl (by decide +kernel) (Nat.le_of_ble_eq_true rfl) rfl ?_
  intro p e s m below meth c C hr hlk
  refine zV_iconst (n := 1) C dX9_ones_0 rfl ?_
  refine zS_istore_n_3_1 (n := 2) C dX9_ones_1 rfl rfl ?_
  refine zV_iload_n (i := 0) (n := 3) C dX9_ones_2 rfl rfl rfl ?_
  refine zS_istore_n_3_2 (n := 4) C dX9_ones_3 rfl rfl ?_
  refine m_ones_loop C rfl 63 x 0 (by omega) (by omega) (fun v2 => ?_)
  refine zV_iload_n (i := 1) (n := 21) C dX9_ones_20 rfl rfl rfl ?_
  exact zV_ireturn C hr hlk dX9_ones_21 (congrArg (fun z => some (Value.int (zi z))) (Int.zero_add _)) rfl

