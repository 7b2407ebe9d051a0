/-! the reference: copies, books, the tape is fed (laid by wip/whole/gen/ref10.py) -/
set_option maxRecDepth 100000 in
set_option maxHeartbeats 4000000 in
theorem m_copy_a {Γ : zC} {l : Launch} {d : Nat} {p : Program} {e : Env} {s : State} {m : MethodId} {args : Array Value} {below : List Frame} {meth : Method} {c : Code} {Q : State → Prop} (C : zCx Γ (zAA Γ) p s m args c RX9 cX9_copy 7) {μ : zMem} {j f t o n : Int} (hj : 0 ≤ j ∧ j < 4) (ht : 0 ≤ t ∧ t < 4) (hf : 0 ≤ f ∧ f + n ≤ 40) (ho : 0 ≤ o ∧ o + n ≤ 40) (KK : ∀ v6 : Value, zV Γ (zAA Γ) p l e (zRm (d + 2)) s m args below meth c 0 0 Q 154 [.ref (za Γ 5 0), .int (zi j), .int (zi f), .int (zi t), .int (zi o), .int (zi n), v6] [] (zset μ 5 12 (fun i => if i < n then (fun i => μ 5 11 (40 * j + f + i)) i else μ 5 12 i))) :
    ∀ (i : Nat) (k : Int) (h0 : 0 ≤ k) (hi : k + i = n), zV Γ (zAA Γ) p l e (zRm (d + 2)) s m args below meth c 0 0 Q 120 [.ref (za Γ 5 0), .int (zi j), .int (zi f), .int (zi t), .int (zi o), .int (zi n), .int (zi k)] [] (zset μ 5 12 (fun i => if i < k then (fun i => μ 5 11 (40 * j + f + i)) i else μ 5 12 i)) := by
  intro i
  induction i with
  | zero =>
    intro k h0 hi
    have hk : k = n := by omega
    subst hk
    refine zV_iload (n := 122) C dX9_copy_120 rfl rfl ?_
    refine zV_iload (n := 124) C dX9_copy_122 rfl rfl ?_
    refine zV_icmp_ge (n := 127) C 154 dX9_copy_124 (by decide) (by omega) (by omega) rfl (fun h124 => ?_) (fun h => by exfalso; omega)
    exact KK _
  | succ i ih =>
    intro k h0 hi
    refine zV_iload (n := 122) C dX9_copy_120 rfl rfl ?_
    refine zV_iload (n := 124) C dX9_copy_122 rfl rfl ?_
    refine zV_icmp_ge (n := 127) C 154 dX9_copy_124 (by decide) (by omega) (by omega) rfl (fun h => by exfalso; omega) (fun h124 => ?_)
    refine zV_aload_n (i := 0) (n := 128) C dX9_copy_127 rfl rfl rfl ?_
    refine zV_getP (f := 18) (n := 131) C zk8 fX9_44 dX9_copy_128 zs_ref rfl (by decide) rfl ?_
    refine zV_iload (n := 133) C dX9_copy_131 rfl rfl ?_
    refine zV_aload_n (i := 0) (n := 134) C dX9_copy_133 rfl rfl rfl ?_
    refine zV_getP (f := 17) (n := 137) C zk8 fX9_40 dX9_copy_134 zs_ref rfl (by decide) rfl ?_
    refine zV_bipush (n := 139) C dX9_copy_137 (by decide) rfl ?_
    refine zV_iload_n (i := 1) (n := 140) C dX9_copy_139 rfl rfl rfl ?_
    refine zV_imul (n := 141) C dX9_copy_140 rfl ?_
    refine zV_iload_n (i := 2) (n := 142) C dX9_copy_141 rfl rfl rfl ?_
    refine zV_iadd (n := 143) C dX9_copy_142 rfl ?_
    refine zV_iload (n := 145) C dX9_copy_143 rfl rfl ?_
    refine zV_iadd (n := 146) C dX9_copy_145 rfl ?_
    refine zV_lald (n := 147) C dX9_copy_146 zs_numbers (by omega) (by decide) rfl ?_
    rw [show zset μ 5 12 (fun i => if i < k then (fun i => μ 5 11 (40 * j + f + i)) i else μ 5 12 i) 5 11 = μ 5 11 from zset_ne (by decide)]
    rw [show μ 5 11 (40 * j + f + k) = (fun i => μ 5 11 (40 * j + f + i)) k from rfl]
    refine zV_last (n := 148) C dX9_copy_147 zs_moved (by omega) (by decide) rfl ?_
    rw [zup_set, zcp_step]
    refine zS_iinc_7_6 (n := 151) C dX9_copy_148 rfl rfl ?_
    refine zV_goto C 120 dX9_copy_151 (by decide) ?_
    exact ih (k + 1) (by omega) (by omega)

set_option maxRecDepth 100000 in
set_option maxHeartbeats 4000000 in
theorem m_copy_b {Γ : zC} {l : Launch} {d : Nat} {p : Program} {e : Env} {s : State} {m : MethodId} {args : Array Value} {below : List Frame} {meth : Method} {c : Code} {Q : State → Prop} (C : zCx Γ (zAA Γ) p s m args c RX9 cX9_copy 7) {μ : zMem} {j f t o n : Int} (hj : 0 ≤ j ∧ j < 4) (ht : 0 ≤ t ∧ t < 4) (hf : 0 ≤ f ∧ f + n ≤ 40) (ho : 0 ≤ o ∧ o + n ≤ 40) (KK : ∀ v6 : Value, zV Γ (zAA Γ) p l e (zRm (d + 2)) s m args below meth c 0 0 Q 192 [.ref (za Γ 5 0), .int (zi j), .int (zi f), .int (zi t), .int (zi o), .int (zi n), v6] [] (zset μ 5 11 (fun i => if (40 * t + o) ≤ i ∧ i < (40 * t + o) + n then (μ 5 12) (i - (40 * t + o)) else μ 5 11 i))) :
    ∀ (i : Nat) (k : Int) (h0 : 0 ≤ k) (hi : k + i = n), zV Γ (zAA Γ) p l e (zRm (d + 2)) s m args below meth c 0 0 Q 157 [.ref (za Γ 5 0), .int (zi j), .int (zi f), .int (zi t), .int (zi o), .int (zi n), .int (zi k)] [] (zset μ 5 11 (fun i => if (40 * t + o) ≤ i ∧ i < (40 * t + o) + k then (μ 5 12) (i - (40 * t + o)) else μ 5 11 i)) := by
  intro i
  induction i with
  | zero =>
    intro k h0 hi
    have hk : k = n := by omega
    subst hk
    refine zV_iload (n := 159) C dX9_copy_157 rfl rfl ?_
    refine zV_iload (n := 161) C dX9_copy_159 rfl rfl ?_
    refine zV_icmp_ge (n := 164) C 192 dX9_copy_161 (by decide) (by omega) (by omega) rfl (fun h161 => ?_) (fun h => by exfalso; omega)
    exact KK _
  | succ i ih =>
    intro k h0 hi
    refine zV_iload (n := 159) C dX9_copy_157 rfl rfl ?_
    refine zV_iload (n := 161) C dX9_copy_159 rfl rfl ?_
    refine zV_icmp_ge (n := 164) C 192 dX9_copy_161 (by decide) (by omega) (by omega) rfl (fun h => by exfalso; omega) (fun h161 => ?_)
    refine zV_aload_n (i := 0) (n := 165) C dX9_copy_164 rfl rfl rfl ?_
    refine zV_getP (f := 17) (n := 168) C zk8 fX9_40 dX9_copy_165 zs_ref rfl (by decide) rfl ?_
    refine zV_bipush (n := 170) C dX9_copy_168 (by decide) rfl ?_
    refine zV_iload_n (i := 3) (n := 171) C dX9_copy_170 rfl rfl rfl ?_
    refine zV_imul (n := 172) C dX9_copy_171 rfl ?_
    refine zV_iload (n := 174) C dX9_copy_172 rfl rfl ?_
    refine zV_iadd (n := 175) C dX9_copy_174 rfl ?_
    refine zV_iload (n := 177) C dX9_copy_175 rfl rfl ?_
    refine zV_iadd (n := 178) C dX9_copy_177 rfl ?_
    refine zV_aload_n (i := 0) (n := 179) C dX9_copy_178 rfl rfl rfl ?_
    refine zV_getP (f := 18) (n := 182) C zk8 fX9_44 dX9_copy_179 zs_ref rfl (by decide) rfl ?_
    refine zV_iload (n := 184) C dX9_copy_182 rfl rfl ?_
    refine zV_lald (n := 185) C dX9_copy_184 zs_moved (by omega) (by decide) rfl ?_
    rw [show (zset μ 5 11 (fun i => if (40 * t + o) ≤ i ∧ i < (40 * t + o) + k then (μ 5 12) (i - (40 * t + o)) else μ 5 11 i)) 5 12 = (μ 5 12) from zset_ne (by decide)]
    refine zV_last (n := 186) C dX9_copy_185 zs_numbers (by omega) (by decide) rfl ?_
    rw [zup_set, rCp_step h0]
    refine zS_iinc_7_6 (n := 189) C dX9_copy_186 rfl rfl ?_
    refine zV_goto C 157 dX9_copy_189 (by decide) ?_
    exact ih (k + 1) (by omega) (by omega)

theorem rCopy_eq {μ : zMem} {j f t o n : Int} : zset (zset μ 5 12 (fun i => if i < n then (fun i => μ 5 11 (40 * j + f + i)) i else μ 5 12 i)) 5 11 (fun i => if (40 * t + o) ≤ i ∧ i < (40 * t + o) + n then (zset μ 5 12 (fun i => if i < n then (fun i => μ 5 11 (40 * j + f + i)) i else μ 5 12 i)) 5 12 (i - (40 * t + o)) else (zset μ 5 12 (fun i => if i < n then (fun i => μ 5 11 (40 * j + f + i)) i else μ 5 12 i)) 5 11 i) = zset (zset μ 5 12 (fun i => if i < n then (fun i => μ 5 11 (40 * j + f + i)) i else μ 5 12 i)) 5 11 (rCopy (μ 5 11) (40 * j + f) (40 * t + o) n) := by
  refine congrArg _ (funext fun i => ?_)
  unfold rCopy
  by_cases hi : (40 * t + o) ≤ i ∧ i < (40 * t + o) + n
  · rw [if_pos hi, if_pos hi, zset_at, if_pos (by omega)]
  · rw [if_neg hi, if_neg hi, zset_ne (by decide)]
set_option maxRecDepth 100000 in
set_option maxHeartbeats 4000000 in
theorem m_copy {Γ : zC} {l : Launch} {d : Nat} {μ : zMem} (hS : rSh (μ 5 9) (μ 5 10) (μ 5 11)) {j : Int} (hj : -2147483648 ≤ j ∧ j ≤ 2147483647) {f : Int} (hf : -2147483648 ≤ f ∧ f ≤ 2147483647) {t : Int} (ht : -2147483648 ≤ t ∧ t ≤ 2147483647) {o : Int} (ho : -2147483648 ≤ o ∧ o ≤ 2147483647) {n : Int} (hn : -2147483648 ≤ n ∧ n ≤ 2147483647) : zRet Γ l (d + 2) qX9_copy [.ref (za Γ 5 0), .int (zi j), .int (zi f), .int (zi t), .int (zi o), .int (zi n)] μ (some (.int (zi (if ((0 ≤ j ∧ j ≤ 3) ∧ (0 ≤ t ∧ t ≤ 3)) then (if (¬ (μ 5 9) j = 0 ∧ ¬ (μ 5 9) t = 0) then (if ((μ 5 9) j = (μ 5 9) t) then (if (0 ≤ f ∧ 0 ≤ o ∧ 0 ≤ n ∧ n ≤ (μ 5 10) j - f ∧ n ≤ (μ 5 10) t - o) then n else -1000000001) else -1000000003) else -1000000006) else -1000000001)))) (if ((0 ≤ j ∧ j ≤ 3) ∧ (0 ≤ t ∧ t ≤ 3)) then (if (¬ (μ 5 9) j = 0 ∧ ¬ (μ 5 9) t = 0) then (if ((μ 5 9) j = (μ 5 9) t) then (if (0 ≤ f ∧ 0 ≤ o ∧ 0 ≤ n ∧ n ≤ (μ 5 10) j - f ∧ n ≤ (μ 5 10) t - o) then (zset (zset μ 5 12 (fun i => if i < n then (fun i => μ 5 11 (40 * j + f + i)) i else μ 5 12 i)) 5 11 (rCopy (μ 5 11) (40 * j + f) (40 * t + o) n)) else zset μ 5 5 (rFind (μ 5 5) (-1000000001))) else zset μ 5 5 (rFind (μ 5 5) (-1000000003))) else zset μ 5 5 (rFind (μ 5 5) (-1000000006))) else zset μ 5 5 (rFind (μ 5 5) (-1000000001))) := by
  refine zRet.mk 1 [.ref (za Γ 5 0), .int (zi j), .int (zi f), .int (zi t), .int (zi o), .int (zi n), .null] RX9 rfl (by decide +kernel) (Nat.le_of_ble_eq_true rfl) rfl ?_
  intro p e s m below meth c C hr hlk
  refine zV_iload_n (i := 1) (n := 1) C dX9_copy_0 rfl rfl rfl ?_
  refine zV_callS1u (n := 4) C jX9_isOne lX9_298 (m_isOne (d := d) (by omega)) dX9_copy_1 (Nat.le_of_ble_eq_true rfl) (zfit_of (by omega) (by decide)) ⟨Nat.le_refl _, Nat.le_refl _⟩ rfl ?_
  refine zV_if_eq (n := 7) C 14 dX9_copy_4 (by decide) (by first | omega | exact zb_rg) rfl (fun h4 => ?_) (fun h4 => ?_)
  · skip
    simp only [zb_eq0, Decidable.not_not] at h4
    refine zV_aload_n (i := 0) (n := 15) C dX9_copy_14 rfl rfl rfl ?_
    refine zV_ldc (n := 17) C dX9_copy_15 kX9_51 rfl ?_
    refine zV_callV1u (n := 20) C zk8 jX9_finds lX9_75 (m_finds (d := d) (by omega)) dX9_copy_17 zs_ref rfl (Nat.le_of_ble_eq_true rfl) (zfit_of (by omega) (by decide)) ⟨Nat.le_refl _, Nat.le_refl _⟩ rfl ?_
    exact zV_ireturn C hr hlk dX9_copy_20 (by first | exact congrArg (fun z => some (Value.int (zi z))) (zif_t (by omega) (zif_t (by omega) (zif_t (by omega) (zif_t (by omega) (rfl))))) | exact congrArg (fun z => some (Value.int (zi z))) (zif_t (by omega) (zif_t (by omega) (zif_t (by omega) (zif_f (by omega) rfl)))) | exact congrArg (fun z => some (Value.int (zi z))) (zif_t (by omega) (zif_t (by omega) (zif_f (by omega) rfl))) | exact congrArg (fun z => some (Value.int (zi z))) (zif_t (by omega) (zif_f (by omega) rfl)) | exact congrArg (fun z => some (Value.int (zi z))) (zif_f (by omega) rfl)) (by first | exact zif_t (by omega) (zif_t (by omega) (zif_t (by omega) (zif_t (by omega) (rfl)))) | exact zif_t (by omega) (zif_t (by omega) (zif_t (by omega) (zif_f (by omega) rfl))) | exact zif_t (by omega) (zif_t (by omega) (zif_f (by omega) rfl)) | exact zif_t (by omega) (zif_f (by omega) rfl) | exact zif_f (by omega) rfl)
  · skip
    simp only [zb_eq0, Decidable.not_not] at h4
    refine zV_iload_n (i := 3) (n := 8) C dX9_copy_7 rfl rfl rfl ?_
    refine zV_callS1u (n := 11) C jX9_isOne lX9_298 (m_isOne (d := d) (by omega)) dX9_copy_8 (Nat.le_of_ble_eq_true rfl) (zfit_of (by omega) (by decide)) ⟨Nat.le_refl _, Nat.le_refl _⟩ rfl ?_
    refine zV_if_ne (n := 14) C 21 dX9_copy_11 (by decide) (by first | omega | exact zb_rg) rfl (fun h11 => ?_) (fun h11 => ?_)
    · skip
      simp only [zb_eq0, Decidable.not_not] at h11
      have hqj := hS.1 j (by omega) (by omega)
      have hqt := hS.1 t (by omega) (by omega)
      refine zV_aload_n (i := 0) (n := 22) C dX9_copy_21 rfl rfl rfl ?_
      refine zV_getP (f := 15) (n := 25) C zk8 fX9_34 dX9_copy_22 zs_ref rfl (by decide) rfl ?_
      refine zV_iload_n (i := 1) (n := 26) C dX9_copy_25 rfl rfl rfl ?_
      refine zV_iald (n := 27) C dX9_copy_26 zs_bitsOf (by first | omega | exact zb_rg) (by decide) rfl ?_
      refine zV_if_eq (n := 30) C 39 dX9_copy_27 (by decide) (by first | omega | exact zb_rg) rfl (fun h27 => ?_) (fun h27 => ?_)
      · skip
        refine zV_aload_n (i := 0) (n := 40) C dX9_copy_39 rfl rfl rfl ?_
        refine zV_ldc_w (n := 43) C dX9_copy_40 kX9_301 rfl ?_
        refine zV_callV1u (n := 46) C zk8 jX9_finds lX9_75 (m_finds (d := d) (by omega)) dX9_copy_43 zs_ref rfl (Nat.le_of_ble_eq_true rfl) (zfit_of (by omega) (by decide)) ⟨Nat.le_refl _, Nat.le_refl _⟩ rfl ?_
        exact zV_ireturn C hr hlk dX9_copy_46 (by first | exact congrArg (fun z => some (Value.int (zi z))) (zif_t (by omega) (zif_t (by omega) (zif_t (by omega) (zif_t (by omega) (rfl))))) | exact congrArg (fun z => some (Value.int (zi z))) (zif_t (by omega) (zif_t (by omega) (zif_t (by omega) (zif_f (by omega) rfl)))) | exact congrArg (fun z => some (Value.int (zi z))) (zif_t (by omega) (zif_t (by omega) (zif_f (by omega) rfl))) | exact congrArg (fun z => some (Value.int (zi z))) (zif_t (by omega) (zif_f (by omega) rfl)) | exact congrArg (fun z => some (Value.int (zi z))) (zif_f (by omega) rfl)) (by first | exact zif_t (by omega) (zif_t (by omega) (zif_t (by omega) (zif_t (by omega) (rfl)))) | exact zif_t (by omega) (zif_t (by omega) (zif_t (by omega) (zif_f (by omega) rfl))) | exact zif_t (by omega) (zif_t (by omega) (zif_f (by omega) rfl)) | exact zif_t (by omega) (zif_f (by omega) rfl) | exact zif_f (by omega) rfl)
      · skip
        refine zV_aload_n (i := 0) (n := 31) C dX9_copy_30 rfl rfl rfl ?_
        refine zV_getP (f := 15) (n := 34) C zk8 fX9_34 dX9_copy_31 zs_ref rfl (by decide) rfl ?_
        refine zV_iload_n (i := 3) (n := 35) C dX9_copy_34 rfl rfl rfl ?_
        refine zV_iald (n := 36) C dX9_copy_35 zs_bitsOf (by first | omega | exact zb_rg) (by decide) rfl ?_
        refine zV_if_ne (n := 39) C 47 dX9_copy_36 (by decide) (by first | omega | exact zb_rg) rfl (fun h36 => ?_) (fun h36 => ?_)
        · skip
          refine zV_aload_n (i := 0) (n := 48) C dX9_copy_47 rfl rfl rfl ?_
          refine zV_getP (f := 15) (n := 51) C zk8 fX9_34 dX9_copy_48 zs_ref rfl (by decide) rfl ?_
          refine zV_iload_n (i := 1) (n := 52) C dX9_copy_51 rfl rfl rfl ?_
          refine zV_iald (n := 53) C dX9_copy_52 zs_bitsOf (by first | omega | exact zb_rg) (by decide) rfl ?_
          refine zV_aload_n (i := 0) (n := 54) C dX9_copy_53 rfl rfl rfl ?_
          refine zV_getP (f := 15) (n := 57) C zk8 fX9_34 dX9_copy_54 zs_ref rfl (by decide) rfl ?_
          refine zV_iload_n (i := 3) (n := 58) C dX9_copy_57 rfl rfl rfl ?_
          refine zV_iald (n := 59) C dX9_copy_58 zs_bitsOf (by first | omega | exact zb_rg) (by decide) rfl ?_
          refine zV_icmp_eq (n := 62) C 69 dX9_copy_59 (by decide) (by first | omega | exact zb_rg) (by first | omega | exact zb_rg) rfl (fun h59 => ?_) (fun h59 => ?_)
          · skip
            refine zV_iload_n (i := 2) (n := 70) C dX9_copy_69 rfl rfl rfl ?_
            refine zV_if_lt (n := 73) C 110 dX9_copy_70 (by decide) (by first | omega | exact zb_rg) rfl (fun h70 => ?_) (fun h70 => ?_)
            · skip
              refine zV_aload_n (i := 0) (n := 111) C dX9_copy_110 rfl rfl rfl ?_
              refine zV_ldc (n := 113) C dX9_copy_111 kX9_51 rfl ?_
              refine zV_callV1u (n := 116) C zk8 jX9_finds lX9_75 (m_finds (d := d) (by omega)) dX9_copy_113 zs_ref rfl (Nat.le_of_ble_eq_true rfl) (zfit_of (by omega) (by decide)) ⟨Nat.le_refl _, Nat.le_refl _⟩ rfl ?_
              exact zV_ireturn C hr hlk dX9_copy_116 (by first | exact congrArg (fun z => some (Value.int (zi z))) (zif_t (by omega) (zif_t (by omega) (zif_t (by omega) (zif_t (by omega) (rfl))))) | exact congrArg (fun z => some (Value.int (zi z))) (zif_t (by omega) (zif_t (by omega) (zif_t (by omega) (zif_f (by omega) rfl)))) | exact congrArg (fun z => some (Value.int (zi z))) (zif_t (by omega) (zif_t (by omega) (zif_f (by omega) rfl))) | exact congrArg (fun z => some (Value.int (zi z))) (zif_t (by omega) (zif_f (by omega) rfl)) | exact congrArg (fun z => some (Value.int (zi z))) (zif_f (by omega) rfl)) (by first | exact zif_t (by omega) (zif_t (by omega) (zif_t (by omega) (zif_t (by omega) (rfl)))) | exact zif_t (by omega) (zif_t (by omega) (zif_t (by omega) (zif_f (by omega) rfl))) | exact zif_t (by omega) (zif_t (by omega) (zif_f (by omega) rfl)) | exact zif_t (by omega) (zif_f (by omega) rfl) | exact zif_f (by omega) rfl)
            · skip
              refine zV_iload (n := 75) C dX9_copy_73 rfl rfl ?_
              refine zV_if_lt (n := 78) C 110 dX9_copy_75 (by decide) (by first | omega | exact zb_rg) rfl (fun h75 => ?_) (fun h75 => ?_)
              · skip
                refine zV_aload_n (i := 0) (n := 111) C dX9_copy_110 rfl rfl rfl ?_
                refine zV_ldc (n := 113) C dX9_copy_111 kX9_51 rfl ?_
                refine zV_callV1u (n := 116) C zk8 jX9_finds lX9_75 (m_finds (d := d) (by omega)) dX9_copy_113 zs_ref rfl (Nat.le_of_ble_eq_true rfl) (zfit_of (by omega) (by decide)) ⟨Nat.le_refl _, Nat.le_refl _⟩ rfl ?_
                exact zV_ireturn C hr hlk dX9_copy_116 (by first | exact congrArg (fun z => some (Value.int (zi z))) (zif_t (by omega) (zif_t (by omega) (zif_t (by omega) (zif_t (by omega) (rfl))))) | exact congrArg (fun z => some (Value.int (zi z))) (zif_t (by omega) (zif_t (by omega) (zif_t (by omega) (zif_f (by omega) rfl)))) | exact congrArg (fun z => some (Value.int (zi z))) (zif_t (by omega) (zif_t (by omega) (zif_f (by omega) rfl))) | exact congrArg (fun z => some (Value.int (zi z))) (zif_t (by omega) (zif_f (by omega) rfl)) | exact congrArg (fun z => some (Value.int (zi z))) (zif_f (by omega) rfl)) (by first | exact zif_t (by omega) (zif_t (by omega) (zif_t (by omega) (zif_t (by omega) (rfl)))) | exact zif_t (by omega) (zif_t (by omega) (zif_t (by omega) (zif_f (by omega) rfl))) | exact zif_t (by omega) (zif_t (by omega) (zif_f (by omega) rfl)) | exact zif_t (by omega) (zif_f (by omega) rfl) | exact zif_f (by omega) rfl)
              · skip
                refine zV_iload (n := 80) C dX9_copy_78 rfl rfl ?_
                refine zV_if_lt (n := 83) C 110 dX9_copy_80 (by decide) (by first | omega | exact zb_rg) rfl (fun h80 => ?_) (fun h80 => ?_)
                · skip
                  refine zV_aload_n (i := 0) (n := 111) C dX9_copy_110 rfl rfl rfl ?_
                  refine zV_ldc (n := 113) C dX9_copy_111 kX9_51 rfl ?_
                  refine zV_callV1u (n := 116) C zk8 jX9_finds lX9_75 (m_finds (d := d) (by omega)) dX9_copy_113 zs_ref rfl (Nat.le_of_ble_eq_true rfl) (zfit_of (by omega) (by decide)) ⟨Nat.le_refl _, Nat.le_refl _⟩ rfl ?_
                  exact zV_ireturn C hr hlk dX9_copy_116 (by first | exact congrArg (fun z => some (Value.int (zi z))) (zif_t (by omega) (zif_t (by omega) (zif_t (by omega) (zif_t (by omega) (rfl))))) | exact congrArg (fun z => some (Value.int (zi z))) (zif_t (by omega) (zif_t (by omega) (zif_t (by omega) (zif_f (by omega) rfl)))) | exact congrArg (fun z => some (Value.int (zi z))) (zif_t (by omega) (zif_t (by omega) (zif_f (by omega) rfl))) | exact congrArg (fun z => some (Value.int (zi z))) (zif_t (by omega) (zif_f (by omega) rfl)) | exact congrArg (fun z => some (Value.int (zi z))) (zif_f (by omega) rfl)) (by first | exact zif_t (by omega) (zif_t (by omega) (zif_t (by omega) (zif_t (by omega) (rfl)))) | exact zif_t (by omega) (zif_t (by omega) (zif_t (by omega) (zif_f (by omega) rfl))) | exact zif_t (by omega) (zif_t (by omega) (zif_f (by omega) rfl)) | exact zif_t (by omega) (zif_f (by omega) rfl) | exact zif_f (by omega) rfl)
                · skip
                  refine zV_iload (n := 85) C dX9_copy_83 rfl rfl ?_
                  refine zV_aload_n (i := 0) (n := 86) C dX9_copy_85 rfl rfl rfl ?_
                  refine zV_getP (f := 16) (n := 89) C zk8 fX9_37 dX9_copy_86 zs_ref rfl (by decide) rfl ?_
                  refine zV_iload_n (i := 1) (n := 90) C dX9_copy_89 rfl rfl rfl ?_
                  refine zV_iald (n := 91) C dX9_copy_90 zs_sizeOf (by first | omega | exact zb_rg) (by decide) rfl ?_
                  refine zV_iload_n (i := 2) (n := 92) C dX9_copy_91 rfl rfl rfl ?_
                  refine zV_isub (n := 93) C dX9_copy_92 rfl ?_
                  refine zV_icmp_gt (n := 96) C 110 dX9_copy_93 (by decide) (by first | omega | exact zb_rg) (by first | omega | exact zb_rg) rfl (fun h93 => ?_) (fun h93 => ?_)
                  · skip
                    refine zV_aload_n (i := 0) (n := 111) C dX9_copy_110 rfl rfl rfl ?_
                    refine zV_ldc (n := 113) C dX9_copy_111 kX9_51 rfl ?_
                    refine zV_callV1u (n := 116) C zk8 jX9_finds lX9_75 (m_finds (d := d) (by omega)) dX9_copy_113 zs_ref rfl (Nat.le_of_ble_eq_true rfl) (zfit_of (by omega) (by decide)) ⟨Nat.le_refl _, Nat.le_refl _⟩ rfl ?_
                    exact zV_ireturn C hr hlk dX9_copy_116 (by first | exact congrArg (fun z => some (Value.int (zi z))) (zif_t (by omega) (zif_t (by omega) (zif_t (by omega) (zif_t (by omega) (rfl))))) | exact congrArg (fun z => some (Value.int (zi z))) (zif_t (by omega) (zif_t (by omega) (zif_t (by omega) (zif_f (by omega) rfl)))) | exact congrArg (fun z => some (Value.int (zi z))) (zif_t (by omega) (zif_t (by omega) (zif_f (by omega) rfl))) | exact congrArg (fun z => some (Value.int (zi z))) (zif_t (by omega) (zif_f (by omega) rfl)) | exact congrArg (fun z => some (Value.int (zi z))) (zif_f (by omega) rfl)) (by first | exact zif_t (by omega) (zif_t (by omega) (zif_t (by omega) (zif_t (by omega) (rfl)))) | exact zif_t (by omega) (zif_t (by omega) (zif_t (by omega) (zif_f (by omega) rfl))) | exact zif_t (by omega) (zif_t (by omega) (zif_f (by omega) rfl)) | exact zif_t (by omega) (zif_f (by omega) rfl) | exact zif_f (by omega) rfl)
                  · skip
                    refine zV_iload (n := 98) C dX9_copy_96 rfl rfl ?_
                    refine zV_aload_n (i := 0) (n := 99) C dX9_copy_98 rfl rfl rfl ?_
                    refine zV_getP (f := 16) (n := 102) C zk8 fX9_37 dX9_copy_99 zs_ref rfl (by decide) rfl ?_
                    refine zV_iload_n (i := 3) (n := 103) C dX9_copy_102 rfl rfl rfl ?_
                    refine zV_iald (n := 104) C dX9_copy_103 zs_sizeOf (by first | omega | exact zb_rg) (by decide) rfl ?_
                    refine zV_iload (n := 106) C dX9_copy_104 rfl rfl ?_
                    refine zV_isub (n := 107) C dX9_copy_106 rfl ?_
                    refine zV_icmp_le (n := 110) C 117 dX9_copy_107 (by decide) (by first | omega | exact zb_rg) (by first | omega | exact zb_rg) rfl (fun h107 => ?_) (fun h107 => ?_)
                    · skip
                      refine zV_iconst (n := 118) C dX9_copy_117 rfl ?_
                      refine zS_istore_7_6 (n := 120) C dX9_copy_118 rfl rfl ?_
                      have hj4 : 0 ≤ j ∧ j < 4 := by omega
                      have ht4 : 0 ≤ t ∧ t < 4 := by omega
                      refine zV_mem (μ' := zset μ 5 12 (fun i => if i < 0 then (fun i => μ 5 11 (40 * j + f + i)) i else μ 5 12 i)) (by have h := zag_row (μ := μ) (F := μ 5 12) (G := fun i => if i < 0 then (fun i => μ 5 11 (40 * j + f + i)) i else μ 5 12 i) zs_moved (fun q g0 g1 => by rw [if_neg (by omega)]); rw [zset_self] at h; exact h) ?_
                      refine m_copy_a C hj4 ht4 (by omega) (by omega) (fun v6 => ?_) n.toNat 0 (by omega) (by omega)
                      refine zV_iconst (n := 155) C dX9_copy_154 rfl ?_
                      refine zS_istore_7_6 (n := 157) C dX9_copy_155 rfl rfl ?_
                      refine zV_eqm (μ' := zset (zset μ 5 12 (fun i => if i < n then (fun i => μ 5 11 (40 * j + f + i)) i else μ 5 12 i)) 5 11 (fun i => if (40 * t + o) ≤ i ∧ i < (40 * t + o) + 0 then (zset μ 5 12 (fun i => if i < n then (fun i => μ 5 11 (40 * j + f + i)) i else μ 5 12 i)) 5 12 (i - (40 * t + o)) else (zset μ 5 12 (fun i => if i < n then (fun i => μ 5 11 (40 * j + f + i)) i else μ 5 12 i)) 5 11 i)) zst1.symm ?_
                      refine m_copy_b (μ := (zset μ 5 12 (fun i => if i < n then (fun i => μ 5 11 (40 * j + f + i)) i else μ 5 12 i))) C hj4 ht4 (by omega) (by omega) (fun v7 => ?_) n.toNat 0 (by omega) (by omega)
                      refine zV_eqm (μ' := (zset (zset μ 5 12 (fun i => if i < n then (fun i => μ 5 11 (40 * j + f + i)) i else μ 5 12 i)) 5 11 (rCopy (μ 5 11) (40 * j + f) (40 * t + o) n))) (rCopy_eq) ?_
                      refine zV_iload (n := 194) C dX9_copy_192 rfl rfl ?_
                      exact zV_ireturn C hr hlk dX9_copy_194 (by first | exact congrArg (fun z => some (Value.int (zi z))) (zif_t (by omega) (zif_t (by omega) (zif_t (by omega) (zif_t (by omega) rfl))))) (by exact zif_t (by omega) (zif_t (by omega) (zif_t (by omega) (zif_t (by omega) rfl))))
                    · skip
                      refine zV_aload_n (i := 0) (n := 111) C dX9_copy_110 rfl rfl rfl ?_
                      refine zV_ldc (n := 113) C dX9_copy_111 kX9_51 rfl ?_
                      refine zV_callV1u (n := 116) C zk8 jX9_finds lX9_75 (m_finds (d := d) (by omega)) dX9_copy_113 zs_ref rfl (Nat.le_of_ble_eq_true rfl) (zfit_of (by omega) (by decide)) ⟨Nat.le_refl _, Nat.le_refl _⟩ rfl ?_
                      exact zV_ireturn C hr hlk dX9_copy_116 (by first | exact congrArg (fun z => some (Value.int (zi z))) (zif_t (by omega) (zif_t (by omega) (zif_t (by omega) (zif_t (by omega) (rfl))))) | exact congrArg (fun z => some (Value.int (zi z))) (zif_t (by omega) (zif_t (by omega) (zif_t (by omega) (zif_f (by omega) rfl)))) | exact congrArg (fun z => some (Value.int (zi z))) (zif_t (by omega) (zif_t (by omega) (zif_f (by omega) rfl))) | exact congrArg (fun z => some (Value.int (zi z))) (zif_t (by omega) (zif_f (by omega) rfl)) | exact congrArg (fun z => some (Value.int (zi z))) (zif_f (by omega) rfl)) (by first | exact zif_t (by omega) (zif_t (by omega) (zif_t (by omega) (zif_t (by omega) (rfl)))) | exact zif_t (by omega) (zif_t (by omega) (zif_t (by omega) (zif_f (by omega) rfl))) | exact zif_t (by omega) (zif_t (by omega) (zif_f (by omega) rfl)) | exact zif_t (by omega) (zif_f (by omega) rfl) | exact zif_f (by omega) rfl)
          · skip
            refine zV_aload_n (i := 0) (n := 63) C dX9_copy_62 rfl rfl rfl ?_
            refine zV_ldc (n := 65) C dX9_copy_63 kX9_114 rfl ?_
            refine zV_callV1u (n := 68) C zk8 jX9_finds lX9_75 (m_finds (d := d) (by omega)) dX9_copy_65 zs_ref rfl (Nat.le_of_ble_eq_true rfl) (zfit_of (by omega) (by decide)) ⟨Nat.le_refl _, Nat.le_refl _⟩ rfl ?_
            exact zV_ireturn C hr hlk dX9_copy_68 (by first | exact congrArg (fun z => some (Value.int (zi z))) (zif_t (by omega) (zif_t (by omega) (zif_t (by omega) (zif_t (by omega) (rfl))))) | exact congrArg (fun z => some (Value.int (zi z))) (zif_t (by omega) (zif_t (by omega) (zif_t (by omega) (zif_f (by omega) rfl)))) | exact congrArg (fun z => some (Value.int (zi z))) (zif_t (by omega) (zif_t (by omega) (zif_f (by omega) rfl))) | exact congrArg (fun z => some (Value.int (zi z))) (zif_t (by omega) (zif_f (by omega) rfl)) | exact congrArg (fun z => some (Value.int (zi z))) (zif_f (by omega) rfl)) (by first | exact zif_t (by omega) (zif_t (by omega) (zif_t (by omega) (zif_t (by omega) (rfl)))) | exact zif_t (by omega) (zif_t (by omega) (zif_t (by omega) (zif_f (by omega) rfl))) | exact zif_t (by omega) (zif_t (by omega) (zif_f (by omega) rfl)) | exact zif_t (by omega) (zif_f (by omega) rfl) | exact zif_f (by omega) rfl)
        · skip
          refine zV_aload_n (i := 0) (n := 40) C dX9_copy_39 rfl rfl rfl ?_
          refine zV_ldc_w (n := 43) C dX9_copy_40 kX9_301 rfl ?_
          refine zV_callV1u (n := 46) C zk8 jX9_finds lX9_75 (m_finds (d := d) (by omega)) dX9_copy_43 zs_ref rfl (Nat.le_of_ble_eq_true rfl) (zfit_of (by omega) (by decide)) ⟨Nat.le_refl _, Nat.le_refl _⟩ rfl ?_
          exact zV_ireturn C hr hlk dX9_copy_46 (by first | exact congrArg (fun z => some (Value.int (zi z))) (zif_t (by omega) (zif_t (by omega) (zif_t (by omega) (zif_t (by omega) (rfl))))) | exact congrArg (fun z => some (Value.int (zi z))) (zif_t (by omega) (zif_t (by omega) (zif_t (by omega) (zif_f (by omega) rfl)))) | exact congrArg (fun z => some (Value.int (zi z))) (zif_t (by omega) (zif_t (by omega) (zif_f (by omega) rfl))) | exact congrArg (fun z => some (Value.int (zi z))) (zif_t (by omega) (zif_f (by omega) rfl)) | exact congrArg (fun z => some (Value.int (zi z))) (zif_f (by omega) rfl)) (by first | exact zif_t (by omega) (zif_t (by omega) (zif_t (by omega) (zif_t (by omega) (rfl)))) | exact zif_t (by omega) (zif_t (by omega) (zif_t (by omega) (zif_f (by omega) rfl))) | exact zif_t (by omega) (zif_t (by omega) (zif_f (by omega) rfl)) | exact zif_t (by omega) (zif_f (by omega) rfl) | exact zif_f (by omega) rfl)
    · skip
      simp only [zb_eq0, Decidable.not_not] at h11
      refine zV_aload_n (i := 0) (n := 15) C dX9_copy_14 rfl rfl rfl ?_
      refine zV_ldc (n := 17) C dX9_copy_15 kX9_51 rfl ?_
      refine zV_callV1u (n := 20) C zk8 jX9_finds lX9_75 (m_finds (d := d) (by omega)) dX9_copy_17 zs_ref rfl (Nat.le_of_ble_eq_true rfl) (zfit_of (by omega) (by decide)) ⟨Nat.le_refl _, Nat.le_refl _⟩ rfl ?_
      exact zV_ireturn C hr hlk dX9_copy_20 (by first | exact congrArg (fun z => some (Value.int (zi z))) (zif_t (by omega) (zif_t (by omega) (zif_t (by omega) (zif_t (by omega) (rfl))))) | exact congrArg (fun z => some (Value.int (zi z))) (zif_t (by omega) (zif_t (by omega) (zif_t (by omega) (zif_f (by omega) rfl)))) | exact congrArg (fun z => some (Value.int (zi z))) (zif_t (by omega) (zif_t (by omega) (zif_f (by omega) rfl))) | exact congrArg (fun z => some (Value.int (zi z))) (zif_t (by omega) (zif_f (by omega) rfl)) | exact congrArg (fun z => some (Value.int (zi z))) (zif_f (by omega) rfl)) (by first | exact zif_t (by omega) (zif_t (by omega) (zif_t (by omega) (zif_t (by omega) (rfl)))) | exact zif_t (by omega) (zif_t (by omega) (zif_t (by omega) (zif_f (by omega) rfl))) | exact zif_t (by omega) (zif_t (by omega) (zif_f (by omega) rfl)) | exact zif_t (by omega) (zif_f (by omega) rfl) | exact zif_f (by omega) rfl)

set_option maxRecDepth 100000 in
set_option maxHeartbeats 4000000 in
theorem m_lays_loop {Γ : zC} {l : Launch} {d : Nat} {p : Program} {e : Env} {s : State} {m : MethodId} {args : Array Value} {below : List Frame} {meth : Method} {c : Code} {Q : State → Prop} (C : zCx Γ (zAA Γ) p s m args c RX9 cX9_lays 6) {μ : zMem} {N : Int} (hS : rSh (μ 5 9) (μ 5 10) (μ 5 11)) {j w : Int} (hj : 0 ≤ j ∧ j < 4) :
    ∀ (i : Nat) (k n : Int) (T : Int → Int) (v5 : Value) (JT : rInv N T) (hT : T 0 = (μ 5 1) 0) (h0 : 0 ≤ k) (hi : k + i ≤ (μ 5 10) j ∧ k + i ≤ (μ 5 1) 0 ∧ (k + i = (μ 5 10) j ∨ k + i = (μ 5 1) 0)) (KK : ∀ (v4 v5 : Value), zV Γ (zAA Γ) p l e (zRm (d + 3)) s m args below meth c 0 0 Q 122 [.ref (za Γ 5 0), .int (zi j), .int (zi w), .int (zi (rLayN (μ 5 11) (40 * j) i k n)), v4, v5] [] (zset μ 5 1 (rLayS (μ 5 11) (40 * j) i k T))), zV Γ (zAA Γ) p l e (zRm (d + 3)) s m args below meth c 0 0 Q 21 [.ref (za Γ 5 0), .int (zi j), .int (zi w), .int (zi n), .int (zi k), v5] [] (zset μ 5 1 T) := by
  intro i
  induction i with
  | zero =>
    intro k n T v5 JT hT h0 hi KK
    have h6 := JT.1
    have hq := hS.1 j hj.1 hj.2
    have I : rInv N (zset μ 5 1 T 5 1) := by rw [zset_at]; exact JT
    have hk : (k = μ 5 10 j ∧ k ≤ μ 5 1 0) ∨ (k = μ 5 1 0 ∧ k ≤ μ 5 10 j) := by omega
    refine zV_iload (n := 23) C dX9_lays_21 rfl rfl ?_
    refine zV_aload_n (i := 0) (n := 24) C dX9_lays_23 rfl rfl rfl ?_
    refine zV_getP (f := 16) (n := 27) C zk8 fX9_37 dX9_lays_24 zs_ref rfl (by decide) rfl ?_
    refine zV_iload_n (i := 1) (n := 28) C dX9_lays_27 rfl rfl rfl ?_
    refine zV_iald (n := 29) C dX9_lays_28 zs_sizeOf (by first | omega | exact zb_rg) (by decide) rfl ?_
    rw [show zset μ 5 1 T 5 10 = μ 5 10 from zset_ne (by decide)]
    refine zV_icmp_ge (n := 32) C 122 dX9_lays_29 (by decide) (by first | omega | exact zb_rg) (by first | omega | exact zb_rg) rfl (fun h29 => ?_) (fun h29 => ?_)
    · skip
      exact KK _ _
    · skip
      refine zV_iload (n := 34) C dX9_lays_32 rfl rfl ?_
      refine zV_aload_n (i := 0) (n := 35) C dX9_lays_34 rfl rfl rfl ?_
      refine zV_getP (f := 0) (n := 38) C zk8 fX9_7 dX9_lays_35 zs_ref rfl (by decide) rfl ?_
      refine zV_iconst (n := 39) C dX9_lays_38 rfl ?_
      refine zV_iald (n := 40) C dX9_lays_39 zs_s (by first | omega | exact zb_rg) (by decide) rfl ?_
      simp only [zset_at]
      refine zV_icmp_ge (n := 43) C 122 dX9_lays_40 (by decide) (by first | omega | exact zb_rg) (by first | omega | exact zb_rg) rfl (fun h40 => ?_) (fun h => by exfalso; first | omega | exact zb_rg)
      exact KK _ _
  | succ i ih =>
    intro k n T v5 JT hT h0 hi KK
    have h6 := JT.1
    have hq := hS.1 j hj.1 hj.2
    have I : rInv N (zset μ 5 1 T 5 1) := by rw [zset_at]; exact JT
    refine zV_iload (n := 23) C dX9_lays_21 rfl rfl ?_
    refine zV_aload_n (i := 0) (n := 24) C dX9_lays_23 rfl rfl rfl ?_
    refine zV_getP (f := 16) (n := 27) C zk8 fX9_37 dX9_lays_24 zs_ref rfl (by decide) rfl ?_
    refine zV_iload_n (i := 1) (n := 28) C dX9_lays_27 rfl rfl rfl ?_
    refine zV_iald (n := 29) C dX9_lays_28 zs_sizeOf (by first | omega | exact zb_rg) (by decide) rfl ?_
    rw [show zset μ 5 1 T 5 10 = μ 5 10 from zset_ne (by decide)]
    refine zV_icmp_ge (n := 32) C 122 dX9_lays_29 (by decide) (by first | omega | exact zb_rg) (by first | omega | exact zb_rg) rfl (fun h => by exfalso; first | omega | exact zb_rg) (fun h29 => ?_)
    refine zV_iload (n := 34) C dX9_lays_32 rfl rfl ?_
    refine zV_aload_n (i := 0) (n := 35) C dX9_lays_34 rfl rfl rfl ?_
    refine zV_getP (f := 0) (n := 38) C zk8 fX9_7 dX9_lays_35 zs_ref rfl (by decide) rfl ?_
    refine zV_iconst (n := 39) C dX9_lays_38 rfl ?_
    refine zV_iald (n := 40) C dX9_lays_39 zs_s (by first | omega | exact zb_rg) (by decide) rfl ?_
    simp only [zset_at]
    refine zV_icmp_ge (n := 43) C 122 dX9_lays_40 (by decide) (by first | omega | exact zb_rg) (by first | omega | exact zb_rg) rfl (fun h => by exfalso; first | omega | exact zb_rg) (fun h40 => ?_)
    refine zV_aload_n (i := 0) (n := 44) C dX9_lays_43 rfl rfl rfl ?_
    refine zV_getP (f := 17) (n := 47) C zk8 fX9_40 dX9_lays_44 zs_ref rfl (by decide) rfl ?_
    refine zV_bipush (n := 49) C dX9_lays_47 (by decide) rfl ?_
    refine zV_iload_n (i := 1) (n := 50) C dX9_lays_49 rfl rfl rfl ?_
    refine zV_imul (n := 51) C dX9_lays_50 rfl ?_
    refine zV_iload (n := 53) C dX9_lays_51 rfl rfl ?_
    refine zV_iadd (n := 54) C dX9_lays_53 rfl ?_
    refine zV_lald (n := 55) C dX9_lays_54 zs_numbers (by first | omega | exact zb_rg) (by decide) rfl ?_
    rw [show zset μ 5 1 T 5 11 = μ 5 11 from zset_ne (by decide)]
    have hv := hS.2 (40 * j + k) (by omega) (by omega)
    refine zV_lconst (v := 0) (n := 56) C dX9_lays_55 rfl rfl ?_
    refine zV_ldc2 (n := 59) C dX9_lays_56 kX9_66 rfl ?_
    refine zV_callS3u (n := 62) C jX9_in lX9_54 (m_in (d := d) (by omega) (by omega) (by omega)) dX9_lays_59 (Nat.le_of_ble_eq_true rfl) (zfit_of (by omega) (by decide)) ⟨Nat.le_refl _, Nat.le_refl _⟩ rfl ?_
    refine zS_istore_6_5 (n := 64) C dX9_lays_62 rfl rfl ?_
    refine zV_aload_n (i := 0) (n := 65) C dX9_lays_64 rfl rfl rfl ?_
    refine zV_getP (f := 0) (n := 68) C zk8 fX9_7 dX9_lays_65 zs_ref rfl (by decide) rfl ?_
    refine zV_iload (n := 70) C dX9_lays_68 rfl rfl ?_
    refine zV_iconst (n := 71) C dX9_lays_70 rfl ?_
    refine zV_callS2u (n := 74) C jX9_placeOf lX9_60 (m_placeOf (d := d) ) dX9_lays_71 (Nat.le_of_ble_eq_true rfl) (zfit_of (by omega) (by decide)) ⟨Nat.le_refl _, Nat.le_refl _⟩ rfl ?_
    refine zV_iload (n := 76) C dX9_lays_74 rfl rfl ?_
    refine zV_if_eq (n := 79) C 95 dX9_lays_76 (by decide) (by first | omega | exact zb_rg) rfl (fun h76 => ?_) (fun h76 => ?_)
    · skip
      simp only [zb_eq0, Decidable.not_not] at h76
      refine zV_aload_n (i := 0) (n := 96) C dX9_lays_95 rfl rfl rfl ?_
      refine zV_iload (n := 98) C dX9_lays_96 rfl rfl ?_
      refine zV_iconst (n := 99) C dX9_lays_98 rfl ?_
      refine zV_callV2u (n := 102) C zk8 jX9_told lX9_94 (m_told (d := d) (by omega)) dX9_lays_99 zs_ref rfl (Nat.le_of_ble_eq_true rfl) (zfit_of (by omega) (by decide)) ⟨Nat.le_refl _, Nat.le_refl _⟩ rfl ?_
      simp only [zset_at]
      refine zV_iast (n := 103) C dX9_lays_102 zs_s (by first | omega | exact zb_rg) (by decide) rfl ?_
      rw [zup_set]
      first | rw [zfu_toS] | skip
      refine zV_iload_n (i := 3) (n := 104) C dX9_lays_103 rfl rfl rfl ?_
      refine zV_iload (n := 106) C dX9_lays_104 rfl rfl ?_
      refine zV_if_eq (n := 109) C 113 dX9_lays_106 (by decide) (by first | omega | exact zb_rg) rfl (fun h106 => ?_) (fun h106 => ?_)
      · skip
        simp only [zb_eq0, Decidable.not_not] at h106
        refine zV_iconst (n := 114) C dX9_lays_113 rfl ?_
        refine zV_iadd (n := 115) C dX9_lays_114 rfl ?_
        refine zS_istore_n_6_3 (n := 116) C dX9_lays_115 rfl rfl ?_
        refine zS_iinc_6_4 (n := 119) C dX9_lays_116 rfl rfl ?_
        refine zV_goto C 21 dX9_lays_119 (by decide) ?_
        rw [show rLayN (μ 5 11) (40 * j) (i + 1) k n = rLayN (μ 5 11) (40 * j) i (k + 1) (n + 0) from by rw [rLayN, if_neg h76], show rLayS (μ 5 11) (40 * j) (i + 1) k T = rLayS (μ 5 11) (40 * j) i (k + 1) T from by rw [rLayS, if_neg h76]] at KK
        exact ih (k + 1) (n + 0) _ _ JT hT (by omega) (by omega) KK
      · skip
        simp only [zb_eq0, Decidable.not_not] at h106
        refine zV_iconst (n := 110) C dX9_lays_109 rfl ?_
        refine zV_goto C 114 dX9_lays_110 (by decide) ?_
        refine zV_iadd (n := 115) C dX9_lays_114 rfl ?_
        refine zS_istore_n_6_3 (n := 116) C dX9_lays_115 rfl rfl ?_
        refine zS_iinc_6_4 (n := 119) C dX9_lays_116 rfl rfl ?_
        refine zV_goto C 21 dX9_lays_119 (by decide) ?_
        exact absurd h106 h76
    · skip
      simp only [zb_eq0, Decidable.not_not] at h76
      refine zV_aload_n (i := 0) (n := 80) C dX9_lays_79 rfl rfl rfl ?_
      refine zV_getP (f := 17) (n := 83) C zk8 fX9_40 dX9_lays_80 zs_ref rfl (by decide) rfl ?_
      refine zV_bipush (n := 85) C dX9_lays_83 (by decide) rfl ?_
      refine zV_iload_n (i := 1) (n := 86) C dX9_lays_85 rfl rfl rfl ?_
      refine zV_imul (n := 87) C dX9_lays_86 rfl ?_
      refine zV_iload (n := 89) C dX9_lays_87 rfl rfl ?_
      refine zV_iadd (n := 90) C dX9_lays_89 rfl ?_
      refine zV_lald (n := 91) C dX9_lays_90 zs_numbers (by first | omega | exact zb_rg) (by decide) rfl ?_
      rw [show zset μ 5 1 T 5 11 = μ 5 11 from zset_ne (by decide)]
      refine zV_l2i (n := 92) C dX9_lays_91 rfl ?_
      refine zV_goto C 102 dX9_lays_92 (by decide) ?_
      refine zV_iast (n := 103) C dX9_lays_102 zs_s (by first | omega | exact zb_rg) (by decide) rfl ?_
      rw [zup_set]
      first | rw [zfu_toS] | skip
      refine zV_iload_n (i := 3) (n := 104) C dX9_lays_103 rfl rfl rfl ?_
      refine zV_iload (n := 106) C dX9_lays_104 rfl rfl ?_
      refine zV_if_eq (n := 109) C 113 dX9_lays_106 (by decide) (by first | omega | exact zb_rg) rfl (fun h106 => ?_) (fun h106 => ?_)
      · skip
        simp only [zb_eq0, Decidable.not_not] at h106
        refine zV_iconst (n := 114) C dX9_lays_113 rfl ?_
        refine zV_iadd (n := 115) C dX9_lays_114 rfl ?_
        refine zS_istore_n_6_3 (n := 116) C dX9_lays_115 rfl rfl ?_
        refine zS_iinc_6_4 (n := 119) C dX9_lays_116 rfl rfl ?_
        refine zV_goto C 21 dX9_lays_119 (by decide) ?_
        exact absurd h76 h106
      · skip
        simp only [zb_eq0, Decidable.not_not] at h106
        refine zV_iconst (n := 110) C dX9_lays_109 rfl ?_
        refine zV_goto C 114 dX9_lays_110 (by decide) ?_
        refine zV_iadd (n := 115) C dX9_lays_114 rfl ?_
        refine zS_istore_n_6_3 (n := 116) C dX9_lays_115 rfl rfl ?_
        refine zS_iinc_6_4 (n := 119) C dX9_lays_116 rfl rfl ?_
        refine zV_goto C 21 dX9_lays_119 (by decide) ?_
        rw [show rLayN (μ 5 11) (40 * j) (i + 1) k n = rLayN (μ 5 11) (40 * j) i (k + 1) (n + 1) from by rw [rLayN, if_pos h76], show rLayS (μ 5 11) (40 * j) (i + 1) k T = rLayS (μ 5 11) (40 * j) i (k + 1) (zfu T (19 + 6 * k + 2) ((μ 5 11) ((40 * j) + k))) from by rw [rLayS, if_pos h76]] at KK
        exact ih (k + 1) (n + 1) _ _ (rInv_kid JT (by omega) (by omega) (by simp; omega)) (by rw [zfu_ne (by omega)]; exact hT) (by omega) (by omega) KK

set_option maxRecDepth 100000 in
set_option maxHeartbeats 4000000 in
theorem m_lays {Γ : zC} {l : Launch} {d : Nat} {μ : zMem} {N : Int} (I : rInv N (μ 5 1)) (hS : rSh (μ 5 9) (μ 5 10) (μ 5 11)) {j : Int} (hj : -2147483648 ≤ j ∧ j ≤ 2147483647) : zRet Γ l (d + 3) qX9_lays [.ref (za Γ 5 0), .int (zi j)] μ (some (.int (zi (if rWsh (μ 5 9) j = 0 then rLayN (μ 5 11) (40 * j) (if (μ 5 10) j < (μ 5 1) 0 then (μ 5 10) j else (μ 5 1) 0).toNat 0 0 else rWsh (μ 5 9) j)))) (if rWsh (μ 5 9) j = 0 then zset μ 5 1 (rLayS (μ 5 11) (40 * j) (if (μ 5 10) j < (μ 5 1) 0 then (μ 5 10) j else (μ 5 1) 0).toNat 0 (μ 5 1)) else zset μ 5 5 (rFind (μ 5 5) (rWsh (μ 5 9) j))) := by
  refine zRet.mk 4 [.ref (za Γ 5 0), .int (zi j), .null, .null, .null, .null] RX9 rfl (by decide +kernel) (Nat.le_of_ble_eq_true rfl) rfl ?_
  intro p e s m below meth c C hr hlk
  have h0 := I.1
  have hw := rWsh_rg (μ 5 9) j
  refine zV_aload_n (i := 0) (n := 1) C dX9_lays_0 rfl rfl rfl ?_
  refine zV_iload_n (i := 1) (n := 2) C dX9_lays_1 rfl rfl rfl ?_
  refine zV_callV1u (n := 5) C zk8 jX9_wrongSheet lX9_302 (m_wrongSheet (d := d) hS (by omega)) dX9_lays_2 zs_ref rfl (Nat.le_of_ble_eq_true rfl) (zfit_of (by omega) (by decide)) ⟨Nat.le_refl _, Nat.le_refl _⟩ rfl ?_
  refine zS_istore_n_6_2 (n := 6) C dX9_lays_5 rfl rfl ?_
  refine zV_iload_n (i := 2) (n := 7) C dX9_lays_6 rfl rfl rfl ?_
  refine zV_if_eq (n := 10) C 16 dX9_lays_7 (by decide) (by first | omega | exact zb_rg) rfl (fun h7 => ?_) (fun h7 => ?_)
  · skip
    refine zV_iconst (n := 17) C dX9_lays_16 rfl ?_
    refine zS_istore_n_6_3 (n := 18) C dX9_lays_17 rfl rfl ?_
    refine zV_iconst (n := 19) C dX9_lays_18 rfl ?_
    refine zS_istore_6_4 (n := 21) C dX9_lays_19 rfl rfl ?_
    have hj := rWsh_0 h7
    have hq := hS.1 j hj.1.1 hj.1.2
    refine zV_eqm (μ' := zset μ 5 1 (μ 5 1)) zset_self.symm ?_
    have hm : 0 ≤ (if (μ 5 10) j < (μ 5 1) 0 then (μ 5 10) j else (μ 5 1) 0) ∧ (if (μ 5 10) j < (μ 5 1) 0 then (μ 5 10) j else (μ 5 1) 0) ≤ (μ 5 10) j ∧ (if (μ 5 10) j < (μ 5 1) 0 then (μ 5 10) j else (μ 5 1) 0) ≤ (μ 5 1) 0 ∧ ((if (μ 5 10) j < (μ 5 1) 0 then (μ 5 10) j else (μ 5 1) 0) = (μ 5 10) j ∨ (if (μ 5 10) j < (μ 5 1) 0 then (μ 5 10) j else (μ 5 1) 0) = (μ 5 1) 0) := by split <;> omega
    refine m_lays_loop C hS hj.1 (if (μ 5 10) j < (μ 5 1) 0 then (μ 5 10) j else (μ 5 1) 0).toNat 0 0 (μ 5 1) .null I rfl (by omega) (by omega) (fun v4 v5 => ?_)
    refine zV_iload_n (i := 3) (n := 123) C dX9_lays_122 rfl rfl rfl ?_
    exact zV_ireturn C hr hlk dX9_lays_123 (congrArg (fun z => some (Value.int (zi z))) (zif_t h7 rfl)) (zif_t h7 rfl)
  · skip
    refine zV_aload_n (i := 0) (n := 11) C dX9_lays_10 rfl rfl rfl ?_
    refine zV_iload_n (i := 2) (n := 12) C dX9_lays_11 rfl rfl rfl ?_
    refine zV_callV1u (n := 15) C zk8 jX9_finds lX9_75 (m_finds (d := d) (by omega)) dX9_lays_12 zs_ref rfl (Nat.le_of_ble_eq_true rfl) (zfit_of (by omega) (by decide)) ⟨Nat.le_refl _, Nat.le_refl _⟩ rfl ?_
    exact zV_ireturn C hr hlk dX9_lays_15 (by first | exact congrArg (fun z => some (Value.int (zi z))) (zif_t (by omega) (rfl)) | exact congrArg (fun z => some (Value.int (zi z))) (zif_f (by omega) rfl)) (by first | exact zif_t (by omega) (rfl) | exact zif_f (by omega) rfl)

