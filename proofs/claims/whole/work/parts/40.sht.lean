/-! the class's sheets and tape in the memory; rows copied by System.arraycopy -/
def zsht (μ : zMem) (B Z M : Int → Int) : zMem := fun g k i => if g = 4 ∧ 9 ≤ k ∧ k < 13 ∧ i = 1 then B (k - 9) else if g = 4 ∧ 9 ≤ k ∧ k < 13 ∧ i = 2 then Z (k - 9) else if g = 4 ∧ 13 ≤ k ∧ k < 17 ∧ 0 ≤ i ∧ i < 40 then M (40 * (k - 13) + i) else μ g k i
theorem zsb {μ : zMem} {B Z M : Int → Int} {j : Int} (h : 0 ≤ j ∧ j < 4) : zsht μ B Z M 4 (9 + j) 1 = B j := by
  unfold zsht
  rw [if_pos (by omega), show 9 + j - 9 = j from by omega]
theorem zsz {μ : zMem} {B Z M : Int → Int} {j : Int} (h : 0 ≤ j ∧ j < 4) : zsht μ B Z M 4 (9 + j) 2 = Z j := by
  unfold zsht
  rw [if_neg (by omega), if_pos (by omega), show 9 + j - 9 = j from by omega]
theorem zsn {μ : zMem} {B Z M : Int → Int} {j i : Int} (h : 0 ≤ j ∧ j < 4) (hi : 0 ≤ i ∧ i < 40) : zsht μ B Z M 4 (13 + j) i = M (40 * j + i) := by
  unfold zsht
  rw [if_neg (by omega), if_neg (by omega), if_pos (by omega), show 13 + j - 13 = j from by omega]
theorem zsu_b {μ : zMem} {B Z M : Int → Int} {j b : Int} (h : 0 ≤ j ∧ j < 4) : zup (zsht μ B Z M) 4 (9 + j) 1 b = zsht μ (zfu B j b) Z M := by
  funext g k i
  simp only [zup, zsht, zfu]
  by_cases h1 : g = 4 ∧ k = 9 + j ∧ i = 1
  · rw [if_pos h1, if_pos (by omega), if_pos (by omega)]
  · rw [if_neg h1]
    by_cases h2 : g = 4 ∧ 9 ≤ k ∧ k < 13 ∧ i = 1
    · rw [if_pos h2, if_pos h2, if_neg (by omega)]
    · rw [if_neg h2, if_neg h2]
theorem zsu_z {μ : zMem} {B Z M : Int → Int} {j b : Int} (h : 0 ≤ j ∧ j < 4) : zup (zsht μ B Z M) 4 (9 + j) 2 b = zsht μ B (zfu Z j b) M := by
  funext g k i
  simp only [zup, zsht, zfu]
  by_cases h1 : g = 4 ∧ k = 9 + j ∧ i = 2
  · rw [if_pos h1, if_neg (by omega), if_pos (by omega), if_pos (by omega)]
  · rw [if_neg h1]
    by_cases h2 : g = 4 ∧ 9 ≤ k ∧ k < 13 ∧ i = 1
    · rw [if_pos h2, if_pos h2]
    · rw [if_neg h2, if_neg h2]
      by_cases h3 : g = 4 ∧ 9 ≤ k ∧ k < 13 ∧ i = 2
      · rw [if_pos h3, if_pos h3, if_neg (by omega)]
      · rw [if_neg h3, if_neg h3]
theorem zsu_n {μ : zMem} {B Z M : Int → Int} {j i v : Int} (h : 0 ≤ j ∧ j < 4) (hi : 0 ≤ i ∧ i < 40) : zup (zsht μ B Z M) 4 (13 + j) i v = zsht μ B Z (zfu M (40 * j + i) v) := by
  funext g k q
  simp only [zup, zsht, zfu]
  by_cases h1 : g = 4 ∧ k = 13 + j ∧ q = i
  · rw [if_pos h1, if_neg (by omega), if_neg (by omega), if_pos (by omega), if_pos (by omega)]
  · rw [if_neg h1]
    by_cases h2 : g = 4 ∧ 9 ≤ k ∧ k < 13 ∧ q = 1
    · rw [if_pos h2, if_pos h2]
    · rw [if_neg h2, if_neg h2]
      by_cases h3 : g = 4 ∧ 9 ≤ k ∧ k < 13 ∧ q = 2
      · rw [if_pos h3, if_pos h3]
      · rw [if_neg h3, if_neg h3]
        by_cases h4 : g = 4 ∧ 13 ≤ k ∧ k < 17 ∧ 0 ≤ q ∧ q < 40
        · rw [if_pos h4, if_pos h4, if_neg (by omega)]
        · rw [if_neg h4, if_neg h4]
theorem zss_n {μ : zMem} {B Z M F M' : Int → Int} {j : Int} (h : 0 ≤ j ∧ j < 4) (hin : ∀ i : Int, 0 ≤ i → i < 40 → F i = M' (40 * j + i)) (hout : ∀ i : Int, ¬ (0 ≤ i ∧ i < 40) → F i = μ 4 (13 + j) i) (hel : ∀ i : Int, ¬ (40 * j ≤ i ∧ i < 40 * j + 40) → M' i = M i) : zset (zsht μ B Z M) 4 (13 + j) F = zsht μ B Z M' := by
  funext g k q
  simp only [zset]
  by_cases h1 : g = 4 ∧ k = 13 + j
  · rw [if_pos h1]
    obtain ⟨rfl, rfl⟩ := h1
    by_cases h2 : 0 ≤ q ∧ q < 40
    · rw [zsn h h2]
      exact hin q h2.1 h2.2
    · unfold zsht
      rw [if_neg (by omega), if_neg (by omega), if_neg (by omega)]
      exact hout q h2
  · rw [if_neg h1]
    unfold zsht
    by_cases h2 : g = 4 ∧ 9 ≤ k ∧ k < 13 ∧ q = 1
    · rw [if_pos h2, if_pos h2]
    · rw [if_neg h2, if_neg h2]
      by_cases h3 : g = 4 ∧ 9 ≤ k ∧ k < 13 ∧ q = 2
      · rw [if_pos h3, if_pos h3]
      · rw [if_neg h3, if_neg h3]
        by_cases h4 : g = 4 ∧ 13 ≤ k ∧ k < 17 ∧ 0 ≤ q ∧ q < 40
        · rw [if_pos h4, if_pos h4, hel _ (by omega)]
        · rw [if_neg h4, if_neg h4]
theorem zcu_4 {μ : zMem} {g g' : Nat} {S : Int → Int} {k i v : Int} (h : ¬ g' = g) : zup (zcar μ g S) g' k i v = zcar (zup μ g' k i v) g S := by
  funext a b q
  simp only [zup, zcar]
  by_cases h1 : a = g' ∧ b = k ∧ q = i
  · have h2 : ¬ a = g := fun q => h (h1.1.symm.trans q)
    rw [if_pos h1, if_neg h2]
    exact (if_pos h1).symm
  · rw [if_neg h1]
    by_cases h2 : a = g
    · rw [if_pos h2, if_pos h2]
      congr 1
      funext k' i'
      exact (if_neg (fun q => h q.1.symm)).symm
    · rw [if_neg h2, if_neg h2]
      exact (if_neg h1).symm
theorem zcs_4 {μ : zMem} {g g' : Nat} {S F : Int → Int} {k : Int} (h : ¬ g' = g) : zset (zcar μ g S) g' k F = zcar (zset μ g' k F) g S := by
  funext a b
  simp only [zset, zcar]
  by_cases h1 : a = g' ∧ b = k
  · have h2 : ¬ a = g := fun q => h (h1.1.symm.trans q)
    rw [if_pos h1, if_neg h2]
    exact (if_pos h1).symm
  · rw [if_neg h1]
    by_cases h2 : a = g
    · rw [if_pos h2, if_pos h2]
      congr 1
      funext k'
      exact (if_neg (fun q => h q.1.symm)).symm
    · rw [if_neg h2, if_neg h2]
      exact (if_neg h1).symm
theorem zup_under {μ : zMem} {g g' : Nat} {k k' i v : Int} {T F : Int → Int} (h : ¬ (g = g' ∧ k = k')) : zup (zset (zset μ g k T) g' k' F) g k i v = zset (zset μ g k (zfu T i v)) g' k' F := by
  rw [zup_zset, zset_ne (by intro q; exact h ⟨q.1, q.2⟩), zset_at]
  exact zset_swap (fun q => h ⟨q.1.symm, q.2.symm⟩)
theorem zset_else {μ : zMem} {g : Nat} {k : Int} {F : Int → Int} (g' : Nat) (k' : Int) : (g' = g ∧ k' = k) ∨ zset μ g k F g' k' = μ g' k' := by
  by_cases h : g' = g ∧ k' = k
  · exact Or.inl h
  · exact Or.inr (zset_ne h)
theorem lX8_253 : Cond.methodLink RX8 253 arraycopyName ∈ tblG := tgi 800 (by decide +kernel) rfl
theorem lX7_59 : Cond.methodLink RX7 59 arraycopyName ∈ tblG := tgi 597 (by decide +kernel) rfl
theorem jCopy : Cond.native arraycopyName ∈ tblG ∧ Cond.static arraycopyName ∈ tblG ∧ Cond.initialized "java/lang/System" ∈ tblG := ⟨tgi 599 (by decide +kernel) rfl, tgi 598 (by decide +kernel) rfl, tgi 74 (by decide +kernel) rfl⟩
theorem zi_nn {x : Int} (h : 0 ≤ x ∧ x ≤ 2147483647) : ¬ zi x < 0 := fun q => by
  have := (zi_lt (x := x) (y := 0) (by omega) (by omega)).mp q
  omega
section ZCOPY
variable {Γ : zC} {A : Nat → Prop} {p : Program} {l : Launch} {e : Env} {R : Room} {s : State} {m : MethodId} {args : Array Value} {below : List Frame} {meth : Method} {c : Code} {cells slots : Nat} {Q : State → Prop} {own : String} {cc : ByteArray} {nL pc n : Nat} {lv st : List Value} {μ : zMem}
theorem zV_copyl {idx g g2 N N2 : Nat} {k k2 sp dp z : Int} (C : zCx Γ A p s m args c own cc nL) (hl : Cond.methodLink own idx arraycopyName ∈ tblG) (d : decode cc pc = .ok (.invokestatic idx, 3)) (hs : zsh g k = some (.inr (.inr (.inl N)))) (hs2 : zsh g2 k2 = some (.inr (.inr (.inl N2)))) (hz : 0 ≤ sp ∧ 0 ≤ dp ∧ 0 ≤ z ∧ sp + z ≤ N ∧ dp + z ≤ N2) (hN : N ≤ 1000 ∧ N2 ≤ 1000) (hW : (st.map fun v => v.category).sum ≤ 8) (hR : zfit R 0 7) (hp : pc + 3 = n)
    (kk : zV Γ A p l e R s m args below meth c cells slots Q n lv st (zset μ g2 k2 (fun i => if dp ≤ i ∧ i < dp + z then μ g k (sp + (i - dp)) else μ g2 k2 i))) : zV Γ A p l e R s m args below meth c cells slots Q pc lv (.int (zi z) :: .int (zi dp) :: .ref (za Γ g2 k2) :: .int (zi sp) :: .ref (za Γ g k) :: st) μ := by
  subst hp
  intro H locs ls hl9 hP hS
  obtain ⟨q0, hq0, hq⟩ := zws_at (Γ := Γ) hs
  obtain ⟨q1, hq1, hq2⟩ := zws_at (Γ := Γ) hs2
  have hR1 : 0 + 1 ≤ R.frames := hR.1
  have hR2 : 8 + (7 + 11) + 36 * 0 ≤ R.locals := hR.2
  have hnw : nativeFrameWords "java/lang/System" "arraycopy" 5 = 7 := by decide
  refine va_copyl C.1 C.2.1 (C.2.2.1.trans (hl9.1.trans C.2.2.1).symm) C.2.2.2.1 (C.2.2.2.2.1 _ hl) (C.2.2.2.2.1 _ jCopy.1) (C.2.2.2.2.1 _ jCopy.2.1) (C.2.2.2.2.1 _ jCopy.2.2) C.2.2.2.2.2.1 hP (zws_D C.2.2.2.2.2.2.1 C.2.2.2.2.2.2.2.2) hS q0 q1 1 1 (hq μ) (hq2 μ) rfl rfl rfl (zi_nn (by omega)) (zi_nn (by omega)) (zi_nn (by omega)) (by rw [zi_clamp (by omega), zi_clamp (by omega)]; omega) (by rw [zi_clamp (by omega), zi_clamp (by omega)]; omega) (fun _ _ => rfl) (by omega) (by rw [hnw]; omega) d (fun H1 locs1 hP1 _ hS1 => kk H1 locs1 ls hl9 ?_ hS1)
  have e2 := zws_set (Γ := Γ) (μ := μ) (μ' := zset μ g2 k2 (fun i => if dp ≤ i ∧ i < dp + z then μ g k (sp + (i - dp)) else μ g2 k2 i)) hs2 hq1 zset_else
  have e1 : zcell Γ (zset μ g2 k2 (fun i => if dp ≤ i ∧ i < dp + z then μ g k (sp + (i - dp)) else μ g2 k2 i) g2 k2) (.inr (.inr (.inl N2))) = .inl (zY Γ 1, N2, .inr (.inl (va_cpy (fun j : Nat => zl (μ g k (j : Int))) (fun j : Nat => zl (μ g2 k2 (j : Int))) (zi sp).toNatClampNeg (zi dp).toNatClampNeg (zi z).toNatClampNeg))) := by
    simp only [zcell]
    congr 5
    funext j
    rw [zset_at, zi_clamp (by omega), zi_clamp (by omega), zi_clamp (by omega)]
    simp only [va_cpy]
    by_cases hj : dp ≤ (j : Int) ∧ (j : Int) < dp + z
    · rw [if_pos hj, if_pos (by omega)]
      congr 2
      omega
    · rw [if_neg hj, if_neg (by omega)]
  rw [← e2, e1]
  exact hP1
theorem zV_copyi {idx g g2 N N2 : Nat} {k k2 sp dp z : Int} (C : zCx Γ A p s m args c own cc nL) (hl : Cond.methodLink own idx arraycopyName ∈ tblG) (d : decode cc pc = .ok (.invokestatic idx, 3)) (hs : zsh g k = some (.inr (.inl N))) (hs2 : zsh g2 k2 = some (.inr (.inl N2))) (hz : 0 ≤ sp ∧ 0 ≤ dp ∧ 0 ≤ z ∧ sp + z ≤ N ∧ dp + z ≤ N2) (hN : N ≤ 1000 ∧ N2 ≤ 1000) (hW : (st.map fun v => v.category).sum ≤ 8) (hR : zfit R 0 7) (hp : pc + 3 = n)
    (kk : zV Γ A p l e R s m args below meth c cells slots Q n lv st (zset μ g2 k2 (fun i => if dp ≤ i ∧ i < dp + z then μ g k (sp + (i - dp)) else μ g2 k2 i))) : zV Γ A p l e R s m args below meth c cells slots Q pc lv (.int (zi z) :: .int (zi dp) :: .ref (za Γ g2 k2) :: .int (zi sp) :: .ref (za Γ g k) :: st) μ := by
  subst hp
  intro H locs ls hl9 hP hS
  obtain ⟨q0, hq0, hq⟩ := zws_at (Γ := Γ) hs
  obtain ⟨q1, hq1, hq2⟩ := zws_at (Γ := Γ) hs2
  have hR1 : 0 + 1 ≤ R.frames := hR.1
  have hR2 : 8 + (7 + 11) + 36 * 0 ≤ R.locals := hR.2
  have hnw : nativeFrameWords "java/lang/System" "arraycopy" 5 = 7 := by decide
  refine va_copyi C.1 C.2.1 (C.2.2.1.trans (hl9.1.trans C.2.2.1).symm) C.2.2.2.1 (C.2.2.2.2.1 _ hl) (C.2.2.2.2.1 _ jCopy.1) (C.2.2.2.2.1 _ jCopy.2.1) (C.2.2.2.2.1 _ jCopy.2.2) C.2.2.2.2.2.1 hP (zws_D C.2.2.2.2.2.2.1 C.2.2.2.2.2.2.2.2) hS q0 q1 0 0 (hq μ) (hq2 μ) rfl rfl rfl (zi_nn (by omega)) (zi_nn (by omega)) (zi_nn (by omega)) (by rw [zi_clamp (by omega), zi_clamp (by omega)]; omega) (by rw [zi_clamp (by omega), zi_clamp (by omega)]; omega) (fun _ _ => rfl) (by omega) (by rw [hnw]; omega) d (fun H1 locs1 hP1 _ hS1 => kk H1 locs1 ls hl9 ?_ hS1)
  have e2 := zws_set (Γ := Γ) (μ := μ) (μ' := zset μ g2 k2 (fun i => if dp ≤ i ∧ i < dp + z then μ g k (sp + (i - dp)) else μ g2 k2 i)) hs2 hq1 zset_else
  have e1 : zcell Γ (zset μ g2 k2 (fun i => if dp ≤ i ∧ i < dp + z then μ g k (sp + (i - dp)) else μ g2 k2 i) g2 k2) (.inr (.inl N2)) = .inl (zY Γ 0, N2, .inl (va_cpy (fun j : Nat => zi (μ g k (j : Int))) (fun j : Nat => zi (μ g2 k2 (j : Int))) (zi sp).toNatClampNeg (zi dp).toNatClampNeg (zi z).toNatClampNeg)) := by
    simp only [zcell]
    congr 4
    funext j
    rw [zset_at, zi_clamp (by omega), zi_clamp (by omega), zi_clamp (by omega)]
    simp only [va_cpy]
    by_cases hj : dp ≤ (j : Int) ∧ (j : Int) < dp + z
    · rw [if_pos hj, if_pos (by omega)]
      congr 2
      omega
    · rw [if_neg hj, if_neg (by omega)]
  rw [← e2, e1]
  exact hP1
end ZCOPY
theorem bv_sh {x : BitVec 32} {s : Nat} (h : s ≤ 24) : x.sshiftRight s &&& 255#32 = (x >>> s) &&& 255#32 := by
  refine BitVec.eq_of_getLsbD_eq fun i hi => ?_
  by_cases h8 : i < 8
  · simp only [BitVec.getLsbD_and, BitVec.getLsbD_sshiftRight, BitVec.getLsbD_ushiftRight]
    have h1 : s + i < 32 := by omega
    have h2 : ¬ 32 ≤ i := by omega
    simp [h1, h2]
  · have e : (255#32).getLsbD i = false := by
      have h6 : ∀ i : Nat, i < 32 → ¬ i < 8 → (255#32).getLsbD i = false := by decide
      exact h6 i hi h8
    simp only [BitVec.getLsbD_and, e, Bool.and_false]
theorem rByte_u {b : Int32} {k : Int} (hk : 0 ≤ k ∧ k ≤ 3) : (b.toUInt32 >>> ((zi (8 * k)).toUInt32 &&& Int32.toUInt32 31)).toInt32 &&& zi 255 = zi (rByte b k) := by
  unfold rByte
  rw [zi_of]
  have h4 : k = 0 ∨ k = 1 ∨ k = 2 ∨ k = 3 := by omega
  rcases h4 with rfl | rfl | rfl | rfl
  · exact congrArg (fun z => Int32.ofBitVec z) (bv_sh (x := b.toBitVec) (s := 0) (by decide)).symm
  · exact congrArg (fun z => Int32.ofBitVec z) (bv_sh (x := b.toBitVec) (s := 8) (by decide)).symm
  · exact congrArg (fun z => Int32.ofBitVec z) (bv_sh (x := b.toBitVec) (s := 16) (by decide)).symm
  · exact congrArg (fun z => Int32.ofBitVec z) (bv_sh (x := b.toBitVec) (s := 24) (by decide)).symm
theorem zsht_zsht {μ : zMem} {B Z M : Int → Int} {j f : Int} : zsht μ B Z M 4 (9 + j) f = zsht (zsht μ B Z M) B Z M 4 (9 + j) f := by
  unfold zsht
  by_cases h1 : (4 : Nat) = 4 ∧ 9 ≤ 9 + j ∧ 9 + j < 13 ∧ f = 1
  · rw [if_pos h1, if_pos h1]
  · rw [if_neg h1, if_neg h1]
    by_cases h2 : (4 : Nat) = 4 ∧ 9 ≤ 9 + j ∧ 9 + j < 13 ∧ f = 2
    · rw [if_pos h2, if_pos h2]
    · rw [if_neg h2, if_neg h2]
      by_cases h3 : (4 : Nat) = 4 ∧ 13 ≤ 9 + j ∧ 9 + j < 17 ∧ 0 ≤ f ∧ f < 40
      · rw [if_pos h3, if_pos h3]
      · rw [if_neg h3, if_neg h3]
theorem zcz1 {μ : zMem} {B Z M S : Int → Int} {g : Nat} {j : Int} (hg : ¬ 4 = g) (h : 0 ≤ j ∧ j < 4) : zcar (zsht μ B Z M) g S 4 (9 + j) 2 = Z j := by rw [zc_ne hg, zsz h]
theorem zcz2 {μ : zMem} {B Z M S T : Int → Int} {g g' : Nat} {j : Int} (hg : ¬ 4 = g) (hg' : ¬ 4 = g') (h : 0 ≤ j ∧ j < 4) : zcar (zcar (zsht μ B Z M) g S) g' T 4 (9 + j) 2 = Z j := by rw [zc_ne hg', zc_ne hg, zsz h]
theorem zcn1 {μ : zMem} {B Z M S : Int → Int} {g : Nat} {j i : Int} (hg : ¬ 4 = g) (h : 0 ≤ j ∧ j < 4) (hi : 0 ≤ i ∧ i < 40) : zcar (zsht μ B Z M) g S 4 (13 + j) i = M (40 * j + i) := by rw [zc_ne hg, zsn h hi]
