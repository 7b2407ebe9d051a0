/-! text: what holds of the reference's reader -/
theorem xt_all {T : Int → Int} {n k : Int} : ∀ {i : Nat} {e j : Int}, e ≤ j → j < xt T n k i e → tk (bA T n j) = k := by
  intro i
  induction i with
  | zero => intro e j h0 h1; unfold xt at h1; omega
  | succ i ih =>
    intro e j h0 h1
    unfold xt at h1
    split at h1
    · rename_i h
      by_cases he : e = j
      · rw [← he]; exact h
      · exact ih (by omega) h1
    · omega
theorem tok_all {T : Int → Int} {n f j : Int} (hk : tk (bA T n f) = 1 ∨ tk (bA T n f) = 2) (h0 : f ≤ j) (h1 : j < nxT T n f) : tk (bA T n j) = tk (bA T n f) := by
  unfold nxT at h1
  rw [if_pos hk] at h1
  by_cases he : f = j
  · rw [he]
  · exact xt_all (by omega) h1
theorem tk1 {b : Int} : tk b = 1 ↔ 97 ≤ b ∧ b ≤ 122 := by
  unfold tk
  (repeat' split) <;> omega
theorem tk2 {b : Int} : tk b = 2 ↔ 48 ≤ b ∧ b ≤ 57 := by
  unfold tk
  (repeat' split) <;> omega
theorem tk3 {b : Int} : tk b = 3 ↔ b = 59 := by
  unfold tk
  (repeat' split) <;> omega
theorem tk0 {b : Int} : tk b = 0 ↔ b < 0 := by
  unfold tk
  (repeat' split) <;> omega
theorem bA_lt {T : Int → Int} {n i : Int} (h : 0 ≤ bA T n i) : i < n ∧ bA T n i = T i := by
  unfold bA at h ⊢
  split
  · rename_i q; exact ⟨q, rfl⟩
  · rename_i q; rw [if_neg q] at h; omega
theorem tok_let {T : Int → Int} {n f j : Int} (hk : tk (bA T n f) = 1) (h0 : f ≤ j) (h1 : j < nxT T n f) : (97 ≤ T j ∧ T j ≤ 122) ∧ j < n := by
  have h := tk1.mp ((tok_all (Or.inl hk) h0 h1).trans hk)
  have := bA_lt (T := T) (n := n) (i := j) (by omega)
  omega
theorem tok_dig {T : Int → Int} {n f j : Int} (hk : tk (bA T n f) = 2) (h0 : f ≤ j) (h1 : j < nxT T n f) : (48 ≤ T j ∧ T j ≤ 57) ∧ j < n := by
  have h := tk2.mp ((tok_all (Or.inr hk) h0 h1).trans hk)
  have := bA_lt (T := T) (n := n) (i := j) (by omega)
  omega
def pOk (N : Int) (T : Int → Int) (n : Int) (P : Pst) : Prop := (0 ≤ Pst.f P ∧ Pst.f P ≤ n) ∧ Pst.t P = nxT T n (Pst.f P) ∧ (Pst.w P = 0 ∨ Pst.w P = 1) ∧ (0 ≤ Pst.v P ∧ Pst.v P ≤ 9999) ∧ rInv N (Pst.S P)
theorem pOk_t {N n : Int} {T : Int → Int} {P : Pst} (hT : tapeOk T n) (h : pOk N T n P) : Pst.f P ≤ Pst.t P ∧ Pst.t P ≤ n ∧ (Pst.f P < n → Pst.f P < Pst.t P) := by
  have := nxT_rg hT h.1
  rw [← h.2.1] at this
  exact this
theorem pTok_ok {N n : Int} {T : Int → Int} {P : Pst} (hT : tapeOk T n) (ht : 0 ≤ Pst.t P ∧ Pst.t P ≤ n) (hw : Pst.w P = 0 ∨ Pst.w P = 1) (hv : 0 ≤ Pst.v P ∧ Pst.v P ≤ 9999) (I : rInv N (Pst.S P)) : pOk N T n (pTok T n P) ∧ Pst.t P ≤ Pst.f (pTok T n P) := by
  have h := nxF_rg (T := T) ht
  exact ⟨⟨⟨by show 0 ≤ nxF T n (Pst.t P); omega, h.2⟩, rfl, hw, hv, I⟩, h.1⟩
theorem pMust_ok {N n b : Int} {T : Int → Int} {P : Pst} (hT : tapeOk T n) (h : pOk N T n P) : pOk N T n (pMust T n b P) ∧ Pst.f P ≤ Pst.f (pMust T n b P) := by
  have ht := pOk_t hT h
  unfold pMust
  split
  · have := pTok_ok hT (P := P) (by have := h.1; omega) h.2.2.1 h.2.2.2.1 h.2.2.2.2
    exact ⟨this.1, by have := this.2; omega⟩
  · exact ⟨⟨h.1, h.2.1, Or.inr rfl, h.2.2.2.1, h.2.2.2.2⟩, Int.le_refl _⟩
theorem pMust_w {n b : Int} {T : Int → Int} {P : Pst} (h : Pst.w (pMust T n b P) = 0) : Pst.w P = 0 ∧ b = 1 ∧ pMust T n b P = pTok T n P := by
  unfold pMust at h ⊢
  by_cases q : Pst.w P = 0 ∧ b = 1
  · rw [if_pos q]; exact ⟨q.1, q.2, rfl⟩
  · rw [if_neg q] at h
    have : (1 : Int) = 0 := h
    omega
theorem pMust_S {n b : Int} {T : Int → Int} {P : Pst} : Pst.S (pMust T n b P) = Pst.S P ∧ Pst.v (pMust T n b P) = Pst.v P := by
  unfold pMust
  split <;> exact ⟨rfl, rfl⟩
theorem pVal_rg {N n : Int} {T : Int → Int} {P : Pst} (hT : tapeOk T n) (h : pOk N T n P) : 0 ≤ pVal T n P ∧ pVal T n P ≤ 9999 := by
  have ht := pOk_t hT h
  unfold pVal
  split
  · rename_i hk
    have := vl_eq (T := T) (i := (Pst.t P - Pst.f P).toNat) (e := Pst.f P) (v := 0) (by omega) (fun j j0 j1 => (tok_dig hk j0 (by rw [← h.2.1]; omega)).1)
    exact ⟨this.2.1, this.2.2 (by omega)⟩
  · omega
theorem pNum_ok {N n hi : Int} {T : Int → Int} {P : Pst} (hT : tapeOk T n) (h : pOk N T n P) : pOk N T n (pNum T n hi P) ∧ Pst.f P ≤ Pst.f (pNum T n hi P) ∧ (Pst.w (pNum T n hi P) = 0 → Pst.v (pNum T n hi P) ≤ hi) ∧ Pst.S (pNum T n hi P) = Pst.S P := by
  have hv := pVal_rg hT h
  unfold pNum
  split
  · have h2 : pOk N T n (Pst.f P, Pst.t P, pVal T n P, Pst.w P, Pst.S P) := ⟨h.1, h.2.1, h.2.2.1, hv, h.2.2.2.2⟩
    have h3 := pMust_ok (b := if tk (bA T n (Pst.f P)) = 2 ∧ pVal T n P ≤ hi then 1 else 0) hT h2
    refine ⟨h3.1, h3.2, fun hw => ?_, pMust_S.1⟩
    have h4 := pMust_w hw
    rw [pMust_S.2]
    show pVal T n P ≤ hi
    have h5 := h4.2.1
    split at h5
    · rename_i q; exact q.2
    · omega
  · rename_i hw
    exact ⟨h, Int.le_refl _, fun q => absurd q hw, rfl⟩
theorem pPut_ok {N n hi idx : Int} {T : Int → Int} {P : Pst} (h : pOk N T n P) (hv : Pst.w P = 0 → Pst.v P ≤ hi) (hput : ∀ (v : Int) (S : Int → Int), rInv N S → 0 ≤ v ∧ v ≤ hi → rInv N (zfu S idx v)) : pOk N T n (pPut idx P) := by
  refine ⟨h.1, h.2.1, h.2.2.1, h.2.2.2.1, ?_⟩
  show rInv N (zfu (Pst.S P) idx (if Pst.w P = 0 then Pst.v P else Pst.S P idx))
  split
  · rename_i q
    exact hput _ _ h.2.2.2.2 ⟨h.2.2.2.1.1, hv q⟩
  · rw [zfu_self rfl]
    exact h.2.2.2.2
theorem pPut_0 {idx : Int} {P : Pst} (h : ¬ idx = 0) : Pst.S (pPut idx P) 0 = Pst.S P 0 := zfu_ne (fun q => h q.symm)
theorem pPart_ok {N n K hi idx : Int} {T : Int → Int} {P : Pst} (hT : tapeOk T n) (h : pOk N T n P) (hput : ∀ (v : Int) (S : Int → Int), rInv N S → 0 ≤ v ∧ v ≤ hi → rInv N (zfu S idx v)) (h0 : ¬ idx = 0) : pOk N T n (pPart T n K idx hi P) ∧ Pst.f P ≤ Pst.f (pPart T n K idx hi P) ∧ Pst.S (pPart T n K idx hi P) 0 = Pst.S P 0 := by
  unfold pPart
  split
  · have h1 := pMust_ok (b := 1) hT h
    have h2 := pNum_ok (hi := hi) hT h1.1
    refine ⟨pPut_ok h2.1 h2.2.2.1 hput, ?_, ?_⟩
    · show Pst.f P ≤ Pst.f (pNum T n hi (pMust T n 1 P))
      have := h2.2.1
      have := h1.2
      omega
    · rw [pPut_0 h0, h2.2.2.2, pMust_S.1]
  · exact ⟨h, Int.le_refl _, rfl⟩
theorem pMay_ok {N n K idx : Int} {T : Int → Int} {P : Pst} (hT : tapeOk T n) (h : pOk N T n P) (hput : ∀ (v : Int) (S : Int → Int), rInv N S → 0 ≤ v ∧ v ≤ 1 → rInv N (zfu S idx v)) : pOk N T n (pMay T n K idx P) ∧ Pst.f P ≤ Pst.f (pMay T n K idx P) := by
  unfold pMay
  split
  · have h1 := pMust_ok (b := 1) hT h
    exact ⟨⟨h1.1.1, h1.1.2.1, h1.1.2.2.1, h1.1.2.2.2.1, hput _ _ h1.1.2.2.2.2 (by omega)⟩, h1.2⟩
  · exact ⟨⟨h.1, h.2.1, h.2.2.1, h.2.2.2.1, hput _ _ h.2.2.2.2 (by omega)⟩, Int.le_refl _⟩
