/-! text: the class's reader; its memory -/
def zq (ν : zMem) (tok f t v fl : Int) : zMem := fun g k i => if g = 4 ∧ k = 2 ∧ i = 2 then tok else if g = 4 ∧ k = 2 ∧ i = 3 then f else if g = 4 ∧ k = 2 ∧ i = 4 then t else if g = 4 ∧ k = 2 ∧ i = 5 then v else if g = 4 ∧ k = 1 ∧ i = 1 then fl else ν g k i
section ZQ
variable {ν : zMem} {tok f t v fl z : Int} {S : Int → Int}
theorem zq_k : zq ν tok f t v fl 4 2 2 = tok := rfl
theorem zq_f : zq ν tok f t v fl 4 2 3 = f := rfl
theorem zq_t : zq ν tok f t v fl 4 2 4 = t := rfl
theorem zq_v : zq ν tok f t v fl 4 2 5 = v := rfl
theorem zq_l : zq ν tok f t v fl 4 1 1 = fl := rfl
theorem zq_n : zq ν tok f t v fl 4 2 1 = ν 4 2 1 := rfl
theorem zq_T : zq ν tok f t v fl 4 3 = ν 4 3 := rfl
theorem zqu_k : zup (zq ν tok f t v fl) 4 2 2 z = zq ν z f t v fl := by
  funext g k i
  by_cases h : g = 4 ∧ k = 2 ∧ i = 2
  · obtain ⟨rfl, rfl, rfl⟩ := h
    rfl
  · rw [zup_ne h]
    simp only [zq, if_neg h]
theorem zqu_f : zup (zq ν tok f t v fl) 4 2 3 z = zq ν tok z t v fl := by
  funext g k i
  by_cases h : g = 4 ∧ k = 2 ∧ i = 3
  · obtain ⟨rfl, rfl, rfl⟩ := h
    rfl
  · rw [zup_ne h]
    simp only [zq, if_neg h]
theorem zqu_t : zup (zq ν tok f t v fl) 4 2 4 z = zq ν tok f z v fl := by
  funext g k i
  by_cases h : g = 4 ∧ k = 2 ∧ i = 4
  · obtain ⟨rfl, rfl, rfl⟩ := h
    rfl
  · rw [zup_ne h]
    simp only [zq, if_neg h]
theorem zqu_v : zup (zq ν tok f t v fl) 4 2 5 z = zq ν tok f t z fl := by
  funext g k i
  by_cases h : g = 4 ∧ k = 2 ∧ i = 5
  · obtain ⟨rfl, rfl, rfl⟩ := h
    rfl
  · rw [zup_ne h]
    simp only [zq, if_neg h]
theorem zqu_l : zup (zq ν tok f t v fl) 4 1 1 z = zq ν tok f t v z := by
  funext g k i
  by_cases h : g = 4 ∧ k = 1 ∧ i = 1
  · obtain ⟨rfl, rfl, rfl⟩ := h
    rfl
  · rw [zup_ne h]
    simp only [zq, if_neg h]
theorem zq_self : zq ν (ν 4 2 2) (ν 4 2 3) (ν 4 2 4) (ν 4 2 5) (ν 4 1 1) = ν := by
  funext g k i
  simp only [zq]
  by_cases h1 : g = 4 ∧ k = 2 ∧ i = 2
  · rw [if_pos h1, h1.1, h1.2.1, h1.2.2]
  · rw [if_neg h1]
    by_cases h2 : g = 4 ∧ k = 2 ∧ i = 3
    · rw [if_pos h2, h2.1, h2.2.1, h2.2.2]
    · rw [if_neg h2]
      by_cases h3 : g = 4 ∧ k = 2 ∧ i = 4
      · rw [if_pos h3, h3.1, h3.2.1, h3.2.2]
      · rw [if_neg h3]
        by_cases h4 : g = 4 ∧ k = 2 ∧ i = 5
        · rw [if_pos h4, h4.1, h4.2.1, h4.2.2]
        · rw [if_neg h4]
          by_cases h5 : g = 4 ∧ k = 1 ∧ i = 1
          · rw [if_pos h5, h5.1, h5.2.1, h5.2.2]
          · rw [if_neg h5]
theorem zq_car : zq (zcar ν 2 S) tok f t v fl = zcar (zq ν tok f t v fl) 2 S := by
  funext g k i
  by_cases hg : g = 2
  · subst hg
    show (if 2 = 4 ∧ k = 2 ∧ i = 2 then tok else if 2 = 4 ∧ k = 2 ∧ i = 3 then f else if 2 = 4 ∧ k = 2 ∧ i = 4 then t else if 2 = 4 ∧ k = 2 ∧ i = 5 then v else if 2 = 4 ∧ k = 1 ∧ i = 1 then fl else zcar ν 2 S 2 k i) = _
    rw [if_neg (by omega), if_neg (by omega), if_neg (by omega), if_neg (by omega), if_neg (by omega), zc_at, zc_at]
    have e : zq ν tok f t v fl 2 = ν 2 := by
      funext k i
      show (if 2 = 4 ∧ k = 2 ∧ i = 2 then tok else if 2 = 4 ∧ k = 2 ∧ i = 3 then f else if 2 = 4 ∧ k = 2 ∧ i = 4 then t else if 2 = 4 ∧ k = 2 ∧ i = 5 then v else if 2 = 4 ∧ k = 1 ∧ i = 1 then fl else ν 2 k i) = _
      rw [if_neg (by omega), if_neg (by omega), if_neg (by omega), if_neg (by omega), if_neg (by omega)]
    rw [e]
  · rw [zc_ne hg]
    unfold zq
    rw [zc_ne hg]
end ZQ
/-- the number of a token, as the class keeps it -/
def cV (T : Int → Int) (n f t : Int) : Int := if tk (bA T n f) = 2 then vlC T (t - f).toNat f 0 else 0
theorem vlC_rg {T : Int → Int} : ∀ {i : Nat} {e v : Int}, (0 ≤ v ∧ v ≤ 1000) → (∀ j : Int, e ≤ j → j < e + i → 48 ≤ T j ∧ T j ≤ 57) → 0 ≤ vlC T i e v ∧ vlC T i e v ≤ 1000 := by
  intro i
  induction i with
  | zero => intro e v h _; exact h
  | succ i ih =>
    intro e v h hd
    have he := hd e (by omega) (by omega)
    unfold vlC
    exact ih (by unfold zmin; split <;> omega) (fun j j0 j1 => hd j (by omega) (by omega))
theorem cV_rg {T : Int → Int} {n f : Int} (hT : tapeOk T n) (hf : 0 ≤ f ∧ f ≤ n) : 0 ≤ cV T n f (nxT T n f) ∧ cV T n f (nxT T n f) ≤ 1000 := by
  have h := nxT_rg hT hf
  unfold cV
  split
  · rename_i hk
    exact vlC_rg (by omega) (fun j j0 j1 => (tok_dig hk j0 (by omega)).1)
  · omega
/-- a string's letters stand from f on: j of them are looked at -/
def cEq (T : Int → Int) (f : Int) (i : Nat) : Nat → Int → Int
  | 0, _ => 1
  | r + 1, j => if T (f + j) = zch i j then cEq T f i r (j + 1) else 0
theorem cEq_01 {T : Int → Int} {f : Int} {i : Nat} : ∀ {r : Nat} {j : Int}, cEq T f i r j = 0 ∨ cEq T f i r j = 1 := by
  intro r
  induction r with
  | zero => intro j; exact Or.inr rfl
  | succ r ih =>
    intro j
    unfold cEq
    split
    · exact ih
    · exact Or.inl rfl
abbrev cW (T : Int → Int) (n : Int) (i : Nat) (f t : Int) : Prop := tk (bA T n f) = 1 ∧ t - f = ((zlen.getD i 0 : Nat) : Int) ∧ cEq T f i (zlen.getD i 0) 0 = 1
/-- the reader: where a token begins, ends, the fault, the row -/
abbrev Cst : Type := Int × Int × Int × (Int → Int)
abbrev Cst.f (C : Cst) : Int := C.1
abbrev Cst.t (C : Cst) : Int := C.2.1
abbrev Cst.l (C : Cst) : Int := C.2.2.1
abbrev Cst.S (C : Cst) : Int → Int := C.2.2.2
/-- the tape's cells between two tokens -/
def qM (ν : zMem) (f t fl : Int) : zMem := zq ν (tk (bA (ν 4 3) (ν 4 2 1) f)) f t (cV (ν 4 3) (ν 4 2 1) f t) fl
def cM (ν : zMem) (C : Cst) : zMem := zcar (qM ν (Cst.f C) (Cst.t C) (Cst.l C)) 2 (Cst.S C)
theorem qM_car {ν : zMem} {f t fl : Int} {S : Int → Int} : qM (zcar ν 2 S) f t fl = zcar (qM ν f t fl) 2 S := zq_car
def cNx (T : Int → Int) (n : Int) (C : Cst) : Cst := (nxF T n (Cst.t C), nxT T n (nxF T n (Cst.t C)), Cst.l C, Cst.S C)
def cRow (C : Cst) (S : Int → Int) : Cst := (Cst.f C, Cst.t C, Cst.l C, S)
def cFlt (C : Cst) : Cst := (Cst.f C, Cst.t C, Cst.f C, Cst.S C)
abbrev cOkN (T : Int → Int) (n hi : Int) (C : Cst) : Prop := tk (bA T n (Cst.f C)) = 2 ∧ cV T n (Cst.f C) (Cst.t C) ≤ hi
/-- numberBehind -/
def cNB (T : Int → Int) (n hi : Int) (C : Cst) : Cst × Int := if cOkN T n hi (cNx T n C) then (cNx T n (cNx T n C), cV T n (Cst.f (cNx T n C)) (Cst.t (cNx T n C))) else (cFlt (cNx T n C), 0)
def cPart (T : Int → Int) (n : Int) (i : Nat) (idx hi : Int) (C : Cst) : Cst := if Cst.l C = -1 ∧ cW T n i (Cst.f C) (Cst.t C) then cRow (cNB T n hi C).1 (zfu (Cst.S (cNB T n hi C).1) idx (cNB T n hi C).2) else C
def cFlag (T : Int → Int) (n : Int) (i : Nat) (idx : Int) (C : Cst) : Cst := if Cst.l C = -1 ∧ cW T n i (Cst.f C) (Cst.t C) then cNx T n (cRow C (zfu (Cst.S C) idx 1)) else C
def cChild (T : Int → Int) (n kd : Int) (C : Cst) : Cst :=
  if 6 ≤ Cst.S C 0 then cFlt C else cFlag T n 10 (19 + 6 * Cst.S C 0 + 3) (cPart T n 9 (19 + 6 * Cst.S C 0 + 2) 9 (cPart T n 8 (19 + 6 * Cst.S C 0 + 1) 99 (cNx T n (cRow C (rAdd (Cst.S C) kd)))))
def cSeat2 (T : Int → Int) (n st : Int) (C : Cst) : Cst := cFlag T n 13 (4 + 5 * st + 2) (cPart T n 12 (4 + 5 * st + 1) 9 (cPart T n 11 (4 + 5 * st + 0) 5 (cRow C (zfu (Cst.S C) (4 + 5 * st + 2) 0))))
def cSeat (T : Int → Int) (n : Int) (C : Cst) : Cst :=
  if Cst.l (cNB T n 2 C).1 = -1 then cSeat2 T n (cNB T n 2 C).2 (cNB T n 2 C).1 else (cNB T n 2 C).1
def cKd (T : Int → Int) (n : Int) (C : Cst) : Nat → Nat → Int
  | 0, _ => -1
  | r + 1, i => if cW T n i (Cst.f C) (Cst.t C) then (i : Int) else cKd T n C r (i + 1)
def cItem (T : Int → Int) (n : Int) (C : Cst) : Cst :=
  if 0 ≤ cKd T n C 6 0 then cChild T n (cKd T n C 6 0) C else if cW T n 6 (Cst.f C) (Cst.t C) then cSeat T n C else if cW T n 7 (Cst.f C) (Cst.t C) then cRow (cNB T n 9 C).1 (zfu (Cst.S (cNB T n 9 C).1) 3 (cNB T n 9 C).2) else cFlt C
/-- parse's loop: items from c on -/
def cLoop (T : Int → Int) (n : Int) : Nat → Cst → Int → Cst × Int
  | 0, C, c => (C, c)
  | i + 1, C, c => if ¬ Cst.l (cItem T n C) = -1 ∨ tk (bA T n (Cst.f (cItem T n C))) = 0 then (cItem T n C, c) else if ¬ tk (bA T n (Cst.f (cItem T n C))) = 3 then (cFlt (cItem T n C), c) else cLoop T n i (cNx T n (cItem T n C)) (c + 1)
/-- what holds of the reader -/
def cOk (N : Int) (T : Int → Int) (n : Int) (C : Cst) : Prop := (0 ≤ Cst.f C ∧ Cst.f C ≤ n) ∧ Cst.t C = nxT T n (Cst.f C) ∧ (-1 ≤ Cst.l C ∧ Cst.l C ≤ n) ∧ rInv N (Cst.S C)
theorem cOk_t {N n : Int} {T : Int → Int} {C : Cst} (hT : tapeOk T n) (h : cOk N T n C) : Cst.f C ≤ Cst.t C ∧ Cst.t C ≤ n ∧ (Cst.f C < n → Cst.f C < Cst.t C) := by
  have := nxT_rg hT h.1
  rw [← h.2.1] at this
  exact this
theorem cNx_ok {N n : Int} {T : Int → Int} {C : Cst} (hT : tapeOk T n) (h : cOk N T n C) : cOk N T n (cNx T n C) ∧ Cst.t C ≤ Cst.f (cNx T n C) := by
  have ht := cOk_t hT h
  have hf := h.1
  have hF := nxF_rg (T := T) (n := n) (t := Cst.t C) (by omega)
  exact ⟨⟨⟨by show 0 ≤ nxF T n (Cst.t C); omega, hF.2⟩, rfl, h.2.2.1, h.2.2.2⟩, hF.1⟩
theorem cRow_ok {N n : Int} {T : Int → Int} {C : Cst} {S : Int → Int} (h : cOk N T n C) (I : rInv N S) : cOk N T n (cRow C S) := ⟨h.1, h.2.1, h.2.2.1, I⟩
theorem cFlt_ok {N n : Int} {T : Int → Int} {C : Cst} (h : cOk N T n C) : cOk N T n (cFlt C) := ⟨h.1, h.2.1, ⟨by have := h.1; show -1 ≤ Cst.f C; omega, h.1.2⟩, h.2.2.2⟩
theorem cNB_ok {N n hi : Int} {T : Int → Int} {C : Cst} (hT : tapeOk T n) (h : cOk N T n C) (hh : 0 ≤ hi) : cOk N T n (cNB T n hi C).1 ∧ Cst.t C ≤ Cst.f (cNB T n hi C).1 ∧ (0 ≤ (cNB T n hi C).2 ∧ (cNB T n hi C).2 ≤ hi) ∧ Cst.S (cNB T n hi C).1 = Cst.S C ∧ (Cst.l (cNB T n hi C).1 = -1 → Cst.l C = -1) := by
  have h1 := cNx_ok hT h
  have h2 := cNx_ok hT h1.1
  have ht := cOk_t hT h1.1
  have hv := cV_rg hT h1.1.1
  rw [← h1.1.2.1] at hv
  unfold cNB
  split
  · rename_i q
    exact ⟨h2.1, by have := h2.2; have := h1.2; show Cst.t C ≤ Cst.f (cNx T n (cNx T n C)); omega, ⟨hv.1, q.2⟩, rfl, fun z => z⟩
  · refine ⟨cFlt_ok h1.1, h1.2, ⟨Int.le_refl _, hh⟩, rfl, fun z => ?_⟩
    have : Cst.f (cNx T n C) = -1 := z
    have := h1.1.1
    omega
theorem cPart_ok {N n hi idx : Int} {i : Nat} {T : Int → Int} {C : Cst} (hT : tapeOk T n) (h : cOk N T n C) (hh : 0 ≤ hi) (hput : ∀ (v : Int) (S : Int → Int), rInv N S → 0 ≤ v ∧ v ≤ hi → rInv N (zfu S idx v)) (h0 : ¬ idx = 0) : cOk N T n (cPart T n i idx hi C) ∧ Cst.f C ≤ Cst.f (cPart T n i idx hi C) ∧ Cst.S (cPart T n i idx hi C) 0 = Cst.S C 0 := by
  unfold cPart
  split
  · have h1 := cNB_ok (hi := hi) hT h hh
    have ht := cOk_t hT h
    refine ⟨cRow_ok h1.1 (hput _ _ (by rw [h1.2.2.2.1]; exact h.2.2.2) h1.2.2.1), ?_, ?_⟩
    · show Cst.f C ≤ Cst.f (cNB T n hi C).1
      have := h1.2.1
      omega
    · show zfu (Cst.S (cNB T n hi C).1) idx (cNB T n hi C).2 0 = _
      rw [zfu_ne (fun q => h0 q.symm), h1.2.2.2.1]
  · exact ⟨h, Int.le_refl _, rfl⟩
theorem cFlag_ok {N n idx : Int} {i : Nat} {T : Int → Int} {C : Cst} (hT : tapeOk T n) (h : cOk N T n C) (hput : ∀ (v : Int) (S : Int → Int), rInv N S → 0 ≤ v ∧ v ≤ 1 → rInv N (zfu S idx v)) : cOk N T n (cFlag T n i idx C) ∧ Cst.f C ≤ Cst.f (cFlag T n i idx C) := by
  unfold cFlag
  split
  · have h1 := cNx_ok hT (cRow_ok h (hput 1 _ h.2.2.2 (by omega)))
    have ht := cOk_t hT h
    refine ⟨h1.1, ?_⟩
    have q : Cst.t C ≤ Cst.f (cNx T n (cRow C (zfu (Cst.S C) idx 1))) := h1.2
    omega
  · exact ⟨h, Int.le_refl _⟩
theorem cChild_ok {N n kd : Int} {T : Int → Int} {C : Cst} (hT : tapeOk T n) (h : cOk N T n C) (hk : 0 ≤ kd ∧ kd ≤ 5) : cOk N T n (cChild T n kd C) ∧ (Cst.S C 0 < 6 → Cst.t C ≤ Cst.f (cChild T n kd C)) := by
  unfold cChild
  split
  · exact ⟨cFlt_ok h, fun q => by omega⟩
  · rename_i h6
    have i0 := h.2.2.2.1
    have ha := rAdd_inv h.2.2.2 (kd := kd) (by omega) hk
    have h1 := cNx_ok hT (cRow_ok h ha.1)
    have i1 : 0 ≤ Cst.S C 0 ∧ Cst.S C 0 < 6 := by omega
    have q1 := cPart_ok (i := 8) (idx := 19 + 6 * Cst.S C 0 + 1) (hi := 99) hT h1.1 (by omega) (fun v S J hv => rInv_kid J i1 (by omega) (by simpa using hv)) (by omega)
    have q2 := cPart_ok (i := 9) (idx := 19 + 6 * Cst.S C 0 + 2) (hi := 9) hT q1.1 (by omega) (fun v S J hv => rInv_kid J i1 (by omega) (by simpa using hv)) (by omega)
    have q3 := cFlag_ok (i := 10) (idx := 19 + 6 * Cst.S C 0 + 3) hT q2.1 (fun v S J hv => rInv_kid J i1 (by omega) (by simpa using hv))
    refine ⟨q3.1, fun _ => ?_⟩
    have a1 := q3.2
    have a2 := q2.2.1
    have a3 := q1.2.1
    have a4 : Cst.t C ≤ Cst.f (cNx T n (cRow C (rAdd (Cst.S C) kd))) := h1.2
    omega
theorem cSeat2_ok {N n st : Int} {T : Int → Int} {C : Cst} (hT : tapeOk T n) (h : cOk N T n C) (hs : 0 ≤ st ∧ st < 3) : cOk N T n (cSeat2 T n st C) ∧ Cst.f C ≤ Cst.f (cSeat2 T n st C) := by
  unfold cSeat2
  have h1 : cOk N T n (cRow C (zfu (Cst.S C) (4 + 5 * st + 2) 0)) := cRow_ok h (rInv_st h.2.2.2 hs (by omega) (by simp))
  have q1 := cPart_ok (i := 11) (idx := 4 + 5 * st + 0) (hi := 5) hT h1 (by omega) (fun v S J hv => rInv_st J hs (by omega) (by simpa using hv)) (by omega)
  have q2 := cPart_ok (i := 12) (idx := 4 + 5 * st + 1) (hi := 9) hT q1.1 (by omega) (fun v S J hv => rInv_st J hs (by omega) (by simpa using hv)) (by omega)
  have q3 := cFlag_ok (i := 13) (idx := 4 + 5 * st + 2) hT q2.1 (fun v S J hv => rInv_st J hs (by omega) (by simpa using hv))
  refine ⟨q3.1, ?_⟩
  have a1 := q3.2
  have a2 := q2.2.1
  have a3 : Cst.f C ≤ _ := q1.2.1
  omega
theorem cKd_rg {n : Int} {T : Int → Int} {C : Cst} : ∀ {r i : Nat}, -1 ≤ cKd T n C r i ∧ cKd T n C r i < i + r ∧ (0 ≤ cKd T n C r i → tk (bA T n (Cst.f C)) = 1) := by
  intro r
  induction r with
  | zero => intro i; unfold cKd; omega
  | succ r ih =>
    intro i
    unfold cKd
    split
    · rename_i q
      exact ⟨by omega, by omega, fun _ => q.1⟩
    · have := ih (i := i + 1)
      exact ⟨this.1, by omega, this.2.2⟩
theorem cItem_ok {N n : Int} {T : Int → Int} {C : Cst} (hT : tapeOk T n) (h : cOk N T n C) : cOk N T n (cItem T n C) ∧ (Cst.l (cItem T n C) = -1 → Cst.f C < Cst.f (cItem T n C)) := by
  have hk := cKd_rg (T := T) (n := n) (C := C) (r := 6) (i := 0)
  have ht := cOk_t hT h
  have hf := h.1
  have hb := bA_rg (i := Cst.f C) hT hf.1
  have hlt : tk (bA T n (Cst.f C)) = 1 → Cst.f C < n := fun q => by
    have := tk1.mp q
    omega
  unfold cItem
  split
  · rename_i q
    have h1 := cChild_ok (kd := cKd T n C 6 0) hT h (by omega)
    refine ⟨h1.1, fun z => ?_⟩
    have hl := hlt (hk.2.2 q)
    by_cases h6 : Cst.S C 0 < 6
    · have := h1.2 h6
      omega
    · exfalso
      have e : cChild T n (cKd T n C 6 0) C = cFlt C := if_pos (by omega)
      rw [e] at z
      have : Cst.f C = -1 := z
      omega
  · split
    · rename_i q
      have hl := hlt q.1
      have h1 := cNB_ok (hi := 2) hT h (by omega)
      unfold cSeat
      split
      · have h2 := cSeat2_ok (st := (cNB T n 2 C).2) hT h1.1 (by omega)
        exact ⟨h2.1, fun _ => by have := h2.2; have := h1.2.1; omega⟩
      · exact ⟨h1.1, fun _ => by have := h1.2.1; omega⟩
    · split
      · rename_i q
        have hl := hlt q.1
        have h1 := cNB_ok (hi := 9) hT h (by omega)
        refine ⟨cRow_ok h1.1 (rInv_one (by rw [h1.2.2.2.1]; exact h.2.2.2) (by omega)), fun _ => ?_⟩
        show Cst.f C < Cst.f (cNB T n 9 C).1
        have := h1.2.1
        omega
      · refine ⟨cFlt_ok h, fun z => ?_⟩
        have : Cst.f C = -1 := z
        omega
theorem cLoop_ok {N n : Int} {T : Int → Int} (hT : tapeOk T n) : ∀ {i : Nat} {C : Cst} {c : Int}, cOk N T n C → cOk N T n (cLoop T n i C c).1 := by
  intro i
  induction i with
  | zero => intro C c h; exact h
  | succ i ih =>
    intro C c h
    have h1 := cItem_ok hT h
    unfold cLoop
    split
    · exact h1.1
    · split
      · exact cFlt_ok h1.1
      · exact ih (cNx_ok hT h1.1).1
