/-! text: children, seats, items keep what holds of the reference's reader -/
theorem rAdd_inv {N kd : Int} {S : Int → Int} (I : rInv N S) (h6 : S 0 < 6) (hk : 0 ≤ kd ∧ kd ≤ 5) : rInv N (rAdd S kd) ∧ rAdd S kd 0 = S 0 + 1 := by
  have i0 := I.1
  have J1 : rInv N (fun j => if 19 + 6 * S 0 ≤ j ∧ j < 19 + 6 * S 0 + 6 then 0 else S j) := by
    obtain ⟨i0, i1, i2, i3, i4, i5, i6⟩ := I
    have hst : ∀ k w : Int, k < 3 → w < 5 → itS (fun j => if 19 + 6 * S 0 ≤ j ∧ j < 19 + 6 * S 0 + 6 then 0 else S j) k w = itS S k w := fun k w a b => if_neg (by omega)
    have h0 : (fun j : Int => if 19 + 6 * S 0 ≤ j ∧ j < 19 + 6 * S 0 + 6 then 0 else S j) 0 = S 0 := if_neg (by omega)
    refine ⟨?_, ?_, ?_, ?_, fun k g0 g1 => ?_, fun x g0 g1 => ?_, fun k k' g0 g1 g2 g3 => ?_⟩
    · rw [h0]; exact i0
    · show 0 ≤ (if 19 + 6 * S 0 ≤ (1 : Int) ∧ (1 : Int) < 19 + 6 * S 0 + 6 then 0 else S 1) ∧ (if 19 + 6 * S 0 ≤ (1 : Int) ∧ (1 : Int) < 19 + 6 * S 0 + 6 then 0 else S 1) ≤ N
      rw [if_neg (by omega)]; exact i1
    · show 0 ≤ (if 19 + 6 * S 0 ≤ (2 : Int) ∧ (2 : Int) < 19 + 6 * S 0 + 6 then 0 else S 2) ∧ (if 19 + 6 * S 0 ≤ (2 : Int) ∧ (2 : Int) < 19 + 6 * S 0 + 6 then 0 else S 2) ≤ 99999
      rw [if_neg (by omega)]; exact i2
    · show 0 ≤ (if 19 + 6 * S 0 ≤ (3 : Int) ∧ (3 : Int) < 19 + 6 * S 0 + 6 then 0 else S 3) ∧ (if 19 + 6 * S 0 ≤ (3 : Int) ∧ (3 : Int) < 19 + 6 * S 0 + 6 then 0 else S 3) ≤ 9
      rw [if_neg (by omega)]; exact i3
    · rw [hst k 0 g1 (by omega), hst k 1 g1 (by omega), hst k 2 g1 (by omega), hst k 3 g1 (by omega), hst k 4 g1 (by omega), h0]
      exact i4 k g0 g1
    · have j1 := i5 x g0 g1
      unfold toS at j1 ⊢
      refine ⟨?_, ?_, ?_, ?_, ?_, ?_⟩ <;> (dsimp only; split <;> omega)
    · rw [hst k 4 g1 (by omega), hst k' 4 g3 (by omega)]
      exact i6 k k' g0 g1 g2 g3
  have J2 := rInv_kid J1 (x := S 0) (w := 0) (v := kd) (by omega) (by omega) (by simp; omega)
  have J3 := rInv_kid J2 (x := S 0) (w := 1) (v := 30) (by omega) (by omega) (by simp)
  have J4 := rInv_kid J3 (x := S 0) (w := 2) (v := 5) (by omega) (by omega) (by simp)
  have e0 : zfu (zfu (zfu (fun j => if 19 + 6 * S 0 ≤ j ∧ j < 19 + 6 * S 0 + 6 then 0 else S j) (19 + 6 * S 0 + 0) kd) (19 + 6 * S 0 + 1) 30) (19 + 6 * S 0 + 2) 5 0 = S 0 := by
    rw [zfu_ne (by omega), zfu_ne (by omega), zfu_ne (by omega)]
    exact if_neg (by omega)
  refine ⟨?_, ?_⟩
  · show rInv N (zfu _ 0 (zfu (zfu (zfu (fun j => if 19 + 6 * S 0 ≤ j ∧ j < 19 + 6 * S 0 + 6 then 0 else S j) (19 + 6 * S 0 + 0) kd) (19 + 6 * S 0 + 1) 30) (19 + 6 * S 0 + 2) 5 0 + 1))
    rw [e0]
    exact rInv_up J4 (by omega) (fun _ => by rw [e0]; omega) (fun h => by omega) (fun h => by omega) (fun h => by omega) (fun k g0 g1 => by omega) (fun x g0 g1 => by omega)
  · show zfu _ 0 (zfu (zfu (zfu (fun j => if 19 + 6 * S 0 ≤ j ∧ j < 19 + 6 * S 0 + 6 then 0 else S j) (19 + 6 * S 0 + 0) kd) (19 + 6 * S 0 + 1) 30) (19 + 6 * S 0 + 2) 5 0 + 1) 0 = S 0 + 1
    rw [zfu_at, e0]
theorem pChild_ok {N n kd : Int} {T : Int → Int} {P : Pst} (hT : tapeOk T n) (h : pOk N T n P) (hk : 0 ≤ kd ∧ kd ≤ 5) : pOk N T n (pChild T n kd P) ∧ Pst.f P ≤ Pst.f (pChild T n kd P) := by
  have h1 := pMust_ok (b := if Pst.S P 0 < 6 then 1 else 0) hT h
  have hS := (pMust_S (T := T) (n := n) (b := if Pst.S P 0 < 6 then 1 else 0) (P := P)).1
  unfold pChild
  by_cases hw : Pst.w (pMust T n (if Pst.S P 0 < 6 then 1 else 0) P) = 0
  · have h2 := pMust_w hw
    have h6 : Pst.S P 0 < 6 := by
      have q := h2.2.1
      split at q
      · assumption
      · omega
    dsimp only
    rw [if_pos hw]
    generalize hP1 : pMust T n (if Pst.S P 0 < 6 then 1 else 0) P = P1 at *
    have i0 := h.2.2.2.2.1
    have ha := rAdd_inv h1.1.2.2.2.2 (kd := kd) (by rw [hS]; exact h6) hk
    have hr : pOk N T n (pRow P1 (rAdd (Pst.S P1) kd)) := ⟨h1.1.1, h1.1.2.1, h1.1.2.2.1, h1.1.2.2.2.1, ha.1⟩
    have i1 : 0 ≤ Pst.S P1 0 ∧ Pst.S P1 0 < 6 := by rw [hS]; omega
    have q1 := pPart_ok (K := 632645) (idx := 19 + 6 * Pst.S P1 0 + 1) (hi := 99) hT hr (fun v S J hv => rInv_kid J i1 (by omega) (by simpa using hv)) (by omega)
    have q2 := pPart_ok (K := 441828) (idx := 19 + 6 * Pst.S P1 0 + 2) (hi := 9) hT q1.1 (fun v S J hv => rInv_kid J i1 (by omega) (by simpa using hv)) (by omega)
    have q3 := pMay_ok (K := 113716) (idx := 19 + 6 * Pst.S P1 0 + 3) hT q2.1 (fun v S J hv => rInv_kid J i1 (by omega) (by simpa using hv))
    refine ⟨q3.1, ?_⟩
    have a1 := q3.2
    have a2 := q2.2.1
    have a3 := q1.2.1
    have a4 : Pst.f (pRow P1 (rAdd (Pst.S P1) kd)) = Pst.f P1 := rfl
    have a5 := h1.2
    omega
  · dsimp only
    rw [if_neg hw]
    exact h1
theorem pSeat_ok {N n : Int} {T : Int → Int} {P : Pst} (hT : tapeOk T n) (h : pOk N T n P) : pOk N T n (pSeat T n P) ∧ Pst.f P ≤ Pst.f (pSeat T n P) := by
  have h1 := pMust_ok (b := 1) hT h
  have h2 := pNum_ok (hi := 2) hT h1.1
  unfold pSeat
  dsimp only
  generalize hP1 : pNum T n 2 (pMust T n 1 P) = P1 at *
  have hs : 0 ≤ (if Pst.w P1 = 0 then Pst.v P1 else 0) ∧ (if Pst.w P1 = 0 then Pst.v P1 else 0) < 3 := by
    have hv := h2.1.2.2.2.1
    split
    · rename_i q
      have := h2.2.2.1 q
      omega
    · omega
  generalize (if Pst.w P1 = 0 then Pst.v P1 else 0) = st at hs ⊢
  have q1 := pPart_ok (K := 695520915) (idx := 4 + 5 * st + 0) (hi := 5) hT h2.1 (fun v S J hv => rInv_st J hs (by omega) (by simpa using hv)) (by omega)
  have q2 := pPart_ok (K := 120239187) (idx := 4 + 5 * st + 1) (hi := 9) hT q1.1 (fun v S J hv => rInv_st J hs (by omega) (by simpa using hv)) (by omega)
  have q3 := pMay_ok (K := 693713060) (idx := 4 + 5 * st + 2) hT q2.1 (fun v S J hv => rInv_st J hs (by omega) (by simpa using hv))
  refine ⟨q3.1, ?_⟩
  have a1 := q3.2
  have a2 := q2.2.1
  have a3 := q1.2.1
  have a4 := h2.2.1
  have a5 := h1.2
  omega
theorem pKind_rg {n : Int} {T : Int → Int} {P : Pst} : -1 ≤ pKind T n P ∧ pKind T n P ≤ 5 := by
  unfold pKind
  (repeat' split) <;> omega
theorem pItem_ok {N n : Int} {T : Int → Int} {P : Pst} (hT : tapeOk T n) (h : pOk N T n P) : pOk N T n (pItem T n P) ∧ Pst.f P ≤ Pst.f (pItem T n P) := by
  have hk := pKind_rg (T := T) (n := n) (P := P)
  unfold pItem
  split
  · exact pChild_ok hT h (by omega)
  · split
    · exact pSeat_ok hT h
    · have h1 := pMust_ok (b := if pWord T n P = 591150 then 1 else 0) hT h
      have h2 := pNum_ok (hi := 9) hT h1.1
      refine ⟨pPut_ok h2.1 h2.2.2.1 (fun v S J hv => rInv_one J (by omega)), ?_⟩
      show Pst.f P ≤ Pst.f (pNum T n 9 (pMust T n (if pWord T n P = 591150 then 1 else 0) P))
      have := h2.2.1
      have := h1.2
      omega
theorem pLoop_ok {N n : Int} {T : Int → Int} (hT : tapeOk T n) : ∀ {i : Nat} {P : Pst} {c : Int}, pOk N T n P → pOk N T n (pLoop T n i P c).1 := by
  intro i
  induction i with
  | zero => intro P c h; exact h
  | succ i ih =>
    intro P c h
    unfold pLoop
    split
    · exact ih (pItem_ok hT (pMust_ok hT h).1).1
    · exact h
