/-! what holds of a car's row stays when one number changes within its range -/
theorem zfu_at {F : Int → Int} {i v : Int} : zfu F i v i = v := if_pos rfl
theorem zfu_ne {F : Int → Int} {i v j : Int} (h : ¬ j = i) : zfu F i v j = F j := if_neg h
theorem itS_ne {F : Int → Int} {i v k w : Int} (h : ¬ 4 + 5 * k + w = i) : itS (zfu F i v) k w = itS F k w := if_neg h
theorem toS_ne {F : Int → Int} {i v x w : Int} (h : ¬ 19 + 6 * x + w = i) : toS (zfu F i v) x w = toS F x w := if_neg h
theorem itS_at {F : Int → Int} {v k w : Int} : itS (zfu F (4 + 5 * k + w) v) k w = v := if_pos rfl
theorem toS_at {F : Int → Int} {v x w : Int} : toS (zfu F (19 + 6 * x + w) v) x w = v := if_pos rfl
theorem itS_if {F : Int → Int} {i v k w : Int} : itS (zfu F i v) k w = if 4 + 5 * k + w = i then v else itS F k w := rfl
theorem toS_if {F : Int → Int} {i v x w : Int} : toS (zfu F i v) x w = if 19 + 6 * x + w = i then v else toS F x w := rfl
/-- a change of a number that is no seat's sitter -/
theorem rInv_up {N : Int} {S : Int → Int} {i v : Int} (I : rInv N S) (hw : ¬ i = 8 ∧ ¬ i = 13 ∧ ¬ i = 18)
    (h0 : i = 0 → S 0 ≤ v ∧ v ≤ 6) (h1 : i = 1 → 0 ≤ v ∧ v ≤ N) (h2 : i = 2 → 0 ≤ v ∧ v ≤ 99999) (h3 : i = 3 → 0 ≤ v ∧ v ≤ 9)
    (hs : ∀ k : Int, 0 ≤ k → k < 3 → (4 + 5 * k + 0 = i → 0 ≤ v ∧ v ≤ 5) ∧ (4 + 5 * k + 1 = i → 0 ≤ v ∧ v ≤ 9) ∧ (4 + 5 * k + 2 = i → 0 ≤ v ∧ v ≤ 1) ∧ (4 + 5 * k + 3 = i → 0 ≤ v ∧ v ≤ 9999))
    (hc : ∀ x : Int, 0 ≤ x → x < 6 → (19 + 6 * x + 0 = i → 0 ≤ v ∧ v ≤ 5) ∧ (19 + 6 * x + 1 = i → 0 ≤ v ∧ v ≤ 99) ∧ (19 + 6 * x + 2 = i → 0 ≤ v ∧ v ≤ 9) ∧ (19 + 6 * x + 3 = i → 0 ≤ v ∧ v ≤ 1) ∧ (19 + 6 * x + 4 = i → 0 ≤ v ∧ v ≤ 9) ∧ (19 + 6 * x + 5 = i → 0 ≤ v ∧ v ≤ 9)) : rInv N (zfu S i v) := by
  obtain ⟨i0, i1, i2, i3, i4, i5, i6⟩ := I
  refine ⟨?_, ?_, ?_, ?_, fun k g0 g1 => ?_, fun x g0 g1 => ?_, fun k k' g0 g1 g2 g3 => ?_⟩
  · simp only [zfu]; split <;> omega
  · simp only [zfu]; split <;> omega
  · simp only [zfu]; split <;> omega
  · simp only [zfu]; split <;> omega
  · have j1 := i4 k g0 g1
    have j2 := hs k g0 g1
    refine ⟨?_, ?_, ?_, ?_, ?_⟩
    · rw [itS_if]; split <;> omega
    · rw [itS_if]; split <;> omega
    · rw [itS_if]; split <;> omega
    · rw [itS_if]; split <;> omega
    · rw [itS_ne (by omega)]
      simp only [zfu]; split <;> omega
  · have j1 := i5 x g0 g1
    have j2 := hc x g0 g1
    refine ⟨?_, ?_, ?_, ?_, ?_, ?_⟩ <;> (rw [toS_if]; split <;> omega)
  · rw [itS_ne (by omega), itS_ne (by omega)]
    exact i6 k k' g0 g1 g2 g3
/-- somebody sits down in a seat that is free -/
theorem rInv_sit {N : Int} {S : Int → Int} {k x : Int} (I : rInv N S) (hk : 0 ≤ k ∧ k < 3) (hx : 0 ≤ x ∧ x < S 0) (hn : rAt S x = -1) : rInv N (zfu S (4 + 5 * k + 4) x) := by
  obtain ⟨i0, i1, i2, i3, i4, i5, i6⟩ := I
  have hno : ∀ k' : Int, 0 ≤ k' → k' < 3 → ¬ itS S k' 4 = x := by
    intro k' g0 g1
    have h3 : k' = 0 ∨ k' = 1 ∨ k' = 2 := by omega
    unfold rAt at hn
    split at hn
    · cases hn
    · split at hn
      · cases hn
      · split at hn
        · cases hn
        · rcases h3 with rfl | rfl | rfl <;> assumption
  refine ⟨?_, ?_, ?_, ?_, fun k' g0 g1 => ?_, fun y g0 g1 => ?_, fun k' k'' g0 g1 g2 g3 => ?_⟩
  · simp only [zfu]; rw [if_neg (by omega)]; exact i0
  · simp only [zfu]; rw [if_neg (by omega)]; exact i1
  · simp only [zfu]; rw [if_neg (by omega)]; exact i2
  · simp only [zfu]; rw [if_neg (by omega)]; exact i3
  · have j1 := i4 k' g0 g1
    have e0 : zfu S (4 + 5 * k + 4) x 0 = S 0 := zfu_ne (by omega)
    refine ⟨?_, ?_, ?_, ?_, ?_⟩
    · rw [itS_ne (by omega)]; omega
    · rw [itS_ne (by omega)]; omega
    · rw [itS_ne (by omega)]; omega
    · rw [itS_ne (by omega)]; omega
    · rw [itS_if, e0]; split <;> omega
  · have j1 := i5 y g0 g1
    refine ⟨?_, ?_, ?_, ?_, ?_, ?_⟩ <;> (rw [toS_ne (by omega)]; omega)
  · intro h
    have j1 := hno k' g0 g1
    have j2 := hno k'' g2 g3
    have j3 := i6 k' k'' g0 g1 g2 g3
    rw [itS_if, itS_if] at h
    rw [itS_if]
    split at h <;> split at h
    · omega
    · omega
    · omega
    · rw [if_neg (by omega)]
      exact j3 h
/-- somebody gets out -/
theorem rInv_rise {N : Int} {S : Int → Int} {k : Int} (I : rInv N S) (hk : 0 ≤ k ∧ k < 3) : rInv N (zfu S (4 + 5 * k + 4) (-1)) := by
  obtain ⟨i0, i1, i2, i3, i4, i5, i6⟩ := I
  refine ⟨?_, ?_, ?_, ?_, fun k' g0 g1 => ?_, fun y g0 g1 => ?_, fun k' k'' g0 g1 g2 g3 => ?_⟩
  · simp only [zfu]; rw [if_neg (by omega)]; exact i0
  · simp only [zfu]; rw [if_neg (by omega)]; exact i1
  · simp only [zfu]; rw [if_neg (by omega)]; exact i2
  · simp only [zfu]; rw [if_neg (by omega)]; exact i3
  · have j1 := i4 k' g0 g1
    have e0 : zfu S (4 + 5 * k + 4) (-1) 0 = S 0 := zfu_ne (by omega)
    refine ⟨?_, ?_, ?_, ?_, ?_⟩
    · rw [itS_ne (by omega)]; omega
    · rw [itS_ne (by omega)]; omega
    · rw [itS_ne (by omega)]; omega
    · rw [itS_ne (by omega)]; omega
    · rw [itS_if, e0]; split <;> omega
  · have j1 := i5 y g0 g1
    refine ⟨?_, ?_, ?_, ?_, ?_, ?_⟩ <;> (rw [toS_ne (by omega)]; omega)
  · intro h
    have j1 := i4 k' g0 g1
    have j2 := i4 k'' g2 g3
    have j3 := i6 k' k'' g0 g1 g2 g3
    rw [itS_if, itS_if] at h
    rw [itS_if]
    split at h <;> split at h
    · omega
    · omega
    · omega
    · rw [if_neg (by omega)]
      exact j3 h
theorem rInv_kid {N : Int} {S : Int → Int} {x w v : Int} (I : rInv N S) (hx : 0 ≤ x ∧ x < 6) (hw : 0 ≤ w ∧ w < 6) (h : 0 ≤ v ∧ v ≤ (if w = 0 then 5 else if w = 1 then 99 else if w = 3 then 1 else 9)) : rInv N (zfu S (19 + 6 * x + w) v) := by
  refine rInv_up I (by omega) (by omega) (by omega) (by omega) (by omega) (fun k g0 g1 => ⟨by omega, by omega, by omega, by omega⟩) (fun y g0 g1 => ?_)
  refine ⟨fun q => ?_, fun q => ?_, fun q => ?_, fun q => ?_, fun q => ?_, fun q => ?_⟩
  · have e : w = 0 := by omega
    subst e; exact h
  · have e : w = 1 := by omega
    subst e; exact h
  · have e : w = 2 := by omega
    subst e; exact h
  · have e : w = 3 := by omega
    subst e; exact h
  · have e : w = 4 := by omega
    subst e; exact h
  · have e : w = 5 := by omega
    subst e; exact h
theorem rInv_st {N : Int} {S : Int → Int} {k w v : Int} (I : rInv N S) (hk : 0 ≤ k ∧ k < 3) (hw : 0 ≤ w ∧ w < 4) (h : 0 ≤ v ∧ v ≤ (if w = 0 then 5 else if w = 1 then 9 else if w = 2 then 1 else 9999)) : rInv N (zfu S (4 + 5 * k + w) v) := by
  refine rInv_up I (by omega) (by omega) (by omega) (by omega) (by omega) (fun y g0 g1 => ?_) (fun x g0 g1 => ⟨by omega, by omega, by omega, by omega, by omega, by omega⟩)
  refine ⟨fun q => ?_, fun q => ?_, fun q => ?_, fun q => ?_⟩
  · have e : w = 0 := by omega
    subst e; exact h
  · have e : w = 1 := by omega
    subst e; exact h
  · have e : w = 2 := by omega
    subst e; exact h
  · have e : w = 3 := by omega
    subst e; exact h
theorem rInv_one {N : Int} {S : Int → Int} {i v : Int} (I : rInv N S) (h : (i = 1 ∧ 0 ≤ v ∧ v ≤ N) ∨ (i = 2 ∧ 0 ≤ v ∧ v ≤ 99999) ∨ (i = 3 ∧ 0 ≤ v ∧ v ≤ 9)) : rInv N (zfu S i v) :=
  rInv_up I (by omega) (by omega) (by omega) (by omega) (by omega) (fun k g0 g1 => ⟨by omega, by omega, by omega, by omega⟩) (fun x g0 g1 => ⟨by omega, by omega, by omega, by omega, by omega, by omega⟩)
theorem rInv_more {N M : Int} {S : Int → Int} (I : rInv N S) (h : N ≤ M) : rInv M S := ⟨I.1, ⟨I.2.1.1, Int.le_trans I.2.1.2 h⟩, I.2.2⟩
