/-! the car's moves, in the class's order -/
theorem zfu_comm {F : Int → Int} {i j v w : Int} (h : ¬ i = j) : zfu (zfu F i v) j w = zfu (zfu F j w) i v := by
  funext q
  simp only [zfu]
  by_cases h1 : q = j
  · rw [if_pos h1, if_neg (by omega), if_pos h1]
  · rw [if_neg h1]
    by_cases h2 : q = i
    · rw [if_pos h2, if_pos h2]
    · rw [if_neg h2, if_neg h2, if_neg h1]
theorem or_zi0 (a : Int32) : a ||| zi 0 = a := Int32.or_zero
theorem rM2_cls {S : Int → Int} {k : Int} (ht : rTk S k) (h9 : 0 ≤ toS S (itS S k 4) 5) (hm : toS S (itS S k 4) 2 < 2) : rM2 S k = if toS S (itS S k 4) 5 - 1 ≤ 0 then rOut (zfu S (19 + 6 * itS S k 4 + 5) (zmax 0 (toS S (itS S k 4) 5 - 1))) k else zfu S (19 + 6 * itS S k 4 + 5) (zmax 0 (toS S (itS S k 4) 5 - 1)) := by
  have e : rLess S (itS S k 4) = zfu S (19 + 6 * itS S k 4 + 5) (zmax 0 (toS S (itS S k 4) 5 - 1)) := by
    unfold rLess zmax
    congr 1
    split <;> split <;> omega
  have e2 : toS (rLess S (itS S k 4)) (itS S k 4) 5 = zmax 0 (toS S (itS S k 4) 5 - 1) := by rw [e, toS_at]
  unfold rM2
  rw [if_pos ⟨ht, hm⟩, e2, e]
  unfold zmax
  by_cases h : toS S (itS S k 4) 5 - 1 ≤ 0
  · rw [if_pos (show (if toS S (itS S k 4) 5 - 1 < 0 then 0 else toS S (itS S k 4) 5 - 1) = 0 from by split <;> omega), if_pos h]
  · rw [if_neg (show ¬ (if toS S (itS S k 4) 5 - 1 < 0 then 0 else toS S (itS S k 4) 5 - 1) = 0 from by split <;> omega), if_neg h]
/-- a new child's numbers, and one more of them -/
theorem zcu_add {N : Int} {μ : zMem} {g : Nat} {S : Int → Int} {v : Int} (I : rInv N S) (h6 : S 0 < 6) : zup (zup (zup (zup (zup (zup (zup (zup (zcar μ g S) g (6 + S 0) 0 v) g (6 + S 0) 1 30) g (6 + S 0) 2 5) g (6 + S 0) 3 0) g (6 + S 0) 4 0) g (6 + S 0) 5 0) g (6 + S 0) 6 (-1)) g 0 2 (S 0 + 1) = zcar μ g (rAdd S v) := by
  have h0 := I.1
  have hw : ∀ k : Int, 0 ≤ k → k < 3 → itS S k 4 < S 0 := fun k a b => (I.2.2.2.2.1 k a b).2.2.2.2.2
  have e0 : rAdd S v 0 = S 0 + 1 := by
    unfold rAdd
    try simp only
    rw [zfu_at, zfu_ne (by omega), zfu_ne (by omega), zfu_ne (by omega)]
    rw [if_neg (by omega)]
  have elo : ∀ j : Int, 0 < j → j < 19 + 6 * S 0 → rAdd S v j = S j := by
    intro j j0 j1
    unfold rAdd
    try simp only
    rw [zfu_ne (by omega), zfu_ne (by omega), zfu_ne (by omega), zfu_ne (by omega), if_neg (by omega)]
  have enew : ∀ f : Int, 0 ≤ f → f < 6 → rAdd S v (19 + 6 * S 0 + f) = if f = 0 then v else if f = 1 then 30 else if f = 2 then 5 else 0 := by
    intro f f0 f1
    unfold rAdd
    try simp only
    rw [zfu_ne (by omega)]
    by_cases q2 : f = 2
    · subst q2; rw [zfu_at]; rfl
    · rw [zfu_ne (by omega)]
      by_cases q1 : f = 1
      · subst q1; rw [zfu_at]; rfl
      · rw [zfu_ne (by omega)]
        by_cases q0 : f = 0
        · subst q0; rw [zfu_at]; rfl
        · rw [zfu_ne (by omega), if_pos (by omega), if_neg q0, if_neg q1, if_neg q2]
  have eat : ∀ y : Int, rAt (rAdd S v) y = rAt S y := by
    intro y
    unfold rAt itS
    rw [elo _ (by omega) (by omega), elo _ (by omega) (by omega), elo _ (by omega) (by omega)]
  have enone : rAt S (S 0) = -1 := by
    have a := hw 0 (by omega) (by omega)
    have b := hw 1 (by omega) (by omega)
    have c := hw 2 (by omega) (by omega)
    unfold rAt
    rw [if_neg (by omega), if_neg (by omega), if_neg (by omega)]
  funext g' k' f'
  simp only [zup, zcar]
  by_cases hg : g' = g
  · subst hg
    simp only [if_true, true_and]
    unfold cOf
    rw [e0, elo 3 (by omega) (by omega), elo 1 (by omega) (by omega), elo 2 (by omega) (by omega)]
    by_cases h1 : k' = 0
    · subst h1
      by_cases h2 : f' = 2
      · subst h2; simp
      · have hk : ¬ (0 : Int) = 6 + S 0 := by omega
        simp [h2, hk]
    · by_cases h2 : 3 ≤ k' ∧ k' < 6
      · have hk : ¬ k' = 6 + S 0 := by omega
        simp only [h1, hk, false_and, if_false, h2, and_self, if_true]
        by_cases h3 : 0 ≤ f' ∧ f' < 5
        · rw [if_pos h3, if_pos h3, elo _ (by omega) (by omega)]
        · rw [if_neg h3, if_neg h3]
      · by_cases hn : k' = 6 + S 0
        · subst hn
          rw [if_neg (by omega)]
          rw [if_neg h1, if_neg h2, if_pos (show 6 ≤ 6 + S 0 ∧ 6 + S 0 < 6 + (S 0 + 1) from by omega), show 6 + S 0 - 6 = S 0 from by omega, eat, enone]
          rw [if_neg h1, if_neg h2, if_neg (show ¬ (6 ≤ 6 + S 0 ∧ 6 + S 0 < 6 + S 0) from by omega)]
          by_cases h3 : 0 ≤ f' ∧ f' < 6
          · rw [if_pos h3, enew f' h3.1 h3.2]
            have hf : f' = 0 ∨ f' = 1 ∨ f' = 2 ∨ f' = 3 ∨ f' = 4 ∨ f' = 5 := by omega
            rcases hf with rfl | rfl | rfl | rfl | rfl | rfl <;> simp
          · rw [if_neg h3]
            by_cases h6 : f' = 6
            · subst h6; simp
            · have q0 : ¬ f' = 0 := by omega
              have q1 : ¬ f' = 1 := by omega
              have q2 : ¬ f' = 2 := by omega
              have q3 : ¬ f' = 3 := by omega
              have q4 : ¬ f' = 4 := by omega
              have q5 : ¬ f' = 5 := by omega
              simp [h6, q0, q1, q2, q3, q4, q5]
        · simp only [h1, hn, false_and, if_false, h2]
          by_cases h4 : 6 ≤ k' ∧ k' < 6 + S 0
          · rw [if_pos h4, if_pos (show 6 ≤ k' ∧ k' < 6 + (S 0 + 1) from by omega), eat]
            by_cases h3 : 0 ≤ f' ∧ f' < 6
            · rw [if_pos h3, if_pos h3, elo _ (by omega) (by omega)]
            · rw [if_neg h3, if_neg h3]
          · rw [if_neg h4, if_neg (show ¬ (6 ≤ k' ∧ k' < 6 + (S 0 + 1)) from by omega)]
  · simp only [hg, false_and, if_false]
