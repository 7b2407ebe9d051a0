/-! a car becomes another -/
theorem zup_ne {μ : zMem} {g g' : Nat} {k k' i i' v : Int} (h : ¬ (g' = g ∧ k' = k ∧ i' = i)) : zup μ g k i v g' k' i' = μ g' k' i' := if_neg h
theorem rAdd_0 {S : Int → Int} {v : Int} (h : 0 ≤ S 0) : rAdd S v 0 = S 0 + 1 := by
  unfold rAdd
  try simp only
  rw [zfu_at, zfu_ne (by omega), zfu_ne (by omega), zfu_ne (by omega), if_neg (by omega)]
/-- cells a .. a+n-1 of a segment get the first w numbers of those of another -/
def zreg (μ : zMem) (g g2 : Nat) (a n w : Int) : zMem := fun g' k' i => if g' = g ∧ a ≤ k' ∧ k' < a + n ∧ 0 ≤ i ∧ i < w then μ g2 k' i else μ g' k' i
theorem zreg_0 {μ : zMem} {g g2 : Nat} {a w : Int} : zreg μ g g2 a 0 w = μ := by
  funext g' k' i
  unfold zreg
  rw [if_neg (by omega)]
theorem zreg_src {μ : zMem} {g g2 : Nat} {a n w : Int} (h : ¬ g2 = g) : zreg μ g g2 a n w g2 = μ g2 := by
  funext k' i
  unfold zreg
  rw [if_neg (fun q => h q.1)]
theorem zreg_step {μ : zMem} {g g2 : Nat} {a n w : Int} (h : ¬ g2 = g) (hn : 0 ≤ n) : zreg (zreg μ g g2 a n w) g g2 (a + n) 1 w = zreg μ g g2 a (n + 1) w := by
  funext g' k' i
  unfold zreg
  by_cases h1 : g' = g ∧ a + n ≤ k' ∧ k' < a + n + 1 ∧ 0 ≤ i ∧ i < w
  · rw [if_pos h1, if_neg (fun q => h q.1), if_pos (by omega)]
  · rw [if_neg h1]
    by_cases h2 : g' = g ∧ a ≤ k' ∧ k' < a + n ∧ 0 ≤ i ∧ i < w
    · rw [if_pos h2, if_pos (by omega)]
    · rw [if_neg h2, if_neg (by omega)]
theorem zreg_5 {μ : zMem} {g g2 : Nat} {a : Int} (h : ¬ g2 = g) {M1 M2 M3 M4 M5 : zMem} (h1 : M1 = zup μ g a 0 (μ g2 a 0)) (h2 : M2 = zup M1 g a 1 (M1 g2 a 1)) (h3 : M3 = zup M2 g a 2 (M2 g2 a 2)) (h4 : M4 = zup M3 g a 3 (M3 g2 a 3)) (h5 : M5 = zup M4 g a 4 (M4 g2 a 4)) : M5 = zreg μ g g2 a 1 5 := by
  have s : ∀ (M : zMem) (i v : Int), zup M g a i v g2 = M g2 := fun M i v => by
    funext k' i'
    unfold zup
    rw [if_neg (fun q => h q.1)]
  have e1 : M1 g2 = μ g2 := by rw [h1, s]
  have e2 : M2 g2 = μ g2 := by rw [h2, s, e1]
  have e3 : M3 g2 = μ g2 := by rw [h3, s, e2]
  have e4 : M4 g2 = μ g2 := by rw [h4, s, e3]
  rw [e1] at h2
  rw [e2] at h3
  rw [e3] at h4
  rw [e4] at h5
  subst h1 h2 h3 h4 h5
  funext g' k' i
  unfold zreg zup
  by_cases hk : g' = g ∧ k' = a
  · obtain ⟨rfl, rfl⟩ := hk
    by_cases hi : 0 ≤ i ∧ i < 5
    · rw [if_pos (show g' = g' ∧ k' ≤ k' ∧ k' < k' + 1 ∧ 0 ≤ i ∧ i < 5 from ⟨rfl, by omega, by omega, hi.1, hi.2⟩)]
      have h5 : i = 0 ∨ i = 1 ∨ i = 2 ∨ i = 3 ∨ i = 4 := by omega
      rcases h5 with rfl | rfl | rfl | rfl | rfl <;> simp
    · rw [if_neg (show ¬ (g' = g' ∧ k' ≤ k' ∧ k' < k' + 1 ∧ 0 ≤ i ∧ i < 5) from by omega), if_neg (by omega), if_neg (by omega), if_neg (by omega), if_neg (by omega), if_neg (by omega)]
  · rw [if_neg (fun q => hk ⟨q.1, q.2.1⟩), if_neg (fun q => hk ⟨q.1, q.2.1⟩), if_neg (fun q => hk ⟨q.1, q.2.1⟩), if_neg (fun q => hk ⟨q.1, q.2.1⟩), if_neg (fun q => hk ⟨q.1, q.2.1⟩), if_neg (fun q => hk ⟨q.1, by omega⟩)]
theorem zreg_7 {μ : zMem} {g g2 : Nat} {a : Int} (h : ¬ g2 = g) {M1 M2 M3 M4 M5 M6 M7 : zMem} (h1 : M1 = zup μ g a 0 (μ g2 a 0)) (h2 : M2 = zup M1 g a 1 (M1 g2 a 1)) (h3 : M3 = zup M2 g a 2 (M2 g2 a 2)) (h4 : M4 = zup M3 g a 3 (M3 g2 a 3)) (h5 : M5 = zup M4 g a 4 (M4 g2 a 4)) (h6 : M6 = zup M5 g a 5 (M5 g2 a 5)) (h7 : M7 = zup M6 g a 6 (M6 g2 a 6)) : M7 = zreg μ g g2 a 1 7 := by
  have s : ∀ (M : zMem) (i v : Int), zup M g a i v g2 = M g2 := fun M i v => by
    funext k' i'
    unfold zup
    rw [if_neg (fun q => h q.1)]
  have e1 : M1 g2 = μ g2 := by rw [h1, s]
  have e2 : M2 g2 = μ g2 := by rw [h2, s, e1]
  have e3 : M3 g2 = μ g2 := by rw [h3, s, e2]
  have e4 : M4 g2 = μ g2 := by rw [h4, s, e3]
  have e5 : M5 g2 = μ g2 := by rw [h5, s, e4]
  have e6 : M6 g2 = μ g2 := by rw [h6, s, e5]
  rw [e1] at h2
  rw [e2] at h3
  rw [e3] at h4
  rw [e4] at h5
  rw [e5] at h6
  rw [e6] at h7
  subst h1 h2 h3 h4 h5 h6 h7
  funext g' k' i
  unfold zreg zup
  by_cases hk : g' = g ∧ k' = a
  · obtain ⟨rfl, rfl⟩ := hk
    by_cases hi : 0 ≤ i ∧ i < 7
    · rw [if_pos (show g' = g' ∧ k' ≤ k' ∧ k' < k' + 1 ∧ 0 ≤ i ∧ i < 7 from ⟨rfl, by omega, by omega, hi.1, hi.2⟩)]
      have h5 : i = 0 ∨ i = 1 ∨ i = 2 ∨ i = 3 ∨ i = 4 ∨ i = 5 ∨ i = 6 := by omega
      rcases h5 with rfl | rfl | rfl | rfl | rfl | rfl | rfl <;> simp
    · rw [if_neg (show ¬ (g' = g' ∧ k' ≤ k' ∧ k' < k' + 1 ∧ 0 ≤ i ∧ i < 7) from by omega), if_neg (by omega), if_neg (by omega), if_neg (by omega), if_neg (by omega), if_neg (by omega), if_neg (by omega), if_neg (by omega)]
  · rw [if_neg (fun q => hk ⟨q.1, q.2.1⟩), if_neg (fun q => hk ⟨q.1, q.2.1⟩), if_neg (fun q => hk ⟨q.1, q.2.1⟩), if_neg (fun q => hk ⟨q.1, q.2.1⟩), if_neg (fun q => hk ⟨q.1, q.2.1⟩), if_neg (fun q => hk ⟨q.1, q.2.1⟩), if_neg (fun q => hk ⟨q.1, q.2.1⟩), if_neg (fun q => hk ⟨q.1, by omega⟩)]
/-- all of it -/
theorem zreg_car {μ : zMem} {g g2 : Nat} {S : Int → Int} (h : ¬ g2 = g) (h0 : 0 ≤ S 0) {M M0 M1 M2 M3 M4 : zMem} (hM : M = zcar μ g2 S) (e0 : M0 = zreg (zreg M g g2 3 3 5) g g2 6 (S 0) 7) (e1 : M1 = zup M0 g 0 2 (S 0)) (e2 : M2 = zup M1 g 0 3 (S 3)) (e3 : M3 = zup M2 g 0 4 (S 1)) (e4 : M4 = zup M3 g 0 5 (S 2)) : M4 = zcar (zcar μ g2 S) g S := by
  subst e1 e2 e3 e4
  subst e0
  have hs : M g2 = cOf S (μ g2) := by rw [hM, zc_at]
  have ht : M g = μ g := by rw [hM, zc_ne (fun q => h q.symm)]
  funext g' k' i
  by_cases hg : g' = g
  · subst hg
    rw [show zcar (zcar μ g2 S) g' S g' = cOf S (M g') from by rw [zc_at, hM]]
    unfold zup
    simp only [true_and]
    by_cases h1 : k' = 0
    · subst h1
      rw [show cOf S (M g') 0 i = (if i = 2 then S 0 else if i = 3 then S 3 else if i = 4 then S 1 else if i = 5 then S 2 else M g' 0 i) from rfl]
      have hz : zreg (zreg M g' g2 3 3 5) g' g2 6 (S 0) 7 g' 0 i = M g' 0 i := by
        unfold zreg
        rw [if_neg (by omega), if_neg (by omega)]
      rw [hz]
      by_cases q5 : i = 5
      · subst q5; simp
      · by_cases q4 : i = 4
        · subst q4; simp
        · by_cases q3 : i = 3
          · subst q3; simp
          · by_cases q2 : i = 2
            · subst q2; simp
            · simp [q5, q4, q3, q2]
    · rw [if_neg (fun q => h1 q.1), if_neg (fun q => h1 q.1), if_neg (fun q => h1 q.1), if_neg (fun q => h1 q.1)]
      unfold cOf
      rw [if_neg h1]
      by_cases h2 : 3 ≤ k' ∧ k' < 6
      · rw [if_pos h2]
        unfold zreg
        rw [if_neg (by omega)]
        by_cases h3 : 0 ≤ i ∧ i < 5
        · rw [if_pos h3, if_pos (by omega), hs]
          unfold cOf
          rw [if_neg h1, if_pos h2, if_pos h3]
        · rw [if_neg h3, if_neg (by omega)]
      · rw [if_neg h2]
        by_cases h4 : 6 ≤ k' ∧ k' < 6 + S 0
        · rw [if_pos h4]
          unfold zreg
          by_cases h3 : 0 ≤ i ∧ i < 7
          · rw [if_pos (by omega), if_neg (fun q => h q.1), hs]
            unfold cOf
            rw [if_neg h1, if_neg h2, if_pos h4]
            by_cases h5 : 0 ≤ i ∧ i < 6
            · rw [if_pos h5, if_pos h5]
            · rw [if_neg h5, if_neg h5, if_pos (by omega), if_pos (by omega)]
          · rw [if_neg (by omega), if_neg (by omega), if_neg (by omega), if_neg (by omega)]
        · rw [if_neg h4]
          unfold zreg
          rw [if_neg (by omega), if_neg (by omega)]
  · rw [zc_ne hg, ← hM]
    unfold zup zreg
    rw [if_neg (fun q => hg q.1), if_neg (fun q => hg q.1), if_neg (fun q => hg q.1), if_neg (fun q => hg q.1), if_neg (fun q => hg q.1), if_neg (fun q => hg q.1)]
theorem zcar_comm {μ : zMem} {a b : Nat} {S T : Int → Int} (h : ¬ a = b) : zcar (zcar μ a S) b T = zcar (zcar μ b T) a S := by
  funext g
  unfold zcar
  by_cases h1 : g = b
  · subst h1
    rw [if_pos rfl, if_neg (fun q => h q.symm), if_neg (fun q => h q.symm), if_pos rfl]
  · rw [if_neg h1]
    by_cases h2 : g = a
    · subst h2
      rw [if_pos rfl, if_pos rfl, if_neg h]
    · rw [if_neg h2, if_neg h2, if_neg h1]
theorem cOf_cOf {S T : Int → Int} {X : Int → Int → Int} (h : T 0 = S 0) : cOf T (cOf S X) = cOf T X := by
  funext k f
  unfold cOf
  by_cases h1 : k = 0
  · by_cases q2 : f = 2 <;> by_cases q3 : f = 3 <;> by_cases q4 : f = 4 <;> by_cases q5 : f = 5 <;> simp [h1, q2, q3, q4, q5]
  · by_cases h2 : 3 ≤ k ∧ k < 6
    · by_cases q : 0 ≤ f ∧ f < 5 <;> simp [h1, h2, q]
    · by_cases h4 : 6 ≤ k ∧ k < 6 + S 0
      · by_cases q : 0 ≤ f ∧ f < 6 <;> by_cases q6 : f = 6 <;> simp [h1, h2, h4, q, q6, h]
      · simp [h1, h2, h4, h]
theorem zcar_car {μ : zMem} {g : Nat} {S T : Int → Int} (h : T 0 = S 0) : zcar (zcar μ g S) g T = zcar μ g T := by
  funext g'
  unfold zcar
  by_cases h1 : g' = g
  · rw [if_pos h1, if_pos h1, if_pos rfl, cOf_cOf h]
  · rw [if_neg h1, if_neg h1, if_neg h1]
theorem rClick_0 {S : Int → Int} {x k : Int} (hx : 0 ≤ x) (hk : 0 ≤ k ∧ k < 3) : rClick S x k 0 = S 0 := by
  unfold rClick
  try simp only
  split
  · rw [zfu_ne (by omega), zfu_ne (by omega), zfu_ne (by omega), zfu_ne (by omega), zfu_ne (by omega)]
  · rw [zfu_ne (by omega), zfu_ne (by omega), zfu_ne (by omega), zfu_ne (by omega)]
theorem rQuick_none {S : Int → Int} {x : Int} : -1 ≤ rQuick S x ∧ rQuick S x < 3 ∧ (rQuick S x = -1 ↔ rTk S 0 ∧ rTk S 1 ∧ rTk S 2) := by
  unfold rQuick
  have B1 := rQ_rg (S := S) (x := x) (k := 0) (b := -1) (by omega) (by omega)
  have B2 := rQ_rg (S := S) (x := x) (k := 1) (b := rQ S x 0 (-1)) (by omega) B1
  have B3 := rQ_rg (S := S) (x := x) (k := 2) (b := rQ S x 1 (rQ S x 0 (-1))) (by omega) B2
  have s : ∀ k b : Int, 0 ≤ k → (rQ S x k b = -1 ↔ (rTk S k ∧ b = -1)) ∨ ¬ b = -1 := by
    intro k b hk
    by_cases hb : b = -1
    · left
      subst hb
      unfold rQ
      split <;> omega
    · exact Or.inr hb
  have s2 : ∀ k b : Int, 0 ≤ k → -1 ≤ b → ¬ b = -1 → ¬ rQ S x k b = -1 := by
    intro k b hk h1 h2
    unfold rQ
    split <;> omega
  refine ⟨B3.1, B3.2, ?_⟩
  have t0 := s 0 (-1) (by omega)
  have t1 := s 1 (rQ S x 0 (-1)) (by omega)
  have t2 := s 2 (rQ S x 1 (rQ S x 0 (-1))) (by omega)
  have u1 := s2 1 (rQ S x 0 (-1)) (by omega) B1.1
  have u2 := s2 2 (rQ S x 1 (rQ S x 0 (-1))) (by omega) B2.1
  omega
theorem rSafe_none {S : Int → Int} {x : Int} : -1 ≤ rSafe S x ∧ rSafe S x < 3 ∧ (rSafe S x = -1 ↔ rTk S 0 ∧ rTk S 1 ∧ rTk S 2) := by
  unfold rSafe
  have B1 := rSf_rg (S := S) (x := x) (k := 0) (b := -1) (by omega) (by omega)
  have B2 := rSf_rg (S := S) (x := x) (k := 1) (b := rSf S x 0 (-1)) (by omega) B1
  have B3 := rSf_rg (S := S) (x := x) (k := 2) (b := rSf S x 1 (rSf S x 0 (-1))) (by omega) B2
  have s : ∀ k b : Int, 0 ≤ k → (rSf S x k b = -1 ↔ (rTk S k ∧ b = -1)) ∨ ¬ b = -1 := by
    intro k b hk
    by_cases hb : b = -1
    · left
      subst hb
      unfold rSf
      split <;> omega
    · exact Or.inr hb
  have s2 : ∀ k b : Int, 0 ≤ k → -1 ≤ b → ¬ b = -1 → ¬ rSf S x k b = -1 := by
    intro k b hk h1 h2
    unfold rSf
    split <;> omega
  refine ⟨B3.1, B3.2, ?_⟩
  have t0 := s 0 (-1) (by omega)
  have t1 := s 1 (rSf S x 0 (-1)) (by omega)
  have t2 := s 2 (rSf S x 1 (rSf S x 0 (-1))) (by omega)
  have u1 := s2 1 (rSf S x 0 (-1)) (by omega) B1.1
  have u2 := s2 2 (rSf S x 1 (rSf S x 0 (-1))) (by omega) B2.1
  omega
theorem rBr_0 {S : Int → Int} {x : Int} (hx : 0 ≤ x) : rBr S x 0 = S 0 := by
  unfold rBr
  try simp only
  split
  · rw [zfu_ne (by omega), zfu_ne (by omega)]
  · rw [zfu_ne (by omega)]
