/-! the car's moves keep what holds -/
theorem rAt_up {S : Int → Int} {i v x : Int} (h : ¬ i = 8 ∧ ¬ i = 13 ∧ ¬ i = 18) : rAt (zfu S i v) x = rAt S x := by
  unfold rAt
  rw [itS_ne (by omega), itS_ne (by omega), itS_ne (by omega)]
theorem zmin_rg {a b : Int} (h : 0 ≤ a) (hb : 0 ≤ b) : 0 ≤ zmin a b ∧ zmin a b ≤ b ∧ zmin a b ≤ a := by
  unfold zmin
  split <;> omega
theorem rSec_rg {N : Int} {S : Int → Int} {x k : Int} (I : rInv N S) (hc : 0 ≤ x ∧ x < 6) (hk : 0 ≤ k ∧ k < 3) : 0 ≤ rSec S x k ∧ rSec S x k ≤ 146 := rSecK_rg I hc hk
theorem rClick_inv {N : Int} {S : Int → Int} {x k : Int} (I : rInv N S) (hx : 0 ≤ x ∧ x < S 0) (hk : 0 ≤ k ∧ k < 3) (hn : rAt S x = -1) : rInv N (rClick S x k) := by
  have h0 := I.1
  have h2 := I.2.2.1
  have hs := rSec_rg I (x := x) (k := k) (by omega) hk
  have hx6 : 0 ≤ x ∧ x < 6 := by omega
  unfold rClick
  simp only
  have z1 := zmin_rg (a := S 2 + rSec S x k) (b := 99999) (by omega) (by omega)
  have I1 : rInv N (zfu S 2 (zmin (S 2 + rSec S x k) 99999)) := rInv_one I (by omega)
  have e1 : rAt (zfu S 2 (zmin (S 2 + rSec S x k) 99999)) x = -1 := by rw [rAt_up (by omega)]; exact hn
  have c1 : zfu S 2 (zmin (S 2 + rSec S x k) 99999) 0 = S 0 := zfu_ne (by omega)
  generalize zfu S 2 (zmin (S 2 + rSec S x k) 99999) = S1 at *
  have z2 := rSnug_rg I1 hx6 hk
  have I2 : rInv N (zfu S1 (19 + 6 * x + 5) (rSnug S1 x k)) := rInv_kid I1 hx6 (by omega) (by simpa using z2)
  have e2 : rAt (zfu S1 (19 + 6 * x + 5) (rSnug S1 x k)) x = -1 := by rw [rAt_up (by omega)]; exact e1
  have c2 : zfu S1 (19 + 6 * x + 5) (rSnug S1 x k) 0 = S1 0 := zfu_ne (by omega)
  generalize zfu S1 (19 + 6 * x + 5) (rSnug S1 x k) = S2 at *
  have q2 := I2.2.2.2.2.1 k hk.1 hk.2
  have z3 := zmin_rg (a := itS S2 k 3 + 1) (b := 9999) (by omega) (by omega)
  have I3 : rInv N (zfu S2 (4 + 5 * k + 3) (zmin (itS S2 k 3 + 1) 9999)) := rInv_st I2 hk (by omega) (by simp; omega)
  have e3 : rAt (zfu S2 (4 + 5 * k + 3) (zmin (itS S2 k 3 + 1) 9999)) x = -1 := by rw [rAt_up (by omega)]; exact e2
  have c3 : zfu S2 (4 + 5 * k + 3) (zmin (itS S2 k 3 + 1) 9999) 0 = S2 0 := zfu_ne (by omega)
  generalize zfu S2 (4 + 5 * k + 3) (zmin (itS S2 k 3 + 1) 9999) = S3 at *
  have I4 : rInv N (zfu S3 (4 + 5 * k + 4) x) := rInv_sit I3 hk (by omega) e3
  generalize zfu S3 (4 + 5 * k + 4) x = S4 at *
  have q4 := I4.2.2.2.2.2.1 x hx6.1 hx6.2
  split
  · have z5 := zmin_rg (a := toS S4 x 4 + 1) (b := 9) (by omega) (by omega)
    exact rInv_kid I4 hx6 (by omega) (by simp; omega)
  · exact I4
theorem rOut_inv {N : Int} {S : Int → Int} {k : Int} (I : rInv N S) (hk : 0 ≤ k ∧ k < 3) (ht : rTk S k) : rInv N (rOut S k) := by
  have h0 := I.1
  have hs := I.2.2.2.2.1 k hk.1 hk.2
  exact rInv_rise (rInv_kid I (by omega) (by omega) (by simp)) hk
theorem rBr_inv {N : Int} {S : Int → Int} {x : Int} (I : rInv N S) (hx : 0 ≤ x ∧ x < 6) : rInv N (rBr S x) := by
  have hc := I.2.2.2.2.2.1 x hx.1 hx.2
  have ha := rAt_rg S x
  have z1 := zmin_rg (a := toS S x 2 + 3) (b := 9) (by omega) (by omega)
  unfold rBr
  simp only
  have I1 : rInv N (zfu S (19 + 6 * x + 2) (zmin (toS S x 2 + 3) 9)) := rInv_kid I hx (by omega) (by simp; omega)
  generalize zfu S (19 + 6 * x + 2) (zmin (toS S x 2 + 3) 9) = S1 at *
  split
  · have hs := I1.2.2.2.2.1 (rAt S x) (by omega) (by omega)
    have z2 := zmin_rg (a := itS S1 (rAt S x) 1 + 1) (b := 9) (by omega) (by omega)
    exact rInv_st I1 (by omega) (by omega) (by simp; omega)
  · exact I1
theorem rM1_inv {N : Int} {S : Int → Int} {k : Int} (I : rInv N S) (hk : 0 ≤ k ∧ k < 3) : rInv N (rM1 S k) := by
  have h0 := I.1
  have hs := I.2.2.2.2.1 k hk.1 hk.2
  unfold rM1
  split
  · have hc := I.2.2.2.2.2.1 (itS S k 4) (by omega) (by omega)
    have hf := rFr_rg S (itS S k 4)
    exact rInv_kid I (by omega) (by omega) (by simp; split <;> omega)
  · exact I
theorem rLess_inv {N : Int} {S : Int → Int} {x : Int} (I : rInv N S) (hx : 0 ≤ x ∧ x < 6) : rInv N (rLess S x) := by
  have hc := I.2.2.2.2.2.1 x hx.1 hx.2
  exact rInv_kid I hx (by omega) (by simp; split <;> omega)
theorem rLess_it {S : Int → Int} {x k w : Int} (hx : 0 ≤ x) (hk : k < 3) (hw : w < 5) : itS (rLess S x) k w = itS S k w := itS_ne (by omega)
theorem rM2_inv {N : Int} {S : Int → Int} {k : Int} (I : rInv N S) (hk : 0 ≤ k ∧ k < 3) : rInv N (rM2 S k) := by
  have h0 := I.1
  have hs := I.2.2.2.2.1 k hk.1 hk.2
  unfold rM2
  split
  · rename_i h
    have I1 : rInv N (rLess S (itS S k 4)) := rLess_inv I (by omega)
    split
    · refine rOut_inv I1 hk ?_
      show 0 ≤ itS (rLess S (itS S k 4)) k 4
      rw [rLess_it (by omega) (by omega) (by omega)]
      omega
    · exact I1
  · exact I
theorem rM1_1 {S : Int → Int} {k : Int} (hw : rTk S k → itS S k 4 < 6) : rM1 S k 1 = S 1 ∧ rM1 S k 0 = S 0 := by
  unfold rM1
  split
  · exact ⟨zfu_ne (by omega), zfu_ne (by omega)⟩
  · exact ⟨rfl, rfl⟩
theorem rM2_1 {S : Int → Int} {k : Int} (hk : 0 ≤ k ∧ k < 3) : rM2 S k 1 = S 1 ∧ rM2 S k 0 = S 0 := by
  unfold rM2
  split
  · rename_i h
    have e : ∀ j : Int, j < 19 → rLess S (itS S k 4) j = S j := fun j hj => zfu_ne (by omega)
    split
    · unfold rOut
      have h5 : itS (rLess S (itS S k 4)) k 4 = itS S k 4 := e _ (by omega)
      refine ⟨?_, ?_⟩
      · rw [zfu_ne (by omega), zfu_ne (by omega), e 1 (by omega)]
      · rw [zfu_ne (by omega), zfu_ne (by omega), e 0 (by omega)]
    · exact ⟨e 1 (by omega), e 0 (by omega)⟩
  · exact ⟨rfl, rfl⟩
/-- the six half steps of a minute -/
def rM6 (S : Int → Int) : Int → Int := rM2 (rM2 (rM2 (rM1 (rM1 (rM1 S 0) 1) 2) 0) 1) 2
theorem rM6_inv {N : Int} {S : Int → Int} (I : rInv N S) : rInv N (rM6 S) :=
  rM2_inv (rM2_inv (rM2_inv (rM1_inv (rM1_inv (rM1_inv I (by omega)) (by omega)) (by omega)) (by omega)) (by omega)) (by omega)
theorem rM6_1 {N : Int} {S : Int → Int} (I : rInv N S) : rM6 S 1 = S 1 ∧ rM6 S 0 = S 0 := by
  have I1 := rM1_inv I (k := 0) (by omega)
  have I2 := rM1_inv I1 (k := 1) (by omega)
  have w : ∀ {S : Int → Int} (I : rInv N S) (k : Int), 0 ≤ k → k < 3 → rTk S k → itS S k 4 < 6 := fun I k h0 h1 _ => by
    have a := I.2.2.2.2.1 k h0 h1
    have b := I.1
    omega
  have a1 := rM1_1 (w I 0 (by omega) (by omega))
  have a2 := rM1_1 (w I1 1 (by omega) (by omega))
  have a3 := rM1_1 (w I2 2 (by omega) (by omega))
  have a4 := rM2_1 (S := rM1 (rM1 (rM1 S 0) 1) 2) (k := 0) (by omega)
  have a5 := rM2_1 (S := rM2 (rM1 (rM1 (rM1 S 0) 1) 2) 0) (k := 1) (by omega)
  have a6 := rM2_1 (S := rM2 (rM2 (rM1 (rM1 (rM1 S 0) 1) 2) 0) 1) (k := 2) (by omega)
  unfold rM6
  exact ⟨by rw [a6.1, a5.1, a4.1, a3.1, a2.1, a1.1], by rw [a6.2, a5.2, a4.2, a3.2, a2.2, a1.2]⟩
theorem rMin_eq (S : Int → Int) : rMin S = zfu (rM6 S) 1 (rM6 S 1 + 1) := rfl
theorem rMin_inv {N : Int} {S : Int → Int} (I : rInv N S) : rInv (N + 1) (rMin S) := by
  rw [rMin_eq]
  have h := rM6_1 I
  have h1 := I.2.1
  exact rInv_one (rInv_more (rM6_inv I) (by omega)) (by omega)
theorem rGo_inv {S : Int → Int} : ∀ {n : Nat} {N : Int} {S : Int → Int}, rInv N S → rInv (N + n) (rGo n S) := by
  intro n
  induction n with
  | zero => intro N S I; simpa [rGo] using I
  | succ n ih =>
    intro N S I
    have h := ih (rMin_inv I)
    exact rInv_more h (by omega)
theorem rGo_succ {n : Nat} : ∀ {S : Int → Int}, rGo (n + 1) S = rMin (rGo n S) := by
  induction n with
  | zero => intro S; rfl
  | succ n ih => intro S; exact ih (S := rMin S)
