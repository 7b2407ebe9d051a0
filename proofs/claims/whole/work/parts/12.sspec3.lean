/-! still more of what the reference computes -/
theorem zfu_fu {F : Int → Int} {i v w : Int} : zfu (zfu F i v) i w = zfu F i w := by
  funext j
  simp only [zfu]
  split <;> rfl
theorem zfu_self {F : Int → Int} {i v : Int} (h : v = F i) : zfu F i v = F := by
  subst h
  funext j
  simp only [zfu]
  split
  · rename_i h; rw [h]
  · rfl
theorem rSec_kd {S : Int → Int} {x k kd : Int} (hx : 0 ≤ x) (hk : k < 3) : rSec (zfu S (19 + 6 * x + 0) kd) x k = rSecK S kd x k := by
  unfold rSec rSecK rTakes rWay rTk
  rw [toS_at, toS_ne (by omega), toS_ne (by omega), toS_ne (by omega), itS_ne (by omega), itS_ne (by omega), itS_ne (by omega), itS_ne (by omega), itS_ne (by omega), itS_ne (by omega), zfu_ne (by omega)]
theorem rGo_0 {N : Int} {n : Nat} : ∀ {N : Int} {S : Int → Int}, rInv N S → rGo n S 0 = S 0 := by
  induction n with
  | zero => intro N S _; rfl
  | succ n ih =>
    intro N S I
    have h := ih (rMin_inv I)
    have h2 := (rM6_1 I).2
    show rGo n (rMin S) 0 = S 0
    rw [h, rMin_eq, zfu_ne (by omega), h2]
def rFOm (S : Int → Int) : Nat → Int → (Int → Int) → (Int → Int)
  | 0, _, G => G
  | i + 1, k, G => rFOm S i (k + 1) (if 0 ≤ rAt S k then S else G)
def rBsA (x : Int) (n : Nat) : Nat → (Int → Int) → (Int → Int) → (Int → Int)
  | 0, _, G => G
  | i + 1, S, _ => if 0 ≤ rAt (rGo n S) x then S else rBsA x n i (rBr S x) S
def rMdA (x : Int) (n : Nat) (S : Int → Int) : Nat → Int → (Int → Int) → (Int → Int)
  | 0, _, G => G
  | i + 1, v, _ => if 0 ≤ rAt (rGo n (zfu S (19 + 6 * x + 2) v)) x then zfu S (19 + 6 * x + 2) v else rMdA x n S i (v + 1) (zfu S (19 + 6 * x + 2) v)
theorem rBr_at {S : Int → Int} {x y : Int} (hx : 0 ≤ x) : rAt (rBr S x) y = rAt S y := by
  have ha := rAt_rg S x
  unfold rBr
  simp only
  split
  · rw [rAt_up (by omega), rAt_up (by omega)]
  · rw [rAt_up (by omega)]
theorem rBr_off {S : Int → Int} {x j : Int} (h1 : ¬ j = 19 + 6 * x + 2) (h2 : ¬ j = 4 + 5 * rAt S x + 1) : rBr S x j = S j := by
  unfold rBr
  try simp only
  split
  · rw [zfu_ne h2, zfu_ne h1]
  · rw [zfu_ne h1]
theorem rBs_rg {x : Int} {n : Nat} : ∀ {i : Nat} {S : Int → Int} {k : Int}, 0 ≤ k → -1 ≤ rBs x n i S k ∧ rBs x n i S k ≤ k + i := by
  intro i
  induction i with
  | zero => intro S k h; unfold rBs; omega
  | succ i ih =>
    intro S k h
    unfold rBs
    split
    · omega
    · have := ih (S := rBr S x) (k := k + 1) (by omega)
      omega
theorem rMd_rg {x : Int} {n : Nat} {S : Int → Int} : ∀ {i : Nat} {k : Int}, 0 ≤ k → -1 ≤ rMd x n S i k ∧ rMd x n S i k ≤ k + i := by
  intro i
  induction i with
  | zero => intro k h; unfold rMd; omega
  | succ i ih =>
    intro k h
    unfold rMd
    split
    · omega
    · have := ih (k := k + 1) (by omega)
      omega
theorem rWo_rg {S : Int → Int} {sit : Int32} : ∀ {i : Nat} {k b : Int}, 0 ≤ k → -1 ≤ b → b < k + i → -1 ≤ rWo S sit i k b ∧ rWo S sit i k b < k + i := by
  intro i
  induction i with
  | zero => intro k b h1 h2 h3; exact ⟨h2, h3⟩
  | succ i ih =>
    intro k b h1 h2 h3
    unfold rWo
    split
    · have := ih (k := k + 1) (b := k) (by omega) (by omega) (by omega)
      omega
    · have := ih (k := k + 1) (b := b) (by omega) (by omega) (by omega)
      omega
theorem rQ_rg {S : Int → Int} {x k b : Int} (hk : 0 ≤ k ∧ k < 3) (hb : -1 ≤ b ∧ b < 3) : -1 ≤ rQ S x k b ∧ rQ S x k b < 3 := by
  unfold rQ
  split <;> omega
theorem rSf_rg {S : Int → Int} {x k b : Int} (hk : 0 ≤ k ∧ k < 3) (hb : -1 ≤ b ∧ b < 3) : -1 ≤ rSf S x k b ∧ rSf S x k b < 3 := by
  unfold rSf
  split <;> omega
