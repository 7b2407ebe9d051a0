/-! more of the class's cars -/
theorem rSec_coat {S : Int → Int} {x k : Int} (hx : 0 ≤ x) (hk : k < 3) : rSec (zfu S (19 + 6 * x + 3) 0) x k = rSec S x k - 4 * toS S x 3 := by
  unfold rSec rSecK rTakes rWay rTk
  rw [toS_at, toS_ne (by omega), toS_ne (by omega), toS_ne (by omega), itS_ne (by omega), itS_ne (by omega), itS_ne (by omega), itS_ne (by omega), itS_ne (by omega), itS_ne (by omega), zfu_ne (by omega)]
  omega
def cOutT (x : Int) : Nat → (Int → Int) → (Int → Int)
  | 0, S => S
  | i + 1, S => if 0 ≤ rAt (rMin S) x then cOutT x i (rMin S) else rMin S
/-- the minute in which the set of those that sit changes -/
def cFO (z : Int) : Nat → (Int → Int) → Int → Int
  | 0, _, _ => 61
  | i + 1, S, k => if rSit (rMin S) = z then cFO z i (rMin S) (k + 1) else k
def cFOT (z : Int) : Nat → (Int → Int) → (Int → Int)
  | 0, S => S
  | i + 1, S => if rSit (rMin S) = z then cFOT z i (rMin S) else rMin S
theorem rMin_0 {N : Int} {S : Int → Int} (I : rInv N S) : rMin S 0 = S 0 := by
  rw [rMin_eq, zfu_ne (by omega), (rM6_1 I).2]
theorem cFO_rg {z : Int} : ∀ {i : Nat} {S : Int → Int} {k : Int}, 1 ≤ k → k + i = 61 → 1 ≤ cFO z i S k ∧ cFO z i S k ≤ 61 := by
  intro i
  induction i with
  | zero => intro S k h0 h; unfold cFO; omega
  | succ i ih =>
    intro S k h0 h
    unfold cFO
    split
    · exact ih (by omega) (by omega)
    · omega
theorem rOI_no {x n : Int} {i : Nat} {S : Int → Int} {k : Int} (h : ¬ 0 ≤ rAt S x) : rOI x n i S k = k := by
  cases i <;> (unfold rOI; exact if_neg h)
def cBr (x : Int) (S : Int → Int) : Nat → (Int → Int)
  | 0 => S
  | j + 1 => rBr (cBr x S j) x
theorem cBr_inv {N x : Int} {S : Int → Int} (I : rInv N S) (hx : 0 ≤ x ∧ x < 6) : ∀ j : Nat, rInv N (cBr x S j) ∧ cBr x S j 0 = S 0 := by
  intro j
  induction j with
  | zero => exact ⟨I, rfl⟩
  | succ j ih => exact ⟨rBr_inv ih.1 hx, (rBr_0 hx.1).trans ih.2⟩
def bt_l (a b c k : Nat) : Bool := decide (((((zi 0 ||| rbit ((a : Int) - 1)) ||| rbit ((b : Int) - 1)) ||| rbit ((c : Int) - 1)) >>> (zi (k : Int) &&& 31)) &&& zi 1 = zi 1)
def bt_r (a b c k : Nat) : Bool := decide (a = k + 1 ∨ b = k + 1 ∨ c = k + 1)
theorem rSit_bt : ∀ a : Nat, a < 7 → ∀ b : Nat, b < 7 → ∀ c : Nat, c < 7 → ∀ k : Nat, k < 6 → bt_l a b c k = bt_r a b c k := by
  decide +kernel
theorem rSit_bit {N : Int} {S : Int → Int} (I : rInv N S) {x : Int} (hx : 0 ≤ x ∧ x < 6) : (((zi (rSit S)) >>> (zi x &&& 31)) &&& zi 1 = zi 1) ↔ 0 ≤ rAt S x := by
  have h0 := I.1
  have a := I.2.2.2.2.1 0 (by omega) (by omega)
  have b := I.2.2.2.2.1 1 (by omega) (by omega)
  have c := I.2.2.2.2.1 2 (by omega) (by omega)
  have h := rSit_bt (itS S 0 4 + 1).toNat (by omega) (itS S 1 4 + 1).toNat (by omega) (itS S 2 4 + 1).toNat (by omega) x.toNat (by omega)
  have e0 : (((itS S 0 4 + 1).toNat : Nat) : Int) - 1 = itS S 0 4 := by omega
  have e1 : (((itS S 1 4 + 1).toNat : Nat) : Int) - 1 = itS S 1 4 := by omega
  have e2 : (((itS S 2 4 + 1).toNat : Nat) : Int) - 1 = itS S 2 4 := by omega
  unfold bt_l bt_r at h
  rw [e0, e1, e2, Int.toNat_of_nonneg hx.1] at h
  unfold rSit
  rw [zi_of]
  refine (decide_eq_decide.mp h).trans ?_
  unfold rAt
  (repeat' split) <;> omega
theorem rKd_0 {N : Int} {S : Int → Int} {x y : Int} (I : rInv N S) (hx : 0 ≤ x ∧ x < 6) (hy : 0 ≤ y ∧ y < 3) : rKd S x y 6 0 0 99999 = rKd S x y 5 1 0 (rSecK S 0 x y) := by
  have h := rSecK_rg (kd := 0) I hx hy
  show rKd S x y 5 (0 + 1) (if rSecK S 0 x y < 99999 then 0 else 0) (if rSecK S 0 x y < 99999 then rSecK S 0 x y else 99999) = _
  rw [if_pos (by omega), if_pos (by omega)]
  rfl
theorem rStF_w {F : Int → Int} {w : Int} (h : 0 ≤ w ∧ w < 7) : rStF F w 7 0 0 = F w := by
  have h7 : w = 0 ∨ w = 1 ∨ w = 2 ∨ w = 3 ∨ w = 4 ∨ w = 5 ∨ w = 6 := by omega
  rcases h7 with rfl | rfl | rfl | rfl | rfl | rfl | rfl <;> simp [rStF]
theorem rInv_le {N M : Int} {S : Int → Int} (I : rInv N S) (h : N ≤ M) : rInv M S :=
  ⟨I.1, ⟨I.2.1.1, Int.le_trans I.2.1.2 h⟩, I.2.2⟩
