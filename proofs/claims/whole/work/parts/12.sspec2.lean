/-! more of what the reference computes -/
theorem rSit_tab : ∀ a : Nat, a < 7 → ∀ b : Nat, b < 7 → ∀ c : Nat, c < 7 → 0 ≤ (((zi 0 ||| rbit ((a : Int) - 1)) ||| rbit ((b : Int) - 1)) ||| rbit ((c : Int) - 1)).toInt ∧ (((zi 0 ||| rbit ((a : Int) - 1)) ||| rbit ((b : Int) - 1)) ||| rbit ((c : Int) - 1)).toInt < 64 := by decide +kernel
theorem rSit_rg {N : Int} {S : Int → Int} (I : rInv N S) : 0 ≤ rSit S ∧ rSit S < 64 := by
  have h0 := I.1
  have a := I.2.2.2.2.1 0 (by omega) (by omega)
  have b := I.2.2.2.2.1 1 (by omega) (by omega)
  have c := I.2.2.2.2.1 2 (by omega) (by omega)
  have h := rSit_tab (itS S 0 4 + 1).toNat (by omega) (itS S 1 4 + 1).toNat (by omega) (itS S 2 4 + 1).toNat (by omega)
  have e0 : (((itS S 0 4 + 1).toNat : Nat) : Int) - 1 = itS S 0 4 := by omega
  have e1 : (((itS S 1 4 + 1).toNat : Nat) : Int) - 1 = itS S 1 4 := by omega
  have e2 : (((itS S 2 4 + 1).toNat : Nat) : Int) - 1 = itS S 2 4 := by omega
  rw [e0, e1, e2] at h
  exact h
def rP2 (n : Int) : Int := if n = 0 then 1 else if n = 1 then 2 else if n = 2 then 4 else if n = 3 then 8 else if n = 4 then 16 else if n = 5 then 32 else 64
theorem rP2_sh {n : Int} (h : 0 ≤ n ∧ n ≤ 6) : zi 1 <<< (zi n &&& 31) = zi (rP2 n) := by
  have h7 : n = 0 ∨ n = 1 ∨ n = 2 ∨ n = 3 ∨ n = 4 ∨ n = 5 ∨ n = 6 := by omega
  rcases h7 with rfl | rfl | rfl | rfl | rfl | rfl | rfl <;> decide +kernel
theorem rP2_rg (n : Int) : 1 ≤ rP2 n ∧ rP2 n ≤ 64 := by
  unfold rP2
  repeat' split
  all_goals omega
theorem rAdd_step {S : Int → Int} {x k : Int} (hk : 0 ≤ k) : zfu (fun j => if 19 + 6 * x ≤ j ∧ j < 19 + 6 * x + k then 0 else S j) (19 + 6 * x + k) 0 = fun j => if 19 + 6 * x ≤ j ∧ j < 19 + 6 * x + (k + 1) then 0 else S j := by
  funext j
  simp only [zfu]
  by_cases hj : j = 19 + 6 * x + k
  · rw [if_pos hj, if_pos (by omega)]
  · rw [if_neg hj]
    by_cases h2 : 19 + 6 * x ≤ j ∧ j < 19 + 6 * x + k
    · rw [if_pos h2, if_pos (by omega)]
    · rw [if_neg h2, if_neg (by omega)]
abbrev rCh (S : Int → Int) (x : Int) : Prop := 0 ≤ x ∧ x ≤ S 0 - 1
def rWS (S : Int → Int) (x : Int) : Int := if rCh S x then (if 0 ≤ rAt S x then -1000000005 else if rTk S 0 ∧ rTk S 1 ∧ rTk S 2 then -1000000004 else 0) else -1000000001
theorem rWS_rg (S : Int → Int) (x : Int) : rWS S x = 0 ∨ (-1000000007 ≤ rWS S x ∧ rWS S x ≤ -1000000001) := by
  unfold rWS
  repeat' split
  all_goals omega
def rW3 (S : Int → Int) (x : Int) : Int := if 0 ≤ x ∧ x ≤ rP2 (S 0) - 1 then (if rPop x = 3 then (if rSit S = 0 then 0 else -1000000005) else -1000000007) else -1000000001
theorem rW3_rg (S : Int → Int) (x : Int) : rW3 S x = 0 ∨ (-1000000007 ≤ rW3 S x ∧ rW3 S x ≤ -1000000001) := by
  unfold rW3
  repeat' split
  all_goals omega
def rWst (S : Int → Int) (x n : Int) : Int := if rCh S x ∧ 1 ≤ n ∧ n ≤ 60 then (if 0 ≤ rAt S x then 0 else -1000000005) else -1000000001
theorem rWst_rg (S : Int → Int) (x n : Int) : rWst S x n = 0 ∨ (-1000000007 ≤ rWst S x n ∧ rWst S x n ≤ -1000000001) := by
  unfold rWst
  repeat' split
  all_goals omega
theorem rPop_rg {x : Int} : 0 ≤ rPop x ∧ rPop x ≤ 6 := by
  unfold rPop
  omega
def rQ (S : Int → Int) (x k b : Int) : Int := if ¬ rTk S k ∧ (b < 0 ∨ rSec S x k < rSec S x b) then k else b
def rSf (S : Int → Int) (x k b : Int) : Int := if ¬ rTk S k ∧ (b < 0 ∨ rSnug S x b < rSnug S x k) then k else b
def rQuick (S : Int → Int) (x : Int) : Int := rQ S x 2 (rQ S x 1 (rQ S x 0 (-1)))
def rSafe (S : Int → Int) (x : Int) : Int := rSf S x 2 (rSf S x 1 (rSf S x 0 (-1)))
theorem rOI_rg {x n : Int} : ∀ {i : Nat} {S : Int → Int} {k : Int}, 0 ≤ k → k + i = n → 0 ≤ rOI x n i S k ∧ rOI x n i S k ≤ n + 1 := by
  intro i
  induction i with
  | zero => intro S k h0 h; unfold rOI; split <;> omega
  | succ i ih =>
    intro S k h0 h
    unfold rOI
    split
    · exact ih (by omega) (by omega)
    · omega
/-- the least number of minutes in which anybody gets out -/
def rFO (S : Int → Int) : Nat → Int → Int → Int
  | 0, _, a => a
  | i + 1, k, a => rFO S i (k + 1) (let n := if 0 ≤ rAt S k then rOI k 60 60 S 0 else a; if n < a then n else a)
theorem rFO_rg {S : Int → Int} : ∀ {i : Nat} {k a : Int}, 0 ≤ a → a ≤ 61 → 0 ≤ rFO S i k a ∧ rFO S i k a ≤ 61 := by
  intro i
  induction i with
  | zero => intro k a h0 h1; exact ⟨h0, h1⟩
  | succ i ih =>
    intro k a h0 h1
    have h := rOI_rg (x := k) (n := 60) (i := 60) (S := S) (k := 0) (by omega) (by omega)
    unfold rFO
    simp only
    split <;> split <;> exact ih (by omega) (by omega)
/-- as what kind one is quickest: kinds k and on, i are left -/
def rKd (S : Int → Int) (x st : Int) : Nat → Int → Int → Int → Int
  | 0, _, b, _ => b
  | i + 1, k, b, a => rKd S x st i (k + 1) (if rSecK S k x st < a then k else b) (if rSecK S k x st < a then rSecK S k x st else a)
/-- how many bribes; i are left to try, S is the row with k bribes -/
def rBs (x : Int) (n : Nat) : Nat → (Int → Int) → Int → Int
  | 0, _, _ => -1
  | i + 1, S, k => if 0 ≤ rAt (rGo n S) x then k else rBs x n i (rBr S x) (k + 1)
def rMd (x : Int) (n : Nat) (S : Int → Int) : Nat → Int → Int
  | 0, _ => -1
  | i + 1, v => if 0 ≤ rAt (rGo n (zfu S (19 + 6 * x + 2) v)) x then v else rMd x n S i (v + 1)
/-- the worst of those that sit now (sit), by moods in S -/
def rWo (S : Int → Int) (sit : Int32) : Nat → Int → Int → Int
  | 0, _, b => b
  | i + 1, k, b => rWo S sit i (k + 1) (if (sit >>> (zi k &&& 31)) &&& zi 1 = zi 1 ∧ (b < 0 ∨ toS S k 2 < toS S b 2) then k else b)
def rStF (F : Int → Int) (w : Int) : Nat → Int → Int → Int
  | 0, _, a => a
  | i + 1, k, a => rStF F w i (k + 1) (a + (if w < 0 ∨ k = w then F k else 0))
def rWears (S : Int → Int) : Int := itS S 0 3 + itS S 1 3 + itS S 2 3
