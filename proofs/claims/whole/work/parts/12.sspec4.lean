/-! the reference's sheets -/
def rNar (b v : Int) : Int := if b = 8 then v.bmod 256 else if b = 16 then v.bmod 65536 else v
theorem z_i2b (v : Int) : (zi v).toInt8.toInt32 = zi (v.bmod 256) := by
  rw [← Int32.toInt_inj, Int8.toInt_toInt32, Int32.toInt_toInt8]
  show (Int32.ofInt v).toInt.bmod (2 ^ 8) = (Int32.ofInt (v.bmod 256)).toInt
  have h1 := Int.le_bmod (x := v) (m := 256) (by decide)
  have h2 := Int.bmod_lt (x := v) (m := 256) (by decide)
  rw [Int32.toInt_ofInt_of_le (n := v.bmod 256) (by omega) (by omega), Int32.toInt_ofInt]
  exact Int.bmod_bmod_of_dvd (by decide)
theorem z_i2s (v : Int) : (zi v).toInt16.toInt32 = zi (v.bmod 65536) := by
  rw [← Int32.toInt_inj, Int16.toInt_toInt32, Int32.toInt_toInt16]
  show (Int32.ofInt v).toInt.bmod (2 ^ 16) = (Int32.ofInt (v.bmod 65536)).toInt
  have h1 := Int.le_bmod (x := v) (m := 65536) (by decide)
  have h2 := Int.bmod_lt (x := v) (m := 65536) (by decide)
  rw [Int32.toInt_ofInt_of_le (n := v.bmod 65536) (by omega) (by omega), Int32.toInt_ofInt]
  exact Int.bmod_bmod_of_dvd (by decide)
theorem bm8_rg (v : Int) : -128 ≤ v.bmod 256 ∧ v.bmod 256 ≤ 127 := by
  have h1 := Int.le_bmod (x := v) (m := 256) (by decide)
  have h2 := Int.bmod_lt (x := v) (m := 256) (by decide)
  omega
theorem bm16_rg (v : Int) : -32768 ≤ v.bmod 65536 ∧ v.bmod 65536 ≤ 32767 := by
  have h1 := Int.le_bmod (x := v) (m := 65536) (by decide)
  have h2 := Int.bmod_lt (x := v) (m := 65536) (by decide)
  omega
theorem rNar_rg {b v : Int} (h : -9223372036854775808 ≤ v ∧ v ≤ 9223372036854775807) : -9223372036854775808 ≤ rNar b v ∧ rNar b v ≤ 9223372036854775807 := by
  have h1 := bm8_rg v
  have h2 := bm16_rg v
  unfold rNar
  split
  · omega
  · split <;> omega
theorem rNar_small {b v : Int} (h : 0 ≤ v ∧ v ≤ 9) : rNar b v = v := by
  have h10 : v = 0 ∨ v = 1 ∨ v = 2 ∨ v = 3 ∨ v = 4 ∨ v = 5 ∨ v = 6 ∨ v = 7 ∨ v = 8 ∨ v = 9 := by omega
  unfold rNar
  split
  · rcases h10 with rfl | rfl | rfl | rfl | rfl | rfl | rfl | rfl | rfl | rfl <;> rfl
  · split
    · rcases h10 with rfl | rfl | rfl | rfl | rfl | rfl | rfl | rfl | rfl | rfl <;> rfl
    · rfl
/-- sheets as they may be: bits, sizes, numbers -/
def rSh (B Z M : Int → Int) : Prop := (∀ j : Int, 0 ≤ j → j < 4 → (B j = 0 ∨ B j = 8 ∨ B j = 16 ∨ B j = 64) ∧ (0 ≤ Z j ∧ Z j ≤ 40)) ∧ ∀ i : Int, 0 ≤ i → i < 160 → -9223372036854775808 ≤ M i ∧ M i ≤ 9223372036854775807
def rWsh (B : Int → Int) (j : Int) : Int := if 0 ≤ j ∧ j ≤ 3 then (if B j = 0 then -1000000006 else 0) else -1000000001
theorem rWsh_rg (B : Int → Int) (j : Int) : rWsh B j = 0 ∨ (-1000000007 ≤ rWsh B j ∧ rWsh B j ≤ -1000000001) := by
  unfold rWsh
  repeat' split
  all_goals omega
theorem rWsh_0 {B : Int → Int} {j : Int} (h : rWsh B j = 0) : (0 ≤ j ∧ j < 4) ∧ ¬ B j = 0 := by
  unfold rWsh at h
  split at h
  · split at h
    · omega
    · omega
  · omega
def rWbk (B S : Int → Int) (j x : Int) : Int := if rWsh B j = 0 then (if rCh S x then 0 else -1000000001) else rWsh B j
theorem rWbk_rg (B S : Int → Int) (j x : Int) : rWbk B S j x = 0 ∨ (-1000000007 ≤ rWbk B S j x ∧ rWbk B S j x ≤ -1000000001) := by
  have h := rWsh_rg B j
  unfold rWbk
  repeat' split
  all_goals omega
theorem rWbk_0 {B S : Int → Int} {j x : Int} (h : rWbk B S j x = 0) : (0 ≤ j ∧ j < 4) ∧ ¬ B j = 0 ∧ rCh S x := by
  unfold rWbk at h
  split at h
  · rename_i h1
    have h2 := rWsh_0 h1
    split at h
    · rename_i h3
      exact ⟨h2.1, h2.2, h3⟩
    · omega
  · omega
theorem rRow_step {F : Int → Int} {a k : Int} (hk : 0 ≤ k) : zfu (fun i => if a ≤ i ∧ i < a + k then 0 else F i) (a + k) 0 = fun i => if a ≤ i ∧ i < a + (k + 1) then 0 else F i := by
  funext j
  simp only [zfu]
  by_cases hj : j = a + k
  · rw [if_pos hj, if_pos (by omega)]
  · rw [if_neg hj]
    by_cases h2 : a ≤ j ∧ j < a + k
    · rw [if_pos h2, if_pos (by omega)]
    · rw [if_neg h2, if_neg (by omega)]
theorem rCp_step {F G : Int → Int} {b k : Int} (hk : 0 ≤ k) : zfu (fun i => if b ≤ i ∧ i < b + k then G (i - b) else F i) (b + k) (G k) = fun i => if b ≤ i ∧ i < b + (k + 1) then G (i - b) else F i := by
  funext j
  simp only [zfu]
  by_cases hj : j = b + k
  · rw [if_pos hj, if_pos (by omega), hj, show b + k - b = k from by omega]
  · rw [if_neg hj]
    by_cases h2 : b ≤ j ∧ j < b + k
    · rw [if_pos h2, if_pos (by omega)]
    · rw [if_neg h2, if_neg (by omega)]
/-- numbers copied: from a on, to b on, n of them -/
def rCopy (M : Int → Int) (a b n : Int) : Int → Int := fun i => if b ≤ i ∧ i < b + n then M (a + (i - b)) else M i
/-- numbers laid as moods: the row then, how many came; numbers of M from a on -/
def rLayS (M : Int → Int) (a : Int) : Nat → Int → (Int → Int) → (Int → Int)
  | 0, _, S => S
  | i + 1, k, S => rLayS M a i (k + 1) (if 0 ≤ M (a + k) ∧ M (a + k) ≤ 9 then zfu S (19 + 6 * k + 2) (M (a + k)) else S)
def rLayN (M : Int → Int) (a : Int) : Nat → Int → Int → Int
  | 0, _, n => n
  | i + 1, k, n => rLayN M a i (k + 1) (n + (if 0 ≤ M (a + k) ∧ M (a + k) ≤ 9 then 1 else 0))
/-- a book: the numbers then; S the row now -/
def rBook (x a : Int) : Nat → Int → (Int → Int) → (Int → Int) → (Int → Int)
  | 0, _, _, M => M
  | i + 1, k, S, M => rBook x a i (k + 1) (rMin S) (zfu M (a + k) (toS S x 2))
/-- whether numbers of M from a on are such a book; the row when that is known -/
def rIb (M : Int → Int) (x a : Int) : Nat → Int → (Int → Int) → Int
  | 0, _, _ => 1
  | i + 1, k, S => if M (a + k) = toS S x 2 then rIb M x a i (k + 1) (rMin S) else 0
def rIbS (M : Int → Int) (x a : Int) : Nat → Int → (Int → Int) → (Int → Int)
  | 0, _, S => S
  | i + 1, k, S => if M (a + k) = toS S x 2 then rIbS M x a i (k + 1) (rMin S) else S
theorem rIb_rg {M : Int → Int} {x a : Int} : ∀ {i : Nat} {k : Int} {S : Int → Int}, rIb M x a i k S = 0 ∨ rIb M x a i k S = 1 := by
  intro i
  induction i with
  | zero => intro k S; exact Or.inr rfl
  | succ i ih =>
    intro k S
    unfold rIb
    split
    · exact ih
    · exact Or.inl rfl
/-- the pairs of a kind and a tightness that fit; tg tightnesses each -/
def rRd (M : Int → Int) (x a tg : Int) (z : Nat) (S : Int → Int) : Nat → Int → Int → Int
  | 0, _, n => n
  | i + 1, q, n => rRd M x a tg z S i (q + 1) (n + rIb M x a z 0 (zfu (zfu S (19 + 6 * x + 0) (q / tg)) (19 + 6 * x + 5) (q % tg)))
theorem zst0 {μ : zMem} {g : Nat} {k a v : Int} : zset μ g k (fun i => if a ≤ i ∧ i < a + 0 then v else μ g k i) = μ := by
  have e : (fun i => if a ≤ i ∧ i < a + 0 then v else μ g k i) = μ g k := funext fun i => if_neg (by omega)
  rw [e, zset_self]
theorem zst1 {μ : zMem} {g : Nat} {k a : Int} {G : Int → Int} : zset μ g k (fun i => if a ≤ i ∧ i < a + 0 then G (i - a) else μ g k i) = μ := by
  have e : (fun i => if a ≤ i ∧ i < a + 0 then G (i - a) else μ g k i) = μ g k := funext fun i => if_neg (by omega)
  rw [e, zset_self]
/-! the tape -/
def rByte (b : Int32) (k : Int) : Int := ((b >>> (zi (8 * k) &&& 31)) &&& zi 255).toInt
def rFeed (b : Int32) : Nat → (Int → Int) → Int → (Int → Int)
  | 0, T, _ => T
  | i + 1, T, q => rFeed b i (zfu T q (rByte b (i : Int))) (q + 1)
