/-! text: bytes, tokens, numbers, words -/
def bA (T : Int → Int) (n i : Int) : Int := if i < n then T i else -1
def tk (b : Int) : Int := if b < 0 then 0 else if 97 ≤ b ∧ b ≤ 122 then 1 else if 48 ≤ b ∧ b ≤ 57 then 2 else if b = 59 then 3 else 4
def tapeOk (T : Int → Int) (n : Int) : Prop := (0 ≤ n ∧ n ≤ 120) ∧ ∀ i : Int, 0 ≤ i → i < n → 0 ≤ T i ∧ T i ≤ 255
theorem bA_rg {T : Int → Int} {n i : Int} (h : tapeOk T n) (h0 : 0 ≤ i) : -1 ≤ bA T n i ∧ bA T n i ≤ 255 ∧ (bA T n i < 0 ↔ n ≤ i) := by
  unfold bA
  split
  · have := h.2 i h0 (by assumption)
    omega
  · omega
theorem tk_rg (b : Int) : 0 ≤ tk b ∧ tk b ≤ 4 := by
  unfold tk
  (repeat' split) <;> omega
/-- spaces skipped; i bytes are left -/
def sk (T : Int → Int) (n : Int) : Nat → Int → Int
  | 0, e => e
  | i + 1, e => if bA T n e = 32 then sk T n i (e + 1) else e
/-- a token of the kind k goes on -/
def xt (T : Int → Int) (n k : Int) : Nat → Int → Int
  | 0, e => e
  | i + 1, e => if tk (bA T n e) = k then xt T n k i (e + 1) else e
def nxF (T : Int → Int) (n t : Int) : Int := sk T n (n - t).toNat t
def nxE (T : Int → Int) (n f : Int) : Int := if n ≤ f then f else f + 1
def nxT (T : Int → Int) (n f : Int) : Int := if tk (bA T n f) = 1 ∨ tk (bA T n f) = 2 then xt T n (tk (bA T n f)) (n - (f + 1)).toNat (f + 1) else nxE T n f
theorem sk_rg {T : Int → Int} {n : Int} : ∀ {i : Nat} {e : Int}, e + i ≤ n ∨ i = 0 → e ≤ sk T n i e ∧ sk T n i e ≤ e + i := by
  intro i
  induction i with
  | zero => intro e _; unfold sk; omega
  | succ i ih =>
    intro e h
    unfold sk
    split
    · have := ih (e := e + 1) (by omega)
      omega
    · omega
theorem xt_rg {T : Int → Int} {n k : Int} : ∀ {i : Nat} {e : Int}, e ≤ xt T n k i e ∧ xt T n k i e ≤ e + i := by
  intro i
  induction i with
  | zero => intro e; unfold xt; omega
  | succ i ih =>
    intro e
    unfold xt
    split
    · have := ih (e := e + 1)
      omega
    · omega
theorem nxF_rg {T : Int → Int} {n t : Int} (h : 0 ≤ t ∧ t ≤ n) : t ≤ nxF T n t ∧ nxF T n t ≤ n := by
  unfold nxF
  have := sk_rg (T := T) (n := n) (i := (n - t).toNat) (e := t) (by omega)
  omega
theorem nxT_rg {T : Int → Int} {n f : Int} (ht : tapeOk T n) (h : 0 ≤ f ∧ f ≤ n) : f ≤ nxT T n f ∧ nxT T n f ≤ n ∧ (f < n → f < nxT T n f) := by
  have hb := bA_rg (i := f) ht h.1
  unfold nxT nxE
  split
  · rename_i hk
    have hx := xt_rg (T := T) (n := n) (k := tk (bA T n f)) (i := (n - (f + 1)).toNat) (e := f + 1)
    have hf : f < n := by
      by_cases hn : n ≤ f
      · exfalso
        have h1 := hb.2.2.mpr hn
        unfold tk at hk
        rw [if_pos h1] at hk
        omega
      · omega
    omega
  · split <;> omega
/-- the number of a token, as the class and as the reference have it; i digits are left -/
def vlC (T : Int → Int) : Nat → Int → Int → Int
  | 0, _, v => v
  | i + 1, e, v => vlC T i (e + 1) (zmin 1000 (10 * v + T e - 48))
def vlR (T : Int → Int) : Nat → Int → Int → Int
  | 0, _, v => v
  | i + 1, e, v => vlR T i (e + 1) (if 999 < v then v else 10 * v + T e - 48)
theorem vl_eq {T : Int → Int} : ∀ {i : Nat} {e v : Int}, 0 ≤ v → (∀ j : Int, e ≤ j → j < e + i → 48 ≤ T j ∧ T j ≤ 57) → vlC T i e (zmin 1000 v) = zmin 1000 (vlR T i e v) ∧ 0 ≤ vlR T i e v ∧ (v ≤ 9999 → vlR T i e v ≤ 9999) := by
  intro i
  induction i with
  | zero => intro e v h0 _; exact ⟨rfl, h0, fun h => h⟩
  | succ i ih =>
    intro e v h0 h
    have he := h e (by omega) (by omega)
    have e1 : zmin 1000 (10 * zmin 1000 v + T e - 48) = zmin 1000 (if 999 < v then v else 10 * v + T e - 48) := by
      unfold zmin
      (repeat' split) <;> omega
    unfold vlC vlR
    rw [e1]
    have := ih (e := e + 1) (v := if 999 < v then v else 10 * v + T e - 48) (by split <;> omega) (fun j j0 j1 => h j (by omega) (by omega))
    refine ⟨this.1, this.2.1, fun hv => this.2.2 ?_⟩
    split <;> omega
/-- a word's number: letters from e on, i are left -/
def wh (T : Int → Int) : Nat → Int → Int → Int
  | 0, _, v => v
  | i + 1, e, v => wh T i (e + 1) (if 36028797018963967 < v then v else 32 * v + (T e - 96))
theorem wh_rg {T : Int → Int} : ∀ {i : Nat} {e v : Int}, (0 ≤ v ∧ v ≤ 1152921504606846976) → (∀ j : Int, e ≤ j → j < e + i → 97 ≤ T j ∧ T j ≤ 122) → v ≤ wh T i e v ∧ wh T i e v ≤ 1152921504606846976 := by
  intro i
  induction i with
  | zero => intro e v h0 _; unfold wh; omega
  | succ i ih =>
    intro e v h0 h
    have he := h e (by omega) (by omega)
    unfold wh
    have := ih (e := e + 1) (v := if 36028797018963967 < v then v else 32 * v + (T e - 96)) (by split <;> omega) (fun j j0 j1 => h j (by omega) (by omega))
    refine ⟨?_, this.2⟩
    have h2 := this.1
    split at h2 <;> omega
/-- the last letter apart -/
theorem wh_snoc {T : Int → Int} : ∀ {i : Nat} {e v : Int}, wh T (i + 1) e v = if 36028797018963967 < wh T i e v then wh T i e v else 32 * wh T i e v + (T (e + i) - 96) := by
  intro i
  induction i with
  | zero =>
    intro e v
    show (if 36028797018963967 < v then v else 32 * v + (T e - 96)) = if 36028797018963967 < v then v else 32 * v + (T (e + (0 : Nat)) - 96)
    rw [show e + ((0 : Nat) : Int) = e from by omega]
  | succ i ih =>
    intro e v
    show wh T (i + 1) (e + 1) _ = _
    rw [ih]
    show (if 36028797018963967 < wh T (i + 1) e v then wh T (i + 1) e v else 32 * wh T (i + 1) e v + (T (e + 1 + (i : Int)) - 96)) = _
    rw [show e + 1 + (i : Int) = e + ((i + 1 : Nat) : Int) from by omega]
theorem wh_peel {T : Int → Int} {i : Nat} {e K c : Int} (h : ∀ j : Int, e ≤ j → j < e + i → 97 ≤ T j ∧ T j ≤ 122) (hc : 1 ≤ c ∧ c ≤ 26) (hK : 0 ≤ K ∧ K ≤ 1000000000) : wh T i e 0 = 32 * K + c ↔ 1 ≤ i ∧ T (e + i - 1) = 96 + c ∧ wh T (i - 1) e 0 = K := by
  cases i with
  | zero =>
    constructor
    · intro q
      exfalso
      have : (0 : Int) = 32 * K + c := q
      omega
    · intro q; omega
  | succ i =>
    have hr := wh_rg (T := T) (i := i) (e := e) (v := 0) (by omega) (fun j j0 j1 => h j j0 (by omega))
    have hl := h (e + i) (by omega) (by omega)
    rw [wh_snoc, show e + ((i + 1 : Nat) : Int) - 1 = e + (i : Int) from by omega, show i + 1 - 1 = i from rfl]
    split <;> omega
theorem wh_0 {T : Int → Int} {i : Nat} {e : Int} (h : ∀ j : Int, e ≤ j → j < e + i → 97 ≤ T j ∧ T j ≤ 122) : wh T i e 0 = 0 ↔ i = 0 := by
  cases i with
  | zero => exact ⟨fun _ => rfl, fun _ => rfl⟩
  | succ i =>
    have he := h e (by omega) (by omega)
    have hr := wh_rg (T := T) (i := i) (e := e + 1) (v := 32 * 0 + (T e - 96)) (by omega) (fun j j0 j1 => h j (by omega) (by omega))
    have e1 : wh T (i + 1) e 0 = wh T i (e + 1) (32 * 0 + (T e - 96)) := rfl
    constructor
    · intro q; omega
    · intro q; omega
/-- a word stands from e on -/
def isWd (T : Int → Int) (e : Int) : List Int → Prop
  | [] => True
  | c :: r => T e = c ∧ isWd T (e + 1) r
/-- the number of a word -/
def wK (v : Int) : List Int → Int
  | [] => v
  | c :: r => wK (32 * v + (c - 96)) r
theorem isWd_snoc {T : Int → Int} : ∀ {r : List Int} {e c : Int}, isWd T e (r ++ [c]) ↔ isWd T e r ∧ T (e + r.length) = c := by
  intro r
  induction r with
  | nil => intro e c; simp [isWd]
  | cons x r ih =>
    intro e c
    show (T e = x ∧ isWd T (e + 1) (r ++ [c])) ↔ (T e = x ∧ isWd T (e + 1) r) ∧ _
    rw [ih, and_assoc, show e + 1 + (r.length : Int) = e + ((x :: r).length : Int) from by simp; omega]
theorem wK_snoc : ∀ {r : List Int} {v c : Int}, wK v (r ++ [c]) = 32 * wK v r + (c - 96) := by
  intro r
  induction r with
  | nil => intro v c; rfl
  | cons x r ih => intro v c; exact ih
theorem wh_word {T : Int → Int} : ∀ {n : Nat} {r : List Int} {i : Nat} {e : Int}, r.length = n → n ≤ 6 → (∀ c ∈ r, 97 ≤ c ∧ c ≤ 122) → (∀ j : Int, e ≤ j → j < e + i → 97 ≤ T j ∧ T j ≤ 122) → (0 ≤ wK 0 r ∧ wK 0 r ≤ 32 ^ n - 1) ∧ (wh T i e 0 = wK 0 r ↔ i = n ∧ isWd T e r) := by
  intro n
  induction n with
  | zero =>
    intro r i e hl _ _ h
    have : r = [] := List.length_eq_zero_iff.mp hl
    subst this
    refine ⟨by decide, ?_⟩
    rw [show wK 0 [] = 0 from rfl, wh_0 h]
    simp [isWd]
  | succ n ih =>
    intro r i e hl hn hr h
    obtain ⟨q, c, rfl⟩ : ∃ q c, r = q ++ [c] := by
      refine ⟨r.dropLast, r.getLast (by intro z; subst z; simp at hl), ?_⟩
      exact (List.dropLast_concat_getLast _).symm
    have hq : q.length = n := by simpa using hl
    have hc := hr c (by simp)
    have ihh := fun (i : Nat) (h : ∀ j : Int, e ≤ j → j < e + i → 97 ≤ T j ∧ T j ≤ 122) => ih (r := q) (i := i) (e := e) hq (by omega) (fun x hx => hr x (by simp [hx])) h
    have h6 : n = 0 ∨ n = 1 ∨ n = 2 ∨ n = 3 ∨ n = 4 ∨ n = 5 := by omega
    have hb := (ihh i h).1
    have hp : (32 : Int) ^ n ≤ 33554432 ∧ (32 : Int) ^ (n + 1) = 32 * 32 ^ n := by
      rcases h6 with rfl | rfl | rfl | rfl | rfl | rfl <;> decide
    rw [wK_snoc, hp.2]
    refine ⟨by omega, ?_⟩
    rw [wh_peel h (by omega) (by omega), isWd_snoc, hq]
    constructor
    · intro ⟨a, b, d⟩
      have := ((ihh (i - 1) (fun j j0 j1 => h j j0 (by omega))).2.mp d)
      refine ⟨by omega, this.2, ?_⟩
      rw [show e + (n : Int) = e + i - 1 from by omega, b]
      omega
    · intro ⟨a, b, d⟩
      refine ⟨by omega, ?_, ?_⟩
      · rw [show e + (i : Int) - 1 = e + n from by omega, d]
        omega
      · exact (ihh (i - 1) (fun j j0 j1 => h j j0 (by omega))).2.mpr ⟨by omega, b⟩
