/-! who gets out first: the class looks at the set of those that sit, the reference at each of them -/
def sub3 (S' S : Int → Int) : Prop := ∀ k : Int, 0 ≤ k → k < 3 → itS S' k 4 = itS S k 4 ∨ itS S' k 4 = -1
theorem sub3.rf {S : Int → Int} : sub3 S S := fun _ _ _ => Or.inl rfl
theorem sub3.tr {A B C : Int → Int} (h : sub3 A B) (h' : sub3 B C) : sub3 A C := by
  intro k a b
  rcases h k a b with q | q
  · rcases h' k a b with r | r
    · exact Or.inl (q.trans r)
    · exact Or.inr (q.trans r)
  · exact Or.inr q
theorem sub3_up {S : Int → Int} {i v : Int} (h : 19 ≤ i ∨ i < 8) : sub3 (zfu S i v) S := fun k a b => Or.inl (itS_ne (by omega))
theorem rAt_iff {S : Int → Int} {x : Int} : 0 ≤ rAt S x ↔ itS S 0 4 = x ∨ itS S 1 4 = x ∨ itS S 2 4 = x := by
  unfold rAt
  (repeat' split) <;> omega
theorem sub3.at {S' S : Int → Int} {x : Int} (h : sub3 S' S) (hx : 0 ≤ x) (h0 : 0 ≤ rAt S' x) : 0 ≤ rAt S x := by
  rw [rAt_iff] at h0 ⊢
  have a := h 0 (by omega) (by omega)
  have b := h 1 (by omega) (by omega)
  have c := h 2 (by omega) (by omega)
  omega
theorem rM1_sub {S : Int → Int} {k : Int} : sub3 (rM1 S k) S := by
  unfold rM1
  split
  · rename_i h
    have h' : 0 ≤ itS S k 4 := h
    exact sub3_up (by omega)
  · exact sub3.rf
theorem rM2_sub {S : Int → Int} {k : Int} (hk : 0 ≤ k ∧ k < 3) : sub3 (rM2 S k) S := by
  have hl : rTk S k → sub3 (rLess S (itS S k 4)) S := fun h => by
    have h' : 0 ≤ itS S k 4 := h
    exact sub3_up (by omega)
  unfold rM2
  split
  · rename_i h
    have h' : 0 ≤ itS S k 4 := h.1
    split
    · refine sub3.tr ?_ (hl h.1)
      have e : itS (rLess S (itS S k 4)) k 4 = itS S k 4 := rLess_it h' hk.2 (by omega)
      unfold rOut
      rw [e]
      intro k' a b
      by_cases hkk : k' = k
      · right
        rw [hkk, itS_at]
      · left
        rw [itS_ne (by omega), itS_ne (by omega)]
    · exact hl h.1
  · exact sub3.rf
theorem rMin_sub {S : Int → Int} : sub3 (rMin S) S := by
  rw [rMin_eq]
  refine sub3.tr (sub3_up (by omega)) ?_
  unfold rM6
  exact (rM2_sub (by omega)).tr ((rM2_sub (by omega)).tr ((rM2_sub (by omega)).tr (rM1_sub.tr (rM1_sub.tr rM1_sub))))
theorem rGo_sub : ∀ {t : Nat} {S : Int → Int}, sub3 (rGo t S) S := by
  intro t
  induction t with
  | zero => intro S; exact sub3.rf
  | succ t ih => intro S; exact (ih (S := rMin S)).tr rMin_sub
def bt64 (a x : Nat) : Bool := decide ((zi (a : Int) >>> (zi (x : Int) &&& 31)) &&& zi 1 = zi 1)
theorem bt64_inj : ∀ a : Nat, a < 64 → ∀ b : Nat, b < 64 → (bt64 a 0 = bt64 b 0 ∧ bt64 a 1 = bt64 b 1 ∧ bt64 a 2 = bt64 b 2 ∧ bt64 a 3 = bt64 b 3 ∧ bt64 a 4 = bt64 b 4 ∧ bt64 a 5 = bt64 b 5) → a = b := by decide +kernel
theorem rSit_same {N M : Int} {S S' : Int → Int} (I : rInv N S) (I' : rInv M S') : rSit S' = rSit S ↔ ∀ x : Int, 0 ≤ x → x < 6 → (0 ≤ rAt S' x ↔ 0 ≤ rAt S x) := by
  have ra := rSit_rg I
  have rb := rSit_rg I'
  constructor
  · intro h x a b
    rw [← rSit_bit I ⟨a, b⟩, ← rSit_bit I' ⟨a, b⟩, h]
  · intro h
    have hb : ∀ x : Nat, x < 6 → bt64 (rSit S').toNat x = bt64 (rSit S).toNat x := by
      intro x hx
      have h1 := rSit_bit I (x := (x : Int)) (by omega)
      have h2 := rSit_bit I' (x := (x : Int)) (by omega)
      unfold bt64
      rw [Int.toNat_of_nonneg ra.1, Int.toNat_of_nonneg rb.1, decide_eq_decide, h1, h2]
      exact h (x : Int) (by omega) (by omega)
    have := bt64_inj (rSit S').toNat (by omega) (rSit S).toNat (by omega) ⟨hb 0 (by omega), hb 1 (by omega), hb 2 (by omega), hb 3 (by omega), hb 4 (by omega), hb 5 (by omega)⟩
    omega
theorem rOI_ge {x n : Int} : ∀ {i : Nat} {S : Int → Int} {k : Int}, k + i = n → k ≤ rOI x n i S k := by
  intro i
  induction i with
  | zero =>
    intro S k h
    show k ≤ (if 0 ≤ rAt S x then n + 1 else k)
    split <;> omega
  | succ i ih =>
    intro S k h
    show k ≤ (if 0 ≤ rAt S x then rOI x n i (rMin S) (k + 1) else k)
    split
    · have := ih (S := rMin S) (k := k + 1) (by omega)
      omega
    · omega
theorem cFO_ge {z : Int} : ∀ {i : Nat} {S : Int → Int} {k : Int}, k + i = 61 → k ≤ cFO z i S k := by
  intro i
  induction i with
  | zero =>
    intro S k h
    show k ≤ 61
    omega
  | succ i ih =>
    intro S k h
    show k ≤ (if rSit (rMin S) = z then cFO z i (rMin S) (k + 1) else k)
    split
    · have := ih (S := rMin S) (k := k + 1) (by omega)
      omega
    · omega
theorem rOI_lt {x n : Int} (hx : 0 ≤ x) : ∀ {i : Nat} {S : Int → Int} {k : Int} {j : Nat}, k + i = n → j ≤ i → (k + j < rOI x n i S k ↔ 0 ≤ rAt (rGo j S) x) := by
  intro i
  induction i with
  | zero =>
    intro S k j hn hj
    have : j = 0 := by omega
    subst this
    show k + ((0 : Nat) : Int) < (if 0 ≤ rAt S x then n + 1 else k) ↔ 0 ≤ rAt S x
    split <;> omega
  | succ i ih =>
    intro S k j hn hj
    by_cases h : 0 ≤ rAt S x
    · have e : rOI x n (i + 1) S k = rOI x n i (rMin S) (k + 1) := if_pos h
      rw [e]
      cases j with
      | zero =>
        refine ⟨fun _ => h, fun _ => ?_⟩
        have hq := rOI_ge (x := x) (n := n) (i := i) (S := rMin S) (k := k + 1) (by omega)
        omega
      | succ j =>
        have := ih (S := rMin S) (k := k + 1) (j := j) (by omega) (by omega)
        rw [show k + ((j + 1 : Nat) : Int) = k + 1 + (j : Int) from by omega]
        exact this
    · have e : rOI x n (i + 1) S k = k := if_neg h
      rw [e]
      constructor
      · intro q; omega
      · intro q; exact absurd (rGo_sub.at hx q) h
theorem cFO_lt {z : Int} : ∀ {i : Nat} {S : Int → Int} {N k : Int} {j : Nat}, rInv N S → rSit S = z → k + i = 61 → j ≤ i → (k - 1 + j < cFO z i S k ↔ rSit (rGo j S) = z) := by
  intro i
  induction i with
  | zero =>
    intro S N k j I hz hk hj
    have : j = 0 := by omega
    subst this
    show k - 1 + ((0 : Nat) : Int) < 61 ↔ rSit S = z
    exact ⟨fun _ => hz, fun _ => by omega⟩
  | succ i ih =>
    intro S N k j I hz hk hj
    by_cases h : rSit (rMin S) = z
    · have e : cFO z (i + 1) S k = cFO z i (rMin S) (k + 1) := if_pos h
      rw [e]
      cases j with
      | zero =>
        have hr := cFO_ge (z := z) (i := i) (S := rMin S) (k := k + 1) (by omega)
        exact ⟨fun _ => hz, fun _ => by omega⟩
      | succ j =>
        have := ih (S := rMin S) (k := k + 1) (j := j) (rMin_inv I) h (by omega) (by omega)
        rw [show k - 1 + ((j + 1 : Nat) : Int) = k + 1 - 1 + (j : Int) from by omega]
        exact this
    · have e : cFO z (i + 1) S k = k := if_neg h
      rw [e]
      cases j with
      | zero => exact ⟨fun _ => hz, fun _ => by omega⟩
      | succ j =>
        refine ⟨fun q => by omega, fun q => ?_⟩
        exfalso
        apply h
        have q' : rSit (rGo j (rMin S)) = rSit S := q.trans hz.symm
        rw [← hz]
        have Im := rMin_inv I
        refine (rSit_same I Im).mpr (fun x a b => ⟨fun w => rMin_sub.at a w, fun w => ?_⟩)
        have w2 := ((rSit_same I (rGo_inv (S := S) (n := j) Im)).mp q' x a b).mpr w
        exact rGo_sub.at a w2
theorem rFO_lt {S : Int → Int} {t : Int} : ∀ {i : Nat} {k a : Int}, t < rFO S i k a ↔ t < a ∧ ∀ x : Int, k ≤ x → x < k + i → 0 ≤ rAt S x → t < rOI x 60 60 S 0 := by
  intro i
  induction i with
  | zero =>
    intro k a
    exact ⟨fun h => ⟨h, fun x a b => by omega⟩, fun h => h.1⟩
  | succ i ih =>
    intro k a
    show t < rFO S i (k + 1) (if (if 0 ≤ rAt S k then rOI k 60 60 S 0 else a) < a then (if 0 ≤ rAt S k then rOI k 60 60 S 0 else a) else a) ↔ _
    rw [ih]
    constructor
    · intro ⟨h1, h2⟩
      refine ⟨?_, fun x a1 b1 c1 => ?_⟩
      · split at h1 <;> omega
      · by_cases hx : x = k
        · subst hx
          rw [if_pos c1] at h1
          split at h1 <;> omega
        · exact h2 x (by omega) (by omega) c1
    · intro ⟨h1, h2⟩
      refine ⟨?_, fun x a1 b1 c1 => h2 x (by omega) (by omega) c1⟩
      by_cases hk : 0 ≤ rAt S k
      · have := h2 k (by omega) (by omega) hk
        rw [if_pos hk]
        split <;> omega
      · rw [if_neg hk]
        split <;> omega
theorem fo_eq {N : Int} {S : Int → Int} (I : rInv N S) : cFO (rSit S) 60 S 1 = rFO S (S 0).toNat 0 61 := by
  have i0 := I.1
  have hc := cFO_rg (z := rSit S) (i := 60) (S := S) (k := 1) (by omega) (by omega)
  have hr := rFO_rg (S := S) (i := (S 0).toNat) (k := 0) (a := 61) (by omega) (by omega)
  have key : ∀ t : Nat, t ≤ 60 → ((t : Int) < cFO (rSit S) 60 S 1 ↔ (t : Int) < rFO S (S 0).toNat 0 61) := by
    intro t ht
    have h1 := cFO_lt (i := 60) (k := 1) (j := t) I rfl (by omega) ht
    rw [show (1 : Int) - 1 + (t : Int) = t from by omega] at h1
    have Ig := rGo_inv (S := S) (n := t) I
    rw [h1, rFO_lt, rSit_same I Ig]
    constructor
    · intro h
      refine ⟨by omega, fun x a b c => ?_⟩
      have h2 := rOI_lt (x := x) (n := 60) a (i := 60) (S := S) (k := 0) (j := t) (by omega) ht
      rw [Int.zero_add] at h2
      exact h2.mpr ((h x a (by omega)).mpr c)
    · intro h x a b
      refine ⟨fun w => rGo_sub.at a w, fun w => ?_⟩
      have hlt : x < S 0 := by
        have w' := rAt_iff.mp w
        have u0 := (I.2.2.2.2.1 0 (by omega) (by omega)).2.2.2.2.2
        have u1 := (I.2.2.2.2.1 1 (by omega) (by omega)).2.2.2.2.2
        have u2 := (I.2.2.2.2.1 2 (by omega) (by omega)).2.2.2.2.2
        omega
      have h2 := rOI_lt (x := x) (n := 60) a (i := 60) (S := S) (k := 0) (j := t) (by omega) ht
      rw [Int.zero_add] at h2
      exact h2.mp (h.2 x a (by omega) w)
  by_cases hlt : cFO (rSit S) 60 S 1 < rFO S (S 0).toNat 0 61
  · have := key (cFO (rSit S) 60 S 1).toNat (by omega)
    omega
  · by_cases hgt : rFO S (S 0).toNat 0 61 < cFO (rSit S) 60 S 1
    · have := key (rFO S (S 0).toNat 0 61).toNat (by omega)
      omega
    · omega
