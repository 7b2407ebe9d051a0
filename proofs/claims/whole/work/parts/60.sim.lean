/-! the class's memory and the reference's stand alike -/
theorem cOf_idem {S : Int → Int} {X : Int → Int → Int} : cOf S X = cOf S (cOf S X) := by
  have h := congrFun (zcar_car (μ := fun _ => X) (g := 0) (S := S) (T := S) rfl) 0
  exact h.symm
theorem zcar_self {μ : zMem} {g : Nat} {S : Int → Int} (h : μ g = cOf S (μ g)) : zcar μ g S = μ := by
  funext g'
  by_cases hg : g' = g
  · rw [hg, zc_at]
    exact h.symm
  · exact zc_ne hg
/-- the sheets of the class hold these numbers -/
def zshC (r9 r10 r11 r12 r13 r14 r15 r16 B Z M : Int → Int) : Prop :=
  (r9 1 = B 0 ∧ r9 2 = Z 0 ∧ ∀ i : Int, 0 ≤ i → i < 40 → r13 i = M i) ∧ (r10 1 = B 1 ∧ r10 2 = Z 1 ∧ ∀ i : Int, 0 ≤ i → i < 40 → r14 i = M (40 + i)) ∧
  (r11 1 = B 2 ∧ r11 2 = Z 2 ∧ ∀ i : Int, 0 ≤ i → i < 40 → r15 i = M (80 + i)) ∧ (r12 1 = B 3 ∧ r12 2 = Z 3 ∧ ∀ i : Int, 0 ≤ i → i < 40 → r16 i = M (120 + i))
theorem zsht_self {μ : zMem} {B Z M : Int → Int} (h : zshC (μ 4 9) (μ 4 10) (μ 4 11) (μ 4 12) (μ 4 13) (μ 4 14) (μ 4 15) (μ 4 16) B Z M) : zsht μ B Z M = μ := by
  obtain ⟨⟨a1, a2, a3⟩, ⟨b1, b2, b3⟩, ⟨c1, c2, c3⟩, d1, d2, d3⟩ := h
  funext g k i
  unfold zsht
  split
  · rename_i q
    obtain ⟨rfl, q1, q2, rfl⟩ := q
    have hk : k = 9 ∨ k = 10 ∨ k = 11 ∨ k = 12 := by omega
    rcases hk with rfl | rfl | rfl | rfl
    · exact a1.symm
    · exact b1.symm
    · exact c1.symm
    · exact d1.symm
  · split
    · rename_i q
      obtain ⟨rfl, q1, q2, rfl⟩ := q
      have hk : k = 9 ∨ k = 10 ∨ k = 11 ∨ k = 12 := by omega
      rcases hk with rfl | rfl | rfl | rfl
      · exact a2.symm
      · exact b2.symm
      · exact c2.symm
      · exact d2.symm
    · split
      · rename_i q
        obtain ⟨rfl, q1, q2, q3, q4⟩ := q
        have hk : k = 13 ∨ k = 14 ∨ k = 15 ∨ k = 16 := by omega
        rcases hk with rfl | rfl | rfl | rfl
        · rw [show 40 * (13 - 13) + i = i from by omega]; exact (a3 i q3 q4).symm
        · rw [show 40 * (14 - 13) + i = 40 + i from by omega]; exact (b3 i q3 q4).symm
        · rw [show 40 * (15 - 13) + i = 80 + i from by omega]; exact (c3 i q3 q4).symm
        · rw [show 40 * (16 - 13) + i = 120 + i from by omega]; exact (d3 i q3 q4).symm
      · rfl
theorem zsht_C {μ : zMem} {B Z M : Int → Int} : zshC (zsht μ B Z M 4 9) (zsht μ B Z M 4 10) (zsht μ B Z M 4 11) (zsht μ B Z M 4 12) (zsht μ B Z M 4 13) (zsht μ B Z M 4 14) (zsht μ B Z M 4 15) (zsht μ B Z M 4 16) B Z M := by
  refine ⟨⟨?_, ?_, fun i h0 h1 => ?_⟩, ⟨?_, ?_, fun i h0 h1 => ?_⟩, ⟨?_, ?_, fun i h0 h1 => ?_⟩, ?_, ?_, fun i h0 h1 => ?_⟩
  · exact zsb (j := 0) (by omega)
  · exact zsz (j := 0) (by omega)
  · have := zsn (μ := μ) (B := B) (Z := Z) (M := M) (j := 0) (i := i) (by omega) (by omega)
    rw [show 40 * 0 + i = i from by omega] at this
    exact this
  · exact zsb (j := 1) (by omega)
  · exact zsz (j := 1) (by omega)
  · exact zsn (μ := μ) (B := B) (Z := Z) (M := M) (j := 1) (i := i) (by omega) (by omega)
  · exact zsb (j := 2) (by omega)
  · exact zsz (j := 2) (by omega)
  · exact zsn (μ := μ) (B := B) (Z := Z) (M := M) (j := 2) (i := i) (by omega) (by omega)
  · exact zsb (j := 3) (by omega)
  · exact zsz (j := 3) (by omega)
  · exact zsn (μ := μ) (B := B) (Z := Z) (M := M) (j := 3) (i := i) (by omega) (by omega)
def zKp (v1 : Int → Int → Int) (a b : Int) (K : Int → Int) : Prop := a = b ∧ (b = 0 ∨ b = 1) ∧ (b = 1 → v1 = cOf K v1 ∧ rInv 9999 K)
def zTp (T T' : Int → Int) (n n' : Int) : Prop := T = T' ∧ n = n' ∧ tapeOk T' n'
/-- alike: the car, the image, the sheets, the findings told, the tape -/
def zSim (μ : zMem) : Prop :=
  μ 0 = cOf (μ 5 1) (μ 0) ∧ rInv 9999 (μ 5 1) ∧ zKp (μ 1) (μ 4 0 7) (μ 5 0 5) (μ 5 2) ∧ zshC (μ 4 9) (μ 4 10) (μ 4 11) (μ 4 12) (μ 4 13) (μ 4 14) (μ 4 15) (μ 4 16) (μ 5 9) (μ 5 10) (μ 5 11) ∧
  rSh (μ 5 9) (μ 5 10) (μ 5 11) ∧ μ 4 17 = μ 5 5 ∧ zTp (μ 4 3) (μ 5 8) (μ 4 2 1) (μ 5 0 10) ∧ (0 ≤ μ 5 0 13 ∧ μ 5 0 13 ≤ 9999)
theorem zSim_mk {μ : zMem} (h1 : μ 0 = cOf (μ 5 1) (μ 0)) (h2 : rInv 9999 (μ 5 1)) (h3 : zKp (μ 1) (μ 4 0 7) (μ 5 0 5) (μ 5 2)) (h4 : zshC (μ 4 9) (μ 4 10) (μ 4 11) (μ 4 12) (μ 4 13) (μ 4 14) (μ 4 15) (μ 4 16) (μ 5 9) (μ 5 10) (μ 5 11))
    (h5 : rSh (μ 5 9) (μ 5 10) (μ 5 11)) (h6 : μ 4 17 = μ 5 5) (h7 : zTp (μ 4 3) (μ 5 8) (μ 4 2 1) (μ 5 0 10)) (h8 : 0 ≤ μ 5 0 13 ∧ μ 5 0 13 ≤ 9999) : zSim μ := ⟨h1, h2, h3, h4, h5, h6, h7, h8⟩
/-- a call of both answers the same, and they stand alike then -/
def zPairI (Γ : zC) (l : Launch) (y1 y2 : zM) (av : List Value) (μ : zMem) : Prop := ∃ (w : Int32) (μ1 μ2 : zMem), zRet Γ l 9 y1 (.ref (za Γ 4 0) :: av) μ (some (.int w)) μ1 ∧ zRet Γ l 9 y2 (.ref (za Γ 5 0) :: av) μ1 (some (.int w)) μ2 ∧ zSim μ2
def zPairL (Γ : zC) (l : Launch) (y1 y2 : zM) (av : List Value) (μ : zMem) : Prop := ∃ (w : Int64) (μ1 μ2 : zMem), zRet Γ l 9 y1 (.ref (za Γ 4 0) :: av) μ (some (.long w)) μ1 ∧ zRet Γ l 9 y2 (.ref (za Γ 5 0) :: av) μ1 (some (.long w)) μ2 ∧ zSim μ2
theorem zPairI.of {Γ : zC} {l : Launch} {y1 y2 : zM} {av : List Value} {μ : zMem} {w : Int32} {M1 : zMem} (c1 : zRet Γ l 9 y1 (.ref (za Γ 4 0) :: av) μ (some (.int w)) M1) (e5 : M1 5 = μ 5)
    (k : ∀ μ1 : zMem, μ1 = M1 → μ1 5 = μ 5 → ∃ μ2, zRet Γ l 9 y2 (.ref (za Γ 5 0) :: av) μ1 (some (.int w)) μ2 ∧ zSim μ2) : zPairI Γ l y1 y2 av μ := by
  obtain ⟨μ2, h1, h2⟩ := k M1 rfl e5
  exact ⟨w, M1, μ2, c1, h1, h2⟩
theorem zPairL.of {Γ : zC} {l : Launch} {y1 y2 : zM} {av : List Value} {μ : zMem} {w : Int64} {M1 : zMem} (c1 : zRet Γ l 9 y1 (.ref (za Γ 4 0) :: av) μ (some (.long w)) M1) (e5 : M1 5 = μ 5)
    (k : ∀ μ1 : zMem, μ1 = M1 → μ1 5 = μ 5 → ∃ μ2, zRet Γ l 9 y2 (.ref (za Γ 5 0) :: av) μ1 (some (.long w)) μ2 ∧ zSim μ2) : zPairL Γ l y1 y2 av μ := by
  obtain ⟨μ2, h1, h2⟩ := k M1 rfl e5
  exact ⟨w, M1, μ2, c1, h1, h2⟩
theorem z32x (a : Int32) : ∃ x : Int, (-2147483648 ≤ x ∧ x ≤ 2147483647) ∧ zi x = a := ⟨a.toInt, z32 a, zi_of a⟩
theorem z64x (a : Int64) : ∃ x : Int, (-9223372036854775808 ≤ x ∧ x ≤ 9223372036854775807) ∧ zl x = a := ⟨a.toInt, z64 a, zl_of a⟩
/-! what holds of the car, of the sheets, of the tape stays -/
theorem rLayS_inv {N : Int} {M : Int → Int} {a : Int} : ∀ {i : Nat} {k : Int} {S : Int → Int}, rInv N S → 0 ≤ k → k + i ≤ 6 → rInv N (rLayS M a i k S) := by
  intro i
  induction i with
  | zero => intro k S I _ _; exact I
  | succ i ih =>
    intro k S I h0 h1
    unfold rLayS
    refine ih ?_ (by omega) (by omega)
    split
    · rename_i q
      exact rInv_kid I (by omega) (by omega) (by simp; omega)
    · exact I
theorem rGo_9 {S : Int → Int} {n : Nat} {N : Int} (I : rInv N S) (h : S 1 + n ≤ 9999) : rInv 9999 (rGo n S) := by
  have I2 : rInv (S 1) S := ⟨I.1, ⟨I.2.1.1, Int.le_refl _⟩, I.2.2⟩
  exact rInv_le (rGo_inv (S := S) I2) h
theorem rSh_sheet {B Z M : Int → Int} {j b n : Int} (h : rSh B Z M) (hb : b = 0 ∨ b = 8 ∨ b = 16 ∨ b = 64) (hn : 0 ≤ n ∧ n ≤ 40) : rSh (zfu B j b) (zfu Z j n) (fun i => if (40 * j) ≤ i ∧ i < (40 * j) + 40 then 0 else M i) := by
  refine ⟨fun q h0 h1 => ?_, fun i h0 h1 => ?_⟩
  · have := h.1 q h0 h1
    simp only [zfu]
    by_cases e : q = j
    · rw [if_pos e, if_pos e]; exact ⟨hb, hn⟩
    · rw [if_neg e, if_neg e]; exact this
  · have := h.2 i h0 h1
    dsimp only
    split
    · omega
    · exact this
theorem rSh_M {B Z M M' : Int → Int} (h : rSh B Z M) (hM : ∀ i : Int, 0 ≤ i → i < 160 → -9223372036854775808 ≤ M' i ∧ M' i ≤ 9223372036854775807) : rSh B Z M' := ⟨h.1, hM⟩
theorem rSh_copy {B Z M : Int → Int} {a b n : Int} (h : rSh B Z M) (ha : 0 ≤ a ∧ a + n ≤ 160) : rSh B Z (rCopy M a b n) := by
  refine rSh_M h (fun i h0 h1 => ?_)
  unfold rCopy
  split
  · exact h.2 _ (by omega) (by omega)
  · exact h.2 i h0 h1
theorem rBook_rg {N x a : Int} (hx : 0 ≤ x ∧ x < 6) : ∀ {i : Nat} {k N : Int} {S M : Int → Int}, rInv N S → (∀ q : Int, 0 ≤ q → q < 160 → -9223372036854775808 ≤ M q ∧ M q ≤ 9223372036854775807) → ∀ q : Int, 0 ≤ q → q < 160 → -9223372036854775808 ≤ rBook x a i k S M q ∧ rBook x a i k S M q ≤ 9223372036854775807 := by
  intro i
  induction i with
  | zero => intro k N S M _ h; exact h
  | succ i ih =>
    intro k N S M I h
    refine ih (N := N + 1) (S := rMin S) (rMin_inv I) (fun q h0 h1 => ?_)
    have hc := (I.2.2.2.2.2.1 x hx.1 hx.2).2.2.1
    simp only [zfu]
    split
    · omega
    · exact h q h0 h1
theorem rByte_tab : ∀ x : Nat, x < 256 → 0 ≤ (zi (x : Int)).toInt ∧ (zi (x : Int)).toInt ≤ 255 := by decide +kernel
theorem rByte_rg (b : Int32) (k : Int) : 0 ≤ rByte b k ∧ rByte b k ≤ 255 := by
  unfold rByte
  generalize b >>> (zi (8 * k) &&& 31) = c
  have h : (c &&& zi 255).toInt = ((c.toBitVec &&& 255#32).toNat : Int) := by
    show (c &&& zi 255).toBitVec.toInt = _
    rw [Int32.toBitVec_and, show (zi 255).toBitVec = 255#32 from rfl]
    have hlt : (c.toBitVec &&& 255#32).toNat < 256 := by
      rw [BitVec.toNat_and]
      exact Nat.lt_of_le_of_lt Nat.and_le_right (by decide)
    rw [BitVec.toInt_eq_toNat_of_lt (by omega)]
  have hlt : (c.toBitVec &&& 255#32).toNat < 256 := by
    rw [BitVec.toNat_and]
    exact Nat.lt_of_le_of_lt Nat.and_le_right (by decide)
  rw [h]
  omega
theorem rFeed_ok {b : Int32} : ∀ {i : Nat} {T : Int → Int} {q : Int}, tapeOk T q → q + i ≤ 120 → tapeOk (rFeed b i T q) (q + i) := by
  intro i
  induction i with
  | zero =>
    intro T q h _
    rw [show q + ((0 : Nat) : Int) = q from by omega]
    exact h
  | succ i ih =>
    intro T q h hq
    have hb := rByte_rg b (i : Int)
    have h1 : tapeOk (zfu T q (rByte b (i : Int))) (q + 1) := by
      refine ⟨by have := h.1; omega, fun j h0 h1 => ?_⟩
      simp only [zfu]
      split
      · exact hb
      · exact h.2 j h0 (by omega)
    have h2 := ih h1 (by omega)
    rw [show q + 1 + (i : Int) = q + ((i + 1 : Nat) : Int) from by omega] at h2
    exact h2
