/-! more rows: ints as they are -/
section ZRAW
variable {Γ : zC} {A : Nat → Prop} {p : Program} {l : Launch} {e : Env} {R : Room} {s : State} {m : MethodId} {args : Array Value} {below : List Frame} {meth : Method} {c : Code} {cells slots : Nat} {Q : State → Prop} {own : String} {cc : ByteArray} {nL pc n : Nat} {lv st : List Value} {μ : zMem}
theorem zV_ior0 (C : zCx Γ A p s m args c own cc nL) {x y : Int32} (d : decode cc pc = .ok (.ior, 1)) (hp : pc + 1 = n) (k : zV Γ A p l e R s m args below meth c cells slots Q n lv (.int (x ||| y) :: st) μ) : zV Γ A p l e R s m args below meth c cells slots Q pc lv (.int y :: .int x :: st) μ := by
  subst hp
  exact fun H locs ls hl hP hS => lv_ior C.1 C.2.1 d (k H locs ls hl hP hS)
theorem zV_iand0 (C : zCx Γ A p s m args c own cc nL) {x y : Int32} (d : decode cc pc = .ok (.iand, 1)) (hp : pc + 1 = n) (k : zV Γ A p l e R s m args below meth c cells slots Q n lv (.int (x &&& y) :: st) μ) : zV Γ A p l e R s m args below meth c cells slots Q pc lv (.int y :: .int x :: st) μ := by
  subst hp
  exact fun H locs ls hl hP hS => lv_iand C.1 C.2.1 d (k H locs ls hl hP hS)
theorem zV_ixor0 (C : zCx Γ A p s m args c own cc nL) {x y : Int32} (d : decode cc pc = .ok (.ixor, 1)) (hp : pc + 1 = n) (k : zV Γ A p l e R s m args below meth c cells slots Q n lv (.int (x ^^^ y) :: st) μ) : zV Γ A p l e R s m args below meth c cells slots Q pc lv (.int y :: .int x :: st) μ := by
  subst hp
  exact fun H locs ls hl hP hS => lv_ixor C.1 C.2.1 d (k H locs ls hl hP hS)
theorem zV_ishl0 (C : zCx Γ A p s m args c own cc nL) {x y : Int32} (d : decode cc pc = .ok (.ishl, 1)) (hp : pc + 1 = n) (k : zV Γ A p l e R s m args below meth c cells slots Q n lv (.int (x <<< (y &&& 31)) :: st) μ) : zV Γ A p l e R s m args below meth c cells slots Q pc lv (.int y :: .int x :: st) μ := by
  subst hp
  exact fun H locs ls hl hP hS => lv_ishl C.1 C.2.1 d (k H locs ls hl hP hS)
theorem zV_ishr0 (C : zCx Γ A p s m args c own cc nL) {x y : Int32} (d : decode cc pc = .ok (.ishr, 1)) (hp : pc + 1 = n) (k : zV Γ A p l e R s m args below meth c cells slots Q n lv (.int (x >>> (y &&& 31)) :: st) μ) : zV Γ A p l e R s m args below meth c cells slots Q pc lv (.int y :: .int x :: st) μ := by
  subst hp
  exact fun H locs ls hl hP hS => lv_ishr C.1 C.2.1 d (k H locs ls hl hP hS)
theorem zV_iushr0 (C : zCx Γ A p s m args c own cc nL) {x y : Int32} (d : decode cc pc = .ok (.iushr, 1)) (hp : pc + 1 = n) (k : zV Γ A p l e R s m args below meth c cells slots Q n lv (.int ((x.toUInt32 >>> (y.toUInt32 &&& Int32.toUInt32 31)).toInt32) :: st) μ) : zV Γ A p l e R s m args below meth c cells slots Q pc lv (.int y :: .int x :: st) μ := by
  subst hp
  exact fun H locs ls hl hP hS => lv_iushr C.1 C.2.1 d rfl (k H locs ls hl hP hS)
theorem zV_iadd0 (C : zCx Γ A p s m args c own cc nL) {x y : Int32} (d : decode cc pc = .ok (.iadd, 1)) (hp : pc + 1 = n) (k : zV Γ A p l e R s m args below meth c cells slots Q n lv (.int (x + y) :: st) μ) : zV Γ A p l e R s m args below meth c cells slots Q pc lv (.int y :: .int x :: st) μ := by
  subst hp
  exact fun H locs ls hl hP hS => lv_iadd C.1 C.2.1 d (k H locs ls hl hP hS)
theorem zV_isub0 (C : zCx Γ A p s m args c own cc nL) {x y : Int32} (d : decode cc pc = .ok (.isub, 1)) (hp : pc + 1 = n) (k : zV Γ A p l e R s m args below meth c cells slots Q n lv (.int (x - y) :: st) μ) : zV Γ A p l e R s m args below meth c cells slots Q pc lv (.int y :: .int x :: st) μ := by
  subst hp
  exact fun H locs ls hl hP hS => lv_isub C.1 C.2.1 d (k H locs ls hl hP hS)
end ZRAW
/-! bits of small numbers -/
def rPop (x : Int) : Int := x % 2 + x / 2 % 2 + x / 4 % 2 + x / 8 % 2 + x / 16 % 2 + x / 32 % 2
theorem rPop_tab : ∀ n : Nat, n < 64 → 0 < n → zi (n : Int) &&& zi ((n : Int) - 1) = zi ((n &&& (n - 1) : Nat) : Int) ∧ (n &&& (n - 1)) < n ∧ rPop (n : Int) = rPop ((n &&& (n - 1) : Nat) : Int) + 1 := by decide +kernel
theorem rPop_step {x : Int} (h : 0 < x ∧ x < 64) : ∃ y : Int, zi x &&& zi (x - 1) = zi y ∧ 0 ≤ y ∧ y < x ∧ rPop x = rPop y + 1 := by
  have h1 := rPop_tab x.toNat (by omega) (by omega)
  have e : ((x.toNat : Nat) : Int) = x := Int.toNat_of_nonneg (by omega)
  rw [e] at h1
  exact ⟨_, h1.1, by omega, by omega, h1.2.2⟩
def rSumF (S : Int → Int) (w : Int) : Nat → Int → Int → Int
  | 0, _, a => a
  | i + 1, k, a => rSumF S w i (k + 1) (a + toS S k w)
/-- in how many minutes one gets out: i minutes are left, k have gone of n -/
def rOI (x n : Int) : Nat → (Int → Int) → Int → Int
  | 0, S, k => if 0 ≤ rAt S x then n + 1 else k
  | i + 1, S, k => if 0 ≤ rAt S x then rOI x n i (rMin S) (k + 1) else k
theorem zcp_step {F G : Int → Int} {k : Int} : zfu (fun j => if j < k then F j else G j) k (F k) = fun j => if j < k + 1 then F j else G j := by
  funext j
  simp only [zfu]
  by_cases hj : j = k
  · subst hj
    rw [if_pos rfl, if_pos (by omega)]
  · rw [if_neg hj]
    by_cases h2 : j < k
    · rw [if_pos h2, if_pos (by omega)]
    · rw [if_neg h2, if_neg (by omega)]
theorem zset_old {μ : zMem} {g g' : Nat} {k k' : Int} {F : Int → Int} (h : ¬ (g' = g ∧ k' = k)) : zset (zset μ g k F) g' k' (μ g' k') = zset μ g k F := by
  have e := zset_self (μ := zset μ g k F) (g := g') (k := k')
  rw [zset_ne h] at e
  exact e
theorem rAt_is {S : Int → Int} {x : Int} (h : 0 ≤ rAt S x) : itS S (rAt S x) 4 = x := by
  unfold rAt at h ⊢
  split
  · assumption
  · split
    · assumption
    · split
      · assumption
      · rename_i h1 h2 h3
        rw [if_neg h1, if_neg h2, if_neg h3] at h
        omega
theorem rAt_tk {S : Int → Int} {x : Int} (h : 0 ≤ rAt S x) (hx : 0 ≤ x) : rTk S (rAt S x) := by
  show 0 ≤ itS S (rAt S x) 4
  rw [rAt_is h]
  exact hx
theorem rAt_no {S : Int → Int} {x k : Int} (h : rAt S x < 0) (hk : 0 ≤ k ∧ k < 3) : ¬ itS S k 4 = x := by
  have h3 : k = 0 ∨ k = 1 ∨ k = 2 := by omega
  unfold rAt at h
  split at h
  · omega
  · split at h
    · omega
    · split at h
      · omega
      · rcases h3 with rfl | rfl | rfl <;> assumption
theorem zif_t {α : Type} {P : Prop} [Decidable P] {a b c : α} (h : P) (e : a = b) : a = if P then b else c := by rw [if_pos h]; exact e
theorem zif_f {α : Type} {P : Prop} [Decidable P] {a b c : α} (h : ¬ P) (e : a = c) : a = if P then b else c := by rw [if_neg h]; exact e
