/-! still more of what the reference computes -/
theorem zfu_fu {F : Int → Int} {i v w : Int} : zfu (zfu F i v) i w = zfu F i w := by
  funext j
  simp only [zfu]
  split <;> rfl
theorem zfu_self {F : Int → Int} {i v : Int} (h : v = F i) : zfu F i v = F := by
  subst h
  funext j
  simp only [zfu]
  split
  · rename_i h; rw [h]
  · rfl
theorem rSec_kd {S : Int → Int} {x k kd : Int} (hx : 0 ≤ x) (hk : k < 3) : rSec (zfu S (19 + 6 * x + 0) kd) x k = rSecK S kd x k := by
  unfold rSec rSecK rTakes rWay rTk
  rw [toS_at, toS_ne (by omega), toS_ne (by omega), toS_ne (by omega), itS_ne (by omega), itS_ne (by omega), itS_ne (by omega), itS_ne (by omega), itS_ne (by omega), itS_ne (by omega), zfu_ne (by omega)]
theorem rGo_0 {N : Int} {n : Nat} : ∀ {N : Int} {S : Int → Int}, rInv N S → rGo n S 0 = S 0 := by
  induction n with
  | zero => intro N S _; rfl
  | succ n ih =>
    intro N S I
    have h := ih (rMin_inv I)
    have h2 := (rM6_1 I).2
    show rGo n (rMin S) 0 = S 0
    rw [h, rMin_eq, zfu_ne (by omega), h2]
def rFOm (S : Int → Int) : Nat → Int → (Int → Int) → (Int → Int)
  | 0, _, G => G
  | i + 1, k, G => rFOm S i (k + 1) (if 0 ≤ rAt S k then S else G)
def rBsA (x : Int) (n : Nat) : Nat → (Int → Int) → (Int → Int) → (Int → Int)
  | 0, _, G => G
  | i + 1, S, _ => if 0 ≤ rAt (rGo n S) x then S else rBsA x n i (rBr S x) S
def rMdA (x : Int) (n : Nat) (S : Int → Int) : Nat → Int → (Int → Int) → (Int → Int)
  | 0, _, G => G
  | i + 1, v, _ => if 0 ≤ rAt (rGo n (zfu S (19 + 6 * x + 2) v)) x then zfu S (19 + 6 * x + 2) v else rMdA x n S i (v + 1) (zfu S (19 + 6 * x + 2) v)
theorem rBr_at {S : Int → Int} {x y : Int} (hx : 0 ≤ x) : rAt (rBr S x) y = rAt S y := by
  have ha := rAt_rg S x
  unfold rBr
  simp only
  split
  · rw [rAt_up (by omega), rAt_up (by omega)]
  · rw [rAt_up (by omega)]
theorem rBr_off {S : Int → Int} {x j : Int} (h1 : ¬ j = 19 + 6 * x + 2) (h2 : ¬ j = 4 + 5 * rAt S x + 1) : rBr S x j = S j := by
  unfold rBr
  try simp only
  split
  · rw [zfu_ne h2, zfu_ne h1]
  · rw [zfu_ne h1]
theorem rBs_rg {x : Int} {n : Nat} : ∀ {i : Nat} {S : Int → Int} {k : Int}, 0 ≤ k → -1 ≤ rBs x n i S k ∧ rBs x n i S k ≤ k + i := by
  intro i
  induction i with
  | zero => intro S k h; unfold rBs; omega
  | succ i ih =>
    intro S k h
    unfold rBs
    split
    · omega
    · have := ih (S := rBr S x) (k := k + 1) (by omega)
      omega
theorem rMd_rg {x : Int} {n : Nat} {S : Int → Int} : ∀ {i : Nat} {k : Int}, 0 ≤ k → -1 ≤ rMd x n S i k ∧ rMd x n S i k ≤ k + i := by
  intro i
  induction i with
  | zero => intro k h; unfold rMd; omega
  | succ i ih =>
    intro k h
    unfold rMd
    split
    · omega
    · have := ih (k := k + 1) (by omega)
      omega
theorem rWo_rg {S : Int → Int} {sit : Int32} : ∀ {i : Nat} {k b : Int}, 0 ≤ k → -1 ≤ b → b < k + i → -1 ≤ rWo S sit i k b ∧ rWo S sit i k b < k + i := by
  intro i
  induction i with
  | zero => intro k b h1 h2 h3; exact ⟨h2, h3⟩
  | succ i ih =>
    intro k b h1 h2 h3
    unfold rWo
    split
    · have := ih (k := k + 1) (b := k) (by omega) (by omega) (by omega)
      omega
    · have := ih (k := k + 1) (b := b) (by omega) (by omega) (by omega)
      omega
theorem rQ_rg {S : Int → Int} {x k b : Int} (hk : 0 ≤ k ∧ k < 3) (hb : -1 ≤ b ∧ b < 3) : -1 ≤ rQ S x k b ∧ rQ S x k b < 3 := by
  unfold rQ
  split <;> omega
theorem rSf_rg {S : Int → Int} {x k b : Int} (hk : 0 ≤ k ∧ k < 3) (hb : -1 ≤ b ∧ b < 3) : -1 ≤ rSf S x k b ∧ rSf S x k b < 3 := by
  unfold rSf
  split <;> omega
theorem zset_swap {μ : zMem} {g g' : Nat} {k k' : Int} {F F' H : Int → Int} (h : ¬ (g' = g ∧ k' = k)) : zset (zset (zset μ g k F) g' k' H) g k F' = zset (zset μ g k F') g' k' H := by
  funext a b
  simp only [zset]
  by_cases h1 : a = g ∧ b = k
  · have h2 : ¬ (a = g' ∧ b = k') := fun q => h ⟨q.1.symm.trans h1.1, q.2.symm.trans h1.2⟩
    rw [if_pos h1, if_neg h2, if_pos h1]
  · rw [if_neg h1]
    by_cases h2 : a = g' ∧ b = k'
    · rw [if_pos h2, if_pos h2]
    · rw [if_neg h2, if_neg h2, if_neg h1, if_neg h1]
theorem zfu_toS {S : Int → Int} {x w : Int} : zfu S (19 + 6 * x + w) (toS S x w) = S := zfu_self rfl
theorem zfu_itS {S : Int → Int} {k w : Int} : zfu S (4 + 5 * k + w) (itS S k w) = S := zfu_self rfl
theorem rBs_back {μ : zMem} {A T : Int → Int} {x y : Int} (hT : ∀ j : Int, ¬ j = 19 + 6 * x + 2 → ¬ j = 4 + 5 * y + 1 → T j = μ 5 1 j) : zset (zset μ 5 4 A) 5 1 (zfu (zfu T (19 + 6 * x + 2) (toS (μ 5 1) x 2)) (4 + 5 * y + 1) (itS (μ 5 1) y 1)) = zset μ 5 4 A := by
  have e : zfu (zfu T (19 + 6 * x + 2) (toS (μ 5 1) x 2)) (4 + 5 * y + 1) (itS (μ 5 1) y 1) = μ 5 1 := by
    funext j
    simp only [zfu]
    by_cases j2 : j = 4 + 5 * y + 1
    · rw [if_pos j2, j2]; rfl
    · rw [if_neg j2]
      by_cases j1 : j = 19 + 6 * x + 2
      · rw [if_pos j1, j1]; rfl
      · rw [if_neg j1]
        exact hT j j1 j2
  rw [e, zset_old (by decide)]
section ZCMP0
variable {Γ : zC} {A : Nat → Prop} {p : Program} {l : Launch} {e : Env} {R : Room} {s : State} {m : MethodId} {args : Array Value} {below : List Frame} {meth : Method} {c : Code} {cells slots : Nat} {Q : State → Prop} {own : String} {cc : ByteArray} {nL pc n : Nat} {lv st : List Value} {μ : zMem}
theorem zV_icmp0_ne (C : zCx Γ A p s m args c own cc nL) {x y : Int32} {off : Int} (tgt : Nat) (d : decode cc pc = .ok (.if_icmp .ne off, 3)) (ht : (pc : Int) + off = (tgt : Int)) (hp : pc + 3 = n) (kt : ¬ x = y → zV Γ A p l e R s m args below meth c cells slots Q tgt lv st μ) (kf : x = y → zV Γ A p l e R s m args below meth c cells slots Q n lv st μ) : zV Γ A p l e R s m args below meth c cells slots Q pc lv (.int y :: .int x :: st) μ := by
  subst hp
  exact fun H locs ls hl hP hS => lv_icmp_ne C.1 C.2.1 d ht (fun q => kt q H locs ls hl hP hS) (fun q => kf q H locs ls hl hP hS)
theorem zV_icmp0_eq (C : zCx Γ A p s m args c own cc nL) {x y : Int32} {off : Int} (tgt : Nat) (d : decode cc pc = .ok (.if_icmp .eq off, 3)) (ht : (pc : Int) + off = (tgt : Int)) (hp : pc + 3 = n) (kt : x = y → zV Γ A p l e R s m args below meth c cells slots Q tgt lv st μ) (kf : ¬ x = y → zV Γ A p l e R s m args below meth c cells slots Q n lv st μ) : zV Γ A p l e R s m args below meth c cells slots Q pc lv (.int y :: .int x :: st) μ := by
  subst hp
  exact fun H locs ls hl hP hS => lv_icmp_eq C.1 C.2.1 d ht (fun q => kt q H locs ls hl hP hS) (fun q => kf q H locs ls hl hP hS)
end ZCMP0
