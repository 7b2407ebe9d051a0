/-! a class' car stands for a row S (X: what it held before, where S says nothing) -/
def cOf (S : Int → Int) (X : Int → Int → Int) : Int → Int → Int := fun k f =>
  if k = 0 then (if f = 2 then S 0 else if f = 3 then S 3 else if f = 4 then S 1 else if f = 5 then S 2 else X k f)
  else if 3 ≤ k ∧ k < 6 then (if 0 ≤ f ∧ f < 5 then S (4 + 5 * (k - 3) + f) else X k f)
  else if 6 ≤ k ∧ k < 6 + S 0 then (if 0 ≤ f ∧ f < 6 then S (19 + 6 * (k - 6) + f) else if f = 6 then rAt S (k - 6) else X k f)
  else X k f
def zcar (μ : zMem) (g : Nat) (S : Int → Int) : zMem := fun g' => if g' = g then cOf S (μ g) else μ g'
theorem zc_at {μ : zMem} {g : Nat} {S : Int → Int} : zcar μ g S g = cOf S (μ g) := if_pos rfl
theorem zc_ne {μ : zMem} {g g' : Nat} {S : Int → Int} (h : ¬ g' = g) : zcar μ g S g' = μ g' := if_neg h
theorem zc_cnt {μ : zMem} {g : Nat} {S : Int → Int} : zcar μ g S g 0 2 = S 0 := by rw [zc_at]; rfl
theorem zc_rain {μ : zMem} {g : Nat} {S : Int → Int} : zcar μ g S g 0 3 = S 3 := by rw [zc_at]; rfl
theorem zc_min {μ : zMem} {g : Nat} {S : Int → Int} : zcar μ g S g 0 4 = S 1 := by rw [zc_at]; rfl
theorem zc_spent {μ : zMem} {g : Nat} {S : Int → Int} : zcar μ g S g 0 5 = S 2 := by rw [zc_at]; rfl
theorem zc_seat {μ : zMem} {g : Nat} {S : Int → Int} {k f : Int} (hk : 0 ≤ k ∧ k < 3) (hf : 0 ≤ f ∧ f < 5) : zcar μ g S g (3 + k) f = itS S k f := by
  rw [zc_at]
  unfold cOf
  rw [if_neg (by omega), if_pos (by omega), if_pos hf]
  unfold itS
  rw [show 4 + 5 * (3 + k - 3) + f = 4 + 5 * k + f from by omega]
theorem zc_kid {μ : zMem} {g : Nat} {S : Int → Int} {x f : Int} (hx : 0 ≤ x ∧ x < S 0) (hf : 0 ≤ f ∧ f < 6) : zcar μ g S g (6 + x) f = toS S x f := by
  rw [zc_at]
  unfold cOf
  rw [if_neg (by omega), if_neg (by omega), if_pos (by omega), if_pos hf]
  unfold toS
  rw [show 19 + 6 * (6 + x - 6) + f = 19 + 6 * x + f from by omega]
theorem zc_place {μ : zMem} {g : Nat} {S : Int → Int} {x : Int} (hx : 0 ≤ x ∧ x < S 0) : zcar μ g S g (6 + x) 6 = rAt S x := by
  rw [zc_at]
  unfold cOf
  rw [if_neg (by omega), if_neg (by omega), if_pos (by omega), if_neg (by omega), if_pos rfl, show 6 + x - 6 = x from by omega]
theorem zc_ext {μ : zMem} {g : Nat} {S S' : Int → Int} {k f v : Int} (h : ∀ k' f', cOf S' (μ g) k' f' = if k' = k ∧ f' = f then v else cOf S (μ g) k' f') : zup (zcar μ g S) g k f v = zcar μ g S' := by
  funext g' k' f'
  simp only [zup, zcar]
  by_cases hg : g' = g
  · subst hg
    simp only [if_true, true_and]
    exact (h k' f').symm
  · rw [if_neg (fun q => hg q.1), if_neg hg, if_neg hg]
theorem zcu_kid {μ : zMem} {g : Nat} {S : Int → Int} {x f v : Int} (hx : 0 ≤ x ∧ x < S 0) (hf : 0 ≤ f ∧ f < 6) : zup (zcar μ g S) g (6 + x) f v = zcar μ g (zfu S (19 + 6 * x + f) v) := by
  refine zc_ext fun k' f' => ?_
  unfold cOf
  rw [zfu_ne (by omega), zfu_ne (by omega), zfu_ne (by omega), zfu_ne (by omega)]
  by_cases h1 : k' = 0
  · rw [if_pos h1, if_pos h1, if_neg (show ¬ (k' = 6 + x ∧ f' = f) from by omega)]
  · rw [if_neg h1, if_neg h1]
    by_cases h2 : 3 ≤ k' ∧ k' < 6
    · rw [if_pos h2, if_pos h2, if_neg (show ¬ (k' = 6 + x ∧ f' = f) from by omega)]
      by_cases h3 : 0 ≤ f' ∧ f' < 5
      · rw [if_pos h3, if_pos h3, zfu_ne (by omega)]
      · rw [if_neg h3, if_neg h3]
    · rw [if_neg h2, if_neg h2]
      by_cases h4 : 6 ≤ k' ∧ k' < 6 + S 0
      · rw [if_pos h4, if_pos h4]
        by_cases h3 : 0 ≤ f' ∧ f' < 6
        · rw [if_pos h3, if_pos h3]
          by_cases h5 : k' = 6 + x ∧ f' = f
          · rw [if_pos h5, show 19 + 6 * (k' - 6) + f' = 19 + 6 * x + f from by omega, zfu_at]
          · rw [if_neg h5, zfu_ne (by omega)]
        · rw [if_neg h3, if_neg h3, rAt_up (by omega), if_neg (show ¬ (k' = 6 + x ∧ f' = f) from by omega)]
      · rw [if_neg h4, if_neg h4, if_neg (show ¬ (k' = 6 + x ∧ f' = f) from by omega)]
theorem zcu_seat {μ : zMem} {g : Nat} {S : Int → Int} {k f v : Int} (hk : 0 ≤ k ∧ k < 3) (hf : 0 ≤ f ∧ f < 4) : zup (zcar μ g S) g (3 + k) f v = zcar μ g (zfu S (4 + 5 * k + f) v) := by
  refine zc_ext fun k' f' => ?_
  unfold cOf
  rw [zfu_ne (by omega), zfu_ne (by omega), zfu_ne (by omega), zfu_ne (by omega)]
  by_cases h1 : k' = 0
  · rw [if_pos h1, if_pos h1, if_neg (show ¬ (k' = 3 + k ∧ f' = f) from by omega)]
  · rw [if_neg h1, if_neg h1]
    by_cases h2 : 3 ≤ k' ∧ k' < 6
    · rw [if_pos h2, if_pos h2]
      by_cases h3 : 0 ≤ f' ∧ f' < 5
      · rw [if_pos h3, if_pos h3]
        by_cases h5 : k' = 3 + k ∧ f' = f
        · rw [if_pos h5, show 4 + 5 * (k' - 3) + f' = 4 + 5 * k + f from by omega, zfu_at]
        · rw [if_neg h5, zfu_ne (by omega)]
      · rw [if_neg h3, if_neg h3, if_neg (show ¬ (k' = 3 + k ∧ f' = f) from by omega)]
    · rw [if_neg h2, if_neg h2, if_neg (show ¬ (k' = 3 + k ∧ f' = f) from by omega)]
      by_cases h4 : 6 ≤ k' ∧ k' < 6 + S 0
      · rw [if_pos h4, if_pos h4]
        by_cases h3 : 0 ≤ f' ∧ f' < 6
        · rw [if_pos h3, if_pos h3, zfu_ne (by omega)]
        · rw [if_neg h3, if_neg h3, rAt_up (by omega)]
      · rw [if_neg h4, if_neg h4]
theorem zcu_head {μ : zMem} {g : Nat} {S : Int → Int} {f i v : Int} (h : (f = 3 ∧ i = 3) ∨ (f = 4 ∧ i = 1) ∨ (f = 5 ∧ i = 2)) : zup (zcar μ g S) g 0 f v = zcar μ g (zfu S i v) := by
  refine zc_ext fun k' f' => ?_
  unfold cOf
  rw [show zfu S i v 0 = S 0 from zfu_ne (by omega)]
  by_cases h1 : k' = 0
  · rw [if_pos h1, if_pos h1]
    rcases h with ⟨rfl, rfl⟩ | ⟨rfl, rfl⟩ | ⟨rfl, rfl⟩
    · rw [zfu_at, zfu_ne (by omega), zfu_ne (by omega)]
      by_cases h5 : f' = 3
      · subst h5; simp [h1]
      · simp [h5]
    · rw [zfu_at, zfu_ne (by omega), zfu_ne (by omega)]
      by_cases h5 : f' = 4
      · subst h5; simp [h1]
      · simp [h5]
    · rw [zfu_at, zfu_ne (by omega), zfu_ne (by omega)]
      by_cases h5 : f' = 5
      · subst h5; simp [h1]
      · simp [h5]
  · rw [if_neg h1, if_neg h1, if_neg (show ¬ (k' = 0 ∧ f' = f) from fun q => h1 q.1)]
    by_cases h2 : 3 ≤ k' ∧ k' < 6
    · rw [if_pos h2, if_pos h2]
      by_cases h3 : 0 ≤ f' ∧ f' < 5
      · rw [if_pos h3, if_pos h3, zfu_ne (by omega)]
      · rw [if_neg h3, if_neg h3]
    · rw [if_neg h2, if_neg h2]
      by_cases h4 : 6 ≤ k' ∧ k' < 6 + S 0
      · rw [if_pos h4, if_pos h4]
        by_cases h3 : 0 ≤ f' ∧ f' < 6
        · rw [if_pos h3, if_pos h3, zfu_ne (by omega)]
        · rw [if_neg h3, if_neg h3, rAt_up (by omega)]
      · rw [if_neg h4, if_neg h4]
theorem rAt_set {S : Int → Int} {k v y : Int} (hk : 0 ≤ k ∧ k < 3) (h0 : itS S k 4 = -1) (hy : 0 ≤ y) (hv : ∀ k' : Int, 0 ≤ k' → k' < 3 → ¬ itS S k' 4 = v) : rAt (zfu S (4 + 5 * k + 4) v) y = if y = v then k else rAt S y := by
  have h3 : k = 0 ∨ k = 1 ∨ k = 2 := by omega
  have v0 := hv 0 (by omega) (by omega)
  have v1 := hv 1 (by omega) (by omega)
  have v2 := hv 2 (by omega) (by omega)
  unfold rAt
  simp only [itS_if]
  rcases h3 with rfl | rfl | rfl <;> (simp only [Int.reduceMul, Int.reduceAdd, Int.reduceEq, if_true, if_false]; repeat' split) <;> omega
theorem rAt_rise {S : Int → Int} {k y : Int} (hk : 0 ≤ k ∧ k < 3) (hy : 0 ≤ y) (hu : ∀ k' : Int, 0 ≤ k' → k' < 3 → itS S k 4 = itS S k' 4 → k = k' ∨ itS S k 4 = -1) : rAt (zfu S (4 + 5 * k + 4) (-1)) y = if y = itS S k 4 then -1 else rAt S y := by
  have h3 : k = 0 ∨ k = 1 ∨ k = 2 := by omega
  have v0 := hu 0 (by omega) (by omega)
  have v1 := hu 1 (by omega) (by omega)
  have v2 := hu 2 (by omega) (by omega)
  unfold rAt
  simp only [itS_if]
  rcases h3 with rfl | rfl | rfl <;> (simp only [Int.reduceMul, Int.reduceAdd, Int.reduceEq, if_true, if_false]; repeat' split) <;> omega
/-- one sits down: its place, the seat's sitter -/
theorem zcu_sit {μ : zMem} {g : Nat} {S : Int → Int} {x k : Int} (hx : 0 ≤ x ∧ x < S 0) (hk : 0 ≤ k ∧ k < 3) (h0 : itS S k 4 = -1) (hn : ∀ k' : Int, 0 ≤ k' → k' < 3 → ¬ itS S k' 4 = x) : zup (zup (zcar μ g S) g (6 + x) 6 k) g (3 + k) 4 x = zcar μ g (zfu S (4 + 5 * k + 4) x) := by
  funext g' k' f'
  simp only [zup, zcar]
  by_cases hg : g' = g
  · subst hg
    simp only [if_true, true_and]
    unfold cOf
    rw [zfu_ne (by omega), zfu_ne (by omega), zfu_ne (by omega), zfu_ne (by omega)]
    by_cases h1 : k' = 0
    · rw [if_neg (show ¬ (k' = 3 + k ∧ f' = 4) from by omega), if_neg (show ¬ (k' = 6 + x ∧ f' = 6) from by omega), if_pos h1, if_pos h1]
    · rw [if_neg h1, if_neg h1]
      by_cases h2 : 3 ≤ k' ∧ k' < 6
      · rw [if_pos h2, if_pos h2, if_neg (show ¬ (k' = 6 + x ∧ f' = 6) from by omega)]
        by_cases h3 : 0 ≤ f' ∧ f' < 5
        · rw [if_pos h3, if_pos h3]
          by_cases h5 : k' = 3 + k ∧ f' = 4
          · rw [if_pos h5, show 4 + 5 * (k' - 3) + f' = 4 + 5 * k + 4 from by omega, zfu_at]
          · rw [if_neg h5, zfu_ne (by omega)]
        · rw [if_neg h3, if_neg h3, if_neg (show ¬ (k' = 3 + k ∧ f' = 4) from by omega)]
      · rw [if_neg h2, if_neg h2, if_neg (show ¬ (k' = 3 + k ∧ f' = 4) from by omega)]
        by_cases h4 : 6 ≤ k' ∧ k' < 6 + S 0
        · rw [if_pos h4, if_pos h4]
          by_cases h3 : 0 ≤ f' ∧ f' < 6
          · rw [if_pos h3, if_pos h3, zfu_ne (by omega), if_neg (show ¬ (k' = 6 + x ∧ f' = 6) from by omega)]
          · rw [if_neg h3, if_neg h3, rAt_set hk h0 (by omega) hn]
            by_cases h6 : f' = 6
            · rw [if_pos h6, if_pos h6]
              by_cases h7 : k' = 6 + x
              · rw [if_pos ⟨h7, h6⟩, if_pos (by omega)]
              · rw [if_neg (fun q => h7 q.1), if_neg (by omega)]
            · rw [if_neg h6, if_neg h6, if_neg (fun q => h6 q.2)]
        · rw [if_neg h4, if_neg h4, if_neg (show ¬ (k' = 6 + x ∧ f' = 6) from by omega)]
  · rw [if_neg (fun q => hg q.1), if_neg (fun q => hg q.1), if_neg hg, if_neg hg]
/-- one gets out: its place, the seat's sitter -/
theorem zcu_rise {μ : zMem} {g : Nat} {S : Int → Int} {x k : Int} (hx : 0 ≤ x ∧ x < S 0) (hk : 0 ≤ k ∧ k < 3) (h0 : itS S k 4 = x) (hu : ∀ k' : Int, 0 ≤ k' → k' < 3 → itS S k 4 = itS S k' 4 → k = k' ∨ itS S k 4 = -1) : zup (zup (zcar μ g S) g (6 + x) 6 (-1)) g (3 + k) 4 (-1) = zcar μ g (zfu S (4 + 5 * k + 4) (-1)) := by
  funext g' k' f'
  simp only [zup, zcar]
  by_cases hg : g' = g
  · subst hg
    simp only [if_true, true_and]
    unfold cOf
    rw [zfu_ne (by omega), zfu_ne (by omega), zfu_ne (by omega), zfu_ne (by omega)]
    by_cases h1 : k' = 0
    · rw [if_neg (show ¬ (k' = 3 + k ∧ f' = 4) from by omega), if_neg (show ¬ (k' = 6 + x ∧ f' = 6) from by omega), if_pos h1, if_pos h1]
    · rw [if_neg h1, if_neg h1]
      by_cases h2 : 3 ≤ k' ∧ k' < 6
      · rw [if_pos h2, if_pos h2, if_neg (show ¬ (k' = 6 + x ∧ f' = 6) from by omega)]
        by_cases h3 : 0 ≤ f' ∧ f' < 5
        · rw [if_pos h3, if_pos h3]
          by_cases h5 : k' = 3 + k ∧ f' = 4
          · rw [if_pos h5, show 4 + 5 * (k' - 3) + f' = 4 + 5 * k + 4 from by omega, zfu_at]
          · rw [if_neg h5, zfu_ne (by omega)]
        · rw [if_neg h3, if_neg h3, if_neg (show ¬ (k' = 3 + k ∧ f' = 4) from by omega)]
      · rw [if_neg h2, if_neg h2, if_neg (show ¬ (k' = 3 + k ∧ f' = 4) from by omega)]
        by_cases h4 : 6 ≤ k' ∧ k' < 6 + S 0
        · rw [if_pos h4, if_pos h4]
          by_cases h3 : 0 ≤ f' ∧ f' < 6
          · rw [if_pos h3, if_pos h3, zfu_ne (by omega), if_neg (show ¬ (k' = 6 + x ∧ f' = 6) from by omega)]
          · rw [if_neg h3, if_neg h3, rAt_rise hk (by omega) hu, h0]
            by_cases h6 : f' = 6
            · rw [if_pos h6, if_pos h6]
              by_cases h7 : k' = 6 + x
              · rw [if_pos ⟨h7, h6⟩, if_pos (by omega)]
              · rw [if_neg (fun q => h7 q.1), if_neg (by omega)]
            · rw [if_neg h6, if_neg h6, if_neg (fun q => h6 q.2)]
        · rw [if_neg h4, if_neg h4, if_neg (show ¬ (k' = 6 + x ∧ f' = 6) from by omega)]
  · rw [if_neg (fun q => hg q.1), if_neg (fun q => hg q.1), if_neg hg, if_neg hg]

section ZSTAT
variable {Γ : zC} {A : Nat → Prop} {p : Program} {l : Launch} {e : Env} {R : Room} {s : State} {m : MethodId} {args : Array Value} {below : List Frame} {meth : Method} {c : Code} {cells slots : Nat} {Q : State → Prop} {own : String} {cc : ByteArray} {nL pc n : Nat} {lv st : List Value} {μ : zMem}
theorem zV_getT {idx : Nat} (C : zCx Γ A p s m args c own cc nL) (hl : Cond.fieldLink own idx "SeatStraps$Kinds" "ABOVE" "[I" ∈ tblG) (d : decode cc pc = .ok (.getstatic idx, 3)) (hp : pc + 3 = n) (k : zV Γ A p l e R s m args below meth c cells slots Q n lv (.ref (zt Γ) :: st) μ) : zV Γ A p l e R s m args below meth c cells slots Q pc lv st μ := by
  subst hp
  intro H locs ls hl9 hP hS
  exact va_gets C.1 C.2.1 C.2.2.2.2.2.2.2.1.1 hS C.2.2.2.1 (C.2.2.2.2.1 _ hl) (fun _ h => h) d (k H locs ls hl9 hP hS)
theorem zV_ialdT {z v : Int} (C : zCx Γ A p s m args c own cc nL) (d : decode cc pc = .ok (.iaload, 1)) (hz : 0 ≤ z ∧ z < 6) (hv : zabove z.toNat = v) (hp : pc + 1 = n) (k : zV Γ A p l e R s m args below meth c cells slots Q n lv (.int (zi v) :: st) μ) : zV Γ A p l e R s m args below meth c cells slots Q pc lv (.int (zi z) :: .ref (zt Γ) :: st) μ := by
  subst hp
  subst hv
  intro H locs ls hl9 hP hS
  exact va_ti C.1 C.2.1 C.2.2.2.2.2.2.2.1.2.1 hS (zi_in (n := 6) hz (by decide)) (by rw [zi_clamp (by omega)]) d (k H locs ls hl9 hP hS)
end ZSTAT
def cIs (w : Int) : Nat → Int → Int
  | 0, _ => 0
  | i + 1, k => if 0 ≤ k ∧ k ≤ 5 then (if k = w then 1 else cIs w i (zabove k.toNat)) else 0
theorem cIs_eq {k w : Int} (hk : 0 ≤ k ∧ k ≤ 5) (hw : 0 ≤ w ∧ w ≤ 5) : cIs w 6 k = zb (rUnder k w) := by
  have h1 : k = 0 ∨ k = 1 ∨ k = 2 ∨ k = 3 ∨ k = 4 ∨ k = 5 := by omega
  have h2 : w = 0 ∨ w = 1 ∨ w = 2 ∨ w = 3 ∨ w = 4 ∨ w = 5 := by omega
  rcases h1 with rfl | rfl | rfl | rfl | rfl | rfl <;> rcases h2 with rfl | rfl | rfl | rfl | rfl | rfl <;> decide +kernel
def zmax (x y : Int) : Int := if y < x then x else y
/-- seats beside that are taken -/
def cB1 (S : Int → Int) (k j : Int) : Int := if (j = k - 1 ∨ j = k + 1) ∧ ¬ itS S j 4 = -1 then 1 else 0
def cBes (S : Int → Int) (k : Int) : Int := 0 + cB1 S k 0 + cB1 S k 1 + cB1 S k 2
theorem cBes_way {N : Int} {S : Int → Int} {k : Int} (I : rInv N S) (hk : 0 ≤ k ∧ k < 3) : (if k = 1 then 8 else 3) * cBes S k = rWay S k := by
  have h3 : k = 0 ∨ k = 1 ∨ k = 2 := by omega
  have a0 := (I.2.2.2.2.1 0 (by omega) (by omega)).2.2.2.2
  have a1 := (I.2.2.2.2.1 1 (by omega) (by omega)).2.2.2.2
  have a2 := (I.2.2.2.2.1 2 (by omega) (by omega)).2.2.2.2
  unfold cBes cB1 rWay
  rcases h3 with rfl | rfl | rfl <;> (repeat' split) <;> omega
theorem cBes_near {N : Int} {S : Int → Int} {k : Int} (I : rInv N S) (hk : 0 ≤ k ∧ k < 3) : (cBes S k = 0 ↔ ¬ rNear S k) ∧ 0 ≤ cBes S k ∧ cBes S k ≤ 3 := by
  have h3 : k = 0 ∨ k = 1 ∨ k = 2 := by omega
  have a0 := (I.2.2.2.2.1 0 (by omega) (by omega)).2.2.2.2
  have a1 := (I.2.2.2.2.1 1 (by omega) (by omega)).2.2.2.2
  have a2 := (I.2.2.2.2.1 2 (by omega) (by omega)).2.2.2.2
  unfold cBes cB1
  rcases h3 with rfl | rfl | rfl <;> (repeat' split) <;> omega
theorem zmin_comm (a b : Int) : zmin a b = zmin b a := by
  unfold zmin
  split <;> split <;> omega
theorem zmax0 (v : Int) : zmax 0 v = if v < 0 then 0 else v := rfl
section ZMATH
variable {Γ : zC} {A : Nat → Prop} {p : Program} {l : Launch} {e : Env} {R : Room} {s : State} {m : MethodId} {args : Array Value} {below : List Frame} {meth : Method} {c : Code} {cells slots : Nat} {Q : State → Prop} {own : String} {cc : ByteArray} {nL pc n : Nat} {lv st : List Value} {μ : zMem}
theorem zV_mmax {idx : Nat} {x y : Int} (C : zCx Γ A p s m args c own cc nL) (hl : Cond.methodLink own idx yJ9_max_7cf53 ∈ tblG) (d : decode cc pc = .ok (.invokestatic idx, 3)) (hx : -2147483648 ≤ x ∧ x ≤ 2147483647) (hy : -2147483648 ≤ y ∧ y ≤ 2147483647) (hW : (st.map fun v => v.category).sum ≤ 8) (hR : zfit R 0 2) (hc : cells ≤ R.cells ∧ slots ≤ R.slots) (hp : pc + 3 = n)
    (k : zV Γ A p l e R s m args below meth c cells slots Q n lv (.int (zi (zmax x y)) :: st) μ) : zV Γ A p l e R s m args below meth c cells slots Q pc lv (.int (zi y) :: .int (zi x) :: st) μ := by
  subst hp
  intro H locs ls hl9 hP hS
  have h := k H locs ls hl9 hP hS
  have e1 : zi (zmax x y) = if zi x < zi y then zi y else zi x := by
    unfold zmax
    by_cases hxy : y < x
    · rw [if_pos hxy, if_neg (by rw [zi_lt hx hy]; omega)]
    · rw [if_neg hxy]
      by_cases h2 : x < y
      · rw [if_pos ((zi_lt hx hy).mpr h2)]
      · rw [if_neg (by rw [zi_lt hx hy]; omega), show x = y from by omega]
  rw [e1] at h
  have hR1 : 0 + 1 ≤ R.frames := hR.1
  have hR2 : 8 + (2 + 11) + 36 * 0 ≤ R.locals := hR.2
  exact va_mmax C.1 C.2.1 (C.2.2.1.trans (hl9.1.trans C.2.2.1).symm) C.2.2.2.1 (C.2.2.2.2.1 _ hl) (C.2.2.2.2.1 _ jJ9_max_7cf53.2) (C.2.2.2.2.1 _ jJ9_max_7cf53.1.2.1) (C.2.2.2.2.1 _ jJ9_max_7cf53.1.1) (by omega) (by omega) hc.1 hc.2 d h
theorem zV_mmin {idx : Nat} {x y : Int} (C : zCx Γ A p s m args c own cc nL) (hl : Cond.methodLink own idx yJ9_min_7cf53 ∈ tblG) (d : decode cc pc = .ok (.invokestatic idx, 3)) (hx : -2147483648 ≤ x ∧ x ≤ 2147483647) (hy : -2147483648 ≤ y ∧ y ≤ 2147483647) (hW : (st.map fun v => v.category).sum ≤ 8) (hR : zfit R 0 2) (hc : cells ≤ R.cells ∧ slots ≤ R.slots) (hp : pc + 3 = n)
    (k : zV Γ A p l e R s m args below meth c cells slots Q n lv (.int (zi (zmin y x)) :: st) μ) : zV Γ A p l e R s m args below meth c cells slots Q pc lv (.int (zi y) :: .int (zi x) :: st) μ := by
  subst hp
  intro H locs ls hl9 hP hS
  have h := k H locs ls hl9 hP hS
  have e1 : zi (zmin y x) = if zi y < zi x then zi y else zi x := by
    rw [zmin_comm]
    unfold zmin
    by_cases hxy : y < x
    · rw [if_pos hxy, if_pos ((zi_lt hy hx).mpr hxy)]
    · rw [if_neg hxy, if_neg (by rw [zi_lt hy hx]; omega)]
  rw [e1] at h
  have hR1 : 0 + 1 ≤ R.frames := hR.1
  have hR2 : 8 + (2 + 11) + 36 * 0 ≤ R.locals := hR.2
  exact va_mmin C.1 C.2.1 (C.2.2.1.trans (hl9.1.trans C.2.2.1).symm) C.2.2.2.1 (C.2.2.2.2.1 _ hl) (C.2.2.2.2.1 _ jJ9_min_7cf53.2) (C.2.2.2.2.1 _ jJ9_min_7cf53.1.2.1) (C.2.2.2.2.1 _ jJ9_min_7cf53.1.1) (by omega) (by omega) hc.1 hc.2 d h
end ZMATH
def cFr (kd mi ti al : Int) : Int :=
  if kd = 1 then (if 6 < ti then (if mi % 3 = 0 then 1 else 0) + 1 else (if mi % 3 = 0 then 1 else 0)) else if kd = 3 then (if al = 1 then (if mi % 3 = 0 then 1 else 0) + 1 else (if mi % 3 = 0 then 1 else 0)) else if kd = 4 then 2 * (if 6 < ti then (if mi % 3 = 0 then 1 else 0) + 1 else (if mi % 3 = 0 then 1 else 0)) else (if mi % 3 = 0 then 1 else 0)
theorem cFr_eq {S : Int → Int} {x al : Int} (h : al = zb (rAt S x < 0 ∨ ¬ rNear S (rAt S x))) : cFr (toS S x 0) (S 1) (toS S x 5) al = rFr S x := by
  unfold cFr rFr rAr rPl
  by_cases hP : rAt S x < 0 ∨ ¬ rNear S (rAt S x)
  · rw [zb_t hP] at h
    subst h
    rw [if_pos hP, if_pos (rfl : (1 : Int) = 1)]
  · rw [zb_f hP] at h
    subst h
    rw [if_neg hP, if_neg (by decide : ¬ (0 : Int) = 1)]
