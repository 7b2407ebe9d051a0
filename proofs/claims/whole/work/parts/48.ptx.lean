/-! text: the reference's reader; its memory -/
def zp (ν : zMem) (f t v w : Int) (S : Int → Int) : zMem := fun g k i => if g = 5 ∧ k = 0 ∧ i = 11 then f else if g = 5 ∧ k = 0 ∧ i = 12 then t else if g = 5 ∧ k = 0 ∧ i = 13 then v else if g = 5 ∧ k = 0 ∧ i = 14 then w else if g = 5 ∧ k = 1 then S i else ν g k i
theorem zp_f {ν : zMem} {f t v w : Int} {S : Int → Int} : zp ν f t v w S 5 0 11 = f := rfl
theorem zp_t {ν : zMem} {f t v w : Int} {S : Int → Int} : zp ν f t v w S 5 0 12 = t := rfl
theorem zp_v {ν : zMem} {f t v w : Int} {S : Int → Int} : zp ν f t v w S 5 0 13 = v := rfl
theorem zp_w {ν : zMem} {f t v w : Int} {S : Int → Int} : zp ν f t v w S 5 0 14 = w := rfl
theorem zp_S {ν : zMem} {f t v w : Int} {S : Int → Int} : zp ν f t v w S 5 1 = S := rfl
theorem zp_n {ν : zMem} {f t v w : Int} {S : Int → Int} : zp ν f t v w S 5 0 10 = ν 5 0 10 := rfl
theorem zp_T {ν : zMem} {f t v w : Int} {S : Int → Int} : zp ν f t v w S 5 8 = ν 5 8 := rfl
theorem zpu_f {ν : zMem} {f t v w : Int} {S : Int → Int} {z : Int} : zup (zp ν f t v w S) 5 0 11 z = zp ν z t v w S := by
  funext g k i
  simp only [zup, zp]
  by_cases h : g = 5 ∧ k = 0 ∧ i = 11
  · obtain ⟨rfl, rfl, rfl⟩ := h
    rfl
  · rw [if_neg h, if_neg h, if_neg h]
theorem zpu_t {ν : zMem} {f t v w : Int} {S : Int → Int} {z : Int} : zup (zp ν f t v w S) 5 0 12 z = zp ν f z v w S := by
  funext g k i
  by_cases h : g = 5 ∧ k = 0 ∧ i = 12
  · obtain ⟨rfl, rfl, rfl⟩ := h
    rfl
  · rw [zup_ne h]
    simp only [zp]
    simp only [if_neg h]
theorem zpu_v {ν : zMem} {f t v w : Int} {S : Int → Int} {z : Int} : zup (zp ν f t v w S) 5 0 13 z = zp ν f t z w S := by
  funext g k i
  by_cases h : g = 5 ∧ k = 0 ∧ i = 13
  · obtain ⟨rfl, rfl, rfl⟩ := h
    rfl
  · rw [zup_ne h]
    simp only [zp]
    simp only [if_neg h]
theorem zpu_w {ν : zMem} {f t v w : Int} {S : Int → Int} {z : Int} : zup (zp ν f t v w S) 5 0 14 z = zp ν f t v z S := by
  funext g k i
  by_cases h : g = 5 ∧ k = 0 ∧ i = 14
  · obtain ⟨rfl, rfl, rfl⟩ := h
    rfl
  · rw [zup_ne h]
    simp only [zp]
    simp only [if_neg h]
theorem zps_S {ν : zMem} {f t v w : Int} {S : Int → Int} {G : Int → Int} : zset (zp ν f t v w S) 5 1 G = zp ν f t v w G := by
  funext g k
  simp only [zset]
  by_cases h : g = 5 ∧ k = 1
  · rw [if_pos h]
    obtain ⟨rfl, rfl⟩ := h
    rfl
  · rw [if_neg h]
    funext i
    simp only [zp]
    simp only [if_neg h]
theorem zpu_S {ν : zMem} {f t v w : Int} {S : Int → Int} {i z : Int} : zup (zp ν f t v w S) 5 1 i z = zp ν f t v w (zfu S i z) := by
  rw [zup_zset, zps_S]
  rfl
theorem zp_self {ν : zMem} : zp ν (ν 5 0 11) (ν 5 0 12) (ν 5 0 13) (ν 5 0 14) (ν 5 1) = ν := by
  funext g k i
  simp only [zp]
  by_cases h1 : g = 5 ∧ k = 0 ∧ i = 11
  · rw [if_pos h1, h1.1, h1.2.1, h1.2.2]
  · rw [if_neg h1]
    by_cases h2 : g = 5 ∧ k = 0 ∧ i = 12
    · rw [if_pos h2, h2.1, h2.2.1, h2.2.2]
    · rw [if_neg h2]
      by_cases h3 : g = 5 ∧ k = 0 ∧ i = 13
      · rw [if_pos h3, h3.1, h3.2.1, h3.2.2]
      · rw [if_neg h3]
        by_cases h4 : g = 5 ∧ k = 0 ∧ i = 14
        · rw [if_pos h4, h4.1, h4.2.1, h4.2.2]
        · rw [if_neg h4]
          by_cases h5 : g = 5 ∧ k = 1
          · rw [if_pos h5, h5.1, h5.2]
          · rw [if_neg h5]
/-- the reader: where a token begins, ends, the number read, whether it is wrong, the row -/
abbrev Pst : Type := Int × Int × Int × Int × (Int → Int)
abbrev Pst.f (P : Pst) : Int := P.1
abbrev Pst.t (P : Pst) : Int := P.2.1
abbrev Pst.v (P : Pst) : Int := P.2.2.1
abbrev Pst.w (P : Pst) : Int := P.2.2.2.1
abbrev Pst.S (P : Pst) : Int → Int := P.2.2.2.2
def pMem (μ : zMem) (P : Pst) : zMem := zp μ (Pst.f P) (Pst.t P) (Pst.v P) (Pst.w P) (Pst.S P)
def pTok (T : Int → Int) (n : Int) (P : Pst) : Pst := (nxF T n (Pst.t P), nxT T n (nxF T n (Pst.t P)), Pst.v P, Pst.w P, Pst.S P)
def pMust (T : Int → Int) (n b : Int) (P : Pst) : Pst := if Pst.w P = 0 ∧ b = 1 then pTok T n P else (Pst.f P, Pst.t P, Pst.v P, 1, Pst.S P)
def pWord (T : Int → Int) (n : Int) (P : Pst) : Int := if Pst.w P = 0 ∧ tk (bA T n (Pst.f P)) = 1 then wh T (Pst.t P - Pst.f P).toNat (Pst.f P) 0 else 0
def pVal (T : Int → Int) (n : Int) (P : Pst) : Int := if tk (bA T n (Pst.f P)) = 2 then vlR T (Pst.t P - Pst.f P).toNat (Pst.f P) 0 else 0
def pNum (T : Int → Int) (n hi : Int) (P : Pst) : Pst := if Pst.w P = 0 then pMust T n (if tk (bA T n (Pst.f P)) = 2 ∧ pVal T n P ≤ hi then 1 else 0) (Pst.f P, Pst.t P, pVal T n P, Pst.w P, Pst.S P) else P
def pRow (P : Pst) (S : Int → Int) : Pst := (Pst.f P, Pst.t P, Pst.v P, Pst.w P, S)
def pPut (idx : Int) (P : Pst) : Pst := pRow P (zfu (Pst.S P) idx (if Pst.w P = 0 then Pst.v P else Pst.S P idx))
def pPart (T : Int → Int) (n K idx hi : Int) (P : Pst) : Pst := if pWord T n P = K then pPut idx (pNum T n hi (pMust T n 1 P)) else P
def pMay (T : Int → Int) (n K idx : Int) (P : Pst) : Pst := if pWord T n P = K then pRow (pMust T n 1 P) (zfu (Pst.S (pMust T n 1 P)) idx 1) else pRow P (zfu (Pst.S P) idx 0)
def pKind (T : Int → Int) (n : Int) (P : Pst) : Int := if pWord T n P = 3417476 then 0 else if pWord T n P = 52535474 then 1 else if pWord T n P = 2343 then 2 else if pWord T n P = 66649 then 3 else if pWord T n P = 284930226 then 4 else if pWord T n P = 628102 then 5 else -1
def pChild (T : Int → Int) (n kd : Int) (P : Pst) : Pst :=
  let P1 := pMust T n (if Pst.S P 0 < 6 then 1 else 0) P
  if Pst.w P1 = 0 then pMay T n 113716 (19 + 6 * Pst.S P1 0 + 3) (pPart T n 441828 (19 + 6 * Pst.S P1 0 + 2) 9 (pPart T n 632645 (19 + 6 * Pst.S P1 0 + 1) 99 (pRow P1 (rAdd (Pst.S P1) kd)))) else P1
def pSeat (T : Int → Int) (n : Int) (P : Pst) : Pst :=
  let P1 := pNum T n 2 (pMust T n 1 P)
  let st := if Pst.w P1 = 0 then Pst.v P1 else 0
  pMay T n 693713060 (4 + 5 * st + 2) (pPart T n 120239187 (4 + 5 * st + 1) 9 (pPart T n 695520915 (4 + 5 * st + 0) 5 P1))
def pItem (T : Int → Int) (n : Int) (P : Pst) : Pst :=
  if 0 ≤ pKind T n P then pChild T n (pKind T n P) P else if pWord T n P = 627764 then pSeat T n P else pPut 3 (pNum T n 9 (pMust T n (if pWord T n P = 591150 then 1 else 0) P))
def pLoop (T : Int → Int) (n : Int) : Nat → Pst → Int → Pst × Int
  | 0, P, c => (P, c)
  | i + 1, P, c => if Pst.w P = 0 ∧ bA T n (Pst.f P) = 59 then pLoop T n i (pItem T n (pMust T n 1 P)) (c + 1) else (P, c)
