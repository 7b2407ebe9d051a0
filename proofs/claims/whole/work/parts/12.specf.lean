/-! the reference's car: a row S : Int → Int; what is computed of it -/
def itS (S : Int → Int) (k w : Int) : Int := S (4 + 5 * k + w)
def toS (S : Int → Int) (c w : Int) : Int := S (19 + 6 * c + w)
def rAt (S : Int → Int) (c : Int) : Int := if itS S 2 4 = c then 2 else if itS S 1 4 = c then 1 else if itS S 0 4 = c then 0 else -1
abbrev rTk (S : Int → Int) (k : Int) : Prop := 0 ≤ itS S k 4
abbrev rNear (S : Int → Int) (k : Int) : Prop := (k = 1 ∧ (rTk S 0 ∨ rTk S 2)) ∨ (¬ k = 1 ∧ rTk S 1)
def rPl (S : Int → Int) : Int := if S 1 % 3 = 0 then 1 else 0
def rAr (S : Int → Int) (c : Int) : Int := if 6 < toS S c 5 then rPl S + 1 else rPl S
def rFr (S : Int → Int) (c : Int) : Int :=
  if toS S c 0 = 1 then rAr S c else if toS S c 0 = 3 then (if rAt S c < 0 ∨ ¬ rNear S (rAt S c) then rPl S + 1 else rPl S) else if toS S c 0 = 4 then 2 * rAr S c else rPl S
def rTakes (S : Int → Int) (kd c k : Int) : Int :=
  if kd = 1 then 10 + 3 * toS S c 4 else if kd = 2 then 5 else if kd = 3 then (if itS S k 2 = 1 then 10 else 15) else if kd = 4 then (if toS S c 2 < 3 then 2 * (10 + 3 * toS S c 4) else 10 + 3 * toS S c 4) else if kd = 5 then (if 7 ≤ toS S c 2 then 0 else 5) else 10
def rWay (S : Int → Int) (k : Int) : Int := if k = 1 then (if rTk S 0 then 8 else 0) + (if rTk S 2 then 8 else 0) else if rTk S 1 then 3 else 0
def rSecK (S : Int → Int) (kd c k : Int) : Int := rTakes S kd c k + 5 * itS S k 0 + 2 * itS S k 1 + 4 * toS S c 3 + S 3 + rWay S k
def rSec (S : Int → Int) (c k : Int) : Int := rSecK S (toS S c 0) c k
def rSnugs (S : Int → Int) (c k : Int) : Int :=
  9 - itS S k 0 - (if toS S c 0 = 1 ∨ toS S c 0 = 4 then toS S c 4 / 2 else if toS S c 0 = 2 then toS S c 1 / 40 else if toS S c 0 = 3 then (if itS S k 2 = 1 then 0 else 4) else if toS S c 0 = 5 then toS S c 1 / 40 + 1 else 0) - 3 * toS S c 3
def rSnug (S : Int → Int) (c k : Int) : Int := if rSnugs S c k < 0 then 0 else rSnugs S c k
def zmin (a b : Int) : Int := if b < a then b else a
abbrev rUnder (k o : Int) : Prop := o = 0 ∨ k = o ∨ (3 < k ∧ k - 3 = o)
def rClick (S : Int → Int) (c k : Int) : Int → Int :=
  let S1 := zfu S 2 (zmin (S 2 + rSec S c k) 99999)
  let S2 := zfu S1 (19 + 6 * c + 5) (rSnug S1 c k)
  let S3 := zfu S2 (4 + 5 * k + 3) (zmin (itS S2 k 3 + 1) 9999)
  let S4 := zfu S3 (4 + 5 * k + 4) c
  if rUnder (toS S4 c 0) 1 then zfu S4 (19 + 6 * c + 4) (zmin (toS S4 c 4 + 1) 9) else S4
def rOut (S : Int → Int) (k : Int) : Int → Int := zfu (zfu S (19 + 6 * itS S k 4 + 5) 0) (4 + 5 * k + 4) (-1)
def rBr (S : Int → Int) (c : Int) : Int → Int :=
  let S1 := zfu S (19 + 6 * c + 2) (zmin (toS S c 2 + 3) 9)
  if 0 ≤ rAt S c then zfu S1 (4 + 5 * rAt S c + 1) (zmin (itS S1 (rAt S c) 1 + 1) 9) else S1
def rM1 (S : Int → Int) (k : Int) : Int → Int :=
  if rTk S k then zfu S (19 + 6 * itS S k 4 + 2) (if toS S (itS S k 4) 2 - rFr S (itS S k 4) < 0 then 0 else toS S (itS S k 4) 2 - rFr S (itS S k 4)) else S
def rLess (S : Int → Int) (c : Int) : Int → Int := zfu S (19 + 6 * c + 5) (toS S c 5 - (if 0 < toS S c 5 then 1 else 0))
def rM2 (S : Int → Int) (k : Int) : Int → Int :=
  if rTk S k ∧ toS S (itS S k 4) 2 < 2 then (if toS (rLess S (itS S k 4)) (itS S k 4) 5 = 0 then rOut (rLess S (itS S k 4)) k else rLess S (itS S k 4)) else S
def rMin (S : Int → Int) : Int → Int :=
  let T := rM2 (rM2 (rM2 (rM1 (rM1 (rM1 S 0) 1) 2) 0) 1) 2
  zfu T 1 (T 1 + 1)
def rGo : Nat → (Int → Int) → (Int → Int)
  | 0, S => S
  | n + 1, S => rGo n (rMin S)
def rbit (w : Int) : Int32 := if 0 ≤ w then zi 1 <<< (zi w &&& 31) else zi 0
def rSit (S : Int → Int) : Int := (((zi 0 ||| rbit (itS S 0 4)) ||| rbit (itS S 1 4)) ||| rbit (itS S 2 4)).toInt
def rAdd (S : Int → Int) (kd : Int) : Int → Int :=
  let c := S 0
  let S1 : Int → Int := fun j => if 19 + 6 * c ≤ j ∧ j < 19 + 6 * c + 6 then 0 else S j
  let S2 := zfu (zfu (zfu S1 (19 + 6 * c + 0) kd) (19 + 6 * c + 1) 30) (19 + 6 * c + 2) 5
  zfu S2 0 (S2 0 + 1)
def rFind (F : Int → Int) (x : Int) : Int → Int := zfu F (-1000000001 - x) (F (-1000000001 - x) + 1)
/-- what holds of a car's row: every number is in its range, nobody sits twice; the minute is at most N -/
def rInv (N : Int) (S : Int → Int) : Prop :=
  (0 ≤ S 0 ∧ S 0 ≤ 6) ∧ (0 ≤ S 1 ∧ S 1 ≤ N) ∧ (0 ≤ S 2 ∧ S 2 ≤ 99999) ∧ (0 ≤ S 3 ∧ S 3 ≤ 9) ∧
  (∀ k : Int, 0 ≤ k → k < 3 → (0 ≤ itS S k 0 ∧ itS S k 0 ≤ 5) ∧ (0 ≤ itS S k 1 ∧ itS S k 1 ≤ 9) ∧ (0 ≤ itS S k 2 ∧ itS S k 2 ≤ 1) ∧ (0 ≤ itS S k 3 ∧ itS S k 3 ≤ 9999) ∧ (-1 ≤ itS S k 4 ∧ itS S k 4 < S 0)) ∧
  (∀ c : Int, 0 ≤ c → c < 6 → (0 ≤ toS S c 0 ∧ toS S c 0 ≤ 5) ∧ (0 ≤ toS S c 1 ∧ toS S c 1 ≤ 99) ∧ (0 ≤ toS S c 2 ∧ toS S c 2 ≤ 9) ∧ (0 ≤ toS S c 3 ∧ toS S c 3 ≤ 1) ∧ (0 ≤ toS S c 4 ∧ toS S c 4 ≤ 9) ∧ (0 ≤ toS S c 5 ∧ toS S c 5 ≤ 9)) ∧
  (∀ k k' : Int, 0 ≤ k → k < 3 → 0 ≤ k' → k' < 3 → itS S k 4 = itS S k' 4 → k = k' ∨ itS S k 4 = -1)
theorem rAt_rg (S : Int → Int) (c : Int) : -1 ≤ rAt S c ∧ rAt S c ≤ 2 := by
  unfold rAt
  split
  · decide
  · split
    · decide
    · split <;> decide
theorem rPl_rg (S : Int → Int) : 0 ≤ rPl S ∧ rPl S ≤ 1 := by
  unfold rPl
  split <;> decide
theorem rFr_rg (S : Int → Int) (c : Int) : 0 ≤ rFr S c ∧ rFr S c ≤ 4 := by
  have h := rPl_rg S
  unfold rFr rAr
  repeat' split
  all_goals omega
theorem rTakes_rg {S : Int → Int} {kd c k : Int} (h : 0 ≤ toS S c 4 ∧ toS S c 4 ≤ 9) : 0 ≤ rTakes S kd c k ∧ rTakes S kd c k ≤ 74 := by
  unfold rTakes
  repeat' split
  all_goals omega
theorem rWay_rg (S : Int → Int) (k : Int) : 0 ≤ rWay S k ∧ rWay S k ≤ 16 := by
  unfold rWay
  repeat' split
  all_goals omega
theorem rSecK_rg {N : Int} {S : Int → Int} {kd c k : Int} (I : rInv N S) (hc : 0 ≤ c ∧ c < 6) (hk : 0 ≤ k ∧ k < 3) : 0 ≤ rSecK S kd c k ∧ rSecK S kd c k ≤ 146 := by
  have h1 := I.2.2.2.2.1 k hk.1 hk.2
  have h2 := I.2.2.2.2.2.1 c hc.1 hc.2
  have h3 := rTakes_rg (kd := kd) (k := k) h2.2.2.2.2.1
  have h4 := rWay_rg S k
  have h5 := I.2.2.2.1
  unfold rSecK
  omega
theorem rSnug_rg {N : Int} {S : Int → Int} {c k : Int} (I : rInv N S) (hc : 0 ≤ c ∧ c < 6) (hk : 0 ≤ k ∧ k < 3) : 0 ≤ rSnug S c k ∧ rSnug S c k ≤ 9 := by
  have h1 := I.2.2.2.2.1 k hk.1 hk.2
  have h2 := I.2.2.2.2.2.1 c hc.1 hc.2
  unfold rSnug rSnugs
  repeat' split
  all_goals omega
theorem zmin_le {a b : Int} (h : a ≤ b) : zmin a b = a := if_neg (by omega)
theorem zmin_gt {a b : Int} (h : b < a) : zmin a b = b := if_pos h
