/-! ways to click three children in -/
def bt (x c : Nat) : Bool := Nat.beq (Nat.mod (Nat.div x (Nat.pow 2 c)) 2) 1
def clr (x c : Nat) : Nat := cond (bt x c) (Nat.sub x (Nat.pow 2 c)) x
def iw1 (q : Bool × Nat × Nat) (dg : Nat) : Bool × Nat × Nat := (q.1 && bt q.2.1 (dg / 3) && bt q.2.2 (dg % 3), clr q.2.1 (dg / 3), clr q.2.2 (dg % 3))
def isW (x w : Nat) : Bool := (iw1 (iw1 (iw1 (true, x, 7) (w / 18 / 18 % 18)) (w / 18 % 18)) (w % 18)).1
def fW (x w : Nat) : Bool := cond (bt x (Nat.mod (Nat.div w 972) 6)) (cond (bt (clr x (Nat.mod (Nat.div w 972) 6)) (Nat.mod (Nat.div w 54) 6)) (isW x w) false) false
def btI (x c : Nat) : Bool := decide (((zi (x : Int)) >>> (zi (c : Int) &&& 31)) &&& zi 1 = zi 1)
def clrI (x c : Nat) : Int32 := zi (x : Int) &&& ((zi 1 <<< (zi (c : Int) &&& 31)) ^^^ zi (-1))
def andI (x c : Nat) : Int32 := zi (x : Int) &&& (zi 1 <<< (zi (c : Int) &&& 31))
theorem bt_tab : ∀ x : Nat, x < 64 → ∀ c : Nat, c < 6 → btI x c = bt x c := by decide +kernel
theorem clr_tab : ∀ x : Nat, x < 64 → ∀ c : Nat, c < 6 → clrI x c = zi (clr x c : Nat) := by decide +kernel
theorem and_tab : ∀ x : Nat, x < 64 → ∀ c : Nat, c < 6 → andI x c = zi (if bt x c then (2 ^ c : Nat) else 0 : Nat) := by decide +kernel
theorem clr_le {x c : Nat} : clr x c ≤ x := by
  unfold clr
  cases bt x c
  · exact Nat.le_refl _
  · exact Nat.sub_le _ _
theorem fW_eq (x w : Nat) : fW x w = isW x w := by
  have e0 : w / 18 / 18 % 18 / 3 = Nat.mod (Nat.div w 972) 6 := by show _ = w / 972 % 6; omega
  have e1 : w / 18 % 18 / 3 = Nat.mod (Nat.div w 54) 6 := by show _ = w / 54 % 6; omega
  unfold fW isW iw1
  simp only [e0, e1]
  cases h0 : bt x (Nat.mod (Nat.div w 972) 6)
  · simp
  · cases h1 : bt (clr x (Nat.mod (Nat.div w 972) 6)) (Nat.mod (Nat.div w 54) 6)
    · simp
    · simp
def th (x i : Nat) : Nat := ((List.range 6).filter (bt x)).getD i 0
def cntB (x c : Nat) : Nat := ((List.range c).filter (bt x)).length
def wy (x a s b t : Nat) : Nat := 324 * (3 * th x a + s) + 18 * (3 * th x b + t) + (3 * th x (3 - a - b) + (3 - s - t))
def wsub (x a s : Nat) : List Nat := (List.range 3).flatMap fun b => (List.range 3).flatMap fun t => if b ≠ a ∧ t ≠ s then [wy x a s b t] else []
def cwl (x : Nat) : List Nat := (List.range 3).flatMap fun a => (List.range 3).flatMap fun s => wsub x a s
def wl (x : Nat) : Nat → Nat → List Nat
  | 0, _ => []
  | i + 1, w => if isW x w then w :: wl x i (w + 1) else wl x i (w + 1)
def pop3 : List Nat := [7, 11, 13, 14, 19, 21, 22, 25, 26, 28, 35, 37, 38, 41, 42, 44, 49, 50, 52, 56]
theorem pop3_tab : ∀ x : Nat, x < 64 → rPop (x : Int) = 3 → x ∈ pop3 := by decide +kernel
def wf (x : Nat) (i : Nat) : Nat → List Nat := Nat.rec (fun _ => []) (fun _ ih w => cond (fW x w) (w :: ih (Nat.succ w)) (ih (Nat.succ w))) i
theorem wf_eq (x : Nat) : ∀ i w : Nat, wf x i w = wl x i w := by
  intro i
  induction i with
  | zero => intro w; rfl
  | succ i ih =>
    intro w
    show cond (fW x w) (w :: wf x i (w + 1)) (wf x i (w + 1)) = _
    rw [fW_eq, ih, wl]
    cases isW x w <;> rfl
theorem wf_tab : ∀ x ∈ pop3, wf x 5832 0 = cwl x := by decide +kernel
theorem wl_tab : ∀ x ∈ pop3, wl x 5832 0 = cwl x := fun x h => (wf_eq x 5832 0).symm.trans (wf_tab x h)
