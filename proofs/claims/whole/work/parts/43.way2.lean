/-! ways: what is computed, in what memory -/
def D0 (w : Nat) : Nat := w / 18 / 18 % 18
def D1 (w : Nat) : Nat := w / 18 % 18
def D2 (w : Nat) : Nat := w % 18
def dgs (w : Nat) : Int → Int := fun i => if i = 0 then (D0 w : Int) else if i = 1 then (D1 w : Int) else (D2 w : Int)
def cdg (w : Nat) : Int → Int := fun i => 10 * (dgs w i / 3) + dgs w i % 3
def thI (x : Nat) : Int → Int := fun i => (th x i.toNat : Int)
def w1 (S : Int → Int) (c0 s0 : Int) : Int → Int := rClick S c0 s0
def w2 (S : Int → Int) (c0 s0 c1 s1 : Int) : Int → Int := rClick (w1 S c0 s0) c1 s1
def w3 (S : Int → Int) (c0 s0 c1 s1 c2 s2 : Int) : Int → Int := rClick (w2 S c0 s0 c1 s1) c2 s2
def t3 (S : Int → Int) (c0 s0 c1 s1 c2 s2 : Int) : Int := rSec S c0 s0 + rSec (w1 S c0 s0) c1 s1 + rSec (w2 S c0 s0 c1 s1) c2 s2
def wsec (S : Int → Int) (w : Nat) : Int := t3 S (D0 w / 3 : Nat) (D0 w % 3 : Nat) (D1 w / 3 : Nat) (D1 w % 3 : Nat) (D2 w / 3 : Nat) (D2 w % 3 : Nat)
def wfin (S : Int → Int) (w : Nat) : Int → Int := w3 S (D0 w / 3 : Nat) (D0 w % 3 : Nat) (D1 w / 3 : Nat) (D1 w % 3 : Nat) (D2 w / 3 : Nat) (D2 w % 3 : Nat)
theorem rAt_m1 {S : Int → Int} {y : Int} : rAt S y = -1 ↔ ∀ k : Int, 0 ≤ k → k < 3 → ¬ itS S k 4 = y := by
  constructor
  · intro h k h0 h1
    exact rAt_no (by omega) ⟨h0, h1⟩
  · intro h
    have a := h 0 (by omega) (by omega)
    have b := h 1 (by omega) (by omega)
    have c := h 2 (by omega) (by omega)
    unfold rAt
    rw [if_neg c, if_neg b, if_neg a]
theorem rClick_sit {S : Int → Int} {x k k' : Int} (hx : 0 ≤ x) (hk : 0 ≤ k ∧ k < 3) (hk' : 0 ≤ k' ∧ k' < 3) : itS (rClick S x k) k' 4 = if k' = k then x else itS S k' 4 := by
  have e : ∀ F : Int → Int, itS (zfu (zfu (zfu (zfu S 2 (F 0)) (19 + 6 * x + 5) (F 1)) (4 + 5 * k + 3) (F 2)) (4 + 5 * k + 4) x) k' 4 = if k' = k then x else itS S k' 4 := by
    intro F
    by_cases h : k' = k
    · subst h
      rw [if_pos rfl]
      exact zfu_at
    · rw [if_neg h, itS_ne (by omega), itS_ne (by omega), itS_ne (by omega), itS_ne (by omega)]
  unfold rClick
  simp only
  split
  · rw [itS_ne (by omega)]
    exact e (fun i => if i = 0 then _ else if i = 1 then _ else _)
  · exact e (fun i => if i = 0 then _ else if i = 1 then _ else _)
theorem way_ok {N : Int} {S : Int → Int} {c0 s0 c1 s1 c2 s2 : Int} (I : rInv N S) (hf : ∀ k : Int, 0 ≤ k → k < 3 → itS S k 4 = -1) (hc : (0 ≤ c0 ∧ c0 < S 0) ∧ (0 ≤ c1 ∧ c1 < S 0) ∧ (0 ≤ c2 ∧ c2 < S 0)) (hs : (0 ≤ s0 ∧ s0 < 3) ∧ (0 ≤ s1 ∧ s1 < 3) ∧ (0 ≤ s2 ∧ s2 < 3)) (dc : ¬ c0 = c1 ∧ ¬ c0 = c2 ∧ ¬ c1 = c2) (ds : ¬ s0 = s1 ∧ ¬ s0 = s2 ∧ ¬ s1 = s2) :
    (rAt S c0 = -1 ∧ itS S s0 4 = -1) ∧ (rInv N (w1 S c0 s0) ∧ w1 S c0 s0 0 = S 0 ∧ rAt (w1 S c0 s0) c1 = -1 ∧ itS (w1 S c0 s0) s1 4 = -1) ∧ (rInv N (w2 S c0 s0 c1 s1) ∧ w2 S c0 s0 c1 s1 0 = S 0 ∧ rAt (w2 S c0 s0 c1 s1) c2 = -1 ∧ itS (w2 S c0 s0 c1 s1) s2 4 = -1) ∧ w3 S c0 s0 c1 s1 c2 s2 0 = S 0 := by
  have h0 := I.1
  have a0 : ∀ y : Int, 0 ≤ y → rAt S y = -1 := fun y hy => rAt_m1.mpr (fun k k0 k1 => by rw [hf k k0 k1]; omega)
  have I1 : rInv N (w1 S c0 s0) := rClick_inv I hc.1 hs.1 (a0 c0 hc.1.1)
  have z1 : w1 S c0 s0 0 = S 0 := rClick_0 hc.1.1 hs.1
  have t1 : ∀ k : Int, 0 ≤ k → k < 3 → itS (w1 S c0 s0) k 4 = if k = s0 then c0 else -1 := fun k k0 k1 => by
    have := rClick_sit (S := S) (x := c0) (k := s0) (k' := k) hc.1.1 hs.1 ⟨k0, k1⟩
    rw [hf k k0 k1] at this
    exact this
  have a1 : ∀ y : Int, 0 ≤ y → ¬ y = c0 → rAt (w1 S c0 s0) y = -1 := fun y hy hn => rAt_m1.mpr (fun k k0 k1 => by rw [t1 k k0 k1]; split <;> omega)
  have b1 : itS (w1 S c0 s0) s1 4 = -1 := by rw [t1 s1 hs.2.1.1 hs.2.1.2]; exact if_neg (by omega)
  have I2 : rInv N (w2 S c0 s0 c1 s1) := rClick_inv I1 (by rw [z1]; exact hc.2.1) hs.2.1 (a1 c1 hc.2.1.1 (by omega))
  have z2 : w2 S c0 s0 c1 s1 0 = S 0 := (rClick_0 hc.2.1.1 hs.2.1).trans z1
  have t2 : ∀ k : Int, 0 ≤ k → k < 3 → itS (w2 S c0 s0 c1 s1) k 4 = if k = s1 then c1 else if k = s0 then c0 else -1 := fun k k0 k1 => by
    have := rClick_sit (S := w1 S c0 s0) (x := c1) (k := s1) (k' := k) hc.2.1.1 hs.2.1 ⟨k0, k1⟩
    rw [t1 k k0 k1] at this
    exact this
  have a2 : rAt (w2 S c0 s0 c1 s1) c2 = -1 := rAt_m1.mpr (fun k k0 k1 => by rw [t2 k k0 k1]; (repeat' split) <;> omega)
  have b2 : itS (w2 S c0 s0 c1 s1) s2 4 = -1 := by rw [t2 s2 hs.2.2.1 hs.2.2.2, if_neg (by omega)]; exact if_neg (by omega)
  have z3 : w3 S c0 s0 c1 s1 c2 s2 0 = S 0 := (rClick_0 hc.2.2.1 hs.2.2).trans z2
  exact ⟨⟨a0 c0 hc.1.1, hf s0 hs.1.1 hs.1.2⟩, ⟨I1, z1, a1 c1 hc.2.1.1 (by omega), b1⟩, ⟨I2, z2, a2, b2⟩, z3⟩
theorem rSit_none {N : Int} {S : Int → Int} (I : rInv N S) (h : rSit S = 0) : ∀ k : Int, 0 ≤ k → k < 3 → itS S k 4 = -1 := by
  intro k k0 k1
  have h0 := I.1
  have hs := I.2.2.2.2.1 k k0 k1
  by_cases hn : itS S k 4 = -1
  · exact hn
  · exfalso
    have hb := rSit_bit I (x := itS S k 4) (by omega)
    rw [h] at hb
    have ha : ¬ rAt S (itS S k 4) < 0 := fun q => rAt_no q ⟨k0, k1⟩ rfl
    have hz := hb.mpr (by omega)
    have ht : ∀ y : Nat, y < 6 → ¬ ((zi 0) >>> (zi (y : Int) &&& 31)) &&& zi 1 = zi 1 := by decide +kernel
    have := ht (itS S k 4).toNat (by omega)
    rw [Int.toNat_of_nonneg (by omega)] at this
    exact this hz
/-- what holds of a way of x -/
def wok (x w : Nat) : Bool := decide (w < 5832 ∧ ¬ D0 w / 3 = D1 w / 3 ∧ ¬ D0 w / 3 = D2 w / 3 ∧ ¬ D1 w / 3 = D2 w / 3 ∧ ¬ D0 w % 3 = D1 w % 3 ∧ ¬ D0 w % 3 = D2 w % 3 ∧ ¬ D1 w % 3 = D2 w % 3) && (List.range 7).all (fun n => decide (2 ^ n ≤ x ∨ (D0 w / 3 < n ∧ D1 w / 3 < n ∧ D2 w / 3 < n)))
theorem wok_tab : ∀ x ∈ pop3, ∀ w ∈ cwl x, wok x w = true := by decide +kernel
theorem wl_mem {x : Nat} : ∀ {i w v : Nat}, isW x v = true → w ≤ v → v < w + i → v ∈ wl x i w := by
  intro i
  induction i with
  | zero => intro w v _ h1 h2; omega
  | succ i ih =>
    intro w v hv h1 h2
    rw [wl]
    by_cases h : w = v
    · subst h
      rw [if_pos hv]
      exact List.mem_cons_self
    · have := ih (w := w + 1) hv (by omega) (by omega)
      split
      · exact List.mem_cons_of_mem _ this
      · exact this
theorem wok_of {x w : Nat} (hx : x ∈ pop3) (hw : isW x w = true) (h : w < 5832) : wok x w = true := by
  have := wl_mem (x := x) (i := 5832) (w := 0) hw (by omega) (by omega)
  rw [wl_tab x hx] at this
  exact wok_tab x hx w this
theorem D_rg (w : Nat) : D0 w < 18 ∧ D1 w < 18 ∧ D2 w < 18 := by
  unfold D0 D1 D2
  omega
theorem wok_all {N : Int} {S : Int → Int} {x w : Nat} (I : rInv N S) (hf : ∀ k : Int, 0 ≤ k → k < 3 → itS S k 4 = -1) (hx : (x : Int) ≤ rP2 (S 0) - 1) (h : wok x w = true) :
    ((0 ≤ ((D0 w / 3 : Nat) : Int) ∧ ((D0 w / 3 : Nat) : Int) < S 0) ∧ (0 ≤ ((D1 w / 3 : Nat) : Int) ∧ ((D1 w / 3 : Nat) : Int) < S 0) ∧ (0 ≤ ((D2 w / 3 : Nat) : Int) ∧ ((D2 w / 3 : Nat) : Int) < S 0)) ∧ (¬ ((D0 w / 3 : Nat) : Int) = (D1 w / 3 : Nat) ∧ ¬ ((D0 w / 3 : Nat) : Int) = (D2 w / 3 : Nat) ∧ ¬ ((D1 w / 3 : Nat) : Int) = (D2 w / 3 : Nat)) ∧ (¬ ((D0 w % 3 : Nat) : Int) = (D1 w % 3 : Nat) ∧ ¬ ((D0 w % 3 : Nat) : Int) = (D2 w % 3 : Nat) ∧ ¬ ((D1 w % 3 : Nat) : Int) = (D2 w % 3 : Nat)) := by
  have h0 := I.1
  unfold wok at h
  rw [Bool.and_eq_true, decide_eq_true_eq, List.all_eq_true] at h
  obtain ⟨⟨_, a, b, c, d, e, f⟩, g⟩ := h
  have g1 := g (S 0).toNat (List.mem_range.mpr (by omega))
  rw [decide_eq_true_eq] at g1
  have hp : ¬ 2 ^ (S 0).toNat ≤ x := by
    have h7 : S 0 = 0 ∨ S 0 = 1 ∨ S 0 = 2 ∨ S 0 = 3 ∨ S 0 = 4 ∨ S 0 = 5 ∨ S 0 = 6 := by omega
    rcases h7 with q | q | q | q | q | q | q <;> rw [q] at hx ⊢ <;> simp [rP2] at hx ⊢ <;> omega
  have g2 := g1.resolve_left hp
  refine ⟨⟨⟨by omega, by omega⟩, ⟨by omega, by omega⟩, ⟨by omega, by omega⟩⟩, ⟨?_, ?_, ?_⟩, ⟨?_, ?_, ?_⟩⟩ <;> omega
/-- a way tried: what the reference keeps -/
def rSt (S : Int → Int) (q : Int × (Int → Int)) (w : Nat) : Int × (Int → Int) := if q.1 < 0 ∨ wsec S w < q.1 then (wsec S w, dgs w) else q
/-- and the class -/
def cSt (μ : zMem) (S : Int → Int) (q : zMem × Int × (Int → Int) × (Int → Int)) (w : Nat) : zMem × Int × (Int → Int) × (Int → Int) := (zcar μ 3 (wfin S w), if q.2.1 = -1 ∨ wsec S w < q.2.1 then wsec S w else q.2.1, cdg w, if q.2.1 = -1 ∨ wsec S w < q.2.1 then cdg w else q.2.2.2)
def fRel (q : Int × (Int → Int)) (b : Int) (Fb : Int → Int) : Prop := q.1 = b ∧ -1 ≤ b ∧ b ≤ 438 ∧ (0 ≤ b → ∃ w : Nat, q.2 = dgs w ∧ Fb = cdg w)
theorem fold_rel {μ : zMem} {S : Int → Int} : ∀ (L : List Nat), (∀ w ∈ L, 0 ≤ wsec S w ∧ wsec S w ≤ 438) → ∀ (q : Int × (Int → Int)) (c : zMem × Int × (Int → Int) × (Int → Int)), fRel q c.2.1 c.2.2.2 → fRel (L.foldl (rSt S) q) (L.foldl (cSt μ S) c).2.1 (L.foldl (cSt μ S) c).2.2.2 ∧ ((0 ≤ c.2.1 ∨ ¬ L = []) → 0 ≤ (L.foldl (cSt μ S) c).2.1) := by
  intro L
  induction L with
  | nil => intro _ q c h; exact ⟨h, fun g => g.resolve_right (fun k => k rfl)⟩
  | cons w L ih =>
    intro hL q c h
    have hw := hL w List.mem_cons_self
    obtain ⟨e, h1, h2, h3⟩ := h
    have hr : fRel (rSt S q w) (cSt μ S c w).2.1 (cSt μ S c w).2.2.2 ∧ 0 ≤ (cSt μ S c w).2.1 := by
      by_cases hb : c.2.1 = -1 ∨ wsec S w < c.2.1
      · have e1 : rSt S q w = (wsec S w, dgs w) := by unfold rSt; exact if_pos (by omega)
        have e2 : (cSt μ S c w).2.1 = wsec S w := by unfold cSt; exact if_pos hb
        have e3 : (cSt μ S c w).2.2.2 = cdg w := by unfold cSt; exact if_pos hb
        rw [e1, e2, e3]
        exact ⟨⟨rfl, by omega, by omega, fun _ => ⟨w, rfl, rfl⟩⟩, hw.1⟩
      · have e1 : rSt S q w = q := by unfold rSt; exact if_neg (by omega)
        have e2 : (cSt μ S c w).2.1 = c.2.1 := by unfold cSt; exact if_neg hb
        have e3 : (cSt μ S c w).2.2.2 = c.2.2.2 := by unfold cSt; exact if_neg hb
        rw [e1, e2, e3]
        exact ⟨⟨e, h1, h2, h3⟩, by omega⟩
    have := ih (fun v hv => hL v (List.mem_cons_of_mem _ hv)) (rSt S q w) (cSt μ S c w) hr.1
    exact ⟨this.1, fun _ => this.2 (Or.inl hr.2)⟩
theorem fold_out {μ : zMem} {S : Int → Int} : ∀ (L : List Nat) (c : zMem × Int × (Int → Int) × (Int → Int)), (∀ g : Nat, ¬ g = 3 → c.1 g = μ g) → ∀ g : Nat, ¬ g = 3 → (L.foldl (cSt μ S) c).1 g = μ g := by
  intro L
  induction L with
  | nil => intro c h; exact h
  | cons w L ih => intro c h; exact ih (cSt μ S c w) (fun g hg => zc_ne hg)
/-- the reference's fold, way by way -/
def rFW (x : Nat) (S : Int → Int) : Nat → Nat → Int × (Int → Int) → Int × (Int → Int)
  | 0, _, q => q
  | i + 1, w, q => rFW x S i (w + 1) (if isW x w then rSt S q w else q)
theorem rFW_eq {x : Nat} {S : Int → Int} : ∀ {i w : Nat} {q : Int × (Int → Int)}, rFW x S i w q = (wl x i w).foldl (rSt S) q := by
  intro i
  induction i with
  | zero => intro w q; rfl
  | succ i ih =>
    intro w q
    rw [rFW, wl, ih]
    by_cases h : isW x w = true
    · rw [if_pos h, if_pos h]; rfl
    · rw [if_neg h, if_neg h]
/-! memories -/
def zw (ν : zMem) (b : Int) (F3 Fs Fb : Int → Int) : zMem := fun g k i => if g = 4 ∧ k = 4 ∧ i = 4 then b else if g = 4 ∧ k = 5 then F3 i else if g = 4 ∧ k = 6 then Fs i else if g = 4 ∧ k = 7 then Fb i else ν g k i
def zr (ν : zMem) (b : Int) (Fs Fb A T : Int → Int) : zMem := fun g k i => if g = 5 ∧ k = 0 ∧ i = 8 then b else if g = 5 ∧ k = 6 then Fs i else if g = 5 ∧ k = 7 then Fb i else if g = 5 ∧ k = 4 then A i else if g = 5 ∧ k = 1 then T i else ν g k i
theorem zw_b {ν : zMem} {b : Int} {F3 Fs Fb : Int → Int} : zw ν b F3 Fs Fb 4 4 4 = b := rfl
theorem zw_3 {ν : zMem} {b : Int} {F3 Fs Fb : Int → Int} : zw ν b F3 Fs Fb 4 5 = F3 := rfl
theorem zw_s {ν : zMem} {b : Int} {F3 Fs Fb : Int → Int} : zw ν b F3 Fs Fb 4 6 = Fs := rfl
theorem zw_f {ν : zMem} {b : Int} {F3 Fs Fb : Int → Int} : zw ν b F3 Fs Fb 4 7 = Fb := rfl
theorem zr_b {ν : zMem} {b : Int} {Fs Fb A T : Int → Int} : zr ν b Fs Fb A T 5 0 8 = b := rfl
theorem zr_s {ν : zMem} {b : Int} {Fs Fb A T : Int → Int} : zr ν b Fs Fb A T 5 6 = Fs := rfl
theorem zr_f {ν : zMem} {b : Int} {Fs Fb A T : Int → Int} : zr ν b Fs Fb A T 5 7 = Fb := rfl
theorem zr_a {ν : zMem} {b : Int} {Fs Fb A T : Int → Int} : zr ν b Fs Fb A T 5 4 = A := rfl
theorem zr_t {ν : zMem} {b : Int} {Fs Fb A T : Int → Int} : zr ν b Fs Fb A T 5 1 = T := rfl
theorem zwu_b {ν : zMem} {b v : Int} {F3 Fs Fb : Int → Int} : zup (zw ν b F3 Fs Fb) 4 4 4 v = zw ν v F3 Fs Fb := by
  funext g k i
  simp only [zup, zw]
  split <;> rfl
theorem zwu_s {ν : zMem} {b v j : Int} {F3 Fs Fb : Int → Int} : zup (zw ν b F3 Fs Fb) 4 6 j v = zw ν b F3 (zfu Fs j v) Fb := by
  funext g k i
  simp only [zup, zw, zfu]
  by_cases h : g = 4 ∧ k = 6
  · by_cases hj : i = j
    · rw [if_pos ⟨h.1, h.2, hj⟩, if_neg (by omega), if_neg (by omega), if_pos h, if_pos hj]
    · rw [if_neg (by omega), if_neg (by omega), if_neg (by omega), if_pos h, if_neg (by omega), if_neg (by omega), if_pos h, if_neg hj]
  · rw [if_neg (by omega), if_neg h, if_neg h]
theorem zws_f {ν : zMem} {b : Int} {F3 Fs Fb G : Int → Int} : zset (zw ν b F3 Fs Fb) 4 7 G = zw ν b F3 Fs G := by
  funext g k
  simp only [zset]
  by_cases h : g = 4 ∧ k = 7
  · rw [if_pos h]
    obtain ⟨rfl, rfl⟩ := h
    rfl
  · rw [if_neg h]
    funext i
    simp only [zw]
    rw [if_neg h, if_neg h]
theorem zws_3 {ν : zMem} {b : Int} {F3 Fs Fb G : Int → Int} : zset (zw ν b F3 Fs Fb) 4 5 G = zw ν b G Fs Fb := by
  funext g k
  simp only [zset]
  by_cases h : g = 4 ∧ k = 5
  · rw [if_pos h]
    obtain ⟨rfl, rfl⟩ := h
    rfl
  · rw [if_neg h]
    funext i
    simp only [zw]
    rw [if_neg h, if_neg h]
theorem zw_self {ν : zMem} : zw ν (ν 4 4 4) (ν 4 5) (ν 4 6) (ν 4 7) = ν := by
  funext g k i
  simp only [zw]
  by_cases h1 : g = 4 ∧ k = 4 ∧ i = 4
  · rw [if_pos h1, h1.1, h1.2.1, h1.2.2]
  · rw [if_neg h1]
    by_cases h2 : g = 4 ∧ k = 5
    · rw [if_pos h2, h2.1, h2.2]
    · rw [if_neg h2]
      by_cases h3 : g = 4 ∧ k = 6
      · rw [if_pos h3, h3.1, h3.2]
      · rw [if_neg h3]
        by_cases h4 : g = 4 ∧ k = 7
        · rw [if_pos h4, h4.1, h4.2]
        · rw [if_neg h4]
theorem zr_self {ν : zMem} : zr ν (ν 5 0 8) (ν 5 6) (ν 5 7) (ν 5 4) (ν 5 1) = ν := by
  funext g k i
  simp only [zr]
  by_cases h1 : g = 5 ∧ k = 0 ∧ i = 8
  · rw [if_pos h1, h1.1, h1.2.1, h1.2.2]
  · rw [if_neg h1]
    by_cases h2 : g = 5 ∧ k = 6
    · rw [if_pos h2, h2.1, h2.2]
    · rw [if_neg h2]
      by_cases h3 : g = 5 ∧ k = 7
      · rw [if_pos h3, h3.1, h3.2]
      · rw [if_neg h3]
        by_cases h4 : g = 5 ∧ k = 4
        · rw [if_pos h4, h4.1, h4.2]
        · rw [if_neg h4]
          by_cases h5 : g = 5 ∧ k = 1
          · rw [if_pos h5, h5.1, h5.2]
          · rw [if_neg h5]
theorem zru_b {ν : zMem} {b v : Int} {Fs Fb A T : Int → Int} : zup (zr ν b Fs Fb A T) 5 0 8 v = zr ν v Fs Fb A T := by
  funext g k i
  simp only [zup, zr]
  split <;> rfl
theorem zru_f {ν : zMem} {b v j : Int} {Fs Fb A T : Int → Int} : zup (zr ν b Fs Fb A T) 5 7 j v = zr ν b Fs (zfu Fb j v) A T := by
  funext g k i
  simp only [zup, zr, zfu]
  by_cases h : g = 5 ∧ k = 7
  · by_cases hj : i = j
    · rw [if_pos ⟨h.1, h.2, hj⟩, if_neg (by omega), if_neg (by omega), if_pos h, if_pos hj]
    · rw [if_neg (by omega), if_neg (by omega), if_neg (by omega), if_pos h, if_neg (by omega), if_neg (by omega), if_pos h, if_neg hj]
  · rw [if_neg (by omega), if_neg h, if_neg h]
theorem zrs_s {ν : zMem} {b : Int} {Fs Fb A T G : Int → Int} : zset (zr ν b Fs Fb A T) 5 6 G = zr ν b G Fb A T := by
  funext g k
  simp only [zset]
  by_cases h : g = 5 ∧ k = 6
  · rw [if_pos h]
    obtain ⟨rfl, rfl⟩ := h
    rfl
  · rw [if_neg h]
    funext i
    simp only [zr]
    rw [if_neg h, if_neg h]
theorem zrs_a {ν : zMem} {b : Int} {Fs Fb A T G : Int → Int} : zset (zr ν b Fs Fb A T) 5 4 G = zr ν b Fs Fb G T := by
  funext g k
  simp only [zset]
  by_cases h : g = 5 ∧ k = 4
  · rw [if_pos h]
    obtain ⟨rfl, rfl⟩ := h
    rfl
  · rw [if_neg h]
    funext i
    simp only [zr]
    rw [if_neg h, if_neg h]
theorem zrs_t {ν : zMem} {b : Int} {Fs Fb A T G : Int → Int} : zset (zr ν b Fs Fb A T) 5 1 G = zr ν b Fs Fb A G := by
  funext g k
  simp only [zset]
  by_cases h : g = 5 ∧ k = 1
  · rw [if_pos h]
    obtain ⟨rfl, rfl⟩ := h
    rfl
  · rw [if_neg h]
    funext i
    simp only [zr]
    rw [if_neg h, if_neg h]
