/-! ways: more -/
theorem and_ex {x c : Nat} (hx : x < 64) (hc : c < 6) : ∃ v : Int, zi (x : Int) &&& (zi 1 <<< (zi (c : Int) &&& 31)) = zi v ∧ (0 ≤ v ∧ v ≤ 32) ∧ (v = 0 ↔ bt x c = false) := by
  have h := and_tab x hx c hc
  have h6 : c = 0 ∨ c = 1 ∨ c = 2 ∨ c = 3 ∨ c = 4 ∨ c = 5 := by omega
  cases hb : bt x c
  · rw [hb] at h
    exact ⟨0, h, by omega, by simp⟩
  · rw [hb] at h
    refine ⟨((2 ^ c : Nat) : Int), h, ?_, ?_⟩
    · rcases h6 with rfl | rfl | rfl | rfl | rfl | rfl <;> decide
    · rcases h6 with rfl | rfl | rfl | rfl | rfl | rfl <;> decide
def thOk (x c : Nat) : Bool := decide (cntB x c ≤ 3) && (if bt x c then decide (th x (cntB x c) = c ∧ cntB x (c + 1) = cntB x c + 1) else decide (cntB x (c + 1) = cntB x c)) && decide (cntB x 6 = 3)
theorem th_tab : ∀ x ∈ pop3, ∀ c : Nat, c < 6 → thOk x c = true := by decide +kernel
theorem th_t {x c : Nat} (hx : x ∈ pop3) (hc : c < 6) (hb : bt x c = true) : th x (cntB x c) = c ∧ cntB x (c + 1) = cntB x c + 1 := by
  have h := th_tab x hx c hc
  unfold thOk at h
  rw [hb] at h
  simp at h
  exact h.1.2
theorem th_f {x c : Nat} (hx : x ∈ pop3) (hc : c < 6) (hb : bt x c = false) : cntB x (c + 1) = cntB x c := by
  have h := th_tab x hx c hc
  unfold thOk at h
  rw [hb] at h
  simp at h
  exact h.1.2
theorem th_3 {x c : Nat} (hx : x ∈ pop3) (hc : c < 6) : cntB x c ≤ 3 ∧ cntB x 6 = 3 := by
  have h := th_tab x hx c hc
  unfold thOk at h
  rw [Bool.and_eq_true, Bool.and_eq_true] at h
  exact ⟨of_decide_eq_true h.1.1, of_decide_eq_true h.2⟩
theorem pop3_lt : ∀ x ∈ pop3, x < 64 := by decide
theorem th_lt6 : ∀ x ∈ pop3, ∀ i : Nat, i < 3 → th x i < 6 := by decide +kernel
def wyOk (x : Nat) : Bool := (List.range 3).all fun a => (List.range 3).all fun s => (List.range 3).all fun b => (List.range 3).all fun t => decide (b = a) || decide (t = s) || wok x (wy x a s b t)
theorem wy_tab : ∀ x ∈ pop3, wyOk x = true := by decide +kernel
theorem wy_mem {x a s b t : Nat} (hx : x ∈ pop3) (ha : a < 3) (hs : s < 3) (hb : b < 3) (ht : t < 3) (h : b ≠ a ∧ t ≠ s) : wok x (wy x a s b t) = true := by
  have h0 := wy_tab x hx
  unfold wyOk at h0
  have h1 := List.all_eq_true.mp h0 a (List.mem_range.mpr ha)
  have h2 := List.all_eq_true.mp h1 s (List.mem_range.mpr hs)
  have h3 := List.all_eq_true.mp h2 b (List.mem_range.mpr hb)
  have h4 := List.all_eq_true.mp h3 t (List.mem_range.mpr ht)
  simp only [Bool.or_eq_true, decide_eq_true_eq] at h4
  rcases h4 with (q | q) | q
  · exact absurd q h.1
  · exact absurd q h.2
  · exact q
theorem D_of {p q r : Nat} (hp : p < 18) (hq : q < 18) (hr : r < 18) : D0 (324 * p + 18 * q + r) = p ∧ D1 (324 * p + 18 * q + r) = q ∧ D2 (324 * p + 18 * q + r) = r := by
  unfold D0 D1 D2
  omega
theorem wy_D {x a s b t : Nat} (hx : x ∈ pop3) (ha : a < 3) (hs : s < 3) (hb : b < 3) (ht : t < 3) (hab : b ≠ a) (hst : t ≠ s) : D0 (wy x a s b t) = 3 * th x a + s ∧ D1 (wy x a s b t) = 3 * th x b + t ∧ D2 (wy x a s b t) = 3 * th x (3 - a - b) + (3 - s - t) := by
  have h0 := th_lt6 x hx a ha
  have h1 := th_lt6 x hx b hb
  have h2 := th_lt6 x hx (3 - a - b) (by omega)
  have h3 : 3 - s - t < 3 := by omega
  exact D_of (by omega) (by omega) (by omega)
theorem zw_car {ν : zMem} {b : Int} {F3 Fs Fb T : Int → Int} {g : Nat} (hg : ¬ g = 4) : zcar (zw ν b F3 Fs Fb) g T = zw (zcar ν g T) b F3 Fs Fb := by
  funext g' k i
  simp only [zcar, zw]
  by_cases h : g' = g
  · have h4 : ¬ g' = 4 := fun q => hg (h.symm.trans q)
    rw [if_pos h, if_neg (fun q => h4 q.1), if_neg (fun q => h4 q.1), if_neg (fun q => h4 q.1), if_neg (fun q => h4 q.1), if_pos h]
    congr 1
    funext k' i'
    exact (if_neg (fun q => hg q.1)).trans ((if_neg (fun q => hg q.1)).trans ((if_neg (fun q => hg q.1)).trans (if_neg (fun q => hg q.1))))
  · rw [if_neg h, if_neg h]
    rfl
theorem zag_zw {ν : zMem} {b : Int} {F3 Fs Fb Fs' Fb' S : Int → Int} (h1 : ∀ i : Int, 0 ≤ i → i < 3 → Fs i = Fs' i) (h2 : ∀ i : Int, 0 ≤ i → i < 3 → Fb i = Fb' i) : zag (zcar (zw ν b F3 Fs Fb) 0 S) (zcar (zw ν b F3 Fs' Fb') 0 S) := by
  have a1 : zag (zcar (zw ν b F3 Fs Fb) 0 S) (zcar (zw ν b F3 Fs' Fb) 0 S) := by
    have q := zag_row (μ := zcar (zw ν b F3 Fs Fb) 0 S) (F := Fs) (G := Fs') zs_steps (fun j j0 j1 => h1 j j0 (by simpa [zlenS] using j1))
    rw [zcs_4 (by decide), zcs_4 (by decide)] at q
    have e : ∀ G : Int → Int, zset (zw ν b F3 Fs Fb) 4 6 G = zw ν b F3 G Fb := by
      intro G
      funext g k
      simp only [zset]
      by_cases h : g = 4 ∧ k = 6
      · rw [if_pos h]
        obtain ⟨rfl, rfl⟩ := h
        rfl
      · rw [if_neg h]
        funext i
        simp only [zw]
        rw [if_neg h, if_neg h]
    rw [e, e] at q
    exact q
  have a2 : zag (zcar (zw ν b F3 Fs' Fb) 0 S) (zcar (zw ν b F3 Fs' Fb') 0 S) := by
    have q := zag_row (μ := zcar (zw ν b F3 Fs' Fb) 0 S) (F := Fb) (G := Fb') zs_best (fun j j0 j1 => h2 j j0 (by simpa [zlenS] using j1))
    rw [zcs_4 (by decide), zcs_4 (by decide), zws_f, zws_f] at q
    exact q
  exact a1.trans a2
theorem zw_init {μ : zMem} {v : Int} {G : Int → Int} : zup (zset μ 4 5 G) 4 4 4 v = zw μ v G (μ 4 6) (μ 4 7) := by
  have e : zset μ 4 5 G = zw μ (μ 4 4 4) G (μ 4 6) (μ 4 7) := by
    have q := zws_3 (ν := μ) (b := μ 4 4 4) (F3 := μ 4 5) (Fs := μ 4 6) (Fb := μ 4 7) (G := G)
    rw [zw_self] at q
    exact q
  rw [e, zwu_b]
theorem zcw_b {ν : zMem} {b : Int} {F3 Fs Fb S : Int → Int} {g : Nat} (hg : ¬ 4 = g) : zcar (zw ν b F3 Fs Fb) g S 4 4 4 = b := by rw [zc_ne hg]; rfl
theorem zcw_f {ν : zMem} {b : Int} {F3 Fs Fb S : Int → Int} {g : Nat} (hg : ¬ 4 = g) : zcar (zw ν b F3 Fs Fb) g S 4 7 = Fb := by rw [zc_ne hg]; rfl
theorem fl3 {α : Type} {f : Nat → List Nat} {g : α → Nat → α} {q : α} : ((List.range 3).flatMap f).foldl g q = (f 2).foldl g ((f 1).foldl g ((f 0).foldl g q)) := by
  rw [List.foldl_flatMap]
  rfl
theorem thI_nat {x a : Nat} : thI x (a : Int) = (th x a : Int) := by
  unfold thI
  rw [Int.toNat_natCast]
theorem cdg_w {w : Nat} {d0 d1 d2 : Nat} {Fs : Int → Int} (h0 : D0 w = d0) (h1 : D1 w = d1) (h2 : D2 w = d2) : ∀ i : Int, 0 ≤ i → i < 3 → zfu (zfu (zfu Fs 0 (10 * ((d0 / 3 : Nat) : Int) + ((d0 % 3 : Nat) : Int))) 1 (10 * ((d1 / 3 : Nat) : Int) + ((d1 % 3 : Nat) : Int))) 2 (10 * ((d2 / 3 : Nat) : Int) + ((d2 % 3 : Nat) : Int)) i = cdg w i := by
  intro i i0 i1
  subst h0 h1 h2
  have h : i = 0 ∨ i = 1 ∨ i = 2 := by omega
  rcases h with rfl | rfl | rfl
  · rw [zfu_ne (by omega), zfu_ne (by omega), zfu_at]
    unfold cdg dgs
    rw [if_pos rfl]
    omega
  · rw [zfu_ne (by omega), zfu_at]
    unfold cdg dgs
    rw [if_neg (by omega), if_pos rfl]
    omega
  · rw [zfu_at]
    unfold cdg dgs
    rw [if_neg (by omega), if_neg (by omega)]
    omega
