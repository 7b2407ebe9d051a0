/-! THE WORLD: one memory of whole numbers, cells by (segment, number): 0-3 the four cars, 4 the rest of the class, 5 the reference -/
def zi (z : Int) : Int32 := Int32.ofInt z
def zl (z : Int) : Int64 := Int64.ofInt z
abbrev zMem : Type := Nat → Int → Int → Int
def zup (μ : zMem) (g : Nat) (k i v : Int) : zMem := fun g' k' i' => if g' = g ∧ k' = k ∧ i' = i then v else μ g' k' i'
/-- the shape of a cell: an object of a class with its fields (none: a number; some: the cell it names), a row of ints, of longs, of cells that follow each other -/
abbrev zShp : Type := (Nat × List (Option (Nat × Int))) ⊕ (Nat ⊕ (Nat ⊕ (Nat × Nat × Nat × Int)))
def zshCar (g : Nat) (k : Int) : Option zShp :=
  if k = 0 then some (.inl (0, [some (g, 1), some (g, 2), none, none, none, none]))
  else if k = 1 then some (.inr (.inr (.inr (0, 3, g, 3))))
  else if k = 2 then some (.inr (.inr (.inr (1, 6, g, 6))))
  else if 3 ≤ k ∧ k < 6 then some (.inl (3, [none, none, none, none, none]))
  else if 6 ≤ k ∧ k < 12 then some (.inl (2, [none, none, none, none, none, none, none]))
  else none
def zshCls (k : Int) : Option zShp :=
  if k = 0 then some (.inl (7, [some (0, 0), some (1, 0), some (2, 0), some (4, 1), some (4, 4), some (4, 8), some (4, 17), none]))
  else if k = 1 then some (.inl (1, [some (4, 2), none]))
  else if k = 2 then some (.inl (5, [some (4, 3), none, none, none, none, none]))
  else if k = 3 then some (.inr (.inl 120))
  else if k = 4 then some (.inl (6, [some (3, 0), some (4, 5), some (4, 6), some (4, 7), none]))
  else if 5 ≤ k ∧ k < 8 then some (.inr (.inl 3))
  else if k = 8 then some (.inr (.inr (.inr (2, 4, 4, 9))))
  else if 9 ≤ k ∧ k < 13 then some (.inl (4, [some (4, k + 4), none, none]))
  else if 13 ≤ k ∧ k < 17 then some (.inr (.inr (.inl 40)))
  else if k = 17 then some (.inr (.inl 7))
  else none
def zshRef (k : Int) : Option zShp :=
  if k = 0 then some (.inl (8, [some (5, 1), some (5, 2), some (5, 3), some (5, 4), some (5, 5), none, some (5, 6), some (5, 7), none, some (5, 8), none, none, none, none, none, some (5, 9), some (5, 10), some (5, 11), some (5, 12)]))
  else if 1 ≤ k ∧ k < 5 then some (.inr (.inl 55))
  else if k = 5 then some (.inr (.inl 7))
  else if 6 ≤ k ∧ k < 8 then some (.inr (.inl 3))
  else if k = 8 then some (.inr (.inl 120))
  else if 9 ≤ k ∧ k < 11 then some (.inr (.inl 4))
  else if k = 11 then some (.inr (.inr (.inl 160)))
  else if k = 12 then some (.inr (.inr (.inl 40)))
  else none
def zsh (g : Nat) (k : Int) : Option zShp := if g < 4 then zshCar g k else if g = 4 then zshCls k else if g = 5 then zshRef k else none
def zseg (g n : Nat) : List (Nat × Int) := (List.range n).map (fun (j : Nat) => (g, (j : Int)))
/-- all cells -/
def zcL : List (Nat × Int) := zseg 0 12 ++ (zseg 1 12 ++ (zseg 2 12 ++ (zseg 3 12 ++ (zseg 4 18 ++ zseg 5 13))))
theorem zseg_mem {g n : Nat} {k : Int} (h0 : 0 ≤ k) (h1 : k < n) : (g, k) ∈ zseg g n := by
  refine List.mem_map.mpr ⟨k.toNat, List.mem_range.mpr (by omega), ?_⟩
  rw [Int.toNat_of_nonneg h0]
theorem zcL_mem {g : Nat} {k : Int} {x : zShp} (h : zsh g k = some x) : (g, k) ∈ zcL := by
  unfold zsh at h
  split at h
  · rename_i hg
    have hk : 0 ≤ k ∧ k < 12 := by
      unfold zshCar at h
      repeat (first | (split at h; · omega) | cases h)
    unfold zcL
    have h4 : g = 0 ∨ g = 1 ∨ g = 2 ∨ g = 3 := by omega
    rcases h4 with rfl | rfl | rfl | rfl
    · exact List.mem_append_left _ (zseg_mem hk.1 hk.2)
    · exact List.mem_append_right _ (List.mem_append_left _ (zseg_mem hk.1 hk.2))
    · exact List.mem_append_right _ (List.mem_append_right _ (List.mem_append_left _ (zseg_mem hk.1 hk.2)))
    · exact List.mem_append_right _ (List.mem_append_right _ (List.mem_append_right _ (List.mem_append_left _ (zseg_mem hk.1 hk.2))))
  · split at h
    · rename_i hg
      subst hg
      have hk : 0 ≤ k ∧ k < 18 := by
        unfold zshCls at h
        repeat (first | (split at h; · omega) | cases h)
      exact List.mem_append_right _ (List.mem_append_right _ (List.mem_append_right _ (List.mem_append_right _ (List.mem_append_left _ (zseg_mem hk.1 hk.2)))))
    · split at h
      · rename_i hg
        subst hg
        have hk : 0 ≤ k ∧ k < 13 := by
          unfold zshRef at h
          repeat (first | (split at h; · omega) | cases h)
        exact List.mem_append_right _ (List.mem_append_right _ (List.mem_append_right _ (List.mem_append_right _ (List.mem_append_right _ (zseg_mem hk.1 hk.2)))))
      · cases h
theorem zcL_nd : zcL.Nodup := by decide +kernel
theorem zcL_some : ∀ q ∈ zcL, (zsh q.1 q.2).isSome = true := by decide +kernel
/-- the context of a world: the classes' numbers and slots, the array classes, the cells' addresses, the constants' addresses -/
abbrev zC : Type := va_G × (Nat → ClassId) × (Nat → Int → Nat) × Nat × (Nat → Nat) × (Nat → Nat)
abbrev zD (Γ : zC) : va_G := Γ.1
abbrev zY (Γ : zC) : Nat → ClassId := Γ.2.1
abbrev za (Γ : zC) : Nat → Int → Nat := Γ.2.2.1
abbrev zt (Γ : zC) : Nat := Γ.2.2.2.1
abbrev zaK (Γ : zC) : Nat → Nat := Γ.2.2.2.2.1
abbrev zaV (Γ : zC) : Nat → Nat := Γ.2.2.2.2.2
def zobj (Γ : zC) (f : Int → Int) : Int → List (Option (Nat × Int)) → List Value
  | _, [] => []
  | i, none :: r => .int (zi (f i)) :: zobj Γ f (i + 1) r
  | i, some q :: r => .ref (za Γ q.1 q.2) :: zobj Γ f (i + 1) r
def zcell (Γ : zC) (f : Int → Int) (x : zShp) : va_E := match x with
  | .inl q => .inr (q.1, zobj Γ f 0 q.2)
  | .inr (.inl n) => .inl (zY Γ 0, n, .inl (fun j : Nat => zi (f (j : Int))))
  | .inr (.inr (.inl n)) => .inl (zY Γ 1, n, .inr (.inl (fun j : Nat => zl (f (j : Int)))))
  | .inr (.inr (.inr q)) => .inl (zY Γ (2 + q.1), q.2.1, .inr (.inr (.inr (.inr (fun j : Nat => some (za Γ q.2.2.1 (q.2.2.2 + (j : Int))))))))
def zent (Γ : zC) (μ : zMem) (q : Nat × Int) : Nat × va_E := (za Γ q.1 q.2, zcell Γ (μ q.1 q.2) ((zsh q.1 q.2).getD (.inr (.inl 0))))
def zws (Γ : zC) (μ : zMem) : va_W := zcL.map (zent Γ μ)
theorem zws_at {Γ : zC} {g : Nat} {k : Int} {x : zShp} (h : zsh g k = some x) : ∃ q0 : Nat, zcL[q0]? = some (g, k) ∧ ∀ μ, (zws Γ μ)[q0]? = some (za Γ g k, zcell Γ (μ g k) x) := by
  obtain ⟨q0, hq⟩ := List.getElem?_of_mem (zcL_mem h)
  refine ⟨q0, hq, fun μ => ?_⟩
  simp [zws, hq, zent, h]
theorem zws_set {Γ : zC} {μ μ' : zMem} {g : Nat} {k : Int} {x : zShp} {q0 : Nat} (hs : zsh g k = some x) (h : zcL[q0]? = some (g, k)) (hm : ∀ g' k', (g' = g ∧ k' = k) ∨ μ' g' k' = μ g' k') :
    (zws Γ μ).set q0 (za Γ g k, zcell Γ (μ' g k) x) = zws Γ μ' := by
  refine List.ext_getElem? fun j => ?_
  rw [List.getElem?_set]
  by_cases hj : q0 = j
  · subst hj
    have hl : q0 < zcL.length := (List.getElem?_eq_some_iff.mp h).1
    simp only [if_true, zws, List.length_map, hl, List.getElem?_map, h, Option.map_some, zent, hs, Option.getD_some]
  · simp only [hj, if_false, zws, List.getElem?_map]
    cases hc : zcL[j]? with
    | none => rfl
    | some q =>
      have hne : ¬ (q.1 = g ∧ q.2 = k) := by
        intro he
        have hqe : q = (g, k) := by
          obtain ⟨a, b⟩ := q
          simp only [Prod.mk.injEq]
          exact he
        subst hqe
        exact hj ((List.getElem?_inj (List.getElem?_eq_some_iff.mp h).1 zcL_nd).mp (h.trans hc.symm))
      have := (hm q.1 q.2).resolve_left hne
      simp [zent, this]
def ztys (Γ : zC) : List (ClassId × FieldType) := [(zY Γ 0, .int), (zY Γ 1, .long), (zY Γ 2, .object RX4), (zY Γ 3, .object RX2), (zY Γ 4, .object RX5)]
def zAA (Γ : zC) : Nat → Prop := fun q => ∃ x ∈ zcL, q = za Γ x.1 x.2
def zApart (Γ : zC) : Prop := ∀ x ∈ zcL, ∀ y ∈ zcL, za Γ x.1 x.2 = za Γ y.1 y.2 → x = y
theorem zws_D {Γ : zC} {μ : zMem} {A : Nat → Prop} (h : zApart Γ) (hA : ∀ q, zAA Γ q → A q) : va_D A (zws Γ μ) := by
  refine ⟨fun i j p q hi hj he => ?_, fun k q hk => ?_⟩
  · simp only [zws, List.getElem?_map, Option.map_eq_some_iff] at hi hj
    obtain ⟨x, hx, rfl⟩ := hi
    obtain ⟨y, hy, rfl⟩ := hj
    have hxy := h x (List.mem_of_getElem? hx) y (List.mem_of_getElem? hy) he
    subst hxy
    exact (List.getElem?_inj (List.getElem?_eq_some_iff.mp hx).1 zcL_nd).mp (hx.trans hy.symm)
  · simp only [zws, List.getElem?_map, Option.map_eq_some_iff] at hk
    obtain ⟨x, hx, rfl⟩ := hk
    exact hA _ ⟨x, List.mem_of_getElem? hx, rfl⟩
theorem zobj_get {Γ : zC} {f : Int → Int} {sp : List (Option (Nat × Int))} : ∀ {i : Int} {n : Nat}, (zobj Γ f i sp)[n]? = (sp[n]?).map (fun o => match o with | none => Value.int (zi (f (i + n))) | some q => .ref (za Γ q.1 q.2)) := by
  induction sp with
  | nil => intro i n; simp [zobj]
  | cons o r ih =>
    intro i n
    cases n with
    | zero => cases o <;> simp [zobj]
    | succ n =>
      have e : i + 1 + (n : Int) = i + ((n + 1 : Nat) : Int) := by omega
      cases o <;> simp only [zobj, List.getElem?_cons_succ, ih, e]
theorem zobj_len {Γ : zC} {f : Int → Int} {sp : List (Option (Nat × Int))} : ∀ {i : Int}, (zobj Γ f i sp).length = sp.length := by
  induction sp with
  | nil => intro i; rfl
  | cons o r ih => intro i; cases o <;> simp [zobj, ih]
theorem zobj_set {Γ : zC} {f f' : Int → Int} {sp : List (Option (Nat × Int))} {n : Nat} {v : Int} (hn : sp[n]? = some none) (hf : ∀ j : Int, f' j = if j = n then v else f j) : (zobj Γ f 0 sp).set n (.int (zi v)) = zobj Γ f' 0 sp := by
  refine List.ext_getElem? fun j => ?_
  rw [List.getElem?_set, zobj_get, zobj_get]
  by_cases hj : n = j
  · subst hj
    have hl : n < sp.length := (List.getElem?_eq_some_iff.mp hn).1
    simp only [if_true, zobj_len, hl, hn, Option.map_some, hf, Int.zero_add]
  · have e : ∀ x : Int, x = (0 : Int) + (j : Int) → f' x = f x := fun x hx => by rw [hf, if_neg (by omega)]
    simp only [hj, if_false]
    congr 1
    funext o
    cases o with
    | none => simp only [e _ rfl]
    | some q => rfl
