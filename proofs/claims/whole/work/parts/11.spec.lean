/-! what the reference computes, as functions of its row s : Int → Int -/
def zb (P : Prop) [Decidable P] : Int := if P then 1 else 0
theorem zb_t {P : Prop} [Decidable P] (h : P) : zb P = 1 := if_pos h
theorem zb_f {P : Prop} [Decidable P] (h : ¬ P) : zb P = 0 := if_neg h
theorem zb_01 {P : Prop} [Decidable P] : zb P = 0 ∨ zb P = 1 := by
  by_cases h : P
  · exact Or.inr (zb_t h)
  · exact Or.inl (zb_f h)
theorem zb_rg {P : Prop} [Decidable P] : -2147483648 ≤ zb P ∧ zb P ≤ 2147483647 := by
  rcases zb_01 (P := P) with h | h <;> rw [h] <;> decide
theorem zb_eq0 {P : Prop} [Decidable P] : zb P = 0 ↔ ¬ P := by
  by_cases h : P
  · simp [zb, h]
  · simp [zb, h]
theorem zb_eq1 {P : Prop} [Decidable P] : zb P = 1 ↔ P := by
  by_cases h : P
  · simp [zb, h]
  · simp [zb, h]
theorem zb_congr {P R : Prop} [Decidable P] [Decidable R] (h : P ↔ R) : zb P = zb R := by
  by_cases hP : P
  · rw [zb_t hP, zb_t (h.mp hP)]
  · rw [zb_f hP, zb_f (fun q => hP (h.mpr q))]
theorem zb_not {P : Prop} [Decidable P] : ¬ ¬ P ↔ P := Decidable.not_not
def zfu (F : Int → Int) (i v : Int) : Int → Int := fun j => if j = i then v else F j
def zset (μ : zMem) (g : Nat) (k : Int) (F : Int → Int) : zMem := fun g' k' => if g' = g ∧ k' = k then F else μ g' k'
theorem zset_at {μ : zMem} {g : Nat} {k : Int} {F : Int → Int} : zset μ g k F g k = F := by simp [zset]
theorem zset_set {μ : zMem} {g : Nat} {k : Int} {F G : Int → Int} : zset (zset μ g k F) g k G = zset μ g k G := by
  funext g' k'
  simp only [zset]
  split <;> rfl
theorem zset_self {μ : zMem} {g : Nat} {k : Int} : zset μ g k (μ g k) = μ := by
  funext g' k'
  simp only [zset]
  split
  · rename_i h
    rw [h.1, h.2]
  · rfl
theorem zset_ne {μ : zMem} {g g' : Nat} {k k' : Int} {F : Int → Int} (h : ¬ (g' = g ∧ k' = k)) : zset μ g k F g' k' = μ g' k' := if_neg h
theorem zup_zset {μ : zMem} {g : Nat} {k i v : Int} : zup μ g k i v = zset μ g k (zfu (μ g k) i v) := by
  funext g' k' j
  simp only [zup, zset]
  by_cases h : g' = g ∧ k' = k
  · obtain ⟨rfl, rfl⟩ := h
    simp [zfu]
  · rw [if_neg (fun q => h ⟨q.1, q.2.1⟩), if_neg h]
theorem zup_set {μ : zMem} {g : Nat} {k i v : Int} {F : Int → Int} : zup (zset μ g k F) g k i v = zset μ g k (zfu F i v) := by
  rw [zup_zset, zset_set, zset_at]
/-- memories that agree where there is anything -/
def zlenS (x : zShp) : Nat := match x with
  | .inl q => q.2.length
  | .inr (.inl n) => n
  | .inr (.inr (.inl n)) => n
  | .inr (.inr (.inr _)) => 0
def zag (μ μ' : zMem) : Prop := ∀ (g : Nat) (k : Int) (x : zShp), zsh g k = some x → ∀ i : Int, 0 ≤ i → i < zlenS x → μ g k i = μ' g k i
theorem zag_rf {μ : zMem} : zag μ μ := fun _ _ _ _ _ _ _ => rfl
theorem zag.symm {μ μ' : zMem} (h : zag μ μ') : zag μ' μ := fun g k x hs i h0 h1 => (h g k x hs i h0 h1).symm
theorem zag.trans {μ1 μ2 μ3 : zMem} (h : zag μ1 μ2) (h' : zag μ2 μ3) : zag μ1 μ3 := fun g k x hs i h0 h1 => (h g k x hs i h0 h1).trans (h' g k x hs i h0 h1)
theorem zag_row {μ : zMem} {g : Nat} {k : Int} {x : zShp} {F G : Int → Int} (hs : zsh g k = some x) (h : ∀ j : Int, 0 ≤ j → j < zlenS x → F j = G j) : zag (zset μ g k F) (zset μ g k G) := by
  intro g' k' x' hs' i h0 h1
  simp only [zset]
  by_cases hq : g' = g ∧ k' = k
  · obtain ⟨rfl, rfl⟩ := hq
    cases hs.symm.trans hs'
    simp only [and_self, if_true]
    exact h i h0 h1
  · simp only [hq, if_false]
theorem zobj_congr {Γ : zC} {f f' : Int → Int} {sp : List (Option (Nat × Int))} : ∀ {i : Int}, (∀ j : Int, i ≤ j → j < i + sp.length → f j = f' j) → zobj Γ f i sp = zobj Γ f' i sp := by
  induction sp with
  | nil => intro i h; rfl
  | cons o r ih =>
    intro i h
    have h1 := ih (i := i + 1) (fun j h1 h2 => h j (by omega) (by simp only [List.length_cons]; omega))
    cases o with
    | none => simp only [zobj, h1, h i (by omega) (by simp only [List.length_cons]; omega)]
    | some q => simp only [zobj, h1]
theorem arrV_congr9 {cI : ClassId} {N : Nat} {f g : Nat → Value} (h : ∀ j, j < N → f j = g j) : arrV cI N f = arrV cI N g := by
  unfold arrV
  congr 1
  exact congrArg _ (funext fun j => h j.val j.isLt)
theorem zag_P {Γ : zC} {μ μ' : zMem} (h : zag μ μ') {D : va_G} {H : Heap} (hP : va_P D vwCl (zws Γ μ) H) : va_P D vwCl (zws Γ μ') H := by
  intro k q hq
  simp only [zws, List.getElem?_map, Option.map_eq_some_iff] at hq
  obtain ⟨y, hy, rfl⟩ := hq
  have h0 := hP k (zent Γ μ y) (by simp only [zws, List.getElem?_map, hy, Option.map_some])
  obtain ⟨x, hx⟩ := Option.isSome_iff_exists.mp (zcL_some y (List.mem_of_getElem? hy))
  have hy2 := h y.1 y.2 x hx
  simp only [zent, hx, Option.getD_some] at h0 ⊢
  rcases x with ⟨ci, sp⟩ | n | n | q
  · simp only [zcell] at h0 ⊢
    rw [← zobj_congr (Γ := Γ) (f := μ y.1 y.2) (f' := μ' y.1 y.2) (sp := sp) (i := 0) (fun j h1 h2 => hy2 j h1 (by simp only [zlenS]; omega))]
    exact h0
  · simp only [zcell, va_at, vp_cell] at h0 ⊢
    rw [← arrV_congr9 (f := fun j => Value.int (zi (μ y.1 y.2 (j : Int)))) (fun j hj => by rw [hy2 (j : Int) (by omega) (by simp only [zlenS]; omega)])]
    exact h0
  · simp only [zcell, va_at, vp_cell] at h0 ⊢
    rw [← arrV_congr9 (f := fun j => Value.long (zl (μ y.1 y.2 (j : Int)))) (fun j hj => by rw [hy2 (j : Int) (by omega) (by simp only [zlenS]; omega)])]
    exact h0
  · exact h0
section ZMEM
variable {Γ : zC} {A : Nat → Prop} {p : Program} {l : Launch} {e : Env} {R : Room} {s : State} {m : MethodId} {args : Array Value} {below : List Frame} {meth : Method} {c : Code} {cells slots : Nat} {Q : State → Prop} {pc : Nat} {lv st : List Value} {μ μ' : zMem}
theorem zV_mem (h : zag μ μ') (k : zV Γ A p l e R s m args below meth c cells slots Q pc lv st μ') : zV Γ A p l e R s m args below meth c cells slots Q pc lv st μ :=
  fun H locs ls hl hP hS => k H locs ls hl (zag_P h hP) hS
theorem zV_eqm (h : μ = μ') (k : zV Γ A p l e R s m args below meth c cells slots Q pc lv st μ') : zV Γ A p l e R s m args below meth c cells slots Q pc lv st μ := h ▸ k
end ZMEM
/-- a call's answer over memories that agree -/
theorem zRet.ag {Γ : zC} {l : Launch} {d : Nat} {y : zM} {av : List Value} {μ μ1 μ' μ1' : zMem} {r : Option Value} (h : zRet Γ l d y av μ r μ') (h1 : zag μ1 μ) (h2 : zag μ' μ1') : zRet Γ l d y av μ1 r μ1' := by
  unfold zRet Met at h ⊢
  exact MetFree.mono h (fun a U q => ⟨q.1, q.2.1, zag_P h1 q.2.2.1, q.2.2.2⟩) (fun _ _ _ _ _ k => k) (fun a st o t _ q => ⟨⟨q.1.1, zag_P h2 q.1.2.1, q.1.2.2⟩, q.2⟩)
section ZGETP
variable {Γ : zC} {A : Nat → Prop} {p : Program} {l : Launch} {e : Env} {R : Room} {s : State} {m : MethodId} {args : Array Value} {below : List Frame} {meth : Method} {c : Code} {cells slots : Nat} {Q : State → Prop} {own : String} {cc : ByteArray} {nL pc n : Nat} {lv st : List Value} {μ : zMem}
theorem zV_getP {ci N f idx g g2 : Nat} {k k2 : Int} {CN : String} {T : u_T} {ty : Nat → FieldType} {sp : List (Option (Nat × Int))} (C : zCx Γ A p s m args c own cc nL) (b : zCl ci CN T N ty) (hl : Cond.fieldLink own idx (T f).1 (T f).2.1 (T f).2.2.1 ∈ tblG) (d : decode cc pc = .ok (.getfield idx, 3)) (hs : zsh g k = some (.inl (ci, sp))) (hsp : sp[f]? = some (some (g2, k2))) (hf : f < N) (hp : pc + 3 = n)
    (kk : zV Γ A p l e R s m args below meth c cells slots Q n lv (.ref (za Γ g2 k2) :: st) μ) : zV Γ A p l e R s m args below meth c cells slots Q pc lv (.ref (za Γ g k) :: st) μ := zV_getR (q := (g2, k2)) C b hl d hs hsp hf hp kk
end ZGETP
