/-! fields, rows, calls, answers, over zV -/
/-- a class of the world -/
def zCl (ci : Nat) (CN : String) (T : u_T) (N : Nat) (ty : Nat → FieldType) : Prop := vwCl[ci]? = some (CN, T, N) ∧ (∀ w ∈ u_ws CN T N, w ∈ tblG) ∧ (∀ k, k < N → parseFieldDescriptor (T k).2.2.1 = some (ty k)) ∧ (∀ a, a < N → ∀ b, b < N → a ≠ b → (T a).2.1 ≠ (T b).2.1)
section ZHEAP
variable {Γ : zC} {A : Nat → Prop} {p : Program} {l : Launch} {e : Env} {R : Room} {s : State} {m : MethodId} {args : Array Value} {below : List Frame} {meth : Method} {c : Code} {cells slots : Nat} {Q : State → Prop} {own : String} {cc : ByteArray} {nL pc n : Nat} {lv st : List Value} {μ : zMem}
theorem zV_getI {ci N f idx g : Nat} {k fi : Int} {CN : String} {T : u_T} {ty : Nat → FieldType} {sp : List (Option (Nat × Int))} (C : zCx Γ A p s m args c own cc nL) (b : zCl ci CN T N ty) (hl : Cond.fieldLink own idx (T f).1 (T f).2.1 (T f).2.2.1 ∈ tblG) (d : decode cc pc = .ok (.getfield idx, 3)) (hs : zsh g k = some (.inl (ci, sp))) (hsp : sp[f]? = some none) (hf : f < N) (hfi : (f : Int) = fi) (hp : pc + 3 = n)
    (kk : zV Γ A p l e R s m args below meth c cells slots Q n lv (.int (zi (μ g k fi)) :: st) μ) : zV Γ A p l e R s m args below meth c cells slots Q pc lv (.ref (za Γ g k) :: st) μ := by
  subst hp
  subst hfi
  intro H locs ls hl9 hP hS
  obtain ⟨q0, -, hq⟩ := zws_at (Γ := Γ) hs
  refine va_get (C := CN) (T := T) (N := N) (ci := ci) (fs := zobj Γ (μ g k) 0 sp) C.1 C.2.1 C.2.2.2.2.1 b.2.1 C.2.2.2.1 C.2.2.2.2.2.1 hP q0 (hq μ) b.1 f hf (C.2.2.2.2.1 _ hl) (fun _ h9 => h9) ?_ d (kk H locs ls hl9 hP hS)
  rw [zobj_get, hsp]
  simp
theorem zV_getR {ci N f idx g : Nat} {k : Int} {CN : String} {T : u_T} {ty : Nat → FieldType} {sp : List (Option (Nat × Int))} {q : Nat × Int} (C : zCx Γ A p s m args c own cc nL) (b : zCl ci CN T N ty) (hl : Cond.fieldLink own idx (T f).1 (T f).2.1 (T f).2.2.1 ∈ tblG) (d : decode cc pc = .ok (.getfield idx, 3)) (hs : zsh g k = some (.inl (ci, sp))) (hsp : sp[f]? = some (some q)) (hf : f < N) (hp : pc + 3 = n)
    (kk : zV Γ A p l e R s m args below meth c cells slots Q n lv (.ref (za Γ q.1 q.2) :: st) μ) : zV Γ A p l e R s m args below meth c cells slots Q pc lv (.ref (za Γ g k) :: st) μ := by
  subst hp
  intro H locs ls hl9 hP hS
  obtain ⟨q0, -, hq⟩ := zws_at (Γ := Γ) hs
  refine va_get (C := CN) (T := T) (N := N) (ci := ci) (fs := zobj Γ (μ g k) 0 sp) C.1 C.2.1 C.2.2.2.2.1 b.2.1 C.2.2.2.1 C.2.2.2.2.2.1 hP q0 (hq μ) b.1 f hf (C.2.2.2.2.1 _ hl) (fun _ h9 => h9) ?_ d (kk H locs ls hl9 hP hS)
  rw [zobj_get, hsp]
  simp
theorem zup_cell {g : Nat} {k i v : Int} (j : Int) : zup μ g k i v g k j = if j = i then v else μ g k j := by
  simp [zup]
theorem zup_else {g : Nat} {k i v : Int} (g' : Nat) (k' : Int) : (g' = g ∧ k' = k) ∨ zup μ g k i v g' k' = μ g' k' := by
  by_cases h : g' = g ∧ k' = k
  · exact Or.inl h
  · right
    funext j
    simp only [zup]
    rw [if_neg (fun q => h ⟨q.1, q.2.1⟩)]
theorem zV_putG {ci N f idx g : Nat} {k fi v : Int} {CN : String} {T : u_T} {ty : Nat → FieldType} {sp : List (Option (Nat × Int))} (C : zCx Γ A p s m args c own cc nL) (b : zCl ci CN T N ty) (hl : Cond.fieldLink own idx (T f).1 (T f).2.1 (T f).2.2.1 ∈ tblG) (d : decode cc pc = .ok (.putfield idx, 3)) (hs : zsh g k = some (.inl (ci, sp))) (hsp : sp[f]? = some none) (hf : f < N) (hfi : (f : Int) = fi) (hfin : (T f).2.2.2 = false) (hn : narrow (ty f) (.int (zi v)) = .int (zi v)) (hfit : fits (ty f) (.int (zi v)) = true) (hp : pc + 3 = n)
    (kk : zV Γ A p l e R s m args below meth c cells slots Q n lv st (zup μ g k fi v)) : zV Γ A p l e R s m args below meth c cells slots Q pc lv (.int (zi v) :: .ref (za Γ g k) :: st) μ := by
  subst hp
  subst hfi
  intro H locs ls hl9 hP hS
  obtain ⟨q0, hq0, hq⟩ := zws_at (Γ := Γ) hs
  refine va_put (C := CN) (T := T) (N := N) (ci := ci) (fs := zobj Γ (μ g k) 0 sp) (v := .int (zi v)) (ty := ty f) C.1 C.2.1 C.2.2.2.2.1 b.2.1 ty b.2.2.1 b.2.2.2 C.2.2.2.1 C.2.2.2.2.2.1 hP (zws_D C.2.2.2.2.2.2.1 C.2.2.2.2.2.2.2.2) hS q0 (hq μ) b.1 f hf (C.2.2.2.2.1 _ hl) (fun _ h9 => h9) hfin (b.2.2.1 f hf) hn hfit (by rw [zobj_len]; exact (List.getElem?_eq_some_iff.mp hsp).1) d (fun H1 locs1 hP1 _ hS1 => kk H1 locs1 ls hl9 ?_ hS1)
  have e1 : (zobj Γ (μ g k) 0 sp).set f (.int (zi v)) = zobj Γ (zup μ g k (f : Int) v g k) 0 sp := zobj_set hsp (fun j => zup_cell j)
  rw [e1] at hP1
  have e2 := zws_set (Γ := Γ) (μ := μ) (μ' := zup μ g k (f : Int) v) hs hq0 zup_else
  rw [← e2]
  exact hP1
theorem zV_putI {ci N f idx g : Nat} {k fi v : Int} {CN : String} {T : u_T} {ty : Nat → FieldType} {sp : List (Option (Nat × Int))} (C : zCx Γ A p s m args c own cc nL) (b : zCl ci CN T N ty) (hl : Cond.fieldLink own idx (T f).1 (T f).2.1 (T f).2.2.1 ∈ tblG) (d : decode cc pc = .ok (.putfield idx, 3)) (hs : zsh g k = some (.inl (ci, sp))) (hsp : sp[f]? = some none) (hf : f < N) (hfi : (f : Int) = fi) (hfin : (T f).2.2.2 = false) (hty : ty f = .int) (hp : pc + 3 = n)
    (kk : zV Γ A p l e R s m args below meth c cells slots Q n lv st (zup μ g k fi v)) : zV Γ A p l e R s m args below meth c cells slots Q pc lv (.int (zi v) :: .ref (za Γ g k) :: st) μ :=
  zV_putG C b hl d hs hsp hf hfi hfin (by rw [hty]; rfl) (by rw [hty]; rfl) hp kk
theorem zV_putZ {ci N f idx g : Nat} {k fi v : Int} {CN : String} {T : u_T} {ty : Nat → FieldType} {sp : List (Option (Nat × Int))} (C : zCx Γ A p s m args c own cc nL) (b : zCl ci CN T N ty) (hl : Cond.fieldLink own idx (T f).1 (T f).2.1 (T f).2.2.1 ∈ tblG) (d : decode cc pc = .ok (.putfield idx, 3)) (hs : zsh g k = some (.inl (ci, sp))) (hsp : sp[f]? = some none) (hf : f < N) (hfi : (f : Int) = fi) (hfin : (T f).2.2.2 = false) (hty : ty f = .boolean) (hv : v = 0 ∨ v = 1) (hp : pc + 3 = n)
    (kk : zV Γ A p l e R s m args below meth c cells slots Q n lv st (zup μ g k fi v)) : zV Γ A p l e R s m args below meth c cells slots Q pc lv (.int (zi v) :: .ref (za Γ g k) :: st) μ :=
  zV_putG C b hl d hs hsp hf hfi hfin (by rw [hty]; exact (zi_z hv).1) (by rw [hty]; exact (zi_z hv).2) hp kk
theorem zV_iald {g N : Nat} {k z : Int} (C : zCx Γ A p s m args c own cc nL) (d : decode cc pc = .ok (.iaload, 1)) (hs : zsh g k = some (.inr (.inl N))) (hz : 0 ≤ z ∧ z < N) (hN : N ≤ 1000) (hp : pc + 1 = n)
    (kk : zV Γ A p l e R s m args below meth c cells slots Q n lv (.int (zi (μ g k z)) :: st) μ) : zV Γ A p l e R s m args below meth c cells slots Q pc lv (.int (zi z) :: .ref (za Γ g k) :: st) μ := by
  subst hp
  intro H locs ls hl9 hP hS
  obtain ⟨q0, hq0, hq⟩ := zws_at (Γ := Γ) hs
  have h := kk H locs ls hl9 hP hS
  refine va_iald C.1 C.2.1 C.2.2.2.2.2.1 hP q0 0 (hq μ) rfl (zi_in (n := N) hz (Nat.le_trans hN (by decide))) d ?_
  rw [zi_clamp (by omega), Int.toNat_of_nonneg hz.1]
  exact h
theorem zV_lald {g N : Nat} {k z : Int} (C : zCx Γ A p s m args c own cc nL) (d : decode cc pc = .ok (.laload, 1)) (hs : zsh g k = some (.inr (.inr (.inl N)))) (hz : 0 ≤ z ∧ z < N) (hN : N ≤ 1000) (hp : pc + 1 = n)
    (kk : zV Γ A p l e R s m args below meth c cells slots Q n lv (.long (zl (μ g k z)) :: st) μ) : zV Γ A p l e R s m args below meth c cells slots Q pc lv (.int (zi z) :: .ref (za Γ g k) :: st) μ := by
  subst hp
  intro H locs ls hl9 hP hS
  obtain ⟨q0, hq0, hq⟩ := zws_at (Γ := Γ) hs
  have h := kk H locs ls hl9 hP hS
  refine va_lald C.1 C.2.1 C.2.2.2.2.2.1 hP q0 1 (hq μ) rfl (zi_in (n := N) hz (Nat.le_trans hN (by decide))) d ?_
  rw [zi_clamp (by omega), Int.toNat_of_nonneg hz.1]
  exact h
theorem zV_iast {g N : Nat} {k z v : Int} (C : zCx Γ A p s m args c own cc nL) (d : decode cc pc = .ok (.iastore, 1)) (hs : zsh g k = some (.inr (.inl N))) (hz : 0 ≤ z ∧ z < N) (hN : N ≤ 1000) (hp : pc + 1 = n)
    (kk : zV Γ A p l e R s m args below meth c cells slots Q n lv st (zup μ g k z v)) : zV Γ A p l e R s m args below meth c cells slots Q pc lv (.int (zi v) :: .int (zi z) :: .ref (za Γ g k) :: st) μ := by
  subst hp
  intro H locs ls hl9 hP hS
  obtain ⟨q0, hq0, hq⟩ := zws_at (Γ := Γ) hs
  refine va_iast C.1 C.2.1 C.2.2.2.2.2.1 hP (zws_D C.2.2.2.2.2.2.1 C.2.2.2.2.2.2.2.2) hS q0 0 (hq μ) rfl (zi_in hz (by omega)) d (fun H1 locs1 hP1 _ hS1 => kk H1 locs1 ls hl9 ?_ hS1)
  have e2 := zws_set (Γ := Γ) (μ := μ) (μ' := zup μ g k z v) hs hq0 zup_else
  have e1 : zcell Γ (zup μ g k z v g k) (.inr (.inl N)) = .inl (zY Γ 0, N, .inl (upd (fun j : Nat => zi (μ g k (j : Int))) (zi z).toNatClampNeg (zi v))) := by
    simp only [zcell]
    congr 4
    funext j
    rw [zup_cell, zi_clamp (by omega)]
    simp only [upd]
    by_cases hj : (j : Int) = z
    · rw [if_pos hj, if_pos (by omega)]
    · rw [if_neg hj, if_neg (by omega)]
  rw [← e2, e1]
  exact hP1
theorem zV_last {g N : Nat} {k z v : Int} (C : zCx Γ A p s m args c own cc nL) (d : decode cc pc = .ok (.lastore, 1)) (hs : zsh g k = some (.inr (.inr (.inl N)))) (hz : 0 ≤ z ∧ z < N) (hN : N ≤ 1000) (hp : pc + 1 = n)
    (kk : zV Γ A p l e R s m args below meth c cells slots Q n lv st (zup μ g k z v)) : zV Γ A p l e R s m args below meth c cells slots Q pc lv (.long (zl v) :: .int (zi z) :: .ref (za Γ g k) :: st) μ := by
  subst hp
  intro H locs ls hl9 hP hS
  obtain ⟨q0, hq0, hq⟩ := zws_at (Γ := Γ) hs
  refine va_last C.1 C.2.1 C.2.2.2.2.2.1 hP (zws_D C.2.2.2.2.2.2.1 C.2.2.2.2.2.2.2.2) hS q0 1 (hq μ) rfl (zi_in hz (by omega)) d (fun H1 locs1 hP1 _ hS1 => kk H1 locs1 ls hl9 ?_ hS1)
  have e2 := zws_set (Γ := Γ) (μ := μ) (μ' := zup μ g k z v) hs hq0 zup_else
  have e1 : zcell Γ (zup μ g k z v g k) (.inr (.inr (.inl N))) = .inl (zY Γ 1, N, .inr (.inl (vp_updL (fun j : Nat => zl (μ g k (j : Int))) (zi z).toNatClampNeg (zl v)))) := by
    simp only [zcell]
    congr 5
    funext j
    rw [zup_cell, zi_clamp (by omega)]
    simp only [vp_updL]
    by_cases hj : (j : Int) = z
    · rw [if_pos hj, if_pos (by omega)]
    · rw [if_neg hj, if_neg (by omega)]
  rw [← e2, e1]
  exact hP1
theorem zV_aald {g N t g2 : Nat} {k z b : Int} (C : zCx Γ A p s m args c own cc nL) (d : decode cc pc = .ok (.aaload, 1)) (hs : zsh g k = some (.inr (.inr (.inr (t, N, g2, b))))) (hz : 0 ≤ z ∧ z < N) (hN : N ≤ 1000) (ht : t < 3) (hp : pc + 1 = n)
    (kk : zV Γ A p l e R s m args below meth c cells slots Q n lv (.ref (za Γ g2 (b + z)) :: st) μ) : zV Γ A p l e R s m args below meth c cells slots Q pc lv (.int (zi z) :: .ref (za Γ g k) :: st) μ := by
  subst hp
  intro H locs ls hl9 hP hS
  obtain ⟨q0, hq0, hq⟩ := zws_at (Γ := Γ) hs
  have h := kk H locs ls hl9 hP hS
  have e1 : va_rf ((fun j : Nat => some (za Γ g2 (b + (j : Int)))) (zi z).toNatClampNeg) = .ref (za Γ g2 (b + z)) := by
    rw [zi_clamp (by omega)]
    simp only [va_rf, Int.toNat_of_nonneg hz.1]
  have h3 : t = 0 ∨ t = 1 ∨ t = 2 := by omega
  rcases h3 with rfl | rfl | rfl
  · refine va_aldq C.1 C.2.1 C.2.2.2.2.2.1 hP q0 2 (hq μ) rfl (zi_in (n := N) hz (Nat.le_trans hN (by decide))) d ?_
    rw [e1]
    exact h
  · refine va_aldq C.1 C.2.1 C.2.2.2.2.2.1 hP q0 3 (hq μ) rfl (zi_in (n := N) hz (Nat.le_trans hN (by decide))) d ?_
    rw [e1]
    exact h
  · refine va_aldq C.1 C.2.1 C.2.2.2.2.2.1 hP q0 4 (hq μ) rfl (zi_in (n := N) hz (Nat.le_trans hN (by decide))) d ?_
    rw [e1]
    exact h
/-! answers -/
theorem zV_ireturn {r : Option Value} {μ' : zMem} {w : Int32} (C : zCx Γ (zAA Γ) p s m args c own cc nL) (hr : meth.sig.returnType = some .int) (hlocks : meth.locks = false) (d : decode cc pc = .ok (.ireturn, 1)) (h1 : some (.int w) = r) (h2 : μ = μ') :
    zV Γ (zAA Γ) p l e R s m args below meth c cells slots (MQ below (zQc Γ r μ') args s cells slots (zAA Γ)) pc lv [.int w] μ := by
  subst h1
  subst h2
  intro H locs ls hl9 hP hS
  exact W.iret C.1 C.2.1 hr (fun t ht hW => ⟨rfl, by rw [ht]; exact hP, hS.F ht⟩) hS.2.2 d hlocks
theorem zV_zreturn {r : Option Value} {μ' : zMem} {w : Int32} {ty : FieldType} (C : zCx Γ (zAA Γ) p s m args c own cc nL) (hr : meth.sig.returnType = some ty) (hlocks : meth.locks = false) (d : decode cc pc = .ok (.ireturn, 1)) (hn : narrow ty (.int w) = .int w) (h1 : some (.int w) = r) (h2 : μ = μ') :
    zV Γ (zAA Γ) p l e R s m args below meth c cells slots (MQ below (zQc Γ r μ') args s cells slots (zAA Γ)) pc lv [.int w] μ := by
  subst h1
  subst h2
  intro H locs ls hl9 hP hS
  exact W.zret C.1 C.2.1 hr hn (fun t ht hW => ⟨rfl, by rw [ht]; exact hP, hS.F ht⟩) hS.2.2 d hlocks
theorem zV_lreturn {r : Option Value} {μ' : zMem} {w : Int64} (C : zCx Γ (zAA Γ) p s m args c own cc nL) (hr : meth.sig.returnType = some .long) (hlocks : meth.locks = false) (d : decode cc pc = .ok (.lreturn, 1)) (h1 : some (.long w) = r) (h2 : μ = μ') :
    zV Γ (zAA Γ) p l e R s m args below meth c cells slots (MQ below (zQc Γ r μ') args s cells slots (zAA Γ)) pc lv [.long w] μ := by
  subst h1
  subst h2
  intro H locs ls hl9 hP hS
  exact W.lret C.1 C.2.1 hr (fun t ht hW => ⟨rfl, by rw [ht]; exact hP, hS.F ht⟩) hS.2.2 d hlocks
theorem zV_areturn {r : Option Value} {μ' : zMem} {a : Nat} {nm : String} (C : zCx Γ (zAA Γ) p s m args c own cc nL) (hr : meth.sig.returnType = some (.object nm)) (hlocks : meth.locks = false) (d : decode cc pc = .ok (.areturn, 1)) (h1 : some (.ref a) = r) (h2 : μ = μ') :
    zV Γ (zAA Γ) p l e R s m args below meth c cells slots (MQ below (zQc Γ r μ') args s cells slots (zAA Γ)) pc lv [.ref a] μ := by
  subst h1
  subst h2
  intro H locs ls hl9 hP hS
  exact W.aret C.1 C.2.1 hr (Or.inl ⟨_, rfl⟩) (Or.inr ⟨_, rfl⟩) (fun t ht hW => ⟨rfl, by rw [ht]; exact hP, hS.F ht⟩) hS.2.2 d hlocks
theorem zV_return {r : Option Value} {μ' : zMem} (C : zCx Γ (zAA Γ) p s m args c own cc nL) (hr : meth.sig.returnType = none) (hlocks : meth.locks = false) (d : decode cc pc = .ok (.return_, 1)) (h1 : none = r) (h2 : μ = μ') :
    zV Γ (zAA Γ) p l e R s m args below meth c cells slots (MQ below (zQc Γ r μ') args s cells slots (zAA Γ)) pc lv [] μ := by
  subst h1
  subst h2
  intro H locs ls hl9 hP hS
  exact W.vret C.1 C.2.1 hr (fun t ht hW => ⟨rfl, by rw [ht]; exact hP, hS.F ht⟩) hS.2.2 d hlocks
/-! calls -/
def zIn (y : zM) (n : Nat) : Prop := zcode y ∈ tblG ∧ Cond.initialized y.1.cls ∈ tblG ∧ (y.1.cls ≠ "java/lang/invoke/MethodHandle" ∧ y.1.cls ≠ "java/lang/invoke/VarHandle" ∧ (parseMethodDescriptor y.1.desc).map (fun d => d.parameters.length) = some n)
def zInV (y : zM) (n : Nat) : Prop := zIn y n ∧ Cond.instanceMethod y.1 ∈ tblG ∧ Cond.selects y.1.cls y.1 y.1 ∈ tblG
def zInS (y : zM) (n : Nat) : Prop := zIn y n ∧ Cond.static y.1 ∈ tblG
def zfit (R : Room) (d maxL : Nat) : Prop := d + 1 ≤ R.frames ∧ 8 + (maxL + 11) + 36 * d ≤ R.locals
theorem zfit_of {d n maxL : Nat} (h : d + 1 ≤ n) (hm : maxL ≤ 17) : zfit (zRm n) d maxL := ⟨h, by show 8 + (maxL + 11) + 36 * d ≤ 36 * n; omega⟩
theorem zgood {y : zM} (hc : zcode y ∈ tblG) : GoodIn tblG (zcode y :: tblG) := by
  intro w hw
  have h1 : w ∈ tblG := by
    rcases List.mem_cons.mp hw with rfl | h
    · exact hc
    · exact h
  exact ⟨h1, good_of_word (List.mem_filter.mp h1).2⟩
theorem zpre {av : List Value} {H : Heap} {locs : List Loc} (C : zCx Γ A p s m args c own cc nL) (hP : va_P (zD Γ) vwCl (zws Γ μ) H) (hS : va_S A s.heap H locs) : PreS s H (va_Pc av (zWd Γ μ)) av := by
  obtain ⟨-, -, -, -, -, hK, hAp, hE, hA⟩ := C
  refine ⟨zblind, fun U hU hW => ⟨rfl, hAp, by rw [hU]; exact hP, va_K.moved hW.alike hK, ?_⟩⟩
  rw [hU]
  exact ((hE.kept hS.2.1).narrow hA).warm hW
theorem zgo {r : Option Value} {μ' : zMem} {H : Heap} {locs : List Loc} {ls : Array Slot} {rest st0 : List Value} {a : Array Value} (hA : ∀ q, zAA Γ q → A q) (hr : va_Run p l e R s m args below meth c H locs cells slots 0 0 (F0 m pc ls st0) rest (zQc Γ r μ' a) (zAA Γ)) (hS : va_S A s.heap H locs)
    (kk : ∀ (H1 : Heap) (locs1 : List Loc), va_P (zD Γ) vwCl (zws Γ μ') H1 → va_S A s.heap H1 locs1 → W p l e R s m args below meth c H1 locs1 cells slots Q (F0 m (pc + 3) ls (r.toList ++ rest))) : W p l e R s m args below meth c H locs cells slots Q (F0 m pc ls st0) := by
  intro T hT X
  obtain ⟨v, st₀, t, T', L, h0, X', hL, e1, e2, ⟨hv, hP, hz, hk⟩, stp⟩ := hr T hT X
  cases hv
  rw [h0] at hz hk
  obtain ⟨t2, a1, b1⟩ := kk T'.heap (locs ++ L) (by rw [e1]; exact hP)
    ⟨Nat.le_trans hS.1 (by rw [e1]; exact hz), fun q h1 h2 => by rw [e1, hk q (Nat.lt_of_lt_of_le h1 hS.1) (fun z => h2 (hA q z))]; exact hS.2.1 q h1 h2, fun q hq => by
      rcases List.mem_append.mp hq with h | h
      · exact hS.2.2 q h
      · exact hA _ (hL q h)⟩ T' rfl X'
  exact ⟨t2, stp t2 a1, b1⟩
theorem zcallB {y : zM} {na d idx : Nat} (C : zCx Γ A p s m args c own cc nL) (b : zIn y na) (hl : Cond.methodLink own idx y.1 ∈ tblG) (hR : zfit R d y.2.2.1) : CallB R s args own idx y.1 y.2.1 y.2.2.1 y.2.2.2 (zcode y :: tblG) (zRm d) 0 0 na :=
  callB_of na C.2.2.2.2.1 (zgood b.1) rfl rfl rfl (C.2.2.2.2.1 _ b.2.1) (C.2.2.2.2.1 _ hl) b.2.2 hR
theorem zV_callV {y : zM} {na d idx g ci N : Nat} {k : Int} {CN : String} {T : u_T} {ty : Nat → FieldType} {sp : List (Option (Nat × Int))} {r : Option Value} {μ' : zMem} (As : List Value) (rest : List Value) (C : zCx Γ A p s m args c own cc nL) (b : zCl ci CN T N ty) (hy : zInV y na) (hl : Cond.methodLink own idx y.1 ∈ tblG) (hM : zRet Γ l d y (.ref (za Γ g k) :: As) μ r μ') (hd : decode cc pc = .ok (.invokevirtual idx, 3)) (hs : zsh g k = some (.inl (ci, sp))) (hcn : y.1.cls = CN) (hna : As.length = na) (hst : As.reverse ++ .ref (za Γ g k) :: rest = st) (hW : (rest.map fun v => v.category).sum ≤ 8) (hR : zfit R d y.2.2.1) (hc : cells ≤ R.cells ∧ slots ≤ R.slots) (hp : pc + 3 = n)
    (kk : zV Γ A p l e R s m args below meth c cells slots Q n lv (r.toList ++ rest) μ') : zV Γ A p l e R s m args below meth c cells slots Q pc lv st μ := by
  subst hp
  subst hst
  intro H locs ls hl9 hP hS
  have hC := C
  obtain ⟨hx, hb, hml, ho, hts, hK, hAp, hE, hA⟩ := C
  obtain ⟨q0, hq0, hq⟩ := zws_at (Γ := Γ) hs
  have hrv := va_recv hK hP b.1 (hq μ)
  have hpr := zpre (av := .ref (za Γ g k) :: As) hC hP hS
  refine zgo hA (va_runV (C := y.1.cls) (As := As) (rest := rest) (b := za Γ g k) ⟨hx, hb, hml, ho, hts⟩ hM ⟨zcallB hC hy.1 hl hR, hts _ hy.2.1, hts _ hy.2.2⟩ ⟨hpr.1, by rw [hcn]; exact hrv, hpr.2⟩ rfl hna (hl9.1.trans hml) rfl (lv_room hW) hd hc) hS (fun H1 locs1 hP1 hS1 => kk H1 locs1 ls hl9 hP1 hS1)
theorem zV_callS {y : zM} {na d idx : Nat} {r : Option Value} {μ' : zMem} (As : List Value) (rest : List Value) (C : zCx Γ A p s m args c own cc nL) (hy : zInS y na) (hl : Cond.methodLink own idx y.1 ∈ tblG) (hM : zRet Γ l d y As μ r μ') (hd : decode cc pc = .ok (.invokestatic idx, 3)) (hna : As.length = na) (hst : As.reverse ++ rest = st) (hW : (rest.map fun v => v.category).sum ≤ 8) (hR : zfit R d y.2.2.1) (hc : cells ≤ R.cells ∧ slots ≤ R.slots) (hp : pc + 3 = n)
    (kk : zV Γ A p l e R s m args below meth c cells slots Q n lv (r.toList ++ rest) μ') : zV Γ A p l e R s m args below meth c cells slots Q pc lv st μ := by
  subst hp
  subst hst
  intro H locs ls hl9 hP hS
  have hC := C
  obtain ⟨hx, hb, hml, ho, hts, hK, hAp, hE, hA⟩ := C
  refine zgo hA (va_runS (As := As) (rest := rest) ⟨hx, hb, hml, ho, hts⟩ hM ⟨zcallB hC hy.1 hl hR, hts _ hy.2⟩ (zpre hC hP hS) rfl hna (hl9.1.trans hml) rfl (lv_room hW) hd hc) hS (fun H1 locs1 hP1 hS1 => kk H1 locs1 ls hl9 hP1 hS1)
theorem zV_callSN {y : zM} {na d idx : Nat} {host : String} {r : Option Value} {μ' : zMem} (As : List Value) (rest : List Value) (C : zCx Γ A p s m args c own cc nL) (hy : zInS y na) (hl : (own, idx, y.1, host) ∈ znest) (hM : zRet Γ l d y As μ r μ') (hd : decode cc pc = .ok (.invokestatic idx, 3)) (hna : As.length = na) (hst : As.reverse ++ rest = st) (hW : (rest.map fun v => v.category).sum ≤ 8) (hR : zfit R d y.2.2.1) (hc : cells ≤ R.cells ∧ slots ≤ R.slots) (hp : pc + 3 = n)
    (kk : zV Γ A p l e R s m args below meth c cells slots Q n lv (r.toList ++ rest) μ') : zV Γ A p l e R s m args below meth c cells slots Q pc lv st μ := by
  subst hp
  subst hst
  intro H locs ls hl9 hP hS
  have hC := C
  obtain ⟨hx, hb, hml, ho, hts, hK, hAp, hE, hA⟩ := C
  refine zgo hA (va_runSN (As := As) (rest := rest) (host := host) ⟨hx, hb, hml, ho, hts⟩ hM ⟨va_cnB na hts (zgood hy.1.1) rfl rfl rfl (hE.2.2.2.2.2.2 _ hl) (hts _ hy.1.2.1) hy.1.2.2 hR, hts _ hy.2, trivial⟩ (zpre hC hP hS) rfl hna (hl9.1.trans hml) rfl (lv_room hW) hd hc) hS (fun H1 locs1 hP1 hS1 => kk H1 locs1 ls hl9 hP1 hS1)
end ZHEAP
