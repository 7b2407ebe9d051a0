/-! THE JUDGEMENTS: zRet (a call of a method answers so, and the memory is so then), zV (the machine, now here, comes to Q) -/
def tblG : List Cond := lw_tbl.filter goodWord
theorem tg {w : Cond} (h : w ∈ lw_tbl) (g : goodWord w = true) : w ∈ tblG := List.mem_filter.mpr ⟨h, g⟩
theorem tgi {w : Cond} (i : Nat) (h : lw_tbl[i]? = some w) (g : goodWord w = true) : w ∈ tblG := tg (List.mem_of_getElem? h) g
def zabove (j : Nat) : Int := [-1, 0, 0, 0, 1, 2].getD j 0
def zstr : List (Nat × String) := [(135, "child"), (125, "archer"), (127, "big"), (129, "baby"), (131, "howler"), (133, "self"), (54, "seat"), (63, "rain"), (83, "size"), (89, "mood"), (93, "coat"), (109, "twists"), (113, "crumbs"), (117, "turned")]
def zlen : List Nat := [5, 6, 3, 4, 6, 4, 4, 4, 4, 4, 4, 6, 6, 6]
def zbyt : List (List Int32) := [[99, 104, 105, 108, 100], [97, 114, 99, 104, 101, 114], [98, 105, 103], [98, 97, 98, 121], [104, 111, 119, 108, 101, 114], [115, 101, 108, 102], [115, 101, 97, 116], [114, 97, 105, 110], [115, 105, 122, 101], [109, 111, 111, 100], [99, 111, 97, 116], [116, 119, 105, 115, 116, 115], [99, 114, 117, 109, 98, 115], [116, 117, 114, 110, 101, 100]]
def znest : List (String × Nat × MethodName × String) := [("SeatStraps$Car", 125, ⟨"SeatStraps", "isSeat", "(I)Z"⟩, "SeatStraps"), ("SeatStraps$CarText", 46, ⟨"SeatStraps", "isKind", "(I)Z"⟩, "SeatStraps"), ("SeatStraps$CarText", 97, ⟨"SeatStraps", "isSeat", "(I)Z"⟩, "SeatStraps"), ("SeatStraps$Kinds", 9, ⟨"SeatStraps", "isKind", "(I)Z"⟩, "SeatStraps")]
/-- what nobody writes: the table of kinds, the strings, the links to private members of a nest mate -/
def zEv (Γ : zC) (A : Nat → Prop) (U : State) (H : Heap) : Prop :=
  va_Z "SeatStraps$Kinds" "ABOVE" "[I" (.ref (zt Γ)) A U H ∧ va_T .int (zt Γ) 6 (fun j => .int (zi (zabove j))) A U H ∧ va_Z "java/lang/String" "COMPACT_STRINGS" "Z" (.int 1) A U H ∧
  va_Zq "jdk/internal/util/Preconditions" "SIOOBE_FORMATTER" "Ljava/util/function/BiFunction;" A U H ∧ vk_S 14 zlen zbyt (zaK Γ) (zaV Γ) A U H ∧
  (∀ i : Nat, i < 14 → vk_R RX1 (zstr.getD i (0, "")).1 (zstr.getD i (0, "")).2 (zaK Γ i) U) ∧ (∀ w ∈ znest, va_Nw (.methodLinkNest w.1 w.2.1 w.2.2.1 w.2.2.2) U)
theorem va_Zq.kept9 {C n d : String} {A : Nat → Prop} {U : State} {H H1 : Heap} (h : va_Zq C n d A U H) (hq : ∀ a : Nat, a < H.size → ¬ A a → H1[a]? = H[a]?) : va_Zq C n d A U H1 := by
  rcases h with h | ⟨t, h⟩
  · exact Or.inl (h.kept hq)
  · exact Or.inr ⟨t, h.kept hq⟩
theorem va_Zq.moved9 {C n d : String} {A : Nat → Prop} {u U : State} {H : Heap} (hvm : u.vm.Alike U.vm) (h : va_Zq C n d A u H) : va_Zq C n d A U H := by
  rcases h with h | ⟨t, h⟩
  · exact Or.inl (h.moved hvm)
  · exact Or.inr ⟨t, h.moved hvm⟩
theorem va_Zq.narrow9 {C n d : String} {A B : Nat → Prop} {U : State} {H : Heap} (h : va_Zq C n d A U H) (hAB : ∀ q, B q → A q) : va_Zq C n d B U H := by
  rcases h with h | ⟨t, h⟩
  · exact Or.inl (h.narrow hAB)
  · exact Or.inr ⟨t, h.narrow hAB⟩
theorem zEv.kept {Γ : zC} {A : Nat → Prop} {U : State} {H H1 : Heap} (h : zEv Γ A U H) (hq : ∀ a : Nat, a < H.size → ¬ A a → H1[a]? = H[a]?) : zEv Γ A U H1 := by
  obtain ⟨h1, h2, h3, h4, h5, h6, h7⟩ := h
  exact ⟨h1.kept hq, h2.kept hq, h3.kept hq, h4.kept9 hq, h5.kept hq, h6, h7⟩
theorem zEv.narrow {Γ : zC} {A B : Nat → Prop} {U : State} {H : Heap} (h : zEv Γ A U H) (hAB : ∀ q, B q → A q) : zEv Γ B U H := by
  obtain ⟨h1, h2, h3, h4, h5, h6, h7⟩ := h
  exact ⟨h1.narrow hAB, h2.narrow hAB, h3.narrow hAB, h4.narrow9 hAB, h5.narrow hAB, h6, h7⟩
theorem zEv.warm {Γ : zC} {A : Nat → Prop} {s U : State} {H : Heap} (hW : s.WarmedH U.vm) (h : zEv Γ A s H) : zEv Γ A U H := by
  obtain ⟨h1, h2, h3, h4, h5, h6, h7⟩ := h
  exact ⟨h1.moved hW.alike, h2.moved hW.alike, h3.moved hW.alike, h4.moved9 hW.alike, h5.moved hW.alike, fun i hi => (h6 i hi).warm hW, fun w hw => va_Nw.warmM hW (h7 w hw)⟩
theorem zEv.same {Γ : zC} {A : Nat → Prop} {u U : State} {H : Heap} (hv : U.vm = u.vm) (h : zEv Γ A u H) : zEv Γ A U H := by
  obtain ⟨h1, h2, h3, h4, h5, h6, h7⟩ := h
  have ha : u.vm.Alike U.vm := by rw [hv]; exact Vm.Alike.refl _
  exact ⟨h1.moved ha, h2.moved ha, h3.moved ha, h4.moved9 ha, h5.moved ha, fun i hi => (h6 i hi).same hv, fun w hw => va_Nw.same rfl hv.symm (h7 w hw)⟩
/-- a world at a method's start -/
def zWd (Γ : zC) (μ : zMem) (U : State) : Prop := zApart Γ ∧ va_P (zD Γ) vwCl (zws Γ μ) U.heap ∧ va_K (zD Γ) vwCl (ztys Γ) U ∧ zEv Γ (zAA Γ) U U.heap
/-- a method: its name, code, locals, answer -/
abbrev zM : Type := MethodName × ByteArray × Nat × Option FieldType
def zcode (y : zM) : Cond := .code y.1 y.2.1 y.2.2.1 y.2.2.2
def zRm (d : Nat) : Room := { frames := d, cells := 0, slots := 0, locals := 36 * d }
def zQc (Γ : zC) (r : Option Value) (μ' : zMem) : Array Value → State → Outcome → State → Prop := fun _ st o t => o = .returned r ∧ va_P (zD Γ) vwCl (zws Γ μ') t.heap ∧ va_F (zAA Γ) st t
def zRet (Γ : zC) (l : Launch) (d : Nat) (y : zM) (av : List Value) (μ : zMem) (r : Option Value) (μ' : zMem) : Prop :=
  Met l y.1 (zcode y :: tblG) (zRm d) (va_Pc av (zWd Γ μ)) (zQc Γ r μ') 0 0 (zAA Γ)
theorem zblind {Γ : zC} {av : List Value} {μ : zMem} : FrameBlind (va_Pc av (zWd Γ μ)) := by
  intro a U g mk q
  obtain ⟨q0, q1, qP, qK, qE⟩ := q
  exact ⟨q0, q1, qP, va_K.moved (u := U) (U := U.calling g mk a) (Vm.Alike.refl U.vm) qK, zEv.same (u := U) (U := U.calling g mk a) rfl qE⟩
/-- the fixed things of a walk -/
def zCx (Γ : zC) (A : Nat → Prop) (p : Program) (s : State) (m : MethodId) (args : Array Value) (c : Code) (own : String) (cc : ByteArray) (nL : Nat) : Prop :=
  p.tables.exec = Jvm.exec ∧ c.code = cc ∧ c.maxLocals = nL ∧ s.vm.findClass own = some m.cls ∧ (∀ w ∈ tblG, w.before args s = true) ∧ va_K (zD Γ) vwCl (ztys Γ) s ∧ zApart Γ ∧ zEv Γ A s s.heap ∧ (∀ q, zAA Γ q → A q)
/-- the locals: a list by places; null: nothing is said -/
def zlv (ls : Array Slot) (n : Nat) (lv : List Value) : Prop := ls.size = n ∧ lv_wf ls ∧ ∀ (i : Nat) (v : Value), lv[i]? = some v → v = .null ∨ ls[i]? = some (.val v)
def zV (Γ : zC) (A : Nat → Prop) (p : Program) (l : Launch) (e : Env) (R : Room) (s : State) (m : MethodId) (args : Array Value) (below : List Frame) (meth : Method) (c : Code) (cells slots : Nat) (Q : State → Prop) (pc : Nat) (lv st : List Value) (μ : zMem) : Prop :=
  ∀ (H : Heap) (locs : List Loc) (ls : Array Slot), zlv ls c.maxLocals lv → va_P (zD Γ) vwCl (zws Γ μ) H → va_S A s.heap H locs → W p l e R s m args below meth c H locs cells slots Q (F0 m pc ls st)
theorem zlv_at {ls : Array Slot} {n : Nat} {lv : List Value} (h : zlv ls n lv) {i : Nat} {v : Value} (hi : lv[i]? = some v) (hv : v ≠ .null) : ls[i]? = some (.val v) := (h.2.2 i v hi).resolve_left hv
theorem zlv_entry {vs lv : List Value} {n : Nat} (hn : (lg_sl vs).length ≤ n) (h : ∀ (i : Nat) (v : Value), lv[i]? = some v → v = .null ∨ (i, v) ∈ lv_args 0 vs) : zlv ((lg_sl vs ++ List.replicate (n - (lg_sl vs).length) Slot.unset).toArray) n lv := by
  have h0 := lv_entry vs hn
  exact ⟨h0.1, h0.2.1, fun i v hi => (h i v hi).imp id (fun hm => h0.2.2 (i, v) hm)⟩
/-- a store of one slot -/
theorem zlv_store {ls : Array Slot} {n : Nat} {lv : List Value} {i : Nat} {v : Value} (h : zlv ls n lv) (hi : i < n) (hc : v.category = 1) (hp : ∀ w, lv[i - 1]? = some w → i ≠ 0 → w.category = 1) :
    ∃ ls', storeLocals ls i v = some ls' ∧ zlv ls' n (lv.set i v) := by
  classical
  obtain ⟨h1, h2, h3⟩ := h
  let l : List (Nat × Value) := ((List.range lv.length).map (fun j => (j, lv.getD j .null))).filter (fun q => decide (ls[q.1]? = some (.val q.2)))
  have hl : lv_has ls n l := ⟨h1, h2, fun q hq => by simpa using (List.mem_filter.mp hq).2⟩
  obtain ⟨ls', e', hs', hw', hl'⟩ := lv_store1 (v := v) hl hi hc
  refine ⟨ls', e', hs', hw', fun j w hj => ?_⟩
  rw [List.getElem?_set] at hj
  by_cases hij : i = j
  · subst hij
    simp only [if_true] at hj
    split at hj
    · cases hj
      exact Or.inr (hl' (i, v) List.mem_cons_self)
    · cases hj
  · rw [if_neg hij] at hj
    rcases h3 j w hj with hw | hw
    · exact Or.inl hw
    · right
      refine hl' (j, w) (List.mem_cons_of_mem _ (List.mem_filter.mpr ⟨List.mem_filter.mpr ⟨List.mem_map.mpr ⟨j, List.mem_range.mpr (List.getElem?_eq_some_iff.mp hj).1, ?_⟩, by simpa using hw⟩, ?_⟩))
      · simp [List.getD, hj]
      · have hji : ¬ j = i := fun q => hij q.symm
        by_cases hj1 : j + 1 = i
        · have := hp w (by rw [← hj1]; simpa using hj) (by omega)
          simp [hji, this]
        · simp [hji, hj1]
/-- a store of two slots -/
theorem zlv_store2 {ls : Array Slot} {n : Nat} {lv : List Value} {i : Nat} {v : Value} (h : zlv ls n lv) (hi : i + 1 < n) (hc : v.category = 2) (hp : ∀ w, lv[i - 1]? = some w → i ≠ 0 → w.category = 1) :
    ∃ ls', storeLocals ls i v = some ls' ∧ zlv ls' n ((lv.set i v).set (i + 1) .null) := by
  classical
  obtain ⟨h1, h2, h3⟩ := h
  let l : List (Nat × Value) := ((List.range lv.length).map (fun j => (j, lv.getD j .null))).filter (fun q => decide (ls[q.1]? = some (.val q.2)))
  have hl : lv_has ls n l := ⟨h1, h2, fun q hq => by simpa using (List.mem_filter.mp hq).2⟩
  obtain ⟨ls', e', hs', hw', hl'⟩ := lv_store2 (v := v) hl hi hc
  refine ⟨ls', e', hs', hw', fun j w hj => ?_⟩
  rw [List.getElem?_set, List.getElem?_set] at hj
  by_cases hij : i + 1 = j
  · subst hij
    simp only [if_true] at hj
    split at hj
    · cases hj
      exact Or.inl rfl
    · cases hj
  · rw [if_neg hij] at hj
    by_cases hij2 : i = j
    · subst hij2
      simp only [if_true] at hj
      split at hj
      · cases hj
        exact Or.inr (hl' (i, v) List.mem_cons_self)
      · cases hj
    · rw [if_neg hij2] at hj
      rcases h3 j w hj with hw | hw
      · exact Or.inl hw
      · right
        refine hl' (j, w) (List.mem_cons_of_mem _ (List.mem_filter.mpr ⟨List.mem_filter.mpr ⟨List.mem_map.mpr ⟨j, List.mem_range.mpr (List.getElem?_eq_some_iff.mp hj).1, ?_⟩, by simpa using hw⟩, ?_⟩))
        · simp [List.getD, hj]
        · have hji : ¬ j = i := fun q => hij2 q.symm
          have hji2 : ¬ j = i + 1 := fun q => hij q.symm
          by_cases hj1 : j + 1 = i
          · have := hp w (by rw [← hj1]; simpa using hj) (by omega)
            simp [hji, hji2, this]
          · simp [hji, hji2, hj1]
/-- a method out of its walk -/
theorem zRet.of {Γ : zC} {l : Launch} {d : Nat} {y : MethodName} {cc : ByteArray} {maxL : Nat} {ret : Option FieldType} {av lv : List Value} {μ μ' : zMem} {r : Option Value} (hy : plainName y.cls = true) (hn : (lg_sl av).length ≤ maxL)
    (hlv : ∀ (i : Nat) (v : Value), lv[i]? = some v → v = .null ∨ (i, v) ∈ lv_args 0 av)
    (k : ∀ p e s m below meth c, zCx Γ (zAA Γ) p s m av.toArray c y.cls cc maxL → meth.sig.returnType = ret → meth.locks = false →
      zV Γ (zAA Γ) p l e (zRm d) s m av.toArray below meth c 0 0 (MQ below (zQc Γ r μ') av.toArray s 0 0 (zAA Γ)) 0 lv [] μ) : zRet Γ l d (y, cc, maxL, ret) av μ r μ' := by
  refine Met.ofW (cc := cc) (maxL := maxL) (ret := ret) hy rfl ?_
  intro p e s m args below meth c s₁ B hml hv
  obtain ⟨rfl, hAp, hP, hK, hE⟩ := hv
  have hts := atoms_spec (ws := zcode (y, cc, maxL, ret) :: tblG) B.pre
  have hown : s.vm.findClass y.cls = some m.cls := findClass_of_methodNamed B.named
  rw [lg_entry_eq]
  have h0 := zlv_entry (n := maxL) hn hlv
  refine k p e s m below meth c ⟨B.exec, B.bytes, hml, hown, fun w hw => hts w (List.mem_cons_of_mem _ hw), hK, hAp, hE, fun _ h => h⟩ B.returns B.notSynchronized s.heap [] _ (by rw [hml]; exact h0) hP va_S.rf
