/-! worlds that grow: constructors -/
theorem va_P_iff {D : va_G} {cl : List vw_C} {ws : va_W} {H : Heap} : va_P D cl ws H ↔ ∀ x ∈ ws, va_at D cl x H := by
  constructor
  · intro h x hx
    obtain ⟨k, hk⟩ := List.getElem?_of_mem hx
    exact h k x hk
  · intro h k q hq
    exact h q (List.mem_of_getElem? hq)
theorem va_D_iff {A : Nat → Prop} {ws : va_W} : va_D A ws ↔ ws.Pairwise (fun x y => x.1 ≠ y.1) ∧ ∀ x ∈ ws, A x.1 := by
  constructor
  · intro h
    refine ⟨List.pairwise_iff_getElem.mpr (fun i j hi hj hij e => ?_), fun x hx => ?_⟩
    · have := h.1 i j _ _ (List.getElem?_eq_getElem hi) (List.getElem?_eq_getElem hj) e
      omega
    · obtain ⟨k, hk⟩ := List.getElem?_of_mem hx
      exact h.2 k x hk
  · intro h
    refine ⟨fun i j p q hi hj e => ?_, fun k q hq => h.2 q (List.mem_of_getElem? hq)⟩
    obtain ⟨hi', ei⟩ := List.getElem?_eq_some_iff.mp hi
    obtain ⟨hj', ej⟩ := List.getElem?_eq_some_iff.mp hj
    have hp := List.pairwise_iff_getElem.mp h.1
    rcases Nat.lt_trichotomy i j with q1 | q1 | q1
    · exact absurd (by rw [ei, ej]; exact e) (hp i j hi' hj' q1)
    · exact q1
    · exact absurd (by rw [ei, ej]; exact e.symm) (hp j i hj' hi' q1)
theorem va_P.perm {D : va_G} {cl : List vw_C} {ws ws' : va_W} {H : Heap} (h : va_P D cl ws H) (hp : ws.Perm ws') : va_P D cl ws' H := va_P_iff.mpr (fun x hx => va_P_iff.mp h x (hp.mem_iff.mpr hx))
theorem va_D.perm {A : Nat → Prop} {ws ws' : va_W} (h : va_D A ws) (hp : ws.Perm ws') : va_D A ws' := by
  rw [va_D_iff] at h ⊢
  exact ⟨(hp.pairwise_iff (fun {x y} q => fun z => q z.symm)).mp h.1, fun x hx => h.2 x (hp.mem_iff.mpr hx)⟩
/-- behind a call that made a world out of one cell -/
theorem va_grow {A : Nat → Prop} {D : va_G} {cl : List vw_C} {q : Nat} {e0 : va_E} {rest w : va_W} {H H1 : Heap} (hP : va_P D cl ((q, e0) :: rest) H) (hD : va_D A ((q, e0) :: rest)) (hsz : ∀ a : Nat, H.size ≤ a → A a)
    (hk : ∀ a : Nat, a < H.size → ¬ va_A [(q, e0)] H.size a → H1[a]? = H[a]?) (hP1 : va_P D cl w H1) (hD1 : va_D (va_A [(q, e0)] H.size) w) : va_P D cl (w ++ rest) H1 ∧ va_D A (w ++ rest) := by
  have hlt : ∀ x ∈ rest, x.1 < H.size := fun x hx => (va_P_iff.mp hP x (List.mem_cons_of_mem _ hx)).lt
  rw [va_D_iff] at hD hD1
  have hne : ∀ x ∈ rest, q ≠ x.1 := fun x hx => (List.pairwise_cons.mp hD.1).1 x hx
  have hno : ∀ x ∈ rest, ¬ va_A [(q, e0)] H.size x.1 := fun x hx z => by
    rcases z with ⟨k, e, z⟩ | z
    · cases k with
      | zero =>
        simp only [List.getElem?_cons_zero, Option.some.injEq, Prod.mk.injEq] at z
        exact hne x hx z.1
      | succ k => simp at z
    · exact absurd (hlt x hx) (by omega)
  refine ⟨?_, ?_⟩
  · rw [va_P_iff]
    intro x hx
    rcases List.mem_append.mp hx with h | h
    · exact va_P_iff.mp hP1 x h
    · have hr : va_P D cl rest H := va_P_iff.mpr (fun y hy => va_P_iff.mp hP y (List.mem_cons_of_mem _ hy))
      have hr1 : va_P D cl rest H1 := hr.kept (fun k y hy => hk y.1 (hlt y (List.mem_of_getElem? hy)) (hno y (List.mem_of_getElem? hy)))
      exact va_P_iff.mp hr1 x h
  · rw [va_D_iff]
    refine ⟨List.pairwise_append.mpr ⟨hD1.1, (List.pairwise_cons.mp hD.1).2, fun x hx y hy e => ?_⟩, fun x hx => ?_⟩
    · exact hno y hy (e ▸ hD1.2 x hx)
    · rcases List.mem_append.mp hx with h | h
      · rcases hD1.2 x h with ⟨k, e, z⟩ | z
        · cases k with
          | zero =>
            simp only [List.getElem?_cons_zero, Option.some.injEq, Prod.mk.injEq] at z
            rw [← z.1]
            exact hD.2 (q, e0) List.mem_cons_self
          | succ k => simp at z
        · exact hsz _ z
      · exact hD.2 x (List.mem_cons_of_mem _ h)
def znestI : List (String × Nat × MethodName × String) := [("SeatStraps", 24, ⟨"SeatStraps$CarText", "<init>", "()V"⟩, "SeatStraps"), ("SeatStraps", 31, ⟨"SeatStraps$Ways", "<init>", "()V"⟩, "SeatStraps"), ("SeatStraps", 50, ⟨"SeatStraps$Sheet", "<init>", "()V"⟩, "SeatStraps"), ("SeatStraps$Car", 36, ⟨"SeatStraps$Seat", "<init>", "()V"⟩, "SeatStraps"), ("SeatStraps$Car", 37, ⟨"SeatStraps$Child", "<init>", "()V"⟩, "SeatStraps"), ("SeatStraps$CarText", 11, ⟨"SeatStraps$Tape", "<init>", "()V"⟩, "SeatStraps")]
/-- what constructors ask of the tables beside the good words -/
def zIv (U : State) : Prop := (∀ C ∈ [RX4, RX2, RX5], va_AO C U) ∧ (∀ w ∈ znestI, va_Nw (.methodLinkNest w.1 w.2.1 w.2.2.1 w.2.2.2) U)
theorem zIv.warm {s U : State} (hW : s.WarmedH U.vm) (h : zIv s) : zIv U := ⟨fun C hC => (h.1 C hC).moved hW.alike, fun w hw => va_Nw.warmM hW (h.2 w hw)⟩
theorem zIv.same {u U : State} (hv : U.vm = u.vm) (h : zIv u) : zIv U := by
  have ha : u.vm.Alike U.vm := by rw [hv]; exact Vm.Alike.refl _
  exact ⟨fun C hC => (h.1 C hC).moved ha, fun w hw => va_Nw.same rfl hv.symm (h.2 w hw)⟩
def zRmN (d mc ms : Nat) : Room := { frames := d, cells := mc, slots := ms, locals := 36 * d }
/-- the world at a constructor's start: one cell -/
def zW1 (Γ : zC) (sz h0 : Nat) (e0 : va_E) (U : State) : Prop := U.heap.size = sz ∧ va_P (zD Γ) vwCl [(h0, e0)] U.heap ∧ va_K (zD Γ) vwCl (ztys Γ) U ∧ zIv U ∧ h0 < sz
/-- a constructor: out of the cell e0 it makes a world as Pst says; mc cells of ms slots are new -/
def zNew (Γ : zC) (l : Launch) (d : Nat) (y : zM) (e0 : va_E) (mc ms : Nat) (Pst : Nat → va_W → Prop) : Prop :=
  ∀ h0 sz : Nat, Met l y.1 (zcode y :: tblG) (zRmN d mc ms) (va_Pc [.ref h0] (zW1 Γ sz h0 e0)) (va_Qv (fun w : va_W => Pst h0 w) (fun w t => va_P (zD Γ) vwCl w t.heap ∧ va_D (va_A [(h0, e0)] sz) w) (va_A [(h0, e0)] sz)) mc ms (va_A [(h0, e0)] sz)
/-- the fixed things of a constructor's walk -/
def zNx (Γ : zC) (A : Nat → Prop) (p : Program) (s : State) (m : MethodId) (args : Array Value) (meth : Method) (c : Code) (own : String) (cc : ByteArray) (nL : Nat) : Prop :=
  p.tables.exec = Jvm.exec ∧ c.code = cc ∧ c.maxLocals = nL ∧ s.vm.findClass own = some m.cls ∧ (∀ w ∈ tblG, w.before args s = true) ∧ va_K (zD Γ) vwCl (ztys Γ) s ∧ zIv s ∧ (∀ q, s.heap.size ≤ q → A q)
def zN (Γ : zC) (A : Nat → Prop) (p : Program) (l : Launch) (e : Env) (R : Room) (s : State) (m : MethodId) (args : Array Value) (below : List Frame) (meth : Method) (c : Code) (cells slots : Nat) (Q : State → Prop) (pc : Nat) (lv st : List Value) (ws : va_W) : Prop :=
  ∀ (H : Heap) (locs : List Loc) (ls : Array Slot), zlv ls c.maxLocals lv → va_P (zD Γ) vwCl ws H → va_D A ws → va_S A s.heap H locs → W p l e R s m args below meth c H locs cells slots Q (F0 m pc ls st)
section ZNEW
variable {Γ : zC} {A : Nat → Prop} {p : Program} {l : Launch} {e : Env} {R : Room} {s : State} {m : MethodId} {args : Array Value} {below : List Frame} {meth : Method} {c : Code} {cells slots : Nat} {Q : State → Prop} {own : String} {cc : ByteArray} {nL pc n : Nat} {lv st : List Value} {ws ws' : va_W}
theorem zN_perm (h : ws.Perm ws') (k : zN Γ A p l e R s m args below meth c cells slots Q pc lv st ws') : zN Γ A p l e R s m args below meth c cells slots Q pc lv st ws :=
  fun H locs ls hl hP hD hS => k H locs ls hl (hP.perm h) (hD.perm h) hS
theorem zN_widen {k1 k2 : Nat} (h1 : cells ≤ k1) (h2 : slots ≤ k2) (k : zN Γ A p l e R s m args below meth c k1 k2 Q pc lv st ws) : zN Γ A p l e R s m args below meth c cells slots Q pc lv st ws :=
  fun H locs ls hl hP hD hS => W.widen h1 h2 (k H locs ls hl hP hD hS)
theorem zN_aload_n (C : zNx Γ A p s m args meth c own cc nL) {f : Fin 4} {i x : Nat} (d : decode cc pc = .ok (.aload_n f, 1)) (hi : (f : Nat) = i) (hx : lv[i]? = some (.ref x)) (hp : pc + 1 = n) (k : zN Γ A p l e R s m args below meth c cells slots Q n lv (.ref x :: st) ws) : zN Γ A p l e R s m args below meth c cells slots Q pc lv st ws := by
  subst hp
  intro H locs ls hl hP hD hS
  exact lv_aload_n C.1 C.2.1 d hi (zlv_at hl hx (fun q => by cases q)) (k H locs ls hl hP hD hS)
theorem zN_iload_n (C : zNx Γ A p s m args meth c own cc nL) {f : Fin 4} {i : Nat} {x : Int32} (d : decode cc pc = .ok (.iload_n f, 1)) (hi : (f : Nat) = i) (hx : lv[i]? = some (.int x)) (hp : pc + 1 = n) (k : zN Γ A p l e R s m args below meth c cells slots Q n lv (.int x :: st) ws) : zN Γ A p l e R s m args below meth c cells slots Q pc lv st ws := by
  subst hp
  intro H locs ls hl hP hD hS
  exact lv_iload_n C.1 C.2.1 d hi (zlv_at hl hx (fun q => by cases q)) (k H locs ls hl hP hD hS)
theorem zN_istore_n (C : zNx Γ A p s m args meth c own cc nL) {f : Fin 4} {i : Nat} {x : Int32} {lv' : List Value} (d : decode cc pc = .ok (.istore_n f, 1)) (hi : (f : Nat) = i) (hn : i < nL) (hpr : ∀ w, lv[i - 1]? = some w → i ≠ 0 → w.category = 1) (hlv : lv.set i (.int x) = lv') (hp : pc + 1 = n) (k : zN Γ A p l e R s m args below meth c cells slots Q n lv' st ws) : zN Γ A p l e R s m args below meth c cells slots Q pc lv (.int x :: st) ws := by
  subst hp
  subst hi
  subst hlv
  intro H locs ls hl hP hD hS
  obtain ⟨ls', e', h'⟩ := zlv_store (v := .int x) hl (by rw [C.2.2.1]; exact hn) rfl hpr
  obtain ⟨hexec, hb, -⟩ := C
  intro T hT X
  obtain ⟨t, a, b⟩ := k H locs ls' h' hP hD hS T hT X
  refine ⟨t, ?_, b⟩
  jvm_step X.here [X.here.top, ↓top_set X.here.top, hexec, hb, d, e']
  exact a
theorem zN_iinc (C : zNx Γ A p s m args meth c own cc nL) {i : Nat} {v x : Int} {lv' : List Value} (d : decode cc pc = .ok (.iinc i v, 3)) (hx : lv[i]? = some (.int (zi x))) (hn : i < nL) (hpr : ∀ w, lv[i - 1]? = some w → i ≠ 0 → w.category = 1) (hlv : lv.set i (.int (zi (x + v))) = lv') (hp : pc + 3 = n) (k : zN Γ A p l e R s m args below meth c cells slots Q n lv' st ws) : zN Γ A p l e R s m args below meth c cells slots Q pc lv st ws := by
  subst hp
  subst hlv
  intro H locs ls hl hP hD hS
  have hg := zlv_at hl hx (fun q => by cases q)
  obtain ⟨ls', e', h'⟩ := zlv_store (v := .int (zi x + Int32.ofInt v)) hl (by rw [C.2.2.1]; exact hn) rfl hpr
  obtain ⟨hexec, hb, -⟩ := C
  intro T hT X
  rw [zi_add] at k
  obtain ⟨t, a, b⟩ := k H locs ls' h' hP hD hS T hT X
  refine ⟨t, ?_, b⟩
  jvm_step X.here [X.here.top, ↓top_set X.here.top, hexec, hb, d, hg, e']
  exact a
theorem zN_iconst (C : zNx Γ A p s m args meth c own cc nL) {v : Int} (d : decode cc pc = .ok (.iconst v, 1)) (hp : pc + 1 = n) (k : zN Γ A p l e R s m args below meth c cells slots Q n lv (.int (zi v) :: st) ws) : zN Γ A p l e R s m args below meth c cells slots Q pc lv st ws := by
  subst hp
  intro H locs ls hl hP hD hS
  exact lv_iconst C.1 C.2.1 d rfl (k H locs ls hl hP hD hS)
theorem zN_bipush (C : zNx Γ A p s m args meth c own cc nL) {v : Int} (d : decode cc pc = .ok (.bipush v, 2)) (hv : (Int8.ofInt v).toInt32 = zi v) (hp : pc + 2 = n) (k : zN Γ A p l e R s m args below meth c cells slots Q n lv (.int (zi v) :: st) ws) : zN Γ A p l e R s m args below meth c cells slots Q pc lv st ws := by
  subst hp
  intro H locs ls hl hP hD hS
  exact lv_bipush C.1 C.2.1 d hv (k H locs ls hl hP hD hS)
theorem zN_sipush (C : zNx Γ A p s m args meth c own cc nL) {v : Int} (d : decode cc pc = .ok (.sipush v, 3)) (hv : (Int16.ofInt v).toInt32 = zi v) (hp : pc + 3 = n) (k : zN Γ A p l e R s m args below meth c cells slots Q n lv (.int (zi v) :: st) ws) : zN Γ A p l e R s m args below meth c cells slots Q pc lv st ws := by
  subst hp
  intro H locs ls hl hP hD hS
  exact lv_sipush C.1 C.2.1 d hv (k H locs ls hl hP hD hS)
theorem zN_dup (C : zNx Γ A p s m args meth c own cc nL) {v : Value} (d : decode cc pc = .ok (.dup, 1)) (hv : v.category = 1) (hp : pc + 1 = n) (k : zN Γ A p l e R s m args below meth c cells slots Q n lv (v :: v :: st) ws) : zN Γ A p l e R s m args below meth c cells slots Q pc lv (v :: st) ws := by
  subst hp
  intro H locs ls hl hP hD hS
  exact lv_dup C.1 C.2.1 d hv (k H locs ls hl hP hD hS)
theorem zN_goto (C : zNx Γ A p s m args meth c own cc nL) {off : Int} (tgt : Nat) (d : decode cc pc = .ok (.goto off, 3)) (ht : (pc : Int) + off = (tgt : Int)) (k : zN Γ A p l e R s m args below meth c cells slots Q tgt lv st ws) : zN Γ A p l e R s m args below meth c cells slots Q pc lv st ws := by
  intro H locs ls hl hP hD hS
  exact lv_goto C.1 C.2.1 d ht (k H locs ls hl hP hD hS)
theorem zN_geF (C : zNx Γ A p s m args meth c own cc nL) {x y : Int} {off : Int} (tgt : Nat) (d : decode cc pc = .ok (.if_icmp .ge off, 3)) (ht : (pc : Int) + off = (tgt : Int)) (hx : -2147483648 ≤ x ∧ x ≤ 2147483647) (hy : -2147483648 ≤ y ∧ y ≤ 2147483647) (hlt : x < y) (hp : pc + 3 = n) (k : zN Γ A p l e R s m args below meth c cells slots Q n lv st ws) : zN Γ A p l e R s m args below meth c cells slots Q pc lv (.int (zi y) :: .int (zi x) :: st) ws := by
  subst hp
  intro H locs ls hl hP hD hS
  have hc := zi_le hy hx
  exact lv_icmp_ge C.1 C.2.1 d ht (fun q => absurd (hc.mp q) (by omega)) (fun q => k H locs ls hl hP hD hS)
theorem zN_geT (C : zNx Γ A p s m args meth c own cc nL) {x y : Int} {off : Int} (tgt : Nat) (d : decode cc pc = .ok (.if_icmp .ge off, 3)) (ht : (pc : Int) + off = (tgt : Int)) (hx : -2147483648 ≤ x ∧ x ≤ 2147483647) (hy : -2147483648 ≤ y ∧ y ≤ 2147483647) (hge : y ≤ x) (k : zN Γ A p l e R s m args below meth c cells slots Q tgt lv st ws) : zN Γ A p l e R s m args below meth c cells slots Q pc lv (.int (zi y) :: .int (zi x) :: st) ws := by
  intro H locs ls hl hP hD hS
  have hc := zi_le hy hx
  exact lv_icmp_ge C.1 C.2.1 d ht (fun q => k H locs ls hl hP hD hS) (fun q => absurd (hc.mpr hge) q)
theorem zN_objinit {a idx : Nat} (C : zNx Γ A p s m args meth c own cc nL) (hl : Cond.methodLink own idx Lib.objectInit ∈ tblG) (hw : Cond.instanceMethod Lib.objectInit ∈ tblG ∧ Cond.code Lib.objectInit ⟨#[0xb1]⟩ 1 none ∈ tblG) (d : decode cc pc = .ok (.invokespecial idx, 3)) (hst : (st.map fun v => v.category).sum ≤ 8) (hR : 1 ≤ R.frames ∧ 20 ≤ R.locals) (hp : pc + 3 = n) (k : zN Γ A p l e R s m args below meth c cells slots Q n lv st ws) : zN Γ A p l e R s m args below meth c cells slots Q pc lv (.ref a :: st) ws := by
  subst hp
  intro H locs ls hl9 hP hD hS
  refine W.objInit C.1 C.2.1 C.2.2.2.1 (C.2.2.2.2.1 _ hl) (C.2.2.2.2.1 _ hw.1) (C.2.2.2.2.1 _ hw.2) rfl hl9.1 rfl d hR.1 ?_ ?_
  · show 2 * 0 + _ + 12 ≤ _
    omega
  · exact k H locs ls hl9 hP hD hS
theorem zN_new {ci N idx : Nat} {CN : String} {T : u_T} {ty : Nat → FieldType} {fs : List Value} (C : zNx Γ A p s m args meth c own cc nL) (b : zCl ci CN T N ty) (hl : Cond.classLink own idx CN ∈ tblG) (hi : Cond.instantiable CN N ∈ tblG ∧ Cond.initialized CN ∈ tblG) (d : decode cc pc = .ok (.new idx, 3)) (hfs : ∀ j, j < N → defaultValue (ty j) = vp_V fs j) (hR : cells + 1 ≤ R.cells ∧ slots + N ≤ R.slots) (hp : pc + 3 = n)
    (k : ∀ q : Nat, zN Γ A p l e R s m args below meth c (cells + 1) (slots + N) Q n lv (.ref q :: st) ((q, .inr (ci, fs)) :: ws)) : zN Γ A p l e R s m args below meth c cells slots Q pc lv st ws := by
  subst hp
  intro H locs ls hl9 hP hD hS
  refine va_new C.1 C.2.1 C.2.2.2.2.1 b.2.1 ty b.2.2.1 C.2.2.2.1 (C.2.2.2.2.1 _ hl) (C.2.2.2.2.1 _ hi.1) (C.2.2.2.2.1 _ hi.2) C.2.2.2.2.2.1 hP hD hS C.2.2.2.2.2.2.2 b.1 hfs hR.1 hR.2 d (fun q H1 hP1 hD1 hS1 => ?_)
  have hpm : (ws ++ [(q, (.inr (ci, fs) : va_E))]).Perm ((q, .inr (ci, fs)) :: ws) := List.perm_append_comm
  exact k q H1 locs ls hl9 (hP1.perm hpm) (hD1.perm hpm) hS1
theorem zN_putF {ci N f idx a : Nat} {CN : String} {T : u_T} {ty : Nat → FieldType} {fs fs' : List Value} {v : Value} (q0 : Nat) (C : zNx Γ A p s m args meth c own cc nL) (hin : meth.name = "<init>") (b : zCl ci CN T N ty) (hl : Cond.fieldLink own idx (T f).1 (T f).2.1 (T f).2.2.1 ∈ tblG) (d : decode cc pc = .ok (.putfield idx, 3)) (he : ws[q0]? = some (a, .inr (ci, fs))) (hf : f < N) (hfin : (T f).2.2.2 = true) (hdecl : (T f).1 = own) (hn : narrow (ty f) v = v) (hfit : fits (ty f) v = true) (hlen : f < fs.length) (hfs : fs.set f v = fs') (hws : ws.set q0 (a, .inr (ci, fs')) = ws') (hp : pc + 3 = n)
    (k : zN Γ A p l e R s m args below meth c cells slots Q n lv st ws') : zN Γ A p l e R s m args below meth c cells slots Q pc lv (v :: .ref a :: st) ws := by
  subst hp
  subst hfs
  subst hws
  intro H locs ls hl9 hP hD hS
  exact va_putF (C := CN) (T := T) (N := N) (ci := ci) (ty := ty f) C.1 C.2.1 C.2.2.2.2.1 b.2.1 ty b.2.2.1 b.2.2.2 C.2.2.2.1 C.2.2.2.2.2.1 hP hD hS q0 he b.1 f hf (C.2.2.2.2.1 _ hl) (fun _ h9 => h9) hfin hin hdecl (b.2.2.1 f hf) hn hfit hlen d (fun H1 locs1 hP1 hD1 hS1 => k H1 locs1 ls hl9 hP1 hD1 hS1)
theorem zN_putN {ci N f idx a : Nat} {CN : String} {T : u_T} {ty : Nat → FieldType} {fs fs' : List Value} {v : Value} (q0 : Nat) (C : zNx Γ A p s m args meth c own cc nL) (b : zCl ci CN T N ty) (hl : Cond.fieldLink own idx (T f).1 (T f).2.1 (T f).2.2.1 ∈ tblG) (d : decode cc pc = .ok (.putfield idx, 3)) (he : ws[q0]? = some (a, .inr (ci, fs))) (hf : f < N) (hfin : (T f).2.2.2 = false) (hn : narrow (ty f) v = v) (hfit : fits (ty f) v = true) (hlen : f < fs.length) (hfs : fs.set f v = fs') (hws : ws.set q0 (a, .inr (ci, fs')) = ws') (hp : pc + 3 = n)
    (k : zN Γ A p l e R s m args below meth c cells slots Q n lv st ws') : zN Γ A p l e R s m args below meth c cells slots Q pc lv (v :: .ref a :: st) ws := by
  subst hp
  subst hfs
  subst hws
  intro H locs ls hl9 hP hD hS
  exact va_put (C := CN) (T := T) (N := N) (ci := ci) (ty := ty f) C.1 C.2.1 C.2.2.2.2.1 b.2.1 ty b.2.2.1 b.2.2.2 C.2.2.2.1 C.2.2.2.2.2.1 hP hD hS q0 he b.1 f hf (C.2.2.2.2.1 _ hl) (fun _ h9 => h9) hfin (b.2.2.1 f hf) hn hfit hlen d (fun H1 locs1 hP1 hD1 hS1 => k H1 locs1 ls hl9 hP1 hD1 hS1)
theorem zN_get {ci N f idx a : Nat} {CN : String} {T : u_T} {ty : Nat → FieldType} {fs : List Value} {v : Value} (q0 : Nat) (C : zNx Γ A p s m args meth c own cc nL) (b : zCl ci CN T N ty) (hl : Cond.fieldLink own idx (T f).1 (T f).2.1 (T f).2.2.1 ∈ tblG) (d : decode cc pc = .ok (.getfield idx, 3)) (he : ws[q0]? = some (a, .inr (ci, fs))) (hf : f < N) (hv : fs[f]? = some v) (hp : pc + 3 = n)
    (k : zN Γ A p l e R s m args below meth c cells slots Q n lv (v :: st) ws) : zN Γ A p l e R s m args below meth c cells slots Q pc lv (.ref a :: st) ws := by
  subst hp
  intro H locs ls hl9 hP hD hS
  exact va_get (C := CN) (T := T) (N := N) (ci := ci) C.1 C.2.1 C.2.2.2.2.1 b.2.1 C.2.2.2.1 C.2.2.2.2.2.1 hP q0 he b.1 f hf (C.2.2.2.2.1 _ hl) (fun _ h9 => h9) hv d (k H locs ls hl9 hP hD hS)
theorem zN_newI {N : Nat} {z : Int} (C : zNx Γ A p s m args meth c own cc nL) (harr : Cond.arrayClass .int ∈ tblG) (d : decode cc pc = .ok (.newarray .int, 2)) (hz : 0 ≤ z ∧ z = N) (hN : N ≤ 1000) (hR : cells + 1 ≤ R.cells ∧ slots + N ≤ R.slots) (hp : pc + 2 = n)
    (k : ∀ q : Nat, zN Γ A p l e R s m args below meth c (cells + 1) (slots + N) Q n lv (.ref q :: st) ((q, .inl (zY Γ 0, N, .inl (fun _ => zi 0))) :: ws)) : zN Γ A p l e R s m args below meth c cells slots Q pc lv (.int (zi z) :: st) ws := by
  subst hp
  intro H locs ls hl9 hP hD hS
  refine va_newa (atype := .int) (ty := .int) (a0 := (N, .inl (fun _ => zi 0))) C.1 C.2.1 (C.2.2.2.2.1 _ harr) rfl C.2.2.2.2.2.1 hP hD hS C.2.2.2.2.2.2.2 (fun cA => rfl) (by rw [← zi_0, zi_lt (by omega) (by omega)]; omega) (by rw [zi_clamp (by omega)]; omega) (by show N * 4 ≤ _; omega) hR.1 hR.2 d (fun q cA H1 hK1 hP1 hD1 hS1 => ?_)
  have h1 : s.vm.findClass ("[" ++ FieldType.int.toString) = some cA := (hK1.2 5 (cA, .int) rfl).2
  have h2 : s.vm.findClass ("[" ++ FieldType.int.toString) = some (zY Γ 0) := (hK1.2 0 (zY Γ 0, .int) rfl).2
  have he : cA = zY Γ 0 := Option.some.inj (h1.symm.trans h2)
  subst he
  exact k q H1 locs ls hl9 (hP1.perm List.perm_append_comm) (hD1.perm List.perm_append_comm) hS1
theorem zN_newL {N : Nat} {z : Int} (C : zNx Γ A p s m args meth c own cc nL) (harr : Cond.arrayClass .long ∈ tblG) (d : decode cc pc = .ok (.newarray .long, 2)) (hz : 0 ≤ z ∧ z = N) (hN : N ≤ 1000) (hR : cells + 1 ≤ R.cells ∧ slots + N ≤ R.slots) (hp : pc + 2 = n)
    (k : ∀ q : Nat, zN Γ A p l e R s m args below meth c (cells + 1) (slots + N) Q n lv (.ref q :: st) ((q, .inl (zY Γ 1, N, .inr (.inl (fun _ => zl 0)))) :: ws)) : zN Γ A p l e R s m args below meth c cells slots Q pc lv (.int (zi z) :: st) ws := by
  subst hp
  intro H locs ls hl9 hP hD hS
  refine va_newa (atype := .long) (ty := .long) (a0 := (N, .inr (.inl (fun _ => zl 0)))) C.1 C.2.1 (C.2.2.2.2.1 _ harr) rfl C.2.2.2.2.2.1 hP hD hS C.2.2.2.2.2.2.2 (fun cA => rfl) (by rw [← zi_0, zi_lt (by omega) (by omega)]; omega) (by rw [zi_clamp (by omega)]; omega) (by show N * 8 ≤ _; omega) hR.1 hR.2 d (fun q cA H1 hK1 hP1 hD1 hS1 => ?_)
  have h1 : s.vm.findClass ("[" ++ FieldType.long.toString) = some cA := (hK1.2 5 (cA, .long) rfl).2
  have h2 : s.vm.findClass ("[" ++ FieldType.long.toString) = some (zY Γ 1) := (hK1.2 1 (zY Γ 1, .long) rfl).2
  have he : cA = zY Γ 1 := Option.some.inj (h1.symm.trans h2)
  subst he
  exact k q H1 locs ls hl9 (hP1.perm List.perm_append_comm) (hD1.perm List.perm_append_comm) hS1
theorem zN_newQ {N t idx : Nat} {z : Int} {CN : String} (C : zNx Γ A p s m args meth c own cc nL) (hl : Cond.classLink own idx CN ∈ tblG) (ht : (ztys Γ)[2 + t]? = some (zY Γ (2 + t), .object CN)) (hm : CN ∈ [RX4, RX2, RX5]) (d : decode cc pc = .ok (.anewarray idx, 3)) (hz : 0 ≤ z ∧ z = N) (hN : N ≤ 1000) (hR : cells + 1 ≤ R.cells ∧ slots + N ≤ R.slots) (hp : pc + 3 = n)
    (k : ∀ q : Nat, zN Γ A p l e R s m args below meth c (cells + 1) (slots + N) Q n lv (.ref q :: st) ((q, .inl (zY Γ (2 + t), N, .inr (.inr (.inr (.inr (fun _ => none)))))) :: ws)) : zN Γ A p l e R s m args below meth c cells slots Q pc lv (.int (zi z) :: st) ws := by
  subst hp
  intro H locs ls hl9 hP hD hS
  refine va_newq (C := CN) (N' := N) C.1 C.2.1 C.2.2.2.1 (C.2.2.2.2.1 _ hl) (C.2.2.2.2.2.2.1.1 CN hm) C.2.2.2.2.2.1 hP hD hS C.2.2.2.2.2.2.2 (by rw [← zi_0, zi_lt (by omega) (by omega)]; omega) (by rw [zi_clamp (by omega)]; omega) (by omega) hR.1 hR.2 d (fun q cA H1 hK1 hP1 hD1 hS1 => ?_)
  obtain ⟨kA, comp, -, -, -, h1⟩ := (hK1.2 5 (cA, .object CN) rfl).2
  obtain ⟨kB, comp2, -, -, -, h2⟩ := (C.2.2.2.2.2.1.2 (2 + t) (zY Γ (2 + t), .object CN) ht).2
  have he : cA = zY Γ (2 + t) := Option.some.inj (h1.symm.trans h2)
  subst he
  exact k q H1 locs ls hl9 (hP1.perm List.perm_append_comm) (hD1.perm List.perm_append_comm) hS1
theorem zN_aast {t ci N a v : Nat} {r : vw_C} {vs : List Value} {f : Nat → Option Nat} {z : Int} (q0 qk : Nat) (C : zNx Γ A p s m args meth c own cc nL) (d : decode cc pc = .ok (.aastore, 1)) (ha : ws[q0]? = some (a, .inl (zY Γ (2 + t), N, .inr (.inr (.inr (.inr f)))))) (ht : (ztys Γ)[2 + t]? = some (zY Γ (2 + t), .object r.1)) (hv : ws[qk]? = some (v, .inr (ci, vs))) (hc : vwCl[ci]? = some r) (hz : 0 ≤ z ∧ z < N) (hN : N ≤ 1000) (hws : ws.set q0 (a, .inl (zY Γ (2 + t), N, .inr (.inr (.inr (.inr (va_up f z.toNat (some v))))))) = ws') (hp : pc + 1 = n)
    (k : zN Γ A p l e R s m args below meth c cells slots Q n lv st ws') : zN Γ A p l e R s m args below meth c cells slots Q pc lv (.ref v :: .int (zi z) :: .ref a :: st) ws := by
  subst hp
  subst hws
  intro H locs ls hl9 hP hD hS
  refine va_astq C.1 C.2.1 C.2.2.2.2.2.1 hP hD hS q0 (2 + t) qk ci ha ht hv hc (zi_in (n := N) hz (by omega)) d (fun H1 locs1 hP1 hD1 hS1 => ?_)
  rw [zi_clamp (by omega)] at hP1 hD1
  exact k H1 locs1 ls hl9 hP1 hD1 hS1
theorem zN_iast {N a : Nat} {f : Nat → Int32} {z : Int} {v : Int32} (q0 : Nat) (C : zNx Γ A p s m args meth c own cc nL) (d : decode cc pc = .ok (.iastore, 1)) (ha : ws[q0]? = some (a, .inl (zY Γ 0, N, .inl f))) (hz : 0 ≤ z ∧ z < N) (hN : N ≤ 1000) (hws : ws.set q0 (a, .inl (zY Γ 0, N, .inl (upd f z.toNat v))) = ws') (hp : pc + 1 = n)
    (k : zN Γ A p l e R s m args below meth c cells slots Q n lv st ws') : zN Γ A p l e R s m args below meth c cells slots Q pc lv (.int v :: .int (zi z) :: .ref a :: st) ws := by
  subst hp
  subst hws
  intro H locs ls hl9 hP hD hS
  refine va_iast C.1 C.2.1 C.2.2.2.2.2.1 hP hD hS q0 0 ha rfl (zi_in (n := N) hz (by omega)) d (fun H1 locs1 hP1 hD1 hS1 => ?_)
  rw [zi_clamp (by omega)] at hP1 hD1
  exact k H1 locs1 ls hl9 hP1 hD1 hS1
/-- the end of a constructor -/
theorem zN_ret {h0 : Nat} {e0 : va_E} {Pst : Nat → va_W → Prop} (C : zNx Γ (va_A [(h0, e0)] s.heap.size) p s m args meth c own cc nL) (hr : meth.sig.returnType = none) (hlk : meth.locks = false) (d : decode cc pc = .ok (.return_, 1)) (hp : Pst h0 ws) :
    zN Γ (va_A [(h0, e0)] s.heap.size) p l e R s m args below meth c cells slots (MQ below (va_Qv (fun w : va_W => Pst h0 w) (fun w t => va_P (zD Γ) vwCl w t.heap ∧ va_D (va_A [(h0, e0)] s.heap.size) w) (va_A [(h0, e0)] s.heap.size)) args s cells slots (va_A [(h0, e0)] s.heap.size)) pc lv [] ws := by
  intro H locs ls hl9 hP hD hS
  exact W.vret C.1 C.2.1 hr (fun t ht hW => ⟨⟨ws, rfl, hp, by rw [ht]; exact hP, hD⟩, hS.F ht⟩) hS.2.2 d hlk
/-- a world read otherwise -/
theorem zN_as (h : ∀ H : Heap, va_P (zD Γ) vwCl ws H → va_P (zD Γ) vwCl ws' H) (h2 : ws'.map Prod.fst = ws.map Prod.fst) (k : zN Γ A p l e R s m args below meth c cells slots Q pc lv st ws') : zN Γ A p l e R s m args below meth c cells slots Q pc lv st ws := by
  intro H locs ls hl9 hP hD hS
  refine k H locs ls hl9 (h H hP) ?_ hS
  rw [va_D_iff] at hD ⊢
  have e1 : ∀ l : va_W, l.Pairwise (fun x y => x.1 ≠ y.1) ↔ (l.map Prod.fst).Pairwise (· ≠ ·) := fun l => by rw [List.pairwise_map]
  have e2 : ∀ l : va_W, (∀ x ∈ l, A x.1) ↔ ∀ q ∈ l.map Prod.fst, A q := fun l => by simp
  rw [e1, e2, h2, ← e1, ← e2]
  exact hD
end ZNEW
theorem zW1_blind {Γ : zC} {sz h0 : Nat} {e0 : va_E} : FrameBlind (va_Pc [.ref h0] (zW1 Γ sz h0 e0)) := by
  intro a U g mk q
  obtain ⟨q0, q1, qP, qK, qI, ql⟩ := q
  exact ⟨q0, q1, qP, va_K.moved (u := U) (U := U.calling g mk a) (Vm.Alike.refl U.vm) qK, zIv.same (u := U) (U := U.calling g mk a) rfl qI, ql⟩
/-- a constructor out of its walk -/
theorem zNew.of {Γ : zC} {l : Launch} {d : Nat} {y : MethodName} {cc : ByteArray} {maxL : Nat} {e0 : va_E} {mc ms : Nat} {Pst : Nat → va_W → Prop} (j : Nat) (own : String) (ho : y.cls = own) (hy : plainName y.cls = true) (hn : 1 ≤ maxL) (hnm : y.name = "<init>")
    (k : ∀ (h0 : Nat) p e s m below meth c, zNx Γ (va_A [(h0, e0)] s.heap.size) p s m #[.ref h0] meth c own cc maxL → meth.name = "<init>" → meth.sig.returnType = none → meth.locks = false → h0 < s.heap.size →
      zN Γ (va_A [(h0, e0)] s.heap.size) p l e (zRmN d mc ms) s m #[.ref h0] below meth c 0 0 (MQ below (va_Qv (fun w : va_W => Pst h0 w) (fun w t => va_P (zD Γ) vwCl w t.heap ∧ va_D (va_A [(h0, e0)] s.heap.size) w) (va_A [(h0, e0)] s.heap.size)) #[.ref h0] s mc ms (va_A [(h0, e0)] s.heap.size)) 0 (.ref h0 :: List.replicate j .null) [] [(h0, e0)]) : zNew Γ l d (y, cc, maxL, none) e0 mc ms Pst := by
  intro h0 sz
  subst ho
  refine Met.ofW (cc := cc) (maxL := maxL) (ret := none) hy rfl ?_
  intro p e s m args below meth c s₁ B hml hv
  obtain ⟨rfl, hsz, hP, hK, hI, hlt⟩ := hv
  subst hsz
  have hts := atoms_spec (ws := zcode (y, cc, maxL, none) :: tblG) B.pre
  have hown : s.vm.findClass y.cls = some m.cls := findClass_of_methodNamed B.named
  have hin : meth.name = "<init>" := (name_of_methodNamed B.named B.method).1.trans hnm
  rw [lg_entry_eq]
  have h0' := zlv_entry (vs := [.ref h0]) (lv := .ref h0 :: List.replicate j .null) (n := maxL) hn (fun i v hi => by
    cases i with
    | zero =>
      simp only [List.getElem?_cons_zero, Option.some.injEq] at hi
      subst hi
      exact Or.inr List.mem_cons_self
    | succ i =>
      simp only [List.getElem?_cons_succ] at hi
      rw [List.getElem?_replicate] at hi
      split at hi
      · cases hi; exact Or.inl rfl
      · cases hi)
  have hD : va_D (va_A [(h0, e0)] s.heap.size) [(h0, e0)] := by
    rw [va_D_iff]
    refine ⟨List.pairwise_singleton _ _, fun x hx => ?_⟩
    rw [List.mem_singleton.mp hx]
    exact Or.inl ⟨0, e0, rfl⟩
  exact k h0 p e s m below meth c ⟨B.exec, B.bytes, hml, hown, fun w hw => hts w (List.mem_cons_of_mem _ hw), hK, hI, fun q h => Or.inr h⟩ hin B.returns B.notSynchronized hlt s.heap [] _ (by rw [hml]; exact h0') hP hD va_S.rf
section ZCALL
variable {Γ : zC} {A : Nat → Prop} {p : Program} {l : Launch} {e : Env} {R : Room} {s : State} {m : MethodId} {args : Array Value} {below : List Frame} {meth : Method} {c : Code} {cells slots : Nat} {Q : State → Prop} {own : String} {cc : ByteArray} {nL pc n : Nat} {lv st : List Value} {ws : va_W}
theorem zN_pre {H : Heap} {locs : List Loc} {q : Nat} {e0 : va_E} (C : zNx Γ A p s m args meth c own cc nL) (hP : va_P (zD Γ) vwCl ((q, e0) :: ws) H) : PreS s H (va_Pc [.ref q] (zW1 Γ H.size q e0)) [.ref q] := by
  have hP1 : va_P (zD Γ) vwCl [(q, e0)] H := va_P_iff.mpr (fun x hx => va_P_iff.mp hP x (by rw [List.mem_singleton.mp hx]; exact List.mem_cons_self))
  have hlt : q < H.size := (va_P_iff.mp hP (q, e0) List.mem_cons_self).lt
  exact ⟨zW1_blind, fun U hU hW => ⟨rfl, by rw [hU], by rw [hU]; exact hP1, va_K.moved hW.alike C.2.2.2.2.2.1, C.2.2.2.2.2.2.1.warm hW, hlt⟩⟩
theorem zN_fr {H : Heap} {locs : List Loc} {q : Nat} {e0 : va_E} (C : zNx Γ A p s m args meth c own cc nL) (hD : va_D A ((q, e0) :: ws)) (hS : va_S A s.heap H locs) : ∀ a : Nat, va_A [(q, e0)] H.size a → A a := by
  intro a h
  rcases h with ⟨k, e9, h⟩ | h
  · cases k with
    | zero =>
      simp only [List.getElem?_cons_zero, Option.some.injEq, Prod.mk.injEq] at h
      rw [← h.1]
      exact hD.2 0 (q, e0) rfl
    | succ k => simp at h
  · exact C.2.2.2.2.2.2.2 a (Nat.le_trans hS.1 h)
theorem zN_init {y : zM} {d idx q mc ms : Nat} {e0 : va_E} {Pst : Nat → va_W → Prop} (C : zNx Γ A p s m args meth c own cc nL) (hy : zIn y 0 ∧ Cond.instanceMethod y.1 ∈ tblG ∧ y.1.name = "<init>" ∧ y.2.2.2 = none) (hl : Cond.methodLink own idx y.1 ∈ tblG) (hM : zNew Γ l d y e0 mc ms Pst) (hd : decode cc pc = .ok (.invokespecial idx, 3)) (hW : (st.map fun v => v.category).sum ≤ 8) (hR : zfit R d y.2.2.1) (hc : cells + mc ≤ R.cells ∧ slots + ms ≤ R.slots) (hp : pc + 3 = n)
    (kk : ∀ w : va_W, Pst q w → zN Γ A p l e R s m args below meth c (cells + mc) (slots + ms) Q n lv st (w ++ ws)) : zN Γ A p l e R s m args below meth c cells slots Q pc lv (.ref q :: st) ((q, e0) :: ws) := by
  subst hp
  intro H locs ls hl9 hP hD hS
  have hF := zN_fr C hD hS
  have hpr := zN_pre (locs := locs) C hP
  obtain ⟨y0, ycc, yL, yr⟩ := y
  obtain ⟨hy1, hy2, hy3, hy4⟩ := hy
  change yr = none at hy4
  subst hy4
  refine va_callv (va_runI (As := []) (rest := st) ⟨C.1, C.2.1, C.2.2.1, C.2.2.2.1, C.2.2.2.2.1⟩ (hM q H.size) ⟨callB_of 0 C.2.2.2.2.1 (zgood hy1.1) rfl rfl rfl (C.2.2.2.2.1 _ hy1.2.1) (C.2.2.2.2.1 _ hl) hy1.2.2 hR, hy3, C.2.2.2.2.1 _ hy2⟩ hpr rfl rfl (hl9.1.trans C.2.2.1) rfl (lv_room hW) hd hc) hS (fun a _ h => hF a h) hF (fun w t H1 locs1 ht hvm hpost hB hz1 hk1 hS1 => ?_)
  obtain ⟨hP1, hD1⟩ := hB
  rw [ht] at hP1
  obtain ⟨hP2, hD2⟩ := va_grow hP hD (fun a h => C.2.2.2.2.2.2.2 a (Nat.le_trans hS.1 h)) hk1 hP1 hD1
  exact kk w hpost H1 locs1 ls hl9 hP2 hD2 hS1
theorem zN_initN {y : zM} {d idx q mc ms : Nat} {e0 : va_E} {Pst : Nat → va_W → Prop} (C : zNx Γ A p s m args meth c own cc nL) (hy : zIn y 0 ∧ Cond.instanceMethod y.1 ∈ tblG ∧ y.1.name = "<init>" ∧ y.2.2.2 = none) (hl : (own, idx, y.1, "SeatStraps") ∈ znestI) (hM : zNew Γ l d y e0 mc ms Pst) (hd : decode cc pc = .ok (.invokespecial idx, 3)) (hW : (st.map fun v => v.category).sum ≤ 8) (hR : zfit R d y.2.2.1) (hc : cells + mc ≤ R.cells ∧ slots + ms ≤ R.slots) (hp : pc + 3 = n)
    (kk : ∀ w : va_W, Pst q w → zN Γ A p l e R s m args below meth c (cells + mc) (slots + ms) Q n lv st (w ++ ws)) : zN Γ A p l e R s m args below meth c cells slots Q pc lv (.ref q :: st) ((q, e0) :: ws) := by
  subst hp
  intro H locs ls hl9 hP hD hS
  have hF := zN_fr C hD hS
  have hpr := zN_pre (locs := locs) C hP
  obtain ⟨y0, ycc, yL, yr⟩ := y
  obtain ⟨hy1, hy2, hy3, hy4⟩ := hy
  change yr = none at hy4
  subst hy4
  refine va_callv (va_runIN (As := []) (rest := st) (host := "SeatStraps") ⟨C.1, C.2.1, C.2.2.1, C.2.2.2.1, C.2.2.2.2.1⟩ (hM q H.size) ⟨va_cnB 0 C.2.2.2.2.1 (zgood hy1.1) rfl rfl rfl (C.2.2.2.2.2.2.1.2 _ hl) (C.2.2.2.2.1 _ hy1.2.1) hy1.2.2 hR, hy3, C.2.2.2.2.1 _ hy2⟩ hpr rfl rfl (hl9.1.trans C.2.2.1) rfl (lv_room hW) hd hc) hS (fun a _ h => hF a h) hF (fun w t H1 locs1 ht hvm hpost hB hz1 hk1 hS1 => ?_)
  obtain ⟨hP1, hD1⟩ := hB
  rw [ht] at hP1
  obtain ⟨hP2, hD2⟩ := va_grow hP hD (fun a h => C.2.2.2.2.2.2.2 a (Nat.le_trans hS.1 h)) hk1 hP1 hD1
  exact kk w hpost H1 locs1 ls hl9 hP2 hD2 hS1
end ZCALL
