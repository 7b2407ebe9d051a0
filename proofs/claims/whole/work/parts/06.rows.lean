/-! A ROW AN INSTRUCTION (laid by wip/whole/gen/rows.py) -/
section ZROWS
variable {Γ : zC} {A : Nat → Prop} {p : Program} {l : Launch} {e : Env} {R : Room} {s : State} {m : MethodId} {args : Array Value} {below : List Frame} {meth : Method} {c : Code} {cells slots : Nat} {Q : State → Prop} {own : String} {cc : ByteArray} {nL pc n : Nat} {lv st : List Value} {μ : zMem}
theorem zV_iconst (C : zCx Γ A p s m args c own cc nL) {v : Int} (d : decode cc pc = .ok (.iconst v, 1))  (hp : pc + 1 = n) (k : zV Γ A p l e R s m args below meth c cells slots Q n lv (.int (zi v) :: st) μ) : zV Γ A p l e R s m args below meth c cells slots Q pc lv st μ := by
  subst hp
  intro H locs ls hl hP hS
  have h := k H locs ls hl hP hS
  exact lv_iconst C.1 C.2.1 d rfl h
theorem zV_bipush (C : zCx Γ A p s m args c own cc nL) {v : Int} (d : decode cc pc = .ok (.bipush v, 2)) (hv : (Int8.ofInt v).toInt32 = zi v) (hp : pc + 2 = n) (k : zV Γ A p l e R s m args below meth c cells slots Q n lv (.int (zi v) :: st) μ) : zV Γ A p l e R s m args below meth c cells slots Q pc lv st μ := by
  subst hp
  intro H locs ls hl hP hS
  have h := k H locs ls hl hP hS
  exact lv_bipush C.1 C.2.1 d hv h
theorem zV_sipush (C : zCx Γ A p s m args c own cc nL) {v : Int} (d : decode cc pc = .ok (.sipush v, 3)) (hv : (Int16.ofInt v).toInt32 = zi v) (hp : pc + 3 = n) (k : zV Γ A p l e R s m args below meth c cells slots Q n lv (.int (zi v) :: st) μ) : zV Γ A p l e R s m args below meth c cells slots Q pc lv st μ := by
  subst hp
  intro H locs ls hl hP hS
  have h := k H locs ls hl hP hS
  exact lv_sipush C.1 C.2.1 d hv h
theorem zV_lconst (C : zCx Γ A p s m args c own cc nL) {f : Fin 2} {v : Int} (d : decode cc pc = .ok (.lconst f, 1)) (hv : Int64.ofNat (f : Nat) = zl v) (hp : pc + 1 = n) (k : zV Γ A p l e R s m args below meth c cells slots Q n lv (.long (zl v) :: st) μ) : zV Γ A p l e R s m args below meth c cells slots Q pc lv st μ := by
  subst hp
  intro H locs ls hl hP hS
  have h := k H locs ls hl hP hS
  exact lv_lconst C.1 C.2.1 d hv h
theorem zV_ldc (C : zCx Γ A p s m args c own cc nL) {i : Nat} {v : Int} (d : decode cc pc = .ok (.ldc i, 2)) (hw : Cond.constant own i (zi v) ∈ tblG) (hp : pc + 2 = n) (k : zV Γ A p l e R s m args below meth c cells slots Q n lv (.int (zi v) :: st) μ) : zV Γ A p l e R s m args below meth c cells slots Q pc lv st μ := by
  subst hp
  intro H locs ls hl hP hS
  have h := k H locs ls hl hP hS
  exact lv_ldc C.1 C.2.1 C.2.2.2.1 (C.2.2.2.2.1 _ hw) d h
theorem zV_ldc_w (C : zCx Γ A p s m args c own cc nL) {i : Nat} {v : Int} (d : decode cc pc = .ok (.ldc_w i, 3)) (hw : Cond.constant own i (zi v) ∈ tblG) (hp : pc + 3 = n) (k : zV Γ A p l e R s m args below meth c cells slots Q n lv (.int (zi v) :: st) μ) : zV Γ A p l e R s m args below meth c cells slots Q pc lv st μ := by
  subst hp
  intro H locs ls hl hP hS
  have h := k H locs ls hl hP hS
  exact lv_ldcw C.1 C.2.1 C.2.2.2.1 (C.2.2.2.2.1 _ hw) d h
theorem zV_ldc2 (C : zCx Γ A p s m args c own cc nL) {i : Nat} {v : Int} (d : decode cc pc = .ok (.ldc2_w i, 3)) (hw : Cond.constantLong own i (zl v) ∈ tblG) (hp : pc + 3 = n) (k : zV Γ A p l e R s m args below meth c cells slots Q n lv (.long (zl v) :: st) μ) : zV Γ A p l e R s m args below meth c cells slots Q pc lv st μ := by
  subst hp
  intro H locs ls hl hP hS
  have h := k H locs ls hl hP hS
  exact lv_ldc2 C.1 C.2.1 C.2.2.2.1 (C.2.2.2.2.1 _ hw) d h
theorem zV_iload_n (C : zCx Γ A p s m args c own cc nL) {f : Fin 4} {i : Nat} {x : Int32} (d : decode cc pc = .ok (.iload_n f, 1)) (hi : (f : Nat) = i) (hx : lv[i]? = some (.int x)) (hp : pc + 1 = n) (k : zV Γ A p l e R s m args below meth c cells slots Q n lv (.int x :: st) μ) : zV Γ A p l e R s m args below meth c cells slots Q pc lv st μ := by
  subst hp
  intro H locs ls hl hP hS
  have h := k H locs ls hl hP hS
  exact lv_iload_n C.1 C.2.1 d hi (zlv_at hl hx (fun q => by cases q)) h
theorem zV_iload (C : zCx Γ A p s m args c own cc nL) {i : Nat} {x : Int32} (d : decode cc pc = .ok (.iload i, 2)) (hx : lv[i]? = some (.int x)) (hp : pc + 2 = n) (k : zV Γ A p l e R s m args below meth c cells slots Q n lv (.int x :: st) μ) : zV Γ A p l e R s m args below meth c cells slots Q pc lv st μ := by
  subst hp
  intro H locs ls hl hP hS
  have h := k H locs ls hl hP hS
  exact lv_iload C.1 C.2.1 d (zlv_at hl hx (fun q => by cases q)) h
theorem zV_lload_n (C : zCx Γ A p s m args c own cc nL) {f : Fin 4} {i : Nat} {x : Int64} (d : decode cc pc = .ok (.lload_n f, 1)) (hi : (f : Nat) = i) (hx : lv[i]? = some (.long x)) (hp : pc + 1 = n) (k : zV Γ A p l e R s m args below meth c cells slots Q n lv (.long x :: st) μ) : zV Γ A p l e R s m args below meth c cells slots Q pc lv st μ := by
  subst hp
  intro H locs ls hl hP hS
  have h := k H locs ls hl hP hS
  exact lv_lload_n C.1 C.2.1 d hi (zlv_at hl hx (fun q => by cases q)) h
theorem zV_lload (C : zCx Γ A p s m args c own cc nL) {i : Nat} {x : Int64} (d : decode cc pc = .ok (.lload i, 2)) (hx : lv[i]? = some (.long x)) (hp : pc + 2 = n) (k : zV Γ A p l e R s m args below meth c cells slots Q n lv (.long x :: st) μ) : zV Γ A p l e R s m args below meth c cells slots Q pc lv st μ := by
  subst hp
  intro H locs ls hl hP hS
  have h := k H locs ls hl hP hS
  exact lv_lload C.1 C.2.1 d (zlv_at hl hx (fun q => by cases q)) h
theorem zV_aload_n (C : zCx Γ A p s m args c own cc nL) {f : Fin 4} {i : Nat} {x : Nat} (d : decode cc pc = .ok (.aload_n f, 1)) (hi : (f : Nat) = i) (hx : lv[i]? = some (.ref x)) (hp : pc + 1 = n) (k : zV Γ A p l e R s m args below meth c cells slots Q n lv (.ref x :: st) μ) : zV Γ A p l e R s m args below meth c cells slots Q pc lv st μ := by
  subst hp
  intro H locs ls hl hP hS
  have h := k H locs ls hl hP hS
  exact lv_aload_n C.1 C.2.1 d hi (zlv_at hl hx (fun q => by cases q)) h
theorem zV_aload (C : zCx Γ A p s m args c own cc nL) {i : Nat} {x : Nat} (d : decode cc pc = .ok (.aload i, 2)) (hx : lv[i]? = some (.ref x)) (hp : pc + 2 = n) (k : zV Γ A p l e R s m args below meth c cells slots Q n lv (.ref x :: st) μ) : zV Γ A p l e R s m args below meth c cells slots Q pc lv st μ := by
  subst hp
  intro H locs ls hl hP hS
  have h := k H locs ls hl hP hS
  exact lv_aload C.1 C.2.1 d (zlv_at hl hx (fun q => by cases q)) h
theorem zV_istore_n (C : zCx Γ A p s m args c own cc nL) {f : Fin 4} {i : Nat} {x : Int32} (d : decode cc pc = .ok (.istore_n f, 1)) (hi : (f : Nat) = i) (hn : i < nL) (hpr : ∀ w, lv[i - 1]? = some w → i ≠ 0 → w.category = 1) (hp : pc + 1 = n) (k : zV Γ A p l e R s m args below meth c cells slots Q n (lv.set i (.int x)) st μ) : zV Γ A p l e R s m args below meth c cells slots Q pc lv (.int x :: st) μ := by
  subst hp
  subst hi
  intro H locs ls hl hP hS
  obtain ⟨ls', e', h'⟩ := zlv_store (v := .int x) hl (by rw [C.2.2.1]; exact hn) rfl hpr
  obtain ⟨hexec, hb, -⟩ := C
  intro T hT X
  obtain ⟨t, a, b⟩ := k H locs ls' h' hP hS T hT X
  refine ⟨t, ?_, b⟩
  jvm_step X.here [X.here.top, ↓top_set X.here.top, hexec, hb, d, e']
  exact a
theorem zV_istore (C : zCx Γ A p s m args c own cc nL) {i : Nat} {x : Int32} (d : decode cc pc = .ok (.istore i, 2)) (hn : i < nL) (hpr : ∀ w, lv[i - 1]? = some w → i ≠ 0 → w.category = 1) (hp : pc + 2 = n) (k : zV Γ A p l e R s m args below meth c cells slots Q n (lv.set i (.int x)) st μ) : zV Γ A p l e R s m args below meth c cells slots Q pc lv (.int x :: st) μ := by
  subst hp
  intro H locs ls hl hP hS
  obtain ⟨ls', e', h'⟩ := zlv_store (v := .int x) hl (by rw [C.2.2.1]; exact hn) rfl hpr
  obtain ⟨hexec, hb, -⟩ := C
  intro T hT X
  obtain ⟨t, a, b⟩ := k H locs ls' h' hP hS T hT X
  refine ⟨t, ?_, b⟩
  jvm_step X.here [X.here.top, ↓top_set X.here.top, hexec, hb, d, e']
  exact a
theorem zV_astore_n (C : zCx Γ A p s m args c own cc nL) {f : Fin 4} {i : Nat} {x : Nat} (d : decode cc pc = .ok (.astore_n f, 1)) (hi : (f : Nat) = i) (hn : i < nL) (hpr : ∀ w, lv[i - 1]? = some w → i ≠ 0 → w.category = 1) (hp : pc + 1 = n) (k : zV Γ A p l e R s m args below meth c cells slots Q n (lv.set i (.ref x)) st μ) : zV Γ A p l e R s m args below meth c cells slots Q pc lv (.ref x :: st) μ := by
  subst hp
  subst hi
  intro H locs ls hl hP hS
  obtain ⟨ls', e', h'⟩ := zlv_store (v := .ref x) hl (by rw [C.2.2.1]; exact hn) rfl hpr
  obtain ⟨hexec, hb, -⟩ := C
  intro T hT X
  obtain ⟨t, a, b⟩ := k H locs ls' h' hP hS T hT X
  refine ⟨t, ?_, b⟩
  jvm_step X.here [X.here.top, ↓top_set X.here.top, hexec, hb, d, e', Value.isRef]
  exact a
theorem zV_astore (C : zCx Γ A p s m args c own cc nL) {i : Nat} {x : Nat} (d : decode cc pc = .ok (.astore i, 2)) (hn : i < nL) (hpr : ∀ w, lv[i - 1]? = some w → i ≠ 0 → w.category = 1) (hp : pc + 2 = n) (k : zV Γ A p l e R s m args below meth c cells slots Q n (lv.set i (.ref x)) st μ) : zV Γ A p l e R s m args below meth c cells slots Q pc lv (.ref x :: st) μ := by
  subst hp
  intro H locs ls hl hP hS
  obtain ⟨ls', e', h'⟩ := zlv_store (v := .ref x) hl (by rw [C.2.2.1]; exact hn) rfl hpr
  obtain ⟨hexec, hb, -⟩ := C
  intro T hT X
  obtain ⟨t, a, b⟩ := k H locs ls' h' hP hS T hT X
  refine ⟨t, ?_, b⟩
  jvm_step X.here [X.here.top, ↓top_set X.here.top, hexec, hb, d, e', Value.isRef]
  exact a
theorem zV_lstore_n (C : zCx Γ A p s m args c own cc nL) {f : Fin 4} {i : Nat} {x : Int64} (d : decode cc pc = .ok (.lstore_n f, 1)) (hi : (f : Nat) = i) (hn : i + 1 < nL) (hpr : ∀ w, lv[i - 1]? = some w → i ≠ 0 → w.category = 1) (hp : pc + 1 = n) (k : zV Γ A p l e R s m args below meth c cells slots Q n ((lv.set i (.long x)).set (i + 1) .null) st μ) : zV Γ A p l e R s m args below meth c cells slots Q pc lv (.long x :: st) μ := by
  subst hp
  subst hi
  intro H locs ls hl hP hS
  obtain ⟨ls', e', h'⟩ := zlv_store2 (v := .long x) hl (by rw [C.2.2.1]; exact hn) rfl hpr
  obtain ⟨hexec, hb, -⟩ := C
  intro T hT X
  obtain ⟨t, a, b⟩ := k H locs ls' h' hP hS T hT X
  refine ⟨t, ?_, b⟩
  jvm_step X.here [X.here.top, ↓top_set X.here.top, hexec, hb, d, e']
  exact a
theorem zV_lstore (C : zCx Γ A p s m args c own cc nL) {i : Nat} {x : Int64} (d : decode cc pc = .ok (.lstore i, 2)) (hn : i + 1 < nL) (hpr : ∀ w, lv[i - 1]? = some w → i ≠ 0 → w.category = 1) (hp : pc + 2 = n) (k : zV Γ A p l e R s m args below meth c cells slots Q n ((lv.set i (.long x)).set (i + 1) .null) st μ) : zV Γ A p l e R s m args below meth c cells slots Q pc lv (.long x :: st) μ := by
  subst hp
  intro H locs ls hl hP hS
  obtain ⟨ls', e', h'⟩ := zlv_store2 (v := .long x) hl (by rw [C.2.2.1]; exact hn) rfl hpr
  obtain ⟨hexec, hb, -⟩ := C
  intro T hT X
  obtain ⟨t, a, b⟩ := k H locs ls' h' hP hS T hT X
  refine ⟨t, ?_, b⟩
  jvm_step X.here [X.here.top, ↓top_set X.here.top, hexec, hb, d, e']
  exact a
theorem zV_iinc (C : zCx Γ A p s m args c own cc nL) {i : Nat} {v x : Int} (d : decode cc pc = .ok (.iinc i v, 3)) (hx : lv[i]? = some (.int (zi x))) (hn : i < nL) (hpr : ∀ w, lv[i - 1]? = some w → i ≠ 0 → w.category = 1) (hp : pc + 3 = n) (k : zV Γ A p l e R s m args below meth c cells slots Q n (lv.set i (.int (zi (x + v)))) st μ) : zV Γ A p l e R s m args below meth c cells slots Q pc lv st μ := by
  subst hp
  intro H locs ls hl hP hS
  have hg := zlv_at hl hx (fun q => by cases q)
  obtain ⟨ls', e', h'⟩ := zlv_store (v := .int (zi x + Int32.ofInt v)) hl (by rw [C.2.2.1]; exact hn) rfl hpr
  obtain ⟨hexec, hb, -⟩ := C
  intro T hT X
  rw [zi_add] at k
  obtain ⟨t, a, b⟩ := k H locs ls' h' hP hS T hT X
  refine ⟨t, ?_, b⟩
  jvm_step X.here [X.here.top, ↓top_set X.here.top, hexec, hb, d, hg, e']
  exact a
theorem zV_iadd (C : zCx Γ A p s m args c own cc nL) {x y : Int} (d : decode cc pc = .ok (.iadd, 1))  (hp : pc + 1 = n) (k : zV Γ A p l e R s m args below meth c cells slots Q n lv (.int (zi (x + y)) :: st) μ) : zV Γ A p l e R s m args below meth c cells slots Q pc lv (.int (zi y) :: .int (zi x) :: st) μ := by
  subst hp
  intro H locs ls hl hP hS
  have h := k H locs ls hl hP hS
  rw [zi_add] at h
  exact lv_iadd C.1 C.2.1 d h
theorem zV_ladd (C : zCx Γ A p s m args c own cc nL) {x y : Int} (d : decode cc pc = .ok (.ladd, 1))  (hp : pc + 1 = n) (k : zV Γ A p l e R s m args below meth c cells slots Q n lv (.long (zl (x + y)) :: st) μ) : zV Γ A p l e R s m args below meth c cells slots Q pc lv (.long (zl y) :: .long (zl x) :: st) μ := by
  subst hp
  intro H locs ls hl hP hS
  have h := k H locs ls hl hP hS
  rw [zl_add] at h
  exact lv_ladd C.1 C.2.1 d h
theorem zV_isub (C : zCx Γ A p s m args c own cc nL) {x y : Int} (d : decode cc pc = .ok (.isub, 1))  (hp : pc + 1 = n) (k : zV Γ A p l e R s m args below meth c cells slots Q n lv (.int (zi (x - y)) :: st) μ) : zV Γ A p l e R s m args below meth c cells slots Q pc lv (.int (zi y) :: .int (zi x) :: st) μ := by
  subst hp
  intro H locs ls hl hP hS
  have h := k H locs ls hl hP hS
  rw [zi_sub] at h
  exact lv_isub C.1 C.2.1 d h
theorem zV_lsub (C : zCx Γ A p s m args c own cc nL) {x y : Int} (d : decode cc pc = .ok (.lsub, 1))  (hp : pc + 1 = n) (k : zV Γ A p l e R s m args below meth c cells slots Q n lv (.long (zl (x - y)) :: st) μ) : zV Γ A p l e R s m args below meth c cells slots Q pc lv (.long (zl y) :: .long (zl x) :: st) μ := by
  subst hp
  intro H locs ls hl hP hS
  have h := k H locs ls hl hP hS
  rw [zl_sub] at h
  exact lv_lsub C.1 C.2.1 d h
theorem zV_imul (C : zCx Γ A p s m args c own cc nL) {x y : Int} (d : decode cc pc = .ok (.imul, 1))  (hp : pc + 1 = n) (k : zV Γ A p l e R s m args below meth c cells slots Q n lv (.int (zi (x * y)) :: st) μ) : zV Γ A p l e R s m args below meth c cells slots Q pc lv (.int (zi y) :: .int (zi x) :: st) μ := by
  subst hp
  intro H locs ls hl hP hS
  have h := k H locs ls hl hP hS
  rw [zi_mul] at h
  exact lv_imul C.1 C.2.1 d h
theorem zV_lmul (C : zCx Γ A p s m args c own cc nL) {x y : Int} (d : decode cc pc = .ok (.lmul, 1))  (hp : pc + 1 = n) (k : zV Γ A p l e R s m args below meth c cells slots Q n lv (.long (zl (x * y)) :: st) μ) : zV Γ A p l e R s m args below meth c cells slots Q pc lv (.long (zl y) :: .long (zl x) :: st) μ := by
  subst hp
  intro H locs ls hl hP hS
  have h := k H locs ls hl hP hS
  rw [zl_mul] at h
  exact lv_lmul C.1 C.2.1 d h
theorem zV_idiv (C : zCx Γ A p s m args c own cc nL) {x y : Int} (d : decode cc pc = .ok (.idiv, 1)) (hx : 0 ≤ x ∧ x ≤ 2147483647) (hy : 0 < y ∧ y ≤ 2147483647) (hp : pc + 1 = n) (k : zV Γ A p l e R s m args below meth c cells slots Q n lv (.int (zi (x / y)) :: st) μ) : zV Γ A p l e R s m args below meth c cells slots Q pc lv (.int (zi y) :: .int (zi x) :: st) μ := by
  subst hp
  intro H locs ls hl hP hS
  have h := k H locs ls hl hP hS
  rw [← zi_div hx hy] at h
  exact lv_idiv C.1 C.2.1 d (zi_ne0 hy) h
theorem zV_irem (C : zCx Γ A p s m args c own cc nL) {x y : Int} (d : decode cc pc = .ok (.irem, 1)) (hx : 0 ≤ x ∧ x ≤ 2147483647) (hy : 0 < y ∧ y ≤ 2147483647) (hp : pc + 1 = n) (k : zV Γ A p l e R s m args below meth c cells slots Q n lv (.int (zi (x % y)) :: st) μ) : zV Γ A p l e R s m args below meth c cells slots Q pc lv (.int (zi y) :: .int (zi x) :: st) μ := by
  subst hp
  intro H locs ls hl hP hS
  have h := k H locs ls hl hP hS
  rw [← zi_rem hx hy] at h
  exact lv_irem C.1 C.2.1 d (zi_ne0 hy) h
theorem zV_iand (C : zCx Γ A p s m args c own cc nL) {x y : Int32} {z : Int} (d : decode cc pc = .ok (.iand, 1)) (hz : x &&& y = zi z) (hp : pc + 1 = n) (k : zV Γ A p l e R s m args below meth c cells slots Q n lv (.int (zi z) :: st) μ) : zV Γ A p l e R s m args below meth c cells slots Q pc lv (.int y :: .int x :: st) μ := by
  subst hp
  intro H locs ls hl hP hS
  have h := k H locs ls hl hP hS
  rw [← hz] at h
  exact lv_iand C.1 C.2.1 d h
theorem zV_ior (C : zCx Γ A p s m args c own cc nL) {x y : Int32} {z : Int} (d : decode cc pc = .ok (.ior, 1)) (hz : x ||| y = zi z) (hp : pc + 1 = n) (k : zV Γ A p l e R s m args below meth c cells slots Q n lv (.int (zi z) :: st) μ) : zV Γ A p l e R s m args below meth c cells slots Q pc lv (.int y :: .int x :: st) μ := by
  subst hp
  intro H locs ls hl hP hS
  have h := k H locs ls hl hP hS
  rw [← hz] at h
  exact lv_ior C.1 C.2.1 d h
theorem zV_ixor (C : zCx Γ A p s m args c own cc nL) {x y : Int32} {z : Int} (d : decode cc pc = .ok (.ixor, 1)) (hz : x ^^^ y = zi z) (hp : pc + 1 = n) (k : zV Γ A p l e R s m args below meth c cells slots Q n lv (.int (zi z) :: st) μ) : zV Γ A p l e R s m args below meth c cells slots Q pc lv (.int y :: .int x :: st) μ := by
  subst hp
  intro H locs ls hl hP hS
  have h := k H locs ls hl hP hS
  rw [← hz] at h
  exact lv_ixor C.1 C.2.1 d h
theorem zV_ishl (C : zCx Γ A p s m args c own cc nL) {x y : Int32} {z : Int} (d : decode cc pc = .ok (.ishl, 1)) (hz : x <<< (y &&& 31) = zi z) (hp : pc + 1 = n) (k : zV Γ A p l e R s m args below meth c cells slots Q n lv (.int (zi z) :: st) μ) : zV Γ A p l e R s m args below meth c cells slots Q pc lv (.int y :: .int x :: st) μ := by
  subst hp
  intro H locs ls hl hP hS
  have h := k H locs ls hl hP hS
  rw [← hz] at h
  exact lv_ishl C.1 C.2.1 d h
theorem zV_ishr (C : zCx Γ A p s m args c own cc nL) {x y : Int32} {z : Int} (d : decode cc pc = .ok (.ishr, 1)) (hz : x >>> (y &&& 31) = zi z) (hp : pc + 1 = n) (k : zV Γ A p l e R s m args below meth c cells slots Q n lv (.int (zi z) :: st) μ) : zV Γ A p l e R s m args below meth c cells slots Q pc lv (.int y :: .int x :: st) μ := by
  subst hp
  intro H locs ls hl hP hS
  have h := k H locs ls hl hP hS
  rw [← hz] at h
  exact lv_ishr C.1 C.2.1 d h
theorem zV_iushr (C : zCx Γ A p s m args c own cc nL) {x y : Int32} {z : Int} (d : decode cc pc = .ok (.iushr, 1)) (hz : (x.toUInt32 >>> (y.toUInt32 &&& Int32.toUInt32 31)).toInt32 = zi z) (hp : pc + 1 = n) (k : zV Γ A p l e R s m args below meth c cells slots Q n lv (.int (zi z) :: st) μ) : zV Γ A p l e R s m args below meth c cells slots Q pc lv (.int y :: .int x :: st) μ := by
  subst hp
  intro H locs ls hl hP hS
  have h := k H locs ls hl hP hS
  exact lv_iushr C.1 C.2.1 d hz h
theorem zV_land (C : zCx Γ A p s m args c own cc nL) {x y : Int64} (d : decode cc pc = .ok (.land, 1))  (hp : pc + 1 = n) (k : zV Γ A p l e R s m args below meth c cells slots Q n lv (.long (x &&& y) :: st) μ) : zV Γ A p l e R s m args below meth c cells slots Q pc lv (.long y :: .long x :: st) μ := by
  subst hp
  intro H locs ls hl hP hS
  have h := k H locs ls hl hP hS
  exact lv_land C.1 C.2.1 d h
theorem zV_lor (C : zCx Γ A p s m args c own cc nL) {x y : Int64} (d : decode cc pc = .ok (.lor, 1))  (hp : pc + 1 = n) (k : zV Γ A p l e R s m args below meth c cells slots Q n lv (.long (x ||| y) :: st) μ) : zV Γ A p l e R s m args below meth c cells slots Q pc lv (.long y :: .long x :: st) μ := by
  subst hp
  intro H locs ls hl hP hS
  have h := k H locs ls hl hP hS
  exact lv_lor C.1 C.2.1 d h
theorem zV_lshl (C : zCx Γ A p s m args c own cc nL) {x : Int64} {y : Int32} (d : decode cc pc = .ok (.lshl, 1))  (hp : pc + 1 = n) (k : zV Γ A p l e R s m args below meth c cells slots Q n lv (.long (x <<< (y.toInt64 &&& 63)) :: st) μ) : zV Γ A p l e R s m args below meth c cells slots Q pc lv (.int y :: .long x :: st) μ := by
  subst hp
  intro H locs ls hl hP hS
  have h := k H locs ls hl hP hS
  exact lv_lshl C.1 C.2.1 d rfl h
theorem zV_i2l (C : zCx Γ A p s m args c own cc nL) {x : Int} (d : decode cc pc = .ok (.i2l, 1)) (hx : -2147483648 ≤ x ∧ x ≤ 2147483647) (hp : pc + 1 = n) (k : zV Γ A p l e R s m args below meth c cells slots Q n lv (.long (zl x) :: st) μ) : zV Γ A p l e R s m args below meth c cells slots Q pc lv (.int (zi x) :: st) μ := by
  subst hp
  intro H locs ls hl hP hS
  have h := k H locs ls hl hP hS
  exact lv_i2l C.1 C.2.1 d (zi_l hx) h
theorem zV_i2l0 (C : zCx Γ A p s m args c own cc nL) {x : Int32} (d : decode cc pc = .ok (.i2l, 1))  (hp : pc + 1 = n) (k : zV Γ A p l e R s m args below meth c cells slots Q n lv (.long x.toInt64 :: st) μ) : zV Γ A p l e R s m args below meth c cells slots Q pc lv (.int x :: st) μ := by
  subst hp
  intro H locs ls hl hP hS
  have h := k H locs ls hl hP hS
  exact lv_i2l C.1 C.2.1 d rfl h
theorem zV_l2i (C : zCx Γ A p s m args c own cc nL) {x : Int} (d : decode cc pc = .ok (.l2i, 1))  (hp : pc + 1 = n) (k : zV Γ A p l e R s m args below meth c cells slots Q n lv (.int (zi x) :: st) μ) : zV Γ A p l e R s m args below meth c cells slots Q pc lv (.long (zl x) :: st) μ := by
  subst hp
  intro H locs ls hl hP hS
  have h := k H locs ls hl hP hS
  exact lv_l2i C.1 C.2.1 d (zl_i x) h
theorem zV_i2b (C : zCx Γ A p s m args c own cc nL) {x : Int32} {z : Int} (d : decode cc pc = .ok (.i2b, 1)) (hz : x.toInt8.toInt32 = zi z) (hp : pc + 1 = n) (k : zV Γ A p l e R s m args below meth c cells slots Q n lv (.int (zi z) :: st) μ) : zV Γ A p l e R s m args below meth c cells slots Q pc lv (.int x :: st) μ := by
  subst hp
  intro H locs ls hl hP hS
  have h := k H locs ls hl hP hS
  exact lv_i2b C.1 C.2.1 d hz h
theorem zV_i2s (C : zCx Γ A p s m args c own cc nL) {x : Int32} {z : Int} (d : decode cc pc = .ok (.i2s, 1)) (hz : x.toInt16.toInt32 = zi z) (hp : pc + 1 = n) (k : zV Γ A p l e R s m args below meth c cells slots Q n lv (.int (zi z) :: st) μ) : zV Γ A p l e R s m args below meth c cells slots Q pc lv (.int x :: st) μ := by
  subst hp
  intro H locs ls hl hP hS
  have h := k H locs ls hl hP hS
  exact lv_i2s C.1 C.2.1 d hz h
theorem zV_i2c (C : zCx Γ A p s m args c own cc nL) {x : Int32} {z : Int} (d : decode cc pc = .ok (.i2c, 1)) (hz : (x.toUInt32 % 65536).toInt32 = zi z) (hp : pc + 1 = n) (k : zV Γ A p l e R s m args below meth c cells slots Q n lv (.int (zi z) :: st) μ) : zV Γ A p l e R s m args below meth c cells slots Q pc lv (.int x :: st) μ := by
  subst hp
  intro H locs ls hl hP hS
  have h := k H locs ls hl hP hS
  exact lv_i2c C.1 C.2.1 d hz h
theorem zV_dup (C : zCx Γ A p s m args c own cc nL) {v : Value} (d : decode cc pc = .ok (.dup, 1)) (hv : v.category = 1) (hp : pc + 1 = n) (k : zV Γ A p l e R s m args below meth c cells slots Q n lv (v :: v :: st) μ) : zV Γ A p l e R s m args below meth c cells slots Q pc lv (v :: st) μ := by
  subst hp
  intro H locs ls hl hP hS
  have h := k H locs ls hl hP hS
  exact lv_dup C.1 C.2.1 d hv h
theorem zV_pop (C : zCx Γ A p s m args c own cc nL) {v : Value} (d : decode cc pc = .ok (.pop, 1)) (hv : v.category = 1) (hp : pc + 1 = n) (k : zV Γ A p l e R s m args below meth c cells slots Q n lv st μ) : zV Γ A p l e R s m args below meth c cells slots Q pc lv (v :: st) μ := by
  subst hp
  intro H locs ls hl hP hS
  have h := k H locs ls hl hP hS
  exact lv_pop C.1 C.2.1 d hv h
theorem zV_dup2 (C : zCx Γ A p s m args c own cc nL) {v w : Value} (d : decode cc pc = .ok (.dup2, 1)) (hv : v.category = 1) (hw : w.category = 1) (hp : pc + 1 = n) (k : zV Γ A p l e R s m args below meth c cells slots Q n lv (v :: w :: v :: w :: st) μ) : zV Γ A p l e R s m args below meth c cells slots Q pc lv (v :: w :: st) μ := by
  subst hp
  intro H locs ls hl hP hS
  have h := k H locs ls hl hP hS
  exact lv_dup2_11 C.1 C.2.1 d hv hw h
theorem zV_icmp_eq (C : zCx Γ A p s m args c own cc nL) {x y : Int} {off : Int} (tgt : Nat) (d : decode cc pc = .ok (.if_icmp .eq off, 3)) (ht : (pc : Int) + off = (tgt : Int)) (hx : -2147483648 ≤ x ∧ x ≤ 2147483647) (hy : -2147483648 ≤ y ∧ y ≤ 2147483647) (hp : pc + 3 = n) (kt : x = y → zV Γ A p l e R s m args below meth c cells slots Q tgt lv st μ) (kf : ¬ x = y → zV Γ A p l e R s m args below meth c cells slots Q n lv st μ) : zV Γ A p l e R s m args below meth c cells slots Q pc lv (.int (zi y) :: .int (zi x) :: st) μ := by
  subst hp
  intro H locs ls hl hP hS
  have hc := zi_eq hx hy
  exact lv_icmp_eq C.1 C.2.1 d ht (fun q => kt (hc.mp q) H locs ls hl hP hS) (fun q => kf (fun z => q (hc.mpr z)) H locs ls hl hP hS)
theorem zV_if_eq (C : zCx Γ A p s m args c own cc nL) {x : Int} {off : Int} (tgt : Nat) (d : decode cc pc = .ok (.ifCond .eq off, 3)) (ht : (pc : Int) + off = (tgt : Int)) (hx : -2147483648 ≤ x ∧ x ≤ 2147483647) (hp : pc + 3 = n) (kt : x = 0 → zV Γ A p l e R s m args below meth c cells slots Q tgt lv st μ) (kf : ¬ x = 0 → zV Γ A p l e R s m args below meth c cells slots Q n lv st μ) : zV Γ A p l e R s m args below meth c cells slots Q pc lv (.int (zi x) :: st) μ := by
  subst hp
  intro H locs ls hl hP hS
  have hy : -2147483648 ≤ (0 : Int) ∧ (0 : Int) ≤ 2147483647 := by decide
  have hc := zi_eq hx hy
  rw [zi_0] at hc
  exact lv_if_eq C.1 C.2.1 d ht (fun q => kt (hc.mp q) H locs ls hl hP hS) (fun q => kf (fun z => q (hc.mpr z)) H locs ls hl hP hS)
theorem zV_icmp_ne (C : zCx Γ A p s m args c own cc nL) {x y : Int} {off : Int} (tgt : Nat) (d : decode cc pc = .ok (.if_icmp .ne off, 3)) (ht : (pc : Int) + off = (tgt : Int)) (hx : -2147483648 ≤ x ∧ x ≤ 2147483647) (hy : -2147483648 ≤ y ∧ y ≤ 2147483647) (hp : pc + 3 = n) (kt : ¬ x = y → zV Γ A p l e R s m args below meth c cells slots Q tgt lv st μ) (kf : x = y → zV Γ A p l e R s m args below meth c cells slots Q n lv st μ) : zV Γ A p l e R s m args below meth c cells slots Q pc lv (.int (zi y) :: .int (zi x) :: st) μ := by
  subst hp
  intro H locs ls hl hP hS
  have hc := zi_eq hx hy
  exact lv_icmp_ne C.1 C.2.1 d ht (fun q => kt (fun z => q (hc.mpr z)) H locs ls hl hP hS) (fun q => kf (hc.mp q) H locs ls hl hP hS)
theorem zV_if_ne (C : zCx Γ A p s m args c own cc nL) {x : Int} {off : Int} (tgt : Nat) (d : decode cc pc = .ok (.ifCond .ne off, 3)) (ht : (pc : Int) + off = (tgt : Int)) (hx : -2147483648 ≤ x ∧ x ≤ 2147483647) (hp : pc + 3 = n) (kt : ¬ x = 0 → zV Γ A p l e R s m args below meth c cells slots Q tgt lv st μ) (kf : x = 0 → zV Γ A p l e R s m args below meth c cells slots Q n lv st μ) : zV Γ A p l e R s m args below meth c cells slots Q pc lv (.int (zi x) :: st) μ := by
  subst hp
  intro H locs ls hl hP hS
  have hy : -2147483648 ≤ (0 : Int) ∧ (0 : Int) ≤ 2147483647 := by decide
  have hc := zi_eq hx hy
  rw [zi_0] at hc
  exact lv_if_ne C.1 C.2.1 d ht (fun q => kt (fun z => q (hc.mpr z)) H locs ls hl hP hS) (fun q => kf (hc.mp q) H locs ls hl hP hS)
theorem zV_icmp_lt (C : zCx Γ A p s m args c own cc nL) {x y : Int} {off : Int} (tgt : Nat) (d : decode cc pc = .ok (.if_icmp .lt off, 3)) (ht : (pc : Int) + off = (tgt : Int)) (hx : -2147483648 ≤ x ∧ x ≤ 2147483647) (hy : -2147483648 ≤ y ∧ y ≤ 2147483647) (hp : pc + 3 = n) (kt : x < y → zV Γ A p l e R s m args below meth c cells slots Q tgt lv st μ) (kf : y ≤ x → zV Γ A p l e R s m args below meth c cells slots Q n lv st μ) : zV Γ A p l e R s m args below meth c cells slots Q pc lv (.int (zi y) :: .int (zi x) :: st) μ := by
  subst hp
  intro H locs ls hl hP hS
  have hc := zi_lt hx hy
  exact lv_icmp_lt C.1 C.2.1 d ht (fun q => kt (hc.mp q) H locs ls hl hP hS) (fun q => kf (Int.not_lt.mp (fun z => q (hc.mpr z))) H locs ls hl hP hS)
theorem zV_if_lt (C : zCx Γ A p s m args c own cc nL) {x : Int} {off : Int} (tgt : Nat) (d : decode cc pc = .ok (.ifCond .lt off, 3)) (ht : (pc : Int) + off = (tgt : Int)) (hx : -2147483648 ≤ x ∧ x ≤ 2147483647) (hp : pc + 3 = n) (kt : x < 0 → zV Γ A p l e R s m args below meth c cells slots Q tgt lv st μ) (kf : 0 ≤ x → zV Γ A p l e R s m args below meth c cells slots Q n lv st μ) : zV Γ A p l e R s m args below meth c cells slots Q pc lv (.int (zi x) :: st) μ := by
  subst hp
  intro H locs ls hl hP hS
  have hy : -2147483648 ≤ (0 : Int) ∧ (0 : Int) ≤ 2147483647 := by decide
  have hc := zi_lt hx hy
  rw [zi_0] at hc
  exact lv_if_lt C.1 C.2.1 d ht (fun q => kt (hc.mp q) H locs ls hl hP hS) (fun q => kf (Int.not_lt.mp (fun z => q (hc.mpr z))) H locs ls hl hP hS)
theorem zV_icmp_ge (C : zCx Γ A p s m args c own cc nL) {x y : Int} {off : Int} (tgt : Nat) (d : decode cc pc = .ok (.if_icmp .ge off, 3)) (ht : (pc : Int) + off = (tgt : Int)) (hx : -2147483648 ≤ x ∧ x ≤ 2147483647) (hy : -2147483648 ≤ y ∧ y ≤ 2147483647) (hp : pc + 3 = n) (kt : y ≤ x → zV Γ A p l e R s m args below meth c cells slots Q tgt lv st μ) (kf : x < y → zV Γ A p l e R s m args below meth c cells slots Q n lv st μ) : zV Γ A p l e R s m args below meth c cells slots Q pc lv (.int (zi y) :: .int (zi x) :: st) μ := by
  subst hp
  intro H locs ls hl hP hS
  have hc := zi_le hy hx
  exact lv_icmp_ge C.1 C.2.1 d ht (fun q => kt (hc.mp q) H locs ls hl hP hS) (fun q => kf (Int.not_le.mp (fun z => q (hc.mpr z))) H locs ls hl hP hS)
theorem zV_if_ge (C : zCx Γ A p s m args c own cc nL) {x : Int} {off : Int} (tgt : Nat) (d : decode cc pc = .ok (.ifCond .ge off, 3)) (ht : (pc : Int) + off = (tgt : Int)) (hx : -2147483648 ≤ x ∧ x ≤ 2147483647) (hp : pc + 3 = n) (kt : 0 ≤ x → zV Γ A p l e R s m args below meth c cells slots Q tgt lv st μ) (kf : x < 0 → zV Γ A p l e R s m args below meth c cells slots Q n lv st μ) : zV Γ A p l e R s m args below meth c cells slots Q pc lv (.int (zi x) :: st) μ := by
  subst hp
  intro H locs ls hl hP hS
  have hy : -2147483648 ≤ (0 : Int) ∧ (0 : Int) ≤ 2147483647 := by decide
  have hc := zi_le hy hx
  rw [zi_0] at hc
  exact lv_if_ge C.1 C.2.1 d ht (fun q => kt (hc.mp q) H locs ls hl hP hS) (fun q => kf (Int.not_le.mp (fun z => q (hc.mpr z))) H locs ls hl hP hS)
theorem zV_icmp_gt (C : zCx Γ A p s m args c own cc nL) {x y : Int} {off : Int} (tgt : Nat) (d : decode cc pc = .ok (.if_icmp .gt off, 3)) (ht : (pc : Int) + off = (tgt : Int)) (hx : -2147483648 ≤ x ∧ x ≤ 2147483647) (hy : -2147483648 ≤ y ∧ y ≤ 2147483647) (hp : pc + 3 = n) (kt : y < x → zV Γ A p l e R s m args below meth c cells slots Q tgt lv st μ) (kf : x ≤ y → zV Γ A p l e R s m args below meth c cells slots Q n lv st μ) : zV Γ A p l e R s m args below meth c cells slots Q pc lv (.int (zi y) :: .int (zi x) :: st) μ := by
  subst hp
  intro H locs ls hl hP hS
  have hc := zi_lt hy hx
  exact lv_icmp_gt C.1 C.2.1 d ht (fun q => kt (hc.mp q) H locs ls hl hP hS) (fun q => kf (Int.not_lt.mp (fun z => q (hc.mpr z))) H locs ls hl hP hS)
theorem zV_if_gt (C : zCx Γ A p s m args c own cc nL) {x : Int} {off : Int} (tgt : Nat) (d : decode cc pc = .ok (.ifCond .gt off, 3)) (ht : (pc : Int) + off = (tgt : Int)) (hx : -2147483648 ≤ x ∧ x ≤ 2147483647) (hp : pc + 3 = n) (kt : 0 < x → zV Γ A p l e R s m args below meth c cells slots Q tgt lv st μ) (kf : x ≤ 0 → zV Γ A p l e R s m args below meth c cells slots Q n lv st μ) : zV Γ A p l e R s m args below meth c cells slots Q pc lv (.int (zi x) :: st) μ := by
  subst hp
  intro H locs ls hl hP hS
  have hy : -2147483648 ≤ (0 : Int) ∧ (0 : Int) ≤ 2147483647 := by decide
  have hc := zi_lt hy hx
  rw [zi_0] at hc
  exact lv_if_gt C.1 C.2.1 d ht (fun q => kt (hc.mp q) H locs ls hl hP hS) (fun q => kf (Int.not_lt.mp (fun z => q (hc.mpr z))) H locs ls hl hP hS)
theorem zV_icmp_le (C : zCx Γ A p s m args c own cc nL) {x y : Int} {off : Int} (tgt : Nat) (d : decode cc pc = .ok (.if_icmp .le off, 3)) (ht : (pc : Int) + off = (tgt : Int)) (hx : -2147483648 ≤ x ∧ x ≤ 2147483647) (hy : -2147483648 ≤ y ∧ y ≤ 2147483647) (hp : pc + 3 = n) (kt : x ≤ y → zV Γ A p l e R s m args below meth c cells slots Q tgt lv st μ) (kf : y < x → zV Γ A p l e R s m args below meth c cells slots Q n lv st μ) : zV Γ A p l e R s m args below meth c cells slots Q pc lv (.int (zi y) :: .int (zi x) :: st) μ := by
  subst hp
  intro H locs ls hl hP hS
  have hc := zi_le hx hy
  exact lv_icmp_le C.1 C.2.1 d ht (fun q => kt (hc.mp q) H locs ls hl hP hS) (fun q => kf (Int.not_le.mp (fun z => q (hc.mpr z))) H locs ls hl hP hS)
theorem zV_if_le (C : zCx Γ A p s m args c own cc nL) {x : Int} {off : Int} (tgt : Nat) (d : decode cc pc = .ok (.ifCond .le off, 3)) (ht : (pc : Int) + off = (tgt : Int)) (hx : -2147483648 ≤ x ∧ x ≤ 2147483647) (hp : pc + 3 = n) (kt : x ≤ 0 → zV Γ A p l e R s m args below meth c cells slots Q tgt lv st μ) (kf : 0 < x → zV Γ A p l e R s m args below meth c cells slots Q n lv st μ) : zV Γ A p l e R s m args below meth c cells slots Q pc lv (.int (zi x) :: st) μ := by
  subst hp
  intro H locs ls hl hP hS
  have hy : -2147483648 ≤ (0 : Int) ∧ (0 : Int) ≤ 2147483647 := by decide
  have hc := zi_le hx hy
  rw [zi_0] at hc
  exact lv_if_le C.1 C.2.1 d ht (fun q => kt (hc.mp q) H locs ls hl hP hS) (fun q => kf (Int.not_le.mp (fun z => q (hc.mpr z))) H locs ls hl hP hS)
theorem zV_goto (C : zCx Γ A p s m args c own cc nL) {off : Int} (tgt : Nat) (d : decode cc pc = .ok (.goto off, 3)) (ht : (pc : Int) + off = (tgt : Int)) (k : zV Γ A p l e R s m args below meth c cells slots Q tgt lv st μ) : zV Γ A p l e R s m args below meth c cells slots Q pc lv st μ := by
  intro H locs ls hl hP hS
  exact lv_goto C.1 C.2.1 d ht (k H locs ls hl hP hS)
theorem zV_lcmp_lt (C : zCx Γ A p s m args c own cc nL) {x y : Int} {off : Int} (tgt : Nat) (d0 : decode cc pc = .ok (.lcmp, 1)) (d : decode cc (pc + 1) = .ok (.ifCond .lt off, 3)) (ht : ((pc + 1 : Nat) : Int) + off = (tgt : Int)) (hx : -9223372036854775808 ≤ x ∧ x ≤ 9223372036854775807) (hy : -9223372036854775808 ≤ y ∧ y ≤ 9223372036854775807) (hp : pc + 4 = n) (kt : x < y → zV Γ A p l e R s m args below meth c cells slots Q tgt lv st μ) (kf : y ≤ x → zV Γ A p l e R s m args below meth c cells slots Q n lv st μ) : zV Γ A p l e R s m args below meth c cells slots Q pc lv (.long (zl y) :: .long (zl x) :: st) μ := by
  subst hp
  intro H locs ls hl hP hS
  have hc := Iff.trans (lg_cmp_lt (zl x) (zl y)) (zl_lt hx hy)
  refine W.lcmp C.1 C.2.1 d0 ?_
  exact lv_if_lt C.1 C.2.1 d ht (fun q => kt (hc.mp q) H locs ls hl hP hS) (fun q => kf (Int.not_lt.mp (fun z => q (hc.mpr z))) H locs ls hl hP hS)
theorem zV_lcmp_le (C : zCx Γ A p s m args c own cc nL) {x y : Int} {off : Int} (tgt : Nat) (d0 : decode cc pc = .ok (.lcmp, 1)) (d : decode cc (pc + 1) = .ok (.ifCond .le off, 3)) (ht : ((pc + 1 : Nat) : Int) + off = (tgt : Int)) (hx : -9223372036854775808 ≤ x ∧ x ≤ 9223372036854775807) (hy : -9223372036854775808 ≤ y ∧ y ≤ 9223372036854775807) (hp : pc + 4 = n) (kt : x ≤ y → zV Γ A p l e R s m args below meth c cells slots Q tgt lv st μ) (kf : y < x → zV Γ A p l e R s m args below meth c cells slots Q n lv st μ) : zV Γ A p l e R s m args below meth c cells slots Q pc lv (.long (zl y) :: .long (zl x) :: st) μ := by
  subst hp
  intro H locs ls hl hP hS
  have hc := Iff.trans (lg_cmp_le (zl x) (zl y)) (zl_le hx hy)
  refine W.lcmp C.1 C.2.1 d0 ?_
  exact lv_if_le C.1 C.2.1 d ht (fun q => kt (hc.mp q) H locs ls hl hP hS) (fun q => kf (Int.not_le.mp (fun z => q (hc.mpr z))) H locs ls hl hP hS)
theorem zV_lcmp_gt (C : zCx Γ A p s m args c own cc nL) {x y : Int} {off : Int} (tgt : Nat) (d0 : decode cc pc = .ok (.lcmp, 1)) (d : decode cc (pc + 1) = .ok (.ifCond .gt off, 3)) (ht : ((pc + 1 : Nat) : Int) + off = (tgt : Int)) (hx : -9223372036854775808 ≤ x ∧ x ≤ 9223372036854775807) (hy : -9223372036854775808 ≤ y ∧ y ≤ 9223372036854775807) (hp : pc + 4 = n) (kt : y < x → zV Γ A p l e R s m args below meth c cells slots Q tgt lv st μ) (kf : x ≤ y → zV Γ A p l e R s m args below meth c cells slots Q n lv st μ) : zV Γ A p l e R s m args below meth c cells slots Q pc lv (.long (zl y) :: .long (zl x) :: st) μ := by
  subst hp
  intro H locs ls hl hP hS
  have hc := Iff.trans (lg_cmp_gt (zl x) (zl y)) (zl_lt hy hx)
  refine W.lcmp C.1 C.2.1 d0 ?_
  exact lv_if_gt C.1 C.2.1 d ht (fun q => kt (hc.mp q) H locs ls hl hP hS) (fun q => kf (Int.not_lt.mp (fun z => q (hc.mpr z))) H locs ls hl hP hS)
theorem zV_lcmp_ge (C : zCx Γ A p s m args c own cc nL) {x y : Int} {off : Int} (tgt : Nat) (d0 : decode cc pc = .ok (.lcmp, 1)) (d : decode cc (pc + 1) = .ok (.ifCond .ge off, 3)) (ht : ((pc + 1 : Nat) : Int) + off = (tgt : Int)) (hx : -9223372036854775808 ≤ x ∧ x ≤ 9223372036854775807) (hy : -9223372036854775808 ≤ y ∧ y ≤ 9223372036854775807) (hp : pc + 4 = n) (kt : y ≤ x → zV Γ A p l e R s m args below meth c cells slots Q tgt lv st μ) (kf : x < y → zV Γ A p l e R s m args below meth c cells slots Q n lv st μ) : zV Γ A p l e R s m args below meth c cells slots Q pc lv (.long (zl y) :: .long (zl x) :: st) μ := by
  subst hp
  intro H locs ls hl hP hS
  have hc := Iff.trans (lg_cmp_ge (zl x) (zl y)) (zl_le hy hx)
  refine W.lcmp C.1 C.2.1 d0 ?_
  exact lv_if_ge C.1 C.2.1 d ht (fun q => kt (hc.mp q) H locs ls hl hP hS) (fun q => kf (Int.not_le.mp (fun z => q (hc.mpr z))) H locs ls hl hP hS)
theorem zV_lcmp_eq (C : zCx Γ A p s m args c own cc nL) {x y : Int} {off : Int} (tgt : Nat) (d0 : decode cc pc = .ok (.lcmp, 1)) (d : decode cc (pc + 1) = .ok (.ifCond .eq off, 3)) (ht : ((pc + 1 : Nat) : Int) + off = (tgt : Int)) (hx : -9223372036854775808 ≤ x ∧ x ≤ 9223372036854775807) (hy : -9223372036854775808 ≤ y ∧ y ≤ 9223372036854775807) (hp : pc + 4 = n) (kt : x = y → zV Γ A p l e R s m args below meth c cells slots Q tgt lv st μ) (kf : ¬ x = y → zV Γ A p l e R s m args below meth c cells slots Q n lv st μ) : zV Γ A p l e R s m args below meth c cells slots Q pc lv (.long (zl y) :: .long (zl x) :: st) μ := by
  subst hp
  intro H locs ls hl hP hS
  have hc := Iff.trans (lg_cmp_eq (zl x) (zl y)) (zl_eq hx hy)
  refine W.lcmp C.1 C.2.1 d0 ?_
  exact lv_if_eq C.1 C.2.1 d ht (fun q => kt (hc.mp q) H locs ls hl hP hS) (fun q => kf (fun z => q (hc.mpr z)) H locs ls hl hP hS)
theorem zV_lcmp_ne (C : zCx Γ A p s m args c own cc nL) {x y : Int} {off : Int} (tgt : Nat) (d0 : decode cc pc = .ok (.lcmp, 1)) (d : decode cc (pc + 1) = .ok (.ifCond .ne off, 3)) (ht : ((pc + 1 : Nat) : Int) + off = (tgt : Int)) (hx : -9223372036854775808 ≤ x ∧ x ≤ 9223372036854775807) (hy : -9223372036854775808 ≤ y ∧ y ≤ 9223372036854775807) (hp : pc + 4 = n) (kt : ¬ x = y → zV Γ A p l e R s m args below meth c cells slots Q tgt lv st μ) (kf : x = y → zV Γ A p l e R s m args below meth c cells slots Q n lv st μ) : zV Γ A p l e R s m args below meth c cells slots Q pc lv (.long (zl y) :: .long (zl x) :: st) μ := by
  subst hp
  intro H locs ls hl hP hS
  have hc := Iff.trans (lg_cmp_eq (zl x) (zl y)) (zl_eq hx hy)
  refine W.lcmp C.1 C.2.1 d0 ?_
  exact lv_if_ne C.1 C.2.1 d ht (fun q => kt (fun z => q (hc.mpr z)) H locs ls hl hP hS) (fun q => kf (hc.mp q) H locs ls hl hP hS)
theorem zV_tswIn (C : zCx Γ A p s m args c own cc nL) {dflt lo hi off : Int} {offs : Array Int} {len : Nat} {x : Int} (tgt : Nat) (d : decode cc pc = .ok (.tableswitch dflt lo hi offs, len)) (hx : -2147483648 ≤ x ∧ x ≤ 2147483647) (h1 : lo ≤ x) (h2 : x ≤ hi) (ho : offs[(x - lo).toNat]? = some off) (ht : (pc : Int) + off = (tgt : Int)) (k : zV Γ A p l e R s m args below meth c cells slots Q tgt lv st μ) : zV Γ A p l e R s m args below meth c cells slots Q pc lv (.int (zi x) :: st) μ := by
  intro H locs ls hl hP hS
  exact lv_tableIn C.1 C.2.1 d (by rw [zi_toInt hx]; omega) (by rw [zi_toInt hx]; omega) (by rw [zi_toInt hx]; exact ho) ht (k H locs ls hl hP hS)
theorem zV_tswOut (C : zCx Γ A p s m args c own cc nL) {dflt lo hi : Int} {offs : Array Int} {len : Nat} {x : Int} (tgt : Nat) (d : decode cc pc = .ok (.tableswitch dflt lo hi offs, len)) (hx : -2147483648 ≤ x ∧ x ≤ 2147483647) (h1 : x < lo ∨ hi < x) (ht : (pc : Int) + dflt = (tgt : Int)) (k : zV Γ A p l e R s m args below meth c cells slots Q tgt lv st μ) : zV Γ A p l e R s m args below meth c cells slots Q pc lv (.int (zi x) :: st) μ := by
  intro H locs ls hl hP hS
  exact lv_tableOut C.1 C.2.1 d (by rw [zi_toInt hx]; omega) ht (k H locs ls hl hP hS)
theorem zV_lsw (C : zCx Γ A p s m args c own cc nL) {dflt off : Int} {ps : Array (Int × Int)} {len : Nat} {x : Int} (tgt : Nat) (d : decode cc pc = .ok (.lookupswitch dflt ps, len)) (hx : -2147483648 ≤ x ∧ x ≤ 2147483647) (hs : (ps.toList.zip (ps.toList.drop 1)).all (fun (a, next) => a.1 < next.1) = true) (ho : Op.lookupswitch.offset ps.toList dflt x = off) (ht : (pc : Int) + off = (tgt : Int)) (k : zV Γ A p l e R s m args below meth c cells slots Q tgt lv st μ) : zV Γ A p l e R s m args below meth c cells slots Q pc lv (.int (zi x) :: st) μ := by
  intro H locs ls hl hP hS
  exact lv_lookup C.1 C.2.1 d hs (by rw [zi_toInt hx]; exact ho) ht (k H locs ls hl hP hS)
end ZROWS
