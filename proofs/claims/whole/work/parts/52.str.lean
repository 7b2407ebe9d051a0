/-! the strings of the class: their length and letters, by the JDK's own methods -/
def zch (i : Nat) (z : Int) : Int := ((zbyt.getD i []).getD z.toNat 0).toInt
theorem zlen_tab : ∀ i : Nat, i < 14 → Int32.ofNat (zlen.getD i 0) = zi ((zlen.getD i 0 : Nat) : Int) ∧ zi ((zlen.getD i 0 : Nat) : Int) >>> (zi 0 &&& 31) = zi ((zlen.getD i 0 : Nat) : Int) ∧ zlen.getD i 0 ≤ 6 ∧ 1 ≤ zlen.getD i 0 := by decide +kernel
theorem zch_tab : ∀ i : Nat, i < 14 → ∀ j : Nat, j < zlen.getD i 0 → 97 ≤ zch i (j : Int) ∧ zch i (j : Int) ≤ 122 := by decide +kernel
theorem zch_rg {i : Nat} {z : Int} (hi : i < 14) (hz : 0 ≤ z ∧ z < (zlen.getD i 0 : Nat)) : 97 ≤ zch i z ∧ zch i z ≤ 122 := by
  have h := zch_tab i hi z.toNat (by omega)
  rw [Int.toNat_of_nonneg hz.1] at h
  exact h
theorem zand255 : ∀ j : Nat, j < 123 → zi (j : Int) &&& zi 255 = zi (j : Int) ∧ ((zi (j : Int)).toUInt32 % 65536).toInt32 = zi (j : Int) ∧ narrow .char (.int (zi (j : Int))) = .int (zi (j : Int)) := by decide +kernel
theorem zand_rg {z : Int} (hz : 0 ≤ z ∧ z < 123) : zi z &&& zi 255 = zi z ∧ ((zi z).toUInt32 % 65536).toInt32 = zi z ∧ narrow .char (.int (zi z)) = .int (zi z) := by
  have h := zand255 z.toNat (by omega)
  rw [Int.toNat_of_nonneg hz.1] at h
  exact h
section ZSTR
variable {Γ : zC} {A : Nat → Prop} {p : Program} {l : Launch} {e : Env} {R : Room} {s : State} {m : MethodId} {args : Array Value} {below : List Frame} {meth : Method} {c : Code} {cells slots : Nat} {Q : State → Prop} {own : String} {cc : ByteArray} {nL pc n : Nat} {lv st : List Value} {μ : zMem}
theorem zV_ldcS (i : Nat) {idx : Nat} (C : zCx Γ A p s m args c RX1 cc nL) (d : decode cc pc = .ok (.ldc idx, 2)) (hi : i < 14) (hx : (zstr.getD i (0, "")).1 = idx) (hp : pc + 2 = n) (k : zV Γ A p l e R s m args below meth c cells slots Q n lv (.ref (zaK Γ i) :: st) μ) : zV Γ A p l e R s m args below meth c cells slots Q pc lv st μ := by
  subst hp
  subst hx
  intro H locs ls hl9 hP hS
  exact va_ldcS C.1 C.2.1 C.2.2.2.1 (C.2.2.2.2.2.2.2.1.2.2.2.2.2.1 i hi) d (k H locs ls hl9 hP hS)
theorem zV_getC {idx : Nat} (C : zCx Γ A p s m args c own cc nL) (hl : Cond.fieldLink own idx "java/lang/String" "COMPACT_STRINGS" "Z" ∈ tblG) (d : decode cc pc = .ok (.getstatic idx, 3)) (hp : pc + 3 = n) (k : zV Γ A p l e R s m args below meth c cells slots Q n lv (.int (zi 1) :: st) μ) : zV Γ A p l e R s m args below meth c cells slots Q pc lv st μ := by
  subst hp
  intro H locs ls hl9 hP hS
  exact va_gets C.1 C.2.1 C.2.2.2.2.2.2.2.1.2.2.1 hS C.2.2.2.1 (C.2.2.2.2.1 _ hl) (fun _ h => h) d (k H locs ls hl9 hP hS)
theorem zV_getQ {idx : Nat} (C : zCx Γ A p s m args c own cc nL) (hl : Cond.fieldLink own idx "jdk/internal/util/Preconditions" "SIOOBE_FORMATTER" "Ljava/util/function/BiFunction;" ∈ tblG) (d : decode cc pc = .ok (.getstatic idx, 3)) (hp : pc + 3 = n) (k : ∀ v : Value, v = .null ∨ (∃ t : Nat, v = .ref t) → zV Γ A p l e R s m args below meth c cells slots Q n lv (v :: st) μ) : zV Γ A p l e R s m args below meth c cells slots Q pc lv st μ := by
  subst hp
  intro H locs ls hl9 hP hS
  rcases C.2.2.2.2.2.2.2.1.2.2.2.1 with h | ⟨t, h⟩
  · exact va_gets C.1 C.2.1 h hS C.2.2.2.1 (C.2.2.2.2.1 _ hl) (fun _ h => h) d (k .null (Or.inl rfl) H locs ls hl9 hP hS)
  · exact va_gets C.1 C.2.1 h hS C.2.2.2.1 (C.2.2.2.2.1 _ hl) (fun _ h => h) d (k (.ref t) (Or.inr ⟨t, rfl⟩) H locs ls hl9 hP hS)
theorem zV_getV {i idx : Nat} (C : zCx Γ A p s m args c own cc nL) (hi : i < 14) (hl : Cond.fieldLink own idx "java/lang/String" "value" "[B" ∈ tblG) (d : decode cc pc = .ok (.getfield idx, 3)) (hp : pc + 3 = n) (k : zV Γ A p l e R s m args below meth c cells slots Q n lv (.ref (zaV Γ i) :: st) μ) : zV Γ A p l e R s m args below meth c cells slots Q pc lv (.ref (zaK Γ i) :: st) μ := by
  subst hp
  intro H locs ls hl9 hP hS
  exact vk_getf C.1 C.2.1 (C.2.2.2.2.2.2.2.1.2.2.2.2.1.1 i hi).2.2.1 hS C.2.2.2.1 (C.2.2.2.2.1 _ hl) (fun _ h => h) d (k H locs ls hl9 hP hS)
theorem zV_getK {i idx : Nat} (C : zCx Γ A p s m args c own cc nL) (hi : i < 14) (hl : Cond.fieldLink own idx "java/lang/String" "coder" "B" ∈ tblG) (d : decode cc pc = .ok (.getfield idx, 3)) (hp : pc + 3 = n) (k : zV Γ A p l e R s m args below meth c cells slots Q n lv (.int (zi 0) :: st) μ) : zV Γ A p l e R s m args below meth c cells slots Q pc lv (.ref (zaK Γ i) :: st) μ := by
  subst hp
  intro H locs ls hl9 hP hS
  exact vk_getf C.1 C.2.1 (C.2.2.2.2.2.2.2.1.2.2.2.2.1.1 i hi).2.1 hS C.2.2.2.1 (C.2.2.2.2.1 _ hl) (fun _ h => h) d (k H locs ls hl9 hP hS)
theorem zV_lenS {i : Nat} (C : zCx Γ A p s m args c own cc nL) (hi : i < 14) (d : decode cc pc = .ok (.arraylength, 1)) (hp : pc + 1 = n) (k : zV Γ A p l e R s m args below meth c cells slots Q n lv (.int (zi ((zlen.getD i 0 : Nat) : Int)) :: st) μ) : zV Γ A p l e R s m args below meth c cells slots Q pc lv (.ref (zaV Γ i) :: st) μ := by
  subst hp
  intro H locs ls hl9 hP hS
  exact va_tlen C.1 C.2.1 (C.2.2.2.2.2.2.2.1.2.2.2.2.1.1 i hi).2.2.2 hS (zlen_tab i hi).1 d (k H locs ls hl9 hP hS)
theorem zV_baldS {i : Nat} {z : Int} (C : zCx Γ A p s m args c own cc nL) (hi : i < 14) (hz : 0 ≤ z ∧ z < (zlen.getD i 0 : Nat)) (d : decode cc pc = .ok (.baload, 1)) (hp : pc + 1 = n) (k : zV Γ A p l e R s m args below meth c cells slots Q n lv (.int (zi (zch i z)) :: st) μ) : zV Γ A p l e R s m args below meth c cells slots Q pc lv (.int (zi z) :: .ref (zaV Γ i) :: st) μ := by
  subst hp
  intro H locs ls hl9 hP hS
  have hl := (zlen_tab i hi).2.2.1
  exact va_tb C.1 C.2.1 (C.2.2.2.2.2.2.2.1.2.2.2.2.1.1 i hi).2.2.2 hS (zi_in (n := zlen.getD i 0) hz (by omega)) (by rw [zi_clamp (by omega)]; unfold zch; rw [zi_of]) d (k H locs ls hl9 hP hS)
theorem zV_callK {y : zM} {na d idx i : Nat} {r : Option Value} {μ' : zMem} (As : List Value) (rest : List Value) (C : zCx Γ A p s m args c own cc nL) (hi : i < 14) (hy : zInV y na) (hl : Cond.methodLink own idx y.1 ∈ tblG) (hM : zRet Γ l d y (.ref (zaK Γ i) :: As) μ r μ') (hd : decode cc pc = .ok (.invokevirtual idx, 3)) (hcn : y.1.cls = "java/lang/String") (hna : As.length = na) (hst : As.reverse ++ .ref (zaK Γ i) :: rest = st) (hW : (rest.map fun v => v.category).sum ≤ 8) (hR : zfit R d y.2.2.1) (hc : cells ≤ R.cells ∧ slots ≤ R.slots) (hp : pc + 3 = n)
    (kk : zV Γ A p l e R s m args below meth c cells slots Q n lv (r.toList ++ rest) μ') : zV Γ A p l e R s m args below meth c cells slots Q pc lv st μ := by
  subst hp
  subst hst
  intro H locs ls hl9 hP hS
  have hC := C
  obtain ⟨hx, hb, hml, ho, hts, hK, hAp, hE, hA⟩ := C
  have hrv := vk_recv hE.2.2.2.2.1 hi hS
  have hpr := zpre (av := .ref (zaK Γ i) :: As) hC hP hS
  refine zgo hA (va_runV (C := y.1.cls) (As := As) (rest := rest) (b := zaK Γ i) ⟨hx, hb, hml, ho, hts⟩ hM ⟨zcallB hC hy.1 hl hR, hts _ hy.2.1, hts _ hy.2.2⟩ ⟨hpr.1, by rw [hcn]; exact hrv, hpr.2⟩ rfl hna (hl9.1.trans hml) rfl (lv_room hW) hd hc) hS (fun H1 locs1 hP1 hS1 => kk H1 locs1 ls hl9 hP1 hS1)
theorem zV_callK0 {y : zM} {d idx i : Nat} {μ' : zMem} {w : Value} (C : zCx Γ A p s m args c own cc nL) (hi : i < 14) (hy : zInV y 0) (hl : Cond.methodLink own idx y.1 ∈ tblG) (hM : zRet Γ l d y (.ref (zaK Γ i) :: []) μ (some w) μ') (hd : decode cc pc = .ok (.invokevirtual idx, 3)) (hcn : y.1.cls = "java/lang/String") (hW : (st.map fun v => v.category).sum ≤ 8) (hR : zfit R d y.2.2.1) (hc : cells ≤ R.cells ∧ slots ≤ R.slots) (hp : pc + 3 = n) (kk : zV Γ A p l e R s m args below meth c cells slots Q n lv (w :: st) μ') : zV Γ A p l e R s m args below meth c cells slots Q pc lv (.ref (zaK Γ i) :: st) μ := zV_callK [] st C hi hy hl hM hd hcn rfl rfl hW hR hc hp kk
theorem zV_callK1 {y : zM} {d idx i : Nat} {μ' : zMem} {a0 w : Value} (C : zCx Γ A p s m args c own cc nL) (hi : i < 14) (hy : zInV y 1) (hl : Cond.methodLink own idx y.1 ∈ tblG) (hM : zRet Γ l d y (.ref (zaK Γ i) :: a0 :: []) μ (some w) μ') (hd : decode cc pc = .ok (.invokevirtual idx, 3)) (hcn : y.1.cls = "java/lang/String") (hW : (st.map fun v => v.category).sum ≤ 8) (hR : zfit R d y.2.2.1) (hc : cells ≤ R.cells ∧ slots ≤ R.slots) (hp : pc + 3 = n) (kk : zV Γ A p l e R s m args below meth c cells slots Q n lv (w :: st) μ') : zV Γ A p l e R s m args below meth c cells slots Q pc lv (a0 :: .ref (zaK Γ i) :: st) μ := zV_callK [a0] st C hi hy hl hM hd hcn rfl rfl hW hR hc hp kk
end ZSTR
section ZJDK
variable {Γ : zC} {l : Launch} {d : Nat} {μ : zMem} {i : Nat}
set_option maxRecDepth 100000 in
theorem s_coder (hi : i < 14) : zRet Γ l (d + 0) qJ0_coder_7d493 [.ref (zaK Γ i)] μ (some (.int (zi 0))) μ := by
  refine zRet.mk 0 [.ref (zaK Γ i)] RJ0 rfl (by decide +kernel) (Nat.le_of_ble_eq_true rfl) rfl ?_
  intro p e s m below meth c C hr hlk
  refine zV_getC (n := 3) C fJ0_38 dJ0_coder_7d493_0 rfl ?_
  refine zV_if_eq (n := 6) C 13 dJ0_coder_7d493_3 (by decide) (by omega) rfl (fun h => by exfalso; omega) (fun _ => ?_)
  refine zV_aload_n (i := 0) (n := 7) C dJ0_coder_7d493_6 rfl rfl rfl ?_
  refine zV_getK (n := 10) C hi fJ0_15 dJ0_coder_7d493_7 rfl ?_
  refine zV_goto C 14 dJ0_coder_7d493_10 (by decide) ?_
  exact zV_zreturn C hr hlk dJ0_coder_7d493_14 rfl rfl rfl
set_option maxRecDepth 100000 in
theorem s_isLatin1 (hi : i < 14) : zRet Γ l (d + 0) qJ0_isLatin1_aae02 [.ref (zaK Γ i)] μ (some (.int (zi 1))) μ := by
  refine zRet.mk 0 [.ref (zaK Γ i)] RJ0 rfl (by decide +kernel) (Nat.le_of_ble_eq_true rfl) rfl ?_
  intro p e s m below meth c C hr hlk
  refine zV_getC (n := 3) C fJ0_38 dJ0_isLatin1_aae02_0 rfl ?_
  refine zV_if_eq (n := 6) C 17 dJ0_isLatin1_aae02_3 (by decide) (by omega) rfl (fun h => by exfalso; omega) (fun _ => ?_)
  refine zV_aload_n (i := 0) (n := 7) C dJ0_isLatin1_aae02_6 rfl rfl rfl ?_
  refine zV_getK (n := 10) C hi fJ0_15 dJ0_isLatin1_aae02_7 rfl ?_
  refine zV_if_ne (n := 13) C 17 dJ0_isLatin1_aae02_10 (by decide) (by omega) rfl (fun h => by exfalso; omega) (fun _ => ?_)
  refine zV_iconst (n := 14) C dJ0_isLatin1_aae02_13 rfl ?_
  refine zV_goto C 18 dJ0_isLatin1_aae02_14 (by decide) ?_
  exact zV_zreturn C hr hlk dJ0_isLatin1_aae02_18 rfl rfl rfl
set_option maxRecDepth 100000 in
theorem s_length (hi : i < 14) : zRet Γ l (d + 1) qJ0_length_8abf5 [.ref (zaK Γ i)] μ (some (.int (zi ((zlen.getD i 0 : Nat) : Int)))) μ := by
  refine zRet.mk 0 [.ref (zaK Γ i)] RJ0 rfl (by decide +kernel) (Nat.le_of_ble_eq_true rfl) rfl ?_
  intro p e s m below meth c C hr hlk
  refine zV_aload_n (i := 0) (n := 1) C dJ0_length_8abf5_0 rfl rfl rfl ?_
  refine zV_getV (n := 4) C hi fJ0_9 dJ0_length_8abf5_1 rfl ?_
  refine zV_lenS (n := 5) C hi dJ0_length_8abf5_4 rfl ?_
  refine zV_aload_n (i := 0) (n := 6) C dJ0_length_8abf5_5 rfl rfl rfl ?_
  refine zV_callK0 (n := 9) C hi jJ0_coder_7d493 lJ0_335 (s_coder (d := d) hi) dJ0_length_8abf5_6 rfl (Nat.le_of_ble_eq_true rfl) (zfit_of (by omega) (by decide)) ⟨Nat.le_refl _, Nat.le_refl _⟩ rfl ?_
  refine zV_ishr (n := 10) C dJ0_length_8abf5_9 (zlen_tab i hi).2.1 rfl ?_
  exact zV_ireturn C hr hlk dJ0_length_8abf5_10 rfl rfl
set_option maxRecDepth 100000 in
theorem s_check3 {x y : Int} {v : Value} (hx : 0 ≤ x ∧ x < y) (hy : y ≤ 1000) (hv : v = .null ∨ (∃ t : Nat, v = .ref t)) : zRet Γ l (d + 0) qJ3_checkIndex_8e157 [.int (zi x), .int (zi y), v] μ (some (.int (zi x))) μ := by
  refine zRet.of (lv := [.int (zi x), .int (zi y), .null]) (by decide +kernel) (by rcases hv with rfl | ⟨t, rfl⟩ <;> exact Nat.le_of_ble_eq_true rfl) (fun j w h => ?_) ?_
  · have h3 : j = 0 ∨ j = 1 ∨ j = 2 ∨ 3 ≤ j := by omega
    rcases h3 with rfl | rfl | rfl | h3
    · cases h; exact Or.inr List.mem_cons_self
    · cases h; exact Or.inr (List.mem_cons_of_mem _ List.mem_cons_self)
    · cases h; exact Or.inl rfl
    · rw [List.getElem?_eq_none (by simpa using h3)] at h
      cases h
  · intro p e s m below meth c C hr hlk
    refine zV_iload_n (i := 0) (n := 1) C dJ3_checkIndex_8e157_0 rfl rfl rfl ?_
    refine zV_if_lt (n := 4) C 9 dJ3_checkIndex_8e157_1 (by decide) (by omega) rfl (fun h => by exfalso; omega) (fun _ => ?_)
    refine zV_iload_n (i := 0) (n := 5) C dJ3_checkIndex_8e157_4 rfl rfl rfl ?_
    refine zV_iload_n (i := 1) (n := 6) C dJ3_checkIndex_8e157_5 rfl rfl rfl ?_
    refine zV_icmp_lt (n := 9) C 16 dJ3_checkIndex_8e157_6 (by decide) (by omega) (by omega) rfl (fun _ => ?_) (fun h => by exfalso; omega)
    refine zV_iload_n (i := 0) (n := 17) C dJ3_checkIndex_8e157_16 rfl rfl rfl ?_
    exact zV_ireturn C hr hlk dJ3_checkIndex_8e157_17 rfl rfl
set_option maxRecDepth 100000 in
theorem s_check {x y : Int} (hx : 0 ≤ x ∧ x < y) (hy : y ≤ 1000) : zRet Γ l (d + 1) qJ0_checkIndex_df160 [.int (zi x), .int (zi y)] μ none μ := by
  refine zRet.mk 0 [.int (zi x), .int (zi y)] RJ0 rfl (by decide +kernel) (Nat.le_of_ble_eq_true rfl) rfl ?_
  intro p e s m below meth c C hr hlk
  refine zV_iload_n (i := 0) (n := 1) C dJ0_checkIndex_df160_0 rfl rfl rfl ?_
  refine zV_iload_n (i := 1) (n := 2) C dJ0_checkIndex_df160_1 rfl rfl rfl ?_
  refine zV_getQ (n := 5) C fJ0_1053 dJ0_checkIndex_df160_2 rfl (fun v hv => ?_)
  refine zV_callS3u (n := 8) C jJ3_checkIndex_8e157 lJ0_1059 (s_check3 (d := d) hx hy hv) dJ0_checkIndex_df160_5 (Nat.le_of_ble_eq_true rfl) (zfit_of (by omega) (by decide)) ⟨Nat.le_refl _, Nat.le_refl _⟩ rfl ?_
  refine zV_pop (n := 9) C dJ0_checkIndex_df160_8 rfl rfl ?_
  exact zV_return C hr hlk dJ0_checkIndex_df160_9 rfl rfl
set_option maxRecDepth 100000 in
theorem s_charAt1 {z : Int} (hi : i < 14) (hz : 0 ≤ z ∧ z < (zlen.getD i 0 : Nat)) : zRet Γ l (d + 2) qJ1_charAt_3b067 [.ref (zaV Γ i), .int (zi z)] μ (some (.int (zi (zch i z)))) μ := by
  refine zRet.mk 0 [.ref (zaV Γ i), .int (zi z)] RJ1 rfl (by decide +kernel) (Nat.le_of_ble_eq_true rfl) rfl ?_
  intro p e s m below meth c C hr hlk
  have h6 := (zlen_tab i hi).2.2.1
  have hc9 := zch_rg hi hz
  have ha := zand_rg (z := zch i z) (by omega)
  refine zV_iload_n (i := 1) (n := 1) C dJ1_charAt_3b067_0 rfl rfl rfl ?_
  refine zV_aload_n (i := 0) (n := 2) C dJ1_charAt_3b067_1 rfl rfl rfl ?_
  refine zV_lenS (n := 3) C hi dJ1_charAt_3b067_2 rfl ?_
  refine zV_callS2v (n := 6) C jJ0_checkIndex_df160 lJ1_9 (s_check (d := d) hz (by omega)) dJ1_charAt_3b067_3 (Nat.le_of_ble_eq_true rfl) (zfit_of (by omega) (by decide)) ⟨Nat.le_refl _, Nat.le_refl _⟩ rfl ?_
  refine zV_aload_n (i := 0) (n := 7) C dJ1_charAt_3b067_6 rfl rfl rfl ?_
  refine zV_iload_n (i := 1) (n := 8) C dJ1_charAt_3b067_7 rfl rfl rfl ?_
  refine zV_baldS (n := 9) C hi hz dJ1_charAt_3b067_8 rfl ?_
  refine zV_sipush (n := 12) C dJ1_charAt_3b067_9 (by decide) rfl ?_
  refine zV_iand (n := 13) C dJ1_charAt_3b067_12 ha.1 rfl ?_
  refine zV_i2c (n := 14) C dJ1_charAt_3b067_13 ha.2.1 rfl ?_
  exact zV_zreturn C hr hlk dJ1_charAt_3b067_14 ha.2.2 rfl rfl
set_option maxRecDepth 100000 in
theorem s_charAt {z : Int} (hi : i < 14) (hz : 0 ≤ z ∧ z < (zlen.getD i 0 : Nat)) : zRet Γ l (d + 3) qJ0_charAt_5068e [.ref (zaK Γ i), .int (zi z)] μ (some (.int (zi (zch i z)))) μ := by
  refine zRet.mk 0 [.ref (zaK Γ i), .int (zi z)] RJ0 rfl (by decide +kernel) (Nat.le_of_ble_eq_true rfl) rfl ?_
  intro p e s m below meth c C hr hlk
  have hc9 := zch_rg hi hz
  have ha := zand_rg (z := zch i z) (by omega)
  refine zV_aload_n (i := 0) (n := 1) C dJ0_charAt_5068e_0 rfl rfl rfl ?_
  refine zV_callK0 (n := 4) C hi jJ0_isLatin1_aae02 lJ0_492 (s_isLatin1 (d := d) hi) dJ0_charAt_5068e_1 rfl (Nat.le_of_ble_eq_true rfl) (zfit_of (by omega) (by decide)) ⟨Nat.le_refl _, Nat.le_refl _⟩ rfl ?_
  refine zV_if_eq (n := 7) C 16 dJ0_charAt_5068e_4 (by decide) (by omega) rfl (fun h => by exfalso; omega) (fun _ => ?_)
  refine zV_aload_n (i := 0) (n := 8) C dJ0_charAt_5068e_7 rfl rfl rfl ?_
  refine zV_getV (n := 11) C hi fJ0_9 dJ0_charAt_5068e_8 rfl ?_
  refine zV_iload_n (i := 1) (n := 12) C dJ0_charAt_5068e_11 rfl rfl rfl ?_
  refine zV_callS2u (n := 15) C jJ1_charAt_3b067 lJ0_495 (s_charAt1 (d := d) hi hz) dJ0_charAt_5068e_12 (Nat.le_of_ble_eq_true rfl) (zfit_of (by omega) (by decide)) ⟨Nat.le_refl _, Nat.le_refl _⟩ rfl ?_
  exact zV_zreturn C hr hlk dJ0_charAt_5068e_15 ha.2.2 rfl rfl
end ZJDK
