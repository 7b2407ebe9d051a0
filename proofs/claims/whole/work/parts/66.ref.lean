/-! the reference's constructor (laid by wip/whole/gen/cons.py) -/
set_option maxRecDepth 100000 in
theorem n_spot {l : Launch} (k9 w9 : Int) : Met l yX9_spotOf (zcode qX9_spotOf :: tblG) (zRmN 0 0 0) (va_Pc [.int (zi k9), .int (zi w9)] (fun _ => True)) (va_Qi (fun (r : Int32) (_ : Unit) => r = zi (4 + 5 * k9 + w9)) (fun _ _ => True) (fun _ => False)) 0 0 (fun _ => False) := by
  refine Met.ofW (cc := cX9_spotOf) (maxL := 2) (ret := some .int) (by decide +kernel) rfl ?_
  intro p e s m args below meth c s₁ B hml hv
  obtain ⟨rfl, -⟩ := hv
  rw [lg_entry_eq]
  have hl := lv_entry ([.int (zi k9), .int (zi w9)]) (n := 2) (Nat.le_of_ble_eq_true rfl)
  generalize (lg_sl ([.int (zi k9), .int (zi w9)]) ++ List.replicate (2 - (lg_sl ([.int (zi k9), .int (zi w9)])).length) Slot.unset).toArray = ls at hl ⊢
  have hl : lv_has ls 2 [(0, .int (zi k9)), (1, .int (zi w9))] := hl
  refine lv_iconst (v := zi 4) B.exec B.bytes dX9_spotOf_0 rfl ?_
  refine lv_iconst (v := zi 5) B.exec B.bytes dX9_spotOf_1 rfl ?_
  refine lv_iload_n B.exec B.bytes dX9_spotOf_2 rfl (lv_at hl 0 rfl) ?_
  refine lv_imul B.exec B.bytes dX9_spotOf_3 ?_
  refine lv_iadd B.exec B.bytes dX9_spotOf_4 ?_
  refine lv_iload_n B.exec B.bytes dX9_spotOf_5 rfl (lv_at hl 1 rfl) ?_
  refine lv_iadd B.exec B.bytes dX9_spotOf_6 ?_
  rw [← zi_mul, ← zi_add, ← zi_add]
  exact W.iret (v := zi (4 + 5 * k9 + w9)) B.exec B.bytes B.returns (fun t ht hW => ⟨⟨_, (), rfl, rfl, trivial⟩, ⟨by rw [ht]; exact Nat.le_refl _, fun q _ _ => by rw [ht]⟩⟩) (fun q hq => by cases hq) dX9_spotOf_7 B.notSynchronized
theorem zN_spot {Γ : zC} {A : Nat → Prop} {p : Program} {l : Launch} {e : Env} {R : Room} {s : State} {m : MethodId} {args : Array Value} {below : List Frame} {meth : Method} {c : Code} {cells slots : Nat} {Q : State → Prop} {own : String} {cc : ByteArray} {nL pc n : Nat} {lv st : List Value} {ws : va_W} {k9 w9 : Int} {idx : Nat} (C : zNx Γ A p s m args meth c own cc nL) (hy : zInS qX9_spotOf 2) (hl : Cond.methodLink own idx yX9_spotOf ∈ tblG) (d : decode cc pc = .ok (.invokestatic idx, 3)) (hW : (st.map fun v => v.category).sum ≤ 8) (hR : 1 ≤ R.frames ∧ 21 ≤ R.locals) (hc : cells ≤ R.cells ∧ slots ≤ R.slots) (hp : pc + 3 = n)
    (k : zN Γ A p l e R s m args below meth c cells slots Q n lv (.int (zi (4 + 5 * k9 + w9)) :: st) ws) : zN Γ A p l e R s m args below meth c cells slots Q pc lv (.int (zi w9) :: .int (zi k9) :: st) ws := by
  subst hp
  intro H locs ls hl9 hP hD hS
  refine va_calli (va_runS (As := [.int (zi k9), .int (zi w9)]) (rest := st) ⟨C.1, C.2.1, C.2.2.1, C.2.2.2.1, C.2.2.2.2.1⟩ (n_spot k9 w9) ⟨callB_of 2 C.2.2.2.2.1 (zgood hy.1.1) rfl rfl rfl (C.2.2.2.2.1 _ hy.1.2.1) (C.2.2.2.2.1 _ hl) hy.1.2.2 ⟨hR.1, hR.2⟩, C.2.2.2.2.1 _ hy.2⟩ ⟨fun a U g mk q => q, fun U hU hW => ⟨rfl, trivial⟩⟩ rfl rfl (hl9.1.trans C.2.2.1) rfl (lv_room hW) d hc) hS (fun a _ h => h.elim) (fun a h => h.elim) (fun r u t H1 locs1 ht hvm hpost hB hz1 hk1 hS1 => ?_)
  have hpost : r = zi (4 + 5 * k9 + w9) := hpost
  subst hpost
  exact k H1 locs1 ls hl9 (hP.kept (fun k q hq => hk1 q.1 (hP k q hq).lt (fun h => h))) hD hS1
def refW (Γ : zC) (a : Int → Nat) : va_W := (zseg 5 13).map (zent (zca Γ a) z0)
theorem s_row : upd (upd (upd (fun _ => zi 0) 8 (zi (-1))) 13 (zi (-1))) 18 (zi (-1)) = fun j : Nat => zi (z0 5 1 (j : Int)) := by
  funext j
  have e : z0 5 1 (j : Int) = if (j : Int) = 8 ∨ (j : Int) = 13 ∨ (j : Int) = 18 then -1 else 0 := by
    unfold z0
    rw [if_neg (by decide), if_neg (by decide)]
    by_cases h : (j : Int) = 8 ∨ (j : Int) = 13 ∨ (j : Int) = 18
    · rw [if_pos ⟨rfl, h⟩, if_pos h]
    · rw [if_neg (fun q => h q.2), if_neg h]
  rw [e]
  simp only [upd]
  by_cases h18 : j = 18
  · subst h18; rfl
  · rw [if_neg h18]
    by_cases h13 : j = 13
    · subst h13; rfl
    · rw [if_neg h13]
      by_cases h8 : j = 8
      · subst h8; rfl
      · rw [if_neg h8, if_neg (by omega)]
set_option maxRecDepth 100000 in
set_option maxHeartbeats 4000000 in
theorem n_ref {Γ : zC} {l : Launch} {d : Nat} : zNew Γ l (d + 1) qX9_init (.inr (8, [.null, .null, .null, .null, .null, .int (zi 0), .null, .null, .int (zi 0), .null, .int (zi 0), .int (zi 0), .int (zi 0), .int (zi 0), .int (zi 0), .null, .null, .null, .null])) 12 561 (fun h w => ∃ a : Int → Nat, a 0 = h ∧ w.Perm (refW Γ a)) := by
  refine zNew.of 1 RX9 rfl (by decide +kernel) (by decide) rfl ?_
  intro h0 p e s m below meth c C hin hr hlk hlt
  refine zN_aload_n (i := 0) (n := 1) C dX9_init_0 rfl rfl rfl ?_
  refine zN_objinit (n := 4) C olX9 oi_w dX9_init_1 (Nat.le_of_ble_eq_true rfl) ⟨by show 1 ≤ d + 1; omega, by show 20 ≤ 36 * (d + 1); omega⟩ rfl ?_
  refine zN_aload_n (i := 0) (n := 5) C dX9_init_4 rfl rfl rfl ?_
  refine zN_bipush (n := 7) C dX9_init_5 (by decide) rfl ?_
  refine zN_newI (N := 55) (n := 9) C ar_int dX9_init_7 (by decide) (by decide) ⟨show 0 + 1 ≤ 12 from by decide, show 0 + 55 ≤ 561 from by decide⟩ rfl (fun q7_0 => ?_)
  refine zN_widen (k1 := 1) (k2 := 55) (by decide) (by decide) ?_
  refine zN_putF (f := 0) (fs' := [.ref q7_0, .null, .null, .null, .null, .int (zi 0), .null, .null, .int (zi 0), .null, .int (zi 0), .int (zi 0), .int (zi 0), .int (zi 0), .int (zi 0), .null, .null, .null, .null]) (ws' := [(q7_0, .inl (zY Γ 0, 55, .inl (fun _ => zi 0))), (h0, .inr (8, [.ref q7_0, .null, .null, .null, .null, .int (zi 0), .null, .null, .int (zi 0), .null, .int (zi 0), .int (zi 0), .int (zi 0), .int (zi 0), .int (zi 0), .null, .null, .null, .null]))]) 1 (n := 12) C hin zk8 fX9_7 dX9_init_9 rfl (by decide) rfl rfl rfl rfl (Nat.le_of_ble_eq_true rfl) rfl rfl rfl ?_
  refine zN_aload_n (i := 0) (n := 13) C dX9_init_12 rfl rfl rfl ?_
  refine zN_bipush (n := 15) C dX9_init_13 (by decide) rfl ?_
  refine zN_newI (N := 55) (n := 17) C ar_int dX9_init_15 (by decide) (by decide) ⟨show 1 + 1 ≤ 12 from by decide, show 55 + 55 ≤ 561 from by decide⟩ rfl (fun q15_1 => ?_)
  refine zN_widen (k1 := 2) (k2 := 110) (by decide) (by decide) ?_
  refine zN_putF (f := 1) (fs' := [.ref q7_0, .ref q15_1, .null, .null, .null, .int (zi 0), .null, .null, .int (zi 0), .null, .int (zi 0), .int (zi 0), .int (zi 0), .int (zi 0), .int (zi 0), .null, .null, .null, .null]) (ws' := [(q15_1, .inl (zY Γ 0, 55, .inl (fun _ => zi 0))), (q7_0, .inl (zY Γ 0, 55, .inl (fun _ => zi 0))), (h0, .inr (8, [.ref q7_0, .ref q15_1, .null, .null, .null, .int (zi 0), .null, .null, .int (zi 0), .null, .int (zi 0), .int (zi 0), .int (zi 0), .int (zi 0), .int (zi 0), .null, .null, .null, .null]))]) 2 (n := 20) C hin zk8 fX9_13 dX9_init_17 rfl (by decide) rfl rfl rfl rfl (Nat.le_of_ble_eq_true rfl) rfl rfl rfl ?_
  refine zN_aload_n (i := 0) (n := 21) C dX9_init_20 rfl rfl rfl ?_
  refine zN_bipush (n := 23) C dX9_init_21 (by decide) rfl ?_
  refine zN_newI (N := 55) (n := 25) C ar_int dX9_init_23 (by decide) (by decide) ⟨show 2 + 1 ≤ 12 from by decide, show 110 + 55 ≤ 561 from by decide⟩ rfl (fun q23_2 => ?_)
  refine zN_widen (k1 := 3) (k2 := 165) (by decide) (by decide) ?_
  refine zN_putF (f := 2) (fs' := [.ref q7_0, .ref q15_1, .ref q23_2, .null, .null, .int (zi 0), .null, .null, .int (zi 0), .null, .int (zi 0), .int (zi 0), .int (zi 0), .int (zi 0), .int (zi 0), .null, .null, .null, .null]) (ws' := [(q23_2, .inl (zY Γ 0, 55, .inl (fun _ => zi 0))), (q15_1, .inl (zY Γ 0, 55, .inl (fun _ => zi 0))), (q7_0, .inl (zY Γ 0, 55, .inl (fun _ => zi 0))), (h0, .inr (8, [.ref q7_0, .ref q15_1, .ref q23_2, .null, .null, .int (zi 0), .null, .null, .int (zi 0), .null, .int (zi 0), .int (zi 0), .int (zi 0), .int (zi 0), .int (zi 0), .null, .null, .null, .null]))]) 3 (n := 28) C hin zk8 fX9_16 dX9_init_25 rfl (by decide) rfl rfl rfl rfl (Nat.le_of_ble_eq_true rfl) rfl rfl rfl ?_
  refine zN_aload_n (i := 0) (n := 29) C dX9_init_28 rfl rfl rfl ?_
  refine zN_bipush (n := 31) C dX9_init_29 (by decide) rfl ?_
  refine zN_newI (N := 55) (n := 33) C ar_int dX9_init_31 (by decide) (by decide) ⟨show 3 + 1 ≤ 12 from by decide, show 165 + 55 ≤ 561 from by decide⟩ rfl (fun q31_3 => ?_)
  refine zN_widen (k1 := 4) (k2 := 220) (by decide) (by decide) ?_
  refine zN_putF (f := 3) (fs' := [.ref q7_0, .ref q15_1, .ref q23_2, .ref q31_3, .null, .int (zi 0), .null, .null, .int (zi 0), .null, .int (zi 0), .int (zi 0), .int (zi 0), .int (zi 0), .int (zi 0), .null, .null, .null, .null]) (ws' := [(q31_3, .inl (zY Γ 0, 55, .inl (fun _ => zi 0))), (q23_2, .inl (zY Γ 0, 55, .inl (fun _ => zi 0))), (q15_1, .inl (zY Γ 0, 55, .inl (fun _ => zi 0))), (q7_0, .inl (zY Γ 0, 55, .inl (fun _ => zi 0))), (h0, .inr (8, [.ref q7_0, .ref q15_1, .ref q23_2, .ref q31_3, .null, .int (zi 0), .null, .null, .int (zi 0), .null, .int (zi 0), .int (zi 0), .int (zi 0), .int (zi 0), .int (zi 0), .null, .null, .null, .null]))]) 4 (n := 36) C hin zk8 fX9_19 dX9_init_33 rfl (by decide) rfl rfl rfl rfl (Nat.le_of_ble_eq_true rfl) rfl rfl rfl ?_
  refine zN_aload_n (i := 0) (n := 37) C dX9_init_36 rfl rfl rfl ?_
  refine zN_bipush (n := 39) C dX9_init_37 (by decide) rfl ?_
  refine zN_newI (N := 7) (n := 41) C ar_int dX9_init_39 (by decide) (by decide) ⟨show 4 + 1 ≤ 12 from by decide, show 220 + 7 ≤ 561 from by decide⟩ rfl (fun q39_4 => ?_)
  refine zN_widen (k1 := 5) (k2 := 227) (by decide) (by decide) ?_
  refine zN_putF (f := 4) (fs' := [.ref q7_0, .ref q15_1, .ref q23_2, .ref q31_3, .ref q39_4, .int (zi 0), .null, .null, .int (zi 0), .null, .int (zi 0), .int (zi 0), .int (zi 0), .int (zi 0), .int (zi 0), .null, .null, .null, .null]) (ws' := [(q39_4, .inl (zY Γ 0, 7, .inl (fun _ => zi 0))), (q31_3, .inl (zY Γ 0, 55, .inl (fun _ => zi 0))), (q23_2, .inl (zY Γ 0, 55, .inl (fun _ => zi 0))), (q15_1, .inl (zY Γ 0, 55, .inl (fun _ => zi 0))), (q7_0, .inl (zY Γ 0, 55, .inl (fun _ => zi 0))), (h0, .inr (8, [.ref q7_0, .ref q15_1, .ref q23_2, .ref q31_3, .ref q39_4, .int (zi 0), .null, .null, .int (zi 0), .null, .int (zi 0), .int (zi 0), .int (zi 0), .int (zi 0), .int (zi 0), .null, .null, .null, .null]))]) 5 (n := 44) C hin zk8 fX9_22 dX9_init_41 rfl (by decide) rfl rfl rfl rfl (Nat.le_of_ble_eq_true rfl) rfl rfl rfl ?_
  refine zN_aload_n (i := 0) (n := 45) C dX9_init_44 rfl rfl rfl ?_
  refine zN_iconst (n := 46) C dX9_init_45 rfl ?_
  refine zN_newI (N := 3) (n := 48) C ar_int dX9_init_46 (by decide) (by decide) ⟨show 5 + 1 ≤ 12 from by decide, show 227 + 3 ≤ 561 from by decide⟩ rfl (fun q46_5 => ?_)
  refine zN_widen (k1 := 6) (k2 := 230) (by decide) (by decide) ?_
  refine zN_putF (f := 6) (fs' := [.ref q7_0, .ref q15_1, .ref q23_2, .ref q31_3, .ref q39_4, .int (zi 0), .ref q46_5, .null, .int (zi 0), .null, .int (zi 0), .int (zi 0), .int (zi 0), .int (zi 0), .int (zi 0), .null, .null, .null, .null]) (ws' := [(q46_5, .inl (zY Γ 0, 3, .inl (fun _ => zi 0))), (q39_4, .inl (zY Γ 0, 7, .inl (fun _ => zi 0))), (q31_3, .inl (zY Γ 0, 55, .inl (fun _ => zi 0))), (q23_2, .inl (zY Γ 0, 55, .inl (fun _ => zi 0))), (q15_1, .inl (zY Γ 0, 55, .inl (fun _ => zi 0))), (q7_0, .inl (zY Γ 0, 55, .inl (fun _ => zi 0))), (h0, .inr (8, [.ref q7_0, .ref q15_1, .ref q23_2, .ref q31_3, .ref q39_4, .int (zi 0), .ref q46_5, .null, .int (zi 0), .null, .int (zi 0), .int (zi 0), .int (zi 0), .int (zi 0), .int (zi 0), .null, .null, .null, .null]))]) 6 (n := 51) C hin zk8 fX9_25 dX9_init_48 rfl (by decide) rfl rfl rfl rfl (Nat.le_of_ble_eq_true rfl) rfl rfl rfl ?_
  refine zN_aload_n (i := 0) (n := 52) C dX9_init_51 rfl rfl rfl ?_
  refine zN_iconst (n := 53) C dX9_init_52 rfl ?_
  refine zN_newI (N := 3) (n := 55) C ar_int dX9_init_53 (by decide) (by decide) ⟨show 6 + 1 ≤ 12 from by decide, show 230 + 3 ≤ 561 from by decide⟩ rfl (fun q53_6 => ?_)
  refine zN_widen (k1 := 7) (k2 := 233) (by decide) (by decide) ?_
  refine zN_putF (f := 7) (fs' := [.ref q7_0, .ref q15_1, .ref q23_2, .ref q31_3, .ref q39_4, .int (zi 0), .ref q46_5, .ref q53_6, .int (zi 0), .null, .int (zi 0), .int (zi 0), .int (zi 0), .int (zi 0), .int (zi 0), .null, .null, .null, .null]) (ws' := [(q53_6, .inl (zY Γ 0, 3, .inl (fun _ => zi 0))), (q46_5, .inl (zY Γ 0, 3, .inl (fun _ => zi 0))), (q39_4, .inl (zY Γ 0, 7, .inl (fun _ => zi 0))), (q31_3, .inl (zY Γ 0, 55, .inl (fun _ => zi 0))), (q23_2, .inl (zY Γ 0, 55, .inl (fun _ => zi 0))), (q15_1, .inl (zY Γ 0, 55, .inl (fun _ => zi 0))), (q7_0, .inl (zY Γ 0, 55, .inl (fun _ => zi 0))), (h0, .inr (8, [.ref q7_0, .ref q15_1, .ref q23_2, .ref q31_3, .ref q39_4, .int (zi 0), .ref q46_5, .ref q53_6, .int (zi 0), .null, .int (zi 0), .int (zi 0), .int (zi 0), .int (zi 0), .int (zi 0), .null, .null, .null, .null]))]) 7 (n := 58) C hin zk8 fX9_28 dX9_init_55 rfl (by decide) rfl rfl rfl rfl (Nat.le_of_ble_eq_true rfl) rfl rfl rfl ?_
  refine zN_aload_n (i := 0) (n := 59) C dX9_init_58 rfl rfl rfl ?_
  refine zN_bipush (n := 61) C dX9_init_59 (by decide) rfl ?_
  refine zN_newI (N := 120) (n := 63) C ar_int dX9_init_61 (by decide) (by decide) ⟨show 7 + 1 ≤ 12 from by decide, show 233 + 120 ≤ 561 from by decide⟩ rfl (fun q61_7 => ?_)
  refine zN_widen (k1 := 8) (k2 := 353) (by decide) (by decide) ?_
  refine zN_putF (f := 9) (fs' := [.ref q7_0, .ref q15_1, .ref q23_2, .ref q31_3, .ref q39_4, .int (zi 0), .ref q46_5, .ref q53_6, .int (zi 0), .ref q61_7, .int (zi 0), .int (zi 0), .int (zi 0), .int (zi 0), .int (zi 0), .null, .null, .null, .null]) (ws' := [(q61_7, .inl (zY Γ 0, 120, .inl (fun _ => zi 0))), (q53_6, .inl (zY Γ 0, 3, .inl (fun _ => zi 0))), (q46_5, .inl (zY Γ 0, 3, .inl (fun _ => zi 0))), (q39_4, .inl (zY Γ 0, 7, .inl (fun _ => zi 0))), (q31_3, .inl (zY Γ 0, 55, .inl (fun _ => zi 0))), (q23_2, .inl (zY Γ 0, 55, .inl (fun _ => zi 0))), (q15_1, .inl (zY Γ 0, 55, .inl (fun _ => zi 0))), (q7_0, .inl (zY Γ 0, 55, .inl (fun _ => zi 0))), (h0, .inr (8, [.ref q7_0, .ref q15_1, .ref q23_2, .ref q31_3, .ref q39_4, .int (zi 0), .ref q46_5, .ref q53_6, .int (zi 0), .ref q61_7, .int (zi 0), .int (zi 0), .int (zi 0), .int (zi 0), .int (zi 0), .null, .null, .null, .null]))]) 8 (n := 66) C hin zk8 fX9_31 dX9_init_63 rfl (by decide) rfl rfl rfl rfl (Nat.le_of_ble_eq_true rfl) rfl rfl rfl ?_
  refine zN_aload_n (i := 0) (n := 67) C dX9_init_66 rfl rfl rfl ?_
  refine zN_iconst (n := 68) C dX9_init_67 rfl ?_
  refine zN_newI (N := 4) (n := 70) C ar_int dX9_init_68 (by decide) (by decide) ⟨show 8 + 1 ≤ 12 from by decide, show 353 + 4 ≤ 561 from by decide⟩ rfl (fun q68_8 => ?_)
  refine zN_widen (k1 := 9) (k2 := 357) (by decide) (by decide) ?_
  refine zN_putF (f := 15) (fs' := [.ref q7_0, .ref q15_1, .ref q23_2, .ref q31_3, .ref q39_4, .int (zi 0), .ref q46_5, .ref q53_6, .int (zi 0), .ref q61_7, .int (zi 0), .int (zi 0), .int (zi 0), .int (zi 0), .int (zi 0), .ref q68_8, .null, .null, .null]) (ws' := [(q68_8, .inl (zY Γ 0, 4, .inl (fun _ => zi 0))), (q61_7, .inl (zY Γ 0, 120, .inl (fun _ => zi 0))), (q53_6, .inl (zY Γ 0, 3, .inl (fun _ => zi 0))), (q46_5, .inl (zY Γ 0, 3, .inl (fun _ => zi 0))), (q39_4, .inl (zY Γ 0, 7, .inl (fun _ => zi 0))), (q31_3, .inl (zY Γ 0, 55, .inl (fun _ => zi 0))), (q23_2, .inl (zY Γ 0, 55, .inl (fun _ => zi 0))), (q15_1, .inl (zY Γ 0, 55, .inl (fun _ => zi 0))), (q7_0, .inl (zY Γ 0, 55, .inl (fun _ => zi 0))), (h0, .inr (8, [.ref q7_0, .ref q15_1, .ref q23_2, .ref q31_3, .ref q39_4, .int (zi 0), .ref q46_5, .ref q53_6, .int (zi 0), .ref q61_7, .int (zi 0), .int (zi 0), .int (zi 0), .int (zi 0), .int (zi 0), .ref q68_8, .null, .null, .null]))]) 9 (n := 73) C hin zk8 fX9_34 dX9_init_70 rfl (by decide) rfl rfl rfl rfl (Nat.le_of_ble_eq_true rfl) rfl rfl rfl ?_
  refine zN_aload_n (i := 0) (n := 74) C dX9_init_73 rfl rfl rfl ?_
  refine zN_iconst (n := 75) C dX9_init_74 rfl ?_
  refine zN_newI (N := 4) (n := 77) C ar_int dX9_init_75 (by decide) (by decide) ⟨show 9 + 1 ≤ 12 from by decide, show 357 + 4 ≤ 561 from by decide⟩ rfl (fun q75_9 => ?_)
  refine zN_widen (k1 := 10) (k2 := 361) (by decide) (by decide) ?_
  refine zN_putF (f := 16) (fs' := [.ref q7_0, .ref q15_1, .ref q23_2, .ref q31_3, .ref q39_4, .int (zi 0), .ref q46_5, .ref q53_6, .int (zi 0), .ref q61_7, .int (zi 0), .int (zi 0), .int (zi 0), .int (zi 0), .int (zi 0), .ref q68_8, .ref q75_9, .null, .null]) (ws' := [(q75_9, .inl (zY Γ 0, 4, .inl (fun _ => zi 0))), (q68_8, .inl (zY Γ 0, 4, .inl (fun _ => zi 0))), (q61_7, .inl (zY Γ 0, 120, .inl (fun _ => zi 0))), (q53_6, .inl (zY Γ 0, 3, .inl (fun _ => zi 0))), (q46_5, .inl (zY Γ 0, 3, .inl (fun _ => zi 0))), (q39_4, .inl (zY Γ 0, 7, .inl (fun _ => zi 0))), (q31_3, .inl (zY Γ 0, 55, .inl (fun _ => zi 0))), (q23_2, .inl (zY Γ 0, 55, .inl (fun _ => zi 0))), (q15_1, .inl (zY Γ 0, 55, .inl (fun _ => zi 0))), (q7_0, .inl (zY Γ 0, 55, .inl (fun _ => zi 0))), (h0, .inr (8, [.ref q7_0, .ref q15_1, .ref q23_2, .ref q31_3, .ref q39_4, .int (zi 0), .ref q46_5, .ref q53_6, .int (zi 0), .ref q61_7, .int (zi 0), .int (zi 0), .int (zi 0), .int (zi 0), .int (zi 0), .ref q68_8, .ref q75_9, .null, .null]))]) 10 (n := 80) C hin zk8 fX9_37 dX9_init_77 rfl (by decide) rfl rfl rfl rfl (Nat.le_of_ble_eq_true rfl) rfl rfl rfl ?_
  refine zN_aload_n (i := 0) (n := 81) C dX9_init_80 rfl rfl rfl ?_
  refine zN_sipush (n := 84) C dX9_init_81 (by decide) rfl ?_
  refine zN_newL (N := 160) (n := 86) C ar_long dX9_init_84 (by decide) (by decide) ⟨show 10 + 1 ≤ 12 from by decide, show 361 + 160 ≤ 561 from by decide⟩ rfl (fun q84_10 => ?_)
  refine zN_widen (k1 := 11) (k2 := 521) (by decide) (by decide) ?_
  refine zN_putF (f := 17) (fs' := [.ref q7_0, .ref q15_1, .ref q23_2, .ref q31_3, .ref q39_4, .int (zi 0), .ref q46_5, .ref q53_6, .int (zi 0), .ref q61_7, .int (zi 0), .int (zi 0), .int (zi 0), .int (zi 0), .int (zi 0), .ref q68_8, .ref q75_9, .ref q84_10, .null]) (ws' := [(q84_10, .inl (zY Γ 1, 160, .inr (.inl (fun _ => zl 0)))), (q75_9, .inl (zY Γ 0, 4, .inl (fun _ => zi 0))), (q68_8, .inl (zY Γ 0, 4, .inl (fun _ => zi 0))), (q61_7, .inl (zY Γ 0, 120, .inl (fun _ => zi 0))), (q53_6, .inl (zY Γ 0, 3, .inl (fun _ => zi 0))), (q46_5, .inl (zY Γ 0, 3, .inl (fun _ => zi 0))), (q39_4, .inl (zY Γ 0, 7, .inl (fun _ => zi 0))), (q31_3, .inl (zY Γ 0, 55, .inl (fun _ => zi 0))), (q23_2, .inl (zY Γ 0, 55, .inl (fun _ => zi 0))), (q15_1, .inl (zY Γ 0, 55, .inl (fun _ => zi 0))), (q7_0, .inl (zY Γ 0, 55, .inl (fun _ => zi 0))), (h0, .inr (8, [.ref q7_0, .ref q15_1, .ref q23_2, .ref q31_3, .ref q39_4, .int (zi 0), .ref q46_5, .ref q53_6, .int (zi 0), .ref q61_7, .int (zi 0), .int (zi 0), .int (zi 0), .int (zi 0), .int (zi 0), .ref q68_8, .ref q75_9, .ref q84_10, .null]))]) 11 (n := 89) C hin zk8 fX9_40 dX9_init_86 rfl (by decide) rfl rfl rfl rfl (Nat.le_of_ble_eq_true rfl) rfl rfl rfl ?_
  refine zN_aload_n (i := 0) (n := 90) C dX9_init_89 rfl rfl rfl ?_
  refine zN_bipush (n := 92) C dX9_init_90 (by decide) rfl ?_
  refine zN_newL (N := 40) (n := 94) C ar_long dX9_init_92 (by decide) (by decide) ⟨show 11 + 1 ≤ 12 from by decide, show 521 + 40 ≤ 561 from by decide⟩ rfl (fun q92_11 => ?_)
  refine zN_widen (k1 := 12) (k2 := 561) (by decide) (by decide) ?_
  refine zN_putF (f := 18) (fs' := [.ref q7_0, .ref q15_1, .ref q23_2, .ref q31_3, .ref q39_4, .int (zi 0), .ref q46_5, .ref q53_6, .int (zi 0), .ref q61_7, .int (zi 0), .int (zi 0), .int (zi 0), .int (zi 0), .int (zi 0), .ref q68_8, .ref q75_9, .ref q84_10, .ref q92_11]) (ws' := [(q92_11, .inl (zY Γ 1, 40, .inr (.inl (fun _ => zl 0)))), (q84_10, .inl (zY Γ 1, 160, .inr (.inl (fun _ => zl 0)))), (q75_9, .inl (zY Γ 0, 4, .inl (fun _ => zi 0))), (q68_8, .inl (zY Γ 0, 4, .inl (fun _ => zi 0))), (q61_7, .inl (zY Γ 0, 120, .inl (fun _ => zi 0))), (q53_6, .inl (zY Γ 0, 3, .inl (fun _ => zi 0))), (q46_5, .inl (zY Γ 0, 3, .inl (fun _ => zi 0))), (q39_4, .inl (zY Γ 0, 7, .inl (fun _ => zi 0))), (q31_3, .inl (zY Γ 0, 55, .inl (fun _ => zi 0))), (q23_2, .inl (zY Γ 0, 55, .inl (fun _ => zi 0))), (q15_1, .inl (zY Γ 0, 55, .inl (fun _ => zi 0))), (q7_0, .inl (zY Γ 0, 55, .inl (fun _ => zi 0))), (h0, .inr (8, [.ref q7_0, .ref q15_1, .ref q23_2, .ref q31_3, .ref q39_4, .int (zi 0), .ref q46_5, .ref q53_6, .int (zi 0), .ref q61_7, .int (zi 0), .int (zi 0), .int (zi 0), .int (zi 0), .int (zi 0), .ref q68_8, .ref q75_9, .ref q84_10, .ref q92_11]))]) 12 (n := 97) C hin zk8 fX9_44 dX9_init_94 rfl (by decide) rfl rfl rfl rfl (Nat.le_of_ble_eq_true rfl) rfl rfl rfl ?_
  refine zN_iconst (n := 98) C dX9_init_97 rfl ?_
  refine zN_istore_n (i := 1) (n := 99) C dX9_init_98 rfl (by decide) (fun w h _ => by cases h; rfl) rfl rfl ?_
  refine zN_iload_n (i := 1) (n := 100) C dX9_init_99 rfl rfl rfl ?_
  refine zN_iconst (n := 101) C dX9_init_100 rfl ?_
  refine zN_geF (n := 104) C 121 dX9_init_101 (by decide) (by decide) (by decide) (by decide) rfl ?_
  refine zN_aload_n (i := 0) (n := 105) C dX9_init_104 rfl rfl rfl ?_
  refine zN_get (f := 0) 12 (n := 108) C zk8 fX9_7 dX9_init_105 rfl (by decide) rfl rfl ?_
  refine zN_iload_n (i := 1) (n := 109) C dX9_init_108 rfl rfl rfl ?_
  refine zN_iconst (n := 110) C dX9_init_109 rfl ?_
  refine zN_spot (k9 := 0) (w9 := 4) (n := 113) C jX9_spotOf lX9_47 dX9_init_110 (Nat.le_of_ble_eq_true rfl) ⟨by show 1 ≤ d + 1; omega, by show 21 ≤ 36 * (d + 1); omega⟩ ⟨show 12 ≤ 12 from by decide, show 561 ≤ 561 from by decide⟩ rfl ?_
  rw [show (4 + 5 * (0 : Int) + 4) = 8 from by decide]
  refine zN_iconst (n := 114) C dX9_init_113 rfl ?_
  refine zN_iast (z := 8) (ws' := [(q92_11, .inl (zY Γ 1, 40, .inr (.inl (fun _ => zl 0)))), (q84_10, .inl (zY Γ 1, 160, .inr (.inl (fun _ => zl 0)))), (q75_9, .inl (zY Γ 0, 4, .inl (fun _ => zi 0))), (q68_8, .inl (zY Γ 0, 4, .inl (fun _ => zi 0))), (q61_7, .inl (zY Γ 0, 120, .inl (fun _ => zi 0))), (q53_6, .inl (zY Γ 0, 3, .inl (fun _ => zi 0))), (q46_5, .inl (zY Γ 0, 3, .inl (fun _ => zi 0))), (q39_4, .inl (zY Γ 0, 7, .inl (fun _ => zi 0))), (q31_3, .inl (zY Γ 0, 55, .inl (fun _ => zi 0))), (q23_2, .inl (zY Γ 0, 55, .inl (fun _ => zi 0))), (q15_1, .inl (zY Γ 0, 55, .inl (fun _ => zi 0))), (q7_0, .inl (zY Γ 0, 55, .inl (upd (fun _ => zi 0) 8 (zi (-1))))), (h0, .inr (8, [.ref q7_0, .ref q15_1, .ref q23_2, .ref q31_3, .ref q39_4, .int (zi 0), .ref q46_5, .ref q53_6, .int (zi 0), .ref q61_7, .int (zi 0), .int (zi 0), .int (zi 0), .int (zi 0), .int (zi 0), .ref q68_8, .ref q75_9, .ref q84_10, .ref q92_11]))]) 11 (n := 115) C dX9_init_114 rfl (by decide) (by decide) rfl rfl ?_
  refine zN_iinc (n := 118) C dX9_init_115 rfl (by decide) (fun w h _ => by cases h; rfl) rfl rfl ?_
  refine zN_goto C 99 dX9_init_118 (by decide) ?_
  refine zN_iload_n (i := 1) (n := 100) C dX9_init_99 rfl rfl rfl ?_
  refine zN_iconst (n := 101) C dX9_init_100 rfl ?_
  refine zN_geF (n := 104) C 121 dX9_init_101 (by decide) (by decide) (by decide) (by decide) rfl ?_
  refine zN_aload_n (i := 0) (n := 105) C dX9_init_104 rfl rfl rfl ?_
  refine zN_get (f := 0) 12 (n := 108) C zk8 fX9_7 dX9_init_105 rfl (by decide) rfl rfl ?_
  refine zN_iload_n (i := 1) (n := 109) C dX9_init_108 rfl rfl rfl ?_
  refine zN_iconst (n := 110) C dX9_init_109 rfl ?_
  refine zN_spot (k9 := 1) (w9 := 4) (n := 113) C jX9_spotOf lX9_47 dX9_init_110 (Nat.le_of_ble_eq_true rfl) ⟨by show 1 ≤ d + 1; omega, by show 21 ≤ 36 * (d + 1); omega⟩ ⟨show 12 ≤ 12 from by decide, show 561 ≤ 561 from by decide⟩ rfl ?_
  rw [show (4 + 5 * (1 : Int) + 4) = 13 from by decide]
  refine zN_iconst (n := 114) C dX9_init_113 rfl ?_
  refine zN_iast (z := 13) (ws' := [(q92_11, .inl (zY Γ 1, 40, .inr (.inl (fun _ => zl 0)))), (q84_10, .inl (zY Γ 1, 160, .inr (.inl (fun _ => zl 0)))), (q75_9, .inl (zY Γ 0, 4, .inl (fun _ => zi 0))), (q68_8, .inl (zY Γ 0, 4, .inl (fun _ => zi 0))), (q61_7, .inl (zY Γ 0, 120, .inl (fun _ => zi 0))), (q53_6, .inl (zY Γ 0, 3, .inl (fun _ => zi 0))), (q46_5, .inl (zY Γ 0, 3, .inl (fun _ => zi 0))), (q39_4, .inl (zY Γ 0, 7, .inl (fun _ => zi 0))), (q31_3, .inl (zY Γ 0, 55, .inl (fun _ => zi 0))), (q23_2, .inl (zY Γ 0, 55, .inl (fun _ => zi 0))), (q15_1, .inl (zY Γ 0, 55, .inl (fun _ => zi 0))), (q7_0, .inl (zY Γ 0, 55, .inl (upd (upd (fun _ => zi 0) 8 (zi (-1))) 13 (zi (-1))))), (h0, .inr (8, [.ref q7_0, .ref q15_1, .ref q23_2, .ref q31_3, .ref q39_4, .int (zi 0), .ref q46_5, .ref q53_6, .int (zi 0), .ref q61_7, .int (zi 0), .int (zi 0), .int (zi 0), .int (zi 0), .int (zi 0), .ref q68_8, .ref q75_9, .ref q84_10, .ref q92_11]))]) 11 (n := 115) C dX9_init_114 rfl (by decide) (by decide) rfl rfl ?_
  refine zN_iinc (n := 118) C dX9_init_115 rfl (by decide) (fun w h _ => by cases h; rfl) rfl rfl ?_
  refine zN_goto C 99 dX9_init_118 (by decide) ?_
  refine zN_iload_n (i := 1) (n := 100) C dX9_init_99 rfl rfl rfl ?_
  refine zN_iconst (n := 101) C dX9_init_100 rfl ?_
  refine zN_geF (n := 104) C 121 dX9_init_101 (by decide) (by decide) (by decide) (by decide) rfl ?_
  refine zN_aload_n (i := 0) (n := 105) C dX9_init_104 rfl rfl rfl ?_
  refine zN_get (f := 0) 12 (n := 108) C zk8 fX9_7 dX9_init_105 rfl (by decide) rfl rfl ?_
  refine zN_iload_n (i := 1) (n := 109) C dX9_init_108 rfl rfl rfl ?_
  refine zN_iconst (n := 110) C dX9_init_109 rfl ?_
  refine zN_spot (k9 := 2) (w9 := 4) (n := 113) C jX9_spotOf lX9_47 dX9_init_110 (Nat.le_of_ble_eq_true rfl) ⟨by show 1 ≤ d + 1; omega, by show 21 ≤ 36 * (d + 1); omega⟩ ⟨show 12 ≤ 12 from by decide, show 561 ≤ 561 from by decide⟩ rfl ?_
  rw [show (4 + 5 * (2 : Int) + 4) = 18 from by decide]
  refine zN_iconst (n := 114) C dX9_init_113 rfl ?_
  refine zN_iast (z := 18) (ws' := [(q92_11, .inl (zY Γ 1, 40, .inr (.inl (fun _ => zl 0)))), (q84_10, .inl (zY Γ 1, 160, .inr (.inl (fun _ => zl 0)))), (q75_9, .inl (zY Γ 0, 4, .inl (fun _ => zi 0))), (q68_8, .inl (zY Γ 0, 4, .inl (fun _ => zi 0))), (q61_7, .inl (zY Γ 0, 120, .inl (fun _ => zi 0))), (q53_6, .inl (zY Γ 0, 3, .inl (fun _ => zi 0))), (q46_5, .inl (zY Γ 0, 3, .inl (fun _ => zi 0))), (q39_4, .inl (zY Γ 0, 7, .inl (fun _ => zi 0))), (q31_3, .inl (zY Γ 0, 55, .inl (fun _ => zi 0))), (q23_2, .inl (zY Γ 0, 55, .inl (fun _ => zi 0))), (q15_1, .inl (zY Γ 0, 55, .inl (fun _ => zi 0))), (q7_0, .inl (zY Γ 0, 55, .inl (upd (upd (upd (fun _ => zi 0) 8 (zi (-1))) 13 (zi (-1))) 18 (zi (-1))))), (h0, .inr (8, [.ref q7_0, .ref q15_1, .ref q23_2, .ref q31_3, .ref q39_4, .int (zi 0), .ref q46_5, .ref q53_6, .int (zi 0), .ref q61_7, .int (zi 0), .int (zi 0), .int (zi 0), .int (zi 0), .int (zi 0), .ref q68_8, .ref q75_9, .ref q84_10, .ref q92_11]))]) 11 (n := 115) C dX9_init_114 rfl (by decide) (by decide) rfl rfl ?_
  refine zN_iinc (n := 118) C dX9_init_115 rfl (by decide) (fun w h _ => by cases h; rfl) rfl rfl ?_
  refine zN_goto C 99 dX9_init_118 (by decide) ?_
  refine zN_iload_n (i := 1) (n := 100) C dX9_init_99 rfl rfl rfl ?_
  refine zN_iconst (n := 101) C dX9_init_100 rfl ?_
  refine zN_geT C 121 dX9_init_101 (by decide) (by decide) (by decide) (by decide) ?_
  rw [s_row]
  refine zN_eqw (ws' := [(q92_11, .inl (zY Γ 1, 40, .inr (.inl (fun _ => zl 0)))), (q84_10, .inl (zY Γ 1, 160, .inr (.inl (fun _ => zl 0)))), (q75_9, .inl (zY Γ 0, 4, .inl (fun _ => zi 0))), (q68_8, .inl (zY Γ 0, 4, .inl (fun _ => zi 0))), (q61_7, .inl (zY Γ 0, 120, .inl (fun _ => zi 0))), (q53_6, .inl (zY Γ 0, 3, .inl (fun _ => zi 0))), (q46_5, .inl (zY Γ 0, 3, .inl (fun _ => zi 0))), (q39_4, .inl (zY Γ 0, 7, .inl (fun _ => zi 0))), (q31_3, .inl (zY Γ 0, 55, .inl (fun _ => zi 0))), (q23_2, .inl (zY Γ 0, 55, .inl (fun _ => zi 0))), (q15_1, .inl (zY Γ 0, 55, .inl (fun _ => zi 0))), (q7_0, .inl (zY Γ 0, 55, .inl (fun j : Nat => zi (z0 5 1 (j : Int))))), (h0, .inr (8, [.ref q7_0, .ref q15_1, .ref q23_2, .ref q31_3, .ref q39_4, .int (zi 0), .ref q46_5, .ref q53_6, .int (zi 0), .ref q61_7, .int (zi 0), .int (zi 0), .int (zi 0), .int (zi 0), .int (zi 0), .ref q68_8, .ref q75_9, .ref q84_10, .ref q92_11]))]) rfl ?_
  exact zN_ret (Pst := fun h w => ∃ a : Int → Nat, a 0 = h ∧ w.Perm (refW Γ a)) C hr hlk dX9_init_121 ⟨(fun k : Int => ([h0, q7_0, q15_1, q23_2, q31_3, q39_4, q46_5, q53_6, q61_7, q68_8, q75_9, q84_10, q92_11] : List Nat).getD k.toNat 0), rfl, List.reverse_perm (refW Γ (fun k : Int => ([h0, q7_0, q15_1, q23_2, q31_3, q39_4, q46_5, q53_6, q61_7, q68_8, q75_9, q84_10, q92_11] : List Nat).getD k.toNat 0))⟩
