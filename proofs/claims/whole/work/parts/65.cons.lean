/-! constructors (laid by wip/whole/gen/cons.py) -/
theorem zfitN {d n mc ms maxL : Nat} (h : d + 1 ≤ n) (hm : maxL ≤ 17) : zfit (zRmN n mc ms) d maxL := ⟨h, by show 8 + (maxL + 11) + 36 * d ≤ 36 * n; omega⟩
theorem zN_eqw {Γ : zC} {A : Nat → Prop} {p : Program} {l : Launch} {e : Env} {R : Room} {s : State} {m : MethodId} {args : Array Value} {below : List Frame} {meth : Method} {c : Code} {cells slots : Nat} {Q : State → Prop} {pc : Nat} {lv st : List Value} {ws ws' : va_W} (h : ws = ws') (k : zN Γ A p l e R s m args below meth c cells slots Q pc lv st ws') : zN Γ A p l e R s m args below meth c cells slots Q pc lv st ws := h ▸ k
/-- the memory at the start -/
def z0 : zMem := fun g k i => if g < 4 then (if 3 ≤ k ∧ k < 6 ∧ i = 4 then -1 else if 6 ≤ k ∧ k < 12 ∧ i = 6 then -1 else 0) else if g = 4 then (if k = 1 ∧ i = 1 then -1 else if k = 4 ∧ i = 4 then -1 else 0) else if k = 1 ∧ (i = 8 ∨ i = 13 ∨ i = 18) then -1 else 0
/-- one address for all segments' cells -/
def zca (Γ : zC) (a : Int → Nat) : zC := (zD Γ, zY Γ, (fun _ => a), zt Γ, zaK Γ, zaV Γ)
def carW (Γ : zC) (a : Int → Nat) : va_W := (zseg 0 12).map (zent (zca Γ a) z0)
theorem vp_refs {cA : ClassId} {N : Nat} {f g : Nat → Option Nat} (h : ∀ j, j < N → f j = g j) : vp_cell cA (N, .inr (.inr (.inr (.inr f)))) = vp_cell cA (N, .inr (.inr (.inr (.inr g)))) := by
  rw [vp_cell_q, vp_cell_q]
  exact arrV_congr9 (fun j hj => by rw [h j hj])
theorem va_at_refs {D : va_G} {cl : List vw_C} {a N : Nat} {cA : ClassId} {f g : Nat → Option Nat} {H : Heap} (h : ∀ j, j < N → f j = g j) (hP : va_at D cl (a, .inl (cA, N, .inr (.inr (.inr (.inr f))))) H) : va_at D cl (a, .inl (cA, N, .inr (.inr (.inr (.inr g))))) H := by
  have h1 : H[a]? = some (vp_cell cA (N, .inr (.inr (.inr (.inr f))))) := hP
  rw [vp_refs h] at h1
  exact h1
theorem va_P_cons {D : va_G} {cl : List vw_C} {x y : Nat × va_E} {r r' : va_W} {H : Heap} (h1 : va_at D cl x H → va_at D cl y H) (h2 : va_P D cl r H → va_P D cl r' H) (h : va_P D cl (x :: r) H) : va_P D cl (y :: r') H := by
  rw [va_P_iff] at h h2 ⊢
  rw [va_P_iff] at h2
  intro q hq
  rcases List.mem_cons.mp hq with rfl | hq
  · exact h1 (h x List.mem_cons_self)
  · exact h2 (fun z hz => h z (List.mem_cons_of_mem _ hz)) q hq
theorem refs3 {f g : Nat → Option Nat} (h0 : f 0 = g 0) (h1 : f 1 = g 1) (h2 : f 2 = g 2) : ∀ j, j < 3 → f j = g j := by
  intro j hj
  have h9 : j = 0 ∨ j = 1 ∨ j = 2 := by omega
  rcases h9 with rfl | rfl | rfl
  · exact h0
  · exact h1
  · exact h2
theorem refs4 {f g : Nat → Option Nat} (h0 : f 0 = g 0) (h1 : f 1 = g 1) (h2 : f 2 = g 2) (h3 : f 3 = g 3) : ∀ j, j < 4 → f j = g j := by
  intro j hj
  have h9 : j = 0 ∨ j = 1 ∨ j = 2 ∨ j = 3 := by omega
  rcases h9 with rfl | rfl | rfl | rfl
  · exact h0
  · exact h1
  · exact h2
  · exact h3
theorem refs6 {f g : Nat → Option Nat} (h0 : f 0 = g 0) (h1 : f 1 = g 1) (h2 : f 2 = g 2) (h3 : f 3 = g 3) (h4 : f 4 = g 4) (h5 : f 5 = g 5) : ∀ j, j < 6 → f j = g j := by
  intro j hj
  have h9 : j = 0 ∨ j = 1 ∨ j = 2 ∨ j = 3 ∨ j = 4 ∨ j = 5 := by omega
  rcases h9 with rfl | rfl | rfl | rfl | rfl | rfl
  · exact h0
  · exact h1
  · exact h2
  · exact h3
  · exact h4
  · exact h5
set_option maxRecDepth 100000 in
set_option maxHeartbeats 4000000 in
theorem n_seat {Γ : zC} {l : Launch} {d : Nat} : zNew Γ l (d + 1) qX4_init (.inr (3, [.int (zi 0), .int (zi 0), .int (zi 0), .int (zi 0), .int (zi 0)])) 0 0 (fun h w => w = [(h, .inr (3, [.int (zi 0), .int (zi 0), .int (zi 0), .int (zi 0), .int (zi (-1))]))]) := by
  refine zNew.of 0 RX4 rfl (by decide +kernel) (by decide) rfl ?_
  intro h0 p e s m below meth c C hin hr hlk hlt
  refine zN_aload_n (i := 0) (n := 1) C dX4_init_0 rfl rfl rfl ?_
  refine zN_objinit (n := 4) C olX4 oi_w dX4_init_1 (Nat.le_of_ble_eq_true rfl) ⟨by show 1 ≤ d + 1; omega, by show 20 ≤ 36 * (d + 1); omega⟩ rfl ?_
  refine zN_aload_n (i := 0) (n := 5) C dX4_init_4 rfl rfl rfl ?_
  refine zN_iconst (n := 6) C dX4_init_5 rfl ?_
  refine zN_putN (f := 0) (fs' := [.int (zi 0), .int (zi 0), .int (zi 0), .int (zi 0), .int (zi 0)]) (ws' := [(h0, .inr (3, [.int (zi 0), .int (zi 0), .int (zi 0), .int (zi 0), .int (zi 0)]))]) 0 (n := 9) C zk3 fX4_9 dX4_init_6 rfl (by decide) rfl rfl rfl (Nat.le_of_ble_eq_true rfl) rfl rfl rfl ?_
  refine zN_aload_n (i := 0) (n := 10) C dX4_init_9 rfl rfl rfl ?_
  refine zN_iconst (n := 11) C dX4_init_10 rfl ?_
  refine zN_putN (f := 1) (fs' := [.int (zi 0), .int (zi 0), .int (zi 0), .int (zi 0), .int (zi 0)]) (ws' := [(h0, .inr (3, [.int (zi 0), .int (zi 0), .int (zi 0), .int (zi 0), .int (zi 0)]))]) 0 (n := 14) C zk3 fX4_15 dX4_init_11 rfl (by decide) rfl rfl rfl (Nat.le_of_ble_eq_true rfl) rfl rfl rfl ?_
  refine zN_aload_n (i := 0) (n := 15) C dX4_init_14 rfl rfl rfl ?_
  refine zN_iconst (n := 16) C dX4_init_15 rfl ?_
  refine zN_putN (f := 2) (fs' := [.int (zi 0), .int (zi 0), .int (zi 0), .int (zi 0), .int (zi 0)]) (ws' := [(h0, .inr (3, [.int (zi 0), .int (zi 0), .int (zi 0), .int (zi 0), .int (zi 0)]))]) 0 (n := 19) C zk3 fX4_18 dX4_init_16 rfl (by decide) rfl rfl rfl (Nat.le_of_ble_eq_true rfl) rfl rfl rfl ?_
  refine zN_aload_n (i := 0) (n := 20) C dX4_init_19 rfl rfl rfl ?_
  refine zN_iconst (n := 21) C dX4_init_20 rfl ?_
  refine zN_putN (f := 3) (fs' := [.int (zi 0), .int (zi 0), .int (zi 0), .int (zi 0), .int (zi 0)]) (ws' := [(h0, .inr (3, [.int (zi 0), .int (zi 0), .int (zi 0), .int (zi 0), .int (zi 0)]))]) 0 (n := 24) C zk3 fX4_21 dX4_init_21 rfl (by decide) rfl rfl rfl (Nat.le_of_ble_eq_true rfl) rfl rfl rfl ?_
  refine zN_aload_n (i := 0) (n := 25) C dX4_init_24 rfl rfl rfl ?_
  refine zN_iconst (n := 26) C dX4_init_25 rfl ?_
  refine zN_putN (f := 4) (fs' := [.int (zi 0), .int (zi 0), .int (zi 0), .int (zi 0), .int (zi (-1))]) (ws' := [(h0, .inr (3, [.int (zi 0), .int (zi 0), .int (zi 0), .int (zi 0), .int (zi (-1))]))]) 0 (n := 29) C zk3 fX4_24 dX4_init_26 rfl (by decide) rfl rfl rfl (Nat.le_of_ble_eq_true rfl) rfl rfl rfl ?_
  exact zN_ret (Pst := fun h w => w = [(h, .inr (3, [.int (zi 0), .int (zi 0), .int (zi 0), .int (zi 0), .int (zi (-1))]))]) C hr hlk dX4_init_29 rfl
set_option maxRecDepth 100000 in
set_option maxHeartbeats 4000000 in
theorem n_kid {Γ : zC} {l : Launch} {d : Nat} : zNew Γ l (d + 1) qX2_init (.inr (2, [.int (zi 0), .int (zi 0), .int (zi 0), .int (zi 0), .int (zi 0), .int (zi 0), .int (zi 0)])) 0 0 (fun h w => w = [(h, .inr (2, [.int (zi 0), .int (zi 0), .int (zi 0), .int (zi 0), .int (zi 0), .int (zi 0), .int (zi (-1))]))]) := by
  refine zNew.of 0 RX2 rfl (by decide +kernel) (by decide) rfl ?_
  intro h0 p e s m below meth c C hin hr hlk hlt
  refine zN_aload_n (i := 0) (n := 1) C dX2_init_0 rfl rfl rfl ?_
  refine zN_objinit (n := 4) C olX2 oi_w dX2_init_1 (Nat.le_of_ble_eq_true rfl) ⟨by show 1 ≤ d + 1; omega, by show 20 ≤ 36 * (d + 1); omega⟩ rfl ?_
  refine zN_aload_n (i := 0) (n := 5) C dX2_init_4 rfl rfl rfl ?_
  refine zN_iconst (n := 6) C dX2_init_5 rfl ?_
  refine zN_putN (f := 0) (fs' := [.int (zi 0), .int (zi 0), .int (zi 0), .int (zi 0), .int (zi 0), .int (zi 0), .int (zi 0)]) (ws' := [(h0, .inr (2, [.int (zi 0), .int (zi 0), .int (zi 0), .int (zi 0), .int (zi 0), .int (zi 0), .int (zi 0)]))]) 0 (n := 9) C zk2 fX2_9 dX2_init_6 rfl (by decide) rfl rfl rfl (Nat.le_of_ble_eq_true rfl) rfl rfl rfl ?_
  refine zN_aload_n (i := 0) (n := 10) C dX2_init_9 rfl rfl rfl ?_
  refine zN_iconst (n := 11) C dX2_init_10 rfl ?_
  refine zN_putN (f := 1) (fs' := [.int (zi 0), .int (zi 0), .int (zi 0), .int (zi 0), .int (zi 0), .int (zi 0), .int (zi 0)]) (ws' := [(h0, .inr (2, [.int (zi 0), .int (zi 0), .int (zi 0), .int (zi 0), .int (zi 0), .int (zi 0), .int (zi 0)]))]) 0 (n := 14) C zk2 fX2_15 dX2_init_11 rfl (by decide) rfl rfl rfl (Nat.le_of_ble_eq_true rfl) rfl rfl rfl ?_
  refine zN_aload_n (i := 0) (n := 15) C dX2_init_14 rfl rfl rfl ?_
  refine zN_iconst (n := 16) C dX2_init_15 rfl ?_
  refine zN_putN (f := 2) (fs' := [.int (zi 0), .int (zi 0), .int (zi 0), .int (zi 0), .int (zi 0), .int (zi 0), .int (zi 0)]) (ws' := [(h0, .inr (2, [.int (zi 0), .int (zi 0), .int (zi 0), .int (zi 0), .int (zi 0), .int (zi 0), .int (zi 0)]))]) 0 (n := 19) C zk2 fX2_18 dX2_init_16 rfl (by decide) rfl rfl rfl (Nat.le_of_ble_eq_true rfl) rfl rfl rfl ?_
  refine zN_aload_n (i := 0) (n := 20) C dX2_init_19 rfl rfl rfl ?_
  refine zN_iconst (n := 21) C dX2_init_20 rfl ?_
  refine zN_putN (f := 3) (fs' := [.int (zi 0), .int (zi 0), .int (zi 0), .int (zi 0), .int (zi 0), .int (zi 0), .int (zi 0)]) (ws' := [(h0, .inr (2, [.int (zi 0), .int (zi 0), .int (zi 0), .int (zi 0), .int (zi 0), .int (zi 0), .int (zi 0)]))]) 0 (n := 24) C zk2 fX2_21 dX2_init_21 rfl (by decide) rfl rfl rfl (Nat.le_of_ble_eq_true rfl) rfl rfl rfl ?_
  refine zN_aload_n (i := 0) (n := 25) C dX2_init_24 rfl rfl rfl ?_
  refine zN_iconst (n := 26) C dX2_init_25 rfl ?_
  refine zN_putN (f := 4) (fs' := [.int (zi 0), .int (zi 0), .int (zi 0), .int (zi 0), .int (zi 0), .int (zi 0), .int (zi 0)]) (ws' := [(h0, .inr (2, [.int (zi 0), .int (zi 0), .int (zi 0), .int (zi 0), .int (zi 0), .int (zi 0), .int (zi 0)]))]) 0 (n := 29) C zk2 fX2_24 dX2_init_26 rfl (by decide) rfl rfl rfl (Nat.le_of_ble_eq_true rfl) rfl rfl rfl ?_
  refine zN_aload_n (i := 0) (n := 30) C dX2_init_29 rfl rfl rfl ?_
  refine zN_iconst (n := 31) C dX2_init_30 rfl ?_
  refine zN_putN (f := 5) (fs' := [.int (zi 0), .int (zi 0), .int (zi 0), .int (zi 0), .int (zi 0), .int (zi 0), .int (zi 0)]) (ws' := [(h0, .inr (2, [.int (zi 0), .int (zi 0), .int (zi 0), .int (zi 0), .int (zi 0), .int (zi 0), .int (zi 0)]))]) 0 (n := 34) C zk2 fX2_27 dX2_init_31 rfl (by decide) rfl rfl rfl (Nat.le_of_ble_eq_true rfl) rfl rfl rfl ?_
  refine zN_aload_n (i := 0) (n := 35) C dX2_init_34 rfl rfl rfl ?_
  refine zN_iconst (n := 36) C dX2_init_35 rfl ?_
  refine zN_putN (f := 6) (fs' := [.int (zi 0), .int (zi 0), .int (zi 0), .int (zi 0), .int (zi 0), .int (zi 0), .int (zi (-1))]) (ws' := [(h0, .inr (2, [.int (zi 0), .int (zi 0), .int (zi 0), .int (zi 0), .int (zi 0), .int (zi 0), .int (zi (-1))]))]) 0 (n := 39) C zk2 fX2_30 dX2_init_36 rfl (by decide) rfl rfl rfl (Nat.le_of_ble_eq_true rfl) rfl rfl rfl ?_
  exact zN_ret (Pst := fun h w => w = [(h, .inr (2, [.int (zi 0), .int (zi 0), .int (zi 0), .int (zi 0), .int (zi 0), .int (zi 0), .int (zi (-1))]))]) C hr hlk dX2_init_39 rfl
set_option maxRecDepth 100000 in
set_option maxHeartbeats 4000000 in
theorem n_car {Γ : zC} {l : Launch} {d : Nat} : zNew Γ l (d + 2) qX0_init (.inr (0, [.null, .null, .int (zi 0), .int (zi 0), .int (zi 0), .int (zi 0)])) 11 66 (fun h w => ∃ a : Int → Nat, a 0 = h ∧ w.Perm (carW Γ a)) := by
  refine zNew.of 1 RX0 rfl (by decide +kernel) (by decide) rfl ?_
  intro h0 p e s m below meth c C hin hr hlk hlt
  refine zN_aload_n (i := 0) (n := 1) C dX0_init_0 rfl rfl rfl ?_
  refine zN_objinit (n := 4) C olX0 oi_w dX0_init_1 (Nat.le_of_ble_eq_true rfl) ⟨by show 1 ≤ d + 2; omega, by show 20 ≤ 36 * (d + 2); omega⟩ rfl ?_
  refine zN_aload_n (i := 0) (n := 5) C dX0_init_4 rfl rfl rfl ?_
  refine zN_iconst (n := 6) C dX0_init_5 rfl ?_
  refine zN_newQ (N := 3) (t := 0) (n := 9) C clX0_9 rfl List.mem_cons_self dX0_init_6 (by decide) (by decide) ⟨show 0 + 1 ≤ 11 from by decide, show 0 + 3 ≤ 66 from by decide⟩ rfl (fun q6_0 => ?_)
  refine zN_widen (k1 := 1) (k2 := 3) (by decide) (by decide) ?_
  refine zN_putF (f := 0) (fs' := [.ref q6_0, .null, .int (zi 0), .int (zi 0), .int (zi 0), .int (zi 0)]) (ws' := [(q6_0, .inl (zY Γ (2 + 0), 3, .inr (.inr (.inr (.inr (fun _ => none)))))), (h0, .inr (0, [.ref q6_0, .null, .int (zi 0), .int (zi 0), .int (zi 0), .int (zi 0)]))]) 1 (n := 12) C hin zk0 fX0_11 dX0_init_9 rfl (by decide) rfl rfl rfl rfl (Nat.le_of_ble_eq_true rfl) rfl rfl rfl ?_
  refine zN_aload_n (i := 0) (n := 13) C dX0_init_12 rfl rfl rfl ?_
  refine zN_bipush (n := 15) C dX0_init_13 (by decide) rfl ?_
  refine zN_newQ (N := 6) (t := 1) (n := 18) C clX0_17 rfl (List.mem_cons_of_mem _ List.mem_cons_self) dX0_init_15 (by decide) (by decide) ⟨show 1 + 1 ≤ 11 from by decide, show 3 + 6 ≤ 66 from by decide⟩ rfl (fun q15_1 => ?_)
  refine zN_widen (k1 := 2) (k2 := 9) (by decide) (by decide) ?_
  refine zN_putF (f := 1) (fs' := [.ref q6_0, .ref q15_1, .int (zi 0), .int (zi 0), .int (zi 0), .int (zi 0)]) (ws' := [(q15_1, .inl (zY Γ (2 + 1), 6, .inr (.inr (.inr (.inr (fun _ => none)))))), (q6_0, .inl (zY Γ (2 + 0), 3, .inr (.inr (.inr (.inr (fun _ => none)))))), (h0, .inr (0, [.ref q6_0, .ref q15_1, .int (zi 0), .int (zi 0), .int (zi 0), .int (zi 0)]))]) 2 (n := 21) C hin zk0 fX0_19 dX0_init_18 rfl (by decide) rfl rfl rfl rfl (Nat.le_of_ble_eq_true rfl) rfl rfl rfl ?_
  refine zN_aload_n (i := 0) (n := 22) C dX0_init_21 rfl rfl rfl ?_
  refine zN_iconst (n := 23) C dX0_init_22 rfl ?_
  refine zN_putN (f := 2) (fs' := [.ref q6_0, .ref q15_1, .int (zi 0), .int (zi 0), .int (zi 0), .int (zi 0)]) (ws' := [(q15_1, .inl (zY Γ (2 + 1), 6, .inr (.inr (.inr (.inr (fun _ => none)))))), (q6_0, .inl (zY Γ (2 + 0), 3, .inr (.inr (.inr (.inr (fun _ => none)))))), (h0, .inr (0, [.ref q6_0, .ref q15_1, .int (zi 0), .int (zi 0), .int (zi 0), .int (zi 0)]))]) 2 (n := 26) C zk0 fX0_23 dX0_init_23 rfl (by decide) rfl rfl rfl (Nat.le_of_ble_eq_true rfl) rfl rfl rfl ?_
  refine zN_aload_n (i := 0) (n := 27) C dX0_init_26 rfl rfl rfl ?_
  refine zN_iconst (n := 28) C dX0_init_27 rfl ?_
  refine zN_putN (f := 3) (fs' := [.ref q6_0, .ref q15_1, .int (zi 0), .int (zi 0), .int (zi 0), .int (zi 0)]) (ws' := [(q15_1, .inl (zY Γ (2 + 1), 6, .inr (.inr (.inr (.inr (fun _ => none)))))), (q6_0, .inl (zY Γ (2 + 0), 3, .inr (.inr (.inr (.inr (fun _ => none)))))), (h0, .inr (0, [.ref q6_0, .ref q15_1, .int (zi 0), .int (zi 0), .int (zi 0), .int (zi 0)]))]) 2 (n := 31) C zk0 fX0_27 dX0_init_28 rfl (by decide) rfl rfl rfl (Nat.le_of_ble_eq_true rfl) rfl rfl rfl ?_
  refine zN_aload_n (i := 0) (n := 32) C dX0_init_31 rfl rfl rfl ?_
  refine zN_iconst (n := 33) C dX0_init_32 rfl ?_
  refine zN_putN (f := 4) (fs' := [.ref q6_0, .ref q15_1, .int (zi 0), .int (zi 0), .int (zi 0), .int (zi 0)]) (ws' := [(q15_1, .inl (zY Γ (2 + 1), 6, .inr (.inr (.inr (.inr (fun _ => none)))))), (q6_0, .inl (zY Γ (2 + 0), 3, .inr (.inr (.inr (.inr (fun _ => none)))))), (h0, .inr (0, [.ref q6_0, .ref q15_1, .int (zi 0), .int (zi 0), .int (zi 0), .int (zi 0)]))]) 2 (n := 36) C zk0 fX0_30 dX0_init_33 rfl (by decide) rfl rfl rfl (Nat.le_of_ble_eq_true rfl) rfl rfl rfl ?_
  refine zN_aload_n (i := 0) (n := 37) C dX0_init_36 rfl rfl rfl ?_
  refine zN_iconst (n := 38) C dX0_init_37 rfl ?_
  refine zN_putN (f := 5) (fs' := [.ref q6_0, .ref q15_1, .int (zi 0), .int (zi 0), .int (zi 0), .int (zi 0)]) (ws' := [(q15_1, .inl (zY Γ (2 + 1), 6, .inr (.inr (.inr (.inr (fun _ => none)))))), (q6_0, .inl (zY Γ (2 + 0), 3, .inr (.inr (.inr (.inr (fun _ => none)))))), (h0, .inr (0, [.ref q6_0, .ref q15_1, .int (zi 0), .int (zi 0), .int (zi 0), .int (zi 0)]))]) 2 (n := 41) C zk0 fX0_33 dX0_init_38 rfl (by decide) rfl rfl rfl (Nat.le_of_ble_eq_true rfl) rfl rfl rfl ?_
  refine zN_iconst (n := 42) C dX0_init_41 rfl ?_
  refine zN_istore_n (i := 1) (n := 43) C dX0_init_42 rfl (by decide) (fun w h _ => by cases h; rfl) rfl rfl ?_
  refine zN_iload_n (i := 1) (n := 44) C dX0_init_43 rfl rfl rfl ?_
  refine zN_iconst (n := 45) C dX0_init_44 rfl ?_
  refine zN_geF (n := 48) C 67 dX0_init_45 (by decide) (by decide) (by decide) (by decide) rfl ?_
  refine zN_aload_n (i := 0) (n := 49) C dX0_init_48 rfl rfl rfl ?_
  refine zN_get (f := 0) 2 (n := 52) C zk0 fX0_11 dX0_init_49 rfl (by decide) rfl rfl ?_
  refine zN_iload_n (i := 1) (n := 53) C dX0_init_52 rfl rfl rfl ?_
  refine zN_new (n := 56) C zk3 clX0_9 in3 dX0_init_53 df3 ⟨show 2 + 1 ≤ 11 from by decide, show 9 + 5 ≤ 66 from by decide⟩ rfl (fun q53_2 => ?_)
  refine zN_widen (k1 := 3) (k2 := 14) (by decide) (by decide) ?_
  refine zN_dup (n := 57) C dX0_init_56 rfl rfl ?_
  refine zN_initN (n := 60) C jnX4 (by decide) (n_seat (d := d)) dX0_init_57 (Nat.le_of_ble_eq_true rfl) (zfitN (by omega) (by decide)) ⟨show 3 + 0 ≤ 11 from by decide, show 14 + 0 ≤ 66 from by decide⟩ rfl (fun w9 hw9 => ?_)
  refine zN_widen (k1 := 3) (k2 := 14) (by decide) (by decide) ?_
  subst hw9
  refine zN_eqw (ws' := [(q53_2, .inr (3, [.int (zi 0), .int (zi 0), .int (zi 0), .int (zi 0), .int (zi (-1))])), (q15_1, .inl (zY Γ (2 + 1), 6, .inr (.inr (.inr (.inr (fun _ => none)))))), (q6_0, .inl (zY Γ (2 + 0), 3, .inr (.inr (.inr (.inr (fun _ => none)))))), (h0, .inr (0, [.ref q6_0, .ref q15_1, .int (zi 0), .int (zi 0), .int (zi 0), .int (zi 0)]))]) rfl ?_
  refine zN_aast (t := 0) (z := 0) (ws' := [(q53_2, .inr (3, [.int (zi 0), .int (zi 0), .int (zi 0), .int (zi 0), .int (zi (-1))])), (q15_1, .inl (zY Γ (2 + 1), 6, .inr (.inr (.inr (.inr (fun _ => none)))))), (q6_0, .inl (zY Γ (2 + 0), 3, .inr (.inr (.inr (.inr (va_up (fun _ => none) 0 (some q53_2))))))), (h0, .inr (0, [.ref q6_0, .ref q15_1, .int (zi 0), .int (zi 0), .int (zi 0), .int (zi 0)]))]) 2 0 (n := 61) C dX0_init_60 rfl rfl rfl rfl (by decide) (by decide) rfl rfl ?_
  refine zN_iinc (n := 64) C dX0_init_61 rfl (by decide) (fun w h _ => by cases h; rfl) rfl rfl ?_
  refine zN_goto C 43 dX0_init_64 (by decide) ?_
  refine zN_iload_n (i := 1) (n := 44) C dX0_init_43 rfl rfl rfl ?_
  refine zN_iconst (n := 45) C dX0_init_44 rfl ?_
  refine zN_geF (n := 48) C 67 dX0_init_45 (by decide) (by decide) (by decide) (by decide) rfl ?_
  refine zN_aload_n (i := 0) (n := 49) C dX0_init_48 rfl rfl rfl ?_
  refine zN_get (f := 0) 3 (n := 52) C zk0 fX0_11 dX0_init_49 rfl (by decide) rfl rfl ?_
  refine zN_iload_n (i := 1) (n := 53) C dX0_init_52 rfl rfl rfl ?_
  refine zN_new (n := 56) C zk3 clX0_9 in3 dX0_init_53 df3 ⟨show 3 + 1 ≤ 11 from by decide, show 14 + 5 ≤ 66 from by decide⟩ rfl (fun q53_3 => ?_)
  refine zN_widen (k1 := 4) (k2 := 19) (by decide) (by decide) ?_
  refine zN_dup (n := 57) C dX0_init_56 rfl rfl ?_
  refine zN_initN (n := 60) C jnX4 (by decide) (n_seat (d := d)) dX0_init_57 (Nat.le_of_ble_eq_true rfl) (zfitN (by omega) (by decide)) ⟨show 4 + 0 ≤ 11 from by decide, show 19 + 0 ≤ 66 from by decide⟩ rfl (fun w9 hw9 => ?_)
  refine zN_widen (k1 := 4) (k2 := 19) (by decide) (by decide) ?_
  subst hw9
  refine zN_eqw (ws' := [(q53_3, .inr (3, [.int (zi 0), .int (zi 0), .int (zi 0), .int (zi 0), .int (zi (-1))])), (q53_2, .inr (3, [.int (zi 0), .int (zi 0), .int (zi 0), .int (zi 0), .int (zi (-1))])), (q15_1, .inl (zY Γ (2 + 1), 6, .inr (.inr (.inr (.inr (fun _ => none)))))), (q6_0, .inl (zY Γ (2 + 0), 3, .inr (.inr (.inr (.inr (va_up (fun _ => none) 0 (some q53_2))))))), (h0, .inr (0, [.ref q6_0, .ref q15_1, .int (zi 0), .int (zi 0), .int (zi 0), .int (zi 0)]))]) rfl ?_
  refine zN_aast (t := 0) (z := 1) (ws' := [(q53_3, .inr (3, [.int (zi 0), .int (zi 0), .int (zi 0), .int (zi 0), .int (zi (-1))])), (q53_2, .inr (3, [.int (zi 0), .int (zi 0), .int (zi 0), .int (zi 0), .int (zi (-1))])), (q15_1, .inl (zY Γ (2 + 1), 6, .inr (.inr (.inr (.inr (fun _ => none)))))), (q6_0, .inl (zY Γ (2 + 0), 3, .inr (.inr (.inr (.inr (va_up (va_up (fun _ => none) 0 (some q53_2)) 1 (some q53_3))))))), (h0, .inr (0, [.ref q6_0, .ref q15_1, .int (zi 0), .int (zi 0), .int (zi 0), .int (zi 0)]))]) 3 0 (n := 61) C dX0_init_60 rfl rfl rfl rfl (by decide) (by decide) rfl rfl ?_
  refine zN_iinc (n := 64) C dX0_init_61 rfl (by decide) (fun w h _ => by cases h; rfl) rfl rfl ?_
  refine zN_goto C 43 dX0_init_64 (by decide) ?_
  refine zN_iload_n (i := 1) (n := 44) C dX0_init_43 rfl rfl rfl ?_
  refine zN_iconst (n := 45) C dX0_init_44 rfl ?_
  refine zN_geF (n := 48) C 67 dX0_init_45 (by decide) (by decide) (by decide) (by decide) rfl ?_
  refine zN_aload_n (i := 0) (n := 49) C dX0_init_48 rfl rfl rfl ?_
  refine zN_get (f := 0) 4 (n := 52) C zk0 fX0_11 dX0_init_49 rfl (by decide) rfl rfl ?_
  refine zN_iload_n (i := 1) (n := 53) C dX0_init_52 rfl rfl rfl ?_
  refine zN_new (n := 56) C zk3 clX0_9 in3 dX0_init_53 df3 ⟨show 4 + 1 ≤ 11 from by decide, show 19 + 5 ≤ 66 from by decide⟩ rfl (fun q53_4 => ?_)
  refine zN_widen (k1 := 5) (k2 := 24) (by decide) (by decide) ?_
  refine zN_dup (n := 57) C dX0_init_56 rfl rfl ?_
  refine zN_initN (n := 60) C jnX4 (by decide) (n_seat (d := d)) dX0_init_57 (Nat.le_of_ble_eq_true rfl) (zfitN (by omega) (by decide)) ⟨show 5 + 0 ≤ 11 from by decide, show 24 + 0 ≤ 66 from by decide⟩ rfl (fun w9 hw9 => ?_)
  refine zN_widen (k1 := 5) (k2 := 24) (by decide) (by decide) ?_
  subst hw9
  refine zN_eqw (ws' := [(q53_4, .inr (3, [.int (zi 0), .int (zi 0), .int (zi 0), .int (zi 0), .int (zi (-1))])), (q53_3, .inr (3, [.int (zi 0), .int (zi 0), .int (zi 0), .int (zi 0), .int (zi (-1))])), (q53_2, .inr (3, [.int (zi 0), .int (zi 0), .int (zi 0), .int (zi 0), .int (zi (-1))])), (q15_1, .inl (zY Γ (2 + 1), 6, .inr (.inr (.inr (.inr (fun _ => none)))))), (q6_0, .inl (zY Γ (2 + 0), 3, .inr (.inr (.inr (.inr (va_up (va_up (fun _ => none) 0 (some q53_2)) 1 (some q53_3))))))), (h0, .inr (0, [.ref q6_0, .ref q15_1, .int (zi 0), .int (zi 0), .int (zi 0), .int (zi 0)]))]) rfl ?_
  refine zN_aast (t := 0) (z := 2) (ws' := [(q53_4, .inr (3, [.int (zi 0), .int (zi 0), .int (zi 0), .int (zi 0), .int (zi (-1))])), (q53_3, .inr (3, [.int (zi 0), .int (zi 0), .int (zi 0), .int (zi 0), .int (zi (-1))])), (q53_2, .inr (3, [.int (zi 0), .int (zi 0), .int (zi 0), .int (zi 0), .int (zi (-1))])), (q15_1, .inl (zY Γ (2 + 1), 6, .inr (.inr (.inr (.inr (fun _ => none)))))), (q6_0, .inl (zY Γ (2 + 0), 3, .inr (.inr (.inr (.inr (va_up (va_up (va_up (fun _ => none) 0 (some q53_2)) 1 (some q53_3)) 2 (some q53_4))))))), (h0, .inr (0, [.ref q6_0, .ref q15_1, .int (zi 0), .int (zi 0), .int (zi 0), .int (zi 0)]))]) 4 0 (n := 61) C dX0_init_60 rfl rfl rfl rfl (by decide) (by decide) rfl rfl ?_
  refine zN_iinc (n := 64) C dX0_init_61 rfl (by decide) (fun w h _ => by cases h; rfl) rfl rfl ?_
  refine zN_goto C 43 dX0_init_64 (by decide) ?_
  refine zN_iload_n (i := 1) (n := 44) C dX0_init_43 rfl rfl rfl ?_
  refine zN_iconst (n := 45) C dX0_init_44 rfl ?_
  refine zN_geT C 67 dX0_init_45 (by decide) (by decide) (by decide) (by decide) ?_
  refine zN_iconst (n := 68) C dX0_init_67 rfl ?_
  refine zN_istore_n (i := 1) (n := 69) C dX0_init_68 rfl (by decide) (fun w h _ => by cases h; rfl) rfl rfl ?_
  refine zN_iload_n (i := 1) (n := 70) C dX0_init_69 rfl rfl rfl ?_
  refine zN_bipush (n := 72) C dX0_init_70 (by decide) rfl ?_
  refine zN_geF (n := 75) C 94 dX0_init_72 (by decide) (by decide) (by decide) (by decide) rfl ?_
  refine zN_aload_n (i := 0) (n := 76) C dX0_init_75 rfl rfl rfl ?_
  refine zN_get (f := 1) 5 (n := 79) C zk0 fX0_19 dX0_init_76 rfl (by decide) rfl rfl ?_
  refine zN_iload_n (i := 1) (n := 80) C dX0_init_79 rfl rfl rfl ?_
  refine zN_new (n := 83) C zk2 clX0_17 in2 dX0_init_80 df2 ⟨show 5 + 1 ≤ 11 from by decide, show 24 + 7 ≤ 66 from by decide⟩ rfl (fun q80_5 => ?_)
  refine zN_widen (k1 := 6) (k2 := 31) (by decide) (by decide) ?_
  refine zN_dup (n := 84) C dX0_init_83 rfl rfl ?_
  refine zN_initN (n := 87) C jnX2 (by decide) (n_kid (d := d)) dX0_init_84 (Nat.le_of_ble_eq_true rfl) (zfitN (by omega) (by decide)) ⟨show 6 + 0 ≤ 11 from by decide, show 31 + 0 ≤ 66 from by decide⟩ rfl (fun w9 hw9 => ?_)
  refine zN_widen (k1 := 6) (k2 := 31) (by decide) (by decide) ?_
  subst hw9
  refine zN_eqw (ws' := [(q80_5, .inr (2, [.int (zi 0), .int (zi 0), .int (zi 0), .int (zi 0), .int (zi 0), .int (zi 0), .int (zi (-1))])), (q53_4, .inr (3, [.int (zi 0), .int (zi 0), .int (zi 0), .int (zi 0), .int (zi (-1))])), (q53_3, .inr (3, [.int (zi 0), .int (zi 0), .int (zi 0), .int (zi 0), .int (zi (-1))])), (q53_2, .inr (3, [.int (zi 0), .int (zi 0), .int (zi 0), .int (zi 0), .int (zi (-1))])), (q15_1, .inl (zY Γ (2 + 1), 6, .inr (.inr (.inr (.inr (fun _ => none)))))), (q6_0, .inl (zY Γ (2 + 0), 3, .inr (.inr (.inr (.inr (va_up (va_up (va_up (fun _ => none) 0 (some q53_2)) 1 (some q53_3)) 2 (some q53_4))))))), (h0, .inr (0, [.ref q6_0, .ref q15_1, .int (zi 0), .int (zi 0), .int (zi 0), .int (zi 0)]))]) rfl ?_
  refine zN_aast (t := 1) (z := 0) (ws' := [(q80_5, .inr (2, [.int (zi 0), .int (zi 0), .int (zi 0), .int (zi 0), .int (zi 0), .int (zi 0), .int (zi (-1))])), (q53_4, .inr (3, [.int (zi 0), .int (zi 0), .int (zi 0), .int (zi 0), .int (zi (-1))])), (q53_3, .inr (3, [.int (zi 0), .int (zi 0), .int (zi 0), .int (zi 0), .int (zi (-1))])), (q53_2, .inr (3, [.int (zi 0), .int (zi 0), .int (zi 0), .int (zi 0), .int (zi (-1))])), (q15_1, .inl (zY Γ (2 + 1), 6, .inr (.inr (.inr (.inr (va_up (fun _ => none) 0 (some q80_5))))))), (q6_0, .inl (zY Γ (2 + 0), 3, .inr (.inr (.inr (.inr (va_up (va_up (va_up (fun _ => none) 0 (some q53_2)) 1 (some q53_3)) 2 (some q53_4))))))), (h0, .inr (0, [.ref q6_0, .ref q15_1, .int (zi 0), .int (zi 0), .int (zi 0), .int (zi 0)]))]) 4 0 (n := 88) C dX0_init_87 rfl rfl rfl rfl (by decide) (by decide) rfl rfl ?_
  refine zN_iinc (n := 91) C dX0_init_88 rfl (by decide) (fun w h _ => by cases h; rfl) rfl rfl ?_
  refine zN_goto C 69 dX0_init_91 (by decide) ?_
  refine zN_iload_n (i := 1) (n := 70) C dX0_init_69 rfl rfl rfl ?_
  refine zN_bipush (n := 72) C dX0_init_70 (by decide) rfl ?_
  refine zN_geF (n := 75) C 94 dX0_init_72 (by decide) (by decide) (by decide) (by decide) rfl ?_
  refine zN_aload_n (i := 0) (n := 76) C dX0_init_75 rfl rfl rfl ?_
  refine zN_get (f := 1) 6 (n := 79) C zk0 fX0_19 dX0_init_76 rfl (by decide) rfl rfl ?_
  refine zN_iload_n (i := 1) (n := 80) C dX0_init_79 rfl rfl rfl ?_
  refine zN_new (n := 83) C zk2 clX0_17 in2 dX0_init_80 df2 ⟨show 6 + 1 ≤ 11 from by decide, show 31 + 7 ≤ 66 from by decide⟩ rfl (fun q80_6 => ?_)
  refine zN_widen (k1 := 7) (k2 := 38) (by decide) (by decide) ?_
  refine zN_dup (n := 84) C dX0_init_83 rfl rfl ?_
  refine zN_initN (n := 87) C jnX2 (by decide) (n_kid (d := d)) dX0_init_84 (Nat.le_of_ble_eq_true rfl) (zfitN (by omega) (by decide)) ⟨show 7 + 0 ≤ 11 from by decide, show 38 + 0 ≤ 66 from by decide⟩ rfl (fun w9 hw9 => ?_)
  refine zN_widen (k1 := 7) (k2 := 38) (by decide) (by decide) ?_
  subst hw9
  refine zN_eqw (ws' := [(q80_6, .inr (2, [.int (zi 0), .int (zi 0), .int (zi 0), .int (zi 0), .int (zi 0), .int (zi 0), .int (zi (-1))])), (q80_5, .inr (2, [.int (zi 0), .int (zi 0), .int (zi 0), .int (zi 0), .int (zi 0), .int (zi 0), .int (zi (-1))])), (q53_4, .inr (3, [.int (zi 0), .int (zi 0), .int (zi 0), .int (zi 0), .int (zi (-1))])), (q53_3, .inr (3, [.int (zi 0), .int (zi 0), .int (zi 0), .int (zi 0), .int (zi (-1))])), (q53_2, .inr (3, [.int (zi 0), .int (zi 0), .int (zi 0), .int (zi 0), .int (zi (-1))])), (q15_1, .inl (zY Γ (2 + 1), 6, .inr (.inr (.inr (.inr (va_up (fun _ => none) 0 (some q80_5))))))), (q6_0, .inl (zY Γ (2 + 0), 3, .inr (.inr (.inr (.inr (va_up (va_up (va_up (fun _ => none) 0 (some q53_2)) 1 (some q53_3)) 2 (some q53_4))))))), (h0, .inr (0, [.ref q6_0, .ref q15_1, .int (zi 0), .int (zi 0), .int (zi 0), .int (zi 0)]))]) rfl ?_
  refine zN_aast (t := 1) (z := 1) (ws' := [(q80_6, .inr (2, [.int (zi 0), .int (zi 0), .int (zi 0), .int (zi 0), .int (zi 0), .int (zi 0), .int (zi (-1))])), (q80_5, .inr (2, [.int (zi 0), .int (zi 0), .int (zi 0), .int (zi 0), .int (zi 0), .int (zi 0), .int (zi (-1))])), (q53_4, .inr (3, [.int (zi 0), .int (zi 0), .int (zi 0), .int (zi 0), .int (zi (-1))])), (q53_3, .inr (3, [.int (zi 0), .int (zi 0), .int (zi 0), .int (zi 0), .int (zi (-1))])), (q53_2, .inr (3, [.int (zi 0), .int (zi 0), .int (zi 0), .int (zi 0), .int (zi (-1))])), (q15_1, .inl (zY Γ (2 + 1), 6, .inr (.inr (.inr (.inr (va_up (va_up (fun _ => none) 0 (some q80_5)) 1 (some q80_6))))))), (q6_0, .inl (zY Γ (2 + 0), 3, .inr (.inr (.inr (.inr (va_up (va_up (va_up (fun _ => none) 0 (some q53_2)) 1 (some q53_3)) 2 (some q53_4))))))), (h0, .inr (0, [.ref q6_0, .ref q15_1, .int (zi 0), .int (zi 0), .int (zi 0), .int (zi 0)]))]) 5 0 (n := 88) C dX0_init_87 rfl rfl rfl rfl (by decide) (by decide) rfl rfl ?_
  refine zN_iinc (n := 91) C dX0_init_88 rfl (by decide) (fun w h _ => by cases h; rfl) rfl rfl ?_
  refine zN_goto C 69 dX0_init_91 (by decide) ?_
  refine zN_iload_n (i := 1) (n := 70) C dX0_init_69 rfl rfl rfl ?_
  refine zN_bipush (n := 72) C dX0_init_70 (by decide) rfl ?_
  refine zN_geF (n := 75) C 94 dX0_init_72 (by decide) (by decide) (by decide) (by decide) rfl ?_
  refine zN_aload_n (i := 0) (n := 76) C dX0_init_75 rfl rfl rfl ?_
  refine zN_get (f := 1) 7 (n := 79) C zk0 fX0_19 dX0_init_76 rfl (by decide) rfl rfl ?_
  refine zN_iload_n (i := 1) (n := 80) C dX0_init_79 rfl rfl rfl ?_
  refine zN_new (n := 83) C zk2 clX0_17 in2 dX0_init_80 df2 ⟨show 7 + 1 ≤ 11 from by decide, show 38 + 7 ≤ 66 from by decide⟩ rfl (fun q80_7 => ?_)
  refine zN_widen (k1 := 8) (k2 := 45) (by decide) (by decide) ?_
  refine zN_dup (n := 84) C dX0_init_83 rfl rfl ?_
  refine zN_initN (n := 87) C jnX2 (by decide) (n_kid (d := d)) dX0_init_84 (Nat.le_of_ble_eq_true rfl) (zfitN (by omega) (by decide)) ⟨show 8 + 0 ≤ 11 from by decide, show 45 + 0 ≤ 66 from by decide⟩ rfl (fun w9 hw9 => ?_)
  refine zN_widen (k1 := 8) (k2 := 45) (by decide) (by decide) ?_
  subst hw9
  refine zN_eqw (ws' := [(q80_7, .inr (2, [.int (zi 0), .int (zi 0), .int (zi 0), .int (zi 0), .int (zi 0), .int (zi 0), .int (zi (-1))])), (q80_6, .inr (2, [.int (zi 0), .int (zi 0), .int (zi 0), .int (zi 0), .int (zi 0), .int (zi 0), .int (zi (-1))])), (q80_5, .inr (2, [.int (zi 0), .int (zi 0), .int (zi 0), .int (zi 0), .int (zi 0), .int (zi 0), .int (zi (-1))])), (q53_4, .inr (3, [.int (zi 0), .int (zi 0), .int (zi 0), .int (zi 0), .int (zi (-1))])), (q53_3, .inr (3, [.int (zi 0), .int (zi 0), .int (zi 0), .int (zi 0), .int (zi (-1))])), (q53_2, .inr (3, [.int (zi 0), .int (zi 0), .int (zi 0), .int (zi 0), .int (zi (-1))])), (q15_1, .inl (zY Γ (2 + 1), 6, .inr (.inr (.inr (.inr (va_up (va_up (fun _ => none) 0 (some q80_5)) 1 (some q80_6))))))), (q6_0, .inl (zY Γ (2 + 0), 3, .inr (.inr (.inr (.inr (va_up (va_up (va_up (fun _ => none) 0 (some q53_2)) 1 (some q53_3)) 2 (some q53_4))))))), (h0, .inr (0, [.ref q6_0, .ref q15_1, .int (zi 0), .int (zi 0), .int (zi 0), .int (zi 0)]))]) rfl ?_
  refine zN_aast (t := 1) (z := 2) (ws' := [(q80_7, .inr (2, [.int (zi 0), .int (zi 0), .int (zi 0), .int (zi 0), .int (zi 0), .int (zi 0), .int (zi (-1))])), (q80_6, .inr (2, [.int (zi 0), .int (zi 0), .int (zi 0), .int (zi 0), .int (zi 0), .int (zi 0), .int (zi (-1))])), (q80_5, .inr (2, [.int (zi 0), .int (zi 0), .int (zi 0), .int (zi 0), .int (zi 0), .int (zi 0), .int (zi (-1))])), (q53_4, .inr (3, [.int (zi 0), .int (zi 0), .int (zi 0), .int (zi 0), .int (zi (-1))])), (q53_3, .inr (3, [.int (zi 0), .int (zi 0), .int (zi 0), .int (zi 0), .int (zi (-1))])), (q53_2, .inr (3, [.int (zi 0), .int (zi 0), .int (zi 0), .int (zi 0), .int (zi (-1))])), (q15_1, .inl (zY Γ (2 + 1), 6, .inr (.inr (.inr (.inr (va_up (va_up (va_up (fun _ => none) 0 (some q80_5)) 1 (some q80_6)) 2 (some q80_7))))))), (q6_0, .inl (zY Γ (2 + 0), 3, .inr (.inr (.inr (.inr (va_up (va_up (va_up (fun _ => none) 0 (some q53_2)) 1 (some q53_3)) 2 (some q53_4))))))), (h0, .inr (0, [.ref q6_0, .ref q15_1, .int (zi 0), .int (zi 0), .int (zi 0), .int (zi 0)]))]) 6 0 (n := 88) C dX0_init_87 rfl rfl rfl rfl (by decide) (by decide) rfl rfl ?_
  refine zN_iinc (n := 91) C dX0_init_88 rfl (by decide) (fun w h _ => by cases h; rfl) rfl rfl ?_
  refine zN_goto C 69 dX0_init_91 (by decide) ?_
  refine zN_iload_n (i := 1) (n := 70) C dX0_init_69 rfl rfl rfl ?_
  refine zN_bipush (n := 72) C dX0_init_70 (by decide) rfl ?_
  refine zN_geF (n := 75) C 94 dX0_init_72 (by decide) (by decide) (by decide) (by decide) rfl ?_
  refine zN_aload_n (i := 0) (n := 76) C dX0_init_75 rfl rfl rfl ?_
  refine zN_get (f := 1) 8 (n := 79) C zk0 fX0_19 dX0_init_76 rfl (by decide) rfl rfl ?_
  refine zN_iload_n (i := 1) (n := 80) C dX0_init_79 rfl rfl rfl ?_
  refine zN_new (n := 83) C zk2 clX0_17 in2 dX0_init_80 df2 ⟨show 8 + 1 ≤ 11 from by decide, show 45 + 7 ≤ 66 from by decide⟩ rfl (fun q80_8 => ?_)
  refine zN_widen (k1 := 9) (k2 := 52) (by decide) (by decide) ?_
  refine zN_dup (n := 84) C dX0_init_83 rfl rfl ?_
  refine zN_initN (n := 87) C jnX2 (by decide) (n_kid (d := d)) dX0_init_84 (Nat.le_of_ble_eq_true rfl) (zfitN (by omega) (by decide)) ⟨show 9 + 0 ≤ 11 from by decide, show 52 + 0 ≤ 66 from by decide⟩ rfl (fun w9 hw9 => ?_)
  refine zN_widen (k1 := 9) (k2 := 52) (by decide) (by decide) ?_
  subst hw9
  refine zN_eqw (ws' := [(q80_8, .inr (2, [.int (zi 0), .int (zi 0), .int (zi 0), .int (zi 0), .int (zi 0), .int (zi 0), .int (zi (-1))])), (q80_7, .inr (2, [.int (zi 0), .int (zi 0), .int (zi 0), .int (zi 0), .int (zi 0), .int (zi 0), .int (zi (-1))])), (q80_6, .inr (2, [.int (zi 0), .int (zi 0), .int (zi 0), .int (zi 0), .int (zi 0), .int (zi 0), .int (zi (-1))])), (q80_5, .inr (2, [.int (zi 0), .int (zi 0), .int (zi 0), .int (zi 0), .int (zi 0), .int (zi 0), .int (zi (-1))])), (q53_4, .inr (3, [.int (zi 0), .int (zi 0), .int (zi 0), .int (zi 0), .int (zi (-1))])), (q53_3, .inr (3, [.int (zi 0), .int (zi 0), .int (zi 0), .int (zi 0), .int (zi (-1))])), (q53_2, .inr (3, [.int (zi 0), .int (zi 0), .int (zi 0), .int (zi 0), .int (zi (-1))])), (q15_1, .inl (zY Γ (2 + 1), 6, .inr (.inr (.inr (.inr (va_up (va_up (va_up (fun _ => none) 0 (some q80_5)) 1 (some q80_6)) 2 (some q80_7))))))), (q6_0, .inl (zY Γ (2 + 0), 3, .inr (.inr (.inr (.inr (va_up (va_up (va_up (fun _ => none) 0 (some q53_2)) 1 (some q53_3)) 2 (some q53_4))))))), (h0, .inr (0, [.ref q6_0, .ref q15_1, .int (zi 0), .int (zi 0), .int (zi 0), .int (zi 0)]))]) rfl ?_
  refine zN_aast (t := 1) (z := 3) (ws' := [(q80_8, .inr (2, [.int (zi 0), .int (zi 0), .int (zi 0), .int (zi 0), .int (zi 0), .int (zi 0), .int (zi (-1))])), (q80_7, .inr (2, [.int (zi 0), .int (zi 0), .int (zi 0), .int (zi 0), .int (zi 0), .int (zi 0), .int (zi (-1))])), (q80_6, .inr (2, [.int (zi 0), .int (zi 0), .int (zi 0), .int (zi 0), .int (zi 0), .int (zi 0), .int (zi (-1))])), (q80_5, .inr (2, [.int (zi 0), .int (zi 0), .int (zi 0), .int (zi 0), .int (zi 0), .int (zi 0), .int (zi (-1))])), (q53_4, .inr (3, [.int (zi 0), .int (zi 0), .int (zi 0), .int (zi 0), .int (zi (-1))])), (q53_3, .inr (3, [.int (zi 0), .int (zi 0), .int (zi 0), .int (zi 0), .int (zi (-1))])), (q53_2, .inr (3, [.int (zi 0), .int (zi 0), .int (zi 0), .int (zi 0), .int (zi (-1))])), (q15_1, .inl (zY Γ (2 + 1), 6, .inr (.inr (.inr (.inr (va_up (va_up (va_up (va_up (fun _ => none) 0 (some q80_5)) 1 (some q80_6)) 2 (some q80_7)) 3 (some q80_8))))))), (q6_0, .inl (zY Γ (2 + 0), 3, .inr (.inr (.inr (.inr (va_up (va_up (va_up (fun _ => none) 0 (some q53_2)) 1 (some q53_3)) 2 (some q53_4))))))), (h0, .inr (0, [.ref q6_0, .ref q15_1, .int (zi 0), .int (zi 0), .int (zi 0), .int (zi 0)]))]) 7 0 (n := 88) C dX0_init_87 rfl rfl rfl rfl (by decide) (by decide) rfl rfl ?_
  refine zN_iinc (n := 91) C dX0_init_88 rfl (by decide) (fun w h _ => by cases h; rfl) rfl rfl ?_
  refine zN_goto C 69 dX0_init_91 (by decide) ?_
  refine zN_iload_n (i := 1) (n := 70) C dX0_init_69 rfl rfl rfl ?_
  refine zN_bipush (n := 72) C dX0_init_70 (by decide) rfl ?_
  refine zN_geF (n := 75) C 94 dX0_init_72 (by decide) (by decide) (by decide) (by decide) rfl ?_
  refine zN_aload_n (i := 0) (n := 76) C dX0_init_75 rfl rfl rfl ?_
  refine zN_get (f := 1) 9 (n := 79) C zk0 fX0_19 dX0_init_76 rfl (by decide) rfl rfl ?_
  refine zN_iload_n (i := 1) (n := 80) C dX0_init_79 rfl rfl rfl ?_
  refine zN_new (n := 83) C zk2 clX0_17 in2 dX0_init_80 df2 ⟨show 9 + 1 ≤ 11 from by decide, show 52 + 7 ≤ 66 from by decide⟩ rfl (fun q80_9 => ?_)
  refine zN_widen (k1 := 10) (k2 := 59) (by decide) (by decide) ?_
  refine zN_dup (n := 84) C dX0_init_83 rfl rfl ?_
  refine zN_initN (n := 87) C jnX2 (by decide) (n_kid (d := d)) dX0_init_84 (Nat.le_of_ble_eq_true rfl) (zfitN (by omega) (by decide)) ⟨show 10 + 0 ≤ 11 from by decide, show 59 + 0 ≤ 66 from by decide⟩ rfl (fun w9 hw9 => ?_)
  refine zN_widen (k1 := 10) (k2 := 59) (by decide) (by decide) ?_
  subst hw9
  refine zN_eqw (ws' := [(q80_9, .inr (2, [.int (zi 0), .int (zi 0), .int (zi 0), .int (zi 0), .int (zi 0), .int (zi 0), .int (zi (-1))])), (q80_8, .inr (2, [.int (zi 0), .int (zi 0), .int (zi 0), .int (zi 0), .int (zi 0), .int (zi 0), .int (zi (-1))])), (q80_7, .inr (2, [.int (zi 0), .int (zi 0), .int (zi 0), .int (zi 0), .int (zi 0), .int (zi 0), .int (zi (-1))])), (q80_6, .inr (2, [.int (zi 0), .int (zi 0), .int (zi 0), .int (zi 0), .int (zi 0), .int (zi 0), .int (zi (-1))])), (q80_5, .inr (2, [.int (zi 0), .int (zi 0), .int (zi 0), .int (zi 0), .int (zi 0), .int (zi 0), .int (zi (-1))])), (q53_4, .inr (3, [.int (zi 0), .int (zi 0), .int (zi 0), .int (zi 0), .int (zi (-1))])), (q53_3, .inr (3, [.int (zi 0), .int (zi 0), .int (zi 0), .int (zi 0), .int (zi (-1))])), (q53_2, .inr (3, [.int (zi 0), .int (zi 0), .int (zi 0), .int (zi 0), .int (zi (-1))])), (q15_1, .inl (zY Γ (2 + 1), 6, .inr (.inr (.inr (.inr (va_up (va_up (va_up (va_up (fun _ => none) 0 (some q80_5)) 1 (some q80_6)) 2 (some q80_7)) 3 (some q80_8))))))), (q6_0, .inl (zY Γ (2 + 0), 3, .inr (.inr (.inr (.inr (va_up (va_up (va_up (fun _ => none) 0 (some q53_2)) 1 (some q53_3)) 2 (some q53_4))))))), (h0, .inr (0, [.ref q6_0, .ref q15_1, .int (zi 0), .int (zi 0), .int (zi 0), .int (zi 0)]))]) rfl ?_
  refine zN_aast (t := 1) (z := 4) (ws' := [(q80_9, .inr (2, [.int (zi 0), .int (zi 0), .int (zi 0), .int (zi 0), .int (zi 0), .int (zi 0), .int (zi (-1))])), (q80_8, .inr (2, [.int (zi 0), .int (zi 0), .int (zi 0), .int (zi 0), .int (zi 0), .int (zi 0), .int (zi (-1))])), (q80_7, .inr (2, [.int (zi 0), .int (zi 0), .int (zi 0), .int (zi 0), .int (zi 0), .int (zi 0), .int (zi (-1))])), (q80_6, .inr (2, [.int (zi 0), .int (zi 0), .int (zi 0), .int (zi 0), .int (zi 0), .int (zi 0), .int (zi (-1))])), (q80_5, .inr (2, [.int (zi 0), .int (zi 0), .int (zi 0), .int (zi 0), .int (zi 0), .int (zi 0), .int (zi (-1))])), (q53_4, .inr (3, [.int (zi 0), .int (zi 0), .int (zi 0), .int (zi 0), .int (zi (-1))])), (q53_3, .inr (3, [.int (zi 0), .int (zi 0), .int (zi 0), .int (zi 0), .int (zi (-1))])), (q53_2, .inr (3, [.int (zi 0), .int (zi 0), .int (zi 0), .int (zi 0), .int (zi (-1))])), (q15_1, .inl (zY Γ (2 + 1), 6, .inr (.inr (.inr (.inr (va_up (va_up (va_up (va_up (va_up (fun _ => none) 0 (some q80_5)) 1 (some q80_6)) 2 (some q80_7)) 3 (some q80_8)) 4 (some q80_9))))))), (q6_0, .inl (zY Γ (2 + 0), 3, .inr (.inr (.inr (.inr (va_up (va_up (va_up (fun _ => none) 0 (some q53_2)) 1 (some q53_3)) 2 (some q53_4))))))), (h0, .inr (0, [.ref q6_0, .ref q15_1, .int (zi 0), .int (zi 0), .int (zi 0), .int (zi 0)]))]) 8 0 (n := 88) C dX0_init_87 rfl rfl rfl rfl (by decide) (by decide) rfl rfl ?_
  refine zN_iinc (n := 91) C dX0_init_88 rfl (by decide) (fun w h _ => by cases h; rfl) rfl rfl ?_
  refine zN_goto C 69 dX0_init_91 (by decide) ?_
  refine zN_iload_n (i := 1) (n := 70) C dX0_init_69 rfl rfl rfl ?_
  refine zN_bipush (n := 72) C dX0_init_70 (by decide) rfl ?_
  refine zN_geF (n := 75) C 94 dX0_init_72 (by decide) (by decide) (by decide) (by decide) rfl ?_
  refine zN_aload_n (i := 0) (n := 76) C dX0_init_75 rfl rfl rfl ?_
  refine zN_get (f := 1) 10 (n := 79) C zk0 fX0_19 dX0_init_76 rfl (by decide) rfl rfl ?_
  refine zN_iload_n (i := 1) (n := 80) C dX0_init_79 rfl rfl rfl ?_
  refine zN_new (n := 83) C zk2 clX0_17 in2 dX0_init_80 df2 ⟨show 10 + 1 ≤ 11 from by decide, show 59 + 7 ≤ 66 from by decide⟩ rfl (fun q80_10 => ?_)
  refine zN_widen (k1 := 11) (k2 := 66) (by decide) (by decide) ?_
  refine zN_dup (n := 84) C dX0_init_83 rfl rfl ?_
  refine zN_initN (n := 87) C jnX2 (by decide) (n_kid (d := d)) dX0_init_84 (Nat.le_of_ble_eq_true rfl) (zfitN (by omega) (by decide)) ⟨show 11 + 0 ≤ 11 from by decide, show 66 + 0 ≤ 66 from by decide⟩ rfl (fun w9 hw9 => ?_)
  refine zN_widen (k1 := 11) (k2 := 66) (by decide) (by decide) ?_
  subst hw9
  refine zN_eqw (ws' := [(q80_10, .inr (2, [.int (zi 0), .int (zi 0), .int (zi 0), .int (zi 0), .int (zi 0), .int (zi 0), .int (zi (-1))])), (q80_9, .inr (2, [.int (zi 0), .int (zi 0), .int (zi 0), .int (zi 0), .int (zi 0), .int (zi 0), .int (zi (-1))])), (q80_8, .inr (2, [.int (zi 0), .int (zi 0), .int (zi 0), .int (zi 0), .int (zi 0), .int (zi 0), .int (zi (-1))])), (q80_7, .inr (2, [.int (zi 0), .int (zi 0), .int (zi 0), .int (zi 0), .int (zi 0), .int (zi 0), .int (zi (-1))])), (q80_6, .inr (2, [.int (zi 0), .int (zi 0), .int (zi 0), .int (zi 0), .int (zi 0), .int (zi 0), .int (zi (-1))])), (q80_5, .inr (2, [.int (zi 0), .int (zi 0), .int (zi 0), .int (zi 0), .int (zi 0), .int (zi 0), .int (zi (-1))])), (q53_4, .inr (3, [.int (zi 0), .int (zi 0), .int (zi 0), .int (zi 0), .int (zi (-1))])), (q53_3, .inr (3, [.int (zi 0), .int (zi 0), .int (zi 0), .int (zi 0), .int (zi (-1))])), (q53_2, .inr (3, [.int (zi 0), .int (zi 0), .int (zi 0), .int (zi 0), .int (zi (-1))])), (q15_1, .inl (zY Γ (2 + 1), 6, .inr (.inr (.inr (.inr (va_up (va_up (va_up (va_up (va_up (fun _ => none) 0 (some q80_5)) 1 (some q80_6)) 2 (some q80_7)) 3 (some q80_8)) 4 (some q80_9))))))), (q6_0, .inl (zY Γ (2 + 0), 3, .inr (.inr (.inr (.inr (va_up (va_up (va_up (fun _ => none) 0 (some q53_2)) 1 (some q53_3)) 2 (some q53_4))))))), (h0, .inr (0, [.ref q6_0, .ref q15_1, .int (zi 0), .int (zi 0), .int (zi 0), .int (zi 0)]))]) rfl ?_
  refine zN_aast (t := 1) (z := 5) (ws' := [(q80_10, .inr (2, [.int (zi 0), .int (zi 0), .int (zi 0), .int (zi 0), .int (zi 0), .int (zi 0), .int (zi (-1))])), (q80_9, .inr (2, [.int (zi 0), .int (zi 0), .int (zi 0), .int (zi 0), .int (zi 0), .int (zi 0), .int (zi (-1))])), (q80_8, .inr (2, [.int (zi 0), .int (zi 0), .int (zi 0), .int (zi 0), .int (zi 0), .int (zi 0), .int (zi (-1))])), (q80_7, .inr (2, [.int (zi 0), .int (zi 0), .int (zi 0), .int (zi 0), .int (zi 0), .int (zi 0), .int (zi (-1))])), (q80_6, .inr (2, [.int (zi 0), .int (zi 0), .int (zi 0), .int (zi 0), .int (zi 0), .int (zi 0), .int (zi (-1))])), (q80_5, .inr (2, [.int (zi 0), .int (zi 0), .int (zi 0), .int (zi 0), .int (zi 0), .int (zi 0), .int (zi (-1))])), (q53_4, .inr (3, [.int (zi 0), .int (zi 0), .int (zi 0), .int (zi 0), .int (zi (-1))])), (q53_3, .inr (3, [.int (zi 0), .int (zi 0), .int (zi 0), .int (zi 0), .int (zi (-1))])), (q53_2, .inr (3, [.int (zi 0), .int (zi 0), .int (zi 0), .int (zi 0), .int (zi (-1))])), (q15_1, .inl (zY Γ (2 + 1), 6, .inr (.inr (.inr (.inr (va_up (va_up (va_up (va_up (va_up (va_up (fun _ => none) 0 (some q80_5)) 1 (some q80_6)) 2 (some q80_7)) 3 (some q80_8)) 4 (some q80_9)) 5 (some q80_10))))))), (q6_0, .inl (zY Γ (2 + 0), 3, .inr (.inr (.inr (.inr (va_up (va_up (va_up (fun _ => none) 0 (some q53_2)) 1 (some q53_3)) 2 (some q53_4))))))), (h0, .inr (0, [.ref q6_0, .ref q15_1, .int (zi 0), .int (zi 0), .int (zi 0), .int (zi 0)]))]) 9 0 (n := 88) C dX0_init_87 rfl rfl rfl rfl (by decide) (by decide) rfl rfl ?_
  refine zN_iinc (n := 91) C dX0_init_88 rfl (by decide) (fun w h _ => by cases h; rfl) rfl rfl ?_
  refine zN_goto C 69 dX0_init_91 (by decide) ?_
  refine zN_iload_n (i := 1) (n := 70) C dX0_init_69 rfl rfl rfl ?_
  refine zN_bipush (n := 72) C dX0_init_70 (by decide) rfl ?_
  refine zN_geT C 94 dX0_init_72 (by decide) (by decide) (by decide) (by decide) ?_
  refine zN_as (ws' := [(q80_10, .inr (2, [.int (zi 0), .int (zi 0), .int (zi 0), .int (zi 0), .int (zi 0), .int (zi 0), .int (zi (-1))])), (q80_9, .inr (2, [.int (zi 0), .int (zi 0), .int (zi 0), .int (zi 0), .int (zi 0), .int (zi 0), .int (zi (-1))])), (q80_8, .inr (2, [.int (zi 0), .int (zi 0), .int (zi 0), .int (zi 0), .int (zi 0), .int (zi 0), .int (zi (-1))])), (q80_7, .inr (2, [.int (zi 0), .int (zi 0), .int (zi 0), .int (zi 0), .int (zi 0), .int (zi 0), .int (zi (-1))])), (q80_6, .inr (2, [.int (zi 0), .int (zi 0), .int (zi 0), .int (zi 0), .int (zi 0), .int (zi 0), .int (zi (-1))])), (q80_5, .inr (2, [.int (zi 0), .int (zi 0), .int (zi 0), .int (zi 0), .int (zi 0), .int (zi 0), .int (zi (-1))])), (q53_4, .inr (3, [.int (zi 0), .int (zi 0), .int (zi 0), .int (zi 0), .int (zi (-1))])), (q53_3, .inr (3, [.int (zi 0), .int (zi 0), .int (zi 0), .int (zi 0), .int (zi (-1))])), (q53_2, .inr (3, [.int (zi 0), .int (zi 0), .int (zi 0), .int (zi 0), .int (zi (-1))])), (q15_1, .inl (zY Γ (2 + 1), 6, .inr (.inr (.inr (.inr (fun j : Nat => some ((fun k : Int => ([h0, q6_0, q15_1, q53_2, q53_3, q53_4, q80_5, q80_6, q80_7, q80_8, q80_9, q80_10] : List Nat).getD k.toNat 0) (6 + (j : Int))))))))), (q6_0, .inl (zY Γ (2 + 0), 3, .inr (.inr (.inr (.inr (fun j : Nat => some ((fun k : Int => ([h0, q6_0, q15_1, q53_2, q53_3, q53_4, q80_5, q80_6, q80_7, q80_8, q80_9, q80_10] : List Nat).getD k.toNat 0) (3 + (j : Int))))))))), (h0, .inr (0, [.ref q6_0, .ref q15_1, .int (zi 0), .int (zi 0), .int (zi 0), .int (zi 0)]))]) (fun H => (va_P_cons id (va_P_cons id (va_P_cons id (va_P_cons id (va_P_cons id (va_P_cons id (va_P_cons id (va_P_cons id (va_P_cons id (va_P_cons (va_at_refs (refs6 rfl rfl rfl rfl rfl rfl)) (va_P_cons (va_at_refs (refs3 rfl rfl rfl)) (va_P_cons id id))))))))))))) rfl ?_
  exact zN_ret (Pst := fun h w => ∃ a : Int → Nat, a 0 = h ∧ w.Perm (carW Γ a)) C hr hlk dX0_init_94 ⟨(fun k : Int => ([h0, q6_0, q15_1, q53_2, q53_3, q53_4, q80_5, q80_6, q80_7, q80_8, q80_9, q80_10] : List Nat).getD k.toNat 0), rfl, List.reverse_perm (carW Γ (fun k : Int => ([h0, q6_0, q15_1, q53_2, q53_3, q53_4, q80_5, q80_6, q80_7, q80_8, q80_9, q80_10] : List Nat).getD k.toNat 0))⟩
set_option maxRecDepth 100000 in
set_option maxHeartbeats 4000000 in
theorem n_tape {Γ : zC} {l : Launch} {d : Nat} : zNew Γ l (d + 1) qX6_init (.inr (5, [.null, .int (zi 0), .int (zi 0), .int (zi 0), .int (zi 0), .int (zi 0)])) 1 120 (fun h w => ∃ q : Nat, w = [(q, .inl (zY Γ 0, 120, .inl (fun _ => zi 0))), (h, .inr (5, [.ref q, .int (zi 0), .int (zi 0), .int (zi 0), .int (zi 0), .int (zi 0)]))]) := by
  refine zNew.of 0 RX6 rfl (by decide +kernel) (by decide) rfl ?_
  intro h0 p e s m below meth c C hin hr hlk hlt
  refine zN_aload_n (i := 0) (n := 1) C dX6_init_0 rfl rfl rfl ?_
  refine zN_objinit (n := 4) C olX6 oi_w dX6_init_1 (Nat.le_of_ble_eq_true rfl) ⟨by show 1 ≤ d + 1; omega, by show 20 ≤ 36 * (d + 1); omega⟩ rfl ?_
  refine zN_aload_n (i := 0) (n := 5) C dX6_init_4 rfl rfl rfl ?_
  refine zN_bipush (n := 7) C dX6_init_5 (by decide) rfl ?_
  refine zN_newI (N := 120) (n := 9) C ar_int dX6_init_7 (by decide) (by decide) ⟨show 0 + 1 ≤ 1 from by decide, show 0 + 120 ≤ 120 from by decide⟩ rfl (fun q7_0 => ?_)
  refine zN_widen (k1 := 1) (k2 := 120) (by decide) (by decide) ?_
  refine zN_putF (f := 0) (fs' := [.ref q7_0, .int (zi 0), .int (zi 0), .int (zi 0), .int (zi 0), .int (zi 0)]) (ws' := [(q7_0, .inl (zY Γ 0, 120, .inl (fun _ => zi 0))), (h0, .inr (5, [.ref q7_0, .int (zi 0), .int (zi 0), .int (zi 0), .int (zi 0), .int (zi 0)]))]) 1 (n := 12) C hin zk5 fX6_9 dX6_init_9 rfl (by decide) rfl rfl rfl rfl (Nat.le_of_ble_eq_true rfl) rfl rfl rfl ?_
  refine zN_aload_n (i := 0) (n := 13) C dX6_init_12 rfl rfl rfl ?_
  refine zN_iconst (n := 14) C dX6_init_13 rfl ?_
  refine zN_putN (f := 1) (fs' := [.ref q7_0, .int (zi 0), .int (zi 0), .int (zi 0), .int (zi 0), .int (zi 0)]) (ws' := [(q7_0, .inl (zY Γ 0, 120, .inl (fun _ => zi 0))), (h0, .inr (5, [.ref q7_0, .int (zi 0), .int (zi 0), .int (zi 0), .int (zi 0), .int (zi 0)]))]) 1 (n := 17) C zk5 fX6_15 dX6_init_14 rfl (by decide) rfl rfl rfl (Nat.le_of_ble_eq_true rfl) rfl rfl rfl ?_
  refine zN_aload_n (i := 0) (n := 18) C dX6_init_17 rfl rfl rfl ?_
  refine zN_iconst (n := 19) C dX6_init_18 rfl ?_
  refine zN_putN (f := 2) (fs' := [.ref q7_0, .int (zi 0), .int (zi 0), .int (zi 0), .int (zi 0), .int (zi 0)]) (ws' := [(q7_0, .inl (zY Γ 0, 120, .inl (fun _ => zi 0))), (h0, .inr (5, [.ref q7_0, .int (zi 0), .int (zi 0), .int (zi 0), .int (zi 0), .int (zi 0)]))]) 1 (n := 22) C zk5 fX6_19 dX6_init_19 rfl (by decide) rfl rfl rfl (Nat.le_of_ble_eq_true rfl) rfl rfl rfl ?_
  refine zN_aload_n (i := 0) (n := 23) C dX6_init_22 rfl rfl rfl ?_
  refine zN_iconst (n := 24) C dX6_init_23 rfl ?_
  refine zN_putN (f := 3) (fs' := [.ref q7_0, .int (zi 0), .int (zi 0), .int (zi 0), .int (zi 0), .int (zi 0)]) (ws' := [(q7_0, .inl (zY Γ 0, 120, .inl (fun _ => zi 0))), (h0, .inr (5, [.ref q7_0, .int (zi 0), .int (zi 0), .int (zi 0), .int (zi 0), .int (zi 0)]))]) 1 (n := 27) C zk5 fX6_22 dX6_init_24 rfl (by decide) rfl rfl rfl (Nat.le_of_ble_eq_true rfl) rfl rfl rfl ?_
  refine zN_aload_n (i := 0) (n := 28) C dX6_init_27 rfl rfl rfl ?_
  refine zN_iconst (n := 29) C dX6_init_28 rfl ?_
  refine zN_putN (f := 4) (fs' := [.ref q7_0, .int (zi 0), .int (zi 0), .int (zi 0), .int (zi 0), .int (zi 0)]) (ws' := [(q7_0, .inl (zY Γ 0, 120, .inl (fun _ => zi 0))), (h0, .inr (5, [.ref q7_0, .int (zi 0), .int (zi 0), .int (zi 0), .int (zi 0), .int (zi 0)]))]) 1 (n := 32) C zk5 fX6_25 dX6_init_29 rfl (by decide) rfl rfl rfl (Nat.le_of_ble_eq_true rfl) rfl rfl rfl ?_
  refine zN_aload_n (i := 0) (n := 33) C dX6_init_32 rfl rfl rfl ?_
  refine zN_iconst (n := 34) C dX6_init_33 rfl ?_
  refine zN_putN (f := 5) (fs' := [.ref q7_0, .int (zi 0), .int (zi 0), .int (zi 0), .int (zi 0), .int (zi 0)]) (ws' := [(q7_0, .inl (zY Γ 0, 120, .inl (fun _ => zi 0))), (h0, .inr (5, [.ref q7_0, .int (zi 0), .int (zi 0), .int (zi 0), .int (zi 0), .int (zi 0)]))]) 1 (n := 37) C zk5 fX6_28 dX6_init_34 rfl (by decide) rfl rfl rfl (Nat.le_of_ble_eq_true rfl) rfl rfl rfl ?_
  exact zN_ret (Pst := fun h w => ∃ q : Nat, w = [(q, .inl (zY Γ 0, 120, .inl (fun _ => zi 0))), (h, .inr (5, [.ref q, .int (zi 0), .int (zi 0), .int (zi 0), .int (zi 0), .int (zi 0)]))]) C hr hlk dX6_init_37 ⟨_, rfl⟩
set_option maxRecDepth 100000 in
set_option maxHeartbeats 4000000 in
theorem n_sheet {Γ : zC} {l : Launch} {d : Nat} : zNew Γ l (d + 1) qX5_init (.inr (4, [.null, .int (zi 0), .int (zi 0)])) 1 40 (fun h w => ∃ q : Nat, w = [(q, .inl (zY Γ 1, 40, .inr (.inl (fun _ => zl 0)))), (h, .inr (4, [.ref q, .int (zi 0), .int (zi 0)]))]) := by
  refine zNew.of 0 RX5 rfl (by decide +kernel) (by decide) rfl ?_
  intro h0 p e s m below meth c C hin hr hlk hlt
  refine zN_aload_n (i := 0) (n := 1) C dX5_init_0 rfl rfl rfl ?_
  refine zN_objinit (n := 4) C olX5 oi_w dX5_init_1 (Nat.le_of_ble_eq_true rfl) ⟨by show 1 ≤ d + 1; omega, by show 20 ≤ 36 * (d + 1); omega⟩ rfl ?_
  refine zN_aload_n (i := 0) (n := 5) C dX5_init_4 rfl rfl rfl ?_
  refine zN_bipush (n := 7) C dX5_init_5 (by decide) rfl ?_
  refine zN_newL (N := 40) (n := 9) C ar_long dX5_init_7 (by decide) (by decide) ⟨show 0 + 1 ≤ 1 from by decide, show 0 + 40 ≤ 40 from by decide⟩ rfl (fun q7_0 => ?_)
  refine zN_widen (k1 := 1) (k2 := 40) (by decide) (by decide) ?_
  refine zN_putF (f := 0) (fs' := [.ref q7_0, .int (zi 0), .int (zi 0)]) (ws' := [(q7_0, .inl (zY Γ 1, 40, .inr (.inl (fun _ => zl 0)))), (h0, .inr (4, [.ref q7_0, .int (zi 0), .int (zi 0)]))]) 1 (n := 12) C hin zk4 fX5_9 dX5_init_9 rfl (by decide) rfl rfl rfl rfl (Nat.le_of_ble_eq_true rfl) rfl rfl rfl ?_
  refine zN_aload_n (i := 0) (n := 13) C dX5_init_12 rfl rfl rfl ?_
  refine zN_iconst (n := 14) C dX5_init_13 rfl ?_
  refine zN_putN (f := 1) (fs' := [.ref q7_0, .int (zi 0), .int (zi 0)]) (ws' := [(q7_0, .inl (zY Γ 1, 40, .inr (.inl (fun _ => zl 0)))), (h0, .inr (4, [.ref q7_0, .int (zi 0), .int (zi 0)]))]) 1 (n := 17) C zk4 fX5_15 dX5_init_14 rfl (by decide) rfl rfl rfl (Nat.le_of_ble_eq_true rfl) rfl rfl rfl ?_
  refine zN_aload_n (i := 0) (n := 18) C dX5_init_17 rfl rfl rfl ?_
  refine zN_iconst (n := 19) C dX5_init_18 rfl ?_
  refine zN_putN (f := 2) (fs' := [.ref q7_0, .int (zi 0), .int (zi 0)]) (ws' := [(q7_0, .inl (zY Γ 1, 40, .inr (.inl (fun _ => zl 0)))), (h0, .inr (4, [.ref q7_0, .int (zi 0), .int (zi 0)]))]) 1 (n := 22) C zk4 fX5_19 dX5_init_19 rfl (by decide) rfl rfl rfl (Nat.le_of_ble_eq_true rfl) rfl rfl rfl ?_
  exact zN_ret (Pst := fun h w => ∃ q : Nat, w = [(q, .inl (zY Γ 1, 40, .inr (.inl (fun _ => zl 0)))), (h, .inr (4, [.ref q, .int (zi 0), .int (zi 0)]))]) C hr hlk dX5_init_22 ⟨_, rfl⟩
set_option maxRecDepth 100000 in
set_option maxHeartbeats 4000000 in
theorem n_text {Γ : zC} {l : Launch} {d : Nat} : zNew Γ l (d + 2) qX1_init (.inr (1, [.null, .int (zi 0)])) 2 126 (fun h w => ∃ t q : Nat, w = [(q, .inl (zY Γ 0, 120, .inl (fun _ => zi 0))), (t, .inr (5, [.ref q, .int (zi 0), .int (zi 0), .int (zi 0), .int (zi 0), .int (zi 0)])), (h, .inr (1, [.ref t, .int (zi (-1))]))]) := by
  refine zNew.of 0 RX1 rfl (by decide +kernel) (by decide) rfl ?_
  intro h0 p e s m below meth c C hin hr hlk hlt
  refine zN_aload_n (i := 0) (n := 1) C dX1_init_0 rfl rfl rfl ?_
  refine zN_objinit (n := 4) C olX1 oi_w dX1_init_1 (Nat.le_of_ble_eq_true rfl) ⟨by show 1 ≤ d + 2; omega, by show 20 ≤ 36 * (d + 2); omega⟩ rfl ?_
  refine zN_aload_n (i := 0) (n := 5) C dX1_init_4 rfl rfl rfl ?_
  refine zN_new (n := 8) C zk5 clX1_9 in5 dX1_init_5 df5 ⟨show 0 + 1 ≤ 2 from by decide, show 0 + 6 ≤ 126 from by decide⟩ rfl (fun q5_0 => ?_)
  refine zN_widen (k1 := 1) (k2 := 6) (by decide) (by decide) ?_
  refine zN_dup (n := 9) C dX1_init_8 rfl rfl ?_
  refine zN_initN (n := 12) C jnX6 (by decide) (n_tape (d := d)) dX1_init_9 (Nat.le_of_ble_eq_true rfl) (zfitN (by omega) (by decide)) ⟨show 1 + 1 ≤ 2 from by decide, show 6 + 120 ≤ 126 from by decide⟩ rfl (fun w9 hw9 => ?_)
  refine zN_widen (k1 := 2) (k2 := 126) (by decide) (by decide) ?_
  obtain ⟨bq5_0, rfl⟩ := hw9
  refine zN_eqw (ws' := [(bq5_0, .inl (zY Γ 0, 120, .inl (fun _ => zi 0))), (q5_0, .inr (5, [.ref bq5_0, .int (zi 0), .int (zi 0), .int (zi 0), .int (zi 0), .int (zi 0)])), (h0, .inr (1, [.null, .int (zi 0)]))]) rfl ?_
  refine zN_putF (f := 0) (fs' := [.ref q5_0, .int (zi 0)]) (ws' := [(bq5_0, .inl (zY Γ 0, 120, .inl (fun _ => zi 0))), (q5_0, .inr (5, [.ref bq5_0, .int (zi 0), .int (zi 0), .int (zi 0), .int (zi 0), .int (zi 0)])), (h0, .inr (1, [.ref q5_0, .int (zi 0)]))]) 2 (n := 15) C hin zk1 fX1_12 dX1_init_12 rfl (by decide) rfl rfl rfl rfl (Nat.le_of_ble_eq_true rfl) rfl rfl rfl ?_
  refine zN_aload_n (i := 0) (n := 16) C dX1_init_15 rfl rfl rfl ?_
  refine zN_iconst (n := 17) C dX1_init_16 rfl ?_
  refine zN_putN (f := 1) (fs' := [.ref q5_0, .int (zi (-1))]) (ws' := [(bq5_0, .inl (zY Γ 0, 120, .inl (fun _ => zi 0))), (q5_0, .inr (5, [.ref bq5_0, .int (zi 0), .int (zi 0), .int (zi 0), .int (zi 0), .int (zi 0)])), (h0, .inr (1, [.ref q5_0, .int (zi (-1))]))]) 2 (n := 20) C zk1 fX1_18 dX1_init_17 rfl (by decide) rfl rfl rfl (Nat.le_of_ble_eq_true rfl) rfl rfl rfl ?_
  exact zN_ret (Pst := fun h w => ∃ t q : Nat, w = [(q, .inl (zY Γ 0, 120, .inl (fun _ => zi 0))), (t, .inr (5, [.ref q, .int (zi 0), .int (zi 0), .int (zi 0), .int (zi 0), .int (zi 0)])), (h, .inr (1, [.ref t, .int (zi (-1))]))]) C hr hlk dX1_init_20 ⟨_, _, rfl⟩
set_option maxRecDepth 100000 in
set_option maxHeartbeats 4000000 in
theorem n_ways {Γ : zC} {l : Launch} {d : Nat} : zNew Γ l (d + 3) qX7_init (.inr (6, [.null, .null, .null, .null, .int (zi 0)])) 15 81 (fun h w => ∃ (a : Int → Nat) (q5 q6 q7 : Nat), w = (q7, .inl (zY Γ 0, 3, .inl (fun _ => zi 0))) :: (q6, .inl (zY Γ 0, 3, .inl (fun _ => zi 0))) :: (q5, .inl (zY Γ 0, 3, .inl (fun _ => zi 0))) :: (h, .inr (6, [.ref (a 0), .ref q5, .ref q6, .ref q7, .int (zi (-1))])) :: carW Γ a) := by
  refine zNew.of 0 RX7 rfl (by decide +kernel) (by decide) rfl ?_
  intro h0 p e s m below meth c C hin hr hlk hlt
  refine zN_aload_n (i := 0) (n := 1) C dX7_init_0 rfl rfl rfl ?_
  refine zN_objinit (n := 4) C olX7 oi_w dX7_init_1 (Nat.le_of_ble_eq_true rfl) ⟨by show 1 ≤ d + 3; omega, by show 20 ≤ 36 * (d + 3); omega⟩ rfl ?_
  refine zN_aload_n (i := 0) (n := 5) C dX7_init_4 rfl rfl rfl ?_
  refine zN_new (n := 8) C zk0 clX7_9 in0 dX7_init_5 df0 ⟨show 0 + 1 ≤ 15 from by decide, show 0 + 6 ≤ 81 from by decide⟩ rfl (fun q5_0 => ?_)
  refine zN_widen (k1 := 1) (k2 := 6) (by decide) (by decide) ?_
  refine zN_dup (n := 9) C dX7_init_8 rfl rfl ?_
  refine zN_init (n := 12) C jnX0 lX7_11 (n_car (d := d)) dX7_init_9 (Nat.le_of_ble_eq_true rfl) (zfitN (by omega) (by decide)) ⟨show 1 + 11 ≤ 15 from by decide, show 6 + 66 ≤ 81 from by decide⟩ rfl (fun w9 hw9 => ?_)
  refine zN_widen (k1 := 12) (k2 := 72) (by decide) (by decide) ?_
  obtain ⟨a3, rfl, hpm9⟩ := hw9
  refine zN_perm (hpm9.append_right _) ?_
  refine zN_perm List.perm_append_comm ?_
  refine zN_eqw (ws' := (h0, .inr (6, [.null, .null, .null, .null, .int (zi 0)])) :: carW Γ a3) rfl ?_
  refine zN_putF (f := 0) (fs' := [.ref (a3 0), .null, .null, .null, .int (zi 0)]) (ws' := (h0, .inr (6, [.ref (a3 0), .null, .null, .null, .int (zi 0)])) :: carW Γ a3) 0 (n := 15) C hin zk6 fX7_12 dX7_init_12 rfl (by decide) rfl rfl rfl rfl (Nat.le_of_ble_eq_true rfl) rfl rfl rfl ?_
  refine zN_aload_n (i := 0) (n := 16) C dX7_init_15 rfl rfl rfl ?_
  refine zN_iconst (n := 17) C dX7_init_16 rfl ?_
  refine zN_newI (N := 3) (n := 19) C ar_int dX7_init_17 (by decide) (by decide) ⟨show 12 + 1 ≤ 15 from by decide, show 72 + 3 ≤ 81 from by decide⟩ rfl (fun q17_1 => ?_)
  refine zN_widen (k1 := 13) (k2 := 75) (by decide) (by decide) ?_
  refine zN_putF (f := 1) (fs' := [.ref (a3 0), .ref q17_1, .null, .null, .int (zi 0)]) (ws' := (q17_1, .inl (zY Γ 0, 3, .inl (fun _ => zi 0))) :: (h0, .inr (6, [.ref (a3 0), .ref q17_1, .null, .null, .int (zi 0)])) :: carW Γ a3) 1 (n := 22) C hin zk6 fX7_18 dX7_init_19 rfl (by decide) rfl rfl rfl rfl (Nat.le_of_ble_eq_true rfl) rfl rfl rfl ?_
  refine zN_aload_n (i := 0) (n := 23) C dX7_init_22 rfl rfl rfl ?_
  refine zN_iconst (n := 24) C dX7_init_23 rfl ?_
  refine zN_newI (N := 3) (n := 26) C ar_int dX7_init_24 (by decide) (by decide) ⟨show 13 + 1 ≤ 15 from by decide, show 75 + 3 ≤ 81 from by decide⟩ rfl (fun q24_2 => ?_)
  refine zN_widen (k1 := 14) (k2 := 78) (by decide) (by decide) ?_
  refine zN_putF (f := 2) (fs' := [.ref (a3 0), .ref q17_1, .ref q24_2, .null, .int (zi 0)]) (ws' := (q24_2, .inl (zY Γ 0, 3, .inl (fun _ => zi 0))) :: (q17_1, .inl (zY Γ 0, 3, .inl (fun _ => zi 0))) :: (h0, .inr (6, [.ref (a3 0), .ref q17_1, .ref q24_2, .null, .int (zi 0)])) :: carW Γ a3) 2 (n := 29) C hin zk6 fX7_22 dX7_init_26 rfl (by decide) rfl rfl rfl rfl (Nat.le_of_ble_eq_true rfl) rfl rfl rfl ?_
  refine zN_aload_n (i := 0) (n := 30) C dX7_init_29 rfl rfl rfl ?_
  refine zN_iconst (n := 31) C dX7_init_30 rfl ?_
  refine zN_newI (N := 3) (n := 33) C ar_int dX7_init_31 (by decide) (by decide) ⟨show 14 + 1 ≤ 15 from by decide, show 78 + 3 ≤ 81 from by decide⟩ rfl (fun q31_3 => ?_)
  refine zN_widen (k1 := 15) (k2 := 81) (by decide) (by decide) ?_
  refine zN_putF (f := 3) (fs' := [.ref (a3 0), .ref q17_1, .ref q24_2, .ref q31_3, .int (zi 0)]) (ws' := (q31_3, .inl (zY Γ 0, 3, .inl (fun _ => zi 0))) :: (q24_2, .inl (zY Γ 0, 3, .inl (fun _ => zi 0))) :: (q17_1, .inl (zY Γ 0, 3, .inl (fun _ => zi 0))) :: (h0, .inr (6, [.ref (a3 0), .ref q17_1, .ref q24_2, .ref q31_3, .int (zi 0)])) :: carW Γ a3) 3 (n := 36) C hin zk6 fX7_25 dX7_init_33 rfl (by decide) rfl rfl rfl rfl (Nat.le_of_ble_eq_true rfl) rfl rfl rfl ?_
  refine zN_aload_n (i := 0) (n := 37) C dX7_init_36 rfl rfl rfl ?_
  refine zN_iconst (n := 38) C dX7_init_37 rfl ?_
  refine zN_putN (f := 4) (fs' := [.ref (a3 0), .ref q17_1, .ref q24_2, .ref q31_3, .int (zi (-1))]) (ws' := (q31_3, .inl (zY Γ 0, 3, .inl (fun _ => zi 0))) :: (q24_2, .inl (zY Γ 0, 3, .inl (fun _ => zi 0))) :: (q17_1, .inl (zY Γ 0, 3, .inl (fun _ => zi 0))) :: (h0, .inr (6, [.ref (a3 0), .ref q17_1, .ref q24_2, .ref q31_3, .int (zi (-1))])) :: carW Γ a3) 3 (n := 41) C zk6 fX7_28 dX7_init_38 rfl (by decide) rfl rfl rfl (Nat.le_of_ble_eq_true rfl) rfl rfl rfl ?_
  exact zN_ret (Pst := fun h w => ∃ (a : Int → Nat) (q5 q6 q7 : Nat), w = (q7, .inl (zY Γ 0, 3, .inl (fun _ => zi 0))) :: (q6, .inl (zY Γ 0, 3, .inl (fun _ => zi 0))) :: (q5, .inl (zY Γ 0, 3, .inl (fun _ => zi 0))) :: (h, .inr (6, [.ref (a 0), .ref q5, .ref q6, .ref q7, .int (zi (-1))])) :: carW Γ a) C hr hlk dX7_init_41 ⟨a3, _, _, _, rfl⟩
def zcb (Γ : zC) (a0 a1 a2 a3 a4 : Int → Nat) : zC := (zD Γ, zY Γ, (fun g => if g = 0 then a0 else if g = 1 then a1 else if g = 2 then a2 else if g = 3 then a3 else a4), zt Γ, zaK Γ, zaV Γ)
def clsW (Γ : zC) (a0 a1 a2 a3 a4 : Int → Nat) : va_W := (zseg 4 18).map (zent (zcb Γ a0 a1 a2 a3 a4) z0)
theorem perm_idx {α : Type} {l l' : List α} (is : List Nat) (n : Nat) (hn : l.length = n) (hp : is.isPerm (List.range n) = true) (h : is.map (fun i => l[i]?) = l'.map some) : l.Perm l' := by
  have h1 : (is.map (fun i => l[i]?)).Perm ((List.range n).map (fun i => l[i]?)) := (List.isPerm_iff.mp hp).map _
  have h2 : (List.range n).map (fun i => l[i]?) = l.map some := by
    subst hn
    refine List.ext_getElem? fun j => ?_
    rw [List.getElem?_map, List.getElem?_map]
    by_cases hj : j < l.length
    · rw [List.getElem?_range hj, List.getElem?_eq_getElem hj]
      simp [List.getElem?_eq_getElem hj]
    · rw [List.getElem?_eq_none (by simpa using hj), List.getElem?_eq_none (by simpa using hj)]
      rfl
  rw [h, h2] at h1
  have h3 := h1.filterMap id
  simp only [List.filterMap_map, Function.comp_def, id, List.filterMap_some] at h3
  exact h3.symm
set_option maxRecDepth 100000 in
set_option maxHeartbeats 4000000 in
theorem n_cls {Γ : zC} {l : Launch} {d : Nat} : zNew Γ l (d + 4) qX8_init (.inr (7, [.null, .null, .null, .null, .null, .null, .null, .int (zi 0)])) 65 613 (fun h w => ∃ a0 a1 a2 a3 a4 : Int → Nat, a4 0 = h ∧ w.Perm (clsW Γ a0 a1 a2 a3 a4 ++ (carW Γ a3 ++ ((carW Γ a0 ++ carW Γ a1) ++ carW Γ a2)))) := by
  refine zNew.of 1 RX8 rfl (by decide +kernel) (by decide) rfl ?_
  intro h0 p e s m below meth c C hin hr hlk hlt
  refine zN_aload_n (i := 0) (n := 1) C dX8_init_0 rfl rfl rfl ?_
  refine zN_objinit (n := 4) C olX8 oi_w dX8_init_1 (Nat.le_of_ble_eq_true rfl) ⟨by show 1 ≤ d + 4; omega, by show 20 ≤ 36 * (d + 4); omega⟩ rfl ?_
  refine zN_aload_n (i := 0) (n := 5) C dX8_init_4 rfl rfl rfl ?_
  refine zN_new (n := 8) C zk0 clX8_7 in0 dX8_init_5 df0 ⟨show 0 + 1 ≤ 65 from by decide, show 0 + 6 ≤ 613 from by decide⟩ rfl (fun q5_0 => ?_)
  refine zN_widen (k1 := 1) (k2 := 6) (by decide) (by decide) ?_
  refine zN_dup (n := 9) C dX8_init_8 rfl rfl ?_
  refine zN_init (n := 12) C jnX0 lX8_9 (n_car (d := d + 1)) dX8_init_9 (Nat.le_of_ble_eq_true rfl) (zfitN (by omega) (by decide)) ⟨show 1 + 11 ≤ 65 from by decide, show 6 + 66 ≤ 613 from by decide⟩ rfl (fun w9 hw9 => ?_)
  refine zN_widen (k1 := 12) (k2 := 72) (by decide) (by decide) ?_
  obtain ⟨a0, rfl, hpm9⟩ := hw9
  refine zN_perm (hpm9.append_right _) ?_
  refine zN_perm List.perm_append_comm ?_
  refine zN_eqw (ws' := (h0, .inr (7, [.null, .null, .null, .null, .null, .null, .null, .int (zi 0)])) :: carW Γ a0) rfl ?_
  refine zN_putF (f := 0) (fs' := [.ref (a0 0), .null, .null, .null, .null, .null, .null, .int (zi 0)]) (ws' := (h0, .inr (7, [.ref (a0 0), .null, .null, .null, .null, .null, .null, .int (zi 0)])) :: carW Γ a0) 0 (n := 15) C hin zk7 fX8_10 dX8_init_12 rfl (by decide) rfl rfl rfl rfl (Nat.le_of_ble_eq_true rfl) rfl rfl rfl ?_
  refine zN_aload_n (i := 0) (n := 16) C dX8_init_15 rfl rfl rfl ?_
  refine zN_new (n := 19) C zk0 clX8_7 in0 dX8_init_16 df0 ⟨show 12 + 1 ≤ 65 from by decide, show 72 + 6 ≤ 613 from by decide⟩ rfl (fun q16_1 => ?_)
  refine zN_widen (k1 := 13) (k2 := 78) (by decide) (by decide) ?_
  refine zN_dup (n := 20) C dX8_init_19 rfl rfl ?_
  refine zN_init (n := 23) C jnX0 lX8_9 (n_car (d := d + 1)) dX8_init_20 (Nat.le_of_ble_eq_true rfl) (zfitN (by omega) (by decide)) ⟨show 13 + 11 ≤ 65 from by decide, show 78 + 66 ≤ 613 from by decide⟩ rfl (fun w9 hw9 => ?_)
  refine zN_widen (k1 := 24) (k2 := 144) (by decide) (by decide) ?_
  obtain ⟨a1, rfl, hpm9⟩ := hw9
  refine zN_perm (hpm9.append_right _) ?_
  refine zN_perm List.perm_append_comm ?_
  refine zN_eqw (ws' := (h0, .inr (7, [.ref (a0 0), .null, .null, .null, .null, .null, .null, .int (zi 0)])) :: (carW Γ a0 ++ carW Γ a1)) rfl ?_
  refine zN_putF (f := 1) (fs' := [.ref (a0 0), .ref (a1 0), .null, .null, .null, .null, .null, .int (zi 0)]) (ws' := (h0, .inr (7, [.ref (a0 0), .ref (a1 0), .null, .null, .null, .null, .null, .int (zi 0)])) :: (carW Γ a0 ++ carW Γ a1)) 0 (n := 26) C hin zk7 fX8_16 dX8_init_23 rfl (by decide) rfl rfl rfl rfl (Nat.le_of_ble_eq_true rfl) rfl rfl rfl ?_
  refine zN_aload_n (i := 0) (n := 27) C dX8_init_26 rfl rfl rfl ?_
  refine zN_new (n := 30) C zk0 clX8_7 in0 dX8_init_27 df0 ⟨show 24 + 1 ≤ 65 from by decide, show 144 + 6 ≤ 613 from by decide⟩ rfl (fun q27_2 => ?_)
  refine zN_widen (k1 := 25) (k2 := 150) (by decide) (by decide) ?_
  refine zN_dup (n := 31) C dX8_init_30 rfl rfl ?_
  refine zN_init (n := 34) C jnX0 lX8_9 (n_car (d := d + 1)) dX8_init_31 (Nat.le_of_ble_eq_true rfl) (zfitN (by omega) (by decide)) ⟨show 25 + 11 ≤ 65 from by decide, show 150 + 66 ≤ 613 from by decide⟩ rfl (fun w9 hw9 => ?_)
  refine zN_widen (k1 := 36) (k2 := 216) (by decide) (by decide) ?_
  obtain ⟨a2, rfl, hpm9⟩ := hw9
  refine zN_perm (hpm9.append_right _) ?_
  refine zN_perm List.perm_append_comm ?_
  refine zN_eqw (ws' := (h0, .inr (7, [.ref (a0 0), .ref (a1 0), .null, .null, .null, .null, .null, .int (zi 0)])) :: ((carW Γ a0 ++ carW Γ a1) ++ carW Γ a2)) rfl ?_
  refine zN_putF (f := 2) (fs' := [.ref (a0 0), .ref (a1 0), .ref (a2 0), .null, .null, .null, .null, .int (zi 0)]) (ws' := (h0, .inr (7, [.ref (a0 0), .ref (a1 0), .ref (a2 0), .null, .null, .null, .null, .int (zi 0)])) :: ((carW Γ a0 ++ carW Γ a1) ++ carW Γ a2)) 0 (n := 37) C hin zk7 fX8_19 dX8_init_34 rfl (by decide) rfl rfl rfl rfl (Nat.le_of_ble_eq_true rfl) rfl rfl rfl ?_
  refine zN_aload_n (i := 0) (n := 38) C dX8_init_37 rfl rfl rfl ?_
  refine zN_new (n := 41) C zk1 clX8_22 in1 dX8_init_38 df1 ⟨show 36 + 1 ≤ 65 from by decide, show 216 + 2 ≤ 613 from by decide⟩ rfl (fun q38_3 => ?_)
  refine zN_widen (k1 := 37) (k2 := 218) (by decide) (by decide) ?_
  refine zN_dup (n := 42) C dX8_init_41 rfl rfl ?_
  refine zN_initN (n := 45) C jnX1 (by decide) (n_text (d := d + 1)) dX8_init_42 (Nat.le_of_ble_eq_true rfl) (zfitN (by omega) (by decide)) ⟨show 37 + 2 ≤ 65 from by decide, show 218 + 126 ≤ 613 from by decide⟩ rfl (fun w9 hw9 => ?_)
  refine zN_widen (k1 := 39) (k2 := 344) (by decide) (by decide) ?_
  obtain ⟨tq38_3, bq38_3, rfl⟩ := hw9
  refine zN_eqw (ws' := (bq38_3, .inl (zY Γ 0, 120, .inl (fun _ => zi 0))) :: (tq38_3, .inr (5, [.ref bq38_3, .int (zi 0), .int (zi 0), .int (zi 0), .int (zi 0), .int (zi 0)])) :: (q38_3, .inr (1, [.ref tq38_3, .int (zi (-1))])) :: (h0, .inr (7, [.ref (a0 0), .ref (a1 0), .ref (a2 0), .null, .null, .null, .null, .int (zi 0)])) :: ((carW Γ a0 ++ carW Γ a1) ++ carW Γ a2)) rfl ?_
  refine zN_putF (f := 3) (fs' := [.ref (a0 0), .ref (a1 0), .ref (a2 0), .ref q38_3, .null, .null, .null, .int (zi 0)]) (ws' := (bq38_3, .inl (zY Γ 0, 120, .inl (fun _ => zi 0))) :: (tq38_3, .inr (5, [.ref bq38_3, .int (zi 0), .int (zi 0), .int (zi 0), .int (zi 0), .int (zi 0)])) :: (q38_3, .inr (1, [.ref tq38_3, .int (zi (-1))])) :: (h0, .inr (7, [.ref (a0 0), .ref (a1 0), .ref (a2 0), .ref q38_3, .null, .null, .null, .int (zi 0)])) :: ((carW Γ a0 ++ carW Γ a1) ++ carW Γ a2)) 3 (n := 48) C hin zk7 fX8_25 dX8_init_45 rfl (by decide) rfl rfl rfl rfl (Nat.le_of_ble_eq_true rfl) rfl rfl rfl ?_
  refine zN_aload_n (i := 0) (n := 49) C dX8_init_48 rfl rfl rfl ?_
  refine zN_new (n := 52) C zk6 clX8_29 in6 dX8_init_49 df6 ⟨show 39 + 1 ≤ 65 from by decide, show 344 + 5 ≤ 613 from by decide⟩ rfl (fun q49_4 => ?_)
  refine zN_widen (k1 := 40) (k2 := 349) (by decide) (by decide) ?_
  refine zN_dup (n := 53) C dX8_init_52 rfl rfl ?_
  refine zN_initN (n := 56) C jnX7 (by decide) (n_ways (d := d)) dX8_init_53 (Nat.le_of_ble_eq_true rfl) (zfitN (by omega) (by decide)) ⟨show 40 + 15 ≤ 65 from by decide, show 349 + 81 ≤ 613 from by decide⟩ rfl (fun w9 hw9 => ?_)
  refine zN_widen (k1 := 55) (k2 := 430) (by decide) (by decide) ?_
  obtain ⟨a3, q5, q6, q7, rfl⟩ := hw9
  refine zN_perm (ws' := [(q7, .inl (zY Γ 0, 3, .inl (fun _ => zi 0))), (q6, .inl (zY Γ 0, 3, .inl (fun _ => zi 0))), (q5, .inl (zY Γ 0, 3, .inl (fun _ => zi 0))), (q49_4, .inr (6, [.ref (a3 0), .ref q5, .ref q6, .ref q7, .int (zi (-1))]))] ++ ([(bq38_3, .inl (zY Γ 0, 120, .inl (fun _ => zi 0))), (tq38_3, .inr (5, [.ref bq38_3, .int (zi 0), .int (zi 0), .int (zi 0), .int (zi 0), .int (zi 0)])), (q38_3, .inr (1, [.ref tq38_3, .int (zi (-1))])), (h0, .inr (7, [.ref (a0 0), .ref (a1 0), .ref (a2 0), .ref q38_3, .null, .null, .null, .int (zi 0)]))] ++ (carW Γ a3 ++ ((carW Γ a0 ++ carW Γ a1) ++ carW Γ a2)))) (List.Perm.append_left [(q7, .inl (zY Γ 0, 3, .inl (fun _ => zi 0))), (q6, .inl (zY Γ 0, 3, .inl (fun _ => zi 0))), (q5, .inl (zY Γ 0, 3, .inl (fun _ => zi 0))), (q49_4, .inr (6, [.ref (a3 0), .ref q5, .ref q6, .ref q7, .int (zi (-1))]))] (List.perm_append_comm_assoc (carW Γ a3) [(bq38_3, .inl (zY Γ 0, 120, .inl (fun _ => zi 0))), (tq38_3, .inr (5, [.ref bq38_3, .int (zi 0), .int (zi 0), .int (zi 0), .int (zi 0), .int (zi 0)])), (q38_3, .inr (1, [.ref tq38_3, .int (zi (-1))])), (h0, .inr (7, [.ref (a0 0), .ref (a1 0), .ref (a2 0), .ref q38_3, .null, .null, .null, .int (zi 0)]))] ((carW Γ a0 ++ carW Γ a1) ++ carW Γ a2))) ?_
  refine zN_eqw (ws' := (q7, .inl (zY Γ 0, 3, .inl (fun _ => zi 0))) :: (q6, .inl (zY Γ 0, 3, .inl (fun _ => zi 0))) :: (q5, .inl (zY Γ 0, 3, .inl (fun _ => zi 0))) :: (q49_4, .inr (6, [.ref (a3 0), .ref q5, .ref q6, .ref q7, .int (zi (-1))])) :: (bq38_3, .inl (zY Γ 0, 120, .inl (fun _ => zi 0))) :: (tq38_3, .inr (5, [.ref bq38_3, .int (zi 0), .int (zi 0), .int (zi 0), .int (zi 0), .int (zi 0)])) :: (q38_3, .inr (1, [.ref tq38_3, .int (zi (-1))])) :: (h0, .inr (7, [.ref (a0 0), .ref (a1 0), .ref (a2 0), .ref q38_3, .null, .null, .null, .int (zi 0)])) :: (carW Γ a3 ++ ((carW Γ a0 ++ carW Γ a1) ++ carW Γ a2))) rfl ?_
  refine zN_putF (f := 4) (fs' := [.ref (a0 0), .ref (a1 0), .ref (a2 0), .ref q38_3, .ref q49_4, .null, .null, .int (zi 0)]) (ws' := (q7, .inl (zY Γ 0, 3, .inl (fun _ => zi 0))) :: (q6, .inl (zY Γ 0, 3, .inl (fun _ => zi 0))) :: (q5, .inl (zY Γ 0, 3, .inl (fun _ => zi 0))) :: (q49_4, .inr (6, [.ref (a3 0), .ref q5, .ref q6, .ref q7, .int (zi (-1))])) :: (bq38_3, .inl (zY Γ 0, 120, .inl (fun _ => zi 0))) :: (tq38_3, .inr (5, [.ref bq38_3, .int (zi 0), .int (zi 0), .int (zi 0), .int (zi 0), .int (zi 0)])) :: (q38_3, .inr (1, [.ref tq38_3, .int (zi (-1))])) :: (h0, .inr (7, [.ref (a0 0), .ref (a1 0), .ref (a2 0), .ref q38_3, .ref q49_4, .null, .null, .int (zi 0)])) :: (carW Γ a3 ++ ((carW Γ a0 ++ carW Γ a1) ++ carW Γ a2))) 7 (n := 59) C hin zk7 fX8_32 dX8_init_56 rfl (by decide) rfl rfl rfl rfl (Nat.le_of_ble_eq_true rfl) rfl rfl rfl ?_
  refine zN_aload_n (i := 0) (n := 60) C dX8_init_59 rfl rfl rfl ?_
  refine zN_iconst (n := 61) C dX8_init_60 rfl ?_
  refine zN_newQ (N := 4) (t := 2) (n := 64) C clX8_36 rfl (List.mem_cons_of_mem _ (List.mem_cons_of_mem _ List.mem_cons_self)) dX8_init_61 (by decide) (by decide) ⟨show 55 + 1 ≤ 65 from by decide, show 430 + 4 ≤ 613 from by decide⟩ rfl (fun q61_5 => ?_)
  refine zN_widen (k1 := 56) (k2 := 434) (by decide) (by decide) ?_
  refine zN_putF (f := 5) (fs' := [.ref (a0 0), .ref (a1 0), .ref (a2 0), .ref q38_3, .ref q49_4, .ref q61_5, .null, .int (zi 0)]) (ws' := (q61_5, .inl (zY Γ (2 + 2), 4, .inr (.inr (.inr (.inr (fun _ => none)))))) :: (q7, .inl (zY Γ 0, 3, .inl (fun _ => zi 0))) :: (q6, .inl (zY Γ 0, 3, .inl (fun _ => zi 0))) :: (q5, .inl (zY Γ 0, 3, .inl (fun _ => zi 0))) :: (q49_4, .inr (6, [.ref (a3 0), .ref q5, .ref q6, .ref q7, .int (zi (-1))])) :: (bq38_3, .inl (zY Γ 0, 120, .inl (fun _ => zi 0))) :: (tq38_3, .inr (5, [.ref bq38_3, .int (zi 0), .int (zi 0), .int (zi 0), .int (zi 0), .int (zi 0)])) :: (q38_3, .inr (1, [.ref tq38_3, .int (zi (-1))])) :: (h0, .inr (7, [.ref (a0 0), .ref (a1 0), .ref (a2 0), .ref q38_3, .ref q49_4, .ref q61_5, .null, .int (zi 0)])) :: (carW Γ a3 ++ ((carW Γ a0 ++ carW Γ a1) ++ carW Γ a2))) 8 (n := 67) C hin zk7 fX8_38 dX8_init_64 rfl (by decide) rfl rfl rfl rfl (Nat.le_of_ble_eq_true rfl) rfl rfl rfl ?_
  refine zN_aload_n (i := 0) (n := 68) C dX8_init_67 rfl rfl rfl ?_
  refine zN_bipush (n := 70) C dX8_init_68 (by decide) rfl ?_
  refine zN_newI (N := 7) (n := 72) C ar_int dX8_init_70 (by decide) (by decide) ⟨show 56 + 1 ≤ 65 from by decide, show 434 + 7 ≤ 613 from by decide⟩ rfl (fun q70_6 => ?_)
  refine zN_widen (k1 := 57) (k2 := 441) (by decide) (by decide) ?_
  refine zN_putF (f := 6) (fs' := [.ref (a0 0), .ref (a1 0), .ref (a2 0), .ref q38_3, .ref q49_4, .ref q61_5, .ref q70_6, .int (zi 0)]) (ws' := (q70_6, .inl (zY Γ 0, 7, .inl (fun _ => zi 0))) :: (q61_5, .inl (zY Γ (2 + 2), 4, .inr (.inr (.inr (.inr (fun _ => none)))))) :: (q7, .inl (zY Γ 0, 3, .inl (fun _ => zi 0))) :: (q6, .inl (zY Γ 0, 3, .inl (fun _ => zi 0))) :: (q5, .inl (zY Γ 0, 3, .inl (fun _ => zi 0))) :: (q49_4, .inr (6, [.ref (a3 0), .ref q5, .ref q6, .ref q7, .int (zi (-1))])) :: (bq38_3, .inl (zY Γ 0, 120, .inl (fun _ => zi 0))) :: (tq38_3, .inr (5, [.ref bq38_3, .int (zi 0), .int (zi 0), .int (zi 0), .int (zi 0), .int (zi 0)])) :: (q38_3, .inr (1, [.ref tq38_3, .int (zi (-1))])) :: (h0, .inr (7, [.ref (a0 0), .ref (a1 0), .ref (a2 0), .ref q38_3, .ref q49_4, .ref q61_5, .ref q70_6, .int (zi 0)])) :: (carW Γ a3 ++ ((carW Γ a0 ++ carW Γ a1) ++ carW Γ a2))) 9 (n := 75) C hin zk7 fX8_42 dX8_init_72 rfl (by decide) rfl rfl rfl rfl (Nat.le_of_ble_eq_true rfl) rfl rfl rfl ?_
  refine zN_aload_n (i := 0) (n := 76) C dX8_init_75 rfl rfl rfl ?_
  refine zN_iconst (n := 77) C dX8_init_76 rfl ?_
  refine zN_putN (f := 7) (fs' := [.ref (a0 0), .ref (a1 0), .ref (a2 0), .ref q38_3, .ref q49_4, .ref q61_5, .ref q70_6, .int (zi 0)]) (ws' := (q70_6, .inl (zY Γ 0, 7, .inl (fun _ => zi 0))) :: (q61_5, .inl (zY Γ (2 + 2), 4, .inr (.inr (.inr (.inr (fun _ => none)))))) :: (q7, .inl (zY Γ 0, 3, .inl (fun _ => zi 0))) :: (q6, .inl (zY Γ 0, 3, .inl (fun _ => zi 0))) :: (q5, .inl (zY Γ 0, 3, .inl (fun _ => zi 0))) :: (q49_4, .inr (6, [.ref (a3 0), .ref q5, .ref q6, .ref q7, .int (zi (-1))])) :: (bq38_3, .inl (zY Γ 0, 120, .inl (fun _ => zi 0))) :: (tq38_3, .inr (5, [.ref bq38_3, .int (zi 0), .int (zi 0), .int (zi 0), .int (zi 0), .int (zi 0)])) :: (q38_3, .inr (1, [.ref tq38_3, .int (zi (-1))])) :: (h0, .inr (7, [.ref (a0 0), .ref (a1 0), .ref (a2 0), .ref q38_3, .ref q49_4, .ref q61_5, .ref q70_6, .int (zi 0)])) :: (carW Γ a3 ++ ((carW Γ a0 ++ carW Γ a1) ++ carW Γ a2))) 9 (n := 80) C zk7 fX8_46 dX8_init_77 rfl (by decide) rfl rfl rfl (Nat.le_of_ble_eq_true rfl) rfl rfl rfl ?_
  refine zN_iconst (n := 81) C dX8_init_80 rfl ?_
  refine zN_istore_n (i := 1) (n := 82) C dX8_init_81 rfl (by decide) (fun w h _ => by cases h; rfl) rfl rfl ?_
  refine zN_iload_n (i := 1) (n := 83) C dX8_init_82 rfl rfl rfl ?_
  refine zN_iconst (n := 84) C dX8_init_83 rfl ?_
  refine zN_geF (n := 87) C 106 dX8_init_84 (by decide) (by decide) (by decide) (by decide) rfl ?_
  refine zN_aload_n (i := 0) (n := 88) C dX8_init_87 rfl rfl rfl ?_
  refine zN_get (f := 5) 9 (n := 91) C zk7 fX8_38 dX8_init_88 rfl (by decide) rfl rfl ?_
  refine zN_iload_n (i := 1) (n := 92) C dX8_init_91 rfl rfl rfl ?_
  refine zN_new (n := 95) C zk4 clX8_36 in4 dX8_init_92 df4 ⟨show 57 + 1 ≤ 65 from by decide, show 441 + 3 ≤ 613 from by decide⟩ rfl (fun q92_7 => ?_)
  refine zN_widen (k1 := 58) (k2 := 444) (by decide) (by decide) ?_
  refine zN_dup (n := 96) C dX8_init_95 rfl rfl ?_
  refine zN_initN (n := 99) C jnX5 (by decide) (n_sheet (d := d + 2)) dX8_init_96 (Nat.le_of_ble_eq_true rfl) (zfitN (by omega) (by decide)) ⟨show 58 + 1 ≤ 65 from by decide, show 444 + 40 ≤ 613 from by decide⟩ rfl (fun w9 hw9 => ?_)
  refine zN_widen (k1 := 59) (k2 := 484) (by decide) (by decide) ?_
  obtain ⟨bq92_7, rfl⟩ := hw9
  refine zN_eqw (ws' := (bq92_7, .inl (zY Γ 1, 40, .inr (.inl (fun _ => zl 0)))) :: (q92_7, .inr (4, [.ref bq92_7, .int (zi 0), .int (zi 0)])) :: (q70_6, .inl (zY Γ 0, 7, .inl (fun _ => zi 0))) :: (q61_5, .inl (zY Γ (2 + 2), 4, .inr (.inr (.inr (.inr (fun _ => none)))))) :: (q7, .inl (zY Γ 0, 3, .inl (fun _ => zi 0))) :: (q6, .inl (zY Γ 0, 3, .inl (fun _ => zi 0))) :: (q5, .inl (zY Γ 0, 3, .inl (fun _ => zi 0))) :: (q49_4, .inr (6, [.ref (a3 0), .ref q5, .ref q6, .ref q7, .int (zi (-1))])) :: (bq38_3, .inl (zY Γ 0, 120, .inl (fun _ => zi 0))) :: (tq38_3, .inr (5, [.ref bq38_3, .int (zi 0), .int (zi 0), .int (zi 0), .int (zi 0), .int (zi 0)])) :: (q38_3, .inr (1, [.ref tq38_3, .int (zi (-1))])) :: (h0, .inr (7, [.ref (a0 0), .ref (a1 0), .ref (a2 0), .ref q38_3, .ref q49_4, .ref q61_5, .ref q70_6, .int (zi 0)])) :: (carW Γ a3 ++ ((carW Γ a0 ++ carW Γ a1) ++ carW Γ a2))) rfl ?_
  refine zN_aast (t := 2) (z := 0) (ws' := (bq92_7, .inl (zY Γ 1, 40, .inr (.inl (fun _ => zl 0)))) :: (q92_7, .inr (4, [.ref bq92_7, .int (zi 0), .int (zi 0)])) :: (q70_6, .inl (zY Γ 0, 7, .inl (fun _ => zi 0))) :: (q61_5, .inl (zY Γ (2 + 2), 4, .inr (.inr (.inr (.inr (va_up (fun _ => none) 0 (some q92_7))))))) :: (q7, .inl (zY Γ 0, 3, .inl (fun _ => zi 0))) :: (q6, .inl (zY Γ 0, 3, .inl (fun _ => zi 0))) :: (q5, .inl (zY Γ 0, 3, .inl (fun _ => zi 0))) :: (q49_4, .inr (6, [.ref (a3 0), .ref q5, .ref q6, .ref q7, .int (zi (-1))])) :: (bq38_3, .inl (zY Γ 0, 120, .inl (fun _ => zi 0))) :: (tq38_3, .inr (5, [.ref bq38_3, .int (zi 0), .int (zi 0), .int (zi 0), .int (zi 0), .int (zi 0)])) :: (q38_3, .inr (1, [.ref tq38_3, .int (zi (-1))])) :: (h0, .inr (7, [.ref (a0 0), .ref (a1 0), .ref (a2 0), .ref q38_3, .ref q49_4, .ref q61_5, .ref q70_6, .int (zi 0)])) :: (carW Γ a3 ++ ((carW Γ a0 ++ carW Γ a1) ++ carW Γ a2))) 3 1 (n := 100) C dX8_init_99 rfl rfl rfl rfl (by decide) (by decide) rfl rfl ?_
  refine zN_iinc (n := 103) C dX8_init_100 rfl (by decide) (fun w h _ => by cases h; rfl) rfl rfl ?_
  refine zN_goto C 82 dX8_init_103 (by decide) ?_
  refine zN_iload_n (i := 1) (n := 83) C dX8_init_82 rfl rfl rfl ?_
  refine zN_iconst (n := 84) C dX8_init_83 rfl ?_
  refine zN_geF (n := 87) C 106 dX8_init_84 (by decide) (by decide) (by decide) (by decide) rfl ?_
  refine zN_aload_n (i := 0) (n := 88) C dX8_init_87 rfl rfl rfl ?_
  refine zN_get (f := 5) 11 (n := 91) C zk7 fX8_38 dX8_init_88 rfl (by decide) rfl rfl ?_
  refine zN_iload_n (i := 1) (n := 92) C dX8_init_91 rfl rfl rfl ?_
  refine zN_new (n := 95) C zk4 clX8_36 in4 dX8_init_92 df4 ⟨show 59 + 1 ≤ 65 from by decide, show 484 + 3 ≤ 613 from by decide⟩ rfl (fun q92_8 => ?_)
  refine zN_widen (k1 := 60) (k2 := 487) (by decide) (by decide) ?_
  refine zN_dup (n := 96) C dX8_init_95 rfl rfl ?_
  refine zN_initN (n := 99) C jnX5 (by decide) (n_sheet (d := d + 2)) dX8_init_96 (Nat.le_of_ble_eq_true rfl) (zfitN (by omega) (by decide)) ⟨show 60 + 1 ≤ 65 from by decide, show 487 + 40 ≤ 613 from by decide⟩ rfl (fun w9 hw9 => ?_)
  refine zN_widen (k1 := 61) (k2 := 527) (by decide) (by decide) ?_
  obtain ⟨bq92_8, rfl⟩ := hw9
  refine zN_eqw (ws' := (bq92_8, .inl (zY Γ 1, 40, .inr (.inl (fun _ => zl 0)))) :: (q92_8, .inr (4, [.ref bq92_8, .int (zi 0), .int (zi 0)])) :: (bq92_7, .inl (zY Γ 1, 40, .inr (.inl (fun _ => zl 0)))) :: (q92_7, .inr (4, [.ref bq92_7, .int (zi 0), .int (zi 0)])) :: (q70_6, .inl (zY Γ 0, 7, .inl (fun _ => zi 0))) :: (q61_5, .inl (zY Γ (2 + 2), 4, .inr (.inr (.inr (.inr (va_up (fun _ => none) 0 (some q92_7))))))) :: (q7, .inl (zY Γ 0, 3, .inl (fun _ => zi 0))) :: (q6, .inl (zY Γ 0, 3, .inl (fun _ => zi 0))) :: (q5, .inl (zY Γ 0, 3, .inl (fun _ => zi 0))) :: (q49_4, .inr (6, [.ref (a3 0), .ref q5, .ref q6, .ref q7, .int (zi (-1))])) :: (bq38_3, .inl (zY Γ 0, 120, .inl (fun _ => zi 0))) :: (tq38_3, .inr (5, [.ref bq38_3, .int (zi 0), .int (zi 0), .int (zi 0), .int (zi 0), .int (zi 0)])) :: (q38_3, .inr (1, [.ref tq38_3, .int (zi (-1))])) :: (h0, .inr (7, [.ref (a0 0), .ref (a1 0), .ref (a2 0), .ref q38_3, .ref q49_4, .ref q61_5, .ref q70_6, .int (zi 0)])) :: (carW Γ a3 ++ ((carW Γ a0 ++ carW Γ a1) ++ carW Γ a2))) rfl ?_
  refine zN_aast (t := 2) (z := 1) (ws' := (bq92_8, .inl (zY Γ 1, 40, .inr (.inl (fun _ => zl 0)))) :: (q92_8, .inr (4, [.ref bq92_8, .int (zi 0), .int (zi 0)])) :: (bq92_7, .inl (zY Γ 1, 40, .inr (.inl (fun _ => zl 0)))) :: (q92_7, .inr (4, [.ref bq92_7, .int (zi 0), .int (zi 0)])) :: (q70_6, .inl (zY Γ 0, 7, .inl (fun _ => zi 0))) :: (q61_5, .inl (zY Γ (2 + 2), 4, .inr (.inr (.inr (.inr (va_up (va_up (fun _ => none) 0 (some q92_7)) 1 (some q92_8))))))) :: (q7, .inl (zY Γ 0, 3, .inl (fun _ => zi 0))) :: (q6, .inl (zY Γ 0, 3, .inl (fun _ => zi 0))) :: (q5, .inl (zY Γ 0, 3, .inl (fun _ => zi 0))) :: (q49_4, .inr (6, [.ref (a3 0), .ref q5, .ref q6, .ref q7, .int (zi (-1))])) :: (bq38_3, .inl (zY Γ 0, 120, .inl (fun _ => zi 0))) :: (tq38_3, .inr (5, [.ref bq38_3, .int (zi 0), .int (zi 0), .int (zi 0), .int (zi 0), .int (zi 0)])) :: (q38_3, .inr (1, [.ref tq38_3, .int (zi (-1))])) :: (h0, .inr (7, [.ref (a0 0), .ref (a1 0), .ref (a2 0), .ref q38_3, .ref q49_4, .ref q61_5, .ref q70_6, .int (zi 0)])) :: (carW Γ a3 ++ ((carW Γ a0 ++ carW Γ a1) ++ carW Γ a2))) 5 1 (n := 100) C dX8_init_99 rfl rfl rfl rfl (by decide) (by decide) rfl rfl ?_
  refine zN_iinc (n := 103) C dX8_init_100 rfl (by decide) (fun w h _ => by cases h; rfl) rfl rfl ?_
  refine zN_goto C 82 dX8_init_103 (by decide) ?_
  refine zN_iload_n (i := 1) (n := 83) C dX8_init_82 rfl rfl rfl ?_
  refine zN_iconst (n := 84) C dX8_init_83 rfl ?_
  refine zN_geF (n := 87) C 106 dX8_init_84 (by decide) (by decide) (by decide) (by decide) rfl ?_
  refine zN_aload_n (i := 0) (n := 88) C dX8_init_87 rfl rfl rfl ?_
  refine zN_get (f := 5) 13 (n := 91) C zk7 fX8_38 dX8_init_88 rfl (by decide) rfl rfl ?_
  refine zN_iload_n (i := 1) (n := 92) C dX8_init_91 rfl rfl rfl ?_
  refine zN_new (n := 95) C zk4 clX8_36 in4 dX8_init_92 df4 ⟨show 61 + 1 ≤ 65 from by decide, show 527 + 3 ≤ 613 from by decide⟩ rfl (fun q92_9 => ?_)
  refine zN_widen (k1 := 62) (k2 := 530) (by decide) (by decide) ?_
  refine zN_dup (n := 96) C dX8_init_95 rfl rfl ?_
  refine zN_initN (n := 99) C jnX5 (by decide) (n_sheet (d := d + 2)) dX8_init_96 (Nat.le_of_ble_eq_true rfl) (zfitN (by omega) (by decide)) ⟨show 62 + 1 ≤ 65 from by decide, show 530 + 40 ≤ 613 from by decide⟩ rfl (fun w9 hw9 => ?_)
  refine zN_widen (k1 := 63) (k2 := 570) (by decide) (by decide) ?_
  obtain ⟨bq92_9, rfl⟩ := hw9
  refine zN_eqw (ws' := (bq92_9, .inl (zY Γ 1, 40, .inr (.inl (fun _ => zl 0)))) :: (q92_9, .inr (4, [.ref bq92_9, .int (zi 0), .int (zi 0)])) :: (bq92_8, .inl (zY Γ 1, 40, .inr (.inl (fun _ => zl 0)))) :: (q92_8, .inr (4, [.ref bq92_8, .int (zi 0), .int (zi 0)])) :: (bq92_7, .inl (zY Γ 1, 40, .inr (.inl (fun _ => zl 0)))) :: (q92_7, .inr (4, [.ref bq92_7, .int (zi 0), .int (zi 0)])) :: (q70_6, .inl (zY Γ 0, 7, .inl (fun _ => zi 0))) :: (q61_5, .inl (zY Γ (2 + 2), 4, .inr (.inr (.inr (.inr (va_up (va_up (fun _ => none) 0 (some q92_7)) 1 (some q92_8))))))) :: (q7, .inl (zY Γ 0, 3, .inl (fun _ => zi 0))) :: (q6, .inl (zY Γ 0, 3, .inl (fun _ => zi 0))) :: (q5, .inl (zY Γ 0, 3, .inl (fun _ => zi 0))) :: (q49_4, .inr (6, [.ref (a3 0), .ref q5, .ref q6, .ref q7, .int (zi (-1))])) :: (bq38_3, .inl (zY Γ 0, 120, .inl (fun _ => zi 0))) :: (tq38_3, .inr (5, [.ref bq38_3, .int (zi 0), .int (zi 0), .int (zi 0), .int (zi 0), .int (zi 0)])) :: (q38_3, .inr (1, [.ref tq38_3, .int (zi (-1))])) :: (h0, .inr (7, [.ref (a0 0), .ref (a1 0), .ref (a2 0), .ref q38_3, .ref q49_4, .ref q61_5, .ref q70_6, .int (zi 0)])) :: (carW Γ a3 ++ ((carW Γ a0 ++ carW Γ a1) ++ carW Γ a2))) rfl ?_
  refine zN_aast (t := 2) (z := 2) (ws' := (bq92_9, .inl (zY Γ 1, 40, .inr (.inl (fun _ => zl 0)))) :: (q92_9, .inr (4, [.ref bq92_9, .int (zi 0), .int (zi 0)])) :: (bq92_8, .inl (zY Γ 1, 40, .inr (.inl (fun _ => zl 0)))) :: (q92_8, .inr (4, [.ref bq92_8, .int (zi 0), .int (zi 0)])) :: (bq92_7, .inl (zY Γ 1, 40, .inr (.inl (fun _ => zl 0)))) :: (q92_7, .inr (4, [.ref bq92_7, .int (zi 0), .int (zi 0)])) :: (q70_6, .inl (zY Γ 0, 7, .inl (fun _ => zi 0))) :: (q61_5, .inl (zY Γ (2 + 2), 4, .inr (.inr (.inr (.inr (va_up (va_up (va_up (fun _ => none) 0 (some q92_7)) 1 (some q92_8)) 2 (some q92_9))))))) :: (q7, .inl (zY Γ 0, 3, .inl (fun _ => zi 0))) :: (q6, .inl (zY Γ 0, 3, .inl (fun _ => zi 0))) :: (q5, .inl (zY Γ 0, 3, .inl (fun _ => zi 0))) :: (q49_4, .inr (6, [.ref (a3 0), .ref q5, .ref q6, .ref q7, .int (zi (-1))])) :: (bq38_3, .inl (zY Γ 0, 120, .inl (fun _ => zi 0))) :: (tq38_3, .inr (5, [.ref bq38_3, .int (zi 0), .int (zi 0), .int (zi 0), .int (zi 0), .int (zi 0)])) :: (q38_3, .inr (1, [.ref tq38_3, .int (zi (-1))])) :: (h0, .inr (7, [.ref (a0 0), .ref (a1 0), .ref (a2 0), .ref q38_3, .ref q49_4, .ref q61_5, .ref q70_6, .int (zi 0)])) :: (carW Γ a3 ++ ((carW Γ a0 ++ carW Γ a1) ++ carW Γ a2))) 7 1 (n := 100) C dX8_init_99 rfl rfl rfl rfl (by decide) (by decide) rfl rfl ?_
  refine zN_iinc (n := 103) C dX8_init_100 rfl (by decide) (fun w h _ => by cases h; rfl) rfl rfl ?_
  refine zN_goto C 82 dX8_init_103 (by decide) ?_
  refine zN_iload_n (i := 1) (n := 83) C dX8_init_82 rfl rfl rfl ?_
  refine zN_iconst (n := 84) C dX8_init_83 rfl ?_
  refine zN_geF (n := 87) C 106 dX8_init_84 (by decide) (by decide) (by decide) (by decide) rfl ?_
  refine zN_aload_n (i := 0) (n := 88) C dX8_init_87 rfl rfl rfl ?_
  refine zN_get (f := 5) 15 (n := 91) C zk7 fX8_38 dX8_init_88 rfl (by decide) rfl rfl ?_
  refine zN_iload_n (i := 1) (n := 92) C dX8_init_91 rfl rfl rfl ?_
  refine zN_new (n := 95) C zk4 clX8_36 in4 dX8_init_92 df4 ⟨show 63 + 1 ≤ 65 from by decide, show 570 + 3 ≤ 613 from by decide⟩ rfl (fun q92_10 => ?_)
  refine zN_widen (k1 := 64) (k2 := 573) (by decide) (by decide) ?_
  refine zN_dup (n := 96) C dX8_init_95 rfl rfl ?_
  refine zN_initN (n := 99) C jnX5 (by decide) (n_sheet (d := d + 2)) dX8_init_96 (Nat.le_of_ble_eq_true rfl) (zfitN (by omega) (by decide)) ⟨show 64 + 1 ≤ 65 from by decide, show 573 + 40 ≤ 613 from by decide⟩ rfl (fun w9 hw9 => ?_)
  refine zN_widen (k1 := 65) (k2 := 613) (by decide) (by decide) ?_
  obtain ⟨bq92_10, rfl⟩ := hw9
  refine zN_eqw (ws' := (bq92_10, .inl (zY Γ 1, 40, .inr (.inl (fun _ => zl 0)))) :: (q92_10, .inr (4, [.ref bq92_10, .int (zi 0), .int (zi 0)])) :: (bq92_9, .inl (zY Γ 1, 40, .inr (.inl (fun _ => zl 0)))) :: (q92_9, .inr (4, [.ref bq92_9, .int (zi 0), .int (zi 0)])) :: (bq92_8, .inl (zY Γ 1, 40, .inr (.inl (fun _ => zl 0)))) :: (q92_8, .inr (4, [.ref bq92_8, .int (zi 0), .int (zi 0)])) :: (bq92_7, .inl (zY Γ 1, 40, .inr (.inl (fun _ => zl 0)))) :: (q92_7, .inr (4, [.ref bq92_7, .int (zi 0), .int (zi 0)])) :: (q70_6, .inl (zY Γ 0, 7, .inl (fun _ => zi 0))) :: (q61_5, .inl (zY Γ (2 + 2), 4, .inr (.inr (.inr (.inr (va_up (va_up (va_up (fun _ => none) 0 (some q92_7)) 1 (some q92_8)) 2 (some q92_9))))))) :: (q7, .inl (zY Γ 0, 3, .inl (fun _ => zi 0))) :: (q6, .inl (zY Γ 0, 3, .inl (fun _ => zi 0))) :: (q5, .inl (zY Γ 0, 3, .inl (fun _ => zi 0))) :: (q49_4, .inr (6, [.ref (a3 0), .ref q5, .ref q6, .ref q7, .int (zi (-1))])) :: (bq38_3, .inl (zY Γ 0, 120, .inl (fun _ => zi 0))) :: (tq38_3, .inr (5, [.ref bq38_3, .int (zi 0), .int (zi 0), .int (zi 0), .int (zi 0), .int (zi 0)])) :: (q38_3, .inr (1, [.ref tq38_3, .int (zi (-1))])) :: (h0, .inr (7, [.ref (a0 0), .ref (a1 0), .ref (a2 0), .ref q38_3, .ref q49_4, .ref q61_5, .ref q70_6, .int (zi 0)])) :: (carW Γ a3 ++ ((carW Γ a0 ++ carW Γ a1) ++ carW Γ a2))) rfl ?_
  refine zN_aast (t := 2) (z := 3) (ws' := (bq92_10, .inl (zY Γ 1, 40, .inr (.inl (fun _ => zl 0)))) :: (q92_10, .inr (4, [.ref bq92_10, .int (zi 0), .int (zi 0)])) :: (bq92_9, .inl (zY Γ 1, 40, .inr (.inl (fun _ => zl 0)))) :: (q92_9, .inr (4, [.ref bq92_9, .int (zi 0), .int (zi 0)])) :: (bq92_8, .inl (zY Γ 1, 40, .inr (.inl (fun _ => zl 0)))) :: (q92_8, .inr (4, [.ref bq92_8, .int (zi 0), .int (zi 0)])) :: (bq92_7, .inl (zY Γ 1, 40, .inr (.inl (fun _ => zl 0)))) :: (q92_7, .inr (4, [.ref bq92_7, .int (zi 0), .int (zi 0)])) :: (q70_6, .inl (zY Γ 0, 7, .inl (fun _ => zi 0))) :: (q61_5, .inl (zY Γ (2 + 2), 4, .inr (.inr (.inr (.inr (va_up (va_up (va_up (va_up (fun _ => none) 0 (some q92_7)) 1 (some q92_8)) 2 (some q92_9)) 3 (some q92_10))))))) :: (q7, .inl (zY Γ 0, 3, .inl (fun _ => zi 0))) :: (q6, .inl (zY Γ 0, 3, .inl (fun _ => zi 0))) :: (q5, .inl (zY Γ 0, 3, .inl (fun _ => zi 0))) :: (q49_4, .inr (6, [.ref (a3 0), .ref q5, .ref q6, .ref q7, .int (zi (-1))])) :: (bq38_3, .inl (zY Γ 0, 120, .inl (fun _ => zi 0))) :: (tq38_3, .inr (5, [.ref bq38_3, .int (zi 0), .int (zi 0), .int (zi 0), .int (zi 0), .int (zi 0)])) :: (q38_3, .inr (1, [.ref tq38_3, .int (zi (-1))])) :: (h0, .inr (7, [.ref (a0 0), .ref (a1 0), .ref (a2 0), .ref q38_3, .ref q49_4, .ref q61_5, .ref q70_6, .int (zi 0)])) :: (carW Γ a3 ++ ((carW Γ a0 ++ carW Γ a1) ++ carW Γ a2))) 9 1 (n := 100) C dX8_init_99 rfl rfl rfl rfl (by decide) (by decide) rfl rfl ?_
  refine zN_iinc (n := 103) C dX8_init_100 rfl (by decide) (fun w h _ => by cases h; rfl) rfl rfl ?_
  refine zN_goto C 82 dX8_init_103 (by decide) ?_
  refine zN_iload_n (i := 1) (n := 83) C dX8_init_82 rfl rfl rfl ?_
  refine zN_iconst (n := 84) C dX8_init_83 rfl ?_
  refine zN_geT C 106 dX8_init_84 (by decide) (by decide) (by decide) (by decide) ?_
  refine zN_as (ws' := (bq92_10, .inl (zY Γ 1, 40, .inr (.inl (fun _ => zl 0)))) :: (q92_10, .inr (4, [.ref bq92_10, .int (zi 0), .int (zi 0)])) :: (bq92_9, .inl (zY Γ 1, 40, .inr (.inl (fun _ => zl 0)))) :: (q92_9, .inr (4, [.ref bq92_9, .int (zi 0), .int (zi 0)])) :: (bq92_8, .inl (zY Γ 1, 40, .inr (.inl (fun _ => zl 0)))) :: (q92_8, .inr (4, [.ref bq92_8, .int (zi 0), .int (zi 0)])) :: (bq92_7, .inl (zY Γ 1, 40, .inr (.inl (fun _ => zl 0)))) :: (q92_7, .inr (4, [.ref bq92_7, .int (zi 0), .int (zi 0)])) :: (q70_6, .inl (zY Γ 0, 7, .inl (fun _ => zi 0))) :: (q61_5, .inl (zY Γ (2 + 2), 4, .inr (.inr (.inr (.inr (fun j : Nat => some ((fun k : Int => ([h0, q38_3, tq38_3, bq38_3, q49_4, q5, q6, q7, q61_5, q92_7, q92_8, q92_9, q92_10, bq92_7, bq92_8, bq92_9, bq92_10, q70_6] : List Nat).getD k.toNat 0) (9 + (j : Int))))))))) :: (q7, .inl (zY Γ 0, 3, .inl (fun _ => zi 0))) :: (q6, .inl (zY Γ 0, 3, .inl (fun _ => zi 0))) :: (q5, .inl (zY Γ 0, 3, .inl (fun _ => zi 0))) :: (q49_4, .inr (6, [.ref (a3 0), .ref q5, .ref q6, .ref q7, .int (zi (-1))])) :: (bq38_3, .inl (zY Γ 0, 120, .inl (fun _ => zi 0))) :: (tq38_3, .inr (5, [.ref bq38_3, .int (zi 0), .int (zi 0), .int (zi 0), .int (zi 0), .int (zi 0)])) :: (q38_3, .inr (1, [.ref tq38_3, .int (zi (-1))])) :: (h0, .inr (7, [.ref (a0 0), .ref (a1 0), .ref (a2 0), .ref q38_3, .ref q49_4, .ref q61_5, .ref q70_6, .int (zi 0)])) :: (carW Γ a3 ++ ((carW Γ a0 ++ carW Γ a1) ++ carW Γ a2))) (fun H => (va_P_cons id (va_P_cons id (va_P_cons id (va_P_cons id (va_P_cons id (va_P_cons id (va_P_cons id (va_P_cons id (va_P_cons id (va_P_cons (va_at_refs (refs4 rfl rfl rfl rfl)) (va_P_cons id (va_P_cons id (va_P_cons id (va_P_cons id (va_P_cons id (va_P_cons id (va_P_cons id (va_P_cons id id))))))))))))))))))) rfl ?_
  exact zN_ret (Pst := fun h w => ∃ a0 a1 a2 a3 a4 : Int → Nat, a4 0 = h ∧ w.Perm (clsW Γ a0 a1 a2 a3 a4 ++ (carW Γ a3 ++ ((carW Γ a0 ++ carW Γ a1) ++ carW Γ a2)))) C hr hlk dX8_init_106 ⟨a0, a1, a2, a3, (fun k : Int => ([h0, q38_3, tq38_3, bq38_3, q49_4, q5, q6, q7, q61_5, q92_7, q92_8, q92_9, q92_10, bq92_7, bq92_8, bq92_9, bq92_10, q70_6] : List Nat).getD k.toNat 0), rfl, List.Perm.append_right _ (perm_idx (l := ([(bq92_10, .inl (zY Γ 1, 40, .inr (.inl (fun _ => zl 0)))), (q92_10, .inr (4, [.ref bq92_10, .int (zi 0), .int (zi 0)])), (bq92_9, .inl (zY Γ 1, 40, .inr (.inl (fun _ => zl 0)))), (q92_9, .inr (4, [.ref bq92_9, .int (zi 0), .int (zi 0)])), (bq92_8, .inl (zY Γ 1, 40, .inr (.inl (fun _ => zl 0)))), (q92_8, .inr (4, [.ref bq92_8, .int (zi 0), .int (zi 0)])), (bq92_7, .inl (zY Γ 1, 40, .inr (.inl (fun _ => zl 0)))), (q92_7, .inr (4, [.ref bq92_7, .int (zi 0), .int (zi 0)])), (q70_6, .inl (zY Γ 0, 7, .inl (fun _ => zi 0))), (q61_5, .inl (zY Γ (2 + 2), 4, .inr (.inr (.inr (.inr (fun j : Nat => some ((fun k : Int => ([h0, q38_3, tq38_3, bq38_3, q49_4, q5, q6, q7, q61_5, q92_7, q92_8, q92_9, q92_10, bq92_7, bq92_8, bq92_9, bq92_10, q70_6] : List Nat).getD k.toNat 0) (9 + (j : Int))))))))), (q7, .inl (zY Γ 0, 3, .inl (fun _ => zi 0))), (q6, .inl (zY Γ 0, 3, .inl (fun _ => zi 0))), (q5, .inl (zY Γ 0, 3, .inl (fun _ => zi 0))), (q49_4, .inr (6, [.ref (a3 0), .ref q5, .ref q6, .ref q7, .int (zi (-1))])), (bq38_3, .inl (zY Γ 0, 120, .inl (fun _ => zi 0))), (tq38_3, .inr (5, [.ref bq38_3, .int (zi 0), .int (zi 0), .int (zi 0), .int (zi 0), .int (zi 0)])), (q38_3, .inr (1, [.ref tq38_3, .int (zi (-1))])), (h0, .inr (7, [.ref (a0 0), .ref (a1 0), .ref (a2 0), .ref q38_3, .ref q49_4, .ref q61_5, .ref q70_6, .int (zi 0)]))] : va_W)) [17, 16, 15, 14, 13, 12, 11, 10, 9, 7, 5, 3, 1, 6, 4, 2, 0, 8] 18 rfl (by decide) rfl)⟩
