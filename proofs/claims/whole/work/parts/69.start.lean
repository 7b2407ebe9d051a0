/-! the law from its entry -/
theorem zInv0 : rInv 9999 (z0 5 1) := by
  have e : ∀ i : Int, z0 5 1 i = if i = 8 ∨ i = 13 ∨ i = 18 then -1 else 0 := by
    intro i
    unfold z0
    rw [if_neg (by decide), if_neg (by decide)]
    by_cases h : i = 8 ∨ i = 13 ∨ i = 18
    · rw [if_pos ⟨rfl, h⟩, if_pos h]
    · rw [if_neg (fun q => h q.2), if_neg h]
  refine ⟨?_, ?_, ?_, ?_, fun k h0 h1 => ?_, fun c h0 h1 => ?_, fun k k' h0 h1 h2 h3 h4 => ?_⟩
  · rw [e]; decide
  · rw [e]; decide
  · rw [e]; decide
  · rw [e]; decide
  · unfold itS
    rw [e, e, e, e, e, e]
    have h : k = 0 ∨ k = 1 ∨ k = 2 := by omega
    rcases h with rfl | rfl | rfl <;> decide
  · unfold toS
    rw [e, e, e, e, e, e]
    rw [if_neg (by omega), if_neg (by omega), if_neg (by omega), if_neg (by omega), if_neg (by omega), if_neg (by omega)]
    decide
  · right
    unfold itS
    rw [e, if_pos (by omega)]
theorem zSim_0 : zSim z0 := by
  refine zSim_mk ?_ zInv0 ⟨rfl, Or.inl rfl, fun q => absurd q (show ¬ (0 : Int) = 1 from by decide)⟩ ?_ ?_ rfl ⟨rfl, rfl, tape0⟩ (show (0 : Int) ≤ 0 ∧ (0 : Int) ≤ 9999 from by decide)
  · funext k f
    unfold cOf
    by_cases h1 : k = 0
    · rw [if_pos h1]
      subst h1
      by_cases a : f = 2
      · rw [if_pos a]; subst a; rfl
      · rw [if_neg a]
        by_cases b : f = 3
        · rw [if_pos b]; subst b; rfl
        · rw [if_neg b]
          by_cases c : f = 4
          · rw [if_pos c]; subst c; rfl
          · rw [if_neg c]
            by_cases d : f = 5
            · rw [if_pos d]; subst d; rfl
            · rw [if_neg d]
    · rw [if_neg h1]
      by_cases h2 : 3 ≤ k ∧ k < 6
      · rw [if_pos h2]
        by_cases a : 0 ≤ f ∧ f < 5
        · rw [if_pos a]
          have e1 : z0 5 1 (4 + 5 * (k - 3) + f) = if (4 + 5 * (k - 3) + f) = 8 ∨ (4 + 5 * (k - 3) + f) = 13 ∨ (4 + 5 * (k - 3) + f) = 18 then -1 else 0 := by
            unfold z0
            rw [if_neg (by decide), if_neg (by decide)]
            by_cases h : (4 + 5 * (k - 3) + f) = 8 ∨ (4 + 5 * (k - 3) + f) = 13 ∨ (4 + 5 * (k - 3) + f) = 18
            · rw [if_pos ⟨rfl, h⟩, if_pos h]
            · rw [if_neg (fun q => h q.2), if_neg h]
          rw [e1]
          unfold z0
          rw [if_pos (by decide)]
          by_cases h4 : f = 4
          · rw [if_pos (by omega), if_pos (by omega)]
          · rw [if_neg (by omega), if_neg (by omega), if_neg (by omega)]
        · rw [if_neg a]
      · rw [if_neg h2, if_neg (fun q => by have e : z0 5 1 0 = 0 := rfl; rw [e] at q; omega)]
  · exact ⟨⟨rfl, rfl, fun i _ _ => rfl⟩, ⟨rfl, rfl, fun i _ _ => rfl⟩, ⟨rfl, rfl, fun i _ _ => rfl⟩, rfl, rfl, fun i _ _ => rfl⟩
  · exact ⟨fun j _ _ => ⟨Or.inl rfl, (show (0 : Int) ≤ 0 ∧ (0 : Int) ≤ 40 from by decide)⟩, fun i _ _ => (show (-9223372036854775808 : Int) ≤ 0 ∧ (0 : Int) ≤ 9223372036854775807 from by decide)⟩
def zcf (Γ : zC) (a0 a1 a2 a3 a4 a5 : Int → Nat) : zC := (zD Γ, zY Γ, (fun g => if g = 0 then a0 else if g = 1 then a1 else if g = 2 then a2 else if g = 3 then a3 else if g = 4 then a4 else a5), zt Γ, zaK Γ, zaV Γ)
theorem zws_all {Γ : zC} {a0 a1 a2 a3 a4 a5 : Int → Nat} : zws (zcf Γ a0 a1 a2 a3 a4 a5) z0 = carW Γ a0 ++ (carW Γ a1 ++ (carW Γ a2 ++ (carW Γ a3 ++ (clsW Γ a0 a1 a2 a3 a4 ++ refW Γ a5)))) := by
  have h0 : (zseg 0 12).map (zent (zcf Γ a0 a1 a2 a3 a4 a5) z0) = carW Γ a0 := rfl
  have h1 : (zseg 1 12).map (zent (zcf Γ a0 a1 a2 a3 a4 a5) z0) = carW Γ a1 := rfl
  have h2 : (zseg 2 12).map (zent (zcf Γ a0 a1 a2 a3 a4 a5) z0) = carW Γ a2 := rfl
  have h3 : (zseg 3 12).map (zent (zcf Γ a0 a1 a2 a3 a4 a5) z0) = carW Γ a3 := rfl
  have h4 : (zseg 4 18).map (zent (zcf Γ a0 a1 a2 a3 a4 a5) z0) = clsW Γ a0 a1 a2 a3 a4 := rfl
  have h5 : (zseg 5 13).map (zent (zcf Γ a0 a1 a2 a3 a4 a5) z0) = refW Γ a5 := rfl
  unfold zws zcL
  rw [List.map_append, List.map_append, List.map_append, List.map_append, List.map_append, h0, h1, h2, h3, h4, h5]
theorem perm6 {α : Type} (r k c0 c1 c2 c3 : List α) : (r ++ (k ++ (c3 ++ ((c0 ++ c1) ++ c2)))).Perm (c0 ++ (c1 ++ (c2 ++ (c3 ++ (k ++ r))))) := by
  have e : c0 ++ (c1 ++ (c2 ++ (c3 ++ (k ++ r)))) = ((c0 ++ c1) ++ c2) ++ (c3 ++ (k ++ r)) := by simp only [List.append_assoc]
  rw [e]
  generalize (c0 ++ c1) ++ c2 = Z
  have h1 : (k ++ (c3 ++ Z)).Perm (Z ++ (c3 ++ k)) := by
    refine (List.perm_append_comm).trans ?_
    rw [List.append_assoc]
    exact List.perm_append_comm_assoc c3 Z k
  refine (h1.append_left r).trans ?_
  refine (List.perm_append_comm_assoc r Z (c3 ++ k)).trans ?_
  refine List.Perm.append_left Z ?_
  refine (List.perm_append_comm_assoc r c3 k).trans ?_
  exact List.Perm.append_left c3 List.perm_append_comm
section ZSTART
variable {Γ : zC} {A : Nat → Prop} {p : Program} {l : Launch} {e : Env} {R : Room} {s : State} {m : MethodId} {args : Array Value} {below : List Frame} {meth : Method} {c : Code} {cells slots : Nat} {Q : State → Prop} {own : String} {cc : ByteArray} {nL pc n : Nat} {lv st : List Value} {ws : va_W}
theorem zN_astore_n (C : zNx Γ A p s m args meth c own cc nL) {f : Fin 4} {i x : Nat} {lv' : List Value} (d : decode cc pc = .ok (.astore_n f, 1)) (hi : (f : Nat) = i) (hn : i < nL) (hpr : ∀ w, lv[i - 1]? = some w → i ≠ 0 → w.category = 1) (hlv : lv.set i (.ref x) = lv') (hp : pc + 1 = n) (k : zN Γ A p l e R s m args below meth c cells slots Q n lv' st ws) : zN Γ A p l e R s m args below meth c cells slots Q pc lv (.ref x :: st) ws := by
  subst hp
  subst hi
  subst hlv
  intro H locs ls hl hP hD hS
  obtain ⟨ls', e', h'⟩ := zlv_store (v := .ref x) hl (by rw [C.2.2.1]; exact hn) rfl hpr
  obtain ⟨hexec, hb, -⟩ := C
  intro T hT X
  obtain ⟨t, a, b⟩ := k H locs ls' h' hP hD hS T hT X
  refine ⟨t, ?_, b⟩
  jvm_step X.here [X.here.top, ↓top_set X.here.top, hexec, hb, d, e', Value.isRef]
  exact a
theorem zN_toV {Γf : zC} (hG : zD Γf = zD Γ) (hpm : ws.Perm (zws Γf z0)) (k : zApart Γf → (∀ q, zAA Γf q → A q) → zV Γf A p l e R s m args below meth c cells slots Q pc lv st z0) : zN Γ A p l e R s m args below meth c cells slots Q pc lv st ws := by
  intro H locs ls hl hP hD hS
  have hD' := va_D_iff.mp (hD.perm hpm)
  have hpw : zcL.Pairwise (fun x y => za Γf x.1 x.2 ≠ za Γf y.1 y.2) := by
    have h := hD'.1
    unfold zws at h
    rw [List.pairwise_map] at h
    exact h
  refine k (fun x hx y hy hxy => ?_) (fun q hq => ?_) H locs ls hl (by rw [hG]; exact hP.perm hpm) hS
  · obtain ⟨i, hi⟩ := List.getElem?_of_mem hx
    obtain ⟨j, hj⟩ := List.getElem?_of_mem hy
    obtain ⟨hi', ei⟩ := List.getElem?_eq_some_iff.mp hi
    obtain ⟨hj', ej⟩ := List.getElem?_eq_some_iff.mp hj
    have hq := List.pairwise_iff_getElem.mp hpw
    rcases Nat.lt_trichotomy i j with w | w | w
    · exact absurd (by rw [ei, ej]; exact hxy) (hq i j hi' hj' w)
    · subst w
      rw [← ei, ← ej]
    · exact absurd (by rw [ei, ej]; exact hxy.symm) (hq j i hj' hi' w)
  · obtain ⟨x, hx, rfl⟩ := hq
    exact hD'.2 (zent Γf z0 x) (List.mem_map.mpr ⟨x, hx, rfl⟩)
end ZSTART
set_option maxRecDepth 100000 in
set_option maxHeartbeats 4000000 in
theorem whole_start {p : Program} {e : Env} {s : State} {m : MethodId} {below : List Frame} {meth : Method} {c : Code} (l : Launch) {b L : Nat} {xs : Nat → Int32} (hL : L ≤ 3072) (C0 : lw_At p s m meth c b L xs) : W p l e room_1 s m #[Value.ref b] below meth c s.heap [] 0 0 (lw_Z below #[Value.ref b] s) (entryFrame m ([Value.ref b] : List Value).toArray 4) := by
  obtain ⟨hx, hb, hr, hml, hown, hts, hX, hbl, hlocks, hgv⟩ := id C0
  obtain ⟨Γ, hK, hI, hE⟩ := zfacts hts hgv
  have hbA : ¬ (fun q : Nat => s.heap.size ≤ q) b := Nat.not_le.mpr hbl
  have C : zNx Γ (fun q : Nat => s.heap.size ≤ q) p s m #[Value.ref b] meth c RL cL_law 4 := ⟨hx, hb, hml, hown, fun w hw => hts w (List.mem_filter.mp hw).1, hK, hI, fun _ h => h⟩
  rw [lg_entry_eq]
  have hl0 := zlv_entry (vs := [.ref b]) (lv := [.ref b, .null, .null, .null]) (n := 4) (Nat.le_of_ble_eq_true rfl) (fun i v hi => by
    match i, hi with
    | 0, hi => cases hi; exact Or.inr List.mem_cons_self
    | 1, hi => cases hi; exact Or.inl rfl
    | 2, hi => cases hi; exact Or.inl rfl
    | 3, hi => cases hi; exact Or.inl rfl
    | i + 4, hi => simp at hi)
  have key : zN Γ (fun q : Nat => s.heap.size ≤ q) p l e room_1 s m #[Value.ref b] below meth c 0 0 (lw_Z below #[Value.ref b] s) 0 [.ref b, .null, .null, .null] [] [] := by
    refine zN_new (n := 3) C zk7 clL_7 in7 dL_law_0 df7 ⟨show 0 + 1 ≤ 600000 from by decide, show 0 + 8 ≤ 7302250 from by decide⟩ rfl (fun q0 => ?_)
    refine zN_dup (n := 4) C dL_law_3 rfl rfl ?_
    refine zN_init (n := 7) C jnX8 lL_9 (n_cls (d := 0)) dL_law_4 (Nat.le_of_ble_eq_true rfl) ⟨show 4 + 1 ≤ 12 from by decide, show 8 + (2 + 11) + 36 * 4 ≤ 438 from by decide⟩ ⟨show 0 + 1 + 65 ≤ 600000 from by decide, show 0 + 8 + 613 ≤ 7302250 from by decide⟩ rfl (fun w8 hw8 => ?_)
    obtain ⟨a0, a1, a2, a3, a4, rfl, hp8⟩ := hw8
    refine zN_perm (ws' := clsW Γ a0 a1 a2 a3 a4 ++ (carW Γ a3 ++ ((carW Γ a0 ++ carW Γ a1) ++ carW Γ a2))) (by rw [List.append_nil]; exact hp8) ?_
    refine zN_astore_n (i := 1) (n := 8) C dL_law_7 rfl (by decide) (fun w h _ => by cases h; rfl) rfl rfl ?_
    refine zN_new (n := 11) C zk8 clL_10 in8 dL_law_8 df8 ⟨show 0 + 1 + 65 + 1 ≤ 600000 from by decide, show 0 + 8 + 613 + 19 ≤ 7302250 from by decide⟩ rfl (fun q5 => ?_)
    refine zN_dup (n := 12) C dL_law_11 rfl rfl ?_
    refine zN_init (n := 15) C jnX9 lL_12 (n_ref (d := 0)) dL_law_12 (Nat.le_of_ble_eq_true rfl) ⟨show 1 + 1 ≤ 12 from by decide, show 8 + (2 + 11) + 36 * 1 ≤ 438 from by decide⟩ ⟨show 0 + 1 + 65 + 1 + 12 ≤ 600000 from by decide, show 0 + 8 + 613 + 19 + 561 ≤ 7302250 from by decide⟩ rfl (fun w9 hw9 => ?_)
    obtain ⟨a5, rfl, hp9⟩ := hw9
    refine zN_perm (hp9.append_right _) ?_
    refine zN_astore_n (i := 2) (n := 16) C dL_law_15 rfl (by decide) (fun w h _ => by cases h; rfl) rfl rfl ?_
    refine zN_iconst (n := 17) C dL_law_16 rfl ?_
    refine zN_istore_n (i := 3) (n := 18) C dL_law_17 rfl (by decide) (fun w h _ => by cases h; rfl) rfl rfl ?_
    refine zN_toV (Γf := zcf Γ a0 a1 a2 a3 a4 a5) rfl (by rw [zws_all]; exact perm6 (refW Γ a5) (clsW Γ a0 a1 a2 a3 a4) (carW Γ a0) (carW Γ a1) (carW Γ a2) (carW Γ a3)) (fun hAp hAA => ?_)
    have CV : zCx (zcf Γ a0 a1 a2 a3 a4 a5) (fun q : Nat => s.heap.size ≤ q) p s m #[Value.ref b] c RL cL_law 4 := ⟨hx, hb, hml, hown, fun w hw => hts w (List.mem_filter.mp hw).1, hK, hAp, hE _, hAA⟩
    refine law_loop CV ⟨hX, hbl, hbA⟩ hL ⟨show 0 + 1 + 65 + 1 + 12 ≤ 600000 from by decide, show 0 + 8 + 613 + 19 + 561 ≤ 7302250 from by decide⟩ (fun μ v3 => ?_) 4000 0 z0 (by omega) (by omega) (by omega) zSim_0
    intro H locs ls hl hP hS
    refine lv_iconst (v := 1) hx hb dL_law_1422 (by decide) ?_
    refine va_forget (fun q hq => hS.2.2 q hq) ?_
    refine W.widen (k := 600000) (n := 7302250) (by decide) (by decide) ?_
    exact lw_ret hx hb hr hlocks dL_law_1423
  refine key s.heap [] _ (by rw [hml]; exact hl0) (fun k q h => by simp at h) ⟨fun i j p q h => by simp at h, fun k q h => by simp at h⟩ va_S.rf
