/-! the reference: ways (laid by wip/whole/gen/ref12.py) -/
theorem bt_iff {x c : Nat} (hx : x < 64) (hc : c < 6) : ((zi (x : Int)) >>> (zi (c : Int) &&& 31)) &&& zi 1 = zi 1 ↔ bt x c = true := by
  have h := bt_tab x hx c hc
  rw [← h]
  unfold btI
  rw [decide_eq_true_eq]
theorem clr_raw {x c : Nat} (hx : x < 64) (hc : c < 6) : zi (x : Int) &&& ((zi 1 <<< (zi (c : Int) &&& 31)) ^^^ zi (-1)) = zi ((clr x c : Nat) : Int) := clr_tab x hx c hc
theorem zrs_f {ν : zMem} {b : Int} {Fs Fb A T G : Int → Int} : zset (zr ν b Fs Fb A T) 5 7 G = zr ν b Fs G A T := by
  funext g k
  simp only [zset]
  by_cases h : g = 5 ∧ k = 7
  · rw [if_pos h]
    obtain ⟨rfl, rfl⟩ := h
    rfl
  · rw [if_neg h]
    funext i
    simp only [zr]
    rw [if_neg h, if_neg h]
theorem zag_zr {ν : zMem} {b : Int} {Fs Fb Fb' A T : Int → Int} (h : ∀ i : Int, 0 ≤ i → i < 3 → Fb i = Fb' i) : zag (zr ν b Fs Fb A T) (zr ν b Fs Fb' A T) := by
  have q := zag_row (μ := zr ν b Fs Fb A T) (F := Fb) (G := Fb') zs_rbest (fun j j0 j1 => h j j0 (by simpa [zlenS] using j1))
  rw [zrs_f, zrs_f] at q
  exact q
theorem dgs_w {w : Nat} {F : Int → Int} : ∀ i : Int, 0 ≤ i → i < 3 → zfu (zfu (zfu F 0 (dgs w 0)) 1 (dgs w 1)) 2 (dgs w 2) i = dgs w i := by
  intro i i0 i1
  have h : i = 0 ∨ i = 1 ∨ i = 2 := by omega
  rcases h with rfl | rfl | rfl
  · rw [zfu_ne (by omega), zfu_ne (by omega), zfu_at]
  · rw [zfu_ne (by omega), zfu_at]
  · rw [zfu_at]
theorem dgs_v {w : Nat} {F : Int → Int} : ∀ i : Int, 0 ≤ i → i < 3 → zfu (zfu (zfu F 2 ((w : Int) % 18)) 1 ((w : Int) / 18 % 18)) 0 ((w : Int) / 18 / 18 % 18) i = dgs w i := by
  intro i i0 i1
  have h : i = 0 ∨ i = 1 ∨ i = 2 := by omega
  unfold dgs D0 D1 D2
  rcases h with rfl | rfl | rfl
  · rw [zfu_at, if_pos rfl]
    omega
  · rw [zfu_ne (by omega), zfu_at, if_neg (by omega), if_pos rfl]
    omega
  · rw [zfu_ne (by omega), zfu_ne (by omega), zfu_at, if_neg (by omega), if_neg (by omega)]
    omega
def oRel (b : Bool) (o : Int) : Prop := (b = true ∧ o = 1) ∨ (b = false ∧ o = 0)
theorem oRel_rg {b : Bool} {o : Int} (h : oRel b o) : 0 ≤ o ∧ o ≤ 1 := by
  rcases h with h | h <;> omega
theorem dgs_rg {w : Nat} {k : Int} : 0 ≤ dgs w k ∧ dgs w k < 18 := by
  have h := D_rg w
  unfold dgs
  (repeat' split) <;> omega
theorem dgs_nat {w : Nat} {k : Int} : ((dgs w k).toNat : Int) = dgs w k := Int.toNat_of_nonneg dgs_rg.1
set_option maxRecDepth 100000 in
set_option maxHeartbeats 4000000 in
theorem m_isWay_a {Γ : zC} {l : Launch} {d : Nat} {p : Program} {e : Env} {s : State} {m : MethodId} {args : Array Value} {below : List Frame} {meth : Method} {c : Code} {Q : State → Prop} (C : zCx Γ (zAA Γ) p s m args c RX9 cX9_isWay 10) {μ : zMem} {x w : Nat} {F : Int → Int} {v k : Int} {v8 v9 : Value} (hv : 0 ≤ v ∧ v < 10000) (hk : 0 ≤ k ∧ k < 3) (KK : zV Γ (zAA Γ) p l e (zRm (d + 0)) s m args below meth c 0 0 Q 15 [.ref (za Γ 5 0), .int (zi (x : Int)), .int (zi (w : Int)), .int (zi (x : Int)), .int (zi 7), .int (zi (v / 18)), .int (zi 1), .int (zi (k + -1)), v8, v9] [] (zset μ 5 6 (zfu F k (v % 18)))) :
    zV Γ (zAA Γ) p l e (zRm (d + 0)) s m args below meth c 0 0 Q 15 [.ref (za Γ 5 0), .int (zi (x : Int)), .int (zi (w : Int)), .int (zi (x : Int)), .int (zi 7), .int (zi v), .int (zi 1), .int (zi k), v8, v9] [] (zset μ 5 6 F) := by
  refine zV_iload (n := 17) C dX9_isWay_15 rfl rfl ?_
  refine zV_if_lt (n := 20) C 45 dX9_isWay_17 (by decide) (by first | omega | exact zb_rg) rfl (fun h => by exfalso; first | omega | exact zb_rg) (fun h17 => ?_)
  refine zV_aload_n (i := 0) (n := 21) C dX9_isWay_20 rfl rfl rfl ?_
  refine zV_getP (f := 6) (n := 24) C zk8 fX9_25 dX9_isWay_21 zs_ref rfl (by decide) rfl ?_
  refine zV_iload (n := 26) C dX9_isWay_24 rfl rfl ?_
  refine zV_iload (n := 28) C dX9_isWay_26 rfl rfl ?_
  refine zV_bipush (n := 30) C dX9_isWay_28 (by decide) rfl ?_
  refine zV_irem (n := 31) C dX9_isWay_30 (by first | omega | exact zb_rg) (by first | omega | exact zb_rg) rfl ?_
  refine zV_iast (n := 32) C dX9_isWay_31 zs_rsteps (by first | omega | exact zb_rg) (by decide) rfl ?_
  rw [zup_set]
  refine zV_iload (n := 34) C dX9_isWay_32 rfl rfl ?_
  refine zV_bipush (n := 36) C dX9_isWay_34 (by decide) rfl ?_
  refine zV_idiv (n := 37) C dX9_isWay_36 (by first | omega | exact zb_rg) (by first | omega | exact zb_rg) rfl ?_
  refine zS_istore_10_5 (n := 39) C dX9_isWay_37 rfl rfl ?_
  refine zS_iinc_10_7 (n := 42) C dX9_isWay_39 rfl rfl ?_
  refine zV_goto C 15 dX9_isWay_42 (by decide) ?_
  exact KK

set_option maxRecDepth 100000 in
set_option maxHeartbeats 4000000 in
theorem m_isWay_b {Γ : zC} {l : Launch} {d : Nat} {p : Program} {e : Env} {s : State} {m : MethodId} {args : Array Value} {below : List Frame} {meth : Method} {c : Code} {Q : State → Prop} (C : zCx Γ (zAA Γ) p s m args c RX9 cX9_isWay 10) {μ : zMem} {x w : Nat} {G : Int → Int} {q : Bool × Nat × Nat} (hq : q.2.1 < 64 ∧ q.2.2 < 64) {o k : Int} (ho : oRel q.1 o) (hk : 0 ≤ k ∧ k < 3) (hg : 0 ≤ G k ∧ G k < 18) {z5 : Int} {v8 v9 : Value} (KK : ∀ (o : Int) (v8 v9 : Value), oRel (iw1 q (G k).toNat).1 o → zV Γ (zAA Γ) p l e (zRm (d + 0)) s m args below meth c 0 0 Q 48 [.ref (za Γ 5 0), .int (zi (x : Int)), .int (zi (w : Int)), .int (zi ((iw1 q (G k).toNat).2.1 : Int)), .int (zi ((iw1 q (G k).toNat).2.2 : Int)), .int (zi z5), .int (zi o), .int (zi (k + 1)), v8, v9] [] (zset μ 5 6 G)) :
    zV Γ (zAA Γ) p l e (zRm (d + 0)) s m args below meth c 0 0 Q 48 [.ref (za Γ 5 0), .int (zi (x : Int)), .int (zi (w : Int)), .int (zi (q.2.1 : Int)), .int (zi (q.2.2 : Int)), .int (zi z5), .int (zi o), .int (zi k), v8, v9] [] (zset μ 5 6 G) := by
  have hG : ((G k).toNat : Int) = G k := Int.toNat_of_nonneg hg.1
  have hn : (G k).toNat < 18 := by omega
  have e3 : ((G k).toNat : Int) / 3 = (((G k).toNat / 3 : Nat) : Int) := by omega
  have e4 : ((G k).toNat : Int) % 3 = (((G k).toNat % 3 : Nat) : Int) := by omega
  have t1 := bt_iff (x := q.2.1) (c := (G k).toNat / 3) hq.1 (by omega)
  have t2 := bt_iff (x := q.2.2) (c := (G k).toNat % 3) hq.2 (by omega)
  have hor := oRel_rg ho
  refine zV_iload (n := 50) C dX9_isWay_48 rfl rfl ?_
  refine zV_iconst (n := 51) C dX9_isWay_50 rfl ?_
  refine zV_icmp_ge (n := 54) C 135 dX9_isWay_51 (by decide) (by first | omega | exact zb_rg) (by first | omega | exact zb_rg) rfl (fun h => by exfalso; first | omega | exact zb_rg) (fun h51 => ?_)
  refine zV_aload_n (i := 0) (n := 55) C dX9_isWay_54 rfl rfl rfl ?_
  refine zV_getP (f := 6) (n := 58) C zk8 fX9_25 dX9_isWay_55 zs_ref rfl (by decide) rfl ?_
  refine zV_iload (n := 60) C dX9_isWay_58 rfl rfl ?_
  refine zV_iald (n := 61) C dX9_isWay_60 zs_rsteps (by first | omega | exact zb_rg) (by decide) rfl ?_
  rw [zset_at, ← hG]
  refine zV_iconst (n := 62) C dX9_isWay_61 rfl ?_
  refine zV_idiv (n := 63) C dX9_isWay_62 (by first | omega | exact zb_rg) (by first | omega | exact zb_rg) rfl ?_
  rw [e3]
  refine zS_istore_10_8 (n := 65) C dX9_isWay_63 rfl rfl ?_
  refine zV_aload_n (i := 0) (n := 66) C dX9_isWay_65 rfl rfl rfl ?_
  refine zV_getP (f := 6) (n := 69) C zk8 fX9_25 dX9_isWay_66 zs_ref rfl (by decide) rfl ?_
  refine zV_iload (n := 71) C dX9_isWay_69 rfl rfl ?_
  refine zV_iald (n := 72) C dX9_isWay_71 zs_rsteps (by first | omega | exact zb_rg) (by decide) rfl ?_
  rw [zset_at, ← hG]
  refine zV_iconst (n := 73) C dX9_isWay_72 rfl ?_
  refine zV_irem (n := 74) C dX9_isWay_73 (by first | omega | exact zb_rg) (by first | omega | exact zb_rg) rfl ?_
  rw [e4]
  refine zS_istore_10_9 (n := 76) C dX9_isWay_74 rfl rfl ?_
  refine zV_iload (n := 78) C dX9_isWay_76 rfl rfl ?_
  refine zV_if_eq (n := 81) C 106 dX9_isWay_78 (by decide) (by first | omega | exact zb_rg) rfl (fun h78 => ?_) (fun h78 => ?_)
  · skip
    refine zV_iconst (n := 107) C dX9_isWay_106 rfl ?_
    refine zS_istore_10_6 (n := 109) C dX9_isWay_107 rfl rfl ?_
    refine zV_iload_n (i := 3) (n := 110) C dX9_isWay_109 rfl rfl rfl ?_
    refine zV_iconst (n := 111) C dX9_isWay_110 rfl ?_
    refine zV_iload (n := 113) C dX9_isWay_111 rfl rfl ?_
    refine zV_ishl0 (n := 114) C dX9_isWay_113 rfl ?_
    refine zV_iconst (n := 115) C dX9_isWay_114 rfl ?_
    refine zV_ixor0 (n := 116) C dX9_isWay_115 rfl ?_
    refine zV_iand0 (n := 117) C dX9_isWay_116 rfl ?_
    rw [clr_raw (by omega) (by omega)]
    refine zS_istore_n_10_3 (n := 118) C dX9_isWay_117 rfl rfl ?_
    refine zV_iload (n := 120) C dX9_isWay_118 rfl rfl ?_
    refine zV_iconst (n := 121) C dX9_isWay_120 rfl ?_
    refine zV_iload (n := 123) C dX9_isWay_121 rfl rfl ?_
    refine zV_ishl0 (n := 124) C dX9_isWay_123 rfl ?_
    refine zV_iconst (n := 125) C dX9_isWay_124 rfl ?_
    refine zV_ixor0 (n := 126) C dX9_isWay_125 rfl ?_
    refine zV_iand0 (n := 127) C dX9_isWay_126 rfl ?_
    rw [clr_raw (by omega) (by omega)]
    refine zS_istore_10_4 (n := 129) C dX9_isWay_127 rfl rfl ?_
    refine zS_iinc_10_7 (n := 132) C dX9_isWay_129 rfl rfl ?_
    refine zV_goto C 48 dX9_isWay_132 (by decide) ?_
    rcases ho with ho | ho
    · exfalso; omega
    · exact KK 0 (.int (zi (((G k).toNat / 3 : Nat) : Int))) (.int (zi (((G k).toNat % 3 : Nat) : Int))) (Or.inr ⟨by unfold iw1; rw [ho.1]; rfl, rfl⟩)
  · skip
    refine zV_iload_n (i := 3) (n := 82) C dX9_isWay_81 rfl rfl rfl ?_
    refine zV_iload (n := 84) C dX9_isWay_82 rfl rfl ?_
    refine zV_ishr0 (n := 85) C dX9_isWay_84 rfl ?_
    refine zV_iconst (n := 86) C dX9_isWay_85 rfl ?_
    refine zV_iand0 (n := 87) C dX9_isWay_86 rfl ?_
    refine zV_iconst (n := 88) C dX9_isWay_87 rfl ?_
    refine zV_icmp0_ne (n := 91) C 106 dX9_isWay_88 (by decide) rfl (fun h88 => ?_) (fun h88 => ?_)
    · skip
      refine zV_iconst (n := 107) C dX9_isWay_106 rfl ?_
      refine zS_istore_10_6 (n := 109) C dX9_isWay_107 rfl rfl ?_
      refine zV_iload_n (i := 3) (n := 110) C dX9_isWay_109 rfl rfl rfl ?_
      refine zV_iconst (n := 111) C dX9_isWay_110 rfl ?_
      refine zV_iload (n := 113) C dX9_isWay_111 rfl rfl ?_
      refine zV_ishl0 (n := 114) C dX9_isWay_113 rfl ?_
      refine zV_iconst (n := 115) C dX9_isWay_114 rfl ?_
      refine zV_ixor0 (n := 116) C dX9_isWay_115 rfl ?_
      refine zV_iand0 (n := 117) C dX9_isWay_116 rfl ?_
      rw [clr_raw (by omega) (by omega)]
      refine zS_istore_n_10_3 (n := 118) C dX9_isWay_117 rfl rfl ?_
      refine zV_iload (n := 120) C dX9_isWay_118 rfl rfl ?_
      refine zV_iconst (n := 121) C dX9_isWay_120 rfl ?_
      refine zV_iload (n := 123) C dX9_isWay_121 rfl rfl ?_
      refine zV_ishl0 (n := 124) C dX9_isWay_123 rfl ?_
      refine zV_iconst (n := 125) C dX9_isWay_124 rfl ?_
      refine zV_ixor0 (n := 126) C dX9_isWay_125 rfl ?_
      refine zV_iand0 (n := 127) C dX9_isWay_126 rfl ?_
      rw [clr_raw (by omega) (by omega)]
      refine zS_istore_10_4 (n := 129) C dX9_isWay_127 rfl rfl ?_
      refine zS_iinc_10_7 (n := 132) C dX9_isWay_129 rfl rfl ?_
      refine zV_goto C 48 dX9_isWay_132 (by decide) ?_
      rcases ho with ho | ho
      · exact KK 0 (.int (zi (((G k).toNat / 3 : Nat) : Int))) (.int (zi (((G k).toNat % 3 : Nat) : Int))) (Or.inr ⟨by unfold iw1; rw [ho.1, show bt q.2.1 ((G k).toNat / 3) = false from by rw [← Bool.not_eq_true]; exact fun z => h88 (t1.mpr z)]; rfl, rfl⟩)
      · exfalso; omega
    · skip
      refine zV_iload (n := 93) C dX9_isWay_91 rfl rfl ?_
      refine zV_iload (n := 95) C dX9_isWay_93 rfl rfl ?_
      refine zV_ishr0 (n := 96) C dX9_isWay_95 rfl ?_
      refine zV_iconst (n := 97) C dX9_isWay_96 rfl ?_
      refine zV_iand0 (n := 98) C dX9_isWay_97 rfl ?_
      refine zV_iconst (n := 99) C dX9_isWay_98 rfl ?_
      refine zV_icmp0_ne (n := 102) C 106 dX9_isWay_99 (by decide) rfl (fun h99 => ?_) (fun h99 => ?_)
      · skip
        refine zV_iconst (n := 107) C dX9_isWay_106 rfl ?_
        refine zS_istore_10_6 (n := 109) C dX9_isWay_107 rfl rfl ?_
        refine zV_iload_n (i := 3) (n := 110) C dX9_isWay_109 rfl rfl rfl ?_
        refine zV_iconst (n := 111) C dX9_isWay_110 rfl ?_
        refine zV_iload (n := 113) C dX9_isWay_111 rfl rfl ?_
        refine zV_ishl0 (n := 114) C dX9_isWay_113 rfl ?_
        refine zV_iconst (n := 115) C dX9_isWay_114 rfl ?_
        refine zV_ixor0 (n := 116) C dX9_isWay_115 rfl ?_
        refine zV_iand0 (n := 117) C dX9_isWay_116 rfl ?_
        rw [clr_raw (by omega) (by omega)]
        refine zS_istore_n_10_3 (n := 118) C dX9_isWay_117 rfl rfl ?_
        refine zV_iload (n := 120) C dX9_isWay_118 rfl rfl ?_
        refine zV_iconst (n := 121) C dX9_isWay_120 rfl ?_
        refine zV_iload (n := 123) C dX9_isWay_121 rfl rfl ?_
        refine zV_ishl0 (n := 124) C dX9_isWay_123 rfl ?_
        refine zV_iconst (n := 125) C dX9_isWay_124 rfl ?_
        refine zV_ixor0 (n := 126) C dX9_isWay_125 rfl ?_
        refine zV_iand0 (n := 127) C dX9_isWay_126 rfl ?_
        rw [clr_raw (by omega) (by omega)]
        refine zS_istore_10_4 (n := 129) C dX9_isWay_127 rfl rfl ?_
        refine zS_iinc_10_7 (n := 132) C dX9_isWay_129 rfl rfl ?_
        refine zV_goto C 48 dX9_isWay_132 (by decide) ?_
        rcases ho with ho | ho
        · exact KK 0 (.int (zi (((G k).toNat / 3 : Nat) : Int))) (.int (zi (((G k).toNat % 3 : Nat) : Int))) (Or.inr ⟨by unfold iw1; rw [ho.1, t1.mp h88, show bt q.2.2 ((G k).toNat % 3) = false from by rw [← Bool.not_eq_true]; exact fun z => h99 (t2.mpr z)]; rfl, rfl⟩)
        · exfalso; omega
      · skip
        refine zV_iconst (n := 103) C dX9_isWay_102 rfl ?_
        refine zV_goto C 107 dX9_isWay_103 (by decide) ?_
        refine zS_istore_10_6 (n := 109) C dX9_isWay_107 rfl rfl ?_
        refine zV_iload_n (i := 3) (n := 110) C dX9_isWay_109 rfl rfl rfl ?_
        refine zV_iconst (n := 111) C dX9_isWay_110 rfl ?_
        refine zV_iload (n := 113) C dX9_isWay_111 rfl rfl ?_
        refine zV_ishl0 (n := 114) C dX9_isWay_113 rfl ?_
        refine zV_iconst (n := 115) C dX9_isWay_114 rfl ?_
        refine zV_ixor0 (n := 116) C dX9_isWay_115 rfl ?_
        refine zV_iand0 (n := 117) C dX9_isWay_116 rfl ?_
        rw [clr_raw (by omega) (by omega)]
        refine zS_istore_n_10_3 (n := 118) C dX9_isWay_117 rfl rfl ?_
        refine zV_iload (n := 120) C dX9_isWay_118 rfl rfl ?_
        refine zV_iconst (n := 121) C dX9_isWay_120 rfl ?_
        refine zV_iload (n := 123) C dX9_isWay_121 rfl rfl ?_
        refine zV_ishl0 (n := 124) C dX9_isWay_123 rfl ?_
        refine zV_iconst (n := 125) C dX9_isWay_124 rfl ?_
        refine zV_ixor0 (n := 126) C dX9_isWay_125 rfl ?_
        refine zV_iand0 (n := 127) C dX9_isWay_126 rfl ?_
        rw [clr_raw (by omega) (by omega)]
        refine zS_istore_10_4 (n := 129) C dX9_isWay_127 rfl rfl ?_
        refine zS_iinc_10_7 (n := 132) C dX9_isWay_129 rfl rfl ?_
        refine zV_goto C 48 dX9_isWay_132 (by decide) ?_
        rcases ho with ho | ho
        · exact KK 1 (.int (zi (((G k).toNat / 3 : Nat) : Int))) (.int (zi (((G k).toNat % 3 : Nat) : Int))) (Or.inl ⟨by unfold iw1; rw [ho.1, t1.mp h88, t2.mp h99]; rfl, rfl⟩)
        · exfalso; omega

set_option maxRecDepth 100000 in
set_option maxHeartbeats 4000000 in
theorem m_isWay {Γ : zC} {l : Launch} {d : Nat} {μ : zMem} {x w : Nat} (hx : x < 64) (hw : w < 5832) : zRet Γ l (d + 0) qX9_isWay [.ref (za Γ 5 0), .int (zi (x : Int)), .int (zi (w : Int))] μ (some (.int (zi (zb (isW x w = true))))) (zset μ 5 6 (dgs w)) := by
  refine zRet.mk 7 [.ref (za Γ 5 0), .int (zi (x : Int)), .int (zi (w : Int)), .null, .null, .null, .null, .null, .null, .null] RX9 rfl (by decide +kernel) (Nat.le_of_ble_eq_true rfl) rfl ?_
  intro p e s m below meth c C hr hlk
  refine zV_iload_n (i := 1) (n := 1) C dX9_isWay_0 rfl rfl rfl ?_
  refine zS_istore_n_10_3 (n := 2) C dX9_isWay_1 rfl rfl ?_
  refine zV_bipush (n := 4) C dX9_isWay_2 (by decide) rfl ?_
  refine zS_istore_10_4 (n := 6) C dX9_isWay_4 rfl rfl ?_
  refine zV_iload_n (i := 2) (n := 7) C dX9_isWay_6 rfl rfl rfl ?_
  refine zS_istore_10_5 (n := 9) C dX9_isWay_7 rfl rfl ?_
  refine zV_iconst (n := 10) C dX9_isWay_9 rfl ?_
  refine zS_istore_10_6 (n := 12) C dX9_isWay_10 rfl rfl ?_
  refine zV_iconst (n := 13) C dX9_isWay_12 rfl ?_
  refine zS_istore_10_7 (n := 15) C dX9_isWay_13 rfl rfl ?_
  refine zV_eqm (μ' := zset μ 5 6 (μ 5 6)) zset_self.symm ?_
  refine m_isWay_a (k := 2) C (by omega) (by omega) ?_
  refine m_isWay_a (k := 2 + -1) C (by omega) (by omega) ?_
  refine m_isWay_a (k := 2 + -1 + -1) C (by omega) (by omega) ?_
  refine zV_iload (n := 17) C dX9_isWay_15 rfl rfl ?_
  refine zV_if_lt (n := 20) C 45 dX9_isWay_17 (by decide) (by omega) rfl (fun h => ?_) (fun h => by exfalso; omega)
  refine zV_mem (μ' := zset μ 5 6 (dgs w)) (zag_row zs_rsteps (fun j j0 j1 => dgs_v j j0 (by simpa [zlenS] using j1))) ?_
  refine zV_iconst (n := 46) C dX9_isWay_45 rfl ?_
  refine zS_istore_10_7 (n := 48) C dX9_isWay_46 rfl rfl ?_
  have x0 : ((true, x, 7) : Bool × Nat × Nat).2.1 < 64 ∧ ((true, x, 7) : Bool × Nat × Nat).2.2 < 64 := ⟨hx, show 7 < 64 from by decide⟩
  have xs : ∀ (q : Bool × Nat × Nat) (g : Nat), (q.2.1 < 64 ∧ q.2.2 < 64) → ((iw1 q g).2.1 < 64 ∧ (iw1 q g).2.2 < 64) := fun q g z => ⟨Nat.lt_of_le_of_lt clr_le z.1, Nat.lt_of_le_of_lt clr_le z.2⟩
  refine m_isWay_b (G := dgs w) (q := (true, x, 7)) C x0 (Or.inl ⟨rfl, rfl⟩) (by omega) dgs_rg (fun o v8 v9 ho => ?_)
  refine m_isWay_b (G := dgs w) C (xs _ _ x0) ho (by omega) dgs_rg (fun o v8 v9 ho => ?_)
  refine m_isWay_b (G := dgs w) C (xs _ _ (xs _ _ x0)) ho (by omega) dgs_rg (fun o v8 v9 ho => ?_)
  have hor := oRel_rg ho
  refine zV_iload (n := 50) C dX9_isWay_48 rfl rfl ?_
  refine zV_iconst (n := 51) C dX9_isWay_50 rfl ?_
  refine zV_icmp_ge (n := 54) C 135 dX9_isWay_51 (by decide) (by omega) (by omega) rfl (fun h => ?_) (fun h => by exfalso; omega)
  refine zV_iload (n := 137) C dX9_isWay_135 rfl rfl ?_
  have ew : (iw1 (iw1 (iw1 (true, x, 7) (dgs w 0).toNat) (dgs w (0 + 1)).toNat) (dgs w (0 + 1 + 1)).toNat).1 = isW x w := by unfold isW; rw [show (dgs w 0).toNat = w / 18 / 18 % 18 from rfl, show (dgs w (0 + 1)).toNat = w / 18 % 18 from rfl, show (dgs w (0 + 1 + 1)).toNat = w % 18 from rfl]
  rw [ew] at ho
  exact zV_zreturn C hr hlk dX9_isWay_137 (by exact (zi_z (by omega)).1) (congrArg (fun z => some (Value.int (zi z))) (by rcases ho with q | q; exact q.2.trans (zb_t q.1).symm; exact q.2.trans (zb_f (by rw [q.1]; decide)).symm)) rfl

set_option maxRecDepth 100000 in
set_option maxHeartbeats 4000000 in
theorem m_fw_click {Γ : zC} {l : Launch} {d : Nat} {p : Program} {e : Env} {s : State} {m : MethodId} {args : Array Value} {below : List Frame} {meth : Method} {c : Code} {Q : State → Prop} (C : zCx Γ (zAA Γ) p s m args c RX9 cX9_findWay 6) {μ : zMem} {S T : Int → Int} {N : Int} (J : rInv N T) {x w : Nat} {b t k : Int} {Fb : Int → Int} {v5 : Value} (hk : 0 ≤ k ∧ k < 3) (hc : dgs w k / 3 < T 0) (hn : rAt T (dgs w k / 3) = -1) (KK : zV Γ (zAA Γ) p l e (zRm (d + 5)) s m args below meth c 0 0 Q 32 [.ref (za Γ 5 0), .int (zi (x : Int)), .int (zi (w : Int)), .int (zi (t + rSec T (dgs w k / 3) (dgs w k % 3))), .int (zi (k + 1)), v5] [] (zr μ b (dgs w) Fb S (rClick T (dgs w k / 3) (dgs w k % 3)))) :
    zV Γ (zAA Γ) p l e (zRm (d + 5)) s m args below meth c 0 0 Q 32 [.ref (za Γ 5 0), .int (zi (x : Int)), .int (zi (w : Int)), .int (zi t), .int (zi k), v5] [] (zr μ b (dgs w) Fb S T) := by
  have hd := dgs_rg (w := w) (k := k)
  have z0 := J.1
  refine zV_iload (n := 34) C dX9_findWay_32 rfl rfl ?_
  refine zV_iconst (n := 35) C dX9_findWay_34 rfl ?_
  refine zV_icmp_ge (n := 38) C 69 dX9_findWay_35 (by decide) (by first | omega | exact zb_rg) (by first | omega | exact zb_rg) rfl (fun h => by exfalso; first | omega | exact zb_rg) (fun h35 => ?_)
  refine zV_iload_n (i := 3) (n := 39) C dX9_findWay_38 rfl rfl rfl ?_
  refine zV_aload_n (i := 0) (n := 40) C dX9_findWay_39 rfl rfl rfl ?_
  refine zV_aload_n (i := 0) (n := 41) C dX9_findWay_40 rfl rfl rfl ?_
  refine zV_getP (f := 6) (n := 44) C zk8 fX9_25 dX9_findWay_41 zs_ref rfl (by decide) rfl ?_
  refine zV_iload (n := 46) C dX9_findWay_44 rfl rfl ?_
  refine zV_iald (n := 47) C dX9_findWay_46 zs_rsteps (by first | omega | exact zb_rg) (by decide) rfl ?_
  rw [zr_s]
  refine zV_iconst (n := 48) C dX9_findWay_47 rfl ?_
  refine zV_idiv (n := 49) C dX9_findWay_48 (by first | omega | exact zb_rg) (by first | omega | exact zb_rg) rfl ?_
  refine zV_aload_n (i := 0) (n := 50) C dX9_findWay_49 rfl rfl rfl ?_
  refine zV_getP (f := 6) (n := 53) C zk8 fX9_25 dX9_findWay_50 zs_ref rfl (by decide) rfl ?_
  refine zV_iload (n := 55) C dX9_findWay_53 rfl rfl ?_
  refine zV_iald (n := 56) C dX9_findWay_55 zs_rsteps (by first | omega | exact zb_rg) (by decide) rfl ?_
  rw [zr_s]
  refine zV_iconst (n := 57) C dX9_findWay_56 rfl ?_
  refine zV_irem (n := 58) C dX9_findWay_57 (by first | omega | exact zb_rg) (by first | omega | exact zb_rg) rfl ?_
  refine zV_callV2u (n := 61) C zk8 jX9_clicks lX9_129 (m_clicks (d := d) (N := N) (show rInv N (zr μ b (dgs w) Fb S T 5 1) from J) (by omega) (by omega) hc hn) dX9_findWay_58 zs_ref rfl (Nat.le_of_ble_eq_true rfl) (zfit_of (by omega) (by decide)) ⟨Nat.le_refl _, Nat.le_refl _⟩ rfl ?_
  rw [zr_t, zrs_t]
  refine zV_iadd (n := 62) C dX9_findWay_61 rfl ?_
  refine zS_istore_n_6_3 (n := 63) C dX9_findWay_62 rfl rfl ?_
  refine zS_iinc_6_4 (n := 66) C dX9_findWay_63 rfl rfl ?_
  refine zV_goto C 32 dX9_findWay_66 (by decide) ?_
  exact KK

set_option maxRecDepth 100000 in
set_option maxHeartbeats 4000000 in
theorem m_fw_copy {Γ : zC} {l : Launch} {d : Nat} {p : Program} {e : Env} {s : State} {m : MethodId} {args : Array Value} {below : List Frame} {meth : Method} {c : Code} {Q : State → Prop} (C : zCx Γ (zAA Γ) p s m args c RX9 cX9_findWay 6) {μ : zMem} {S T : Int → Int} {x w : Nat} {b k : Int} {Fb : Int → Int} {v3 : Value} (hk : 0 ≤ k ∧ k < 3) (KK : zV Γ (zAA Γ) p l e (zRm (d + 5)) s m args below meth c 0 0 Q 117 [.ref (za Γ 5 0), .int (zi (x : Int)), .int (zi (w : Int)), v3, .int (zi 1), .int (zi (k + 1))] [] (zr μ b (dgs w) (zfu Fb k (dgs w k)) S T)) :
    zV Γ (zAA Γ) p l e (zRm (d + 5)) s m args below meth c 0 0 Q 117 [.ref (za Γ 5 0), .int (zi (x : Int)), .int (zi (w : Int)), v3, .int (zi 1), .int (zi k)] [] (zr μ b (dgs w) Fb S T) := by
  refine zV_iload (n := 119) C dX9_findWay_117 rfl rfl ?_
  refine zV_iconst (n := 120) C dX9_findWay_119 rfl ?_
  refine zV_icmp_ge (n := 123) C 148 dX9_findWay_120 (by decide) (by first | omega | exact zb_rg) (by first | omega | exact zb_rg) rfl (fun h => by exfalso; first | omega | exact zb_rg) (fun h120 => ?_)
  refine zV_iload (n := 125) C dX9_findWay_123 rfl rfl ?_
  refine zV_if_eq (n := 128) C 148 dX9_findWay_125 (by decide) (by first | omega | exact zb_rg) rfl (fun h => by exfalso; first | omega | exact zb_rg) (fun h125 => ?_)
  refine zV_aload_n (i := 0) (n := 129) C dX9_findWay_128 rfl rfl rfl ?_
  refine zV_getP (f := 7) (n := 132) C zk8 fX9_28 dX9_findWay_129 zs_ref rfl (by decide) rfl ?_
  refine zV_iload (n := 134) C dX9_findWay_132 rfl rfl ?_
  refine zV_aload_n (i := 0) (n := 135) C dX9_findWay_134 rfl rfl rfl ?_
  refine zV_getP (f := 6) (n := 138) C zk8 fX9_25 dX9_findWay_135 zs_ref rfl (by decide) rfl ?_
  refine zV_iload (n := 140) C dX9_findWay_138 rfl rfl ?_
  refine zV_iald (n := 141) C dX9_findWay_140 zs_rsteps (by first | omega | exact zb_rg) (by decide) rfl ?_
  rw [zr_s]
  refine zV_iast (n := 142) C dX9_findWay_141 zs_rbest (by first | omega | exact zb_rg) (by decide) rfl ?_
  rw [zru_f]
  refine zS_iinc_6_5 (n := 145) C dX9_findWay_142 rfl rfl ?_
  refine zV_goto C 117 dX9_findWay_145 (by decide) ?_
  exact KK

set_option maxRecDepth 100000 in
set_option maxHeartbeats 4000000 in
theorem m_findWay_loop {Γ : zC} {l : Launch} {d : Nat} {p : Program} {e : Env} {s : State} {m : MethodId} {args : Array Value} {below : List Frame} {meth : Method} {c : Code} {Q : State → Prop} (C : zCx Γ (zAA Γ) p s m args c RX9 cX9_findWay 6) {μ : zMem} {S : Int → Int} {N : Int} (I : rInv N S) (hf : ∀ k : Int, 0 ≤ k → k < 3 → itS S k 4 = -1) {x : Nat} (hx : x ∈ pop3) (hxp : (x : Int) ≤ rP2 (S 0) - 1) :
    ∀ (i : Nat) (w : Nat) (q : Int × (Int → Int)) (Fs : Int → Int) (v3 v4 v5 : Value) (hq : -1 ≤ q.1 ∧ q.1 ≤ 438) (h9 : i = 0 → Fs = dgs 5831) (hi : w + i = 5832) (KK : ∀ v3 v4 v5 : Value, zV Γ (zAA Γ) p l e (zRm (d + 5)) s m args below meth c 0 0 Q 154 [.ref (za Γ 5 0), .int (zi (x : Int)), .int (zi (5832 : Int)), v3, v4, v5] [] (zr μ (rFW x S i w q).1 (dgs 5831) (rFW x S i w q).2 S S)), zV Γ (zAA Γ) p l e (zRm (d + 5)) s m args below meth c 0 0 Q 11 [.ref (za Γ 5 0), .int (zi (x : Int)), .int (zi (w : Int)), v3, v4, v5] [] (zr μ q.1 Fs q.2 S S) := by
  intro i
  induction i with
  | zero =>
    intro w q Fs v3 v4 v5 hq h9 hi KK
    have hw : w = 5832 := by omega
    subst hw
    refine zV_eqm (by rw [h9 rfl]) ?_
    refine zV_iload_n (i := 2) (n := 12) C dX9_findWay_11 rfl rfl rfl ?_
    refine zV_sipush (n := 15) C dX9_findWay_12 (by decide) rfl ?_
    refine zV_icmp_ge (n := 18) C 154 dX9_findWay_15 (by decide) (by first | omega | exact zb_rg) (by first | omega | exact zb_rg) rfl (fun h15 => ?_) (fun h => by exfalso; first | omega | exact zb_rg)
    exact KK _ _ _
  | succ i ih =>
    intro w q Fs v3 v4 v5 hq h9 hi KK
    refine zV_iload_n (i := 2) (n := 12) C dX9_findWay_11 rfl rfl rfl ?_
    refine zV_sipush (n := 15) C dX9_findWay_12 (by decide) rfl ?_
    refine zV_icmp_ge (n := 18) C 154 dX9_findWay_15 (by decide) (by first | omega | exact zb_rg) (by first | omega | exact zb_rg) rfl (fun h => by exfalso; first | omega | exact zb_rg) (fun h15 => ?_)
    refine zV_aload_n (i := 0) (n := 19) C dX9_findWay_18 rfl rfl rfl ?_
    refine zV_iload_n (i := 1) (n := 20) C dX9_findWay_19 rfl rfl rfl ?_
    refine zV_iload_n (i := 2) (n := 21) C dX9_findWay_20 rfl rfl rfl ?_
    refine zV_callV2u (n := 24) C zk8 jX9_isWay lX9_175 (m_isWay (d := d) (x := x) (w := w) (pop3_lt x hx) (by omega)) dX9_findWay_21 zs_ref rfl (Nat.le_of_ble_eq_true rfl) (zfit_of (by omega) (by decide)) ⟨Nat.le_refl _, Nat.le_refl _⟩ rfl ?_
    rw [zrs_s]
    refine zV_if_eq (n := 27) C 148 dX9_findWay_24 (by decide) (by first | omega | exact zb_rg) rfl (fun h24 => ?_) (fun h24 => ?_)
    · skip
      simp only [zb_eq0, Decidable.not_not] at h24
      refine zS_iinc_6_2 (n := 151) C dX9_findWay_148 rfl rfl ?_
      refine zV_goto C 11 dX9_findWay_151 (by decide) ?_
      have eq : rFW x S (i + 1) w q = rFW x S i (w + 1) q := by rw [rFW, if_neg h24]
      rw [eq] at KK
      exact ih (w + 1) q (dgs w) v3 v4 v5 hq (fun z => by rw [show w = 5831 from by omega]) (by omega) KK
    · skip
      simp only [zb_eq0, Decidable.not_not] at h24
      refine zV_iconst (n := 28) C dX9_findWay_27 rfl ?_
      refine zS_istore_n_6_3 (n := 29) C dX9_findWay_28 rfl rfl ?_
      refine zV_iconst (n := 30) C dX9_findWay_29 rfl ?_
      refine zS_istore_6_4 (n := 32) C dX9_findWay_30 rfl rfl ?_
      have hok := wok_of hx h24 (by omega)
      have hD := wok_all I hf hxp hok
      have hd := D_rg w
      have hw := way_ok I hf hD.1 (s0 := ((D0 w % 3 : Nat) : Int)) (s1 := ((D1 w % 3 : Nat) : Int)) (s2 := ((D2 w % 3 : Nat) : Int)) (by omega) hD.2.1 hD.2.2
      have hws := (wok_f I hf hxp hok).1
      have g0 : dgs w 0 / 3 = ((D0 w / 3 : Nat) : Int) ∧ dgs w 0 % 3 = ((D0 w % 3 : Nat) : Int) := by show ((D0 w : Nat) : Int) / 3 = _ ∧ ((D0 w : Nat) : Int) % 3 = _; omega
      have g1 : dgs w (0 + 1) / 3 = ((D1 w / 3 : Nat) : Int) ∧ dgs w (0 + 1) % 3 = ((D1 w % 3 : Nat) : Int) := by show ((D1 w : Nat) : Int) / 3 = _ ∧ ((D1 w : Nat) : Int) % 3 = _; omega
      have g2 : dgs w (0 + 1 + 1) / 3 = ((D2 w / 3 : Nat) : Int) ∧ dgs w (0 + 1 + 1) % 3 = ((D2 w % 3 : Nat) : Int) := by show ((D2 w : Nat) : Int) / 3 = _ ∧ ((D2 w : Nat) : Int) % 3 = _; omega
      refine m_fw_click C I (by omega) (by rw [g0.1]; omega) (by rw [g0.1]; exact hw.1.1) ?_
      rw [g0.1, g0.2]
      refine m_fw_click C (T := w1 S ((D0 w / 3 : Nat) : Int) ((D0 w % 3 : Nat) : Int)) hw.2.1.1 (by omega) (by rw [g1.1, hw.2.1.2.1]; omega) (by rw [g1.1]; exact hw.2.1.2.2.1) ?_
      rw [g1.1, g1.2]
      refine m_fw_click C (T := w2 S ((D0 w / 3 : Nat) : Int) ((D0 w % 3 : Nat) : Int) ((D1 w / 3 : Nat) : Int) ((D1 w % 3 : Nat) : Int)) hw.2.2.1.1 (by omega) (by rw [g2.1, hw.2.2.1.2.1]; omega) (by rw [g2.1]; exact hw.2.2.1.2.2.1) ?_
      rw [g2.1, g2.2]
      rw [show 0 + rSec S ((D0 w / 3 : Nat) : Int) ((D0 w % 3 : Nat) : Int) + rSec (w1 S ((D0 w / 3 : Nat) : Int) ((D0 w % 3 : Nat) : Int)) ((D1 w / 3 : Nat) : Int) ((D1 w % 3 : Nat) : Int) + rSec (w2 S ((D0 w / 3 : Nat) : Int) ((D0 w % 3 : Nat) : Int) ((D1 w / 3 : Nat) : Int) ((D1 w % 3 : Nat) : Int)) ((D2 w / 3 : Nat) : Int) ((D2 w % 3 : Nat) : Int) = wsec S w from by unfold wsec t3; rw [Int.zero_add]]
      refine zV_iload (n := 34) C dX9_findWay_32 rfl rfl ?_
      refine zV_iconst (n := 35) C dX9_findWay_34 rfl ?_
      refine zV_icmp_ge (n := 38) C 69 dX9_findWay_35 (by decide) (by omega) (by omega) rfl (fun h => ?_) (fun h => by exfalso; omega)
      refine zV_aload_n (i := 0) (n := 70) C dX9_findWay_69 rfl rfl rfl ?_
      refine zV_iload_n (i := 3) (n := 71) C dX9_findWay_70 rfl rfl rfl ?_
      refine zV_callV1u (n := 74) C zk8 jX9_takesBack lX9_157 (m_takesBack (d := d)) dX9_findWay_71 zs_ref rfl (Nat.le_of_ble_eq_true rfl) (zfit_of (by omega) (by decide)) ⟨Nat.le_refl _, Nat.le_refl _⟩ rfl ?_
      rw [zr_a, zrs_t]
      refine zS_istore_n_6_3 (n := 75) C dX9_findWay_74 rfl rfl ?_
      refine zV_aload_n (i := 0) (n := 76) C dX9_findWay_75 rfl rfl rfl ?_
      refine zV_getI (f := 8) (fi := 8) (n := 79) C zk8 fX9_171 dX9_findWay_76 zs_ref rfl (by decide) rfl rfl ?_
      rw [zr_b]
      refine zV_if_lt (n := 82) C 90 dX9_findWay_79 (by decide) (by first | omega | exact zb_rg) rfl (fun h79 => ?_) (fun h79 => ?_)
      · skip
        refine zV_iconst (n := 91) C dX9_findWay_90 rfl ?_
        refine zV_goto C 95 dX9_findWay_91 (by decide) ?_
        refine zS_istore_6_4 (n := 97) C dX9_findWay_95 rfl rfl ?_
        refine zV_aload_n (i := 0) (n := 98) C dX9_findWay_97 rfl rfl rfl ?_
        refine zV_iload (n := 100) C dX9_findWay_98 rfl rfl ?_
        refine zV_if_eq (n := 103) C 107 dX9_findWay_100 (by decide) (by first | omega | exact zb_rg) rfl (fun h => by exfalso; first | omega | exact zb_rg) (fun h100 => ?_)
        refine zV_iload_n (i := 3) (n := 104) C dX9_findWay_103 rfl rfl rfl ?_
        refine zV_goto C 111 dX9_findWay_104 (by decide) ?_
        refine zV_putI (f := 8) (fi := 8) (n := 114) C zk8 fX9_171 dX9_findWay_111 zs_ref rfl (by decide) rfl rfl rfl rfl ?_
        rw [zru_b]
        refine zV_iconst (n := 115) C dX9_findWay_114 rfl ?_
        refine zS_istore_6_5 (n := 117) C dX9_findWay_115 rfl rfl ?_
        refine m_fw_copy C (by omega) ?_
        refine m_fw_copy C (by omega) ?_
        refine m_fw_copy C (by omega) ?_
        refine zV_iload (n := 119) C dX9_findWay_117 rfl rfl ?_
        refine zV_iconst (n := 120) C dX9_findWay_119 rfl ?_
        refine zV_icmp_ge (n := 123) C 148 dX9_findWay_120 (by decide) (by omega) (by omega) rfl (fun h => ?_) (fun h => by exfalso; omega)
        refine zV_mem (μ' := (zr μ (wsec S w) (dgs w) (dgs w) S S)) (zag_zr (fun j j0 j1 => dgs_w j j0 j1)) ?_
        refine zS_iinc_6_2 (n := 151) C dX9_findWay_148 rfl rfl ?_
        refine zV_goto C 11 dX9_findWay_151 (by decide) ?_
        have eq : rFW x S (i + 1) w q = rFW x S i (w + 1) (wsec S w, dgs w) := by rw [rFW, if_pos h24]; unfold rSt; rw [if_pos (by omega)]
        rw [eq] at KK
        exact ih (w + 1) (wsec S w, dgs w) (dgs w) (.int (zi (wsec S w))) (.int (zi 1)) (.int (zi (0 + 1 + 1 + 1))) (show -1 ≤ wsec S w ∧ wsec S w ≤ 438 from by omega) (fun z => by rw [show w = 5831 from by omega]) (by omega) KK
      · skip
        refine zV_iload_n (i := 3) (n := 83) C dX9_findWay_82 rfl rfl rfl ?_
        refine zV_aload_n (i := 0) (n := 84) C dX9_findWay_83 rfl rfl rfl ?_
        refine zV_getI (f := 8) (fi := 8) (n := 87) C zk8 fX9_171 dX9_findWay_84 zs_ref rfl (by decide) rfl rfl ?_
        rw [zr_b]
        refine zV_icmp_ge (n := 90) C 94 dX9_findWay_87 (by decide) (by first | omega | exact zb_rg) (by first | omega | exact zb_rg) rfl (fun h87 => ?_) (fun h87 => ?_)
        · skip
          refine zV_iconst (n := 95) C dX9_findWay_94 rfl ?_
          refine zS_istore_6_4 (n := 97) C dX9_findWay_95 rfl rfl ?_
          refine zV_aload_n (i := 0) (n := 98) C dX9_findWay_97 rfl rfl rfl ?_
          refine zV_iload (n := 100) C dX9_findWay_98 rfl rfl ?_
          refine zV_if_eq (n := 103) C 107 dX9_findWay_100 (by decide) (by first | omega | exact zb_rg) rfl (fun h100 => ?_) (fun h => by exfalso; first | omega | exact zb_rg)
          refine zV_aload_n (i := 0) (n := 108) C dX9_findWay_107 rfl rfl rfl ?_
          refine zV_getI (f := 8) (fi := 8) (n := 111) C zk8 fX9_171 dX9_findWay_108 zs_ref rfl (by decide) rfl rfl ?_
          rw [zr_b]
          refine zV_putI (f := 8) (fi := 8) (n := 114) C zk8 fX9_171 dX9_findWay_111 zs_ref rfl (by decide) rfl rfl rfl rfl ?_
          rw [zru_b]
          refine zV_iconst (n := 115) C dX9_findWay_114 rfl ?_
          refine zS_istore_6_5 (n := 117) C dX9_findWay_115 rfl rfl ?_
          refine zV_iload (n := 119) C dX9_findWay_117 rfl rfl ?_
          refine zV_iconst (n := 120) C dX9_findWay_119 rfl ?_
          refine zV_icmp_ge (n := 123) C 148 dX9_findWay_120 (by decide) (by omega) (by omega) rfl (fun h => by exfalso; omega) (fun h => ?_)
          refine zV_iload (n := 125) C dX9_findWay_123 rfl rfl ?_
          refine zV_if_eq (n := 128) C 148 dX9_findWay_125 (by decide) (by omega) rfl (fun h => ?_) (fun h => by exfalso; omega)
          refine zS_iinc_6_2 (n := 151) C dX9_findWay_148 rfl rfl ?_
          refine zV_goto C 11 dX9_findWay_151 (by decide) ?_
          have eq : rFW x S (i + 1) w q = rFW x S i (w + 1) q := by rw [rFW, if_pos h24]; unfold rSt; rw [if_neg (by omega)]
          rw [eq] at KK
          exact ih (w + 1) q (dgs w) (.int (zi (wsec S w))) (.int (zi 0)) (.int (zi 0)) hq (fun z => by rw [show w = 5831 from by omega]) (by omega) KK
        · skip
          refine zV_iconst (n := 91) C dX9_findWay_90 rfl ?_
          refine zV_goto C 95 dX9_findWay_91 (by decide) ?_
          refine zS_istore_6_4 (n := 97) C dX9_findWay_95 rfl rfl ?_
          refine zV_aload_n (i := 0) (n := 98) C dX9_findWay_97 rfl rfl rfl ?_
          refine zV_iload (n := 100) C dX9_findWay_98 rfl rfl ?_
          refine zV_if_eq (n := 103) C 107 dX9_findWay_100 (by decide) (by first | omega | exact zb_rg) rfl (fun h => by exfalso; first | omega | exact zb_rg) (fun h100 => ?_)
          refine zV_iload_n (i := 3) (n := 104) C dX9_findWay_103 rfl rfl rfl ?_
          refine zV_goto C 111 dX9_findWay_104 (by decide) ?_
          refine zV_putI (f := 8) (fi := 8) (n := 114) C zk8 fX9_171 dX9_findWay_111 zs_ref rfl (by decide) rfl rfl rfl rfl ?_
          rw [zru_b]
          refine zV_iconst (n := 115) C dX9_findWay_114 rfl ?_
          refine zS_istore_6_5 (n := 117) C dX9_findWay_115 rfl rfl ?_
          refine m_fw_copy C (by omega) ?_
          refine m_fw_copy C (by omega) ?_
          refine m_fw_copy C (by omega) ?_
          refine zV_iload (n := 119) C dX9_findWay_117 rfl rfl ?_
          refine zV_iconst (n := 120) C dX9_findWay_119 rfl ?_
          refine zV_icmp_ge (n := 123) C 148 dX9_findWay_120 (by decide) (by omega) (by omega) rfl (fun h => ?_) (fun h => by exfalso; omega)
          refine zV_mem (μ' := (zr μ (wsec S w) (dgs w) (dgs w) S S)) (zag_zr (fun j j0 j1 => dgs_w j j0 j1)) ?_
          refine zS_iinc_6_2 (n := 151) C dX9_findWay_148 rfl rfl ?_
          refine zV_goto C 11 dX9_findWay_151 (by decide) ?_
          have eq : rFW x S (i + 1) w q = rFW x S i (w + 1) (wsec S w, dgs w) := by rw [rFW, if_pos h24]; unfold rSt; rw [if_pos (by omega)]
          rw [eq] at KK
          exact ih (w + 1) (wsec S w, dgs w) (dgs w) (.int (zi (wsec S w))) (.int (zi 1)) (.int (zi (0 + 1 + 1 + 1))) (show -1 ≤ wsec S w ∧ wsec S w ≤ 438 from by omega) (fun z => by rw [show w = 5831 from by omega]) (by omega) KK

theorem zfw_init {μ : zMem} {v : Int} : zset (zup μ 5 0 8 v) 5 4 (zup μ 5 0 8 v 5 1) = zr μ v (μ 5 6) (μ 5 7) (μ 5 1) (μ 5 1) := by
  have e : zup μ 5 0 8 v = zr μ v (μ 5 6) (μ 5 7) (μ 5 4) (μ 5 1) := by
    have q := zru_b (ν := μ) (b := μ 5 0 8) (v := v) (Fs := μ 5 6) (Fb := μ 5 7) (A := μ 5 4) (T := μ 5 1)
    rw [zr_self] at q
    exact q
  rw [e, zr_t, zrs_a]
theorem fold_ref {S F : Int → Int} {L : List Nat} (hL : ∀ w ∈ L, 0 ≤ wsec S w ∧ wsec S w ≤ 438) (hn : ¬ L = []) : (0 ≤ (L.foldl (rSt S) (-1, F)).1 ∧ (L.foldl (rSt S) (-1, F)).1 ≤ 438) ∧ ∃ w : Nat, (L.foldl (rSt S) (-1, F)).2 = dgs w := by
  have h := fold_rel (μ := fun _ _ _ => 0) L hL (-1, F) (fun _ _ _ => 0, -1, F, F) ⟨rfl, show (-1 : Int) ≤ -1 from by decide, show (-1 : Int) ≤ 438 from by decide, fun z => absurd z (show ¬ (0 : Int) ≤ -1 from by decide)⟩
  have h0 := h.2 (Or.inr hn)
  obtain ⟨e, a, b, c⟩ := h.1
  obtain ⟨w, hw, _⟩ := c h0
  exact ⟨by omega, w, hw⟩
theorem cwl_ne : ∀ x ∈ pop3, ¬ cwl x = [] := by decide +kernel
set_option maxRecDepth 100000 in
set_option maxHeartbeats 4000000 in
theorem m_findWay {Γ : zC} {l : Launch} {d : Nat} {μ : zMem} {N : Int} (I : rInv N (μ 5 1)) (hf : ∀ k : Int, 0 ≤ k → k < 3 → itS (μ 5 1) k 4 = -1) {x : Nat} (hx : x ∈ pop3) (hxp : (x : Int) ≤ rP2 ((μ 5 1) 0) - 1) : zRet Γ l (d + 5) qX9_findWay [.ref (za Γ 5 0), .int (zi (x : Int))] μ none (zr μ ((cwl x).foldl (rSt (μ 5 1)) (-1, μ 5 7)).1 (dgs 5831) ((cwl x).foldl (rSt (μ 5 1)) (-1, μ 5 7)).2 (μ 5 1) (μ 5 1)) := by
  refine zRet.mk 4 [.ref (za Γ 5 0), .int (zi (x : Int)), .null, .null, .null, .null] RX9 rfl (by decide +kernel) (Nat.le_of_ble_eq_true rfl) rfl ?_
  intro p e s m below meth c C hr hlk
  refine zV_aload_n (i := 0) (n := 1) C dX9_findWay_0 rfl rfl rfl ?_
  refine zV_iconst (n := 2) C dX9_findWay_1 rfl ?_
  refine zV_putI (f := 8) (fi := 8) (n := 5) C zk8 fX9_171 dX9_findWay_2 zs_ref rfl (by decide) rfl rfl rfl rfl ?_
  refine zV_aload_n (i := 0) (n := 6) C dX9_findWay_5 rfl rfl rfl ?_
  refine zV_callV0v (n := 9) C zk8 jX9_laysAside lX9_154 (m_laysAside (d := d)) dX9_findWay_6 zs_ref rfl (Nat.le_of_ble_eq_true rfl) (zfit_of (by omega) (by decide)) ⟨Nat.le_refl _, Nat.le_refl _⟩ rfl ?_
  rw [zfw_init]
  refine zV_iconst (n := 10) C dX9_findWay_9 rfl ?_
  refine zS_istore_n_6_2 (n := 11) C dX9_findWay_10 rfl rfl ?_
  refine m_findWay_loop (S := (μ 5 1)) C I hf hx hxp 5832 0 (-1, μ 5 7) (μ 5 6) .null .null .null (show (-1 : Int) ≤ -1 ∧ (-1 : Int) ≤ 438 from by decide) (fun z => by omega) (by omega) (fun v3 v4 v5 => ?_)
  exact zV_return C hr hlk dX9_findWay_154 rfl (by rw [rFW_eq, wl_tab x hx])

set_option maxRecDepth 100000 in
set_option maxHeartbeats 4000000 in
theorem m_all {Γ : zC} {l : Launch} {d : Nat} {μ : zMem} {N : Int} (I : rInv N (μ 5 1)) {x : Int} (hx : -2147483648 ≤ x ∧ x ≤ 2147483647) : zRet Γ l (d + 6) qX9_all [.ref (za Γ 5 0), .int (zi x)] μ (some (.int (zi (if rW3 (μ 5 1) x = 0 then ((cwl x.toNat).foldl (rSt (μ 5 1)) (-1, μ 5 7)).1 else rW3 (μ 5 1) x)))) (if rW3 (μ 5 1) x = 0 then (zr μ ((cwl x.toNat).foldl (rSt (μ 5 1)) (-1, μ 5 7)).1 (dgs 5831) ((cwl x.toNat).foldl (rSt (μ 5 1)) (-1, μ 5 7)).2 (μ 5 1) (μ 5 1)) else zset μ 5 5 (rFind (μ 5 5) (rW3 (μ 5 1) x))) := by
  refine zRet.mk 1 [.ref (za Γ 5 0), .int (zi x), .null] RX9 rfl (by decide +kernel) (Nat.le_of_ble_eq_true rfl) rfl ?_
  intro p e s m below meth c C hr hlk
  have hw := rW3_rg (μ 5 1) x
  refine zV_aload_n (i := 0) (n := 1) C dX9_all_0 rfl rfl rfl ?_
  refine zV_iload_n (i := 1) (n := 2) C dX9_all_1 rfl rfl rfl ?_
  refine zV_callV1u (n := 5) C zk8 jX9_wrongThree lX9_178 (m_wrongThree (d := d) I (by omega)) dX9_all_2 zs_ref rfl (Nat.le_of_ble_eq_true rfl) (zfit_of (by omega) (by decide)) ⟨Nat.le_refl _, Nat.le_refl _⟩ rfl ?_
  refine zS_istore_n_3_2 (n := 6) C dX9_all_5 rfl rfl ?_
  refine zV_iload_n (i := 2) (n := 7) C dX9_all_6 rfl rfl rfl ?_
  refine zV_if_eq (n := 10) C 16 dX9_all_7 (by decide) (by first | omega | exact zb_rg) rfl (fun h7 => ?_) (fun h7 => ?_)
  · skip
    have hA : ((0 ≤ x ∧ x ≤ rP2 ((μ 5 1) 0) - 1) ∧ rPop x = 3) ∧ rSit (μ 5 1) = 0 := by
      have hz : rW3 (μ 5 1) x = 0 := by omega
      unfold rW3 at hz
      split at hz
      · split at hz
        · split at hz
          · exact ⟨⟨by assumption, by assumption⟩, by assumption⟩
          · omega
        · omega
      · omega
    have hp2 := rP2_rg ((μ 5 1) 0)
    have h3 : x.toNat ∈ pop3 := pop3_tab x.toNat (by omega) (by rw [Int.toNat_of_nonneg (by omega)]; omega)
    have ex : ((x.toNat : Nat) : Int) = x := Int.toNat_of_nonneg (by omega)
    have hff := fold_ref (S := (μ 5 1)) (F := μ 5 7) (L := cwl x.toNat) (fun w hw => (wok_f I (rSit_none I hA.2) (by rw [ex]; omega) (wok_tab x.toNat h3 w hw)).1) (cwl_ne x.toNat h3)
    refine zV_aload_n (i := 0) (n := 17) C dX9_all_16 rfl rfl rfl ?_
    refine zV_iload_n (i := 1) (n := 18) C dX9_all_17 rfl rfl rfl ?_
    refine zV_callV1v (n := 21) C zk8 jX9_findWay lX9_181 ((by have q := m_findWay (d := d) (l := l) (Γ := Γ) (μ := μ) I (rSit_none I hA.2) h3 (by rw [ex]; omega); rw [ex] at q; exact q)) dX9_all_18 zs_ref rfl (Nat.le_of_ble_eq_true rfl) (zfit_of (by omega) (by decide)) ⟨Nat.le_refl _, Nat.le_refl _⟩ rfl ?_
    refine zV_aload_n (i := 0) (n := 22) C dX9_all_21 rfl rfl rfl ?_
    refine zV_getI (f := 8) (fi := 8) (n := 25) C zk8 fX9_171 dX9_all_22 zs_ref rfl (by decide) rfl rfl ?_
    rw [zr_b]
    exact zV_ireturn C hr hlk dX9_all_25 (by first | exact congrArg (fun z => some (Value.int (zi z))) (zif_t (by omega) (rfl)) | exact congrArg (fun z => some (Value.int (zi z))) (zif_f (by omega) rfl)) (by first | exact zif_t (by omega) (rfl) | exact zif_f (by omega) rfl)
  · skip
    refine zV_aload_n (i := 0) (n := 11) C dX9_all_10 rfl rfl rfl ?_
    refine zV_iload_n (i := 2) (n := 12) C dX9_all_11 rfl rfl rfl ?_
    refine zV_callV1u (n := 15) C zk8 jX9_finds lX9_75 (m_finds (d := d) (by omega)) dX9_all_12 zs_ref rfl (Nat.le_of_ble_eq_true rfl) (zfit_of (by omega) (by decide)) ⟨Nat.le_refl _, Nat.le_refl _⟩ rfl ?_
    exact zV_ireturn C hr hlk dX9_all_15 (by first | exact congrArg (fun z => some (Value.int (zi z))) (zif_t (by omega) (rfl)) | exact congrArg (fun z => some (Value.int (zi z))) (zif_f (by omega) rfl)) (by first | exact zif_t (by omega) (rfl) | exact zif_f (by omega) rfl)

set_option maxRecDepth 100000 in
set_option maxHeartbeats 4000000 in
theorem m_way {Γ : zC} {l : Launch} {d : Nat} {μ : zMem} {N : Int} (I : rInv N (μ 5 1)) {x : Int} (hx : -2147483648 ≤ x ∧ x ≤ 2147483647) {k : Int} (hk : -2147483648 ≤ k ∧ k ≤ 2147483647) : zRet Γ l (d + 6) qX9_way [.ref (za Γ 5 0), .int (zi x), .int (zi k)] μ (some (.int (zi (if (if (0 ≤ k ∧ k ≤ 2) then rW3 (μ 5 1) x else -1000000001) = 0 then 10 * (((cwl x.toNat).foldl (rSt (μ 5 1)) (-1, μ 5 7)).2 k / 3) + ((cwl x.toNat).foldl (rSt (μ 5 1)) (-1, μ 5 7)).2 k % 3 else (if (0 ≤ k ∧ k ≤ 2) then rW3 (μ 5 1) x else -1000000001))))) (if (if (0 ≤ k ∧ k ≤ 2) then rW3 (μ 5 1) x else -1000000001) = 0 then (zr μ ((cwl x.toNat).foldl (rSt (μ 5 1)) (-1, μ 5 7)).1 (dgs 5831) ((cwl x.toNat).foldl (rSt (μ 5 1)) (-1, μ 5 7)).2 (μ 5 1) (μ 5 1)) else zset μ 5 5 (rFind (μ 5 5) ((if (0 ≤ k ∧ k ≤ 2) then rW3 (μ 5 1) x else -1000000001)))) := by
  refine zRet.mk 1 [.ref (za Γ 5 0), .int (zi x), .int (zi k), .null] RX9 rfl (by decide +kernel) (Nat.le_of_ble_eq_true rfl) rfl ?_
  intro p e s m below meth c C hr hlk
  have hw := rW3_rg (μ 5 1) x
  refine zV_iload_n (i := 2) (n := 1) C dX9_way_0 rfl rfl rfl ?_
  refine zV_i2l (n := 2) C dX9_way_1 (by first | omega | exact zb_rg) rfl ?_
  refine zV_lconst (v := 0) (n := 3) C dX9_way_2 rfl rfl ?_
  refine zV_ldc2 (n := 6) C dX9_way_3 kX9_52 rfl ?_
  refine zV_callS3u (n := 9) C jX9_in lX9_54 (m_in (d := d) (by omega) (by omega) (by omega)) dX9_way_6 (Nat.le_of_ble_eq_true rfl) (zfit_of (by omega) (by decide)) ⟨Nat.le_refl _, Nat.le_refl _⟩ rfl ?_
  refine zV_if_eq (n := 12) C 20 dX9_way_9 (by decide) (by first | omega | exact zb_rg) rfl (fun h9 => ?_) (fun h9 => ?_)
  · skip
    simp only [zb_eq0, Decidable.not_not] at h9
    refine zV_ldc (n := 22) C dX9_way_20 kX9_51 rfl ?_
    refine zS_istore_n_4_3 (n := 23) C dX9_way_22 rfl rfl ?_
    refine zV_iload_n (i := 3) (n := 24) C dX9_way_23 rfl rfl rfl ?_
    refine zV_if_eq (n := 27) C 33 dX9_way_24 (by decide) (by first | omega | exact zb_rg) rfl (fun h24 => ?_) (fun h24 => ?_)
    · skip
      have hA : ((0 ≤ x ∧ x ≤ rP2 ((μ 5 1) 0) - 1) ∧ rPop x = 3) ∧ rSit (μ 5 1) = 0 := by
        have hz : rW3 (μ 5 1) x = 0 := by omega
        unfold rW3 at hz
        split at hz
        · split at hz
          · split at hz
            · exact ⟨⟨by assumption, by assumption⟩, by assumption⟩
            · omega
          · omega
        · omega
      have hp2 := rP2_rg ((μ 5 1) 0)
      have h3 : x.toNat ∈ pop3 := pop3_tab x.toNat (by omega) (by rw [Int.toNat_of_nonneg (by omega)]; omega)
      have ex : ((x.toNat : Nat) : Int) = x := Int.toNat_of_nonneg (by omega)
      have hff := fold_ref (S := (μ 5 1)) (F := μ 5 7) (L := cwl x.toNat) (fun w hw => (wok_f I (rSit_none I hA.2) (by rw [ex]; omega) (wok_tab x.toNat h3 w hw)).1) (cwl_ne x.toNat h3)
      obtain ⟨wq, hwq⟩ := hff.2
      have hdr := dgs_rg (w := wq) (k := k)
      rw [← hwq] at hdr
      refine zV_aload_n (i := 0) (n := 34) C dX9_way_33 rfl rfl rfl ?_
      refine zV_iload_n (i := 1) (n := 35) C dX9_way_34 rfl rfl rfl ?_
      refine zV_callV1v (n := 38) C zk8 jX9_findWay lX9_181 ((by have q := m_findWay (d := d) (l := l) (Γ := Γ) (μ := μ) I (rSit_none I hA.2) h3 (by rw [ex]; omega); rw [ex] at q; exact q)) dX9_way_35 zs_ref rfl (Nat.le_of_ble_eq_true rfl) (zfit_of (by omega) (by decide)) ⟨Nat.le_refl _, Nat.le_refl _⟩ rfl ?_
      refine zV_bipush (n := 40) C dX9_way_38 (by decide) rfl ?_
      refine zV_aload_n (i := 0) (n := 41) C dX9_way_40 rfl rfl rfl ?_
      refine zV_getP (f := 7) (n := 44) C zk8 fX9_28 dX9_way_41 zs_ref rfl (by decide) rfl ?_
      refine zV_iload_n (i := 2) (n := 45) C dX9_way_44 rfl rfl rfl ?_
      refine zV_iald (n := 46) C dX9_way_45 zs_rbest (by first | omega | exact zb_rg) (by decide) rfl ?_
      rw [zr_f]
      refine zV_iconst (n := 47) C dX9_way_46 rfl ?_
      refine zV_idiv (n := 48) C dX9_way_47 (by first | omega | exact zb_rg) (by first | omega | exact zb_rg) rfl ?_
      refine zV_imul (n := 49) C dX9_way_48 rfl ?_
      refine zV_aload_n (i := 0) (n := 50) C dX9_way_49 rfl rfl rfl ?_
      refine zV_getP (f := 7) (n := 53) C zk8 fX9_28 dX9_way_50 zs_ref rfl (by decide) rfl ?_
      refine zV_iload_n (i := 2) (n := 54) C dX9_way_53 rfl rfl rfl ?_
      refine zV_iald (n := 55) C dX9_way_54 zs_rbest (by first | omega | exact zb_rg) (by decide) rfl ?_
      rw [zr_f]
      refine zV_iconst (n := 56) C dX9_way_55 rfl ?_
      refine zV_irem (n := 57) C dX9_way_56 (by first | omega | exact zb_rg) (by first | omega | exact zb_rg) rfl ?_
      refine zV_iadd (n := 58) C dX9_way_57 rfl ?_
      exact zV_ireturn C hr hlk dX9_way_58 (by first | exact congrArg (fun z => some (Value.int (zi z))) (zif_t (by first | (rw [if_pos (by omega)]; omega) | omega) rfl) | exact congrArg (fun z => some (Value.int (zi z))) (by rw [if_pos (show 0 ≤ k ∧ k ≤ 2 from by omega)]; exact zif_f (by omega) rfl) | exact congrArg (fun z => some (Value.int (zi z))) (by rw [if_neg (show ¬ (0 ≤ k ∧ k ≤ 2) from by omega)]; rfl)) (by first | exact zif_t (by first | (rw [if_pos (by omega)]; omega) | omega) rfl | (rw [if_pos (show 0 ≤ k ∧ k ≤ 2 from by omega)]; exact zif_f (by omega) rfl) | (rw [if_neg (show ¬ (0 ≤ k ∧ k ≤ 2) from by omega)]; rfl))
    · skip
      refine zV_aload_n (i := 0) (n := 28) C dX9_way_27 rfl rfl rfl ?_
      refine zV_iload_n (i := 3) (n := 29) C dX9_way_28 rfl rfl rfl ?_
      refine zV_callV1u (n := 32) C zk8 jX9_finds lX9_75 (m_finds (d := d) (by omega)) dX9_way_29 zs_ref rfl (Nat.le_of_ble_eq_true rfl) (zfit_of (by omega) (by decide)) ⟨Nat.le_refl _, Nat.le_refl _⟩ rfl ?_
      exact zV_ireturn C hr hlk dX9_way_32 (by first | exact congrArg (fun z => some (Value.int (zi z))) (zif_t (by first | (rw [if_pos (by omega)]; omega) | omega) rfl) | exact congrArg (fun z => some (Value.int (zi z))) (by rw [if_pos (show 0 ≤ k ∧ k ≤ 2 from by omega)]; exact zif_f (by omega) rfl) | exact congrArg (fun z => some (Value.int (zi z))) (by rw [if_neg (show ¬ (0 ≤ k ∧ k ≤ 2) from by omega)]; rfl)) (by first | exact zif_t (by first | (rw [if_pos (by omega)]; omega) | omega) rfl | (rw [if_pos (show 0 ≤ k ∧ k ≤ 2 from by omega)]; exact zif_f (by omega) rfl) | (rw [if_neg (show ¬ (0 ≤ k ∧ k ≤ 2) from by omega)]; rfl))
  · skip
    simp only [zb_eq0, Decidable.not_not] at h9
    refine zV_aload_n (i := 0) (n := 13) C dX9_way_12 rfl rfl rfl ?_
    refine zV_iload_n (i := 1) (n := 14) C dX9_way_13 rfl rfl rfl ?_
    refine zV_callV1u (n := 17) C zk8 jX9_wrongThree lX9_178 (m_wrongThree (d := d) I (by omega)) dX9_way_14 zs_ref rfl (Nat.le_of_ble_eq_true rfl) (zfit_of (by omega) (by decide)) ⟨Nat.le_refl _, Nat.le_refl _⟩ rfl ?_
    refine zV_goto C 22 dX9_way_17 (by decide) ?_
    refine zS_istore_n_4_3 (n := 23) C dX9_way_22 rfl rfl ?_
    refine zV_iload_n (i := 3) (n := 24) C dX9_way_23 rfl rfl rfl ?_
    refine zV_if_eq (n := 27) C 33 dX9_way_24 (by decide) (by first | omega | exact zb_rg) rfl (fun h24 => ?_) (fun h24 => ?_)
    · skip
      have hA : ((0 ≤ x ∧ x ≤ rP2 ((μ 5 1) 0) - 1) ∧ rPop x = 3) ∧ rSit (μ 5 1) = 0 := by
        have hz : rW3 (μ 5 1) x = 0 := by omega
        unfold rW3 at hz
        split at hz
        · split at hz
          · split at hz
            · exact ⟨⟨by assumption, by assumption⟩, by assumption⟩
            · omega
          · omega
        · omega
      have hp2 := rP2_rg ((μ 5 1) 0)
      have h3 : x.toNat ∈ pop3 := pop3_tab x.toNat (by omega) (by rw [Int.toNat_of_nonneg (by omega)]; omega)
      have ex : ((x.toNat : Nat) : Int) = x := Int.toNat_of_nonneg (by omega)
      have hff := fold_ref (S := (μ 5 1)) (F := μ 5 7) (L := cwl x.toNat) (fun w hw => (wok_f I (rSit_none I hA.2) (by rw [ex]; omega) (wok_tab x.toNat h3 w hw)).1) (cwl_ne x.toNat h3)
      obtain ⟨wq, hwq⟩ := hff.2
      have hdr := dgs_rg (w := wq) (k := k)
      rw [← hwq] at hdr
      refine zV_aload_n (i := 0) (n := 34) C dX9_way_33 rfl rfl rfl ?_
      refine zV_iload_n (i := 1) (n := 35) C dX9_way_34 rfl rfl rfl ?_
      refine zV_callV1v (n := 38) C zk8 jX9_findWay lX9_181 ((by have q := m_findWay (d := d) (l := l) (Γ := Γ) (μ := μ) I (rSit_none I hA.2) h3 (by rw [ex]; omega); rw [ex] at q; exact q)) dX9_way_35 zs_ref rfl (Nat.le_of_ble_eq_true rfl) (zfit_of (by omega) (by decide)) ⟨Nat.le_refl _, Nat.le_refl _⟩ rfl ?_
      refine zV_bipush (n := 40) C dX9_way_38 (by decide) rfl ?_
      refine zV_aload_n (i := 0) (n := 41) C dX9_way_40 rfl rfl rfl ?_
      refine zV_getP (f := 7) (n := 44) C zk8 fX9_28 dX9_way_41 zs_ref rfl (by decide) rfl ?_
      refine zV_iload_n (i := 2) (n := 45) C dX9_way_44 rfl rfl rfl ?_
      refine zV_iald (n := 46) C dX9_way_45 zs_rbest (by first | omega | exact zb_rg) (by decide) rfl ?_
      rw [zr_f]
      refine zV_iconst (n := 47) C dX9_way_46 rfl ?_
      refine zV_idiv (n := 48) C dX9_way_47 (by first | omega | exact zb_rg) (by first | omega | exact zb_rg) rfl ?_
      refine zV_imul (n := 49) C dX9_way_48 rfl ?_
      refine zV_aload_n (i := 0) (n := 50) C dX9_way_49 rfl rfl rfl ?_
      refine zV_getP (f := 7) (n := 53) C zk8 fX9_28 dX9_way_50 zs_ref rfl (by decide) rfl ?_
      refine zV_iload_n (i := 2) (n := 54) C dX9_way_53 rfl rfl rfl ?_
      refine zV_iald (n := 55) C dX9_way_54 zs_rbest (by first | omega | exact zb_rg) (by decide) rfl ?_
      rw [zr_f]
      refine zV_iconst (n := 56) C dX9_way_55 rfl ?_
      refine zV_irem (n := 57) C dX9_way_56 (by first | omega | exact zb_rg) (by first | omega | exact zb_rg) rfl ?_
      refine zV_iadd (n := 58) C dX9_way_57 rfl ?_
      exact zV_ireturn C hr hlk dX9_way_58 (by first | exact congrArg (fun z => some (Value.int (zi z))) (zif_t (by first | (rw [if_pos (by omega)]; omega) | omega) rfl) | exact congrArg (fun z => some (Value.int (zi z))) (by rw [if_pos (show 0 ≤ k ∧ k ≤ 2 from by omega)]; exact zif_f (by omega) rfl) | exact congrArg (fun z => some (Value.int (zi z))) (by rw [if_neg (show ¬ (0 ≤ k ∧ k ≤ 2) from by omega)]; rfl)) (by first | exact zif_t (by first | (rw [if_pos (by omega)]; omega) | omega) rfl | (rw [if_pos (show 0 ≤ k ∧ k ≤ 2 from by omega)]; exact zif_f (by omega) rfl) | (rw [if_neg (show ¬ (0 ≤ k ∧ k ≤ 2) from by omega)]; rfl))
    · skip
      refine zV_aload_n (i := 0) (n := 28) C dX9_way_27 rfl rfl rfl ?_
      refine zV_iload_n (i := 3) (n := 29) C dX9_way_28 rfl rfl rfl ?_
      refine zV_callV1u (n := 32) C zk8 jX9_finds lX9_75 (m_finds (d := d) (by omega)) dX9_way_29 zs_ref rfl (Nat.le_of_ble_eq_true rfl) (zfit_of (by omega) (by decide)) ⟨Nat.le_refl _, Nat.le_refl _⟩ rfl ?_
      exact zV_ireturn C hr hlk dX9_way_32 (by first | exact congrArg (fun z => some (Value.int (zi z))) (zif_t (by first | (rw [if_pos (by omega)]; omega) | omega) rfl) | exact congrArg (fun z => some (Value.int (zi z))) (by rw [if_pos (show 0 ≤ k ∧ k ≤ 2 from by omega)]; exact zif_f (by omega) rfl) | exact congrArg (fun z => some (Value.int (zi z))) (by rw [if_neg (show ¬ (0 ≤ k ∧ k ≤ 2) from by omega)]; rfl)) (by first | exact zif_t (by first | (rw [if_pos (by omega)]; omega) | omega) rfl | (rw [if_pos (show 0 ≤ k ∧ k ≤ 2 from by omega)]; exact zif_f (by omega) rfl) | (rw [if_neg (show ¬ (0 ≤ k ∧ k ≤ 2) from by omega)]; rfl))

