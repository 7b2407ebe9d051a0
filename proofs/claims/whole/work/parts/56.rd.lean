/-! text: the class's reader and the reference's read the same -/
def zwd (i : Nat) : List Int := (zbyt.getD i []).map Int32.toInt
def zK (i : Nat) : Int := wK 0 (zwd i)
theorem zwd_tab : ∀ i : Nat, i < 14 → (zwd i).length = zlen.getD i 0 ∧ (∀ c ∈ zwd i, 97 ≤ c ∧ c ≤ 122) ∧ (zwd i).drop (zlen.getD i 0) = [] ∧ 0 < zK i := by decide +kernel
theorem zwd_drop : ∀ i : Nat, i < 14 → ∀ j : Nat, j < zlen.getD i 0 → (zwd i).drop j = zch i (j : Int) :: (zwd i).drop (j + 1) := by decide +kernel
theorem cEq_iff {T : Int → Int} {f : Int} {i : Nat} (hi : i < 14) : ∀ {r j : Nat}, j + r = zlen.getD i 0 → (cEq T f i r (j : Int) = 1 ↔ isWd T (f + (j : Int)) ((zwd i).drop j)) := by
  intro r
  induction r with
  | zero =>
    intro j hj
    rw [show j = zlen.getD i 0 from by omega, (zwd_tab i hi).2.2.1]
    exact ⟨fun _ => trivial, fun _ => rfl⟩
  | succ r ih =>
    intro j hj
    rw [zwd_drop i hi j (by omega)]
    have h := ih (j := j + 1) (by omega)
    rw [show ((j + 1 : Nat) : Int) = (j : Int) + 1 from by omega, show f + ((j : Int) + 1) = f + (j : Int) + 1 from by omega] at h
    show (if T (f + (j : Int)) = zch i (j : Int) then cEq T f i r ((j : Int) + 1) else 0) = 1 ↔ T (f + (j : Int)) = zch i (j : Int) ∧ isWd T (f + (j : Int) + 1) ((zwd i).drop (j + 1))
    rw [← h]
    split
    · rename_i q
      exact ⟨fun z => ⟨q, z⟩, fun z => z.2⟩
    · rename_i q
      exact ⟨fun z => by omega, fun z => absurd z.1 q⟩
theorem cW_iff {T : Int → Int} {n f v : Int} {S : Int → Int} {i : Nat} (hi : i < 14) (hT : tapeOk T n) (hf : 0 ≤ f ∧ f ≤ n) : cW T n i f (nxT T n f) ↔ pWord T n (f, nxT T n f, v, 0, S) = zK i := by
  have hz := zwd_tab i hi
  have h6 := (zlen_tab i hi).2.2.1
  have ht := nxT_rg hT hf
  by_cases hk : tk (bA T n f) = 1
  · have e : pWord T n (f, nxT T n f, v, 0, S) = wh T (nxT T n f - f).toNat f 0 := if_pos ⟨rfl, hk⟩
    have hw := (wh_word (T := T) (n := zlen.getD i 0) (r := zwd i) (i := (nxT T n f - f).toNat) (e := f) hz.1 h6 hz.2.1 (fun j j0 j1 => (tok_let hk j0 (by omega)).1)).2
    have hq := cEq_iff (T := T) (f := f) hi (r := zlen.getD i 0) (j := 0) (by omega)
    rw [show ((0 : Nat) : Int) = 0 from rfl, Int.add_zero] at hq
    rw [e]
    unfold zK
    rw [hw]
    constructor
    · intro q
      exact ⟨by have := q.2.1; omega, hq.mp q.2.2⟩
    · intro q
      exact ⟨hk, by have := q.1; omega, hq.mpr q.2⟩
  · have e : pWord T n (f, nxT T n f, v, 0, S) = 0 := if_neg (fun q => hk q.2)
    rw [e]
    constructor
    · intro q; exact absurd q.1 hk
    · intro q; omega
theorem zK_tab : zK 0 = 3417476 ∧ zK 1 = 52535474 ∧ zK 2 = 2343 ∧ zK 3 = 66649 ∧ zK 4 = 284930226 ∧ zK 5 = 628102 ∧ zK 6 = 627764 ∧ zK 7 = 591150 ∧ zK 8 = 632645 ∧ zK 9 = 441828 ∧ zK 10 = 113716 ∧ zK 11 = 695520915 ∧ zK 12 = 120239187 ∧ zK 13 = 693713060 := by decide +kernel
theorem cV_val {T : Int → Int} {n f v w : Int} {S : Int → Int} (hT : tapeOk T n) (hf : 0 ≤ f ∧ f ≤ n) : cV T n f (nxT T n f) = zmin 1000 (pVal T n (f, nxT T n f, v, w, S)) ∧ 0 ≤ pVal T n (f, nxT T n f, v, w, S) := by
  have ht := nxT_rg hT hf
  unfold cV pVal
  by_cases hk : tk (bA T n f) = 2
  · rw [if_pos hk, if_pos hk]
    have h := vl_eq (T := T) (i := (nxT T n f - f).toNat) (e := f) (v := 0) (by omega) (fun j j0 j1 => (tok_dig hk j0 (by omega)).1)
    rw [show zmin 1000 0 = 0 from rfl] at h
    exact ⟨h.1, h.2.1⟩
  · rw [if_neg hk, if_neg hk]
    exact ⟨rfl, Int.le_refl _⟩
/-- the two readers stand alike -/
def rl (C : Cst) (P : Pst) : Prop := (Cst.l C = -1 ∧ Pst.w P = 0 ∧ Cst.f C = Pst.f P ∧ Cst.t C = Pst.t P ∧ Cst.S C = Pst.S P) ∨ (¬ Cst.l C = -1 ∧ Pst.w P = 1 ∧ Pst.f P = Cst.l C)
/-- alike, but that the class has put 0 at a place already -/
def rl0 (j : Int) (C : Cst) (P : Pst) : Prop := (Cst.l C = -1 ∧ Pst.w P = 0 ∧ Cst.f C = Pst.f P ∧ Cst.t C = Pst.t P ∧ Cst.S C = zfu (Pst.S P) j 0) ∨ (¬ Cst.l C = -1 ∧ Pst.w P = 1 ∧ Pst.f P = Cst.l C)
section RL
variable {N n : Int} {T : Int → Int}
theorem pWord_w {P : Pst} (h : Pst.w P = 1) : pWord T n P = 0 := if_neg (fun q => by omega)
theorem pMust_f {P : Pst} {b : Int} (h : Pst.w P = 1) : Pst.w (pMust T n b P) = 1 ∧ Pst.f (pMust T n b P) = Pst.f P := by
  unfold pMust
  rw [if_neg (fun q => by omega)]
  exact ⟨rfl, rfl⟩
theorem pNum_f {P : Pst} {hi : Int} (h : Pst.w P = 1) : pNum T n hi P = P := if_neg (by omega)
theorem pPart_f {P : Pst} {K idx hi : Int} (h : Pst.w P = 1) (hK : 0 < K) : pPart T n K idx hi P = P := if_neg (by rw [pWord_w h]; omega)
theorem pMay_f {P : Pst} {K idx : Int} (h : Pst.w P = 1) (hK : 0 < K) : Pst.w (pMay T n K idx P) = 1 ∧ Pst.f (pMay T n K idx P) = Pst.f P := by
  unfold pMay
  rw [if_neg (by rw [pWord_w h]; omega)]
  exact ⟨h, rfl⟩
theorem pPut_f {P : Pst} {idx : Int} : Pst.w (pPut idx P) = Pst.w P ∧ Pst.f (pPut idx P) = Pst.f P := ⟨rfl, rfl⟩
/-- a number behind a word -/
theorem nb_rl {hi f t v : Int} {S S' : Int → Int} (hT : tapeOk T n) (hC : cOk N T n (f, t, -1, S)) (hh : 0 ≤ hi ∧ hi ≤ 999) :
    (Cst.l (cNB T n hi (f, t, -1, S)).1 = -1 ∧ Pst.w (pNum T n hi (pMust T n 1 (f, t, v, 0, S'))) = 0 ∧ Cst.f (cNB T n hi (f, t, -1, S)).1 = Pst.f (pNum T n hi (pMust T n 1 (f, t, v, 0, S'))) ∧ Cst.t (cNB T n hi (f, t, -1, S)).1 = Pst.t (pNum T n hi (pMust T n 1 (f, t, v, 0, S'))) ∧ (cNB T n hi (f, t, -1, S)).2 = Pst.v (pNum T n hi (pMust T n 1 (f, t, v, 0, S')))) ∨
    (¬ Cst.l (cNB T n hi (f, t, -1, S)).1 = -1 ∧ Pst.w (pNum T n hi (pMust T n 1 (f, t, v, 0, S'))) = 1 ∧ Pst.f (pNum T n hi (pMust T n 1 (f, t, v, 0, S'))) = Cst.l (cNB T n hi (f, t, -1, S)).1) := by
  have h1 := (cNx_ok hT hC).1
  have e1 : pMust T n 1 (f, t, v, 0, S') = (nxF T n t, nxT T n (nxF T n t), v, 0, S') := if_pos ⟨rfl, rfl⟩
  have e2 : cNx T n (f, t, -1, S) = (nxF T n t, nxT T n (nxF T n t), -1, S) := rfl
  have hF : 0 ≤ nxF T n t ∧ nxF T n t ≤ n := h1.1
  rw [e1]
  have hv := cV_val (v := v) (w := 0) (S := S') hT hF
  have en : pNum T n hi (nxF T n t, nxT T n (nxF T n t), v, 0, S') = pMust T n (if tk (bA T n (nxF T n t)) = 2 ∧ pVal T n (nxF T n t, nxT T n (nxF T n t), v, 0, S') ≤ hi then 1 else 0) (nxF T n t, nxT T n (nxF T n t), pVal T n (nxF T n t, nxT T n (nxF T n t), v, 0, S'), 0, S') := if_pos rfl
  rw [en]
  generalize pVal T n (nxF T n t, nxT T n (nxF T n t), v, 0, S') = u at hv ⊢
  by_cases hok : cOkN T n hi (nxF T n t, nxT T n (nxF T n t), -1, S)
  · left
    have hu : cV T n (nxF T n t) (nxT T n (nxF T n t)) = u ∧ u ≤ hi := by
      have q : cV T n (nxF T n t) (nxT T n (nxF T n t)) ≤ hi := hok.2
      rw [hv.1] at q ⊢
      unfold zmin at q ⊢
      split at q
      · omega
      · rename_i z
        rw [if_neg z] at *
        omega
    have ec : cNB T n hi (f, t, -1, S) = (cNx T n (nxF T n t, nxT T n (nxF T n t), -1, S), cV T n (nxF T n t) (nxT T n (nxF T n t))) := if_pos hok
    rw [ec, if_pos ⟨hok.1, hu.2⟩, hu.1]
    have em : pMust T n 1 (nxF T n t, nxT T n (nxF T n t), u, 0, S') = pTok T n (nxF T n t, nxT T n (nxF T n t), u, 0, S') := if_pos ⟨rfl, rfl⟩
    rw [em]
    exact ⟨rfl, rfl, rfl, rfl, rfl⟩
  · right
    have hno : ¬ (tk (bA T n (nxF T n t)) = 2 ∧ u ≤ hi) := fun q => hok ⟨q.1, by
      show cV T n (nxF T n t) (nxT T n (nxF T n t)) ≤ hi
      rw [hv.1]
      unfold zmin
      split <;> omega⟩
    have ec : cNB T n hi (f, t, -1, S) = (cFlt (nxF T n t, nxT T n (nxF T n t), -1, S), 0) := if_neg hok
    rw [ec, if_neg hno]
    have em : pMust T n 0 (nxF T n t, nxT T n (nxF T n t), u, 0, S') = (nxF T n t, nxT T n (nxF T n t), u, 1, S') := if_neg (fun q => by omega)
    rw [em]
    refine ⟨?_, rfl, rfl⟩
    show ¬ nxF T n t = -1
    omega
theorem cNB_S {hi : Int} {C : Cst} : Cst.S (cNB T n hi C).1 = Cst.S C := by
  unfold cNB
  split <;> rfl
theorem part_rl {j : Int} {C : Cst} {P : Pst} {i : Nat} {idx hi K : Int} (hK : zK i = K) (hi14 : i < 14) (hT : tapeOk T n) (hC : cOk N T n C) (hh : 0 ≤ hi ∧ hi ≤ 999) (hj : ¬ j = idx) (h : rl0 j C P) : rl0 j (cPart T n i idx hi C) (pPart T n K idx hi P) := by
  have hK0 := (zwd_tab i hi14).2.2.2
  rcases h with ⟨hl, hw, hf, ht, hS⟩ | ⟨hl, hw, hf⟩
  · obtain ⟨f, t, l, S⟩ := C
    obtain ⟨f', t', v, w, S'⟩ := P
    change l = -1 at hl
    change w = 0 at hw
    change f = f' at hf
    change t = t' at ht
    change S = zfu S' j 0 at hS
    subst hl; subst hw; subst hf; subst ht; subst hS
    have et : t = nxT T n f := hC.2.1
    have hi2 := cW_iff (v := v) (S := S') hi14 hT (show 0 ≤ f ∧ f ≤ n from hC.1)
    rw [← et, hK] at hi2
    by_cases hwd : cW T n i f t
    · have ec : cPart T n i idx hi (f, t, -1, zfu S' j 0) = cRow (cNB T n hi (f, t, -1, zfu S' j 0)).1 (zfu (Cst.S (cNB T n hi (f, t, -1, zfu S' j 0)).1) idx (cNB T n hi (f, t, -1, zfu S' j 0)).2) := if_pos ⟨rfl, hwd⟩
      have ep : pPart T n K idx hi (f, t, v, 0, S') = pPut idx (pNum T n hi (pMust T n 1 (f, t, v, 0, S'))) := if_pos (hi2.mp hwd)
      rw [ec, ep]
      have hn := nb_rl (v := v) (S' := S') (hi := hi) hT hC hh
      have hpS : Pst.S (pNum T n hi (pMust T n 1 (f, t, v, 0, S'))) = S' := by
        have h1 : Pst.S (pMust T n 1 (f, t, v, 0, S')) = S' := pMust_S.1
        unfold pNum
        split
        · rw [pMust_S.1]; exact h1
        · exact h1
      rw [cNB_S]
      rcases hn with ⟨a1, a2, a3, a4, a5⟩ | ⟨a1, a2, a3⟩
      · left
        refine ⟨a1, a2, a3, a4, ?_⟩
        show zfu (zfu S' j 0) idx (cNB T n hi (f, t, -1, zfu S' j 0)).2 = zfu (zfu (Pst.S (pNum T n hi (pMust T n 1 (f, t, v, 0, S')))) idx (if Pst.w (pNum T n hi (pMust T n 1 (f, t, v, 0, S'))) = 0 then Pst.v (pNum T n hi (pMust T n 1 (f, t, v, 0, S'))) else _)) j 0
        rw [if_pos a2, hpS, a5, zfu_comm hj]
      · right
        exact ⟨a1, a2, a3⟩
    · have ec : cPart T n i idx hi (f, t, -1, zfu S' j 0) = (f, t, -1, zfu S' j 0) := if_neg (fun q => hwd q.2)
      have ep : pPart T n K idx hi (f, t, v, 0, S') = (f, t, v, 0, S') := if_neg (fun q => hwd (hi2.mpr q))
      rw [ec, ep]
      exact Or.inl ⟨rfl, rfl, rfl, rfl, rfl⟩
  · right
    rw [pPart_f hw (by omega)]
    have ec : cPart T n i idx hi C = C := if_neg (fun q => hl q.1)
    rw [ec]
    exact ⟨hl, hw, hf⟩
theorem flag_rl {j : Int} {C : Cst} {P : Pst} {i : Nat} {K : Int} (hK : zK i = K) (hi14 : i < 14) (hT : tapeOk T n) (hC : cOk N T n C) (h : rl0 j C P) : rl (cFlag T n i j C) (pMay T n K j P) := by
  have hK0 := (zwd_tab i hi14).2.2.2
  rcases h with ⟨hl, hw, hf, ht, hS⟩ | ⟨hl, hw, hf⟩
  · obtain ⟨f, t, l, S⟩ := C
    obtain ⟨f', t', v, w, S'⟩ := P
    change l = -1 at hl
    change w = 0 at hw
    change f = f' at hf
    change t = t' at ht
    change S = zfu S' j 0 at hS
    subst hl; subst hw; subst hf; subst ht; subst hS
    have et : t = nxT T n f := hC.2.1
    have hi2 := cW_iff (v := v) (S := S') hi14 hT (show 0 ≤ f ∧ f ≤ n from hC.1)
    rw [← et, hK] at hi2
    left
    by_cases hwd : cW T n i f t
    · have ec : cFlag T n i j (f, t, -1, zfu S' j 0) = cNx T n (cRow (f, t, -1, zfu S' j 0) (zfu (zfu S' j 0) j 1)) := if_pos ⟨rfl, hwd⟩
      have em : pMust T n 1 (f, t, v, 0, S') = pTok T n (f, t, v, 0, S') := if_pos ⟨rfl, rfl⟩
      have ep : pMay T n K j (f, t, v, 0, S') = pRow (pMust T n 1 (f, t, v, 0, S')) (zfu (Pst.S (pMust T n 1 (f, t, v, 0, S'))) j 1) := if_pos (hi2.mp hwd)
      rw [ec, ep, em]
      exact ⟨rfl, rfl, rfl, rfl, zfu_fu⟩
    · have ec : cFlag T n i j (f, t, -1, zfu S' j 0) = (f, t, -1, zfu S' j 0) := if_neg (fun q => hwd q.2)
      have ep : pMay T n K j (f, t, v, 0, S') = pRow (f, t, v, 0, S') (zfu S' j 0) := if_neg (fun q => hwd (hi2.mpr q))
      rw [ec, ep]
      exact ⟨rfl, rfl, rfl, rfl, rfl⟩
  · right
    have hm := pMay_f (T := T) (n := n) (idx := j) (K := K) hw (by omega)
    have ec : cFlag T n i j C = C := if_neg (fun q => hl q.1)
    rw [ec]
    exact ⟨hl, hm.1, hm.2.trans hf⟩
theorem child_rl {kd f t v : Int} {S : Int → Int} (hT : tapeOk T n) (hC : cOk N T n (f, t, -1, S)) (hk : 0 ≤ kd ∧ kd ≤ 5) : rl (cChild T n kd (f, t, -1, S)) (pChild T n kd (f, t, v, 0, S)) := by
  have i0 : 0 ≤ S 0 ∧ S 0 ≤ 6 := hC.2.2.2.1
  obtain ⟨-, -, -, -, -, -, -, -, k8, k9, k10, -⟩ := zK_tab
  by_cases h6 : S 0 < 6
  · have ha := rAdd_inv (show rInv N S from hC.2.2.2) (kd := kd) h6 hk
    have em : pMust T n (if S 0 < 6 then 1 else 0) (f, t, v, 0, S) = (nxF T n t, nxT T n (nxF T n t), v, 0, S) := by
      rw [if_pos h6]
      exact if_pos ⟨rfl, rfl⟩
    have ep : pChild T n kd (f, t, v, 0, S) = pMay T n 113716 (19 + 6 * S 0 + 3) (pPart T n 441828 (19 + 6 * S 0 + 2) 9 (pPart T n 632645 (19 + 6 * S 0 + 1) 99 (nxF T n t, nxT T n (nxF T n t), v, 0, rAdd S kd))) := by
      unfold pChild
      dsimp only
      rw [em, if_pos rfl]
      rfl
    have ec : cChild T n kd (f, t, -1, S) = cFlag T n 10 (19 + 6 * S 0 + 3) (cPart T n 9 (19 + 6 * S 0 + 2) 9 (cPart T n 8 (19 + 6 * S 0 + 1) 99 (nxF T n t, nxT T n (nxF T n t), -1, rAdd S kd))) := if_neg (by show ¬ 6 ≤ S 0; omega)
    rw [ep, ec]
    have h1 : cOk N T n (nxF T n t, nxT T n (nxF T n t), -1, rAdd S kd) := (cNx_ok hT (cRow_ok hC ha.1)).1
    have q1 := cPart_ok (i := 8) (idx := 19 + 6 * S 0 + 1) (hi := 99) hT h1 (by omega) (fun v S J hv => rInv_kid J (by omega) (by omega) (by simpa using hv)) (by omega)
    have q2 := cPart_ok (i := 9) (idx := 19 + 6 * S 0 + 2) (hi := 9) hT q1.1 (by omega) (fun v S J hv => rInv_kid J (by omega) (by omega) (by simpa using hv)) (by omega)
    have hz : rAdd S kd (19 + 6 * S 0 + 3) = 0 := by
      unfold rAdd
      try simp only
      rw [zfu_ne (by omega), zfu_ne (by omega), zfu_ne (by omega), zfu_ne (by omega), if_pos (by omega)]
    have r0 : rl0 (19 + 6 * S 0 + 3) (nxF T n t, nxT T n (nxF T n t), -1, rAdd S kd) (nxF T n t, nxT T n (nxF T n t), v, 0, rAdd S kd) := Or.inl ⟨rfl, rfl, rfl, rfl, (zfu_self hz.symm).symm⟩
    have r1 := part_rl (idx := 19 + 6 * S 0 + 1) (hi := 99) k8 (by omega) hT h1 (by omega) (by omega) r0
    have r2 := part_rl (idx := 19 + 6 * S 0 + 2) (hi := 9) k9 (by omega) hT q1.1 (by omega) (by omega) r1
    exact flag_rl k10 (by omega) hT q2.1 r2
  · right
    have em : pMust T n (if S 0 < 6 then 1 else 0) (f, t, v, 0, S) = (f, t, v, 1, S) := by
      rw [if_neg h6]
      exact if_neg (fun q => by omega)
    have ep : pChild T n kd (f, t, v, 0, S) = (f, t, v, 1, S) := by
      unfold pChild
      dsimp only
      rw [em, if_neg (show ¬ (1 : Int) = 0 from by decide)]
    have ec : cChild T n kd (f, t, -1, S) = cFlt (f, t, -1, S) := if_pos (by show 6 ≤ S 0; omega)
    rw [ep, ec]
    have hf : 0 ≤ f ∧ f ≤ n := hC.1
    exact ⟨by show ¬ f = -1; omega, rfl, rfl⟩
theorem seat_rl {f t v : Int} {S : Int → Int} (hT : tapeOk T n) (hC : cOk N T n (f, t, -1, S)) : rl (cSeat T n (f, t, -1, S)) (pSeat T n (f, t, v, 0, S)) := by
  obtain ⟨-, -, -, -, -, -, -, -, -, -, -, k11, k12, k13⟩ := zK_tab
  have hn := nb_rl (v := v) (S' := S) (hi := 2) hT hC (by omega)
  have hb := cNB_ok (hi := 2) hT hC (by omega)
  have hpS : Pst.S (pNum T n 2 (pMust T n 1 (f, t, v, 0, S))) = S := by
    have h1 : Pst.S (pMust T n 1 (f, t, v, 0, S)) = S := pMust_S.1
    unfold pNum
    split
    · rw [pMust_S.1]; exact h1
    · exact h1
  unfold pSeat
  dsimp only
  generalize hP : pNum T n 2 (pMust T n 1 (f, t, v, 0, S)) = P at hn hpS ⊢
  rcases hn with ⟨a1, a2, a3, a4, a5⟩ | ⟨a1, a2, a3⟩
  · have ec : cSeat T n (f, t, -1, S) = cSeat2 T n (cNB T n 2 (f, t, -1, S)).2 (cNB T n 2 (f, t, -1, S)).1 := if_pos a1
    rw [ec, if_pos a2, ← a5]
    have hS := hb.2.2.2.1
    generalize (cNB T n 2 (f, t, -1, S)).1 = C at a1 a3 a4 hb hS ⊢
    generalize (cNB T n 2 (f, t, -1, S)).2 = st at hb ⊢
    have hs : 0 ≤ st ∧ st < 3 := by omega
    unfold cSeat2
    have h1 : cOk N T n (cRow C (zfu (Cst.S C) (4 + 5 * st + 2) 0)) := cRow_ok hb.1 (rInv_st hb.1.2.2.2 hs (by omega) (by simp))
    have q1 := cPart_ok (i := 11) (idx := 4 + 5 * st + 0) (hi := 5) hT h1 (by omega) (fun v S J hv => rInv_st J hs (by omega) (by simpa using hv)) (by omega)
    have q2 := cPart_ok (i := 12) (idx := 4 + 5 * st + 1) (hi := 9) hT q1.1 (by omega) (fun v S J hv => rInv_st J hs (by omega) (by simpa using hv)) (by omega)
    have r0 : rl0 (4 + 5 * st + 2) (cRow C (zfu (Cst.S C) (4 + 5 * st + 2) 0)) P := Or.inl ⟨a1, a2, a3, a4, by
      show zfu (Cst.S C) (4 + 5 * st + 2) 0 = zfu (Pst.S P) (4 + 5 * st + 2) 0
      rw [hS, hpS]⟩
    have r1 := part_rl (idx := 4 + 5 * st + 0) (hi := 5) k11 (by omega) hT h1 (by omega) (by omega) r0
    have r2 := part_rl (idx := 4 + 5 * st + 1) (hi := 9) k12 (by omega) hT q1.1 (by omega) (by omega) r1
    exact flag_rl k13 (by omega) hT q2.1 r2
  · right
    have ec : cSeat T n (f, t, -1, S) = (cNB T n 2 (f, t, -1, S)).1 := if_neg a1
    rw [ec, pPart_f a2 (by omega), pPart_f a2 (by omega)]
    have hm := pMay_f (T := T) (n := n) (idx := 4 + 5 * (if Pst.w P = 0 then Pst.v P else 0) + 2) (K := 693713060) a2 (by omega)
    exact ⟨a1, hm.1, hm.2.trans a3⟩
theorem kind_rl {f v : Int} {S : Int → Int} (hT : tapeOk T n) (hf : 0 ≤ f ∧ f ≤ n) : cKd T n (f, nxT T n f, -1, S) 6 0 = pKind T n (f, nxT T n f, v, 0, S) := by
  obtain ⟨k0, k1, k2, k3, k4, k5, -⟩ := zK_tab
  have w0 := cW_iff (i := 0) (v := v) (S := S) (by omega) hT hf
  have w1 := cW_iff (i := 1) (v := v) (S := S) (by omega) hT hf
  have w2 := cW_iff (i := 2) (v := v) (S := S) (by omega) hT hf
  have w3 := cW_iff (i := 3) (v := v) (S := S) (by omega) hT hf
  have w4 := cW_iff (i := 4) (v := v) (S := S) (by omega) hT hf
  have w5 := cW_iff (i := 5) (v := v) (S := S) (by omega) hT hf
  rw [k0] at w0; rw [k1] at w1; rw [k2] at w2; rw [k3] at w3; rw [k4] at w4; rw [k5] at w5
  show (if cW T n 0 f (nxT T n f) then ((0 : Nat) : Int) else if cW T n (0 + 1) f (nxT T n f) then ((0 + 1 : Nat) : Int) else if cW T n (0 + 1 + 1) f (nxT T n f) then ((0 + 1 + 1 : Nat) : Int) else if cW T n (0 + 1 + 1 + 1) f (nxT T n f) then ((0 + 1 + 1 + 1 : Nat) : Int) else if cW T n (0 + 1 + 1 + 1 + 1) f (nxT T n f) then ((0 + 1 + 1 + 1 + 1 : Nat) : Int) else if cW T n (0 + 1 + 1 + 1 + 1 + 1) f (nxT T n f) then ((0 + 1 + 1 + 1 + 1 + 1 : Nat) : Int) else -1) = _
  unfold pKind
  generalize pWord T n (f, nxT T n f, v, 0, S) = W at *
  by_cases h0 : cW T n 0 f (nxT T n f)
  · rw [if_pos h0, if_pos (w0.mp h0)]; rfl
  rw [if_neg h0, if_neg (fun q => h0 (w0.mpr q))]
  by_cases h1 : cW T n 1 f (nxT T n f)
  · rw [if_pos h1, if_pos (w1.mp h1)]; rfl
  rw [if_neg h1, if_neg (fun q => h1 (w1.mpr q))]
  by_cases h2 : cW T n 2 f (nxT T n f)
  · rw [if_pos h2, if_pos (w2.mp h2)]; rfl
  rw [if_neg h2, if_neg (fun q => h2 (w2.mpr q))]
  by_cases h3 : cW T n 3 f (nxT T n f)
  · rw [if_pos h3, if_pos (w3.mp h3)]; rfl
  rw [if_neg h3, if_neg (fun q => h3 (w3.mpr q))]
  by_cases h4 : cW T n 4 f (nxT T n f)
  · rw [if_pos h4, if_pos (w4.mp h4)]; rfl
  rw [if_neg h4, if_neg (fun q => h4 (w4.mpr q))]
  by_cases h5 : cW T n 5 f (nxT T n f)
  · rw [if_pos h5, if_pos (w5.mp h5)]; rfl
  rw [if_neg h5, if_neg (fun q => h5 (w5.mpr q))]
theorem item_rl {f t v : Int} {S : Int → Int} (hT : tapeOk T n) (hC : cOk N T n (f, t, -1, S)) : rl (cItem T n (f, t, -1, S)) (pItem T n (f, t, v, 0, S)) := by
  have et : t = nxT T n f := hC.2.1
  have hf : 0 ≤ f ∧ f ≤ n := hC.1
  obtain ⟨-, -, -, -, -, -, k6, k7, -⟩ := zK_tab
  have w6 := cW_iff (i := 6) (v := v) (S := S) (by omega) hT hf
  have w7 := cW_iff (i := 7) (v := v) (S := S) (by omega) hT hf
  have hk := kind_rl (v := v) (S := S) hT hf
  rw [← et] at w6 w7 hk
  rw [k6] at w6
  rw [k7] at w7
  have hr := cKd_rg (T := T) (n := n) (C := (f, t, -1, S)) (r := 6) (i := 0)
  by_cases hkd : 0 ≤ cKd T n (f, t, -1, S) 6 0
  · have ec : cItem T n (f, t, -1, S) = cChild T n (cKd T n (f, t, -1, S) 6 0) (f, t, -1, S) := if_pos hkd
    have ep : pItem T n (f, t, v, 0, S) = pChild T n (pKind T n (f, t, v, 0, S)) (f, t, v, 0, S) := if_pos (by rw [← hk]; exact hkd)
    rw [ec, ep, ← hk]
    exact child_rl hT hC (by omega)
  · by_cases h6 : cW T n 6 f t
    · have ec : cItem T n (f, t, -1, S) = cSeat T n (f, t, -1, S) := (if_neg hkd).trans (if_pos h6)
      have ep : pItem T n (f, t, v, 0, S) = pSeat T n (f, t, v, 0, S) := (if_neg (by rw [← hk]; exact hkd)).trans (if_pos (w6.mp h6))
      rw [ec, ep]
      exact seat_rl hT hC
    · by_cases h7 : cW T n 7 f t
      · have ec : cItem T n (f, t, -1, S) = cRow (cNB T n 9 (f, t, -1, S)).1 (zfu (Cst.S (cNB T n 9 (f, t, -1, S)).1) 3 (cNB T n 9 (f, t, -1, S)).2) := (if_neg hkd).trans ((if_neg h6).trans (if_pos h7))
        have ep : pItem T n (f, t, v, 0, S) = pPut 3 (pNum T n 9 (pMust T n (if pWord T n (f, t, v, 0, S) = 591150 then 1 else 0) (f, t, v, 0, S))) := (if_neg (by rw [← hk]; exact hkd)).trans (if_neg (fun q => h6 (w6.mpr q)))
        rw [ec, ep, if_pos (w7.mp h7), cNB_S]
        have hn := nb_rl (v := v) (S' := S) (hi := 9) hT hC (by omega)
        have hpS : Pst.S (pNum T n 9 (pMust T n 1 (f, t, v, 0, S))) = S := by
          have h1 : Pst.S (pMust T n 1 (f, t, v, 0, S)) = S := pMust_S.1
          unfold pNum
          split
          · rw [pMust_S.1]; exact h1
          · exact h1
        rcases hn with ⟨a1, a2, a3, a4, a5⟩ | ⟨a1, a2, a3⟩
        · left
          refine ⟨a1, a2, a3, a4, ?_⟩
          show zfu S 3 (cNB T n 9 (f, t, -1, S)).2 = zfu (Pst.S (pNum T n 9 (pMust T n 1 (f, t, v, 0, S)))) 3 (if Pst.w (pNum T n 9 (pMust T n 1 (f, t, v, 0, S))) = 0 then Pst.v (pNum T n 9 (pMust T n 1 (f, t, v, 0, S))) else _)
          rw [if_pos a2, hpS, a5]
        · right
          exact ⟨a1, a2, a3⟩
      · have ec : cItem T n (f, t, -1, S) = cFlt (f, t, -1, S) := (if_neg hkd).trans ((if_neg h6).trans (if_neg h7))
        have ep : pItem T n (f, t, v, 0, S) = pPut 3 (pNum T n 9 (pMust T n (if pWord T n (f, t, v, 0, S) = 591150 then 1 else 0) (f, t, v, 0, S))) := (if_neg (by rw [← hk]; exact hkd)).trans (if_neg (fun q => h6 (w6.mpr q)))
        have em : pMust T n 0 (f, t, v, 0, S) = (f, t, v, 1, S) := if_neg (fun q => by omega)
        rw [ec, ep, if_neg (fun q => h7 (w7.mpr q)), em, pNum_f rfl]
        right
        exact ⟨by show ¬ f = -1; omega, rfl, rfl⟩
/-- both readers to their ends -/
def rlE (n : Int) (R : Cst × Int) (Q : Pst × Int) : Prop := (Cst.l R.1 = -1 ∧ ¬ pBad n Q ∧ R.2 = Q.2 ∧ Cst.S R.1 = Pst.S Q.1) ∨ (¬ Cst.l R.1 = -1 ∧ pBad n Q ∧ Pst.f Q.1 = Cst.l R.1)
theorem pLoop_end {P : Pst} {c : Int} (h : ¬ (Pst.w P = 0 ∧ bA T n (Pst.f P) = 59)) : ∀ k : Nat, pLoop T n k P c = (P, c) := by
  intro k
  cases k with
  | zero => rfl
  | succ k => exact if_neg h
theorem loop_rl (hT : tapeOk T n) : ∀ (i k : Nat) (f t v c : Int) (S : Int → Int), cOk N T n (f, t, -1, S) → (0 ≤ v ∧ v ≤ 9999) → n - f ≤ 2 * i → n - Pst.f (pItem T n (f, t, v, 0, S)) ≤ k → rlE n (cLoop T n (i + 1) (f, t, -1, S) c) (pLoop T n k (pItem T n (f, t, v, 0, S)) c) := by
  intro i
  induction i with
  | zero =>
    intro k f t v c S hC hv hi hk
    have hf : 0 ≤ f ∧ f ≤ n := hC.1
    have hI := cItem_ok hT hC
    have hr := item_rl (v := v) hT hC
    have hfn : Cst.f (cItem T n (f, t, -1, S)) ≤ n := hI.1.1.2
    rcases hr with ⟨a1, -⟩ | ⟨a1, a2, a3⟩
    · exfalso
      have h9 : f < Cst.f (cItem T n (f, t, -1, S)) := hI.2 a1
      omega
    · have ec : cLoop T n (0 + 1) (f, t, -1, S) c = (cItem T n (f, t, -1, S), c) := if_pos (Or.inl a1)
      rw [ec, pLoop_end (fun q => by omega)]
      exact Or.inr ⟨a1, Or.inl (show ¬ Pst.w (pItem T n (f, t, v, 0, S)) = 0 from by omega), a3⟩
  | succ i ih =>
    intro k f t v c S hC hv hi hk
    have hf : 0 ≤ f ∧ f ≤ n := hC.1
    have hI := cItem_ok hT hC
    have hr := item_rl (v := v) hT hC
    have hPk := (pItem_ok (N := N) (P := (f, t, v, 0, S)) hT ⟨hf, hC.2.1, Or.inl rfl, hv, hC.2.2.2⟩).1
    generalize hCI : cItem T n (f, t, -1, S) = CI at hI hr
    generalize hPI : pItem T n (f, t, v, 0, S) = PI at hr hk hPk ⊢
    rcases hr with ⟨a1, a2, a3, a4, a5⟩ | ⟨a1, a2, a3⟩
    · have h9 : f < Cst.f CI := hI.2 a1
      have hfn := hI.1.1
      have hb := bA_rg (i := Cst.f CI) hT hfn.1
      have htk := tk_rg (bA T n (Cst.f CI))
      have hk0 := tk0 (b := bA T n (Cst.f CI))
      have hk3 := tk3 (b := bA T n (Cst.f CI))
      by_cases h0 : tk (bA T n (Cst.f CI)) = 0
      · have ec : cLoop T n (i + 1 + 1) (f, t, -1, S) c = (CI, c) := by
          rw [cLoop, hCI, if_pos (Or.inr h0)]
        rw [ec, pLoop_end (fun q => by rw [← a3] at q; omega)]
        refine Or.inl ⟨a1, fun q => ?_, rfl, a5⟩
        rcases q with q | q
        · exact q a2
        · rw [← a3] at q; omega
      · by_cases h3 : tk (bA T n (Cst.f CI)) = 3
        · have ec : cLoop T n (i + 1 + 1) (f, t, -1, S) c = cLoop T n (i + 1) (cNx T n CI) (c + 1) := by
            rw [cLoop, hCI, if_neg (fun q => by rcases q with q | q <;> omega), if_neg (fun q => q h3)]
          obtain ⟨k', rfl⟩ : ∃ k' : Nat, k = k' + 1 := ⟨k - 1, by rw [← a3] at hk; omega⟩
          have ep : pLoop T n (k' + 1) PI c = pLoop T n k' (pItem T n (pMust T n 1 PI)) (c + 1) := if_pos ⟨a2, by rw [← a3]; exact hk3.mp h3⟩
          rw [ec, ep]
          obtain ⟨f1, t1, l1, S1⟩ := CI
          obtain ⟨f2, t2, v2, w2, S2⟩ := PI
          change l1 = -1 at a1
          change w2 = 0 at a2
          change f1 = f2 at a3
          change t1 = t2 at a4
          change S1 = S2 at a5
          subst a1; subst a2; subst a3; subst a4; subst a5
          have em : pMust T n 1 (f1, t1, v2, 0, S1) = (nxF T n t1, nxT T n (nxF T n t1), v2, 0, S1) := if_pos ⟨rfl, rfl⟩
          rw [em]
          have hN := cNx_ok hT hI.1
          have htI : f1 ≤ t1 ∧ t1 ≤ n ∧ (f1 < n → f1 < t1) := cOk_t hT hI.1
          have hF : 0 ≤ nxF T n t1 ∧ nxF T n t1 ≤ n := hN.1.1
          have hF2 : t1 ≤ nxF T n t1 := hN.2
          have h9' : f < f1 := h9
          have hb' : bA T n f1 < 0 ↔ n ≤ f1 := hb.2.2
          have h3' : bA T n f1 = 59 := hk3.mp h3
          have hv2 : 0 ≤ v2 ∧ v2 ≤ 9999 := hPk.2.2.2.1
          have hP' : pOk N T n (nxF T n t1, nxT T n (nxF T n t1), v2, 0, S1) := ⟨hF, rfl, Or.inl rfl, hv2, hI.1.2.2.2⟩
          have hk' : n - f1 ≤ (k' + 1 : Nat) := hk
          refine ih k' (nxF T n t1) (nxT T n (nxF T n t1)) v2 (c + 1) S1 hN.1 hv2 (by omega) ?_
          have hge : nxF T n t1 ≤ Pst.f (pItem T n (nxF T n t1, nxT T n (nxF T n t1), v2, 0, S1)) := (pItem_ok hT hP').2
          omega
        · have ec : cLoop T n (i + 1 + 1) (f, t, -1, S) c = (cFlt CI, c) := by
            rw [cLoop, hCI, if_neg (fun q => by rcases q with q | q <;> omega), if_pos h3]
          rw [ec, pLoop_end (fun q => by rw [← a3] at q; exact h3 (hk3.mpr q.2))]
          refine Or.inr ⟨?_, Or.inr ?_, ?_⟩
          · show ¬ Cst.f CI = -1
            omega
          · show Pst.f PI < n
            rw [← a3]
            omega
          · exact a3.symm
    · have ec : cLoop T n (i + 1 + 1) (f, t, -1, S) c = (CI, c) := by
        rw [cLoop, hCI, if_pos (Or.inl a1)]
      rw [ec, pLoop_end (fun q => by omega)]
      exact Or.inr ⟨a1, Or.inl (show ¬ Pst.w PI = 0 from by omega), a3⟩
/-- the text of a car, read -/
theorem read_rl {f v : Int} {S : Int → Int} (hT : tapeOk T n) (I : rInv N S) (hv : 0 ≤ v ∧ v ≤ 9999) : rlE n (cRead T n S) (pRead T n f v S) := by
  have hn := hT.1
  have hF := nxF_rg (T := T) (n := n) (t := 0) (by omega)
  have hC : cOk N T n (nxF T n 0, nxT T n (nxF T n 0), -1, S) := ⟨⟨hF.1, hF.2⟩, rfl, ⟨Int.le_refl _, (show (-1 : Int) ≤ n from by omega)⟩, I⟩
  have hP : pOk N T n (nxF T n 0, nxT T n (nxF T n 0), v, 0, S) := ⟨⟨hF.1, hF.2⟩, rfl, Or.inl rfl, hv, I⟩
  have hge : nxF T n 0 ≤ Pst.f (pItem T n (nxF T n 0, nxT T n (nxF T n 0), v, 0, S)) := (pItem_ok hT hP).2
  exact loop_rl hT 119 120 (nxF T n 0) (nxT T n (nxF T n 0)) v 1 S hC hv (by omega) (by omega)
theorem read_ans {f v : Int} {S : Int → Int} (hT : tapeOk T n) (I : rInv N S) (hv : 0 ≤ v ∧ v ≤ 9999) : (if Cst.l (cRead T n S).1 = -1 then (cRead T n S).2 else -1 - Cst.l (cRead T n S).1) = (if pBad n (pRead T n f v S) then -1 - Pst.f (pRead T n f v S).1 else (pRead T n f v S).2) := by
  rcases read_rl (f := f) hT I hv with ⟨a1, a2, a3, a4⟩ | ⟨a1, a2, a3⟩
  · rw [if_pos a1, if_neg a2, a3]
  · rw [if_neg a1, if_pos a2, a3]
theorem pRead_ok {f v : Int} {S : Int → Int} (hT : tapeOk T n) (I : rInv N S) (hv : 0 ≤ v ∧ v ≤ 9999) : pOk N T n (pRead T n f v S).1 := by
  have hn := hT.1
  have hF := nxF_rg (T := T) (n := n) (t := 0) (by omega)
  have hP : pOk N T n (nxF T n 0, nxT T n (nxF T n 0), v, 0, S) := ⟨⟨hF.1, hF.2⟩, rfl, Or.inl rfl, hv, I⟩
  exact pLoop_ok hT (pItem_ok hT hP).1
end RL
