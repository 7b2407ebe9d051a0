theorem rFu_rg {F : Int → Int} {i v q a b : Int} (h : a ≤ v ∧ v ≤ b) (h2 : a ≤ F q ∧ F q ≤ b) : a ≤ zfu F i v q ∧ zfu F i v q ≤ b := by
  unfold zfu
  split
  · exact h
  · exact h2
theorem tape0 {T : Int → Int} : tapeOk T 0 := ⟨by omega, fun i a b => by omega⟩
/-! a call of the class and of the reference answers the same (laid by wip/whole/gen/sim.py) -/
set_option maxHeartbeats 1000000 in
theorem pr_seat {Γ : zC} {l : Launch} {μ : zMem} (h : zSim μ) (a0 : Int32) (a1 : Int32) (a2 : Int32) : zPairI Γ l qX8_seat qX9_seat [.int a0, .int a1, .int a2] μ := by
  obtain ⟨hL, hI, hK, hS, hR, hF, hT, hv9⟩ := id h
  obtain ⟨x, hx, rfl⟩ := z32x a0
  obtain ⟨w, hw, rfl⟩ := z32x a1
  obtain ⟨v, hv, rfl⟩ := z32x a2
  have c1 := c_seat (Γ := Γ) (l := l) (d := 8) (μ := μ) (S := μ 5 1) hI (by omega) hx hw hv
  rw [zcar_self hL] at c1
  refine zPairI.of c1 (by repeat (first | rfl | split)) (fun μ1 e1 e5 => ?_)
  have m1 := m_seat (Γ := Γ) (l := l) (d := 7) (μ := μ1) (by rw [e5]; exact hI) (by omega) hx hw hv
  rw [e5] at m1
  refine ⟨_, m1, ?_⟩
  by_cases hc1 : (0 ≤ x ∧ x ≤ 2) ∧ 0 ≤ v ∧ ((w = 0 ∧ v ≤ 5) ∨ (w = 1 ∧ v ≤ 9) ∨ (w = 2 ∧ v ≤ 1))
  · rw [if_pos hc1] at e1
    rw [if_pos hc1]
    subst e1
    exact zSim_mk (cOf_idem) (rInv_st hI (by omega) (by omega) (by (repeat' split) <;> omega)) (hK) (hS) (hR) (by first | exact hF | exact congrArg (fun F => rFind F _) hF | rfl) (hT) (hv9)
  · rw [if_neg hc1] at e1
    rw [if_neg hc1]
    subst e1
    exact zSim_mk (by first | exact hL | exact cOf_idem) (hI) (hK) (hS) (hR) (by first | exact hF | exact congrArg (fun F => rFind F _) hF | rfl) (hT) (hv9)

set_option maxHeartbeats 1000000 in
theorem pr_seatOf {Γ : zC} {l : Launch} {μ : zMem} (h : zSim μ) (a0 : Int32) (a1 : Int32) : zPairI Γ l qX8_seatOf qX9_seatOf [.int a0, .int a1] μ := by
  obtain ⟨hL, hI, hK, hS, hR, hF, hT, hv9⟩ := id h
  obtain ⟨x, hx, rfl⟩ := z32x a0
  obtain ⟨w, hw, rfl⟩ := z32x a1
  have c1 := c_seatOf (Γ := Γ) (l := l) (d := 8) (μ := μ) (S := μ 5 1) hI (by omega) hx hw
  rw [zcar_self hL] at c1
  refine zPairI.of c1 (by repeat (first | rfl | split)) (fun μ1 e1 e5 => ?_)
  have m1 := m_seatOf (Γ := Γ) (l := l) (d := 7) (μ := μ1) (by rw [e5]; exact hI) (by omega) hx hw
  rw [e5] at m1
  refine ⟨_, m1, ?_⟩
  by_cases hc1 : (0 ≤ x ∧ x ≤ 2) ∧ (0 ≤ w ∧ w ≤ 4)
  · rw [if_pos hc1] at e1
    rw [if_pos hc1]
    subst e1
    exact zSim_mk (by first | exact hL | exact cOf_idem) (hI) (hK) (hS) (hR) (by first | exact hF | exact congrArg (fun F => rFind F _) hF | rfl) (hT) (hv9)
  · rw [if_neg hc1] at e1
    rw [if_neg hc1]
    subst e1
    exact zSim_mk (by first | exact hL | exact cOf_idem) (hI) (hK) (hS) (hR) (by first | exact hF | exact congrArg (fun F => rFind F _) hF | rfl) (hT) (hv9)

set_option maxHeartbeats 1000000 in
theorem pr_rain {Γ : zC} {l : Launch} {μ : zMem} (h : zSim μ) (a0 : Int32) : zPairI Γ l qX8_rain qX9_rain [.int a0] μ := by
  obtain ⟨hL, hI, hK, hS, hR, hF, hT, hv9⟩ := id h
  obtain ⟨v, hv, rfl⟩ := z32x a0
  have c1 := c_rain (Γ := Γ) (l := l) (d := 8) (μ := μ) (S := μ 5 1) hI (by omega) hv
  rw [zcar_self hL] at c1
  refine zPairI.of c1 (by repeat (first | rfl | split)) (fun μ1 e1 e5 => ?_)
  have m1 := m_rain (Γ := Γ) (l := l) (d := 8) (μ := μ1) (by rw [e5]; exact hI) (by omega) hv
  rw [e5] at m1
  refine ⟨_, m1, ?_⟩
  by_cases hc1 : 0 ≤ v ∧ v ≤ 9
  · rw [if_pos hc1] at e1
    rw [if_pos hc1]
    subst e1
    exact zSim_mk (cOf_idem) (rInv_one hI (by omega)) (hK) (hS) (hR) (by first | exact hF | exact congrArg (fun F => rFind F _) hF | rfl) (hT) (hv9)
  · rw [if_neg hc1] at e1
    rw [if_neg hc1]
    subst e1
    exact zSim_mk (by first | exact hL | exact cOf_idem) (hI) (hK) (hS) (hR) (by first | exact hF | exact congrArg (fun F => rFind F _) hF | rfl) (hT) (hv9)

set_option maxHeartbeats 1000000 in
theorem pr_child {Γ : zC} {l : Launch} {μ : zMem} (h : zSim μ) (a0 : Int32) : zPairI Γ l qX8_child qX9_child [.int a0] μ := by
  obtain ⟨hL, hI, hK, hS, hR, hF, hT, hv9⟩ := id h
  obtain ⟨v, hv, rfl⟩ := z32x a0
  have c1 := c_child (Γ := Γ) (l := l) (d := 7) (μ := μ) (S := μ 5 1) hI (by omega) hv
  rw [zcar_self hL] at c1
  refine zPairI.of c1 (by repeat (first | rfl | split)) (fun μ1 e1 e5 => ?_)
  have m1 := m_child (Γ := Γ) (l := l) (d := 7) (μ := μ1) (by rw [e5]; exact hI) (by omega) hv
  rw [e5] at m1
  refine ⟨_, m1, ?_⟩
  by_cases hc1 : 0 ≤ v ∧ v ≤ 5
  · rw [if_pos hc1] at e1
    rw [if_pos hc1]
    by_cases hc2 : ¬ μ 5 1 0 = 6
    · rw [if_pos hc2] at e1
      rw [if_pos hc2]
      subst e1
      exact zSim_mk (cOf_idem) ((rAdd_inv hI (by have := hI.1; omega) hc1).1) (hK) (hS) (hR) (by first | exact hF | exact congrArg (fun F => rFind F _) hF | rfl) (hT) (hv9)
    · rw [if_neg hc2] at e1
      rw [if_neg hc2]
      subst e1
      exact zSim_mk (by first | exact hL | exact cOf_idem) (hI) (hK) (hS) (hR) (by first | exact hF | exact congrArg (fun F => rFind F _) hF | rfl) (hT) (hv9)
  · rw [if_neg hc1] at e1
    rw [if_neg hc1]
    subst e1
    exact zSim_mk (by first | exact hL | exact cOf_idem) (hI) (hK) (hS) (hR) (by first | exact hF | exact congrArg (fun F => rFind F _) hF | rfl) (hT) (hv9)

set_option maxHeartbeats 1000000 in
theorem pr_of {Γ : zC} {l : Launch} {μ : zMem} (h : zSim μ) (a0 : Int32) (a1 : Int32) : zPairI Γ l qX8_of qX9_of [.int a0, .int a1] μ := by
  obtain ⟨hL, hI, hK, hS, hR, hF, hT, hv9⟩ := id h
  obtain ⟨x, hx, rfl⟩ := z32x a0
  obtain ⟨w, hw, rfl⟩ := z32x a1
  have c1 := c_of (Γ := Γ) (l := l) (d := 7) (μ := μ) (S := μ 5 1) hI (by omega) hx hw
  rw [zcar_self hL] at c1
  refine zPairI.of c1 (by repeat (first | rfl | split)) (fun μ1 e1 e5 => ?_)
  have m1 := m_of (Γ := Γ) (l := l) (d := 4) (μ := μ1) (by rw [e5]; exact hI) (by omega) hx hw
  rw [e5] at m1
  refine ⟨_, m1, ?_⟩
  by_cases hc1 : (0 ≤ x ∧ x ≤ μ 5 1 0 - 1) ∧ (0 ≤ w ∧ w ≤ 7)
  · rw [if_pos hc1] at e1
    rw [if_pos hc1]
    subst e1
    exact zSim_mk (by first | exact hL | exact cOf_idem) (hI) (hK) (hS) (hR) (by first | exact hF | exact congrArg (fun F => rFind F _) hF | rfl) (hT) (hv9)
  · rw [if_neg hc1] at e1
    rw [if_neg hc1]
    subst e1
    exact zSim_mk (by first | exact hL | exact cOf_idem) (hI) (hK) (hS) (hR) (by first | exact hF | exact congrArg (fun F => rFind F _) hF | rfl) (hT) (hv9)

set_option maxHeartbeats 1000000 in
theorem pr_set {Γ : zC} {l : Launch} {μ : zMem} (h : zSim μ) (a0 : Int32) (a1 : Int32) (a2 : Int32) : zPairI Γ l qX8_set qX9_set [.int a0, .int a1, .int a2] μ := by
  obtain ⟨hL, hI, hK, hS, hR, hF, hT, hv9⟩ := id h
  obtain ⟨x, hx, rfl⟩ := z32x a0
  obtain ⟨w, hw, rfl⟩ := z32x a1
  obtain ⟨v, hv, rfl⟩ := z32x a2
  have c1 := c_set (Γ := Γ) (l := l) (d := 8) (μ := μ) (S := μ 5 1) hI (by omega) hx hw hv
  rw [zcar_self hL] at c1
  refine zPairI.of c1 (by repeat (first | rfl | split)) (fun μ1 e1 e5 => ?_)
  have m1 := m_set (Γ := Γ) (l := l) (d := 7) (μ := μ1) (by rw [e5]; exact hI) (by omega) hx hw hv
  rw [e5] at m1
  refine ⟨_, m1, ?_⟩
  by_cases hc1 : (0 ≤ x ∧ x ≤ μ 5 1 0 - 1) ∧ 0 ≤ v ∧ ((w = 1 ∧ v ≤ 99) ∨ (w = 2 ∧ v ≤ 9) ∨ (w = 3 ∧ v ≤ 1) ∨ (w = 4 ∧ v ≤ 9))
  · rw [if_pos hc1] at e1
    rw [if_pos hc1]
    subst e1
    exact zSim_mk (cOf_idem) (rInv_kid hI (by have := hI.1; omega) (by omega) (by (repeat' split) <;> omega)) (hK) (hS) (hR) (by first | exact hF | exact congrArg (fun F => rFind F _) hF | rfl) (hT) (hv9)
  · rw [if_neg hc1] at e1
    rw [if_neg hc1]
    subst e1
    exact zSim_mk (by first | exact hL | exact cOf_idem) (hI) (hK) (hS) (hR) (by first | exact hF | exact congrArg (fun F => rFind F _) hF | rfl) (hT) (hv9)

set_option maxHeartbeats 1000000 in
theorem pr_turn {Γ : zC} {l : Launch} {μ : zMem} (h : zSim μ) (a0 : Int32) (a1 : Int32) : zPairI Γ l qX8_turn qX9_turn [.int a0, .int a1] μ := by
  obtain ⟨hL, hI, hK, hS, hR, hF, hT, hv9⟩ := id h
  obtain ⟨x, hx, rfl⟩ := z32x a0
  obtain ⟨v, hv, rfl⟩ := z32x a1
  have c1 := c_turn (Γ := Γ) (l := l) (d := 8) (μ := μ) (S := μ 5 1) hI (by omega) hx hv
  rw [zcar_self hL] at c1
  refine zPairI.of c1 (by repeat (first | rfl | split)) (fun μ1 e1 e5 => ?_)
  have m1 := m_turn (Γ := Γ) (l := l) (d := 7) (μ := μ1) (by rw [e5]; exact hI) (by omega) hx hv
  rw [e5] at m1
  refine ⟨_, m1, ?_⟩
  by_cases hc1 : (0 ≤ x ∧ x ≤ μ 5 1 0 - 1) ∧ (0 ≤ v ∧ v ≤ 5)
  · rw [if_pos hc1] at e1
    rw [if_pos hc1]
    subst e1
    exact zSim_mk (cOf_idem) (rInv_kid hI (by have := hI.1; omega) (by omega) (by simp; omega)) (hK) (hS) (hR) (by first | exact hF | exact congrArg (fun F => rFind F _) hF | rfl) (hT) (hv9)
  · rw [if_neg hc1] at e1
    rw [if_neg hc1]
    subst e1
    exact zSim_mk (by first | exact hL | exact cOf_idem) (hI) (hK) (hS) (hR) (by first | exact hF | exact congrArg (fun F => rFind F _) hF | rfl) (hT) (hv9)

set_option maxHeartbeats 1000000 in
theorem pr_as {Γ : zC} {l : Launch} {μ : zMem} (h : zSim μ) (a0 : Int32) (a1 : Int32) : zPairI Γ l qX8_as qX9_as [.int a0, .int a1] μ := by
  obtain ⟨hL, hI, hK, hS, hR, hF, hT, hv9⟩ := id h
  obtain ⟨x, hx, rfl⟩ := z32x a0
  obtain ⟨v, hv, rfl⟩ := z32x a1
  have c1 := c_as (Γ := Γ) (l := l) (d := 7) (μ := μ) (S := μ 5 1) hI (by omega) hx hv
  rw [zcar_self hL] at c1
  refine zPairI.of c1 (by repeat (first | rfl | split)) (fun μ1 e1 e5 => ?_)
  have m1 := m_as (Γ := Γ) (l := l) (d := 7) (μ := μ1) (by rw [e5]; exact hI) (by omega) hx hv
  rw [e5] at m1
  refine ⟨_, m1, ?_⟩
  by_cases hc1 : (0 ≤ x ∧ x ≤ μ 5 1 0 - 1) ∧ (0 ≤ v ∧ v ≤ 5)
  · rw [if_pos hc1] at e1
    rw [if_pos hc1]
    by_cases hc2 : rUnder (toS (μ 5 1) x 0) v
    · rw [if_pos hc2] at e1
      rw [if_pos hc2]
      subst e1
      exact zSim_mk (by first | exact hL | exact cOf_idem) (hI) (hK) (hS) (hR) (by first | exact hF | exact congrArg (fun F => rFind F _) hF | rfl) (hT) (hv9)
    · rw [if_neg hc2] at e1
      rw [if_neg hc2]
      subst e1
      exact zSim_mk (by first | exact hL | exact cOf_idem) (hI) (hK) (hS) (hR) (by first | exact hF | exact congrArg (fun F => rFind F _) hF | rfl) (hT) (hv9)
  · rw [if_neg hc1] at e1
    rw [if_neg hc1]
    subst e1
    exact zSim_mk (by first | exact hL | exact cOf_idem) (hI) (hK) (hS) (hR) (by first | exact hF | exact congrArg (fun F => rFind F _) hF | rfl) (hT) (hv9)

set_option maxHeartbeats 1000000 in
theorem pr_seconds {Γ : zC} {l : Launch} {μ : zMem} (h : zSim μ) (a0 : Int32) (a1 : Int32) : zPairI Γ l qX8_seconds qX9_seconds [.int a0, .int a1] μ := by
  obtain ⟨hL, hI, hK, hS, hR, hF, hT, hv9⟩ := id h
  obtain ⟨x, hx, rfl⟩ := z32x a0
  obtain ⟨k, hk, rfl⟩ := z32x a1
  have c1 := c_seconds (Γ := Γ) (l := l) (d := 6) (μ := μ) (S := μ 5 1) hI (by omega) hx hk
  rw [zcar_self hL] at c1
  refine zPairI.of c1 (by repeat (first | rfl | split)) (fun μ1 e1 e5 => ?_)
  have m1 := m_seconds (Γ := Γ) (l := l) (d := 5) (μ := μ1) (by rw [e5]; exact hI) (by omega) hx hk
  rw [e5] at m1
  refine ⟨_, m1, ?_⟩
  by_cases hc1 : (0 ≤ x ∧ x ≤ μ 5 1 0 - 1) ∧ (0 ≤ k ∧ k ≤ 2)
  · rw [if_pos hc1] at e1
    rw [if_pos hc1]
    subst e1
    exact zSim_mk (by first | exact hL | exact cOf_idem) (hI) (hK) (hS) (hR) (by first | exact hF | exact congrArg (fun F => rFind F _) hF | rfl) (hT) (hv9)
  · rw [if_neg hc1] at e1
    rw [if_neg hc1]
    subst e1
    exact zSim_mk (by first | exact hL | exact cOf_idem) (hI) (hK) (hS) (hR) (by first | exact hF | exact congrArg (fun F => rFind F _) hF | rfl) (hT) (hv9)

set_option maxHeartbeats 1000000 in
theorem pr_snug {Γ : zC} {l : Launch} {μ : zMem} (h : zSim μ) (a0 : Int32) (a1 : Int32) : zPairI Γ l qX8_snug qX9_snug [.int a0, .int a1] μ := by
  obtain ⟨hL, hI, hK, hS, hR, hF, hT, hv9⟩ := id h
  obtain ⟨x, hx, rfl⟩ := z32x a0
  obtain ⟨k, hk, rfl⟩ := z32x a1
  have c1 := c_snug (Γ := Γ) (l := l) (d := 7) (μ := μ) (S := μ 5 1) hI (by omega) hx hk
  rw [zcar_self hL] at c1
  refine zPairI.of c1 (by repeat (first | rfl | split)) (fun μ1 e1 e5 => ?_)
  have m1 := m_snug (Γ := Γ) (l := l) (d := 6) (μ := μ1) (by rw [e5]; exact hI) (by omega) hx hk
  rw [e5] at m1
  refine ⟨_, m1, ?_⟩
  by_cases hc1 : (0 ≤ x ∧ x ≤ μ 5 1 0 - 1) ∧ (0 ≤ k ∧ k ≤ 2)
  · rw [if_pos hc1] at e1
    rw [if_pos hc1]
    subst e1
    exact zSim_mk (by first | exact hL | exact cOf_idem) (hI) (hK) (hS) (hR) (by first | exact hF | exact congrArg (fun F => rFind F _) hF | rfl) (hT) (hv9)
  · rw [if_neg hc1] at e1
    rw [if_neg hc1]
    subst e1
    exact zSim_mk (by first | exact hL | exact cOf_idem) (hI) (hK) (hS) (hR) (by first | exact hF | exact congrArg (fun F => rFind F _) hF | rfl) (hT) (hv9)

set_option maxHeartbeats 1000000 in
theorem pr_click {Γ : zC} {l : Launch} {μ : zMem} (h : zSim μ) (a0 : Int32) (a1 : Int32) : zPairI Γ l qX8_click qX9_click [.int a0, .int a1] μ := by
  obtain ⟨hL, hI, hK, hS, hR, hF, hT, hv9⟩ := id h
  obtain ⟨x, hx, rfl⟩ := z32x a0
  obtain ⟨k, hk, rfl⟩ := z32x a1
  have c1 := c_click (Γ := Γ) (l := l) (d := 6) (μ := μ) (S := μ 5 1) hI (by omega) hx hk
  rw [zcar_self hL] at c1
  refine zPairI.of c1 (by repeat (first | rfl | split)) (fun μ1 e1 e5 => ?_)
  have m1 := m_click (Γ := Γ) (l := l) (d := 4) (μ := μ1) (by rw [e5]; exact hI) (by omega) hx hk
  rw [e5] at m1
  refine ⟨_, m1, ?_⟩
  by_cases hc1 : (0 ≤ x ∧ x ≤ μ 5 1 0 - 1) ∧ (0 ≤ k ∧ k ≤ 2)
  · rw [if_pos hc1] at e1
    rw [if_pos hc1]
    by_cases hc2 : rAt (μ 5 1) x < 0 ∧ ¬ rTk (μ 5 1) k
    · rw [if_pos hc2] at e1
      rw [if_pos hc2]
      subst e1
      exact zSim_mk (cOf_idem) (rClick_inv hI (by omega) (by omega) (by have := rAt_rg (μ 5 1) x; omega)) (hK) (hS) (hR) (by first | exact hF | exact congrArg (fun F => rFind F _) hF | rfl) (hT) (hv9)
    · rw [if_neg hc2] at e1
      rw [if_neg hc2]
      subst e1
      exact zSim_mk (by first | exact hL | exact cOf_idem) (hI) (hK) (hS) (hR) (by first | exact hF | exact congrArg (fun F => rFind F _) hF | rfl) (hT) (hv9)
  · rw [if_neg hc1] at e1
    rw [if_neg hc1]
    subst e1
    exact zSim_mk (by first | exact hL | exact cOf_idem) (hI) (hK) (hS) (hR) (by first | exact hF | exact congrArg (fun F => rFind F _) hF | rfl) (hT) (hv9)

set_option maxHeartbeats 1000000 in
theorem pr_letOut {Γ : zC} {l : Launch} {μ : zMem} (h : zSim μ) (a0 : Int32) : zPairI Γ l qX8_letOut qX9_letOut [.int a0] μ := by
  obtain ⟨hL, hI, hK, hS, hR, hF, hT, hv9⟩ := id h
  obtain ⟨x, hx, rfl⟩ := z32x a0
  have c1 := c_letOut (Γ := Γ) (l := l) (d := 7) (μ := μ) (S := μ 5 1) hI (by omega) hx
  rw [zcar_self hL] at c1
  refine zPairI.of c1 (by repeat (first | rfl | split)) (fun μ1 e1 e5 => ?_)
  have m1 := m_letOut (Γ := Γ) (l := l) (d := 6) (μ := μ1) (by rw [e5]; exact hI) (by omega) hx
  rw [e5] at m1
  refine ⟨_, m1, ?_⟩
  by_cases hc1 : 0 ≤ x ∧ x ≤ μ 5 1 0 - 1
  · rw [if_pos hc1] at e1
    rw [if_pos hc1]
    by_cases hc2 : 0 ≤ rAt (μ 5 1) x
    · rw [if_pos hc2] at e1
      rw [if_pos hc2]
      subst e1
      exact zSim_mk (cOf_idem) (rOut_inv hI (by have := rAt_rg (μ 5 1) x; omega) (rAt_tk hc2 (by omega))) (hK) (hS) (hR) (by first | exact hF | exact congrArg (fun F => rFind F _) hF | rfl) (hT) (hv9)
    · rw [if_neg hc2] at e1
      rw [if_neg hc2]
      subst e1
      exact zSim_mk (by first | exact hL | exact cOf_idem) (hI) (hK) (hS) (hR) (by first | exact hF | exact congrArg (fun F => rFind F _) hF | rfl) (hT) (hv9)
  · rw [if_neg hc1] at e1
    rw [if_neg hc1]
    subst e1
    exact zSim_mk (by first | exact hL | exact cOf_idem) (hI) (hK) (hS) (hR) (by first | exact hF | exact congrArg (fun F => rFind F _) hF | rfl) (hT) (hv9)

set_option maxHeartbeats 1000000 in
theorem pr_bribe {Γ : zC} {l : Launch} {μ : zMem} (h : zSim μ) (a0 : Int32) : zPairI Γ l qX8_bribe qX9_bribe [.int a0] μ := by
  obtain ⟨hL, hI, hK, hS, hR, hF, hT, hv9⟩ := id h
  obtain ⟨x, hx, rfl⟩ := z32x a0
  have c1 := c_bribe (Γ := Γ) (l := l) (d := 7) (μ := μ) (S := μ 5 1) hI (by omega) hx
  rw [zcar_self hL] at c1
  refine zPairI.of c1 (by repeat (first | rfl | split)) (fun μ1 e1 e5 => ?_)
  have m1 := m_bribe (Γ := Γ) (l := l) (d := 5) (μ := μ1) (by rw [e5]; exact hI) (by omega) hx
  rw [e5] at m1
  refine ⟨_, m1, ?_⟩
  by_cases hc1 : 0 ≤ x ∧ x ≤ μ 5 1 0 - 1
  · rw [if_pos hc1] at e1
    rw [if_pos hc1]
    subst e1
    exact zSim_mk (cOf_idem) (rBr_inv hI (by have := hI.1; omega)) (hK) (hS) (hR) (by first | exact hF | exact congrArg (fun F => rFind F _) hF | rfl) (hT) (hv9)
  · rw [if_neg hc1] at e1
    rw [if_neg hc1]
    subst e1
    exact zSim_mk (by first | exact hL | exact cOf_idem) (hI) (hK) (hS) (hR) (by first | exact hF | exact congrArg (fun F => rFind F _) hF | rfl) (hT) (hv9)

set_option maxHeartbeats 1000000 in
theorem pr_drive {Γ : zC} {l : Launch} {μ : zMem} (h : zSim μ) (a0 : Int32) : zPairI Γ l qX8_drive qX9_drive [.int a0] μ := by
  obtain ⟨hL, hI, hK, hS, hR, hF, hT, hv9⟩ := id h
  obtain ⟨n, hn, rfl⟩ := z32x a0
  have c1 := c_drive (Γ := Γ) (l := l) (d := 4) (μ := μ) (S := μ 5 1) hI (by omega) hn
  rw [zcar_self hL] at c1
  refine zPairI.of c1 (by repeat (first | rfl | split)) (fun μ1 e1 e5 => ?_)
  have m1 := m_drive (Γ := Γ) (l := l) (d := 2) (μ := μ1) (by rw [e5]; exact hI) (by omega) hn
  rw [e5] at m1
  refine ⟨_, m1, ?_⟩
  by_cases hc1 : 1 ≤ n ∧ n ≤ 60
  · rw [if_pos hc1] at e1
    rw [if_pos hc1]
    by_cases hc2 : (μ 5 1) 1 + n ≤ 9999
    · rw [if_pos hc2] at e1
      rw [if_pos hc2]
      subst e1
      exact zSim_mk (cOf_idem) (rGo_9 hI (by omega)) (hK) (hS) (hR) (by first | exact hF | exact congrArg (fun F => rFind F _) hF | rfl) (hT) (hv9)
    · rw [if_neg hc2] at e1
      rw [if_neg hc2]
      subst e1
      exact zSim_mk (by first | exact hL | exact cOf_idem) (hI) (hK) (hS) (hR) (by first | exact hF | exact congrArg (fun F => rFind F _) hF | rfl) (hT) (hv9)
  · rw [if_neg hc1] at e1
    rw [if_neg hc1]
    subst e1
    exact zSim_mk (by first | exact hL | exact cOf_idem) (hI) (hK) (hS) (hR) (by first | exact hF | exact congrArg (fun F => rFind F _) hF | rfl) (hT) (hv9)

set_option maxHeartbeats 1000000 in
theorem pr_now {Γ : zC} {l : Launch} {μ : zMem} (h : zSim μ) (a0 : Int32) : zPairI Γ l qX8_now qX9_now [.int a0] μ := by
  obtain ⟨hL, hI, hK, hS, hR, hF, hT, hv9⟩ := id h
  obtain ⟨w, hw, rfl⟩ := z32x a0
  have c1 := c_now (Γ := Γ) (l := l) (d := 7) (μ := μ) (S := μ 5 1) hI (by omega) hw
  rw [zcar_self hL] at c1
  refine zPairI.of c1 (by repeat (first | rfl | split)) (fun μ1 e1 e5 => ?_)
  have m1 := m_now (Γ := Γ) (l := l) (d := 5) (μ := μ1) (by rw [e5]; exact hI) (by omega) hw
  rw [e5] at m1
  refine ⟨_, m1, ?_⟩
  by_cases hc1 : 0 ≤ w ∧ w ≤ 5
  · rw [if_pos hc1] at e1
    rw [if_pos hc1]
    subst e1
    exact zSim_mk (by first | exact hL | exact cOf_idem) (hI) (hK) (hS) (hR) (by first | exact hF | exact congrArg (fun F => rFind F _) hF | rfl) (hT) (hv9)
  · rw [if_neg hc1] at e1
    rw [if_neg hc1]
    subst e1
    exact zSim_mk (by first | exact hL | exact cOf_idem) (hI) (hK) (hS) (hR) (by first | exact hF | exact congrArg (fun F => rFind F _) hF | rfl) (hT) (hv9)

set_option maxHeartbeats 1000000 in
theorem pr_on {Γ : zC} {l : Launch} {μ : zMem} (h : zSim μ) (a0 : Int32) (a1 : Int32) (a2 : Int32) : zPairI Γ l qX8_on qX9_on [.int a0, .int a1, .int a2] μ := by
  obtain ⟨hL, hI, hK, hS, hR, hF, hT, hv9⟩ := id h
  obtain ⟨x, hx, rfl⟩ := z32x a0
  obtain ⟨n, hn, rfl⟩ := z32x a1
  obtain ⟨w, hw, rfl⟩ := z32x a2
  have c1 := c_on (Γ := Γ) (l := l) (d := 4) (μ := μ) (S := μ 5 1) hI (by omega) hx hn hw
  rw [zcar_self hL] at c1
  refine zPairI.of c1 (by repeat (first | rfl | split)) (fun μ1 e1 e5 => ?_)
  have m1 := m_on (Γ := Γ) (l := l) (d := 2) (μ := μ1) (by rw [e5]; exact hI) (by omega) hx hn hw
  rw [e5] at m1
  refine ⟨_, m1, ?_⟩
  by_cases hc1 : (0 ≤ x ∧ x ≤ μ 5 1 0 - 1) ∧ (0 ≤ n ∧ n ≤ 60) ∧ (0 ≤ w ∧ w ≤ 1)
  · rw [if_pos hc1] at e1
    rw [if_pos hc1]
    subst e1
    exact zSim_mk (by first | exact hL | exact cOf_idem) (hI) (hK) (hS) (hR) (by first | exact hF | exact congrArg (fun F => rFind F _) hF | rfl) (hT) (hv9)
  · rw [if_neg hc1] at e1
    rw [if_neg hc1]
    subst e1
    exact zSim_mk (by first | exact hL | exact cOf_idem) (hI) (hK) (hS) (hR) (by first | exact hF | exact congrArg (fun F => rFind F _) hF | rfl) (hT) (hv9)

set_option maxHeartbeats 1000000 in
theorem pr_out {Γ : zC} {l : Launch} {μ : zMem} (h : zSim μ) (a0 : Int32) : zPairI Γ l qX8_out qX9_out [.int a0] μ := by
  obtain ⟨hL, hI, hK, hS, hR, hF, hT, hv9⟩ := id h
  obtain ⟨x, hx, rfl⟩ := z32x a0
  have c1 := c_out (Γ := Γ) (l := l) (d := 5) (μ := μ) (S := μ 5 1) hI (by omega) hx
  rw [zcar_self hL] at c1
  refine zPairI.of c1 (by repeat (first | rfl | split)) (fun μ1 e1 e5 => ?_)
  have m1 := m_out (Γ := Γ) (l := l) (d := 2) (μ := μ1) (by rw [e5]; exact hI) (by omega) hx
  rw [e5] at m1
  refine ⟨_, m1, ?_⟩
  by_cases hc1 : 0 ≤ x ∧ x ≤ μ 5 1 0 - 1
  · rw [if_pos hc1] at e1
    rw [if_pos hc1]
    by_cases hc2 : 0 ≤ rAt (μ 5 1) x
    · rw [if_pos hc2] at e1
      rw [if_pos hc2]
      by_cases hc3 : rOI x 60 60 (μ 5 1) 0 ≤ 60
      · rw [if_pos hc3] at e1
        rw [if_pos hc3]
        subst e1
        exact zSim_mk (by first | exact hL | exact cOf_idem) (hI) (hK) (hS) (hR) (by first | exact hF | exact congrArg (fun F => rFind F _) hF | rfl) (hT) (hv9)
      · rw [if_neg hc3] at e1
        rw [if_neg hc3]
        subst e1
        exact zSim_mk (by first | exact hL | exact cOf_idem) (hI) (hK) (hS) (hR) (by first | exact hF | exact congrArg (fun F => rFind F _) hF | rfl) (hT) (hv9)
    · rw [if_neg hc2] at e1
      rw [if_neg hc2]
      subst e1
      exact zSim_mk (by first | exact hL | exact cOf_idem) (hI) (hK) (hS) (hR) (by first | exact hF | exact congrArg (fun F => rFind F _) hF | rfl) (hT) (hv9)
  · rw [if_neg hc1] at e1
    rw [if_neg hc1]
    subst e1
    exact zSim_mk (by first | exact hL | exact cOf_idem) (hI) (hK) (hS) (hR) (by first | exact hF | exact congrArg (fun F => rFind F _) hF | rfl) (hT) (hv9)

set_option maxHeartbeats 1000000 in
theorem pr_firstOut {Γ : zC} {l : Launch} {μ : zMem} (h : zSim μ)  : zPairI Γ l qX8_firstOut qX9_firstOut [] μ := by
  obtain ⟨hL, hI, hK, hS, hR, hF, hT, hv9⟩ := id h
  have c1 := c_firstOut (Γ := Γ) (l := l) (d := 5) (μ := μ) (S := μ 5 1) hI (by omega)
  rw [zcar_self hL] at c1
  rw [fo_eq hI] at c1
  refine zPairI.of c1 (by repeat (first | rfl | split)) (fun μ1 e1 e5 => ?_)
  have m1 := m_firstOut (Γ := Γ) (l := l) (d := 2) (μ := μ1) (by rw [e5]; exact hI) (by omega)
  rw [e5] at m1
  refine ⟨_, m1, ?_⟩
  by_cases hc1 : rFO (μ 5 1) ((μ 5 1) 0).toNat 0 61 ≤ 60
  · rw [if_pos hc1] at e1
    rw [if_pos hc1]
    subst e1
    exact zSim_mk (by first | exact hL | exact cOf_idem) (hI) (hK) (hS) (hR) (by first | exact hF | exact congrArg (fun F => rFind F _) hF | rfl) (hT) (hv9)
  · rw [if_neg hc1] at e1
    rw [if_neg hc1]
    subst e1
    exact zSim_mk (by first | exact hL | exact cOf_idem) (hI) (hK) (hS) (hR) (by first | exact hF | exact congrArg (fun F => rFind F _) hF | rfl) (hT) (hv9)

set_option maxHeartbeats 1000000 in
theorem pr_quick {Γ : zC} {l : Launch} {μ : zMem} (h : zSim μ) (a0 : Int32) : zPairI Γ l qX8_quick qX9_quick [.int a0] μ := by
  obtain ⟨hL, hI, hK, hS, hR, hF, hT, hv9⟩ := id h
  obtain ⟨x, hx, rfl⟩ := z32x a0
  have c1 := c_quick (Γ := Γ) (l := l) (d := 5) (μ := μ) (S := μ 5 1) hI hx
  rw [zcar_self hL] at c1
  refine zPairI.of c1 (by repeat (first | rfl | split)) (fun μ1 e1 e5 => ?_)
  have m1 := m_quick (Γ := Γ) (l := l) (d := 5) (μ := μ1) (by rw [e5]; exact hI) hx
  rw [e5] at m1
  refine ⟨_, m1, ?_⟩
  by_cases hc1 : rWS (μ 5 1) x = 0
  · rw [if_pos hc1] at e1
    rw [if_pos hc1]
    subst e1
    exact zSim_mk (by first | exact hL | exact cOf_idem) (hI) (hK) (hS) (hR) (by first | exact hF | exact congrArg (fun F => rFind F _) hF | rfl) (hT) (hv9)
  · rw [if_neg hc1] at e1
    rw [if_neg hc1]
    subst e1
    exact zSim_mk (by first | exact hL | exact cOf_idem) (hI) (hK) (hS) (hR) (by first | exact hF | exact congrArg (fun F => rFind F _) hF | rfl) (hT) (hv9)

set_option maxHeartbeats 1000000 in
theorem pr_safe {Γ : zC} {l : Launch} {μ : zMem} (h : zSim μ) (a0 : Int32) : zPairI Γ l qX8_safe qX9_safe [.int a0] μ := by
  obtain ⟨hL, hI, hK, hS, hR, hF, hT, hv9⟩ := id h
  obtain ⟨x, hx, rfl⟩ := z32x a0
  have c1 := c_safe (Γ := Γ) (l := l) (d := 6) (μ := μ) (S := μ 5 1) hI hx
  rw [zcar_self hL] at c1
  refine zPairI.of c1 (by repeat (first | rfl | split)) (fun μ1 e1 e5 => ?_)
  have m1 := m_safe (Γ := Γ) (l := l) (d := 5) (μ := μ1) (by rw [e5]; exact hI) hx
  rw [e5] at m1
  refine ⟨_, m1, ?_⟩
  by_cases hc1 : rWS (μ 5 1) x = 0
  · rw [if_pos hc1] at e1
    rw [if_pos hc1]
    subst e1
    exact zSim_mk (by first | exact hL | exact cOf_idem) (hI) (hK) (hS) (hR) (by first | exact hF | exact congrArg (fun F => rFind F _) hF | rfl) (hT) (hv9)
  · rw [if_neg hc1] at e1
    rw [if_neg hc1]
    subst e1
    exact zSim_mk (by first | exact hL | exact cOf_idem) (hI) (hK) (hS) (hR) (by first | exact hF | exact congrArg (fun F => rFind F _) hF | rfl) (hT) (hv9)

set_option maxHeartbeats 1000000 in
theorem pr_kind {Γ : zC} {l : Launch} {μ : zMem} (h : zSim μ) (a0 : Int32) (a1 : Int32) : zPairI Γ l qX8_kind qX9_kind [.int a0, .int a1] μ := by
  obtain ⟨hL, hI, hK, hS, hR, hF, hT, hv9⟩ := id h
  obtain ⟨x, hx, rfl⟩ := z32x a0
  obtain ⟨y, hy, rfl⟩ := z32x a1
  have c1 := c_kind (Γ := Γ) (l := l) (d := 7) (μ := μ) (S := μ 5 1) hI (by omega) hx hy
  rw [zcar_self hL] at c1
  refine zPairI.of c1 (by repeat (first | rfl | split)) (fun μ1 e1 e5 => ?_)
  have m1 := m_kind (Γ := Γ) (l := l) (d := 5) (μ := μ1) (by rw [e5]; exact hI) hx hy
  rw [e5] at m1
  refine ⟨_, m1, ?_⟩
  by_cases hc1 : (0 ≤ x ∧ x ≤ μ 5 1 0 - 1) ∧ (0 ≤ y ∧ y ≤ 2)
  · rw [if_pos hc1] at e1
    rw [if_pos hc1]
    subst e1
    exact zSim_mk (by first | exact hL | exact cOf_idem) (hI) (hK) (hS) (hR) (by first | exact hF | exact congrArg (fun F => rFind F _) hF | rfl) (hT) (hv9)
  · rw [if_neg hc1] at e1
    rw [if_neg hc1]
    subst e1
    exact zSim_mk (by first | exact hL | exact cOf_idem) (hI) (hK) (hS) (hR) (by first | exact hF | exact congrArg (fun F => rFind F _) hF | rfl) (hT) (hv9)

set_option maxHeartbeats 1000000 in
theorem pr_bribes {Γ : zC} {l : Launch} {μ : zMem} (h : zSim μ) (a0 : Int32) (a1 : Int32) : zPairI Γ l qX8_bribes qX9_bribes [.int a0, .int a1] μ := by
  obtain ⟨hL, hI, hK, hS, hR, hF, hT, hv9⟩ := id h
  obtain ⟨x, hx, rfl⟩ := z32x a0
  obtain ⟨n, hn, rfl⟩ := z32x a1
  have c1 := c_bribes (Γ := Γ) (l := l) (d := 3) (μ := μ) (S := μ 5 1) hI (by omega) hx hn
  rw [zcar_self hL] at c1
  refine zPairI.of c1 (by repeat (first | rfl | split)) (fun μ1 e1 e5 => ?_)
  have m1 := m_bribes (Γ := Γ) (l := l) (d := 1) (μ := μ1) (by rw [e5]; exact hI) (by omega) hx hn
  rw [e5] at m1
  refine ⟨_, m1, ?_⟩
  by_cases hc1 : rWst (μ 5 1) x n = 0
  · rw [if_pos hc1] at e1
    rw [if_pos hc1]
    by_cases hc2 : 0 ≤ rBs x n.toNat 10 (μ 5 1) 0
    · rw [if_pos hc2] at e1
      rw [if_pos hc2]
      subst e1
      exact zSim_mk (by first | exact hL | exact cOf_idem) (hI) (hK) (hS) (hR) (by first | exact hF | exact congrArg (fun F => rFind F _) hF | rfl) (hT) (hv9)
    · rw [if_neg hc2] at e1
      rw [if_neg hc2]
      subst e1
      exact zSim_mk (by first | exact hL | exact cOf_idem) (hI) (hK) (hS) (hR) (by first | exact hF | exact congrArg (fun F => rFind F _) hF | rfl) (hT) (hv9)
  · rw [if_neg hc1] at e1
    rw [if_neg hc1]
    subst e1
    exact zSim_mk (by first | exact hL | exact cOf_idem) (hI) (hK) (hS) (hR) (by first | exact hF | exact congrArg (fun F => rFind F _) hF | rfl) (hT) (hv9)

set_option maxHeartbeats 1000000 in
theorem pr_coat {Γ : zC} {l : Launch} {μ : zMem} (h : zSim μ) (a0 : Int32) (a1 : Int32) : zPairI Γ l qX8_coat qX9_coat [.int a0, .int a1] μ := by
  obtain ⟨hL, hI, hK, hS, hR, hF, hT, hv9⟩ := id h
  obtain ⟨x, hx, rfl⟩ := z32x a0
  obtain ⟨k, hk, rfl⟩ := z32x a1
  have c1 := c_coat (Γ := Γ) (l := l) (d := 6) (μ := μ) (S := μ 5 1) hI (by omega) hx hk
  rw [zcar_self hL] at c1
  refine zPairI.of c1 (by repeat (first | rfl | split)) (fun μ1 e1 e5 => ?_)
  have m1 := m_coat (Γ := Γ) (l := l) (d := 7) (μ := μ1) (by rw [e5]; exact hI) (by omega) hx hk
  rw [e5] at m1
  refine ⟨_, m1, ?_⟩
  by_cases hc1 : (0 ≤ x ∧ x ≤ μ 5 1 0 - 1) ∧ (0 ≤ k ∧ k ≤ 2)
  · rw [if_pos hc1] at e1
    rw [if_pos hc1]
    subst e1
    exact zSim_mk (by first | exact hL | exact cOf_idem) (hI) (hK) (hS) (hR) (by first | exact hF | exact congrArg (fun F => rFind F _) hF | rfl) (hT) (hv9)
  · rw [if_neg hc1] at e1
    rw [if_neg hc1]
    subst e1
    exact zSim_mk (by first | exact hL | exact cOf_idem) (hI) (hK) (hS) (hR) (by first | exact hF | exact congrArg (fun F => rFind F _) hF | rfl) (hT) (hv9)

set_option maxHeartbeats 1000000 in
theorem pr_mood {Γ : zC} {l : Launch} {μ : zMem} (h : zSim μ) (a0 : Int32) (a1 : Int32) : zPairI Γ l qX8_mood qX9_mood [.int a0, .int a1] μ := by
  obtain ⟨hL, hI, hK, hS, hR, hF, hT, hv9⟩ := id h
  obtain ⟨x, hx, rfl⟩ := z32x a0
  obtain ⟨n, hn, rfl⟩ := z32x a1
  have c1 := c_mood (Γ := Γ) (l := l) (d := 3) (μ := μ) (S := μ 5 1) hI (by omega) hx hn
  rw [zcar_self hL] at c1
  refine zPairI.of c1 (by repeat (first | rfl | split)) (fun μ1 e1 e5 => ?_)
  have m1 := m_mood (Γ := Γ) (l := l) (d := 1) (μ := μ1) (by rw [e5]; exact hI) (by omega) hx hn
  rw [e5] at m1
  refine ⟨_, m1, ?_⟩
  by_cases hc1 : rWst (μ 5 1) x n = 0
  · rw [if_pos hc1] at e1
    rw [if_pos hc1]
    by_cases hc2 : 0 ≤ rMd x n.toNat (μ 5 1) 10 0
    · rw [if_pos hc2] at e1
      rw [if_pos hc2]
      subst e1
      exact zSim_mk (by first | exact hL | exact cOf_idem) (hI) (hK) (hS) (hR) (by first | exact hF | exact congrArg (fun F => rFind F _) hF | rfl) (hT) (hv9)
    · rw [if_neg hc2] at e1
      rw [if_neg hc2]
      subst e1
      exact zSim_mk (by first | exact hL | exact cOf_idem) (hI) (hK) (hS) (hR) (by first | exact hF | exact congrArg (fun F => rFind F _) hF | rfl) (hT) (hv9)
  · rw [if_neg hc1] at e1
    rw [if_neg hc1]
    subst e1
    exact zSim_mk (by first | exact hL | exact cOf_idem) (hI) (hK) (hS) (hR) (by first | exact hF | exact congrArg (fun F => rFind F _) hF | rfl) (hT) (hv9)

set_option maxHeartbeats 1000000 in
theorem pr_worst {Γ : zC} {l : Launch} {μ : zMem} (h : zSim μ) (a0 : Int32) : zPairI Γ l qX8_worst qX9_worst [.int a0] μ := by
  obtain ⟨hL, hI, hK, hS, hR, hF, hT, hv9⟩ := id h
  obtain ⟨n, hn, rfl⟩ := z32x a0
  have c1 := c_worst (Γ := Γ) (l := l) (d := 4) (μ := μ) (S := μ 5 1) hI (by omega) hn
  rw [zcar_self hL] at c1
  refine zPairI.of c1 (by repeat (first | rfl | split)) (fun μ1 e1 e5 => ?_)
  have m1 := m_worst (Γ := Γ) (l := l) (d := 2) (μ := μ1) (by rw [e5]; exact hI) (by omega) hn
  rw [e5] at m1
  refine ⟨_, m1, ?_⟩
  by_cases hc1 : 0 ≤ n ∧ n ≤ 60
  · rw [if_pos hc1] at e1
    rw [if_pos hc1]
    by_cases hc2 : 0 ≤ rWo (rGo n.toNat (μ 5 1)) (zi (rSit (μ 5 1))) ((μ 5 1) 0).toNat 0 (-1)
    · rw [if_pos hc2] at e1
      rw [if_pos hc2]
      subst e1
      exact zSim_mk (by first | exact hL | exact cOf_idem) (hI) (hK) (hS) (hR) (by first | exact hF | exact congrArg (fun F => rFind F _) hF | rfl) (hT) (hv9)
    · rw [if_neg hc2] at e1
      rw [if_neg hc2]
      subst e1
      exact zSim_mk (by first | exact hL | exact cOf_idem) (hI) (hK) (hS) (hR) (by first | exact hF | exact congrArg (fun F => rFind F _) hF | rfl) (hT) (hv9)
  · rw [if_neg hc1] at e1
    rw [if_neg hc1]
    subst e1
    exact zSim_mk (by first | exact hL | exact cOf_idem) (hI) (hK) (hS) (hR) (by first | exact hF | exact congrArg (fun F => rFind F _) hF | rfl) (hT) (hv9)

set_option maxHeartbeats 1000000 in
theorem pr_feed {Γ : zC} {l : Launch} {μ : zMem} (h : zSim μ) (b : Int32) (a1 : Int32) : zPairI Γ l qX8_feed qX9_feed [.int b, .int a1] μ := by
  obtain ⟨hL, hI, hK, hS, hR, hF, hT, hv9⟩ := id h
  obtain ⟨n, hn, rfl⟩ := z32x a1
  obtain ⟨tT, tn, tO⟩ := hT
  have c1 := c_feed (Γ := Γ) (l := l) (d := 8) (μ := μ) (b := b) (by rw [tn]; exact tO.1) hn
  rw [tn, tT] at c1
  refine zPairI.of c1 (by repeat (first | rfl | split)) (fun μ1 e1 e5 => ?_)
  have m1 := m_feed (Γ := Γ) (l := l) (d := 8) (μ := μ1) (b := b) (by rw [e5]; exact tO.1) hn
  rw [e5] at m1
  refine ⟨_, m1, ?_⟩
  by_cases hc1 : 1 ≤ n ∧ n ≤ 4
  · rw [if_pos hc1] at e1
    rw [if_pos hc1]
    by_cases hc2 : μ 5 0 10 + n ≤ 120
    · rw [if_pos hc2] at e1
      rw [if_pos hc2]
      subst e1
      have f9 := rFeed_ok (b := b) (i := n.toNat) tO (by omega)
      rw [show ((n.toNat : Nat) : Int) = n from Int.toNat_of_nonneg (by omega)] at f9
      exact zSim_mk (by first | exact hL | exact cOf_idem) (hI) (hK) (hS) (hR) (by first | exact hF | exact congrArg (fun F => rFind F _) hF | rfl) (⟨rfl, rfl, f9⟩) (hv9)
    · rw [if_neg hc2] at e1
      rw [if_neg hc2]
      subst e1
      exact zSim_mk (by first | exact hL | exact cOf_idem) (hI) (hK) (hS) (hR) (by first | exact hF | exact congrArg (fun F => rFind F _) hF | rfl) (⟨tT, tn, tO⟩) (hv9)
  · rw [if_neg hc1] at e1
    rw [if_neg hc1]
    subst e1
    exact zSim_mk (by first | exact hL | exact cOf_idem) (hI) (hK) (hS) (hR) (by first | exact hF | exact congrArg (fun F => rFind F _) hF | rfl) (⟨tT, tn, tO⟩) (hv9)

set_option maxHeartbeats 1000000 in
theorem pr_wipe {Γ : zC} {l : Launch} {μ : zMem} (h : zSim μ)  : zPairI Γ l qX8_wipe qX9_wipe [] μ := by
  obtain ⟨hL, hI, hK, hS, hR, hF, hT, hv9⟩ := id h
  obtain ⟨tT, tn, tO⟩ := hT
  have c1 := c_wipe (Γ := Γ) (l := l) (d := 9) (μ := μ) 
  rw [tn] at c1
  refine zPairI.of c1 (by repeat (first | rfl | split)) (fun μ1 e1 e5 => ?_)
  have m1 := m_wipe (Γ := Γ) (l := l) (d := 9) (μ := μ1) 
  rw [e5] at m1
  refine ⟨_, m1, ?_⟩
  subst e1
  exact zSim_mk (by first | exact hL | exact cOf_idem) (hI) (hK) (hS) (hR) (by first | exact hF | exact congrArg (fun F => rFind F _) hF | rfl) (⟨tT, rfl, tape0⟩) (hv9)

set_option maxHeartbeats 1000000 in
theorem pr_sheet {Γ : zC} {l : Launch} {μ : zMem} (h : zSim μ) (a0 : Int32) (a1 : Int32) (a2 : Int32) : zPairI Γ l qX8_sheet qX9_sheet [.int a0, .int a1, .int a2] μ := by
  obtain ⟨hL, hI, hK, hS, hR, hF, hT, hv9⟩ := id h
  obtain ⟨j, hj, rfl⟩ := z32x a0
  obtain ⟨b, hb, rfl⟩ := z32x a1
  obtain ⟨n, hn, rfl⟩ := z32x a2
  have c1 := c_sheet (Γ := Γ) (l := l) (d := 8) (μ := μ) (B := μ 5 9) (Z := μ 5 10) (M := μ 5 11) hR hj hb hn
  rw [zsht_self hS] at c1
  refine zPairI.of c1 (by repeat (first | rfl | split)) (fun μ1 e1 e5 => ?_)
  have m1 := m_sheet (Γ := Γ) (l := l) (d := 7) (μ := μ1) (by rw [e5]; exact hR) hj hb hn
  rw [e5] at m1
  refine ⟨_, m1, ?_⟩
  by_cases hc1 : (0 ≤ j ∧ j ≤ 3) ∧ (b = 0 ∨ b = 8 ∨ b = 16 ∨ b = 64)
  · rw [if_pos hc1] at e1
    rw [if_pos hc1]
    by_cases hc2 : n < 0
    · rw [if_pos hc2] at e1
      rw [if_pos hc2]
      subst e1
      exact zSim_mk (by first | exact hL | exact cOf_idem) (hI) (hK) (hS) (hR) (by first | exact hF | exact congrArg (fun F => rFind F _) hF | rfl) (hT) (hv9)
    · rw [if_neg hc2] at e1
      rw [if_neg hc2]
      by_cases hc3 : 40 < n
      · rw [if_pos hc3] at e1
        rw [if_pos hc3]
        subst e1
        exact zSim_mk (by first | exact hL | exact cOf_idem) (hI) (hK) (hS) (hR) (by first | exact hF | exact congrArg (fun F => rFind F _) hF | rfl) (hT) (hv9)
      · rw [if_neg hc3] at e1
        rw [if_neg hc3]
        subst e1
        exact zSim_mk (by first | exact hL | exact cOf_idem) (hI) (hK) (zsht_C (μ := μ) (B := zfu (μ 5 9) j b) (Z := zfu (μ 5 10) j (if b = 0 then 0 else n)) (M := fun i => if (40 * j) ≤ i ∧ i < (40 * j) + 40 then 0 else (μ 5 11) i)) (rSh_sheet hR hc1.2 (by split <;> omega)) (by first | exact hF | exact congrArg (fun F => rFind F _) hF | rfl) (hT) (hv9)
  · rw [if_neg hc1] at e1
    rw [if_neg hc1]
    subst e1
    exact zSim_mk (by first | exact hL | exact cOf_idem) (hI) (hK) (hS) (hR) (by first | exact hF | exact congrArg (fun F => rFind F _) hF | rfl) (hT) (hv9)

set_option maxHeartbeats 1000000 in
theorem pr_write {Γ : zC} {l : Launch} {μ : zMem} (h : zSim μ) (a0 : Int32) (a1 : Int32) (a2 : Int64) : zPairL Γ l qX8_write qX9_write [.int a0, .int a1, .long a2] μ := by
  obtain ⟨hL, hI, hK, hS, hR, hF, hT, hv9⟩ := id h
  obtain ⟨j, hj, rfl⟩ := z32x a0
  obtain ⟨i, hi, rfl⟩ := z32x a1
  obtain ⟨v, hv, rfl⟩ := z64x a2
  have c1 := c_write (Γ := Γ) (l := l) (d := 8) (μ := μ) (B := μ 5 9) (Z := μ 5 10) (M := μ 5 11) hR hj hi hv
  rw [zsht_self hS] at c1
  refine zPairL.of c1 (by repeat (first | rfl | split)) (fun μ1 e1 e5 => ?_)
  have m1 := m_write (Γ := Γ) (l := l) (d := 6) (μ := μ1) (by rw [e5]; exact hR) hj hi hv
  rw [e5] at m1
  refine ⟨_, m1, ?_⟩
  by_cases hc1 : rWsh (μ 5 9) j = 0
  · rw [if_pos hc1] at e1
    rw [if_pos hc1]
    by_cases hc2 : 0 ≤ i ∧ i ≤ (μ 5 10) j - 1
    · rw [if_pos hc2] at e1
      rw [if_pos hc2]
      subst e1
      exact zSim_mk (by first | exact hL | exact cOf_idem) (hI) (hK) (zsht_C (μ := μ) (B := μ 5 9) (Z := μ 5 10) (M := zfu (μ 5 11) (40 * j + i) (rNar ((μ 5 9) j) v))) (rSh_M hR (fun q h0 h1 => rFu_rg (rNar_rg hv) (hR.2 q h0 h1))) (by first | exact hF | exact congrArg (fun F => rFind F _) hF | rfl) (hT) (hv9)
    · rw [if_neg hc2] at e1
      rw [if_neg hc2]
      subst e1
      exact zSim_mk (by first | exact hL | exact cOf_idem) (hI) (hK) (hS) (hR) (by first | exact hF | exact congrArg (fun F => rFind F _) hF | rfl) (hT) (hv9)
  · rw [if_neg hc1] at e1
    rw [if_neg hc1]
    subst e1
    exact zSim_mk (by first | exact hL | exact cOf_idem) (hI) (hK) (hS) (hR) (by first | exact hF | exact congrArg (fun F => rFind F _) hF | rfl) (hT) (hv9)

set_option maxHeartbeats 1000000 in
theorem pr_copy {Γ : zC} {l : Launch} {μ : zMem} (h : zSim μ) (a0 : Int32) (a1 : Int32) (a2 : Int32) (a3 : Int32) (a4 : Int32) : zPairI Γ l qX8_copy qX9_copy [.int a0, .int a1, .int a2, .int a3, .int a4] μ := by
  obtain ⟨hL, hI, hK, hS, hR, hF, hT, hv9⟩ := id h
  obtain ⟨j, hj, rfl⟩ := z32x a0
  obtain ⟨f, hf, rfl⟩ := z32x a1
  obtain ⟨t, ht, rfl⟩ := z32x a2
  obtain ⟨o, ho, rfl⟩ := z32x a3
  obtain ⟨n, hn, rfl⟩ := z32x a4
  have c1 := c_copy (Γ := Γ) (l := l) (d := 8) (μ := μ) (B := μ 5 9) (Z := μ 5 10) (M := μ 5 11) hR hj hf ht ho hn
  rw [zsht_self hS] at c1
  refine zPairI.of c1 (by repeat (first | rfl | split)) (fun μ1 e1 e5 => ?_)
  have m1 := m_copy (Γ := Γ) (l := l) (d := 7) (μ := μ1) (by rw [e5]; exact hR) hj hf ht ho hn
  rw [e5] at m1
  refine ⟨_, m1, ?_⟩
  by_cases hc1 : (0 ≤ j ∧ j ≤ 3) ∧ (0 ≤ t ∧ t ≤ 3)
  · rw [if_pos hc1] at e1
    rw [if_pos hc1]
    by_cases hc2 : ¬ (μ 5 9) j = 0 ∧ ¬ (μ 5 9) t = 0
    · rw [if_pos hc2] at e1
      rw [if_pos hc2]
      by_cases hc3 : (μ 5 9) j = (μ 5 9) t
      · rw [if_pos hc3] at e1
        rw [if_pos hc3]
        by_cases hc4 : 0 ≤ f ∧ 0 ≤ o ∧ 0 ≤ n ∧ n ≤ (μ 5 10) j - f ∧ n ≤ (μ 5 10) t - o
        · rw [if_pos hc4] at e1
          rw [if_pos hc4]
          subst e1
          exact zSim_mk (by first | exact hL | exact cOf_idem) (hI) (hK) (zsht_C (μ := μ) (B := μ 5 9) (Z := μ 5 10) (M := rCopy (μ 5 11) (40 * j + f) (40 * t + o) n)) (rSh_copy hR (by have := (hR.1 j (by omega) (by omega)).2; omega)) (by first | exact hF | exact congrArg (fun F => rFind F _) hF | rfl) (hT) (hv9)
        · rw [if_neg hc4] at e1
          rw [if_neg hc4]
          subst e1
          exact zSim_mk (by first | exact hL | exact cOf_idem) (hI) (hK) (hS) (hR) (by first | exact hF | exact congrArg (fun F => rFind F _) hF | rfl) (hT) (hv9)
      · rw [if_neg hc3] at e1
        rw [if_neg hc3]
        subst e1
        exact zSim_mk (by first | exact hL | exact cOf_idem) (hI) (hK) (hS) (hR) (by first | exact hF | exact congrArg (fun F => rFind F _) hF | rfl) (hT) (hv9)
    · rw [if_neg hc2] at e1
      rw [if_neg hc2]
      subst e1
      exact zSim_mk (by first | exact hL | exact cOf_idem) (hI) (hK) (hS) (hR) (by first | exact hF | exact congrArg (fun F => rFind F _) hF | rfl) (hT) (hv9)
  · rw [if_neg hc1] at e1
    rw [if_neg hc1]
    subst e1
    exact zSim_mk (by first | exact hL | exact cOf_idem) (hI) (hK) (hS) (hR) (by first | exact hF | exact congrArg (fun F => rFind F _) hF | rfl) (hT) (hv9)

set_option maxHeartbeats 1000000 in
theorem pr_lays {Γ : zC} {l : Launch} {μ : zMem} (h : zSim μ) (a0 : Int32) : zPairI Γ l qX8_lays qX9_lays [.int a0] μ := by
  obtain ⟨hL, hI, hK, hS, hR, hF, hT, hv9⟩ := id h
  obtain ⟨j, hj, rfl⟩ := z32x a0
  have c1 := c_lays (Γ := Γ) (l := l) (d := 8) (μ := μ) (S := μ 5 1) (B := μ 5 9) (Z := μ 5 10) (M := μ 5 11) hI hR hj
  rw [zsht_self hS, zcar_self hL] at c1
  refine zPairI.of c1 (by repeat (first | rfl | split)) (fun μ1 e1 e5 => ?_)
  have m1 := m_lays (Γ := Γ) (l := l) (d := 6) (μ := μ1) (by rw [e5]; exact hI) (by rw [e5]; exact hR) hj
  rw [e5] at m1
  refine ⟨_, m1, ?_⟩
  by_cases hc1 : rWsh (μ 5 9) j = 0
  · rw [if_pos hc1] at e1
    rw [if_pos hc1]
    subst e1
    exact zSim_mk (cOf_idem) (rLayS_inv hI (by omega) (by have := hI.1; have := (hR.1 j (by have := rWsh_0 hc1; omega) (by have := rWsh_0 hc1; omega)).2; split <;> omega)) (hK) (hS) (hR) (by first | exact hF | exact congrArg (fun F => rFind F _) hF | rfl) (hT) (hv9)
  · rw [if_neg hc1] at e1
    rw [if_neg hc1]
    subst e1
    exact zSim_mk (by first | exact hL | exact cOf_idem) (hI) (hK) (hS) (hR) (by first | exact hF | exact congrArg (fun F => rFind F _) hF | rfl) (hT) (hv9)

set_option maxHeartbeats 1000000 in
theorem pr_book {Γ : zC} {l : Launch} {μ : zMem} (h : zSim μ) (a0 : Int32) (a1 : Int32) : zPairI Γ l qX8_book qX9_book [.int a0, .int a1] μ := by
  obtain ⟨hL, hI, hK, hS, hR, hF, hT, hv9⟩ := id h
  obtain ⟨j, hj, rfl⟩ := z32x a0
  obtain ⟨x, hx, rfl⟩ := z32x a1
  have c1 := c_book (Γ := Γ) (l := l) (d := 5) (μ := μ) (S := μ 5 1) (B := μ 5 9) (Z := μ 5 10) (M := μ 5 11) hI (by omega) hR hj hx
  rw [zsht_self hS, zcar_self hL] at c1
  refine zPairI.of c1 (by repeat (first | rfl | split)) (fun μ1 e1 e5 => ?_)
  have m1 := m_book (Γ := Γ) (l := l) (d := 3) (μ := μ1) (by rw [e5]; exact hI) (by omega) (by rw [e5]; exact hR) hj hx
  rw [e5] at m1
  refine ⟨_, m1, ?_⟩
  by_cases hc1 : rWbk (μ 5 9) (μ 5 1) j x = 0
  · rw [if_pos hc1] at e1
    rw [if_pos hc1]
    subst e1
    exact zSim_mk (cOf_idem) (hI) (hK) (zsht_C (μ := μ) (B := μ 5 9) (Z := μ 5 10) (M := rBook x (40 * j) ((μ 5 10) j).toNat 0 (μ 5 1) (μ 5 11))) (rSh_M hR (rBook_rg (N := 9999) (by have := (rWbk_0 hc1).2.2; have := hI.1; omega) hI hR.2)) (by first | exact hF | exact congrArg (fun F => rFind F _) hF | rfl) (hT) (hv9)
  · rw [if_neg hc1] at e1
    rw [if_neg hc1]
    subst e1
    exact zSim_mk (by first | exact hL | exact cOf_idem) (hI) (hK) (hS) (hR) (by first | exact hF | exact congrArg (fun F => rFind F _) hF | rfl) (hT) (hv9)

set_option maxHeartbeats 1000000 in
theorem pr_read {Γ : zC} {l : Launch} {μ : zMem} (h : zSim μ) (a0 : Int32) (a1 : Int32) : zPairI Γ l qX8_read qX9_read [.int a0, .int a1] μ := by
  obtain ⟨hL, hI, hK, hS, hR, hF, hT, hv9⟩ := id h
  obtain ⟨j, hj, rfl⟩ := z32x a0
  obtain ⟨x, hx, rfl⟩ := z32x a1
  have c1 := c_read (Γ := Γ) (l := l) (d := 4) (μ := μ) (S := μ 5 1) (B := μ 5 9) (Z := μ 5 10) (M := μ 5 11) hI (by omega) hR hj hx
  rw [zsht_self hS, zcar_self hL] at c1
  refine zPairI.of c1 (by repeat (first | rfl | split)) (fun μ1 e1 e5 => ?_)
  have m1 := m_read (Γ := Γ) (l := l) (d := 2) (μ := μ1) (by rw [e5]; exact hI) (by omega) (by rw [e5]; exact hR) hj hx
  rw [e5] at m1
  refine ⟨_, m1, ?_⟩
  by_cases hc1 : rWbk (μ 5 9) (μ 5 1) j x = 0
  · rw [if_pos hc1] at e1
    rw [if_pos hc1]
    subst e1
    exact zSim_mk (by first | exact hL | exact cOf_idem) (hI) (hK) (hS) (hR) (by first | exact hF | exact congrArg (fun F => rFind F _) hF | rfl) (hT) (hv9)
  · rw [if_neg hc1] at e1
    rw [if_neg hc1]
    subst e1
    exact zSim_mk (by first | exact hL | exact cOf_idem) (hI) (hK) (hS) (hR) (by first | exact hF | exact congrArg (fun F => rFind F _) hF | rfl) (hT) (hv9)

set_option maxHeartbeats 1000000 in
theorem pr_image {Γ : zC} {l : Launch} {μ : zMem} (h : zSim μ)  : zPairI Γ l qX8_image qX9_image [] μ := by
  obtain ⟨hL, hI, hK, hS, hR, hF, hT, hv9⟩ := id h
  have c1 := c_image (Γ := Γ) (l := l) (d := 7) (μ := μ) (S := μ 5 1) hI
  rw [zcar_self hL] at c1
  refine zPairI.of c1 (by repeat (first | rfl | split)) (fun μ1 e1 e5 => ?_)
  have m1 := m_image (Γ := Γ) (l := l) (d := 9) (μ := μ1) 
  rw [e5] at m1
  refine ⟨_, m1, ?_⟩
  subst e1
  exact zSim_mk (by first | exact hL | exact cOf_idem) (hI) (⟨rfl, Or.inr rfl, fun _ => ⟨cOf_idem, hI⟩⟩) (hS) (hR) (by first | exact hF | exact congrArg (fun F => rFind F _) hF | rfl) (hT) (hv9)

set_option maxHeartbeats 1000000 in
theorem pr_tear {Γ : zC} {l : Launch} {μ : zMem} (h : zSim μ)  : zPairI Γ l qX8_tear qX9_tear [] μ := by
  obtain ⟨hL, hI, hK, hS, hR, hF, hT, hv9⟩ := id h
  obtain ⟨k1, k2, k3⟩ := id hK
  have c1 := c_tear (Γ := Γ) (l := l) (d := 9) (μ := μ) (by rw [k1]; exact k2)
  rw [k1] at c1
  refine zPairI.of c1 (by repeat (first | rfl | split)) (fun μ1 e1 e5 => ?_)
  have m1 := m_tear (Γ := Γ) (l := l) (d := 9) (μ := μ1) (by rw [e5]; exact k2)
  rw [e5] at m1
  refine ⟨_, m1, ?_⟩
  subst e1
  exact zSim_mk (by first | exact hL | exact cOf_idem) (hI) (⟨rfl, Or.inl rfl, fun q => absurd q (show ¬ (0 : Int) = 1 from by decide)⟩) (hS) (hR) (by first | exact hF | exact congrArg (fun F => rFind F _) hF | rfl) (hT) (hv9)

set_option maxHeartbeats 1000000 in
theorem pr_count {Γ : zC} {l : Launch} {μ : zMem} (h : zSim μ) (a0 : Int32) : zPairI Γ l qX8_count qX9_count [.int a0] μ := by
  obtain ⟨hL, hI, hK, hS, hR, hF, hT, hv9⟩ := id h
  obtain ⟨w, hw, rfl⟩ := z32x a0
  obtain ⟨tT, tn, tO⟩ := hT
  have c1 := c_count (Γ := Γ) (l := l) (d := 7) (μ := μ) (S := μ 5 1) hI (by omega) hw
  rw [zcar_self hL] at c1
  rw [tn] at c1
  refine zPairI.of c1 (by repeat (first | rfl | split)) (fun μ1 e1 e5 => ?_)
  have m1 := m_count (Γ := Γ) (l := l) (d := 5) (μ := μ1) (by rw [e5]; exact hI) (by omega) hw
  rw [e5] at m1
  refine ⟨_, m1, ?_⟩
  by_cases hc1 : 0 ≤ w ∧ w ≤ 3
  · rw [if_pos hc1] at e1
    rw [if_pos hc1]
    subst e1
    exact zSim_mk (by first | exact hL | exact cOf_idem) (hI) (hK) (hS) (hR) (by first | exact hF | exact congrArg (fun F => rFind F _) hF | rfl) (⟨tT, tn, tO⟩) (hv9)
  · rw [if_neg hc1] at e1
    rw [if_neg hc1]
    subst e1
    exact zSim_mk (by first | exact hL | exact cOf_idem) (hI) (hK) (hS) (hR) (by first | exact hF | exact congrArg (fun F => rFind F _) hF | rfl) (⟨tT, tn, tO⟩) (hv9)

set_option maxHeartbeats 1000000 in
theorem pr_status {Γ : zC} {l : Launch} {μ : zMem} (h : zSim μ) (a0 : Int32) : zPairI Γ l qX8_status qX9_status [.int a0] μ := by
  obtain ⟨hL, hI, hK, hS, hR, hF, hT, hv9⟩ := id h
  obtain ⟨w, hw, rfl⟩ := z32x a0
  have c1 := c_status (Γ := Γ) (l := l) (d := 8) (μ := μ) hw
  rw [hF] at c1
  refine zPairI.of c1 (by repeat (first | rfl | split)) (fun μ1 e1 e5 => ?_)
  have m1 := m_status (Γ := Γ) (l := l) (d := 8) (μ := μ1) hw
  rw [e5] at m1
  refine ⟨_, m1, ?_⟩
  by_cases hc1 : -1 ≤ w ∧ w ≤ 6
  · rw [if_pos hc1] at e1
    rw [if_pos hc1]
    subst e1
    exact zSim_mk (by first | exact hL | exact cOf_idem) (hI) (hK) (hS) (hR) (by first | exact hF | exact congrArg (fun F => rFind F _) hF | rfl) (hT) (hv9)
  · rw [if_neg hc1] at e1
    rw [if_neg hc1]
    subst e1
    exact zSim_mk (by first | exact hL | exact cOf_idem) (hI) (hK) (hS) (hR) (by first | exact hF | exact congrArg (fun F => rFind F _) hF | rfl) (hT) (hv9)

theorem pr_undo {Γ : zC} {l : Launch} {μ : zMem} (h : zSim μ) : zPairI Γ l qX8_undo qX9_undo [] μ := by
  obtain ⟨hL, hI, hK, hS, hR, hF, hT, hv9⟩ := id h
  obtain ⟨k1, k2, k3⟩ := id hK
  rcases k2 with k2 | k2
  · have c1 := c_undo0 (Γ := Γ) (l := l) (d := 7) (μ := μ) (k1.trans k2)
    refine zPairI.of c1 rfl (fun μ1 e1 e5 => ?_)
    have m1 := m_undo (Γ := Γ) (l := l) (d := 8) (μ := μ1) (by rw [e5]; exact Or.inl k2)
    rw [e5, if_neg (by omega), if_neg (by omega)] at m1
    refine ⟨_, m1, ?_⟩
    subst e1
    exact zSim_mk (by first | exact hL | exact cOf_idem) (hI) (hK) (hS) (hR) (by first | exact hF | exact congrArg (fun F => rFind F _) hF | rfl) (hT) (hv9)
  · obtain ⟨k4, k5⟩ := k3 k2
    have c1 := c_undo1 (Γ := Γ) (l := l) (d := 7) (μ := μ) (S := μ 5 2) k5 (k1.trans k2)
    rw [zcar_self k4] at c1
    refine zPairI.of c1 rfl (fun μ1 e1 e5 => ?_)
    have m1 := m_undo (Γ := Γ) (l := l) (d := 8) (μ := μ1) (by rw [e5]; exact Or.inr k2)
    rw [e5, if_pos k2, if_pos k2] at m1
    refine ⟨_, m1, ?_⟩
    subst e1
    exact zSim_mk (cOf_idem) (k5) (hK) (hS) (hR) (by first | exact hF | exact congrArg (fun F => rFind F _) hF | rfl) (hT) (hv9)
set_option maxHeartbeats 1000000 in
theorem pr_car {Γ : zC} {l : Launch} {μ : zMem} (h : zSim μ) : zPairI Γ l qX8_car qX9_car [] μ := by
  obtain ⟨hL, hI, hK, hS, hR, hF, ⟨tT, tn, tO⟩, hv9⟩ := id h
  have c1 := c_car (Γ := Γ) (l := l) (d := 1) (μ := μ) (S := μ 5 1) hI (by rw [tT, tn]; exact tO)
  rw [zcar_self hL, tT, tn, read_ans (f := μ 5 0 11) tO hI hv9] at c1
  refine zPairI.of c1 (by repeat (first | rfl | split)) (fun μ1 e1 e5 => ?_)
  have m1 := m_car (Γ := Γ) (l := l) (d := 1) (μ := μ1) (by rw [e5]; exact hI) (by rw [e5]; exact tO) (by rw [e5]; exact hv9)
  rw [e5] at m1
  refine ⟨_, m1, ?_⟩
  have kR := pRead_ok (f := μ 5 0 11) tO hI hv9
  have hr := read_rl (f := μ 5 0 11) tO hI hv9
  rcases hr with ⟨a1, a2, a3, a4⟩ | ⟨a1, a2, a3⟩
  · rw [if_pos a1] at e1
    rw [if_neg a2, if_neg a2]
    subst e1
    rw [← a4]
    have kI : rInv 9999 (Cst.S (cRead (μ 5 8) (μ 5 0 10) (μ 5 1)).1) := by rw [a4]; exact kR.2.2.2.2
    exact zSim_mk (cOf_idem) (kI) (hK) (hS) (hR) (by first | exact hF | exact congrArg (fun F => rFind F _) hF | rfl) (⟨tT, rfl, tape0⟩) (kR.2.2.2.1)
  · rw [if_neg a1] at e1
    rw [if_pos a2, if_pos a2]
    subst e1
    exact zSim_mk (by first | exact hL | exact cOf_idem) (hI) (hK) (hS) (hR) (by first | exact hF | exact congrArg (fun F => rFind F _) hF | rfl) (⟨tT, rfl, tape0⟩) (kR.2.2.2.1)
theorem zSim_zw {μ ν : zMem} {b : Int} {F3 Fs Fb : Int → Int} {b' : Int} {Fs' Fb' : Int → Int} (h : zSim μ) (ho : ∀ g : Nat, ¬ g = 3 → ν g = μ g) : zSim (zr (zcar (zw ν b F3 Fs Fb) 0 (μ 5 1)) b' Fs' Fb' (μ 5 1) (μ 5 1)) := by
  obtain ⟨hL, hI, hK, hS, hR, hF, hT, hv9⟩ := id h
  have e0 : ν 0 = μ 0 := ho 0 (by decide)
  have e1 : ν 1 = μ 1 := ho 1 (by decide)
  have e4 : ν 4 = μ 4 := ho 4 (by decide)
  have e5 : ν 5 = μ 5 := ho 5 (by decide)
  rw [← e1, ← e4, ← e5] at hK
  rw [← e4, ← e5] at hS hF hT
  rw [← e5] at hR hv9
  exact zSim_mk cOf_idem hI hK hS hR hF hT hv9
set_option maxHeartbeats 1000000 in
theorem pr_all {Γ : zC} {l : Launch} {μ : zMem} (h : zSim μ) (a0 : Int32) : zPairI Γ l qX8_all qX9_all [.int a0] μ := by
  obtain ⟨hL, hI, hK, hS, hR, hF, hT, hv9⟩ := id h
  obtain ⟨x, hx, rfl⟩ := z32x a0
  have c1 := c_all (Γ := Γ) (l := l) (d := 3) (μ := μ) (S := μ 5 1) hI (by omega) hx
  rw [zcar_self hL] at c1
  by_cases hc : rW3 (μ 5 1) x = 0
  · rw [if_pos hc, if_pos hc] at c1
    have hA : ((0 ≤ x ∧ x ≤ rP2 ((μ 5 1) 0) - 1) ∧ rPop x = 3) ∧ rSit (μ 5 1) = 0 := by
      have hz : rW3 (μ 5 1) x = 0 := hc
      unfold rW3 at hz
      split at hz
      · split at hz
        · split at hz
          · exact ⟨⟨by assumption, by assumption⟩, by assumption⟩
          · omega
        · omega
      · omega
    have hp2 := rP2_rg ((μ 5 1) 0)
    have h3 : x.toNat ∈ pop3 := pop3_tab x.toNat (by omega) (by rw [Int.toNat_of_nonneg (by omega)]; omega)
    have ex : ((x.toNat : Nat) : Int) = x := Int.toNat_of_nonneg (by omega)
    have hw : ∀ w ∈ cwl x.toNat, 0 ≤ wsec (μ 5 1) w ∧ wsec (μ 5 1) w ≤ 438 := fun w hw => (wok_f hI (rSit_none hI hA.2) (by rw [ex]; omega) (wok_tab x.toNat h3 w hw)).1
    have hr := fold_rel (μ := μ) (S := μ 5 1) (cwl x.toNat) hw (-1, μ 5 7) (μ, (-1 : Int), μ 4 6, μ 4 7) ⟨rfl, show (-1 : Int) ≤ -1 from by decide, show (-1 : Int) ≤ 438 from by decide, fun z => absurd z (show ¬ (0 : Int) ≤ -1 from by decide)⟩
    have h0 := hr.2 (Or.inr (cwl_ne x.toNat h3))
    have ho := fold_out (μ := μ) (S := μ 5 1) (cwl x.toNat) (μ, (-1 : Int), μ 4 6, μ 4 7) (fun g hg => rfl)
    refine zPairI.of c1 (ho 5 (by decide)) (fun μ1 e1 e5 => ?_)
    have m1 := m_all (Γ := Γ) (l := l) (d := 3) (μ := μ1) (by rw [e5]; exact hI) hx
    rw [e5, if_pos hc, if_pos hc, hr.1.1] at m1
    refine ⟨_, m1, ?_⟩
    subst e1
    exact zSim_zw h ho
  · rw [if_neg hc, if_neg hc] at c1
    refine zPairI.of c1 rfl (fun μ1 e1 e5 => ?_)
    have m1 := m_all (Γ := Γ) (l := l) (d := 3) (μ := μ1) (by rw [e5]; exact hI) hx
    rw [e5, if_neg hc, if_neg hc] at m1
    refine ⟨_, m1, ?_⟩
    subst e1
    exact zSim_mk (by first | exact hL | exact cOf_idem) (hI) (hK) (hS) (hR) (by first | exact hF | exact congrArg (fun F => rFind F _) hF | rfl) (hT) (hv9)
set_option maxHeartbeats 1000000 in
theorem pr_way {Γ : zC} {l : Launch} {μ : zMem} (h : zSim μ) (a0 a1 : Int32) : zPairI Γ l qX8_way qX9_way [.int a0, .int a1] μ := by
  obtain ⟨hL, hI, hK, hS, hR, hF, hT, hv9⟩ := id h
  obtain ⟨x, hx, rfl⟩ := z32x a0
  obtain ⟨k, hk, rfl⟩ := z32x a1
  have c1 := c_way (Γ := Γ) (l := l) (d := 3) (μ := μ) (S := μ 5 1) hI (by omega) hx hk
  rw [zcar_self hL] at c1
  by_cases hq : (if (0 ≤ k ∧ k ≤ 2) then rW3 (μ 5 1) x else -1000000001) = 0
  · rw [if_pos hq, if_pos hq] at c1
    have hc : rW3 (μ 5 1) x = 0 := by
      split at hq
      · exact hq
      · omega
    have hA : ((0 ≤ x ∧ x ≤ rP2 ((μ 5 1) 0) - 1) ∧ rPop x = 3) ∧ rSit (μ 5 1) = 0 := by
      have hz : rW3 (μ 5 1) x = 0 := hc
      unfold rW3 at hz
      split at hz
      · split at hz
        · split at hz
          · exact ⟨⟨by assumption, by assumption⟩, by assumption⟩
          · omega
        · omega
      · omega
    have hp2 := rP2_rg ((μ 5 1) 0)
    have h3 : x.toNat ∈ pop3 := pop3_tab x.toNat (by omega) (by rw [Int.toNat_of_nonneg (by omega)]; omega)
    have ex : ((x.toNat : Nat) : Int) = x := Int.toNat_of_nonneg (by omega)
    have hw : ∀ w ∈ cwl x.toNat, 0 ≤ wsec (μ 5 1) w ∧ wsec (μ 5 1) w ≤ 438 := fun w hw => (wok_f hI (rSit_none hI hA.2) (by rw [ex]; omega) (wok_tab x.toNat h3 w hw)).1
    have hr := fold_rel (μ := μ) (S := μ 5 1) (cwl x.toNat) hw (-1, μ 5 7) (μ, (-1 : Int), μ 4 6, μ 4 7) ⟨rfl, show (-1 : Int) ≤ -1 from by decide, show (-1 : Int) ≤ 438 from by decide, fun z => absurd z (show ¬ (0 : Int) ≤ -1 from by decide)⟩
    have h0 := hr.2 (Or.inr (cwl_ne x.toNat h3))
    have ho := fold_out (μ := μ) (S := μ 5 1) (cwl x.toNat) (μ, (-1 : Int), μ 4 6, μ 4 7) (fun g hg => rfl)
    obtain ⟨wq, w1, w2⟩ := hr.1.2.2.2 h0
    refine zPairI.of c1 (ho 5 (by decide)) (fun μ1 e1 e5 => ?_)
    have m1 := m_way (Γ := Γ) (l := l) (d := 3) (μ := μ1) (by rw [e5]; exact hI) hx hk
    rw [e5, if_pos hq, if_pos hq] at m1
    refine ⟨_, Eq.mp (by rw [show ((cwl x.toNat).foldl (cSt μ (μ 5 1)) (μ, (-1 : Int), μ 4 6, μ 4 7)).2.2.2 k = 10 * (((cwl x.toNat).foldl (rSt (μ 5 1)) (-1, μ 5 7)).2 k / 3) + ((cwl x.toNat).foldl (rSt (μ 5 1)) (-1, μ 5 7)).2 k % 3 from by rw [w2, w1]; rfl]) m1, ?_⟩
    subst e1
    exact zSim_zw h ho
  · rw [if_neg hq, if_neg hq] at c1
    refine zPairI.of c1 rfl (fun μ1 e1 e5 => ?_)
    have m1 := m_way (Γ := Γ) (l := l) (d := 3) (μ := μ1) (by rw [e5]; exact hI) hx hk
    rw [e5, if_neg hq, if_neg hq] at m1
    refine ⟨_, m1, ?_⟩
    subst e1
    exact zSim_mk (by first | exact hL | exact cOf_idem) (hI) (hK) (hS) (hR) (by first | exact hF | exact congrArg (fun F => rFind F _) hF | rfl) (hT) (hv9)
