/-! shapes of the cells (laid by wip/whole/gen/tables.py) -/
theorem zs_cls : zsh 4 0 = some (.inl (7, [some (0, 0), some (1, 0), some (2, 0), some (4, 1), some (4, 4), some (4, 8), some (4, 17), none])) := rfl
theorem zs_txt : zsh 4 1 = some (.inl (1, [some (4, 2), none])) := rfl
theorem zs_tape : zsh 4 2 = some (.inl (5, [some (4, 3), none, none, none, none, none])) := rfl
theorem zs_byt : zsh 4 3 = some (.inr (.inl 120)) := rfl
theorem zs_ways : zsh 4 4 = some (.inl (6, [some (3, 0), some (4, 5), some (4, 6), some (4, 7), none])) := rfl
theorem zs_three : zsh 4 5 = some (.inr (.inl 3)) := rfl
theorem zs_steps : zsh 4 6 = some (.inr (.inl 3)) := rfl
theorem zs_best : zsh 4 7 = some (.inr (.inl 3)) := rfl
theorem zs_sheets : zsh 4 8 = some (.inr (.inr (.inr (2, 4, 4, 9)))) := rfl
theorem zs_told : zsh 4 17 = some (.inr (.inl 7)) := rfl
theorem zs_ref : zsh 5 0 = some (.inl (8, [some (5, 1), some (5, 2), some (5, 3), some (5, 4), some (5, 5), none, some (5, 6), some (5, 7), none, some (5, 8), none, none, none, none, none, some (5, 9), some (5, 10), some (5, 11), some (5, 12)])) := rfl
theorem zs_s : zsh 5 1 = some (.inr (.inl 55)) := rfl
theorem zs_keptS : zsh 5 2 = some (.inr (.inl 55)) := rfl
theorem zs_other : zsh 5 3 = some (.inr (.inl 55)) := rfl
theorem zs_aside : zsh 5 4 = some (.inr (.inl 55)) := rfl
theorem zs_stat : zsh 5 5 = some (.inr (.inl 7)) := rfl
theorem zs_rsteps : zsh 5 6 = some (.inr (.inl 3)) := rfl
theorem zs_rbest : zsh 5 7 = some (.inr (.inl 3)) := rfl
theorem zs_rtape : zsh 5 8 = some (.inr (.inl 120)) := rfl
theorem zs_bitsOf : zsh 5 9 = some (.inr (.inl 4)) := rfl
theorem zs_sizeOf : zsh 5 10 = some (.inr (.inl 4)) := rfl
theorem zs_numbers : zsh 5 11 = some (.inr (.inr (.inl 160))) := rfl
theorem zs_moved : zsh 5 12 = some (.inr (.inr (.inl 40))) := rfl
theorem zs_car {g : Nat} (hg : g < 4) : zsh g 0 = some (.inl (0, [some (g, 1), some (g, 2), none, none, none, none])) := by
  simp [zsh, hg, zshCar]
theorem zs_carS {g : Nat} (hg : g < 4) : zsh g 1 = some (.inr (.inr (.inr (0, 3, g, 3)))) := by
  simp [zsh, hg, zshCar]
theorem zs_carC {g : Nat} (hg : g < 4) : zsh g 2 = some (.inr (.inr (.inr (1, 6, g, 6)))) := by
  simp [zsh, hg, zshCar]
theorem zs_seat {g : Nat} {x : Int} (hg : g < 4) (hx : 0 ≤ x ∧ x < 3) : zsh g (3 + x) = some (.inl (3, [none, none, none, none, none])) := by
  unfold zsh zshCar
  rw [if_pos hg, if_neg (by omega), if_neg (by omega), if_neg (by omega), if_pos (by omega)]
theorem zs_child {g : Nat} {x : Int} (hg : g < 4) (hx : 0 ≤ x ∧ x < 6) : zsh g (6 + x) = some (.inl (2, [none, none, none, none, none, none, none])) := by
  unfold zsh zshCar
  rw [if_pos hg, if_neg (by omega), if_neg (by omega), if_neg (by omega), if_neg (by omega), if_pos (by omega)]
theorem zs_sheet {x : Int} (hx : 0 ≤ x ∧ x < 4) : zsh 4 (9 + x) = some (.inl (4, [some (4, 13 + x), none, none])) := by
  unfold zsh zshCls
  rw [if_neg (by decide), if_pos rfl, if_neg (by omega), if_neg (by omega), if_neg (by omega), if_neg (by omega), if_neg (by omega), if_neg (by omega), if_neg (by omega), if_pos (by omega)]
  rw [show 9 + x + 4 = 13 + x from by omega]
theorem zs_nums {x : Int} (hx : 0 ≤ x ∧ x < 4) : zsh 4 (13 + x) = some (.inr (.inr (.inl 40))) := by
  unfold zsh zshCls
  rw [if_neg (by decide), if_pos rfl, if_neg (by omega), if_neg (by omega), if_neg (by omega), if_neg (by omega), if_neg (by omega), if_neg (by omega), if_neg (by omega), if_neg (by omega), if_pos (by omega)]
