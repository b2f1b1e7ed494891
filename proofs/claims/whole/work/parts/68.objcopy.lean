/-! ===== the class copies its objects ===== -/
theorem up_k {m : MI} {d j j' : Nat} {z : Int} : sm_up m d j z d j' = if j' = j then z else m d j' := by
  unfold sm_up
  by_cases h : j' = j
  · rw [if_pos ⟨rfl, h⟩, if_pos h]
  · rw [if_neg (fun e => h e.2), if_neg h]
theorem patCopy {s s2 : MI} (h : s2 0 2 = 0 ∨ s2 0 2 = 1) : ∃ P, fPatrol_copyFrom s s2 = some P ∧ ∀ j, j < 14 → P 0 j = s2 0 j := by
  unfold fPatrol_copyFrom
  rw [Option.bind_some, Option.bind_some, if_pos h]
  repeat rw [Option.bind_some]
  refine ⟨_, rfl, fun j hj => ?_⟩
  rw [up_k, up_k, up_k, up_k, up_k, up_k, up_k, up_k, up_k, up_k, up_k, up_k, up_k, up_k]
  have : j = 0 ∨ j = 1 ∨ j = 2 ∨ j = 3 ∨ j = 4 ∨ j = 5 ∨ j = 6 ∨ j = 7 ∨ j = 8 ∨ j = 9 ∨ j = 10 ∨ j = 11 ∨ j = 12 ∨ j = 13 := by omega
  rcases this with rfl | rfl | rfl | rfl | rfl | rfl | rfl | rfl | rfl | rfl | rfl | rfl | rfl | rfl <;> simp
theorem garCopy {s s2 : MI} : ∃ P, fGarage_copyFrom s s2 = some P ∧ ∀ j, j < 5 → P 0 j = s2 0 j := by
  unfold fGarage_copyFrom
  repeat rw [Option.bind_some]
  refine ⟨_, rfl, fun j hj => ?_⟩
  rw [up_k, up_k, up_k, up_k, up_k]
  have : j = 0 ∨ j = 1 ∨ j = 2 ∨ j = 3 ∨ j = 4 := by omega
  rcases this with rfl | rfl | rfl | rfl | rfl <;> simp
theorem brkCopy {s s2 : MI} (h : s2 0 10 = 0 ∨ s2 0 10 = 1) : ∃ P, fBreakdown_copyFrom s s2 = some P ∧ ∀ j, j < 11 → P 0 j = s2 0 j := by
  unfold fBreakdown_copyFrom
  repeat rw [Option.bind_some]
  rw [if_pos h]
  repeat rw [Option.bind_some]
  refine ⟨_, rfl, fun j hj => ?_⟩
  rw [up_k, up_k, up_k, up_k, up_k, up_k, up_k, up_k, up_k, up_k, up_k]
  have : j = 0 ∨ j = 1 ∨ j = 2 ∨ j = 3 ∨ j = 4 ∨ j = 5 ∨ j = 6 ∨ j = 7 ∨ j = 8 ∨ j = 9 ∨ j = 10 := by omega
  rcases this with rfl | rfl | rfl | rfl | rfl | rfl | rfl | rfl | rfl | rfl | rfl <;> simp
