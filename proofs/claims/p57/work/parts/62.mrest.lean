/-! a step's rest, in good mode -/
/-! when -/
theorem tsw_c (t : aK) : (a_is t 17 = true ∧ a_tsw t = 0) ∨ (a_is t 17 = false ∧ a_is t 18 = true ∧ a_tsw t = 1) ∨ (a_is t 17 = false ∧ a_is t 18 = false ∧ a_is t 5 = true ∧ a_tsw t = 2) ∨ (a_is t 17 = false ∧ a_is t 18 = false ∧ a_is t 5 = false ∧ a_tsw t = -1) := by
  unfold a_tsw
  cases c1 : a_is t 17
  · cases c2 : a_is t 18
    · cases c3 : a_is t 5
      · exact Or.inr (Or.inr (Or.inr ⟨rfl, rfl, rfl, rfl⟩))
      · exact Or.inr (Or.inr (Or.inl ⟨rfl, rfl, rfl, rfl⟩))
    · exact Or.inr (Or.inl ⟨rfl, rfl, rfl⟩)
  · exact Or.inl ⟨rfl, rfl⟩