/-! live, mean keep it -/
theorem in_nI {N : Nat} {x : Int32} (h : a_in 0 (nI N) x = true) (hN : N < 2 ^ 30) : ∃ s, s ≤ N ∧ x = nI s := by
  obtain ⟨k, h1, h2, -⟩ := a_in_t rfl hN h
  exact ⟨k, h1, h2⟩