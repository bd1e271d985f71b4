/-! the model's pour -/
theorem in03 {x : Int32} (h : a_in 0 3 x = false) : x < 0 ∨ 4 ≤ x := by
  have c := of_decide_eq_false h
  by_cases h1 : x < 0
  · exact Or.inl h1
  · refine Or.inr (Int32.not_lt.mp (fun h4 => c ⟨Int32.not_lt.mp h1, ?_⟩))
    rw [Int32.le_iff_toInt_le]
    rw [Int32.lt_iff_toInt_lt] at h4
    have e4 : (4 : Int32).toInt = 4 := by decide
    have e3 : (3 : Int32).toInt = 3 := by decide
    omega