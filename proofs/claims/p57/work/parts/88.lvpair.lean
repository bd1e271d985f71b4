/-! lived -/
theorem st_s {S : vSt} {x y : Int32} : v_si (v_si (v_si (v_si S 0 14 x) 143 1 0) 143 0 0) 143 0 y = v_si (v_si (v_si S 143 1 0) 0 14 x) 143 0 y := by
  refine Prod.ext ?_ rfl
  funext k j
  simp only [si1]
  by_cases c1 : k = 143 ∧ j = 0
  · simp [c1]
  · by_cases c2 : k = 143 ∧ j = 1
    · simp [c2]
    · by_cases c3 : k = 0 ∧ j = 14
      · simp [c3]
      · simp [c1, c2, c3]
theorem st_0 {S : vSt} {x : Int32} : v_si (v_si (v_si S 0 14 x) 143 1 0) 143 0 x = v_si (v_si (v_si S 143 1 0) 0 14 x) 143 0 x := by
  refine Prod.ext ?_ rfl
  funext k j
  simp only [si1]
  by_cases c1 : k = 143 ∧ j = 0
  · simp [c1]
  · by_cases c2 : k = 143 ∧ j = 1
    · simp [c2]
    · by_cases c3 : k = 0 ∧ j = 14
      · simp [c3]
      · simp [c1, c2, c3]