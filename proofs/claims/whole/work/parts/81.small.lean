/-! the small calls -/
theorem lt5 {x : Int32} : x < 5 ↔ x ≤ 4 := by
  rw [Int32.lt_iff_toInt_lt, Int32.le_iff_toInt_le]
  have e4 : (4 : Int32).toInt = 4 := by decide
  have e5 : (5 : Int32).toInt = 5 := by decide
  omega
theorem x_lived {S : vSt} {x : Int32} {K : Int32 → vSt → Prop} (h5 : a_in 0 4 x = false → K (-1) (v_si S 0 14 5)) (h8 : a_in 0 4 x = true → S.1 0 12 = 0 → K (-1) (v_si S 0 14 8)) (h : ∀ i, i < 5 → x = nI i → S.1 0 12 ≠ 0 → K (S.1 76 i) (v_si S 0 14 0)) : p_X10_lived S x K := by
  unfold p_X10_lived p_X10_lived_9
  rw [lt5, e_refused]
  cases g : a_in 0 4 x
  · have h5 := h5 g
    have c := of_decide_eq_false g
    refine ⟨fun _ => h5, fun w1 => ⟨fun w2 => absurd ⟨Int32.not_lt.mp w1, w2⟩ c, fun _ => h5⟩⟩
  · obtain ⟨i, hi, rfl, -⟩ := a_in_t (n := 4) rfl (by omega) g
    have n1 : ¬ nI i < 0 := nI_pos (by omega)
    have n2 : nI i ≤ 4 := nI_le (b := 4) hi (by omega)
    simp only [n1, n2, eq_self, reduceCtorEq, true_implies, false_implies, and_true, true_and, not_true_eq_false, not_false_eq_true]
    refine ⟨fun c => ?_, fun c => ?_⟩
    · rw [e_refused]
      exact h8 g c
    · rw [e_at (show i < 5 by omega) (by omega), e_told]
      exact h i (by omega) rfl c
theorem m_lived {S : vSt} {x : Int32} {K : Int32 → vSt → Prop} (h5 : a_in 0 4 x = false → K (-1) (v_si (v_si (v_si S 143 1 0) 143 0 0) 143 0 5)) (h8 : a_in 0 4 x = true → S.1 143 33 = 0 → K (-1) (v_si (v_si (v_si S 143 1 0) 143 0 0) 143 0 8)) (h : ∀ i, i < 5 → x = nI i → S.1 143 33 ≠ 0 → K (S.1 154 i) (v_si (v_si S 143 1 0) 143 0 0)) : p_X11_lived S x K := by
  unfold p_X11_lived p_X11_refuse
  rintro _ rfl _ rfl
  rw [e_min (lo := 0) (hi := 4) (L := 0) (H := 4) rfl rfl]
  have e33 : (v_si (v_si S 143 1 0) 143 0 0).1 143 33 = S.1 143 33 := rfl
  cases g : a_in 0 4 x
  · simp only [eq_self, reduceCtorEq, true_implies, false_implies, and_true, true_and, not_true_eq_false, not_false_eq_true]
    rintro _ rfl
    exact h5 g
  · obtain ⟨i, hi, rfl, -⟩ := a_in_t (n := 4) rfl (by omega) g
    simp only [eq_self, reduceCtorEq, true_implies, false_implies, and_true, true_and, not_true_eq_false, not_false_eq_true]
    rw [e33]
    refine ⟨fun c => ?_, fun c => ?_⟩
    · rintro _ rfl
      exact h8 g c
    · rw [ncl (by omega)]
      exact ⟨vpin ⟨by omega, by omega⟩, h i (by omega) rfl c⟩
