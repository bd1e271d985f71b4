/-! the model's deed -/
theorem set_cm1 {m : Nat → Int32} {p f o : Int32} (h : a_D m < 10) : a_set (a_set (a_set (a_set m (48 + a_D m) p) (58 + a_D m) f) (68 + a_D m) o) 1 (m 1 + 1) = a_cm1 m p f o := by
  funext i
  by_cases c1 : i = 1
  · rw [c1, a_set_eq, cm1_1]
  · rw [a_set_ne c1]
    unfold a_cm1 a_inc
    by_cases c4 : i = 68 + a_D m
    · rw [c4, a_set_eq, a_set_eq]
    · rw [a_set_ne c4, a_set_ne c4]
      by_cases c3 : i = 58 + a_D m
      · rw [c3, a_set_eq, a_set_eq]
      · rw [a_set_ne c3, a_set_ne c3]
        by_cases c2 : i = 48 + a_D m
        · rw [c2, a_set_eq, a_set_eq]
        · rw [a_set_ne c2, a_set_ne c2, a_set_ne c1]
def a_blk (k j : Nat) : Bool := decide (k = 148 ∧ 1520 ≤ j)
theorem blk_mcf : ∀ k j, a_mcf k j = false → a_blk k j = false := by
  intro k j q
  unfold a_mcf at q
  unfold a_blk
  rw [decide_eq_false_iff_not] at q ⊢
  omega
/-! the rules -/