/-! years keep it -/
theorem ok_lo {m m' : Nat → Int32} (ok : a_ok m) (e : ∀ j, j < 108 → m' j = m j) : a_ok m' := by
  have h8 := ok_P8 ok
  have h10 := ok_D10 ok
  have eP : a_P m' = a_P m := by unfold a_P; rw [e 0 (by omega)]
  have eD : a_D m' = a_D m := by unfold a_D; rw [e 1 (by omega)]
  obtain ⟨a0, a1, a2, a3, a4, a5, a6, ap, ad⟩ := ok
  refine ⟨?_, ?_, ?_, ?_, ?_, ?_, ?_, fun p hp => ?_, fun d hd => ?_⟩
  · rw [e 0 (by omega)]; exact a0
  · rw [e 1 (by omega)]; exact a1
  · rw [e 2 (by omega)]; exact a2
  · rw [e 3 (by omega)]; exact a3
  · rw [e 4 (by omega)]; exact a4
  · rw [e 5 (by omega)]; exact a5
  · rw [e 6 (by omega)]; exact a6
  · have := ap p (by omega)
    unfold a_okP at this ⊢
    rw [e (8 + p) (by omega), e (16 + p) (by omega), e (40 + p) (by omega), eD]; exact this
  · have := ad d (by omega)
    unfold a_okD at this ⊢
    rw [e (48 + d) (by omega), e (58 + d) (by omega), e (68 + d) (by omega), e (78 + d) (by omega), e (88 + d) (by omega), e (98 + d) (by omega), eP]; exact this
theorem R_lo {S : vSt} {b : Nat} {m m' : Nat → Int32} (R : a_R S b m) (e : ∀ j, j < 108 → m' j = m j) : a_R S b m' := by
  intro j hj
  have hl := a_lv_lt hj
  have : a_lv m j := by
    unfold a_lv a_P a_D at hj ⊢
    rw [e 0 (by omega), e 1 (by omega), e (78 + (j - 88) % 10) (by omega)] at hj
    exact hj
  rw [e j hl]; exact R j this