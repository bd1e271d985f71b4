/-! the model's step, by its recursion -/
theorem kd_c {w : Nat} (h : a_bgs w = true) : 0 ≤ a_kd w ∧ ((a_ope w = true ∧ (a_kd w = 4 ∨ a_kd w = 5)) ∨ (a_ope w = false ∧ ¬ a_kd w = 4 ∧ ¬ a_kd w = 5)) := by
  have hb := of_decide_eq_true h
  rcases hb with rfl | rfl | rfl | rfl | rfl | rfl | rfl <;> decide
theorem ryr_no {m : Nat → Int32} {nm : Nat → Nat} {k : Nat} {s : aY} {R : List aK} (h1 : a_is (a_h0 R) 20 = true → s.2.2.2.2 = []) (h0 : (a_h0 R).1 = 0 → s.2.2.2.2 ≠ []) (hn : ¬ ((a_h0 R).1 = 2 ∧ a_bgs (a_h0 R).2.2 = true)) : a_ryr m nm (k + 1) s R = .inl (a_bl R 2) := by
  by_cases c0 : (a_h0 R).1 = 0
  · show (if (a_h0 R).1 = 0 then (if s.2.2.2.2 = [] then (.inr s : aF ⊕ aY) else .inl (a_bl R 2)) else a_bi (a_yon m nm s R) (fun g => a_ryr m nm k g.1 g.2)) = _
    rw [if_pos c0, if_neg (h0 c0)]
  · rw [ryr_s c0]
    unfold a_yon
    by_cases c : a_is (a_h0 R) 20 = true
    · rw [if_pos c]
      obtain ⟨W, y, N, K, σ⟩ := s
      have e := h1 c
      simp only at e
      subst e
      rfl
    · rw [if_neg c]
      unfold a_yst
      rw [if_neg hn]
      rfl