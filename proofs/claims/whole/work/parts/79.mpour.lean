/-! the model's pour -/
theorem in03 {x : Int32} (h : a_in 0 3 x = false) : x < 0 ∨ 4 ≤ x := by
  have c := of_decide_eq_false h
  by_cases h1 : x < 0
  · exact Or.inl h1
  · refine Or.inr (Int32.not_lt.mp (fun h4 => c ⟨Int32.not_lt.mp h1, ?_⟩))
    rw [Int32.le_iff_toInt_le]
    rw [Int32.lt_iff_toInt_lt] at h4
    have e4 : (4 : Int32).toInt = 4 := by decide
    have e3 : (3 : Int32).toInt = 3 := by decide
    omega
theorem m_pour {S : vSt} {T : aT} {x1 x2 x3 x4 x5 : Int32} {K : Bool → vSt → Prop} (tok : a_tok T) (h0 : a_TM S T) (h : a_MT S K (decide ((o_pour T x1 x2 x3 x4 x5).1 = 0), o_pour T x1 x2 x3 x4 x5)) : p_X11_pour S x1 x2 x3 x4 x5 K := by
  unfold p_X11_pour p_X11_pour_28 p_X11_pour_52 p_X11_pour_136
  refine gt_go h0 (fun S1 g => ?_)
  have st : ∀ x, x ≠ 0 → o_pour T x1 x2 x3 x4 x5 = (x, T) → p_X11_no S1 x (fun r20 S19 => K r20 S19) := by
    intro x hx e
    rw [e, decide_eq_false hx] at h
    exact mt_no g h
  unfold o_pour at h st
  cases g1 : a_in 0 3 x1
  · have no := st 1 (by decide) (by rw [g1, if_neg (fun w => by cases w.1)])
    rcases in03 g1 with w | w
    · exact ⟨fun _ => no, fun w2 => absurd w w2⟩
    · exact ⟨fun _ => no, fun _ => ⟨fun _ => no, fun w2 => absurd w w2⟩⟩
  · obtain ⟨t1, ht1, rfl, e1⟩ := tray_t g1
    have n1 : ¬ nI t1 < 0 := nI_pos (by omega)
    have n2 : ¬ 4 ≤ nI t1 := nI_ge (b := 4) (by omega) (by omega)
    simp only [n1, n2, eq_self, reduceCtorEq, true_implies, false_implies, and_true, true_and, not_true_eq_false, not_false_eq_true]
    cases g3 : a_in 0 3 x3
    · have no := st 1 (by decide) (by rw [g3, if_neg (fun w => by cases w.2)])
      rcases in03 g3 with w | w
      · exact ⟨fun _ => no, fun w2 => absurd w w2⟩
      · exact ⟨fun _ => no, fun _ => ⟨fun w2 => absurd w2 (Int32.not_lt.mpr w), fun _ => no⟩⟩
    · obtain ⟨t3, ht3, rfl, e3⟩ := tray_t g3
      have n3 : ¬ nI t3 < 0 := nI_pos (by omega)
      have n4 : nI t3 < 4 := nI_lt (b := 4) (by omega) (by omega)
      rw [g1, g3, if_pos ⟨rfl, rfl⟩, e1, e3] at h st
      simp only [n3, n4, eq_self, reduceCtorEq, true_implies, false_implies, and_true, true_and, not_true_eq_false, not_false_eq_true, ncl (show t1 < 2 ^ 31 by omega), ncl (show t3 < 2 ^ 31 by omega), (g.2.1.1 t1 ht1).1, (g.2.1.1 t1 ht1).2, (g.2.1.1 t3 ht3).1, (g.2.1.1 t3 ht3).2]
      have v1 : vp_in (nI t1) 4 := vpin ⟨ht1, by omega⟩
      have v3 : vp_in (nI t3) 4 := vpin ⟨ht3, by omega⟩
      have sz : ∀ t, t < 4 → (T.2.1 t < 0 ↔ T.2.1 t = -1) ∧ (0 ≤ T.2.1 t ↔ ¬ T.2.1 t = -1) := by
        intro t ht
        rcases tok t ht with e | ⟨n, hn, e⟩
        · rw [e]; decide
        · rw [e]
          have a1 : ¬ nI n < 0 := nI_pos (by omega)
          have a2 : ¬ nI n = -1 := fun w => by rw [w] at a1; exact absurd (by decide) a1
          exact ⟨⟨fun w => absurd w a1, fun w => absurd w a2⟩, ⟨fun _ => a2, fun _ => Int32.not_lt.mp a1⟩⟩
      simp only [v1, v3, (sz t1 ht1).1, (sz t3 ht3).2, eq_self, reduceCtorEq, true_implies, false_implies, and_true, true_and, not_true_eq_false, not_false_eq_true]
      by_cases c1 : T.2.1 t1 = -1
      · simp only [c1, eq_self, reduceCtorEq, true_implies, false_implies, and_true, true_and, not_true_eq_false, not_false_eq_true]
        exact st 3 (by decide) (by rw [if_pos (Or.inl c1)])
      · simp only [c1, eq_self, reduceCtorEq, true_implies, false_implies, and_true, true_and, not_true_eq_false, not_false_eq_true]
        by_cases c3 : T.2.1 t3 = -1
        · simp only [c3, eq_self, reduceCtorEq, true_implies, false_implies, and_true, true_and, not_true_eq_false, not_false_eq_true]
          exact st 3 (by decide) (by rw [if_pos (Or.inr c3)])
        · simp only [c3, eq_self, reduceCtorEq, true_implies, false_implies, and_true, true_and, not_true_eq_false, not_false_eq_true]
          rw [if_neg (fun w => w.elim c1 c3)] at h st
          by_cases cs : T.1 t1 = T.1 t3
          · rw [if_pos cs] at h st
            simp only [cs, eq_self, reduceCtorEq, true_implies, false_implies, and_true, true_and, not_true_eq_false, not_false_eq_true]
            by_cases c5 : 0 ≤ x5
            · rw [if_pos c5] at h st
              simp only [c5, eq_self, reduceCtorEq, true_implies, false_implies, and_true, true_and, not_true_eq_false, not_false_eq_true]
              obtain ⟨m1, hm1, em1⟩ : ∃ n, n ≤ 60 ∧ T.2.1 t1 = nI n := (tok t1 ht1).resolve_left c1
              obtain ⟨m3, hm3, em3⟩ : ∃ n, n ≤ 60 ∧ T.2.1 t3 = nI n := (tok t3 ht3).resolve_left c3
              obtain ⟨c, hc, rfl, ec⟩ := nn_i (y := x5) (fun w => absurd c5 (Int32.not_le.mpr w))
              have no : ¬ (a_run T t1 x2 (nI c) = true ∧ a_run T t3 x4 (nI c) = true) → p_X11_no S1 4 (fun r20 S19 => K r20 S19) := fun w => st 4 (by decide) (by rw [if_neg w])
              have en1 : a_n (T.2.1 t1) = m1 := by rw [em1, a_n_nI (by omega)]
              have en3 : a_n (T.2.1 t3) = m3 := by rw [em3, a_n_nI (by omega)]
              by_cases d2 : x2 < 0
              · have := no (fun w => (of_decide_eq_true w.1).1 d2)
                simp only [d2, eq_self, reduceCtorEq, true_implies, false_implies, and_true, true_and, not_true_eq_false, not_false_eq_true]
                exact this
              · by_cases d4 : x4 < 0
                · have := no (fun w => (of_decide_eq_true w.2).1 d4)
                  simp only [d2, d4, eq_self, reduceCtorEq, true_implies, false_implies, and_true, true_and, not_true_eq_false, not_false_eq_true]
                  exact this
                · obtain ⟨i, hi, rfl, ei⟩ := nn_i d2
                  obtain ⟨j, hj, rfl, ej⟩ := nn_i d4
                  have l1 : (T.2.1 t1).toInt64 < (nI i).toInt64 + (nI c).toInt64 ↔ m1 < i + c := by
                    rw [em1, nI_l (show m1 < 2 ^ 31 by omega), nI_l hi, nI_l hc, lI_N, lI_N, lI_N, lI_add, ← Int.natCast_add, ← lI_N, ← lI_N]
                    exact pk_lLT (by omega) (by omega)
                  have l3 : (nI j).toInt64 + (nI c).toInt64 ≤ (T.2.1 t3).toInt64 ↔ j + c ≤ m3 := by
                    rw [em3, nI_l (show m3 < 2 ^ 31 by omega), nI_l hj, nI_l hc, lI_N, lI_N, lI_N, lI_add, ← Int.natCast_add, ← lI_N, ← lI_N]
                    exact pk_lLE (by omega) (by omega)
                  simp only [d2, d4, l1, l3, v1, v3, eq_self, reduceCtorEq, true_implies, false_implies, and_true, true_and, not_true_eq_false, not_false_eq_true]
                  by_cases r1 : m1 < i + c
                  · have := no (fun w => by have := (of_decide_eq_true w.1).2.2; rw [ei, ec, en1] at this; omega)
                    simp only [r1, eq_self, reduceCtorEq, true_implies, false_implies, and_true, true_and, not_true_eq_false, not_false_eq_true]
                    exact this
                  · simp only [r1, eq_self, reduceCtorEq, true_implies, false_implies, and_true, true_and, not_true_eq_false, not_false_eq_true]
                    by_cases r3 : j + c ≤ m3
                    · simp only [r3, eq_self, reduceCtorEq, true_implies, false_implies, and_true, true_and, not_true_eq_false, not_false_eq_true]
                      have a1 : a_run T t1 (nI i) (nI c) = true := decide_eq_true ⟨d2, nI_pos hc, by rw [ei, ec, en1]; omega⟩
                      have a3 : a_run T t3 (nI j) (nI c) = true := decide_eq_true ⟨d4, nI_pos hc, by rw [ej, ec, en3]; omega⟩
                      rw [a1, a3, if_pos ⟨rfl, rfl⟩, ei, ej, ec] at h
                      have lji : nI j ≤ nI i ↔ j ≤ i := nI_leI hj hi
                      have fin : ∀ u : Bool, (if u = true then (60 * t1 + i ≤ 60 * t3 + j ∨ 60 * t1 + i + c ≤ 60 * t3 + j ∨ 60 * t3 + j + c ≤ 60 * t1 + i) else (60 * t3 + j ≤ 60 * t1 + i ∨ 60 * t1 + i + c ≤ 60 * t3 + j ∨ 60 * t3 + j + c ≤ 60 * t1 + i)) → p_X11_pour_153 (nI t1) (nI i) (nI t3) (nI j) (nI c) K S1 u := by
                        intro u hu
                        refine m_poured (i := 60 * t1 + i) (j := 60 * t3 + j) g.2.1 rfl rfl rfl rfl rfl rfl (by omega) (by omega) hu (fun S' f' t' e' => h S' (fr_t g.1 f') t' (e'.trans g.2.2))
                      rw [lji]
                      refine ⟨fun w => fin false ?_, fun w => fin true ?_⟩
                      · rw [if_neg (by decide)]
                        omega
                      · rw [if_pos rfl]
                        omega
                    · have := no (fun w => by have := (of_decide_eq_true w.2).2.2; rw [ej, ec, en3] at this; omega)
                      simp only [r3, eq_self, reduceCtorEq, true_implies, false_implies, and_true, true_and, not_true_eq_false, not_false_eq_true]
                      exact this
            · rw [if_neg c5] at st
              simp only [c5, eq_self, reduceCtorEq, true_implies, false_implies, and_true, true_and, not_true_eq_false, not_false_eq_true]
              exact st 6 (by decide) rfl
          · rw [if_neg cs] at st
            simp only [cs, eq_self, reduceCtorEq, true_implies, false_implies, and_true, true_and, not_true_eq_false, not_false_eq_true]
            exact st 11 (by decide) rfl
