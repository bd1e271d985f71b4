/-! the small calls keep it -/
theorem Inv_1 {S : vSt} (inv : a_Inv S) : a_Inv (v_si S 143 1 0) := Inv_fr (c := fun k j => decide (k = 143 ∧ j = 1)) inv (fr_i fr_r rfl) (fun k j w => decide_eq_false (by omega))
theorem status_pair {S : vSt} {Q : vSt → Prop} (inv : a_Inv S) (hQ : ∀ S2, a_Inv S2 → Q S2) : p_X10_status S (fun r S1 => p_X11_status S1 (fun r' S2 => (r = r' → Q S2) ∧ (¬ r = r' → False))) := by
  unfold p_X10_status p_X11_status
  rintro _ rfl
  exact ⟨fun _ => hQ _ (Inv_1 inv), fun w => w inv.1.1⟩
theorem top_pair {S : vSt} {Q : vSt → Prop} (inv : a_Inv S) (hQ : ∀ S2, a_Inv S2 → Q S2) : p_X10_top S (fun r S1 => p_X11_top S1 (fun r' S2 => (r = r' → Q S2) ∧ (¬ r = r' → False))) := by
  unfold p_X10_top p_X11_top
  rintro _ rfl
  exact ⟨fun _ => hQ _ (Inv_1 inv), fun w => w inv.1.2.1⟩
theorem bottom_pair {S : vSt} {Q : vSt → Prop} (inv : a_Inv S) (hQ : ∀ S2, a_Inv S2 → Q S2) : p_X10_bottom S (fun r S1 => p_X11_bottom S1 (fun r' S2 => (r = r' → Q S2) ∧ (¬ r = r' → False))) := by
  unfold p_X10_bottom p_X11_bottom
  rintro _ rfl
  exact ⟨fun _ => hQ _ (Inv_1 inv), fun w => w inv.1.2.2⟩
theorem fault_pair {S : vSt} {x : Int32} {Q : vSt → Prop} (inv : a_Inv S) (hQ : ∀ S2, a_Inv S2 → Q S2) : p_X10_fault S x (fun r S1 => p_X11_fault S1 x (fun r' S2 => (r = r' → Q S2) ∧ (¬ r = r' → False))) := by
  have q := hQ _ (Inv_1 inv)
  have e10 : (v_si S 143 1 0).1 143 10 = S.1 143 10 := rfl
  have e11 : (v_si S 143 1 0).1 143 11 = S.1 143 11 := rfl
  unfold p_X10_fault p_X11_fault
  by_cases c0 : x = 0
  · simp only [c0, eq_self, reduceCtorEq, true_implies, false_implies, and_true, true_and, not_true_eq_false, not_false_eq_true, forall_eq, e10]
    exact ⟨fun _ => q, fun w => w inv.2.1.1⟩
  · by_cases c1 : x = 1
    · simp only [c0, c1, eq_self, reduceCtorEq, true_implies, false_implies, and_true, true_and, not_true_eq_false, not_false_eq_true, forall_eq, e11, show ¬ (1 : Int32) = 0 from by decide]
      exact ⟨fun _ => q, fun w => w inv.2.1.2⟩
    · simp only [c0, c1, eq_self, reduceCtorEq, true_implies, false_implies, and_true, true_and, not_true_eq_false, not_false_eq_true, forall_eq]
      exact q
