/-! lived -/
theorem st_s {S : vSt} {x y : Int32} : v_si (v_si (v_si (v_si S 0 14 x) 143 1 0) 143 0 0) 143 0 y = v_si (v_si (v_si S 143 1 0) 0 14 x) 143 0 y := by
  refine Prod.ext ?_ rfl
  funext k j
  simp only [si1]
  by_cases c1 : k = 143 ∧ j = 0
  · simp [c1]
  · by_cases c2 : k = 143 ∧ j = 1
    · simp [c2]
    · by_cases c3 : k = 0 ∧ j = 14
      · simp [c3]
      · simp [c1, c2, c3]
theorem st_0 {S : vSt} {x : Int32} : v_si (v_si (v_si S 0 14 x) 143 1 0) 143 0 x = v_si (v_si (v_si S 143 1 0) 0 14 x) 143 0 x := by
  refine Prod.ext ?_ rfl
  funext k j
  simp only [si1]
  by_cases c1 : k = 143 ∧ j = 0
  · simp [c1]
  · by_cases c2 : k = 143 ∧ j = 1
    · simp [c2]
    · by_cases c3 : k = 0 ∧ j = 14
      · simp [c3]
      · simp [c1, c2, c3]
theorem lived_pair {S : vSt} {x : Int32} {Q : vSt → Prop} (inv : a_Inv S) (hQ : ∀ S2, a_Inv S2 → Q S2) : p_X10_lived S x (fun r S1 => p_X11_lived S1 x (fun r' S2 => (r = r' → Q S2) ∧ (¬ r = r' → False))) := by
  have lv := inv.2.2.2.2.2.2.1
  have lr := inv.2.2.2.2.2.2.2
  refine x_lived (fun g => ?_) (fun g c => ?_) (fun i hi e c => ?_)
  · refine m_lived (fun _ => ⟨fun _ => ?_, fun w => absurd rfl w⟩) (fun w => by rw [g] at w; cases w) (fun i hi e => ?_)
    · rw [st_s]; exact hQ _ (Inv_st (Inv_1 inv))
    · exact absurd (show a_in 0 4 x = true by rw [e]; exact decide_eq_true ⟨nI_le (a := 0) (by omega) (by omega), nI_le (b := 4) (by omega) (by omega)⟩) (by rw [g]; decide)
  · have c2 : S.1 143 33 = 0 := by
      rcases lv with w | w
      · exact w.2
      · rw [w.1] at c; exact absurd c (by decide)
    refine m_lived (fun w => by rw [g] at w; cases w) (fun _ _ => ⟨fun _ => ?_, fun w => absurd rfl w⟩) (fun i hi e w => absurd c2 w)
    rw [st_s]; exact hQ _ (Inv_st (Inv_1 inv))
  · have c2 : ¬ S.1 143 33 = 0 := by
      rcases lv with w | w
      · exact absurd w.1 c
      · rw [w.2]; decide
    have g : a_in 0 4 x = true := by rw [e]; exact decide_eq_true ⟨nI_le (a := 0) (by omega) (by omega), nI_le (b := 4) (by omega) (by omega)⟩
    refine m_lived (fun w => by rw [g] at w; cases w) (fun _ w => absurd w c2) (fun j hj e2 _ => ?_)
    have : j = i := by
      rw [e] at e2
      exact ((nI_eq (by omega) (by omega)).mp e2).symm
    subst this
    refine ⟨fun _ => ?_, fun w => w (lr j hj)⟩
    rw [st_0]; exact hQ _ (Inv_st (Inv_1 inv))
