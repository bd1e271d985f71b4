/-! marks, by the city alone -/
theorem R_st7 {S : vSt} {m : Nat → Int32} {j : Nat} {x : Int32} (R : a_R S 77 m) : a_R (v_si S 0 j x) 77 m := fun i hi => by
  rw [si1, if_neg (by omega)]; exact R i hi
/-- behind a mark: the city is m1, the mark keeps m -/
def b_M (S : vSt) (m m1 : Nat → Int32) : Prop := a_ok m1 ∧ a_R S 10 m1 ∧ a_R S 77 m ∧ S.1 144 0 = nI (a_P m) ∧ S.1 0 13 = 1 ∧ S.1 92 8 = 0
theorem M_q {S S' : vSt} {m m1 : Nat → Int32} (M : b_M S m m1) (f : a_fr a_sxx S S') : b_M S' m m1 :=
  ⟨M.1, R_fr M.2.1 f (by decide +kernel), R_fr M.2.2.1 f (by decide +kernel), (f 144 0 rfl).1.trans M.2.2.2.1, (f 0 13 rfl).1.trans M.2.2.2.2.1, (f 92 8 rfl).1.trans M.2.2.2.2.2⟩
theorem N_q {α : Type} {S : vSt} {m m1 : Nat → Int32} {K : α → vSt → Prop} {o : α × Int32 × Option (Int64 × Int64)} (M : b_M S m m1) (h : ∀ S', b_M S' m m1 → K o.1 S') : a_XK S K o := fun S' f _ _ _ => h S' (M_q M f)
theorem b_mark {S : vSt} {m : Nat → Int32} {K : Int32 → vSt → Prop} (I : b_I S m) (h : ∀ S', b_M S' m m → K 1 S') : p_X10_mark S K := by
  obtain ⟨ok, R, h0, h13, h25, hJ, hP⟩ := I
  have h13 : S.1 0 13 = nI 0 := h13
  have n1 : ¬ nI 0 < 0 := nI_pos (by omega)
  have n2 : nI 0 < 3 := nI_lt (b := 3) (by omega) (by omega)
  unfold p_X10_mark p_X10_mark_19
  rw [h13, ncl (by omega)]
  simp only [n1, n2, eq_self, reduceCtorEq, true_implies, false_implies, and_true, true_and, not_true_eq_false, not_false_eq_true]
  refine ⟨vpin ⟨by omega, by omega⟩, ?_⟩
  rintro _ rfl
  refine x_copyFrom (b := 77 + 22 * 0) (b1 := 10) (Or.inr (by omega)) (Or.inl h25) (fun S1 f1 D1 Y1 z1 => ?_)
  have R1 : a_R S1 77 m := R_copy R D1 z1
  have f1 : a_fr (a_cb 77) S S1 := f1
  have h92 : S1.1 92 8 = 0 := Y1.2.2.2.trans h25
  have e13 : S1.1 0 13 = nI 0 := (f1 0 13 rfl).1.trans h13
  rintro _ rfl
  have e13' : (v_si S1 0 13 (nI (0 + 1))).1 0 13 = nI (0 + 1) := si_at
  rw [e13, nIs, e_told, e13']
  refine h _ ⟨ok, R_st (R_st (R_fr R f1 (by decide +kernel)) (by omega)) (by omega), R_st7 (R_st7 R1), ?_, ?_, ?_⟩
  · rw [si1, if_neg (by omega), si1, if_neg (by omega)]; exact (f1 144 0 rfl).1.trans h0
  · rw [si1, if_neg (by omega)]; exact si_at
  · rw [si1, if_neg (by omega), si1, if_neg (by omega)]; exact h92
theorem b_back {S : vSt} {m m1 : Nat → Int32} {K : Int32 → vSt → Prop} (M : b_M S m m1) (ok : a_ok m) (hJ : a_J m ≤ 5) (hP : a_P m ≤ 4) (h : ∀ S', b_I S' m → K 0 S') : p_X10_back S K := by
  obtain ⟨ok1, R1, R, h0, h13, h92⟩ := M
  have n1 : ¬ nI 0 < 0 := nI_pos (by omega)
  have n2 : nI 0 < 3 := nI_lt (b := 3) (by omega) (by omega)
  unfold p_X10_back p_X10_back_20
  rw [h13]
  rintro _ rfl
  rw [show (1 : Int32) - 1 = nI 0 from rfl, ncl (by omega)]
  simp only [n1, n2, eq_self, reduceCtorEq, true_implies, false_implies, and_true, true_and, not_true_eq_false, not_false_eq_true]
  refine ⟨vpin ⟨by omega, by omega⟩, ?_⟩
  rintro _ rfl
  refine x_copyFrom (b := 10) (b1 := 77 + 22 * 0) (Or.inl (by omega)) (Or.inl h92) (fun S1 f1 D1 Y1 z1 => ?_)
  have R2 : a_R S1 10 m := R_copy (b1 := 77) R D1 z1
  have h25 : S1.1 25 8 = 0 := Y1.2.2.2.trans h92
  rintro _ rfl
  have e13' : (v_si S1 0 13 (nI 0)).1 0 13 = nI 0 := si_at
  rw [e_told, e13']
  refine h _ ⟨ok, R_st (R_st R2 (by omega)) (by omega), ?_, ?_, ?_, hJ, hP⟩
  · rw [si1, if_neg (by omega), si1, if_neg (by omega)]; exact (f1 144 0 rfl).1.trans h0
  · rw [si1, if_neg (by omega)]; exact si_at
  · rw [si1, if_neg (by omega), si1, if_neg (by omega)]; exact h25
