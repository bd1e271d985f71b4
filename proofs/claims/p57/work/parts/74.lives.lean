/-! years run from the first to the last -/
def a_yrs (m : Nat → Int32) (W : aW) (N K : Nat) : Prop := N ≤ 60 ∧ K ≤ 30 ∧ m 109 = nI K ∧ a_sg m W (fun j => m (110 + j)) 3 0 0 K N
def a_yX (b N : Nat) (W : aW) (S : vSt) : Prop := S.1 (b + 15) 6 = nI N ∧ ∀ c i, c < 5 → i < 60 → S.1 (b + 16 + c) i = W c i
theorem x_fill0 {S : vSt} {K : vSt → Prop} (h : ∀ S', a_fr (fun k j => decide (k = 75)) S S' → (∀ i, i < 5 → S'.1 75 i = 0) → K S') : p_J7_fill_53178 75 5 S 0 K := by
  unfold p_J7_fill_53178
  rintro _ rfl
  show ∃ fu5, p_J7_fill_53178_5 75 5 0 K fu5 S (nI 0) (nI 5)
  refine v_loop (fun fu i (s : vSt) => p_J7_fill_53178_5 75 5 0 K fu s (nI i) (nI 5)) (fun i s => a_fr (fun k j => decide (k = 75)) S s ∧ ∀ j, j < i → s.1 75 j = 0) 5 (fun fu i s hi I hk => ?_) (fun fu s I => ?_) S ⟨fr_r, fun j hj => absurd hj (by omega)⟩
  · have n1 : ¬ nI 5 ≤ nI i := nI_ge hi (by omega)
    rw [e_J7_fill_53178_5, ncl (by omega)]
    simp only [n1, eq_self, reduceCtorEq, true_implies, false_implies, and_true, true_and, not_true_eq_false, not_false_eq_true]
    refine ⟨vpin ⟨hi, by omega⟩, ?_⟩
    rintro _ rfl _ rfl
    rw [nIs]
    refine hk _ ⟨fr_i I.1 rfl, fun j hj => ?_⟩
    rw [si1]
    by_cases e : j = i
    · rw [if_pos ⟨rfl, e⟩]
    · rw [if_neg (fun w => e w.2)]; exact I.2 j (by omega)
  · rw [e_J7_fill_53178_5]
    simp only [Int32.le_refl, eq_self, reduceCtorEq, true_implies, false_implies, and_true, true_and, not_true_eq_false, not_false_eq_true]
    exact h s I.1 I.2
/-! live -/
def a_lvf (k j : Nat) : Bool := a_uf 10 k j || decide (k = 76 ∨ (k = 0 ∧ (j = 12 ∨ j = 14)))
def a_lvm (k j : Nat) : Bool := a_um k j || decide (k = 154 ∨ (k = 143 ∧ (j = 0 ∨ j = 1 ∨ j = 33)))