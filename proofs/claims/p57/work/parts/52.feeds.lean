/-! feed -/
def a_byt (a k : Int32) : Int32 := vp_nar .byte ((Int32.toInt8 (a >>> (k &&& 31))).toInt32)
def a_fd4 (by_ : Nat → Int32) (L : Nat) (a : Int32) : Nat → Int32 := a_set (a_set (a_set (a_set by_ L (a_byt a 24)) (L + 1) (a_byt a 16)) (L + 2) (a_byt a 8)) (L + 3) (a_byt a 0)
def a_fdx (k j : Nat) : Bool := decide ((k = 5 ∧ j = 1) ∨ k = 6)
def a_fdm (k j : Nat) : Bool := decide ((k = 143 ∧ (j = 1 ∨ j = 8)) ∨ k = 147)
theorem TpX_1 {S : vSt} {L : Nat} {by_ : Nat → Int32} {x : Int32} (tp : a_TpX S L by_) (hL : L < 900) : a_TpX (v_si (v_si S 6 L x) 5 1 (nI (L + 1))) (L + 1) (a_set by_ L x) := by
  obtain ⟨a, b, c⟩ := tp
  refine ⟨hL, si_at, fun j hj => ?_⟩
  rw [si1, if_neg (by omega), si1]
  unfold a_set
  by_cases e : j = L
  · rw [if_pos ⟨rfl, e⟩, if_pos e]
  · rw [if_neg (fun w => e w.2), if_neg e]; exact c j hj
theorem TpM_1 {S : vSt} {L : Nat} {by_ : Nat → Int32} {x : Int32} (tp : a_TpM S L by_) (hL : L < 900) : a_TpM (v_si (v_si S 147 L x) 143 8 (nI (L + 1))) (L + 1) (a_set by_ L x) := by
  obtain ⟨a, b, c⟩ := tp
  refine ⟨hL, si_at, fun j hj => ?_⟩
  rw [si1, if_neg (by omega), si1]
  unfold a_set
  by_cases e : j = L
  · rw [if_pos ⟨rfl, e⟩, if_pos e]
  · rw [if_neg (fun w => e w.2), if_neg e]; exact c j hj
theorem x_byte {fu L : Nat} {S : vSt} {by_ : Nat → Int32} {a x x' : Int32} {K : vSt → Prop} (tp : a_TpX S L by_) (hL : L < 900) (hx : ¬ x < 0) (e : x + (-8) = x') (h : ∀ S', a_fr a_fdx S S' → a_TpX S' (L + 1) (a_set by_ L (a_byt a x)) → p_X6_add_3 a K fu S' x') : p_X6_add_3 a K (fu + 1) S x := by
  have t := TpX_1 (x := a_byt a x) tp hL
  have n1 : ¬ nI L < 0 := nI_pos (by omega)
  have n2 : ¬ 900 ≤ nI L := nI_ge (b := 900) hL (by omega)
  rw [e_X6_add_3, tp.2.1, ncl (by omega)]
  unfold p_X6_add_49
  have e1 : ∀ y, (v_si S 6 L y).1 5 1 = nI L := fun y => tp.2.1
  simp only [hx, n1, n2, eq_self, reduceCtorEq, true_implies, false_implies, and_true, true_and, not_true_eq_false, not_false_eq_true, forall_eq, e1, nIs, e]
  exact ⟨vpin ⟨hL, by omega⟩, h _ (fr_i (fr_i fr_r (decide_eq_true (Or.inr rfl))) rfl) t⟩
theorem x_add4 {L : Nat} {S : vSt} {by_ : Nat → Int32} {a : Int32} {K : vSt → Prop} (tp : a_TpX S L by_) (hL : L + 4 ≤ 900) (h : ∀ S', a_fr a_fdx S S' → a_TpX S' (L + 4) (a_fd4 by_ L a) → K S') : p_X6_add S a K := by
  unfold p_X6_add
  refine ⟨5, x_byte (x' := 16) tp (by omega) (by decide) (by decide) (fun S1 f1 t1 => x_byte (x' := 8) t1 (by omega) (by decide) (by decide) (fun S2 f2 t2 => x_byte (x' := 0) t2 (by omega) (by decide) (by decide) (fun S3 f3 t3 => x_byte (x' := -8) t3 (by omega) (by decide) (by decide) (fun S4 f4 t4 => ?_))))⟩
  rw [e_X6_add_3]
  simp only [show (-8 : Int32) < 0 from by decide, eq_self, reduceCtorEq, true_implies, false_implies, and_true, true_and, not_true_eq_false, not_false_eq_true]
  exact h S4 (fr_t f1 (fr_t f2 (fr_t f3 f4))) t4
def a_fdd (by_ : Nat → Int32) (L : Nat) (a b c d e : Int32) : Nat → Int32 := a_fd4 (a_fd4 (a_fd4 (a_fd4 (a_fd4 by_ L a) (L + 4) b) (L + 8) c) (L + 12) d) (L + 16) e
theorem x_feed {L : Nat} {S : vSt} {by_ : Nat → Int32} {a b c d e : Int32} {K : Int32 → vSt → Prop} (tp : a_TpX S L by_) (h0 : ¬ L + 20 ≤ 900 → K (-1) S) (h : L + 20 ≤ 900 → ∀ S', a_fr a_fdx S S' → a_TpX S' (L + 20) (a_fdd by_ L a b c d e) → K (nI (L + 20)) S') : p_X10_feed S a b c d e K := by
  have hL := tp.1
  unfold p_X10_feed p_X6_hasRoom
  have ea : nI L + 20 = nI (L + 20) := nI_add L 20
  have el : 900 < nI (L + 20) ↔ 900 < L + 20 := nI_ltI (a := 900) (by omega) (by omega)
  rw [tp.2.1, ea, el]
  by_cases c : L + 20 ≤ 900
  · have c' : ¬ 900 < L + 20 := by omega
    simp only [c', eq_self, reduceCtorEq, true_implies, false_implies, and_true, true_and, not_true_eq_false, not_false_eq_true]
    refine x_add4 tp (by omega) (fun S1 f1 t1 => x_add4 t1 (by omega) (fun S2 f2 t2 => x_add4 t2 (by omega) (fun S3 f3 t3 => x_add4 t3 (by omega) (fun S4 f4 t4 => x_add4 t4 (by omega) (fun S5 f5 t5 => ?_)))))
    rw [t5.2.1]
    exact h c S5 (fr_t f1 (fr_t f2 (fr_t f3 (fr_t f4 f5)))) t5
  · have c' : 900 < L + 20 := by omega
    simp only [c', eq_self, reduceCtorEq, true_implies, false_implies, and_true, true_and, not_true_eq_false, not_false_eq_true]
    exact h0 c