/-! loops by Hoare -/
theorem v_loop {σ : Type} (Q : Nat → Nat → σ → Prop) (I : Nat → σ → Prop) (N : Nat) (hs : ∀ fu i s, i < N → I i s → (∀ s', I (i + 1) s' → Q fu (i + 1) s') → Q (fu + 1) i s) (he : ∀ fu s, I N s → Q (fu + 1) N s) (s : σ) (h0 : I 0 s) : ∃ fu, Q fu 0 s := by
  have key : ∀ k i, i + k = N → ∀ s, I i s → Q (k + 1) i s := by
    intro k
    induction k with
    | zero => intro i hi s hs; rw [show i = N by omega] at hs ⊢; exact he 0 s hs
    | succ k ih => intro i hi s hI; exact hs (k + 1) i s (by omega) hI (fun s' h' => ih (i + 1) (by omega) s' h')
  exact ⟨N + 1, key N 0 (by omega) s h0⟩
/-! sets -/
theorem x_deedsThat {S : vSt} {b : Nat} {m : Nat → Int32} {x : Int32} {K : Int32 → vSt → Prop} (ok : a_ok m) (R : a_R S b m) : p_X0_deedsThat b S x K = K (v_set (fun d => decide (m (78 + d) = x)) (a_D m)) S := by
  rw [e_deedsThat ((R_1 R).trans (ok_m1 ok)) (ok_D10 ok), v_set_congr (c' := fun d => decide (m (78 + d) = x)) (fun d hd => by rw [R_78 R hd (ok_D10 ok)])]
theorem x_deedsOf {S : vSt} {b : Nat} {m : Nat → Int32} {x : Int32} {K : Int32 → vSt → Prop} (ok : a_ok m) (R : a_R S b m) : p_X0_deedsOf b S x K = K (v_set (fun d => decide (m (48 + d) = x)) (a_D m)) S := by
  have hb := ok_D10 ok
  unfold p_X0_deedsOf
  refine v_for (fun fu i s => p_X0_deedsOf_4 b x K fu S s (nI i)) (fun d s => s ||| (if decide (m (48 + d) = x) = true then 1 <<< (nI d &&& 31) else 0)) (fun _ _ => True) (fun s => K s S) (a_D m) (fun i s h => h) (fun fu i s hi _ => ?_) (fun fu s _ => ?_) (fun _ _ _ _ => trivial) 0 trivial
  · have h1 : ¬ nI (a_D m) ≤ nI i := nI_ge hi (by omega)
    simp only [e_X0_deedsOf_4, R_1 R, ok_m1 ok, h1, e_isOwn (show i < 10 by omega), R_48 R hi hb, p_X0_deedsOf_29, forall_eq, nIs, eq_self, reduceCtorEq, true_implies, false_implies, and_true, true_and, not_true_eq_false, not_false_eq_true]
    by_cases c : m (48 + i) = x <;> simp [c]
  · have h1 : nI (a_D m) ≤ nI (a_D m) := Int32.le_refl _
    simp only [e_X0_deedsOf_4, R_1 R, ok_m1 ok, h1, eq_self, reduceCtorEq, true_implies, false_implies, and_true, true_and, not_true_eq_false, not_false_eq_true]

theorem x_ruinedPeople {S : vSt} {b : Nat} {m : Nat → Int32} {K : Int32 → vSt → Prop} (ok : a_ok m) (R : a_R S b m) : p_X0_ruinedPeople b S K = K (v_set (fun d => decide (m (8 + d) < 0)) (a_P m)) S := by
  have hb := ok_P8 ok
  unfold p_X0_ruinedPeople
  refine v_for (fun fu i s => p_X0_ruinedPeople_4 b K fu S s (nI i)) (fun d s => s ||| (if decide (m (8 + d) < 0) = true then 1 <<< (nI d &&& 31) else 0)) (fun _ _ => True) (fun s => K s S) (a_P m) (fun i s h => h) (fun fu i s hi _ => ?_) (fun fu s _ => ?_) (fun _ _ _ _ => trivial) 0 trivial
  · have h1 : ¬ nI (a_P m) ≤ nI i := nI_ge hi (by omega)
    simp only [e_X0_ruinedPeople_4, R_0 R, ok_m0 ok, h1, e_isRuined (show i < 8 by omega), R_8 R hi hb, p_X0_ruinedPeople_28, forall_eq, nIs, eq_self, reduceCtorEq, true_implies, false_implies, and_true, true_and, not_true_eq_false, not_false_eq_true]
    by_cases c : m (8 + i) < 0 <;> simp [c]
  · have h1 : nI (a_P m) ≤ nI (a_P m) := Int32.le_refl _
    simp only [e_X0_ruinedPeople_4, R_0 R, ok_m0 ok, h1, eq_self, reduceCtorEq, true_implies, false_implies, and_true, true_and, not_true_eq_false, not_false_eq_true]

/-! many -/
def a_fact (m : Nat → Int32) (k : Nat) : Int32 := if k < 7 then m k else if k < 9 then v_set (fun d => decide (m (78 + d) = nI (k - 7))) (a_D m) else if k = 9 then v_set (fun d => decide (m (8 + d) < 0)) (a_P m) else m 7
theorem x_fact {S : vSt} {m : Nat → Int32} {K : Int32 → vSt → Prop} (ok : a_ok m) (R : a_R S 10 m) : ∀ k, k ≤ 10 → p_X0_fact 10 S (nI k) K = K (a_fact m k) S
  | 0, _ => by
    show p_X0_fact 10 S 0 K = _
    simp [p_X0_fact, R_0 R, a_fact, nI]
  | 1, _ => by
    show p_X0_fact 10 S 1 K = _
    simp [p_X0_fact, R_1 R, a_fact, nI]
  | 2, _ => by
    show p_X0_fact 10 S 2 K = _
    have e : (2 : Int32) - 2 = nI 0 := by decide
    simp [p_X0_fact, e, e_ruleOf (show 0 < 4 by omega)]
    exact Iff.of_eq (congrArg (fun z => K z S) (R_2 (m := m) R (show 0 < 4 by omega)))
  | 3, _ => by
    show p_X0_fact 10 S 3 K = _
    have e : (3 : Int32) - 2 = nI 1 := by decide
    simp [p_X0_fact, e, e_ruleOf (show 1 < 4 by omega)]
    exact Iff.of_eq (congrArg (fun z => K z S) (R_2 (m := m) R (show 1 < 4 by omega)))
  | 4, _ => by
    show p_X0_fact 10 S 4 K = _
    have e : (4 : Int32) - 2 = nI 2 := by decide
    simp [p_X0_fact, e, e_ruleOf (show 2 < 4 by omega)]
    exact Iff.of_eq (congrArg (fun z => K z S) (R_2 (m := m) R (show 2 < 4 by omega)))
  | 5, _ => by
    show p_X0_fact 10 S 5 K = _
    have e : (5 : Int32) - 2 = nI 3 := by decide
    simp [p_X0_fact, e, e_ruleOf (show 3 < 4 by omega)]
    exact Iff.of_eq (congrArg (fun z => K z S) (R_2 (m := m) R (show 3 < 4 by omega)))
  | 6, _ => by
    show p_X0_fact 10 S 6 K = _
    simp [p_X0_fact, R_6 R, a_fact, nI]
  | 7, _ => by
    show p_X0_fact 10 S 7 K = _
    simp [p_X0_fact, x_deedsThat ok R, a_fact, nI]
  | 8, _ => by
    show p_X0_fact 10 S 8 K = _
    simp [p_X0_fact, x_deedsThat ok R, a_fact, nI]
    exact Iff.rfl
  | 9, _ => by
    show p_X0_fact 10 S 9 K = _
    simp [p_X0_fact, x_ruinedPeople ok R, a_fact, nI]
  | 10, _ => by
    show p_X0_fact 10 S 10 K = _
    simp [p_X0_fact, R_7 R, a_fact, nI]
  | k + 11, h => absurd h (by omega)
def o_many (m : Nat → Int32) (x : Int32) : Int32 × Int32 × Option (Int64 × Int64) := if a_in 0 10 x = true then (a_fact m (a_n x), 0, none) else (-1, 5, none)
theorem a_in_f {lo hi x : Int32} (h : ¬ a_in lo hi x = true) : x < lo ∨ hi < x := by
  unfold a_in at h
  rw [decide_eq_true_iff] at h
  by_cases c : x < lo
  · exact Or.inl c
  · refine Or.inr (Int32.not_le.mp (fun q => h ⟨Int32.not_lt.mp c, q⟩))
theorem x_many {S : vSt} {m : Nat → Int32} {x : Int32} {K : Int32 → vSt → Prop} (ok : a_ok m) (R : a_R S 10 m) (h : a_XK S K (o_many m x)) : p_X10_many S x K := by
  unfold p_X10_many p_X10_many_10
  unfold o_many at h
  by_cases g : a_in 0 10 x = true
  · obtain ⟨k, hk, rfl, e⟩ := a_in_t (n := 10) rfl (by omega) g
    rw [if_pos g, e] at h
    have q1 : ¬ nI k < 0 := nI_pos (by omega)
    have q2 : nI k < 11 := nI_lt (b := 11) (by omega) (by omega)
    simp only [q1, q2, x_fact ok R k hk, eq_self, reduceCtorEq, true_implies, false_implies, and_true, true_and, not_true_eq_false, not_false_eq_true]
    exact x_told fr_r h
  · rw [if_neg g] at h
    have q := x_refused fr_r h
    rcases a_in_f g with c | c
    · exact ⟨fun _ => q, fun c' => absurd c c'⟩
    · refine ⟨fun _ => q, fun _ => ⟨fun c' => absurd c (?_), fun _ => q⟩⟩
      rw [Int32.lt_iff_toInt_lt] at c c' ⊢
      have e1 : (10 : Int32).toInt = 10 := rfl
      have e2 : (11 : Int32).toInt = 11 := rfl
      omega