/-! guards in the class's form -/
theorem gd1 {A B : Prop} {x lo hi hi1 : Int32} (h : hi1.toInt = hi.toInt + 1) : ((x < lo → A) ∧ (¬ x < lo → ((x < hi1 → B) ∧ (¬ x < hi1 → A)))) = (if a_in lo hi x = true then B else A) := by
  unfold a_in
  by_cases c : x < lo <;> by_cases d : x < hi1 <;> simp only [c, d, eq_self, reduceCtorEq, true_implies, false_implies, and_true, true_and, not_true_eq_false, not_false_eq_true, decide_eq_true_eq] <;> simp only [Int32.lt_iff_toInt_lt, Int32.le_iff_toInt_le] at c d ⊢
  · rw [if_neg (by omega)]
  · rw [if_neg (by omega)]
  · rw [if_pos (by omega)]
  · rw [if_neg (by omega)]
theorem gd2 {A B : Prop} {x lo hi : Int32} : ((x < lo → A) ∧ (¬ x < lo → ((x ≤ hi → B) ∧ (¬ x ≤ hi → A)))) = (if a_in lo hi x = true then B else A) := by
  unfold a_in
  by_cases c : x < lo <;> by_cases d : x ≤ hi <;> simp only [c, d, eq_self, reduceCtorEq, true_implies, false_implies, and_true, true_and, not_true_eq_false, not_false_eq_true, decide_eq_true_eq] <;> simp only [Int32.lt_iff_toInt_lt, Int32.le_iff_toInt_le] at c d ⊢
  · rw [if_neg (by omega)]
  · rw [if_neg (by omega)]
  · rw [if_pos (by omega)]
  · first | rw [if_neg (by omega)] | simp
theorem gd3 {A B : Prop} {x lo hi : Int32} : ((x < lo → A) ∧ (¬ x < lo → ((hi < x → A) ∧ (¬ hi < x → B)))) = (if a_in lo hi x = true then B else A) := by
  unfold a_in
  by_cases c : x < lo <;> by_cases d : hi < x <;> simp only [c, d, eq_self, reduceCtorEq, true_implies, false_implies, and_true, true_and, not_true_eq_false, not_false_eq_true, decide_eq_true_eq] <;> simp only [Int32.lt_iff_toInt_lt, Int32.le_iff_toInt_le] at c d ⊢
  · rw [if_neg (by omega)]
  · rw [if_neg (by omega)]
  · rw [if_neg (by omega)]
  · rw [if_pos (by omega)]
/-! person -/
def a_pf (m : Nat → Int32) (p k : Nat) : Int32 := if k = 4 then v_set (fun d => decide (m (48 + d) = nI p)) (a_D m) else m (8 + 8 * min k 4 + p)
theorem x_personFact {S : vSt} {m : Nat → Int32} {p : Nat} {K : Int32 → vSt → Prop} (ok : a_ok m) (R : a_R S 10 m) (hp : p < a_P m) : ∀ k, k ≤ 5 → p_X0_personFact 10 S (nI p) (nI k) K = K (a_pf m p k) S := by
  have h8 := ok_P8 ok
  intro k hk
  match k, hk with
  | 0, _ =>
    show p_X0_personFact 10 S (nI p) 0 K = _
    simp [p_X0_personFact, e_at (show p < 8 by omega)]
    exact Iff.of_eq (congrArg (fun z => K z S) (R_8 R hp h8))
  | 1, _ =>
    show p_X0_personFact 10 S (nI p) 1 K = _
    simp [p_X0_personFact, e_at (show p < 8 by omega)]
    exact Iff.of_eq (congrArg (fun z => K z S) (R_16 R hp h8))
  | 2, _ =>
    show p_X0_personFact 10 S (nI p) 2 K = _
    simp [p_X0_personFact, e_at (show p < 8 by omega)]
    exact Iff.of_eq (congrArg (fun z => K z S) (R_24 R hp h8))
  | 3, _ =>
    show p_X0_personFact 10 S (nI p) 3 K = _
    simp [p_X0_personFact, e_at (show p < 8 by omega)]
    exact Iff.of_eq (congrArg (fun z => K z S) (R_32 R hp h8))
  | 4, _ =>
    show p_X0_personFact 10 S (nI p) 4 K = _
    simp [p_X0_personFact, x_deedsOf ok R, a_pf]
  | 5, _ =>
    show p_X0_personFact 10 S (nI p) 5 K = _
    simp [p_X0_personFact, e_at (show p < 8 by omega)]
    exact Iff.of_eq (congrArg (fun z => K z S) (R_40 R hp h8))
  | k + 6, h => exact absurd h (by omega)
def o_person (m : Nat → Int32) (x y : Int32) : Int32 × Int32 × Option (Int64 × Int64) := if a_one m x = true then (if a_in 0 5 y = true then (a_pf m (a_n x) (a_n y), 0, none) else (-1, 5, none)) else (-1, 2, none)
theorem x_person {S : vSt} {m : Nat → Int32} {x y : Int32} {K : Int32 → vSt → Prop} (ok : a_ok m) (R : a_R S 10 m) (h : a_XK S K (o_person m x y)) : p_X10_person S x y K := by
  unfold p_X10_person p_X10_person_27
  rw [e_hasPerson R]
  unfold o_person at h
  by_cases g : a_one m x = true
  · obtain ⟨p, hp, rfl, e⟩ := a_one_t ok g
    rw [if_pos g] at h
    rw [g]
    simp only [eq_self, reduceCtorEq, true_implies, false_implies, and_true, true_and, not_true_eq_false, not_false_eq_true]
    rw [gd1 (hi := 5) rfl]
    by_cases g2 : a_in 0 5 y = true
    · obtain ⟨k, hk, rfl, e2⟩ := a_in_t (n := 5) rfl (by omega) g2
      rw [if_pos g2, e, e2] at h
      rw [if_pos g2, x_personFact ok R hp k hk]
      exact x_told fr_r h
    · rw [if_neg g2] at h ⊢
      exact x_refused fr_r h
  · rw [if_neg g] at h
    rw [Bool.not_eq_true] at g
    rw [g]
    simp only [eq_self, reduceCtorEq, true_implies, false_implies, and_true, true_and, not_true_eq_false, not_false_eq_true]
    exact x_refused fr_r h
theorem pf_at : ∀ k, k < 6 → ∀ p, p < 8 → ((8 : Int32) + 8 * v_mini (nI k) 4) + nI p = nI (8 + 8 * min k 4 + p) := by decide +kernel
/-! deed -/
def o_deed (m : Nat → Int32) (x y : Int32) : Int32 × Int32 × Option (Int64 × Int64) := if a_two m x = true then (if a_in 0 5 y = true then (if a_n y < 4 ∨ m (78 + a_n x) ≠ 0 then (m (48 + 10 * a_n y + a_n x), 0, none) else (-1, 8, none)) else (-1, 5, none)) else (-1, 2, none)
theorem x_deedFact {S : vSt} {m : Nat → Int32} {d : Nat} {K : Int32 → vSt → Prop} (ok : a_ok m) (R : a_R S 10 m) (hd : d < a_D m) : ∀ k, k ≤ 5 → (k < 4 ∨ m (78 + d) ≠ 0) → p_X0_deedFact 10 S (nI d) (nI k) K = K (m (48 + 10 * k + d)) S := by
  have h10 := ok_D10 ok
  intro k hk hs
  match k, hk with
  | 0, _ =>
    show p_X0_deedFact 10 S (nI d) 0 K = _
    simp [p_X0_deedFact, e_at (show d < 10 by omega)]
    exact Iff.of_eq (congrArg (fun z => K z S) (R_48 R hd h10))
  | 1, _ =>
    show p_X0_deedFact 10 S (nI d) 1 K = _
    simp [p_X0_deedFact, e_at (show d < 10 by omega)]
    exact Iff.of_eq (congrArg (fun z => K z S) (R_58 R hd h10))
  | 2, _ =>
    show p_X0_deedFact 10 S (nI d) 2 K = _
    simp [p_X0_deedFact, e_at (show d < 10 by omega)]
    exact Iff.of_eq (congrArg (fun z => K z S) (R_68 R hd h10))
  | 3, _ =>
    show p_X0_deedFact 10 S (nI d) 3 K = _
    simp [p_X0_deedFact, e_at (show d < 10 by omega)]
    exact Iff.of_eq (congrArg (fun z => K z S) (R_78 R hd h10))
  | 4, _ =>
    have hs : m (78 + d) ≠ 0 := hs.resolve_left (by omega)
    show p_X0_deedFact 10 S (nI d) 4 K = _
    simp [p_X0_deedFact, e_at (show d < 10 by omega)]
    exact Iff.of_eq (congrArg (fun z => K z S) (R_88 R hd h10 hs))
  | 5, _ =>
    have hs : m (78 + d) ≠ 0 := hs.resolve_left (by omega)
    show p_X0_deedFact 10 S (nI d) 5 K = _
    simp [p_X0_deedFact, e_at (show d < 10 by omega)]
    exact Iff.of_eq (congrArg (fun z => K z S) (R_98 R hd h10 hs))
  | k + 6, h => exact absurd h (by omega)
theorem x_deed {S : vSt} {m : Nat → Int32} {x y : Int32} {K : Int32 → vSt → Prop} (ok : a_ok m) (R : a_R S 10 m) (h : a_XK S K (o_deed m x y)) : p_X10_deed S x y K := by
  unfold p_X10_deed p_X10_deed_27 p_X10_deed_56
  have h10 := ok_D10 ok
  rw [e_hasDeed R]
  unfold o_deed at h
  by_cases g : a_two m x = true
  · obtain ⟨d, hd, rfl, e⟩ := a_two_t ok g
    rw [if_pos g] at h
    rw [g]
    simp only [eq_self, reduceCtorEq, true_implies, false_implies, and_true, true_and, not_true_eq_false, not_false_eq_true]
    rw [gd1 (hi := 5) rfl]
    by_cases g2 : a_in 0 5 y = true
    · obtain ⟨k, hk, rfl, e2⟩ := a_in_t (n := 5) rfl (by omega) g2
      rw [if_pos g2, e, e2] at h
      rw [if_pos g2]
      by_cases c : k < 4
      · rw [if_pos (Or.inl c)] at h
        have q : nI k < 4 := nI_lt (b := 4) c (by omega)
        simp only [q, eq_self, reduceCtorEq, true_implies, false_implies, and_true, true_and, not_true_eq_false, not_false_eq_true, x_deedFact ok R hd k hk (Or.inl c)]
        exact x_told fr_r h
      · have q : ¬ nI k < 4 := nI_nlt (b := 4) (by omega) (by omega)
        simp only [q, eq_self, reduceCtorEq, true_implies, false_implies, and_true, true_and, not_true_eq_false, not_false_eq_true, e_isOpen (show d < 10 by omega), R_78 R hd h10]
        by_cases c2 : m (78 + d) = 0
        · rw [if_neg (by rintro (w | w); exact c w; exact w c2)] at h
          simp only [c2, decide_true, eq_self, reduceCtorEq, true_implies, false_implies, and_true, true_and, not_true_eq_false, not_false_eq_true]
          exact x_refused fr_r h
        · rw [if_pos (Or.inr c2)] at h
          simp only [c2, decide_false, eq_self, reduceCtorEq, true_implies, false_implies, and_true, true_and, not_true_eq_false, not_false_eq_true, x_deedFact ok R hd k hk (Or.inr c2)]
          exact x_told fr_r h
    · rw [if_neg g2] at h ⊢
      exact x_refused fr_r h
  · rw [if_neg g] at h
    rw [Bool.not_eq_true] at g
    rw [g]
    simp only [eq_self, reduceCtorEq, true_implies, false_implies, and_true, true_and, not_true_eq_false, not_false_eq_true]
    exact x_refused fr_r h
theorem df_at : ∀ k, k < 6 → ∀ d, d < 10 → ((48 : Int32) + 10 * nI k) + nI d = nI (48 + 10 * k + d) := by decide +kernel
theorem nb_pos {x : Int32} {lo hi : Nat} (h : a_nb x lo hi) (hh : hi < 2 ^ 31) : 0 ≤ x := by
  rw [h.1]; exact nI_pos' (by have := h.2.2; omega)
theorem df_pos {m : Nat → Int32} {d : Nat} (ok : a_ok m) (hd : d < a_D m) : ∀ k, k ≤ 5 → (0 ≤ m (48 + 10 * k + d) ↔ (k < 4 ∨ m (78 + d) ≠ 0)) := by
  intro k hk
  obtain ⟨⟨h1, -⟩, h2, h3, h4, h5, h6⟩ := ok_d ok hd
  have h8 := ok_P8 ok
  match k, hk with
  | 0, _ => exact ⟨fun _ => Or.inl (by omega), fun _ => by rw [show 48 + 10 * 0 + d = 48 + d by omega]; exact nb_pos h1 (by omega)⟩
  | 1, _ => exact ⟨fun _ => Or.inl (by omega), fun _ => by rw [show 48 + 10 * 1 + d = 58 + d by omega]; exact nb_pos h2 (by omega)⟩
  | 2, _ => exact ⟨fun _ => Or.inl (by omega), fun _ => by rw [show 48 + 10 * 2 + d = 68 + d by omega]; exact nb_pos h3 (by omega)⟩
  | 3, _ => exact ⟨fun _ => Or.inl (by omega), fun _ => by rw [show 48 + 10 * 3 + d = 78 + d by omega]; exact nb_pos h4 (by omega)⟩
  | 4, _ =>
    rw [show 48 + 10 * 4 + d = 88 + d by omega]
    constructor
    · intro w
      refine Or.inr (fun c => ?_)
      rw [(h5 c).1] at w
      exact absurd w (by decide)
    · rintro (w | w)
      · omega
      · exact Int32.not_lt.mp (h6 w).1
  | 5, _ =>
    rw [show 48 + 10 * 5 + d = 98 + d by omega]
    constructor
    · intro w
      refine Or.inr (fun c => ?_)
      rw [(h5 c).2] at w
      exact absurd w (by decide)
    · rintro (w | w)
      · omega
      · exact Int32.not_lt.mp (h6 w).2
  | k + 6, h => exact absurd h (by omega)
/-! chance; what stands against a vote -/
def a_why (m : Nat → Int32) (x y : Int32) : Int32 := if (a_one m x && a_two m y) = true then (if m (48 + a_n y) = x then 9 else 0) else 2
theorem a_why_0 {m : Nat → Int32} {x y : Int32} (ok : a_ok m) (h : a_why m x y = 0) : ∃ p d, p < a_P m ∧ d < a_D m ∧ x = nI p ∧ y = nI d ∧ a_n x = p ∧ a_n y = d ∧ m (48 + d) ≠ nI p := by
  unfold a_why at h
  by_cases g : (a_one m x && a_two m y) = true
  · obtain ⟨p, d, hp, hd, rfl, rfl, e1, e2⟩ := a_both_t ok g
    rw [if_pos g, e2] at h
    refine ⟨p, d, hp, hd, rfl, rfl, e1, e2, fun c => ?_⟩
    rw [if_pos c] at h
    exact absurd h (by decide)
  · rw [if_neg g] at h
    exact absurd h (by decide)
theorem x_voteStatus {S : vSt} {m : Nat → Int32} {x y : Int32} {K : Int32 → vSt → Prop} (ok : a_ok m) (R : a_R S 10 m) : p_X10_voteStatus S x y K = K (a_why m x y) S := by
  unfold p_X10_voteStatus a_why
  rw [e_areThere R]
  have h10 := ok_D10 ok
  by_cases g : (a_one m x && a_two m y) = true
  · obtain ⟨p, d, hp, hd, rfl, rfl, e1, e2⟩ := a_both_t ok g
    rw [if_pos g, g, e2]
    simp only [eq_self, reduceCtorEq, true_implies, false_implies, and_true, true_and, not_true_eq_false, not_false_eq_true, e_isOwn (show d < 10 by omega), R_48 R hd h10]
    by_cases c : m (48 + d) = nI p <;> simp [c]
  · rw [if_neg g]
    rw [Bool.not_eq_true] at g
    rw [g]
    simp only [eq_self, reduceCtorEq, true_implies, false_implies, and_true, true_and, not_true_eq_false, not_false_eq_true]
def o_chance (m : Nat → Int32) (x y : Int32) : Int32 × Int32 × Option (Int64 × Int64) := if a_why m x y = 0 then (nI (a_c m (a_n x) (a_n y)), 0, none) else (-1, a_why m x y, none)