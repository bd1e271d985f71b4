/-! dreaded -/
def o_dreaded (m : Nat → Int32) (x : Int32) : Int32 × Int32 × Option (Int64 × Int64) := if a_one m x = true then o_any (a_bst (fun i => (a_own m (a_n x) i : Int)) (a_D m)).1 else (-1, 2, none)
theorem own_fit {m : Nat → Int32} (ok : a_ok m) {p d : Nat} (hd : d < a_D m) : a_fit (a_own m p d : Int) := by
  have h1 := own_le (p := p) ok hd
  have h2 := all_le ok
  have h3 : a_all m * 999 ≤ 2 ^ 36 * 999 := Nat.mul_le_mul_right _ h2
  unfold a_fit; omega
theorem x_worstDeed {S : vSt} {m : Nat → Int32} {p : Nat} {K : Int32 → vSt → Prop} (ok : a_ok m) (R : a_R S 10 m) (s : a_seen S m) (h : K (a_bst (fun i => (a_own m p i : Int)) (a_D m)).1 S) : p_X3_worstDeed S (nI p) K := by
  have h10 := ok_D10 ok
  unfold p_X3_worstDeed
  refine v_loop (fun fu i (z : Int32 × Int64) => p_X3_worstDeed_7 (nI p) K fu S z.1 z.2 (nI i)) (fun i z => z.1 = (a_bst (fun i => (a_own m p i : Int)) i).1 ∧ z.2 = lI (a_bst (fun i => (a_own m p i : Int)) i).2) (a_D m) (fun fu i z hi hI hk => ?_) (fun fu z hI => ?_) (-1, 0) ⟨rfl, rfl⟩
  · obtain ⟨z1, z2⟩ := z
    obtain ⟨e1, e2⟩ := hI
    simp only at e1 e2
    subst e1 e2
    have n1 : ¬ nI (a_D m) ≤ nI i := nI_ge hi (by omega)
    have hf := (bst_ok (fun i => (a_own m p i : Int)) i (fun j hj => own_fit ok (by omega))).1
    have step : p_X3_worstDeed_42 (nI p) (p_X3_worstDeed_7 (nI p) K fu) K S (a_bst (fun i => (a_own m p i : Int)) i).1 (lI (a_bst (fun i => (a_own m p i : Int)) i).2) (nI i) (lI (a_own m p i)) := by
      unfold p_X3_worstDeed_42 p_X3_worstDeed_57
      simp only [lI_le (own_fit ok hi) hf, forall_eq, nIs]
      by_cases q : (a_bst (fun i => (a_own m p i : Int)) i).2 < (a_own m p i : Int)
      · simp only [show ¬ (a_own m p i : Int) ≤ (a_bst (fun i => (a_own m p i : Int)) i).2 by omega, eq_self, reduceCtorEq, true_implies, false_implies, and_true, true_and, not_true_eq_false, not_false_eq_true]
        have e : a_bst (fun i => (a_own m p i : Int)) (i + 1) = (nI i, (a_own m p i : Int)) := by rw [bst_s, if_pos q]
        exact hk (nI i, lI (a_own m p i : Int)) ⟨by rw [e], by rw [e]⟩
      · simp only [show (a_own m p i : Int) ≤ (a_bst (fun i => (a_own m p i : Int)) i).2 by omega, eq_self, reduceCtorEq, true_implies, false_implies, and_true, true_and, not_true_eq_false, not_false_eq_true]
        have e : a_bst (fun i => (a_own m p i : Int)) (i + 1) = a_bst (fun i => (a_own m p i : Int)) i := by rw [bst_s, if_neg q]
        exact hk ((a_bst (fun i => (a_own m p i : Int)) i).1, lI (a_bst (fun i => (a_own m p i : Int)) i).2) ⟨by rw [e], by rw [e]⟩
    simp only [e_X3_worstDeed_7, R_1 R, ok_m1 ok, n1, eq_self, reduceCtorEq, true_implies, false_implies, and_true, true_and, not_true_eq_false, not_false_eq_true, e_isOwn (show i < 10 by omega), R_48 (b := 10) R hi h10]
    by_cases c : m (48 + i) = nI p
    · simp only [c, decide_true, eq_self, reduceCtorEq, true_implies, false_implies, and_true, true_and, not_true_eq_false, not_false_eq_true]
      refine x_worstLoss ok R s hi ?_
      have e : a_own m p i = a_dread m i := if_pos c
      rw [← e]
      exact step
    · simp only [c, decide_false, eq_self, reduceCtorEq, true_implies, false_implies, and_true, true_and, not_true_eq_false, not_false_eq_true]
      have e : a_own m p i = 0 := if_neg c
      rw [e] at step
      exact step
  · obtain ⟨z1, z2⟩ := z
    obtain ⟨e1, e2⟩ := hI
    simp only at e1 e2
    subst e1 e2
    simp only [e_X3_worstDeed_7, R_1 R, ok_m1 ok, Int32.le_refl, eq_self, reduceCtorEq, true_implies, false_implies, and_true, true_and, not_true_eq_false, not_false_eq_true]
    exact h
theorem x_dreaded {S : vSt} {m : Nat → Int32} {x : Int32} {K : Int32 → vSt → Prop} (ok : a_ok m) (R : a_R S 10 m) (h : a_XK S K (o_dreaded m x)) : p_X10_dreaded S x K := by
  unfold p_X10_dreaded p_X10_seen
  rw [e_hasPerson R]
  unfold o_dreaded at h
  by_cases g : a_one m x = true
  · obtain ⟨p, hp, rfl, e⟩ := a_one_t ok g
    rw [if_pos g, e] at h
    rw [g]
    simp only [eq_self, reduceCtorEq, true_implies, false_implies, and_true, true_and, not_true_eq_false, not_false_eq_true]
    refine x_see ok R (fun S1 f1 s1 => ?_)
    refine x_worstDeed ok (R_x R f1) s1 ?_
    exact x_toldIfAny f1 h
  · rw [if_neg g] at h
    rw [Bool.not_eq_true] at g
    rw [g]
    simp only [eq_self, reduceCtorEq, true_implies, false_implies, and_true, true_and, not_true_eq_false, not_false_eq_true]
    exact x_refused fr_r h
def a_mz (z : Int) : Int := if z = 0 then -1 else z
/-! friend -/
def a_mild (m : Nat → Int32) (d n : Nat) : Int32 × Int := v_it (fun p s => if a_can m p d = true ∧ (s.1 = -1 ∨ (a_loss m p d : Int) < s.2) then (nI p, (a_loss m p d : Int)) else s) n (-1, 0)
theorem mild_s (m : Nat → Int32) (d n : Nat) : a_mild m d (n + 1) = if a_can m n d = true ∧ ((a_mild m d n).1 = -1 ∨ (a_loss m n d : Int) < (a_mild m d n).2) then (nI n, (a_loss m n d : Int)) else a_mild m d n := rfl
theorem mild_ok {m : Nat → Int32} (ok : a_ok m) {d : Nat} (hd : d < a_D m) : ∀ n, a_fit (a_mild m d n).2 ∧ ((a_mild m d n).1 = -1 ∨ ∃ p, p < n ∧ (a_mild m d n).1 = nI p)
  | 0 => ⟨fit_0, Or.inl rfl⟩
  | n + 1 => by
    obtain ⟨h1, h2⟩ := mild_ok ok hd n
    rw [mild_s]
    split
    · exact ⟨fit_loss ok hd, Or.inr ⟨n, by omega, rfl⟩⟩
    · refine ⟨h1, ?_⟩
      rcases h2 with q | ⟨p, hp, q⟩
      · exact Or.inl q
      · exact Or.inr ⟨p, by omega, q⟩
theorem nI_nm1 {p : Nat} (hp : p < 2 ^ 31) : ¬ nI p = -1 ∧ ¬ nI p < 0 := by
  have q := nI_pos hp
  refine ⟨fun w => ?_, q⟩
  rw [w] at q
  exact q (by decide)
def o_friend (m : Nat → Int32) (x : Int32) : Int32 × Int32 × Option (Int64 × Int64) := if a_two m x = true then o_any (a_mild m (a_n x) (a_P m)).1 else (-1, 2, none)
theorem x_mildestAccuser {S : vSt} {m : Nat → Int32} {d : Nat} {K : Int32 → vSt → Prop} (ok : a_ok m) (R : a_R S 10 m) (s : a_seen S m) (hd : d < a_D m) (h : K (a_mild m d (a_P m)).1 S) : p_X3_mildestAccuser S (nI d) K := by
  have h8 := ok_P8 ok
  unfold p_X3_mildestAccuser
  refine v_loop (fun fu i (z : Int32 × Int64) => p_X3_mildestAccuser_7 (nI d) K fu S z.1 z.2 (nI i)) (fun i z => z.1 = (a_mild m d i).1 ∧ z.2 = lI (a_mild m d i).2) (a_P m) (fun fu i z hi hI hk => ?_) (fun fu z hI => ?_) (-1, 0) ⟨rfl, rfl⟩
  · obtain ⟨z1, z2⟩ := z
    obtain ⟨e1, e2⟩ := hI
    simp only at e1 e2
    subst e1 e2
    have n1 : ¬ nI (a_P m) ≤ nI i := nI_ge hi (by omega)
    obtain ⟨hf, -⟩ := mild_ok ok hd i
    have take : (a_can m i d = true ∧ ((a_mild m d i).1 = -1 ∨ (a_loss m i d : Int) < (a_mild m d i).2)) → p_X3_mildestAccuser_46 (nI d) (p_X3_mildestAccuser_7 (nI d) K fu) K S (nI i) := by
      intro q
      unfold p_X3_mildestAccuser_46 p_X3_mildestAccuser_57
      rw [x_lossOf ok s hi hd]
      simp only [forall_eq, nIs]
      have e : a_mild m d (i + 1) = (nI i, (a_loss m i d : Int)) := by rw [mild_s, if_pos q]
      exact hk (nI i, lI (a_loss m i d : Int)) ⟨by rw [e], by rw [e]⟩
    have leave : ¬ (a_can m i d = true ∧ ((a_mild m d i).1 = -1 ∨ (a_loss m i d : Int) < (a_mild m d i).2)) → p_X3_mildestAccuser_57 (nI d) (p_X3_mildestAccuser_7 (nI d) K fu) K S (a_mild m d i).1 (lI (a_mild m d i).2) (nI i) := by
      intro q
      unfold p_X3_mildestAccuser_57
      simp only [forall_eq, nIs]
      have e : a_mild m d (i + 1) = a_mild m d i := by rw [mild_s, if_neg q]
      exact hk ((a_mild m d i).1, lI (a_mild m d i).2) ⟨by rw [e], by rw [e]⟩
    simp only [e_X3_mildestAccuser_7, R_0 R, ok_m0 ok, n1, eq_self, reduceCtorEq, true_implies, false_implies, and_true, true_and, not_true_eq_false, not_false_eq_true, x_isWithin ok s hi hd]
    cases c : a_can m i d
    · simp only [eq_self, reduceCtorEq, true_implies, false_implies, and_true, true_and, not_true_eq_false, not_false_eq_true]
      exact leave (fun w => by rw [c] at w; exact Bool.noConfusion w.1)
    · simp only [eq_self, reduceCtorEq, true_implies, false_implies, and_true, true_and, not_true_eq_false, not_false_eq_true]
      by_cases c2 : (a_mild m d i).1 = -1
      · simp only [c2, eq_self, reduceCtorEq, true_implies, false_implies, and_true, true_and, not_true_eq_false, not_false_eq_true]
        exact take ⟨c, Or.inl c2⟩
      · simp only [c2, eq_self, reduceCtorEq, true_implies, false_implies, and_true, true_and, not_true_eq_false, not_false_eq_true, x_lossOf ok s hi hd, lI_le hf (fit_loss (p := i) ok hd)]
        by_cases q : (a_loss m i d : Int) < (a_mild m d i).2
        · simp only [show ¬ (a_mild m d i).2 ≤ (a_loss m i d : Int) by omega, eq_self, reduceCtorEq, true_implies, false_implies, and_true, true_and, not_true_eq_false, not_false_eq_true]
          exact take ⟨c, Or.inr q⟩
        · simp only [show (a_mild m d i).2 ≤ (a_loss m i d : Int) by omega, eq_self, reduceCtorEq, true_implies, false_implies, and_true, true_and, not_true_eq_false, not_false_eq_true]
          exact leave (fun w => w.2.elim c2 q)
  · obtain ⟨z1, z2⟩ := z
    obtain ⟨e1, e2⟩ := hI
    simp only at e1 e2
    subst e1 e2
    simp only [e_X3_mildestAccuser_7, R_0 R, ok_m0 ok, Int32.le_refl, eq_self, reduceCtorEq, true_implies, false_implies, and_true, true_and, not_true_eq_false, not_false_eq_true]
    exact h
theorem x_friend {S : vSt} {m : Nat → Int32} {x : Int32} {K : Int32 → vSt → Prop} (ok : a_ok m) (R : a_R S 10 m) (h : a_XK S K (o_friend m x)) : p_X10_friend S x K := by
  unfold p_X10_friend p_X10_seen
  rw [e_hasDeed R]
  unfold o_friend at h
  by_cases g : a_two m x = true
  · obtain ⟨d, hd, rfl, e⟩ := a_two_t ok g
    rw [if_pos g, e] at h
    rw [g]
    simp only [eq_self, reduceCtorEq, true_implies, false_implies, and_true, true_and, not_true_eq_false, not_false_eq_true]
    refine x_see ok R (fun S1 f1 s1 => ?_)
    refine x_mildestAccuser ok (R_x R f1) s1 hd ?_
    exact x_toldIfAny f1 h
  · rw [if_neg g] at h
    rw [Bool.not_eq_true] at g
    rw [g]
    simp only [eq_self, reduceCtorEq, true_implies, false_implies, and_true, true_and, not_true_eq_false, not_false_eq_true]
    exact x_refused fr_r h