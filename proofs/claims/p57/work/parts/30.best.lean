/-! who dreads what -/
def a_dr (m : Nat → Int32) (d : Nat) : Nat → Nat
  | 0 => 0
  | n + 1 => if a_can m n d = true ∧ 0 < a_gain m n d then max (a_dr m d n) (a_loss m n d) else a_dr m d n
def a_dread (m : Nat → Int32) (d : Nat) : Nat := a_dr m d (a_P m)
theorem dr_le {m : Nat → Int32} {d : Nat} (ok : a_ok m) (hd : d < a_D m) : ∀ n, a_dr m d n ≤ a_all m * 999
  | 0 => Nat.zero_le _
  | n + 1 => by
    have h := dr_le ok hd n
    have h2 := loss_le (p := n) ok hd
    unfold a_dr
    split
    · exact Nat.max_le.mpr ⟨h, h2⟩
    · exact h
theorem dr_fit {m : Nat → Int32} {d : Nat} (ok : a_ok m) (hd : d < a_D m) (n : Nat) : a_fit (a_dr m d n) := by
  have h1 := dr_le ok hd n
  have h2 := all_le ok
  have h3 : a_all m * 999 ≤ 2 ^ 36 * 999 := Nat.mul_le_mul_right _ h2
  unfold a_fit; omega
theorem dr_open {m : Nat → Int32} {d : Nat} : ∀ n, a_dr m d n ≠ 0 → m (78 + d) = 0
  | 0, h => absurd rfl h
  | n + 1, h => by
    unfold a_dr at h
    split at h
    · next q =>
      have := q.1
      unfold a_can at this
      simp only [Bool.and_eq_true, decide_eq_true_eq] at this
      exact this.1.1.1
    · exact dr_open n h
theorem x_worstLoss {S : vSt} {m : Nat → Int32} {d : Nat} {K : Int64 → vSt → Prop} (ok : a_ok m) (R : a_R S 10 m) (s : a_seen S m) (hd : d < a_D m) (h : K (lI (a_dread m d)) S) : p_X3_worstLoss S (nI d) K := by
  have h8 := ok_P8 ok
  unfold p_X3_worstLoss
  refine v_loop (fun fu i (z : Int64) => p_X3_worstLoss_5 (nI d) K fu S z (nI i)) (fun i z => z = lI (a_dr m d i)) (a_P m) (fun fu i z hi hI hk => ?_) (fun fu z hI => ?_) 0 rfl
  · have h1 : ¬ nI (a_P m) ≤ nI i := nI_ge hi (by omega)
    subst hI
    simp only [e_X3_worstLoss_5, R_0 R, ok_m0 ok, h1, eq_self, reduceCtorEq, true_implies, false_implies, and_true, true_and, not_true_eq_false, not_false_eq_true, x_isWithin ok s hi hd, p_X3_worstLoss_51, forall_eq, nIs]
    cases c : a_can m i d
    · simp only [eq_self, reduceCtorEq, true_implies, false_implies, and_true, true_and, not_true_eq_false, not_false_eq_true]
      exact hk _ (by simp only [a_dr, c, Bool.false_eq_true, false_and, if_false])
    · simp only [eq_self, reduceCtorEq, true_implies, false_implies, and_true, true_and, not_true_eq_false, not_false_eq_true, x_gainOf ok s hi hd, x_lossOf ok s hi hd]
      by_cases q : 0 < a_gain m i d
      · have q2 : ¬ lI (a_gain m i d) ≤ 0 := by rw [lI_0, lI_le (fit_gain ok hd) fit_0]; omega
        simp only [q2, eq_self, reduceCtorEq, true_implies, false_implies, and_true, true_and, not_true_eq_false, not_false_eq_true, lI_max (dr_fit ok hd i) (fit_loss ok hd)]
        refine hk _ ?_
        simp only [a_dr, c, q, and_self, if_true]
        congr 1
        omega
      · have q2 : lI (a_gain m i d) ≤ 0 := by rw [lI_0, lI_le (fit_gain ok hd) fit_0]; omega
        simp only [q2, eq_self, reduceCtorEq, true_implies, false_implies, and_true, true_and, not_true_eq_false, not_false_eq_true]
        exact hk _ (by simp only [a_dr, q, and_false, if_false])
  · subst hI
    simp only [e_X3_worstLoss_5, R_0 R, ok_m0 ok, Int32.le_refl, eq_self, reduceCtorEq, true_implies, false_implies, and_true, true_and, not_true_eq_false, not_false_eq_true]
    exact h
def a_mn (n : Nat) : Int := if n = 0 then -1 else n
theorem mn_max (a b : Nat) (hb : 0 < b) : max (a_mn a) (b : Int) = a_mn (max a b) := by
  unfold a_mn
  rcases Nat.le_total a b with h | h
  · rw [Nat.max_eq_right h, if_neg (show ¬ b = 0 by omega)]
    by_cases q : a = 0
    · rw [if_pos q, Int.max_eq_right (by omega)]
    · rw [if_neg q, Int.max_eq_right (by omega)]
  · rw [Nat.max_eq_left h, if_neg (by omega), Int.max_eq_left (by omega)]
theorem mn_max0 (a : Nat) : max 0 (a_mn a) = (a : Int) := by
  unfold a_mn
  by_cases q : a = 0
  · rw [if_pos q, q]; rfl
  · rw [if_neg q, Int.max_eq_right (by omega)]
theorem mn_fit {n : Nat} (h : a_fit n) : a_fit (a_mn n) := by
  unfold a_fit at *; unfold a_mn; split <;> omega
/-! sums of dreads -/
def a_own (m : Nat → Int32) (p d : Nat) : Nat := if m (48 + d) = nI p then a_dread m d else 0
def a_da (m : Nat → Int32) (p : Nat) : Nat := a_sum (a_own m p) (a_D m)
theorem sum_bd {f : Nat → Nat} {c : Nat} : ∀ n, (∀ j, j < n → f j ≤ c) → a_sum f n ≤ n * c
  | 0, _ => Nat.zero_le _
  | n + 1, h => by
    have h1 := sum_bd n (fun j hj => h j (by omega))
    have h2 := h n (by omega)
    show a_sum f n + f n ≤ _
    rw [Nat.add_mul, Nat.one_mul]
    omega
theorem own_le {m : Nat → Int32} (ok : a_ok m) {p d : Nat} (hd : d < a_D m) : a_own m p d ≤ a_all m * 999 := by
  unfold a_own
  split
  · exact dr_le ok hd _
  · exact Nat.zero_le _
theorem da_le {m : Nat → Int32} (ok : a_ok m) {p : Nat} {n : Nat} (hn : n ≤ a_D m) : a_sum (a_own m p) n ≤ 2 ^ 50 := by
  have h1 := sum_bd n (f := a_own m p) (c := a_all m * 999) (fun j hj => own_le ok (by omega))
  have h2 := all_le ok
  have h3 : a_all m * 999 ≤ 2 ^ 36 * 999 := Nat.mul_le_mul_right _ h2
  have h4 := ok_D10 ok
  have h5 : n * (a_all m * 999) ≤ 10 * (2 ^ 36 * 999) := Nat.mul_le_mul (by omega) h3
  omega
theorem x_dreadOf {S : vSt} {m : Nat → Int32} {p : Nat} {K : Int64 → vSt → Prop} (ok : a_ok m) (R : a_R S 10 m) (s : a_seen S m) (h : K (lI (a_da m p)) S) : p_X3_dreadOf S (nI p) K := by
  have h10 := ok_D10 ok
  unfold p_X3_dreadOf
  refine v_loop (fun fu i (z : Int64) => p_X3_dreadOf_5 (nI p) K fu S z (nI i)) (fun i z => z = lI (a_sum (a_own m p) i)) (a_D m) (fun fu i z hi hI hk => ?_) (fun fu z hI => ?_) 0 rfl
  · have h1 : ¬ nI (a_D m) ≤ nI i := nI_ge hi (by omega)
    subst hI
    simp only [e_X3_dreadOf_5, R_1 R, ok_m1 ok, h1, eq_self, reduceCtorEq, true_implies, false_implies, and_true, true_and, not_true_eq_false, not_false_eq_true, e_isOwn (show i < 10 by omega), R_48 (b := 10) R hi h10, p_X3_dreadOf_41, forall_eq, nIs]
    by_cases c : m (48 + i) = nI p
    · simp only [c, decide_true, eq_self, reduceCtorEq, true_implies, false_implies, and_true, true_and, not_true_eq_false, not_false_eq_true]
      refine x_worstLoss ok R s hi ?_
      refine hk _ ?_
      rw [lI_add]
      simp only [a_sum, a_own, c, if_true]
      congr 1
    · simp only [c, decide_false, eq_self, reduceCtorEq, true_implies, false_implies, and_true, true_and, not_true_eq_false, not_false_eq_true]
      refine hk _ ?_
      simp only [a_sum, a_own, c, if_false, Nat.add_zero, Int64.add_zero]
  · subst hI
    simp only [e_X3_dreadOf_5, R_1 R, ok_m1 ok, Int32.le_refl, eq_self, reduceCtorEq, true_implies, false_implies, and_true, true_and, not_true_eq_false, not_false_eq_true]
    exact h
theorem fit_da {m : Nat → Int32} (ok : a_ok m) (p : Nat) : a_fit (a_da m p) := by
  have := da_le (p := p) ok (Nat.le_refl (a_D m))
  unfold a_da a_fit
  omega
def o_dread (m : Nat → Int32) (x : Int32) : Bool × Int32 × Option (Int64 × Int64) := if a_one m x = true then (true, 0, a_frac (a_da m (a_n x)) (a_all m)) else (false, 2, none)
theorem x_dread {S : vSt} {m : Nat → Int32} {x : Int32} {K : Bool → vSt → Prop} (ok : a_ok m) (R : a_R S 10 m) (h : a_XK S K (o_dread m x)) : p_X10_dread S x K := by
  unfold p_X10_dread p_X10_seen
  rw [e_hasPerson R]
  unfold o_dread at h
  by_cases g : a_one m x = true
  · obtain ⟨p, hp, rfl, e⟩ := a_one_t ok g
    rw [if_pos g, e] at h
    rw [g]
    simp only [eq_self, reduceCtorEq, true_implies, false_implies, and_true, true_and, not_true_eq_false, not_false_eq_true]
    refine x_see ok R (fun S1 f1 s1 => ?_)
    have R1 := R_x R f1
    refine x_dreadOf ok R1 s1 ?_
    rw [x_whole ok R1]
    exact x_tell f1 (fit_da ok p) (all_pos m) (all_40 ok) h
  · rw [if_neg g] at h
    rw [Bool.not_eq_true] at g
    rw [g]
    simp only [eq_self, reduceCtorEq, true_implies, false_implies, and_true, true_and, not_true_eq_false, not_false_eq_true]
    exact x_settled fr_r h
/-! the best of some -/
def a_bst (f : Nat → Int) (n : Nat) : Int32 × Int := v_it (fun d s => if s.2 < f d then (nI d, f d) else s) n (-1, 0)
theorem bst_s (f : Nat → Int) (n : Nat) : a_bst f (n + 1) = if (a_bst f n).2 < f n then (nI n, f n) else a_bst f n := rfl
theorem bst_ok (f : Nat → Int) : ∀ n, (∀ d, d < n → a_fit (f d)) → a_fit (a_bst f n).2 ∧ 0 ≤ (a_bst f n).2 ∧ (((a_bst f n).1 = -1 ∧ (a_bst f n).2 = 0) ∨ ((∃ d, d < n ∧ (a_bst f n).1 = nI d) ∧ 0 < (a_bst f n).2))
  | 0, _ => ⟨fit_0, Int.le_refl _, Or.inl ⟨rfl, rfl⟩⟩
  | n + 1, h => by
    obtain ⟨h1, h2, h3⟩ := bst_ok f n (fun d hd => h d (by omega))
    rw [bst_s]
    split
    · next q => exact ⟨h n (by omega), by omega, Or.inr ⟨⟨n, by omega, rfl⟩, by omega⟩⟩
    · refine ⟨h1, h2, ?_⟩
      rcases h3 with q | ⟨⟨d, hd, q⟩, q2⟩
      · exact Or.inl q
      · exact Or.inr ⟨⟨d, by omega, q⟩, q2⟩
def o_any (x : Int32) : Int32 × Int32 × Option (Int64 × Int64) := if x = -1 then (-1, 8, none) else (x, 0, none)
theorem x_toldIfAny {S S1 : vSt} {x : Int32} {K : Int32 → vSt → Prop} (f : a_fr a_sx S S1) (h : a_XK S K (o_any x)) : p_X10_toldIfAny S1 x K := by
  unfold p_X10_toldIfAny
  unfold o_any at h
  by_cases c : x = -1
  · rw [if_pos c] at h
    simp only [c, eq_self, reduceCtorEq, true_implies, false_implies, and_true, true_and, not_true_eq_false, not_false_eq_true]
    exact x_refused f h
  · rw [if_neg c] at h
    simp only [c, eq_self, reduceCtorEq, true_implies, false_implies, and_true, true_and, not_true_eq_false, not_false_eq_true]
    exact x_told f h
def a_gh (m : Nat → Int32) (p d : Nat) : Int := if a_can m p d = true then max 0 (a_gain m p d) else 0
theorem gh_fit {m : Nat → Int32} (ok : a_ok m) {p d : Nat} (hd : d < a_D m) : a_fit (a_gh m p d) := by
  have := fit_gain (p := p) ok hd
  unfold a_gh a_fit at *
  split <;> omega
theorem x_gainToHave {S : vSt} {m : Nat → Int32} {p d : Nat} {K : Int64 → vSt → Prop} (ok : a_ok m) (s : a_seen S m) (hp : p < a_P m) (hd : d < a_D m) : p_X3_gainToHave S (nI p) (nI d) K = K (lI (a_gh m p d)) S := by
  unfold p_X3_gainToHave a_gh
  rw [x_isWithin ok s hp hd]
  cases c : a_can m p d
  · simp only [eq_self, reduceCtorEq, true_implies, false_implies, and_true, true_and, not_true_eq_false, not_false_eq_true, Bool.false_eq_true, if_false]; rfl
  · simp only [eq_self, reduceCtorEq, true_implies, false_implies, and_true, true_and, not_true_eq_false, not_false_eq_true, if_true, x_gainOf ok s hp hd, lI_0, lI_max fit_0 (fit_gain ok hd)]

theorem x_bestDeed {S : vSt} {m : Nat → Int32} {p : Nat} {K : Int32 → vSt → Prop} (ok : a_ok m) (R : a_R S 10 m) (s : a_seen S m) (hp : p < a_P m) (h : K (a_bst (fun i => a_gh m p i) (a_D m)).1 S) : p_X3_bestDeed S (nI p) K := by
  have hb := ok_D10 ok
  unfold p_X3_bestDeed
  refine v_loop (fun fu i (z : Int32 × Int64) => p_X3_bestDeed_7 (nI p) K fu S z.1 z.2 (nI i)) (fun i z => z.1 = (a_bst (fun i => a_gh m p i) i).1 ∧ z.2 = lI (a_bst (fun i => a_gh m p i) i).2) (a_D m) (fun fu i z hi hI hk => ?_) (fun fu z hI => ?_) (-1, 0) ⟨rfl, rfl⟩
  · obtain ⟨z1, z2⟩ := z
    obtain ⟨e1, e2⟩ := hI
    simp only at e1 e2
    subst e1 e2
    have h1 : ¬ nI (a_D m) ≤ nI i := nI_ge hi (by omega)
    have hf := (bst_ok (fun i => a_gh m p i) i (fun j hj => gh_fit ok (by omega))).1
    simp only [e_X3_bestDeed_7, R_1 R, ok_m1 ok, h1, eq_self, reduceCtorEq, true_implies, false_implies, and_true, true_and, not_true_eq_false, not_false_eq_true, x_gainToHave ok s hp hi, p_X3_bestDeed_41, forall_eq, nIs, lI_le (gh_fit ok hi) hf]
    by_cases q : (a_bst (fun i => a_gh m p i) i).2 < a_gh m p i
    · simp only [show ¬ a_gh m p i ≤ (a_bst (fun i => a_gh m p i) i).2 by omega, eq_self, reduceCtorEq, true_implies, false_implies, and_true, true_and, not_true_eq_false, not_false_eq_true]
      have e : a_bst (fun i => a_gh m p i) (i + 1) = (nI i, a_gh m p i) := by rw [bst_s, if_pos q]
      exact hk (nI i, lI (a_gh m p i)) ⟨by rw [e], by rw [e]⟩
    · simp only [show a_gh m p i ≤ (a_bst (fun i => a_gh m p i) i).2 by omega, eq_self, reduceCtorEq, true_implies, false_implies, and_true, true_and, not_true_eq_false, not_false_eq_true]
      have e : a_bst (fun i => a_gh m p i) (i + 1) = a_bst (fun i => a_gh m p i) i := by rw [bst_s, if_neg q]
      exact hk ((a_bst (fun i => a_gh m p i) i).1, lI (a_bst (fun i => a_gh m p i) i).2) ⟨by rw [e], by rw [e]⟩
  · obtain ⟨z1, z2⟩ := z
    obtain ⟨e1, e2⟩ := hI
    simp only at e1 e2
    subst e1 e2
    simp only [e_X3_bestDeed_7, R_1 R, ok_m1 ok, Int32.le_refl, eq_self, reduceCtorEq, true_implies, false_implies, and_true, true_and, not_true_eq_false, not_false_eq_true]
    exact h

theorem x_bestAccuser {S : vSt} {m : Nat → Int32} {d : Nat} {K : Int32 → vSt → Prop} (ok : a_ok m) (R : a_R S 10 m) (s : a_seen S m) (hd : d < a_D m) (h : K (a_bst (fun i => a_gh m i d) (a_P m)).1 S) : p_X3_bestAccuser S (nI d) K := by
  have hb := ok_P8 ok
  unfold p_X3_bestAccuser
  refine v_loop (fun fu i (z : Int32 × Int64) => p_X3_bestAccuser_7 (nI d) K fu S z.1 z.2 (nI i)) (fun i z => z.1 = (a_bst (fun i => a_gh m i d) i).1 ∧ z.2 = lI (a_bst (fun i => a_gh m i d) i).2) (a_P m) (fun fu i z hi hI hk => ?_) (fun fu z hI => ?_) (-1, 0) ⟨rfl, rfl⟩
  · obtain ⟨z1, z2⟩ := z
    obtain ⟨e1, e2⟩ := hI
    simp only at e1 e2
    subst e1 e2
    have h1 : ¬ nI (a_P m) ≤ nI i := nI_ge hi (by omega)
    have hf := (bst_ok (fun i => a_gh m i d) i (fun j hj => gh_fit ok (by omega))).1
    simp only [e_X3_bestAccuser_7, R_0 R, ok_m0 ok, h1, eq_self, reduceCtorEq, true_implies, false_implies, and_true, true_and, not_true_eq_false, not_false_eq_true, x_gainToHave ok s hi hd, p_X3_bestAccuser_41, forall_eq, nIs, lI_le (gh_fit ok hd) hf]
    by_cases q : (a_bst (fun i => a_gh m i d) i).2 < a_gh m i d
    · simp only [show ¬ a_gh m i d ≤ (a_bst (fun i => a_gh m i d) i).2 by omega, eq_self, reduceCtorEq, true_implies, false_implies, and_true, true_and, not_true_eq_false, not_false_eq_true]
      have e : a_bst (fun i => a_gh m i d) (i + 1) = (nI i, a_gh m i d) := by rw [bst_s, if_pos q]
      exact hk (nI i, lI (a_gh m i d)) ⟨by rw [e], by rw [e]⟩
    · simp only [show a_gh m i d ≤ (a_bst (fun i => a_gh m i d) i).2 by omega, eq_self, reduceCtorEq, true_implies, false_implies, and_true, true_and, not_true_eq_false, not_false_eq_true]
      have e : a_bst (fun i => a_gh m i d) (i + 1) = a_bst (fun i => a_gh m i d) i := by rw [bst_s, if_neg q]
      exact hk ((a_bst (fun i => a_gh m i d) i).1, lI (a_bst (fun i => a_gh m i d) i).2) ⟨by rw [e], by rw [e]⟩
  · obtain ⟨z1, z2⟩ := z
    obtain ⟨e1, e2⟩ := hI
    simp only at e1 e2
    subst e1 e2
    simp only [e_X3_bestAccuser_7, R_0 R, ok_m0 ok, Int32.le_refl, eq_self, reduceCtorEq, true_implies, false_implies, and_true, true_and, not_true_eq_false, not_false_eq_true]
    exact h

def o_best (m : Nat → Int32) (x : Int32) : Int32 × Int32 × Option (Int64 × Int64) := if a_one m x = true then o_any (a_bst (fun i => a_gh m (a_n x) i) (a_D m)).1 else (-1, 2, none)
def o_accuser (m : Nat → Int32) (x : Int32) : Int32 × Int32 × Option (Int64 × Int64) := if a_two m x = true then o_any (a_bst (fun i => a_gh m i (a_n x)) (a_P m)).1 else (-1, 2, none)
theorem x_best {S : vSt} {m : Nat → Int32} {x : Int32} {K : Int32 → vSt → Prop} (ok : a_ok m) (R : a_R S 10 m) (h : a_XK S K (o_best m x)) : p_X10_best S x K := by
  unfold p_X10_best p_X10_seen
  rw [e_hasPerson R]
  unfold o_best at h
  by_cases g : a_one m x = true
  · obtain ⟨p, hp, rfl, e⟩ := a_one_t ok g
    rw [if_pos g, e] at h
    rw [g]
    simp only [eq_self, reduceCtorEq, true_implies, false_implies, and_true, true_and, not_true_eq_false, not_false_eq_true]
    refine x_see ok R (fun S1 f1 s1 => ?_)
    refine x_bestDeed ok (R_x R f1) s1 hp ?_
    exact x_toldIfAny f1 h
  · rw [if_neg g] at h
    rw [Bool.not_eq_true] at g
    rw [g]
    simp only [eq_self, reduceCtorEq, true_implies, false_implies, and_true, true_and, not_true_eq_false, not_false_eq_true]
    exact x_refused fr_r h

theorem x_accuser {S : vSt} {m : Nat → Int32} {x : Int32} {K : Int32 → vSt → Prop} (ok : a_ok m) (R : a_R S 10 m) (h : a_XK S K (o_accuser m x)) : p_X10_accuser S x K := by
  unfold p_X10_accuser p_X10_seen
  rw [e_hasDeed R]
  unfold o_accuser at h
  by_cases g : a_two m x = true
  · obtain ⟨d, hd, rfl, e⟩ := a_two_t ok g
    rw [if_pos g, e] at h
    rw [g]
    simp only [eq_self, reduceCtorEq, true_implies, false_implies, and_true, true_and, not_true_eq_false, not_false_eq_true]
    refine x_see ok R (fun S1 f1 s1 => ?_)
    refine x_bestAccuser ok (R_x R f1) s1 hd ?_
    exact x_toldIfAny f1 h
  · rw [if_neg g] at h
    rw [Bool.not_eq_true] at g
    rw [g]
    simp only [eq_self, reduceCtorEq, true_implies, false_implies, and_true, true_and, not_true_eq_false, not_false_eq_true]
    exact x_refused fr_r h
