/-! the model's hopes -/
/-! fractions -/
def a_frac (z : Int) (u : Nat) : Option (Int64 × Int64) := some (lI z / lN (Nat.gcd z.natAbs u), lN u / lN (Nat.gcd z.natAbs u))
theorem gcd_half {x y j : Nat} (h : x * y < 2 ^ (j + 1)) (hy : 0 < y) (hyx : y ≤ x) : y * (x % y) < 2 ^ j := by
  have h1 : x % y < y := Nat.mod_lt _ hy
  have h2 : x % y + y ≤ x := by
    have := Nat.div_add_mod x y
    have q : 1 ≤ x / y := (Nat.le_div_iff_mul_le hy).mpr (by omega)
    have : y * 1 ≤ y * (x / y) := Nat.mul_le_mul_left _ q
    omega
  have h3 : 2 * (x % y) ≤ x := by omega
  have h4 : y * (2 * (x % y)) ≤ y * x := Nat.mul_le_mul_left _ h3
  rw [Nat.pow_succ] at h
  rw [Nat.mul_comm x y] at h
  have h5 : y * (2 * (x % y)) = 2 * (y * (x % y)) := by rw [Nat.mul_left_comm]
  omega
theorem x_gcd_go {S : vSt} {a b : Int64} {K : Int64 → vSt → Prop} : ∀ (j x y i : Nat), x < 2 ^ 63 → y < 2 ^ 63 → x * y < 2 ^ j → y ≤ x → i + j < 200 → K (lN (Nat.gcd x y)) S → p_X10_commonDivisor_9 a b K (j + 1) S (lN x) (lN y) (nI i)
  | j, x, y, i, hx, hy, hp, hyx, hi, h => by
    have h1 : ¬ 200 ≤ nI i := nI_ge (b := 200) (by omega) (by omega)
    simp only [e_X10_commonDivisor_9, h1, eq_self, reduceCtorEq, true_implies, false_implies, and_true, true_and, not_true_eq_false, not_false_eq_true]
    by_cases c : y = 0
    · subst c
      have e : lN 0 = 0 := rfl
      rw [Nat.gcd_zero_right] at h
      simp only [e, eq_self, reduceCtorEq, true_implies, false_implies, and_true, true_and, not_true_eq_false, not_false_eq_true]
      exact h
    · have e : ¬ lN y = 0 := fun w => c ((pk_lEQ (b := 0) hy (by omega)).mp w)
      simp only [e, eq_self, reduceCtorEq, true_implies, false_implies, and_true, true_and, not_true_eq_false, not_false_eq_true, pk_lRem hx (by omega) hy, forall_eq, nIs]
      match j, hp, hi with
      | 0, hp, hi =>
        exfalso
        have : x * y = 0 := by omega
        rcases Nat.mul_eq_zero.mp this with q | q <;> omega
      | j + 1, hp, hi =>
        have hm : x % y < y := Nat.mod_lt _ (by omega)
        refine x_gcd_go j y (x % y) (i + 1) hy (by omega) (gcd_half hp (by omega) hyx) (by omega) (by omega) ?_
        rw [Nat.gcd_comm x y, Nat.gcd_rec] at h
        rw [Nat.gcd_comm]
        exact h
theorem x_gcd {S : vSt} {x u : Nat} {K : Int64 → vSt → Prop} (hx : x < 2 ^ 63) (h0 : 0 < u) (hu : u < 2 ^ 40) (h : K (lN (Nat.gcd x u)) S) : p_X10_commonDivisor S (lN x) (lN u) K := by
  unfold p_X10_commonDivisor
  have hm : x % u < u := Nat.mod_lt _ h0
  have key : p_X10_commonDivisor_9 (lN x) (lN u) K (80 + 1) S (lN u) (lN (x % u)) (nI 1) := by
    refine x_gcd_go 80 u (x % u) 1 (by omega) (by omega) ?_ (by omega) (by omega) ?_
    · have q1 : u * (x % u) ≤ u * u := Nat.mul_le_mul_left _ (by omega)
      have q2 : u * u ≤ 2 ^ 40 * u := Nat.mul_le_mul_right _ (by omega)
      have q3 : 2 ^ 40 * u < 2 ^ 40 * 2 ^ 40 := Nat.mul_lt_mul_of_pos_left hu (by omega)
      have q4 : (2 : Nat) ^ 40 * 2 ^ 40 = 2 ^ 80 := by decide
      omega
    · rw [Nat.gcd_comm x u, Nat.gcd_rec] at h
      rw [Nat.gcd_comm]
      exact h
  generalize 80 + 1 = n at key
  refine ⟨n + 1, ?_⟩
  have h1 : ¬ (200 : Int32) ≤ 0 := by decide
  have e : ¬ lN u = 0 := fun w => (by omega : u ≠ 0) ((pk_lEQ (b := 0) (by omega) (by omega)).mp w)
  simp only [e_X10_commonDivisor_9, h1, eq_self, reduceCtorEq, true_implies, false_implies, and_true, true_and, not_true_eq_false, not_false_eq_true, e, pk_lRem hx h0 (show u < 2 ^ 63 by omega), forall_eq]
  exact key
theorem gcd_ok {z : Int} {u : Nat} (hz : a_fit z) (h0 : 0 < u) (hu : u < 2 ^ 40) : 0 < Nat.gcd z.natAbs u ∧ Nat.gcd z.natAbs u < 2 ^ 63 := by
  have h1 : Nat.gcd z.natAbs u ≤ u := Nat.le_of_dvd h0 (Nat.gcd_dvd_right _ _)
  exact ⟨Nat.gcd_pos_of_pos_right _ h0, by omega⟩
theorem x_tell {S S1 : vSt} {z : Int} {u : Nat} {K : Bool → vSt → Prop} (f : a_fr a_sx S S1) (hz : a_fit z) (h0 : 0 < u) (hu : u < 2 ^ 40) (h : a_XK S K (true, 0, a_frac z u)) : p_X10_tell S1 (lI z) (lN u) K := by
  obtain ⟨g0, g1⟩ := gcd_ok hz h0 hu
  unfold p_X10_tell p_X10_tell_33
  rw [lI_abs hz, ← lI_N]
  refine x_gcd (by unfold a_fit at hz; omega) h0 hu ?_
  have n0 : ¬ lN (Nat.gcd z.natAbs u) ≤ 0 := by
    rw [show (0 : Int64) = lN 0 from rfl, pk_lLE g1 (by omega)]
    omega
  have n1 : ¬ lN (Nat.gcd z.natAbs u) = 0 := fun w => by
    have := (pk_lEQ (b := 0) g1 (by omega)).mp w
    omega
  simp only [n0, n1, eq_self, reduceCtorEq, true_implies, false_implies, and_true, true_and, not_true_eq_false, not_false_eq_true, forall_eq, e_settled]
  refine h _ (fr_i (fr_l (fr_l (fr_w f sx_w) rfl) rfl) rfl) si_at ?_ ?_
  · simp [si2, sl2, a_frac, a_ft]
  · simp [si2, sl2, a_frac, a_fb]
theorem m_wrap {S : vSt} {K : Bool → vSt → Prop} {st : Int32} {q : Option (Int64 × Int64)} (h : a_MK S K (true, st, q)) : a_MK S (fun r S' => (r = false → K false S') ∧ (r = true → K true S')) (true, st, q) := fun S' a b c d => ⟨fun e => Bool.noConfusion e, fun _ => h S' a b c d⟩
