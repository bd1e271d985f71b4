/-! fractions, told and compared crosswise -/
def b_fr (T B : Int64) (z : Int) (u : Nat) : Prop := T = lI z / lN (Nat.gcd z.natAbs u) ∧ B = lN u / lN (Nat.gcd z.natAbs u)
def b_sm (z : Int) : Prop := -(2 ^ 37) ≤ z ∧ z ≤ 2 ^ 37
theorem b_qt {z t : Int} {g : Nat} (h0 : 0 < g) (hg : g < 2 ^ 40) (e : t * (g : Int) = z) (hz : a_fit z) : lI z / lN g = lI t := by
  have ea : t.natAbs * g = z.natAbs := by rw [← e, Int.natAbs_mul, Int.natAbs_natCast]
  have le : t.natAbs ≤ t.natAbs * g := Nat.le_mul_of_pos_right _ h0
  have ft : a_fit t := by unfold a_fit at hz ⊢; omega
  have eg : (lN g).toInt = (g : Int) := by rw [lI_N]; exact lI_toInt (by unfold a_fit; omega)
  have n1 : lN g ≠ -1 := fun w => by
    rw [w] at eg
    have : (-1 : Int64).toInt = -1 := by decide
    omega
  rw [← Int64.toInt_inj, Int64.toInt_div_of_ne_right _ _ n1, lI_toInt hz, eg, lI_toInt ft, ← e]
  exact Int.mul_tdiv_cancel t (by omega)
/-- what is told, without the common divisor -/
theorem b_rep {T B : Int64} {z : Int} {u : Nat} (h : b_fr T B z u) (hz : a_fit z) (h0 : 0 < u) (hu : u < 2 ^ 40) : ∃ (t : Int) (b g : Nat), T = lI t ∧ B = lN b ∧ 0 < g ∧ 0 < b ∧ t * (g : Int) = z ∧ b * g = u ∧ t.natAbs ≤ z.natAbs ∧ b ≤ u := by
  obtain ⟨hT, hB⟩ := h
  have g0 : 0 < Nat.gcd z.natAbs u := Nat.gcd_pos_of_pos_right _ h0
  have gu : Nat.gcd z.natAbs u ≤ u := Nat.le_of_dvd h0 (Nat.gcd_dvd_right _ _)
  have d1 : ((Nat.gcd z.natAbs u : Nat) : Int) ∣ z := Int.ofNat_dvd_left.mpr (Nat.gcd_dvd_left z.natAbs u)
  have d2 := Nat.gcd_dvd_right z.natAbs u
  obtain ⟨g, hg⟩ : ∃ g, g = Nat.gcd z.natAbs u := ⟨_, rfl⟩
  rw [← hg] at hT hB g0 gu d1 d2
  obtain ⟨t, ht⟩ := d1
  obtain ⟨b, hb⟩ := d2
  have e1 : t * (g : Int) = z := by rw [ht, Int.mul_comm]
  have e2 : b * g = u := by rw [hb, Nat.mul_comm]
  have ea : t.natAbs * g = z.natAbs := by rw [← e1, Int.natAbs_mul, Int.natAbs_natCast]
  have le : t.natAbs ≤ t.natAbs * g := Nat.le_mul_of_pos_right _ g0
  have le2 : b ≤ b * g := Nat.le_mul_of_pos_right _ g0
  have b0 : 0 < b := by
    rcases Nat.eq_zero_or_pos b with q | q
    · rw [q, Nat.zero_mul] at e2; omega
    · exact q
  have e3 : (b : Int) * (g : Int) = (u : Int) := by rw [← Int.natCast_mul, e2]
  refine ⟨t, b, g, hT.trans (b_qt g0 (by omega) e1 hz), ?_, g0, b0, e1, e2, by omega, by omega⟩
  rw [hB, lI_N u, b_qt g0 (by omega) e3 (by unfold a_fit; omega), lI_N]
theorem b_sgn {t z : Int} {g : Nat} (h0 : 0 < g) (e : t * (g : Int) = z) : (0 < t ∧ 0 < z) ∨ (t = 0 ∧ z = 0) ∨ (t < 0 ∧ z < 0) := by
  rcases Int.lt_trichotomy t 0 with c | c | c
  · exact Or.inr (Or.inr ⟨c, e ▸ Int.mul_neg_of_neg_of_pos c (by omega)⟩)
  · subst c
    rw [Int.zero_mul] at e
    exact Or.inr (Or.inl ⟨rfl, e.symm⟩)
  · exact Or.inl ⟨c, e ▸ Int.mul_pos c (by omega)⟩
theorem sm_fit {z : Int} (h : b_sm z) : a_fit z := by unfold b_sm at h; unfold a_fit; omega
theorem b_le0 {T B : Int64} {z : Int} {u : Nat} (h : b_fr T B z u) (s : b_sm z) (h0 : 0 < u) (hu : u ≤ 2 ^ 23) : (T ≤ 0 ↔ z ≤ 0) ∧ (T < 0 ↔ z < 0) := by
  obtain ⟨t, b, g, rfl, -, g0, -, e1, -, l1, -⟩ := b_rep h (sm_fit s) h0 (by omega)
  have ft : a_fit t := by unfold b_sm at s; unfold a_fit; omega
  have := b_sgn g0 e1
  rw [lI_0, lI_le ft fit_0, lI_lt ft fit_0]
  omega
theorem prod_fit {t : Int} {b : Nat} (h1 : t.natAbs ≤ 2 ^ 38) (h2 : b ≤ 2 ^ 23) : a_fit (t * (b : Int)) := by
  have e : (t * (b : Int)).natAbs = t.natAbs * b := by rw [Int.natAbs_mul, Int.natAbs_natCast]
  have m : t.natAbs * b ≤ 2 ^ 38 * 2 ^ 23 := Nat.mul_le_mul h1 h2
  unfold a_fit
  omega
theorem b_cmp {T1 B1 T2 B2 : Int64} {z1 z2 : Int} {u1 u2 : Nat} (h1 : b_fr T1 B1 z1 u1) (h2 : b_fr T2 B2 z2 u2) (s1 : b_sm z1) (s2 : b_sm z2) (p1 : 0 < u1) (p2 : 0 < u2) (c1 : u1 ≤ 2 ^ 23) (c2 : u2 ≤ 2 ^ 23) (h : z1 * (u2 : Int) ≤ z2 * (u1 : Int)) : T1 * B2 ≤ T2 * B1 := by
  obtain ⟨t1, b1, g1, rfl, rfl, q1, r1, e1, f1, l1, k1⟩ := b_rep h1 (sm_fit s1) p1 (by omega)
  obtain ⟨t2, b2, g2, rfl, rfl, q2, r2, e2, f2, l2, k2⟩ := b_rep h2 (sm_fit s2) p2 (by omega)
  have fa : a_fit (t1 * (b2 : Int)) := prod_fit (by unfold b_sm at s1; omega) (by omega)
  have fb : a_fit (t2 * (b1 : Int)) := prod_fit (by unfold b_sm at s2; omega) (by omega)
  rw [lI_N b2, lI_N b1, lI_mul, lI_mul, lI_le fa fb]
  have G : (0 : Int) < (g1 : Int) * (g2 : Int) := Int.mul_pos (by omega) (by omega)
  refine Int.le_of_mul_le_mul_right ?_ G
  have a1 : t1 * (b2 : Int) * ((g1 : Int) * (g2 : Int)) = z1 * (u2 : Int) := by
    rw [← e1, ← f2, Int.natCast_mul]
    ac_rfl
  have a2 : t2 * (b1 : Int) * ((g1 : Int) * (g2 : Int)) = z2 * (u1 : Int) := by
    rw [← e2, ← f1, Int.natCast_mul]
    ac_rfl
  rw [a1, a2]
  exact h
/-- won and owed together are no more than all -/
theorem b_owe {T1 B1 T2 B2 : Int64} {w o u : Nat} (h1 : b_fr T1 B1 (w : Int) u) (h2 : b_fr T2 B2 (o : Int) u) (p1 : 0 < u) (c1 : u ≤ 2 ^ 23) (h : w + o ≤ u) : T2 * B1 ≤ (B1 - T1) * B2 := by
  have s1 : b_sm (w : Int) := by unfold b_sm; omega
  have s2 : b_sm (o : Int) := by unfold b_sm; omega
  obtain ⟨t1, b1, g1, rfl, rfl, q1, r1, e1, f1, l1, k1⟩ := b_rep h1 (sm_fit s1) p1 (by omega)
  obtain ⟨t2, b2, g2, rfl, rfl, q2, r2, e2, f2, l2, k2⟩ := b_rep h2 (sm_fit s2) p1 (by omega)
  have fa : a_fit (t2 * (b1 : Int)) := prod_fit (by omega) (by omega)
  have fb : a_fit (((b1 : Int) - t1) * (b2 : Int)) := prod_fit (by omega) (by omega)
  rw [lI_N b1, lI_N b2, lI_sub, lI_mul, lI_mul, lI_le fa fb]
  have G : (0 : Int) < (g1 : Int) * (g2 : Int) := Int.mul_pos (by omega) (by omega)
  refine Int.le_of_mul_le_mul_right ?_ G
  have f1' : (b1 : Int) * (g1 : Int) = (u : Int) := by rw [← Int.natCast_mul, f1]
  have f2' : (b2 : Int) * (g2 : Int) = (u : Int) := by rw [← Int.natCast_mul, f2]
  have a1 : t2 * (b1 : Int) * ((g1 : Int) * (g2 : Int)) = (o : Int) * (u : Int) := by
    rw [← e2, ← f1']
    ac_rfl
  have a2 : ((b1 : Int) - t1) * (b2 : Int) * ((g1 : Int) * (g2 : Int)) = ((u : Int) - (w : Int)) * (u : Int) := by
    have : ((b1 : Int) - t1) * (g1 : Int) = (u : Int) - (w : Int) := by rw [Int.sub_mul, f1', e1]
    have e : ((b1 : Int) - t1) * (b2 : Int) * ((g1 : Int) * (g2 : Int)) = (((b1 : Int) - t1) * (g1 : Int)) * ((b2 : Int) * (g2 : Int)) := by ac_rfl
    rw [e, this, f2']
  rw [a1, a2]
  exact Int.mul_le_mul_of_nonneg_right (by omega) (by omega)
/-- no more than so many wholes -/
theorem b_low {T B : Int64} {z : Int} {u lo : Nat} (h : b_fr T B z u) (s : b_sm z) (p : 0 < u) (c : u ≤ 2 ^ 23) (hl : lo ≤ 1000) (hz : z ≤ ((lo * u : Nat) : Int)) : T ≤ (nI lo).toInt64 * B := by
  obtain ⟨t, b, g, rfl, rfl, q, r, e, f, l, k⟩ := b_rep h (sm_fit s) p (by omega)
  have ft : a_fit t := by unfold b_sm at s; unfold a_fit; omega
  have fb : a_fit ((lo : Int) * (b : Int)) := prod_fit (by omega) (by omega)
  rw [nI_lI (by omega), lI_N, lI_mul, lI_le ft fb]
  refine Int.le_of_mul_le_mul_right ?_ (show (0 : Int) < (g : Int) by omega)
  rw [e, Int.mul_assoc, ← Int.natCast_mul b g, f, ← Int.natCast_mul]
  exact hz
