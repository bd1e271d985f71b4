/-! tests -/
def o_so (m : Nat → Int32) (g : aL) : Bool := if g.2.1 = 17 then decide (m (78 + a_n g.1) = 0) else if g.2.1 = 18 then decide (m (8 + a_n g.1) < 0) else if g.2.1 = 60 then decide (¬ g.2.2 ≤ m (8 + a_n g.1)) else if g.2.1 = 62 then decide (¬ m (8 + a_n g.1) ≤ g.2.2) else decide (m (8 + a_n g.1) = g.2.2)
theorem x_holds {b N : Nat} {W : aW} {S : vSt} {m0 : Nat → Int32} {ρ : aU} {g : aL} {K : Bool → vSt → Prop} (ok : a_oku m0 ρ) (lo : a_lok m0 16 g) (u : a_UX b N W S ρ) (h : K (o_so ρ.1 g) S) : p_X4_holds b S g.1 g.2.1 g.2.2 K := by
  obtain ⟨okm, hs, hn, eP, eD, hj⟩ := ok
  have h8 := ok_P8 okm
  have h10 := ok_D10 okm
  have lo : (∃ d, d < a_D m0 ∧ g = (nI d, 17, 0)) ∨ (∃ p, p < a_P m0 ∧ g = (nI p, 18, 0)) ∨ ∃ p q z, p < a_P m0 ∧ (q = 60 ∨ q = 61 ∨ q = 62) ∧ z ≤ 9999 ∧ g = (nI p, nI q, nI z) := lo
  unfold p_X4_holds
  rcases lo with ⟨d, hd, rfl⟩ | ⟨p, hp, rfl⟩ | ⟨p, q, z, hp, hq, hz, rfl⟩
  · have e1 : a_n (nI d) = d := a_n_nI (by omega)
    dsimp only
    refine ⟨fun _ => ?_, fun q => absurd q (by decide), fun q => absurd q (by decide), fun q => absurd q (by decide), fun q => absurd rfl q.1⟩
    rw [e_isOpen (by omega), R_78 u.1 (by omega) h10]
    unfold o_so at h
    simp only [e1, if_true] at h
    exact h
  · have e1 : a_n (nI p) = p := a_n_nI (by omega)
    dsimp only
    refine ⟨fun q => absurd q (by decide), fun _ => ?_, fun q => absurd q (by decide), fun q => absurd q (by decide), fun q => absurd rfl q.2.1⟩
    rw [e_isRuined (by omega), R_8 u.1 (by omega) h8]
    unfold o_so at h
    simp only [e1, show ¬ (18 : Int32) = 17 from by decide, if_true, if_false] at h
    exact h
  · have e1 : a_n (nI p) = p := a_n_nI (by omega)
    unfold o_so at h
    rcases hq with rfl | rfl | rfl
    · dsimp only
      refine ⟨fun q => absurd q (by decide), fun q => absurd q (by decide), fun _ => ?_, fun q => absurd q (by decide), fun q => absurd rfl q.2.2.1⟩
      rw [e_at (show p < 8 by omega) (by omega), R_8 u.1 (by omega) h8]
      simp only [e1, show ¬ nI 60 = 17 from by decide, show ¬ nI 60 = 18 from by decide, show (nI 60 = (60 : Int32)) ↔ True from iff_of_true rfl trivial, if_true, if_false] at h
      by_cases c : nI z ≤ ρ.1 (8 + p)
      · rw [decide_eq_false (fun w => w c)] at h
        exact ⟨fun _ => h, fun w => absurd c w⟩
      · rw [decide_eq_true c] at h
        exact ⟨fun w => absurd w c, fun _ => h⟩
    · dsimp only
      refine ⟨fun q => absurd q (by decide), fun q => absurd q (by decide), fun q => absurd q (by decide), fun q => absurd q (by decide), fun _ => ?_⟩
      rw [e_at (show p < 8 by omega) (by omega), R_8 u.1 (by omega) h8]
      simp only [e1, show ¬ nI 61 = 17 from by decide, show ¬ nI 61 = 18 from by decide, show ¬ nI 61 = 60 from by decide, show ¬ nI 61 = 62 from by decide, if_false] at h
      by_cases c : ρ.1 (8 + p) = nI z
      · rw [decide_eq_true c] at h
        exact ⟨fun w => absurd c w, fun _ => h⟩
      · rw [decide_eq_false c] at h
        exact ⟨fun _ => h, fun w => absurd w c⟩
    · dsimp only
      refine ⟨fun q => absurd q (by decide), fun q => absurd q (by decide), fun q => absurd q (by decide), fun _ => ?_, fun q => absurd rfl q.2.2.2⟩
      rw [e_at (show p < 8 by omega) (by omega), R_8 u.1 (by omega) h8]
      simp only [e1, show ¬ nI 62 = 17 from by decide, show ¬ nI 62 = 18 from by decide, show ¬ nI 62 = 60 from by decide, show (nI 62 = (62 : Int32)) ↔ True from iff_of_true rfl trivial, if_true, if_false] at h
      by_cases c : ρ.1 (8 + p) ≤ nI z
      · rw [decide_eq_false (fun w => w c)] at h
        exact ⟨fun _ => h, fun w => absurd c w⟩
      · rw [decide_eq_true c] at h
        exact ⟨fun w => absurd w c, fun _ => h⟩
theorem m_isSo {k : Nat} {S : vSt} {m0 : Nat → Int32} {ρ : aU} {g : aL} {y0 : Nat → Int32} {K : Bool → vSt → Prop} (hk : k < 30) (ok : a_oku m0 ρ) (lo : a_lok m0 16 g) (hy : ∀ f, f < 8 → m0 (110 + (9 * k + f)) = a_yr y0 k 16 g (9 * k + f)) (u : a_UM S ρ) (h : K (o_so ρ.1 g) S) : p_X11_isSo S (nI (110 + 9 * k)) K := by
  obtain ⟨okm, hs, hn, eP, eD, hj⟩ := ok
  have h8 := ok_P8 okm
  have h10 := ok_D10 okm
  have lo : (∃ d, d < a_D m0 ∧ g = (nI d, 17, 0)) ∨ (∃ p, p < a_P m0 ∧ g = (nI p, 18, 0)) ∨ ∃ p q z, p < a_P m0 ∧ (q = 60 ∨ q = 61 ∨ q = 62) ∧ z ≤ 9999 ∧ g = (nI p, nI q, nI z) := lo
  have cell : ∀ f, f < 8 → S.1 148 (110 + 9 * k + f) = a_yr y0 k 16 g (9 * k + f) := by
    intro f hf
    rw [M_0 u.1 (show 110 + 9 * k + f < 380 by omega), hj _ (by omega), show 110 + 9 * k + f = 110 + (9 * k + f) by omega]
    exact hy f hf
  have c1 := cell 1 (by omega)
  have c2 := cell 2 (by omega)
  have c6 := cell 6 (by omega)
  have c7 := cell 7 (by omega)
  have ea : ∀ f, nI (110 + 9 * k) + nI f = nI (110 + 9 * k + f) := fun f => nI_add _ _
  unfold p_X11_isSo
  rw [show (1 : Int32) = nI 1 from rfl, show (2 : Int32) = nI 2 from rfl, show (6 : Int32) = nI 6 from rfl, show (7 : Int32) = nI 7 from rfl]
  simp only [ea, ncl (show 110 + 9 * k + 1 < 2 ^ 31 by omega), ncl (show 110 + 9 * k + 2 < 2 ^ 31 by omega), ncl (show 110 + 9 * k + 6 < 2 ^ 31 by omega), ncl (show 110 + 9 * k + 7 < 2 ^ 31 by omega)]
  refine ⟨vpin ⟨by omega, by omega⟩, ?_⟩
  rintro _ rfl
  refine ⟨vpin ⟨by omega, by omega⟩, ?_⟩
  rintro _ rfl
  rw [c1, c2, c6, c7]
  rcases lo with ⟨d, hd, rfl⟩ | ⟨p, hp, rfl⟩ | ⟨p, q, z, hp, hq, hz, rfl⟩
  · have y1' : a_yr y0 k 16 (nI d, 17, 0) (9 * k + 1) = nI d := by simp [a_yr, a_set]
    have y6' : a_yr y0 k 16 (nI d, 17, 0) (9 * k + 6) = 0 := by simp [a_yr, a_set]
    have e1 : a_n (nI d) = d := a_n_nI (by omega)
    rw [y1', y6']
    simp only [show ¬ nI 2 ≤ (0 : Int32) from by decide, eq_self, reduceCtorEq, true_implies, false_implies, and_true, true_and, not_true_eq_false, not_false_eq_true]
    rw [e_mOpen (by omega), M_0 u.1 (by omega)]
    unfold o_so at h
    simp only [e1, if_true] at h
    exact h
  · have y1' : a_yr y0 k 16 (nI p, 18, 0) (9 * k + 1) = nI p := by simp [a_yr, a_set]
    have y6' : a_yr y0 k 16 (nI p, 18, 0) (9 * k + 6) = 1 := by simp [a_yr, a_set]
    have e1 : a_n (nI p) = p := a_n_nI (by omega)
    rw [y1', y6']
    simp only [show ¬ nI 2 ≤ (1 : Int32) from by decide, show ¬ (1 : Int32) = 0 from by decide, eq_self, reduceCtorEq, true_implies, false_implies, and_true, true_and, not_true_eq_false, not_false_eq_true]
    rw [e_mRuined (by omega), M_0 u.1 (by omega)]
    unfold o_so at h
    simp only [e1, show ¬ (18 : Int32) = 17 from by decide, if_true, if_false] at h
    exact h
  · have e1 : a_n (nI p) = p := a_n_nI (by omega)
    have n17 : ¬ nI q = 17 := fun w => by have := (nI_eq (a := q) (b := 17) (by omega) (by omega)).mp w; omega
    have n18 : ¬ nI q = 18 := fun w => by have := (nI_eq (a := q) (b := 18) (by omega) (by omega)).mp w; omega
    have y1' : a_yr y0 k 16 (nI p, nI q, nI z) (9 * k + 1) = nI p := by simp [a_yr, a_set, n17, n18]
    have y2' : a_yr y0 k 16 (nI p, nI q, nI z) (9 * k + 2) = nI z := by simp [a_yr, a_set, n17, n18]
    have y6' : a_yr y0 k 16 (nI p, nI q, nI z) (9 * k + 6) = 2 := by simp [a_yr, a_set, n17, n18]
    have y7' : a_yr y0 k 16 (nI p, nI q, nI z) (9 * k + 7) = nI q := by simp [a_yr, a_set, n17, n18]
    rw [y1', y2', y6', y7']
    simp only [show nI 2 ≤ (2 : Int32) from by decide, eq_self, reduceCtorEq, true_implies, false_implies, and_true, true_and, not_true_eq_false, not_false_eq_true]
    rw [show (8 : Int32) + nI p = nI (8 + p) from nI_add 8 p, ncl (by omega)]
    refine ⟨vpin ⟨by omega, by omega⟩, ?_⟩
    rintro _ rfl
    rw [M_0 u.1 (show 8 + p < 380 by omega)]
    have v2 : vp_in (nI (110 + 9 * k + 2)) 1900 := vpin ⟨by omega, by omega⟩
    have v7 : vp_in (nI (110 + 9 * k + 7)) 1900 := vpin ⟨by omega, by omega⟩
    unfold o_so at h
    rcases hq with rfl | rfl | rfl
    · simp only [e1, show ¬ nI 60 = 17 from by decide, show ¬ nI 60 = 18 from by decide, show (nI 60 = (60 : Int32)) ↔ True from iff_of_true rfl trivial, if_true, if_false] at h
      simp only [show (nI 60 = (60 : Int32)) ↔ True from iff_of_true rfl trivial, v2, v7, eq_self, reduceCtorEq, true_implies, false_implies, and_true, true_and, not_true_eq_false, not_false_eq_true]
      by_cases c : nI z ≤ ρ.1 (8 + p)
      · rw [decide_eq_false (fun w => w c)] at h
        exact ⟨fun _ => h, fun w => absurd c w⟩
      · rw [decide_eq_true c] at h
        exact ⟨fun w => absurd w c, fun _ => h⟩
    · simp only [e1, show ¬ nI 61 = 17 from by decide, show ¬ nI 61 = 18 from by decide, show ¬ nI 61 = 60 from by decide, show ¬ nI 61 = 62 from by decide, if_false] at h
      simp only [show ¬ nI 61 = (60 : Int32) from by decide, show ¬ nI 61 = (62 : Int32) from by decide, v2, v7, eq_self, reduceCtorEq, true_implies, false_implies, and_true, true_and, not_true_eq_false, not_false_eq_true]
      by_cases c : ρ.1 (8 + p) = nI z
      · rw [decide_eq_true c] at h
        exact ⟨fun w => absurd c w, fun _ => h⟩
      · rw [decide_eq_false c] at h
        exact ⟨fun _ => h, fun w => absurd w c⟩
    · simp only [e1, show ¬ nI 62 = 17 from by decide, show ¬ nI 62 = 18 from by decide, show ¬ nI 62 = 60 from by decide, show (nI 62 = (62 : Int32)) ↔ True from iff_of_true rfl trivial, if_true, if_false] at h
      simp only [show ¬ nI 62 = (60 : Int32) from by decide, show (nI 62 = (62 : Int32)) ↔ True from iff_of_true rfl trivial, v2, v7, eq_self, reduceCtorEq, true_implies, false_implies, and_true, true_and, not_true_eq_false, not_false_eq_true]
      by_cases c : ρ.1 (8 + p) ≤ nI z
      · rw [decide_eq_false (fun w => w c)] at h
        exact ⟨fun _ => h, fun w => absurd c w⟩
      · rw [decide_eq_true c] at h
        exact ⟨fun w => absurd w c, fun _ => h⟩
/-! one step of the class's run -/
theorem x_run_end {b N i p x : Nat} {a2 : Int32} {W : aW} {S : vSt} {ρ : aU} {K : vSt → Prop} (hb : b + 21 < 74) (hN : N ≤ 60) (hp : p < N) (hi : i < p) (hx : x < 1000000) (u : a_UX b N W S ρ) (w0 : W 0 p = 20) (w4 : W 4 p = nI i) (h0 : (W 0 i ≠ 19 ∨ ¬ 0 < S.1 (b + 21) i - 1) → p_X4_run_23 b a2 K (1000001 - (x + 1)) S (nI (p + 1)) (nI (x + 1))) (h1 : W 0 i = 19 → 0 < S.1 (b + 21) i - 1 → p_X4_run_23 b a2 K (1000001 - (x + 1)) (v_si S (b + 21) i (S.1 (b + 21) i - 1)) (nI (i + 1)) (nI (x + 1))) : p_X4_run_23 b a2 K (1000001 - x) S (nI p) (nI x) := by
  obtain ⟨u1, u2, u3, u4, u5, u6⟩ := u
  have n1 : ¬ 1000000 ≤ nI x := nI_ge (b := 1000000) hx (by omega)
  have n2 : ¬ nI N ≤ nI p := nI_ge hp (by omega)
  have e16 : ∀ q, q < 60 → S.1 (b + 16) q = W 0 q := fun q hq => u6 0 q (by omega) hq
  have e20 : S.1 (b + 20) p = nI i := (u6 4 p (by omega) (by omega)).trans w4
  rw [show 1000001 - x = (1000001 - (x + 1)) + 1 by omega, e_X4_run_23, u5]
  simp only [n1, n2, eq_self, reduceCtorEq, true_implies, false_implies, and_true, true_and, not_true_eq_false, not_false_eq_true]
  rw [e_at (show p < 60 by omega) (by omega), e16 p (by omega), w0]
  simp only [eq_self, reduceCtorEq, true_implies, false_implies, and_true, true_and, not_true_eq_false, not_false_eq_true]
  unfold p_X8_behindEnd p_X4_run_120
  rw [e_at (show p < 60 by omega) (by omega), e20, e_at (show i < 60 by omega) (by omega)]
  rintro _ rfl
  rw [e_at (show i < 60 by omega) (by omega), e16 i (by omega), nIs, nIs, nIs]
  by_cases c19 : W 0 i = 19
  · simp only [c19, eq_self, reduceCtorEq, true_implies, false_implies, and_true, true_and, not_true_eq_false, not_false_eq_true]
    by_cases c : 0 < S.1 (b + 21) i - 1
    · simp only [c, eq_self, reduceCtorEq, true_implies, false_implies, and_true, true_and, not_true_eq_false, not_false_eq_true]
      rw [e_put (show i < 60 by omega) (by omega)]
      rintro _ rfl
      exact h1 c19 c
    · simp only [c, eq_self, reduceCtorEq, true_implies, false_implies, and_true, true_and, not_true_eq_false, not_false_eq_true]
      rintro _ rfl
      exact h0 (Or.inr c)
  · simp only [c19, eq_self, reduceCtorEq, true_implies, false_implies, and_true, true_and, not_true_eq_false, not_false_eq_true]
    rintro _ rfl
    exact h0 (Or.inl c19)
theorem x_run_300 {b N i x w : Nat} {a2 : Int32} {W : aW} {S : vSt} {ρ : aU} {K : vSt → Prop} (hN : N ≤ 60) (hi : i < N) (hx : x < 1000000) (u : a_UX b N W S ρ) (w0 : W 0 i = nI w) (hw : w ≠ 20) (hw2 : w < 100) (h300 : ρ.2.2.1 = 300) (h : K (v_si S 75 4 1)) : p_X4_run_23 b a2 K (1000001 - x) S (nI i) (nI x) := by
  obtain ⟨u1, u2, u3, u4, u5, u6⟩ := u
  have n1 : ¬ 1000000 ≤ nI x := nI_ge (b := 1000000) hx (by omega)
  have n2 : ¬ nI N ≤ nI i := nI_ge hi (by omega)
  have e16 : S.1 (b + 16) i = nI w := (u6 0 i (by omega) (by omega)).trans w0
  have n20 : ¬ nI w = 20 := fun q => hw ((nI_eq (b := 20) (by omega) (by omega)).mp q)
  rw [show 1000001 - x = (1000001 - (x + 1)) + 1 by omega, e_X4_run_23, u5]
  simp only [n1, n2, eq_self, reduceCtorEq, true_implies, false_implies, and_true, true_and, not_true_eq_false, not_false_eq_true]
  rw [e_at (show i < 60 by omega) (by omega), e16]
  simp only [n20, eq_self, reduceCtorEq, true_implies, false_implies, and_true, true_and, not_true_eq_false, not_false_eq_true]
  rw [u3, h300]
  simp only [show ¬ nI 300 < 300 from by decide, eq_self, reduceCtorEq, true_implies, false_implies, and_true, true_and, not_true_eq_false, not_false_eq_true]
  show p_X10_put 75 5 S (nI 4) 1 _
  rw [e_put (show 4 < 5 by omega) (by omega)]
  exact h
theorem x_run_st {b N i x w : Nat} {a2 : Int32} {W : aW} {S : vSt} {ρ : aU} {K : vSt → Prop} (hN : N ≤ 60) (hi : i < N) (hx : x < 1000000) (u : a_UX b N W S ρ) (w0 : W 0 i = nI w) (hw : w ≠ 20) (hw2 : w < 100) (h300 : ρ.2.2.1 < 300) (h21 : w = 21 → K (v_si S 74 1 (nI (ρ.2.2.1 + 1)))) (h : w ≠ 21 → p_X4_doStep b (v_si S 74 1 (nI (ρ.2.2.1 + 1))) (nI w) (nI i) (fun r S' => p_X4_run_23 b a2 K (1000001 - (x + 1)) S' r (nI (x + 1)))) : p_X4_run_23 b a2 K (1000001 - x) S (nI i) (nI x) := by
  obtain ⟨u1, u2, u3, u4, u5, u6⟩ := u
  have n1 : ¬ 1000000 ≤ nI x := nI_ge (b := 1000000) hx (by omega)
  have n2 : ¬ nI N ≤ nI i := nI_ge hi (by omega)
  have e16 : S.1 (b + 16) i = nI w := (u6 0 i (by omega) (by omega)).trans w0
  have n20 : ¬ nI w = 20 := fun q => hw ((nI_eq (b := 20) (by omega) (by omega)).mp q)
  have e21 : nI w = 21 ↔ w = 21 := nI_eq (b := 21) (by omega) (by omega)
  have n3 : nI ρ.2.2.1 < 300 := nI_lt (b := 300) h300 (by omega)
  rw [show 1000001 - x = (1000001 - (x + 1)) + 1 by omega, e_X4_run_23, u5]
  simp only [n1, n2, eq_self, reduceCtorEq, true_implies, false_implies, and_true, true_and, not_true_eq_false, not_false_eq_true]
  rw [e_at (show i < 60 by omega) (by omega), e16]
  simp only [n20, eq_self, reduceCtorEq, true_implies, false_implies, and_true, true_and, not_true_eq_false, not_false_eq_true]
  rw [u3, e21, nIs]
  simp only [n3, eq_self, reduceCtorEq, true_implies, false_implies, and_true, true_and, not_true_eq_false, not_false_eq_true, forall_eq]
  unfold p_X4_run_120
  by_cases c : w = 21
  · simp only [c, eq_self, reduceCtorEq, true_implies, false_implies, and_true, true_and, not_true_eq_false, not_false_eq_true]
    exact h21 c
  · simp only [c, eq_self, reduceCtorEq, true_implies, false_implies, and_true, true_and, not_true_eq_false, not_false_eq_true, nIs, forall_eq]
    exact h c
