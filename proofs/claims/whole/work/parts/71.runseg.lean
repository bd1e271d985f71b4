/-! a segment's run, on both sides -/
def a_MS (h k t : Nat) (ρ ρ' : aU) : Prop := ∀ f fu S a1 (K : vSt → Prop), h ≤ f → t - k + 1 ≤ fu → a_UM S ρ → (∀ S', a_fr a_um S S' → a_UM S' ρ' → K S') → p_X11_doAll_2 a1 (nI t) (p_X11_doAll f) K fu S (nI k)
def a_CS (b N : Nat) (W : aW) (a2 : Int32) (i j : Nat) (ρ ρ' : aU) : Prop := ∀ S x (K : vSt → Prop), x + 200 * (300 - ρ.2.2.1) ≤ 100000 → a_UX b N W S ρ → (ρ'.2.2.2.2 = true → ∀ S', a_fr (a_uf b) S S' → a_UX b N W S' ρ' → K S') → (ρ'.2.2.2.2 = false → ∀ S' x', a_fr (a_uf b) S S' → (∀ l, l < i ∨ j ≤ l → S'.1 (b + 21) l = S.1 (b + 21) l) → a_UX b N W S' ρ' → x' ≤ x + 200 * (ρ'.2.2.1 - ρ.2.2.1) → p_X4_run_23 b a2 K (1000001 - x') S' (nI j) (nI x')) → p_X4_run_23 b a2 K (1000001 - x) S (nI i) (nI x)
def a_RS (m0 : Nat → Int32) (b N : Nat) (W : aW) (a2 : Int32) (h i k t j : Nat) : Prop := ∀ ρ, a_oku m0 ρ → ρ.2.2.2.2 = false → ∃ ρ', a_oku m0 ρ' ∧ ρ.2.2.1 ≤ ρ'.2.2.1 ∧ a_MS h k t ρ ρ' ∧ a_CS b N W a2 i j ρ ρ'
theorem UM_34 {S : vSt} {ρ : aU} (u : a_UM S ρ) : a_UM (v_si S 143 34 1) (ρ.1, ρ.2.1, ρ.2.2.1, ρ.2.2.2.1, true) := by
  obtain ⟨u1, u2, u3, u4, u5⟩ := u
  refine ⟨fun j hj => ?_, u2, u3, fun q hq => ?_, si_at⟩
  · rw [si1, if_neg (by omega)]; exact u1 j hj
  · rw [si1, if_neg (by omega)]; exact u4 q hq
theorem UM_35 {S : vSt} {ρ : aU} {n : Nat} (u : a_UM S ρ) : a_UM (v_si S 143 35 (nI n)) (ρ.1, ρ.2.1, n, ρ.2.2.2.1, ρ.2.2.2.2) := by
  obtain ⟨u1, u2, u3, u4, u5⟩ := u
  refine ⟨fun j hj => ?_, u2, si_at, fun q hq => ?_, u5⟩
  · rw [si1, if_neg (by omega)]; exact u1 j hj
  · rw [si1, if_neg (by omega)]; exact u4 q hq
theorem UX_741 {b N n : Nat} {W : aW} {S : vSt} {ρ : aU} (hb : b + 21 < 74) (u : a_UX b N W S ρ) : a_UX b N W (v_si S 74 1 (nI n)) (ρ.1, ρ.2.1, n, ρ.2.2.2.1, ρ.2.2.2.2) := by
  obtain ⟨u1, u2, u3, u4, u5, u6⟩ := u
  refine ⟨fun j hj => ?_, u2, si_at, fun q hq => ?_, ?_, fun c q hc hq => ?_⟩
  · have h1 : (a_xr j).1 ≤ 14 := (by decide +kernel : ∀ i, i < 108 → (a_xr i).1 ≤ 14) j (a_lv_lt hj)
    rw [si1, if_neg (fun w => by omega)]
    exact u1 j hj
  · rw [si1, if_neg (fun w => by omega)]; exact u4 q hq
  · rw [si1, if_neg (fun w => by omega)]; exact u5
  · rw [si1, if_neg (fun w => by omega)]; exact u6 c q hc hq
theorem UX_21 {b N l : Nat} {W : aW} {S : vSt} {ρ : aU} {z : Int32} (hb : b + 21 < 74) (u : a_UX b N W S ρ) : a_UX b N W (v_si S (b + 21) l z) ρ := by
  obtain ⟨u1, u2, u3, u4, u5, u6⟩ := u
  refine ⟨fun j hj => ?_, ?_, ?_, fun q hq => ?_, ?_, fun c q hc hq => ?_⟩
  · have h1 : (a_xr j).1 ≤ 14 := (by decide +kernel : ∀ i, i < 108 → (a_xr i).1 ≤ 14) j (a_lv_lt hj)
    rw [si1, if_neg (fun w => by omega)]
    exact u1 j hj
  · rw [si1, if_neg (fun w => by omega)]; exact u2
  · rw [si1, if_neg (fun w => by omega)]; exact u3
  · rw [si1, if_neg (fun w => by omega)]; exact u4 q hq
  · rw [si1, if_neg (fun w => by omega)]; exact u5
  · rw [si1, if_neg (fun w => by omega)]; exact u6 c q hc hq
/-! the model's loop over steps -/
theorem m_stop {S : vSt} {ρ : aU} {fu : Nat} {a1 : Int32} {t y : Int32} {rc : vSt → Int32 → Int32 → (vSt → Prop) → Prop} {K : vSt → Prop} (u : a_UM S ρ) (st : ρ.2.2.2.2 = true) (h : K S) : p_X11_doAll_2 a1 t rc K (fu + 1) S y := by
  have e := u.2.2.2.2
  rw [st, if_pos rfl] at e
  rw [e_X11_doAll_2, e]
  simp only [show ¬ (1 : Int32) = 0 from by decide, eq_self, reduceCtorEq, true_implies, false_implies, and_true, true_and, not_true_eq_false, not_false_eq_true]
  exact ⟨fun _ => h, fun _ => h⟩
theorem m_end {S : vSt} {fu : Nat} {a1 : Int32} {t : Int32} {rc : vSt → Int32 → Int32 → (vSt → Prop) → Prop} {K : vSt → Prop} (h : K S) : p_X11_doAll_2 a1 t rc K (fu + 1) S t := by
  rw [e_X11_doAll_2]
  simp only [Int32.le_refl, eq_self, reduceCtorEq, true_implies, false_implies, and_true, true_and, not_true_eq_false, not_false_eq_true]
  exact h
theorem m_one {S : vSt} {ρ : aU} {fu k t : Nat} {a1 : Int32} {rc : vSt → Int32 → Int32 → (vSt → Prop) → Prop} {K : vSt → Prop} (u : a_UM S ρ) (st : ρ.2.2.2.2 = false) (hk : k < t) (ht : t ≤ 30) (h : p_X11_doOne rc S (nI k) (fun S5 => vp_in (nI (110 + 9 * k + 8)) 1900 ∧ p_X11_doAll_2 a1 (nI t) rc K fu S5 (S5.1 148 (110 + 9 * k + 8)))) : p_X11_doAll_2 a1 (nI t) rc K (fu + 1) S (nI k) := by
  have e := u.2.2.2.2
  rw [st, if_neg (by decide)] at e
  have n1 : ¬ nI t ≤ nI k := nI_ge hk (by omega)
  have e8 : (110 : Int32) + 9 * nI k + 8 = nI (110 + 9 * k + 8) := by rw [show (9 : Int32) = nI 9 from rfl, pk_mul, show (110 : Int32) = nI 110 from rfl, nI_add, show (8 : Int32) = nI 8 from rfl, nI_add]
  rw [e_X11_doAll_2, e, e8, ncl (by omega)]
  simp only [n1, eq_self, reduceCtorEq, true_implies, false_implies, and_true, true_and, not_true_eq_false, not_false_eq_true, forall_eq]
  exact h
theorem m_nxt {S : vSt} {m0 : Nat → Int32} {ρ : aU} {k e : Nat} {X : Int32 → Prop} (hk : k < 30) (ok : a_oku m0 ρ) (u : a_UM S ρ) (e8 : m0 (110 + (9 * k + 8)) = nI e) (h : X (nI e)) : vp_in (nI (110 + 9 * k + 8)) 1900 ∧ X (S.1 148 (110 + 9 * k + 8)) := by
  refine ⟨vpin ⟨by omega, by omega⟩, ?_⟩
  rw [M_0 u.1 (show 110 + 9 * k + 8 < 380 by omega), ok.2.2.2.2.2 _ (by omega), show 110 + 9 * k + 8 = 110 + (9 * k + 8) by omega, e8]
  exact h
theorem m_nxs {k : Nat} {X : Prop} (hk : k < 30) (h : X) : vp_in (nI (110 + 9 * k + 8)) 1900 ∧ X := ⟨vpin ⟨by omega, by omega⟩, h⟩
/-- above 300 -/
theorem RS_300 {m0 : Nat → Int32} {b N h i k t j w : Nat} {W : aW} {a2 : Int32} {y : Nat → Int32} {g : aL} {ρ : aU} (hb : b + 21 < 74) (hN : N ≤ 60) (hi : i < N) (hk : k < t) (ht : t ≤ 30) (l : a_ln m0 W y i k w g) (ok : a_oku m0 ρ) (st : ρ.2.2.2.2 = false) (h300 : ρ.2.2.1 = 300) : ∃ ρ', a_oku m0 ρ' ∧ ρ.2.2.1 ≤ ρ'.2.2.1 ∧ a_MS h k t ρ ρ' ∧ a_CS b N W a2 i j ρ ρ' := by
  obtain ⟨hw, lo, w0, -⟩ := l
  have hw := of_decide_eq_true hw
  refine ⟨(ρ.1, ρ.2.1, ρ.2.2.1, a_set ρ.2.2.2.1 4 1, true), ok, Nat.le_refl _, ?_, ?_⟩
  · intro f fu S a1 K hf hfu u hK
    obtain ⟨fu, rfl⟩ : ∃ q, fu = q + 1 + 1 := ⟨fu - 2, by omega⟩
    refine m_one u st hk ht ?_
    unfold p_X11_doOne
    rw [u.2.2.1, h300]
    simp only [show nI 300 = (300 : Int32) from rfl, eq_self, reduceCtorEq, true_implies, false_implies, and_true, true_and, not_true_eq_false, not_false_eq_true, forall_eq]
    have u2 := UM_st (i := 4) (x := 1) (UM_34 u)
    refine m_nxs (k := k) (by omega) (m_stop u2 rfl (hK _ (fr_i (fr_i fr_r rfl) rfl) u2))
  · intro S x K hx u h1 h2
    refine x_run_300 hN hi (by omega) u w0 (by omega) (by omega) h300 (h1 rfl _ (fr_i fr_r (uf_t (by omega))) (UX_75 (i := 4) (x := 1) hb u))
/-- a simple step -/
theorem RS_1 {m0 : Nat → Int32} {b N h i k t j w : Nat} {W : aW} {a2 : Int32} {g : aL} (hb : b + 21 < 74) (hN : N ≤ 60) (hi : i < N) (hk : k < t) (ht : t ≤ 30) (l : a_ln m0 W (fun j => m0 (110 + j)) i k w g) (o : a_ope w = false) (e8 : m0 (110 + (9 * k + 8)) = nI (k + 1)) (ih : a_RS m0 b N W a2 h (i + 1) (k + 1) t j) : a_RS m0 b N W a2 h i k t j := by
  intro ρ ok st
  obtain ⟨hw, lo, w0, w1, w2, w3, y0, hy⟩ := id l
  by_cases h300 : ρ.2.2.1 = 300
  · exact RS_300 hb hN hi hk ht l ok st h300
  have hwc := of_decide_eq_true hw
  have hoc := of_decide_eq_false o
  have hn : ρ.2.2.1 < 300 := by have := ok.2.2.1; omega
  have ok1 : a_oku m0 (ρ.1, ρ.2.1, ρ.2.2.1 + 1, ρ.2.2.2.1, ρ.2.2.2.2) := ⟨ok.1, ok.2.1, hn, ok.2.2.2.1, ok.2.2.2.2.1, ok.2.2.2.2.2⟩
  have e9 : (110 : Int32) + 9 * nI k = nI (110 + 9 * k) := by rw [show (9 : Int32) = nI 9 from rfl, pk_mul, show (110 : Int32) = nI 110 from rfl, nI_add]
  have ne300 : ¬ nI ρ.2.2.1 = 300 := fun q => h300 ((nI_eq (b := 300) (by omega) (by omega)).mp q)
  have cell : ∀ S ρ', a_UM S ρ' → a_oku m0 ρ' → S.1 148 (110 + 9 * k) = a_yr y0 k w g (9 * k) := by
    intro S ρ' u ok'
    have := hy 0 (by omega)
    rw [Nat.add_zero] at this
    rw [M_0 u.1 (show 110 + 9 * k < 380 by omega), ok'.2.2.2.2.2 _ (by omega)]
    exact this
  by_cases h21 : w = 21
  · refine ⟨(ρ.1, ρ.2.1, ρ.2.2.1 + 1, ρ.2.2.2.1, true), ok1, by show ρ.2.2.1 ≤ ρ.2.2.1 + 1; omega, ?_, ?_⟩
    · intro f fu S a1 K hf hfu u hK
      obtain ⟨fu, rfl⟩ : ∃ q, fu = q + 1 + 1 := ⟨fu - 2, by omega⟩
      refine m_one u st hk ht ?_
      unfold p_X11_doOne
      have u1 := UM_35 (n := ρ.2.2.1 + 1) u
      rw [u.2.2.1, e9, nIs]
      simp only [ne300, eq_self, reduceCtorEq, true_implies, false_implies, and_true, true_and, not_true_eq_false, not_false_eq_true, forall_eq, ncl (show 110 + 9 * k < 2 ^ 31 by omega)]
      refine ⟨vpin ⟨by omega, by omega⟩, ?_⟩
      have y6 : a_yr y0 k 21 g (9 * k) = 6 := by simp [a_yr, a_set]
      rw [cell _ _ u1 ok1, h21, y6]
      unfold p_X11_doOne_108
      simp only [show 4 ≤ (6 : Int32) from by decide, show ¬ (6 : Int32) = 4 from by decide, show ¬ (6 : Int32) = 5 from by decide, show ¬ (6 : Int32) ≤ 5 from by decide, eq_self, reduceCtorEq, true_implies, false_implies, and_true, true_and, not_true_eq_false, not_false_eq_true, forall_eq]
      have u2 := UM_34 u1
      exact m_nxs (k := k) (by omega) (m_stop u2 rfl (hK _ (fr_i (fr_i fr_r rfl) rfl) u2))
    · intro S x K hx u h1 h2
      refine x_run_st hN hi (by omega) u w0 (by omega) (by omega) hn (fun _ => h1 rfl _ (fr_i fr_r (uf_t (by omega))) (UX_741 hb u)) (fun q => absurd h21 q)
  · obtain ⟨ok2, n2, s2⟩ := ok_do ok1 hw o h21 lo
    simp only at n2 s2
    obtain ⟨ρ', okr, hnr, MS, CS⟩ := ih _ ok2 (s2.trans st)
    rw [n2] at hnr
    refine ⟨ρ', okr, by omega, ?_, ?_⟩
    · intro f fu S a1 K hf hfu u hK
      obtain ⟨fu, rfl⟩ : ∃ q, fu = q + 1 := ⟨fu - 1, by omega⟩
      refine m_one u st hk ht ?_
      unfold p_X11_doOne
      have u1 := UM_35 (n := ρ.2.2.1 + 1) u
      have f1 : a_fr a_um S (v_si S 143 35 (nI (ρ.2.2.1 + 1))) := fr_i fr_r rfl
      rw [u.2.2.1, e9, nIs]
      simp only [ne300, eq_self, reduceCtorEq, true_implies, false_implies, and_true, true_and, not_true_eq_false, not_false_eq_true, forall_eq, ncl (show 110 + 9 * k < 2 ^ 31 by omega)]
      refine ⟨vpin ⟨by omega, by omega⟩, ?_⟩
      generalize (v_si S 143 35 (nI (ρ.2.2.1 + 1))) = S1 at u1 f1
      rw [cell _ _ u1 ok1]
      have n4 : ¬ 4 ≤ a_yr y0 k w g (9 * k) := by
        have cs : w = 11 ∨ w = 12 ∨ w = 14 ∨ w = 15 := by omega
        rcases cs with rfl | rfl | rfl | rfl
        · rw [show a_yr y0 k 11 g (9 * k) = 0 from by simp [a_yr, a_set]]; decide
        · rw [show a_yr y0 k 12 g (9 * k) = 1 from by simp [a_yr, a_set]]; decide
        · rw [show a_yr y0 k 14 g (9 * k) = 2 from by simp [a_yr, a_set]]; decide
        · rw [show a_yr y0 k 15 g (9 * k) = 3 from by simp [a_yr, a_set]]; decide
      simp only [n4, eq_self, reduceCtorEq, true_implies, false_implies, and_true, true_and, not_true_eq_false, not_false_eq_true]
      -- and on
      have go : ∀ S5, a_fr a_um S S5 → a_UM S5 (o_do (ρ.1, ρ.2.1, ρ.2.2.1 + 1, ρ.2.2.2.1, ρ.2.2.2.2) w g) → vp_in (nI (110 + 9 * k + 8)) 1900 ∧ p_X11_doAll_2 a1 (nI t) (p_X11_doAll f) K fu S5 (S5.1 148 (110 + 9 * k + 8)) := fun S5 f5 u5 => m_nxt (X := fun y => p_X11_doAll_2 a1 (nI t) (p_X11_doAll f) K fu S5 y) (k := k) (by omega) ok2 u5 e8 (MS f fu S5 a1 K hf (by omega) u5 (fun S' f' u' => hK S' (fr_t f5 f') u'))
      refine m_do (by omega) ok1 hw o h21 lo hy u1 (fun S' ρ2 f' u' e36 eo => ?_) (fun S' f' u' e36 => ?_)
      · simp only [eq_self, reduceCtorEq, true_implies, false_implies, and_true, true_and, not_true_eq_false, not_false_eq_true, forall_eq]
        rw [← e36, u'.2.2.2.1 0 (by omega)]
        refine go _ (fr_i (fr_t f1 f') (show a_um 143 36 = true from rfl)) ?_
        rw [eo]
        exact UM_st (i := 0) u'
      · simp only [eq_self, reduceCtorEq, true_implies, false_implies, and_true, true_and, not_true_eq_false, not_false_eq_true, forall_eq]
        rw [← e36, Int32.add_zero, si_self]
        exact go _ (fr_t f1 f') u'
    · intro S x K hx u h1 h2
      refine x_run_st hN hi (by omega) u w0 (by omega) (by omega) hn (fun q => absurd q h21) (fun _ => ?_)
      have u1 := UX_741 (n := ρ.2.2.1 + 1) hb u
      have f1 : a_fr (a_uf b) S (v_si S 74 1 (nI (ρ.2.2.1 + 1))) := fr_i fr_r (uf_t (by omega))
      refine x_do hb (by omega) ok1 hw o h21 lo w1 w2 w3 u1 (fun S' f' b' u' => ?_)
      have b1 : ∀ l, S'.1 (b + 21) l = S.1 (b + 21) l := fun l => by
        rw [b', si1, if_neg (by omega)]
      refine CS S' (x + 1) K (by rw [n2]; omega) u' (fun q S2 f2 u2 => h1 q S2 (fr_t (fr_t f1 f') f2) u2) (fun q S2 x' f2 l2 u2 hx' => h2 q S2 x' (fr_t (fr_t f1 f') f2) (fun l hl => (l2 l (by omega)).trans (b1 l)) u2 (by rw [n2] at hx'; omega))
