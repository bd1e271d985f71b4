/-! a loop -/
theorem m_116_stop {S : vSt} {ρ : aU} {fu : Nat} {a1 x2 x4 : Int32} {rc : vSt → Int32 → Int32 → (vSt → Prop) → Prop} {K : vSt → Prop} (u : a_UM S ρ) (st : ρ.2.2.2.2 = true) (v : vp_in (x2 + 1) 1900) (h : K S) : p_X11_doOne_116 a1 rc K (fu + 1) S x2 x4 := by
  have e := u.2.2.2.2
  rw [st, if_pos rfl] at e
  rw [e_X11_doOne_116, e]
  simp only [show ¬ (1 : Int32) = 0 from by decide, eq_self, reduceCtorEq, true_implies, false_implies, and_true, true_and, not_true_eq_false, not_false_eq_true]
  exact ⟨v, fun _ => h, fun _ => h⟩
theorem lp_run {m0 : Nat → Int32} {b N h i k p e z : Nat} {W : aW} {a2 : Int32} (hb : b + 21 < 74) (hN : N ≤ 60) (hip : i + 1 ≤ p) (hp : p < N) (hke : k + 1 ≤ e) (he : e ≤ 30) (hz : z ≤ 99) (wi : W 0 i = 19) (e1 : m0 (110 + (9 * k + 1)) = nI z) (e8 : m0 (110 + (9 * k + 8)) = nI e) (wp0 : W 0 p = 20) (wp4 : W 4 p = nI i) (ih : a_RS m0 b N W a2 h (i + 1) (k + 1) e p) : ∀ r, 1 ≤ r → r ≤ z → ∀ ρ, a_oku m0 ρ → ρ.2.2.2.2 = false → ∃ ρ', a_oku m0 ρ' ∧ ρ.2.2.1 ≤ ρ'.2.2.1 ∧
    (∀ f fu S (K : vSt → Prop) c, h ≤ f → r + 1 ≤ fu → c + r = z → a_UM S ρ → (∀ S', a_fr a_um S S' → a_UM S' ρ' → K S') → p_X11_doOne_116 (nI k) (p_X11_doAll (f + 1)) K fu S (nI (110 + 9 * k)) (nI c)) ∧
    (∀ S x (K : vSt → Prop), x + r + 200 * (300 - ρ.2.2.1) ≤ 100000 → a_UX b N W S ρ → S.1 (b + 21) i = nI r → (ρ'.2.2.2.2 = true → ∀ S', a_fr (a_uf b) S S' → a_UX b N W S' ρ' → K S') → (ρ'.2.2.2.2 = false → ∀ S' x', a_fr (a_uf b) S S' → (∀ l, l < i ∨ p + 1 ≤ l → S'.1 (b + 21) l = S.1 (b + 21) l) → a_UX b N W S' ρ' → x' ≤ x + r + 200 * (ρ'.2.2.1 - ρ.2.2.1) → p_X4_run_23 b a2 K (1000001 - x') S' (nI (p + 1)) (nI x')) → p_X4_run_23 b a2 K (1000001 - x) S (nI (i + 1)) (nI x))
  | 0, h0, _, _, _, _ => absurd h0 (by omega)
  | r + 1, _, hr, ρ, ok, st => by
    have ek : nI (110 + 9 * k) + 1 = nI (110 + 9 * k + 1) := nI_add _ 1
    have ek8 : nI (110 + 9 * k) + 8 = nI (110 + 9 * k + 8) := nI_add _ 8
    have v1 : vp_in (nI (110 + 9 * k) + 1) 1900 := by rw [ek]; exact vpin ⟨by omega, by omega⟩
    have v8 : vp_in (nI (110 + 9 * k) + 8) 1900 := by rw [ek8]; exact vpin ⟨by omega, by omega⟩
    have cell1 : ∀ S ρ, a_UM S ρ → a_oku m0 ρ → S.1 148 (Int32.toNatClampNeg (nI (110 + 9 * k) + 1)) = nI z := by
      intro S ρ u ok
      rw [ek, ncl (by omega), M_0 u.1 (by omega), ok.2.2.2.2.2 _ (by omega)]
      exact e1
    have cell8 : ∀ S ρ, a_UM S ρ → a_oku m0 ρ → S.1 148 (Int32.toNatClampNeg (nI (110 + 9 * k) + 8)) = nI e := by
      intro S ρ u ok
      rw [ek8, ncl (by omega), M_0 u.1 (by omega), ok.2.2.2.2.2 _ (by omega)]
      exact e8
    -- one round of the model
    have mr : ∀ f fu S c (K : vSt → Prop), c + (r + 1) = z → a_UM S ρ → (p_X11_doAll (f + 1) S (nI (k + 1)) (nI e) (fun S22 => p_X11_doOne_116 (nI k) (p_X11_doAll (f + 1)) K fu S22 (nI (110 + 9 * k)) (nI (c + 1)))) → p_X11_doOne_116 (nI k) (p_X11_doAll (f + 1)) K (fu + 1) S (nI (110 + 9 * k)) (nI c) := by
      intro f fu S c K hc u hh
      have e34 := u.2.2.2.2
      rw [st, if_neg (by decide)] at e34
      have n1 : ¬ nI z ≤ nI c := nI_ge (by omega) (by omega)
      rw [e_X11_doOne_116, cell1 S ρ u ok, cell8 S ρ u ok, e34, nIs]
      simp only [n1, eq_self, reduceCtorEq, true_implies, false_implies, and_true, true_and, not_true_eq_false, not_false_eq_true, forall_eq, nIs]
      exact ⟨vpin ⟨by omega, by omega⟩, v8, hh⟩
    obtain ⟨ρ1, okb, hnb, MSb, CSb⟩ := ih ρ ok st
    have on := okb.2.2.1
    cases s1 : ρ1.2.2.2.2
    · -- the last round, or one more
      by_cases r0 : r = 0
      · subst r0
        refine ⟨ρ1, okb, hnb, ?_, ?_⟩
        · intro f fu S K c hf hfu hc u hK
          obtain ⟨fu, rfl⟩ : ∃ q, fu = q + 1 + 1 := ⟨fu - 2, by omega⟩
          refine mr f (fu + 1) S c K hc u (e_call ⟨e - (k + 1) + 1, MSb f _ S _ _ hf (Nat.le_refl _) u (fun S2 f2 u2 => ?_)⟩)
          have hc : c + 1 = z := by omega
          rw [e_X11_doOne_116, cell1 S2 ρ1 u2 okb, hc]
          simp only [Int32.le_refl, eq_self, reduceCtorEq, true_implies, false_implies, and_true, true_and, not_true_eq_false, not_false_eq_true]
          exact ⟨v1, hK S2 f2 u2⟩
        · intro S x K hx u rl h1 h2
          refine CSb S x K (by omega) u (fun q => by rw [s1] at q; cases q) (fun _ S2 x2 f2 l2 u2 hx2 => ?_)
          have rl2 : S2.1 (b + 21) i = 1 := (l2 i (by omega)).trans rl
          refine x_run_end hb hN hp (by omega) (by omega) u2 wp0 wp4 (fun _ => ?_) (fun _ q => ?_)
          · exact h2 s1 S2 (x2 + 1) f2 (fun l hl => l2 l (by omega)) u2 (by omega)
          · rw [rl2] at q
            exact absurd q (by decide)
      · obtain ⟨ρ', okr, hnr, Ml, Cl⟩ := lp_run hb hN hip hp hke he hz wi e1 e8 wp0 wp4 ih r (by omega) (by omega) ρ1 okb s1
        refine ⟨ρ', okr, by omega, ?_, ?_⟩
        · intro f fu S K c hf hfu hc u hK
          obtain ⟨fu, rfl⟩ : ∃ q, fu = q + 1 := ⟨fu - 1, by omega⟩
          refine mr f fu S c K hc u (e_call ⟨e - (k + 1) + 1, MSb f _ S _ _ hf (Nat.le_refl _) u (fun S2 f2 u2 => ?_)⟩)
          exact Ml f fu S2 K (c + 1) hf (by omega) (by omega) u2 (fun S' f' u' => hK S' (fr_t f2 f') u')
        · intro S x K hx u rl h1 h2
          refine CSb S x K (by omega) u (fun q => by rw [s1] at q; cases q) (fun _ S2 x2 f2 l2 u2 hx2 => ?_)
          have rl2 : S2.1 (b + 21) i = nI (r + 1) := (l2 i (by omega)).trans rl
          have es : S2.1 (b + 21) i - 1 = nI r := by
            rw [rl2, show (1 : Int32) = nI 1 from rfl, pk_sub (by omega)]
            rfl
          refine x_run_end hb hN hp (by omega) (by omega) u2 wp0 wp4 (fun q => ?_) (fun _ _ => ?_)
          · rcases q with q | q
            · exact absurd wi q
            · rw [es] at q
              exact absurd (nI_lt (a := 0) (b := r) (by omega) (by omega)) q
          · rw [es]
            have u3 := UX_21 (l := i) (z := nI r) hb u2
            have f3 : a_fr (a_uf b) S2 (v_si S2 (b + 21) i (nI r)) := fr_i fr_r (uf_t (by omega))
            refine Cl _ (x2 + 1) K (by omega) u3 si_at (fun q S4 f4 u4 => h1 q S4 (fr_t f2 (fr_t f3 f4)) u4) (fun q S4 x' f4 l4 u4 hx' => h2 q S4 x' (fr_t f2 (fr_t f3 f4)) (fun l hl => (l4 l (by omega)).trans ?_) u4 (by omega))
            rw [si1, if_neg (by omega)]
            exact l2 l (by omega)
    · -- over within
      refine ⟨ρ1, okb, hnb, ?_, ?_⟩
      · intro f fu S K c hf hfu hc u hK
        obtain ⟨fu, rfl⟩ : ∃ q, fu = q + 1 + 1 := ⟨fu - 2, by omega⟩
        refine mr f (fu + 1) S c K hc u (e_call ⟨e - (k + 1) + 1, MSb f _ S _ _ hf (Nat.le_refl _) u (fun S2 f2 u2 => ?_)⟩)
        exact m_116_stop u2 s1 v1 (hK S2 f2 u2)
      · intro S x K hx u rl h1 h2
        exact CSb S x K (by omega) u (fun q S2 f2 u2 => h1 q S2 f2 u2) (fun q => by rw [s1] at q; cases q)
theorem RS_loop {m0 : Nat → Int32} {b N h i k p e t j : Nat} {W : aW} {a2 : Int32} {g : aL} (hb : b + 21 < 74) (hN : N ≤ 60) (hip : i + 1 ≤ p) (hpj : p + 1 ≤ j) (hj : j ≤ N) (hke : k + 1 ≤ e) (het : e ≤ t) (ht : t ≤ 30) (l : a_ln m0 W (fun j => m0 (110 + j)) i k 19 g) (e8 : m0 (110 + (9 * k + 8)) = nI e) (wp0 : W 0 p = 20) (wp4 : W 4 p = nI i) (ih1 : a_RS m0 b N W a2 h (i + 1) (k + 1) e p) (ih2 : a_RS m0 b N W a2 (h + 1) (p + 1) e t j) : a_RS m0 b N W a2 (h + 1) i k t j := by
  intro ρ ok st
  obtain ⟨hw, lo, w0, w1, w2, w3, y0, hy⟩ := id l
  by_cases h300 : ρ.2.2.1 = 300
  · exact RS_300 hb hN (by omega) (by omega) ht l ok st h300
  have lo : ∃ z, 1 ≤ z ∧ z ≤ 99 ∧ g = (-1, -1, nI z) := lo
  obtain ⟨z, hz1, hz2, rfl⟩ := lo
  have hn : ρ.2.2.1 < 300 := by have := ok.2.2.1; omega
  have ok1 : a_oku m0 (ρ.1, ρ.2.1, ρ.2.2.1 + 1, ρ.2.2.2.1, ρ.2.2.2.2) := ⟨ok.1, ok.2.1, hn, ok.2.2.2.1, ok.2.2.2.2.1, ok.2.2.2.2.2⟩
  have e9 : (110 : Int32) + 9 * nI k = nI (110 + 9 * k) := by rw [show (9 : Int32) = nI 9 from rfl, pk_mul, show (110 : Int32) = nI 110 from rfl, nI_add]
  have ne300 : ¬ nI ρ.2.2.1 = 300 := fun q => h300 ((nI_eq (b := 300) (by omega) (by omega)).mp q)
  have hk30 : k < 30 := by omega
  have y0' : a_yr y0 k 19 (-1, -1, nI z) (9 * k) = 5 := by simp [a_yr, a_set]
  have y1' : a_yr y0 k 19 (-1, -1, nI z) (9 * k + 1) = nI z := by simp [a_yr, a_set]
  have e1 : m0 (110 + (9 * k + 1)) = nI z := (hy 1 (by omega)).trans y1'
  obtain ⟨ρ1, okb, hnb, Ml, Cl⟩ := lp_run hb hN hip (by omega) hke (by omega) hz2 w0 e1 e8 wp0 wp4 ih1 z hz1 (Nat.le_refl _) _ ok1 st
  simp only at hnb
  have on := okb.2.2.1
  -- the model's head
  have mh : ∀ f fu S a1 (K : vSt → Prop), h + 1 ≤ f → a_UM S ρ → (∀ S', a_fr a_um S S' → a_UM S' ρ1 → vp_in (nI (110 + 9 * k + 8)) 1900 ∧ p_X11_doAll_2 a1 (nI t) (p_X11_doAll f) K fu S' (S'.1 148 (110 + 9 * k + 8))) → p_X11_doAll_2 a1 (nI t) (p_X11_doAll f) K (fu + 1) S (nI k) := by
    intro f fu S a1 K hf u hh
    refine m_one u st (by omega) ht ?_
    unfold p_X11_doOne
    have u1 := UM_35 (n := ρ.2.2.1 + 1) u
    have f1 : a_fr a_um S (v_si S 143 35 (nI (ρ.2.2.1 + 1))) := fr_i fr_r rfl
    rw [u.2.2.1, e9, nIs]
    simp only [ne300, eq_self, reduceCtorEq, true_implies, false_implies, and_true, true_and, not_true_eq_false, not_false_eq_true, forall_eq, ncl (show 110 + 9 * k < 2 ^ 31 by omega)]
    refine ⟨vpin ⟨by omega, by omega⟩, ?_⟩
    generalize (v_si S 143 35 (nI (ρ.2.2.1 + 1))) = S1 at u1 f1
    have c0 : S1.1 148 (110 + 9 * k) = 5 := by
      have := hy 0 (by omega)
      rw [Nat.add_zero] at this
      rw [M_0 u1.1 (show 110 + 9 * k < 380 by omega), ok1.2.2.2.2.2 _ (by omega)]
      exact this.trans y0'
    rw [c0]
    unfold p_X11_doOne_108
    simp only [show 4 ≤ (5 : Int32) from by decide, show ¬ (5 : Int32) = 4 from by decide, eq_self, reduceCtorEq, true_implies, false_implies, and_true, true_and, not_true_eq_false, not_false_eq_true]
    obtain ⟨f, rfl⟩ : ∃ q, f = q + 1 := ⟨f - 1, by omega⟩
    exact ⟨z + 1, Ml f (z + 1) S1 _ 0 (by omega) (Nat.le_refl _) (by omega) u1 (fun S' f' u' => hh S' (fr_t f1 f') u')⟩
  -- the class's head
  have xh : ∀ S x (K : vSt → Prop), x + 200 * (300 - ρ.2.2.1) ≤ 100000 → a_UX b N W S ρ → (ρ1.2.2.2.2 = true → ∀ S', a_fr (a_uf b) S S' → a_UX b N W S' ρ1 → K S') → (ρ1.2.2.2.2 = false → ∀ S' x', a_fr (a_uf b) S S' → (∀ l, l < i ∨ p + 1 ≤ l → S'.1 (b + 21) l = S.1 (b + 21) l) → a_UX b N W S' ρ1 → x' ≤ x + 1 + z + 200 * (ρ1.2.2.1 - (ρ.2.2.1 + 1)) → p_X4_run_23 b a2 K (1000001 - x') S' (nI (p + 1)) (nI x')) → p_X4_run_23 b a2 K (1000001 - x) S (nI i) (nI x) := by
    intro S x K hx u h1 h2
    refine x_run_st hN (by omega) (by omega) u w0 (by omega) (by omega) hn (fun q => absurd q (by omega)) (fun _ => ?_)
    have u1 := UX_741 (n := ρ.2.2.1 + 1) hb u
    have f1 : a_fr (a_uf b) S (v_si S 74 1 (nI (ρ.2.2.1 + 1))) := fr_i fr_r (uf_t (by omega))
    have b1 : ∀ l, (v_si S 74 1 (nI (ρ.2.2.1 + 1))).1 (b + 21) l = S.1 (b + 21) l := by
      intro l
      rw [si1, if_neg (by omega)]
    generalize (v_si S 74 1 (nI (ρ.2.2.1 + 1))) = S1 at u1 f1 b1
    have e17 : S1.1 (b + 17) i = -1 := (u1.2.2.2.2.2 1 i (by omega) (by omega)).trans w1
    have e18 : S1.1 (b + 18) i = -1 := (u1.2.2.2.2.2 2 i (by omega) (by omega)).trans w2
    have e19 : S1.1 (b + 19) i = nI z := (u1.2.2.2.2.2 3 i (by omega) (by omega)).trans w3
    unfold p_X4_doStep
    rw [e_at (show i < 60 by omega) (by omega), e_at (show i < 60 by omega) (by omega), e_at (show i < 60 by omega) (by omega), e17, e18, e19, nIs]
    refine ⟨?_, ?_, ?_, ?_, ?_, ?_, ?_⟩ <;> intro q <;> first | exact absurd q (by decide) | skip
    unfold p_X8_beginLoop
    rw [e_at (show i < 60 by omega) (by omega), e19, e_put (show i < 60 by omega) (by omega)]
    have u2 := UX_21 (l := i) (z := nI z) hb u1
    have f2 : a_fr (a_uf b) S1 (v_si S1 (b + 21) i (nI z)) := fr_i fr_r (uf_t (by omega))
    refine Cl _ (x + 1) K (by show x + 1 + z + 200 * (300 - (ρ.2.2.1 + 1)) ≤ 100000; omega) u2 si_at (fun q S4 f4 u4 => h1 q S4 (fr_t f1 (fr_t f2 f4)) u4) (fun q S4 x' f4 l4 u4 hx' => h2 q S4 x' (fr_t f1 (fr_t f2 f4)) (fun l hl => (l4 l hl).trans ?_) u4 hx')
    rw [si1, if_neg (by omega)]
    exact b1 l
  cases s1 : ρ1.2.2.2.2
  · obtain ⟨ρ', okr, hnr, MS, CS⟩ := ih2 _ okb s1
    refine ⟨ρ', okr, by omega, ?_, ?_⟩
    · intro f fu S a1 K hf hfu u hK
      obtain ⟨fu, rfl⟩ : ∃ q, fu = q + 1 := ⟨fu - 1, by omega⟩
      refine mh f fu S a1 K hf u (fun S2 f2 u2 => ?_)
      exact m_nxt (X := fun y => p_X11_doAll_2 a1 (nI t) (p_X11_doAll f) K fu S2 y) hk30 okb u2 e8 (MS f fu S2 a1 K hf (by omega) u2 (fun S' f' u' => hK S' (fr_t f2 f') u'))
    · intro S x K hx u h1 h2
      refine xh S x K hx u (fun q => by rw [s1] at q; cases q) (fun _ S2 x2 f2 l2 u2 hx2 => ?_)
      exact CS S2 x2 K (by omega) u2 (fun q S3 f3 u3 => h1 q S3 (fr_t f2 f3) u3) (fun q S3 x' f3 l3 u3 hx' => h2 q S3 x' (fr_t f2 f3) (fun l hl => (l3 l (by omega)).trans (l2 l (by omega))) u3 (by omega))
  · refine ⟨ρ1, okb, by omega, ?_, ?_⟩
    · intro f fu S a1 K hf hfu u hK
      obtain ⟨fu, rfl⟩ : ∃ q, fu = q + 1 + 1 := ⟨fu - 2, by omega⟩
      refine mh f (fu + 1) S a1 K hf u (fun S2 f2 u2 => ?_)
      exact m_nxs (k := k) hk30 (m_stop u2 s1 (hK S2 f2 u2))
    · intro S x K hx u h1 h2
      exact xh S x K hx u (fun q S2 f2 u2 => h1 q S2 f2 u2) (fun q => by rw [s1] at q; cases q)
/-- whatever the segment -/
theorem sg_run {m0 : Nat → Int32} {b N h i k t j : Nat} {W : aW} {a2 : Int32} (hb : b + 21 < 74) (hN : N ≤ 60) (q : a_sg m0 W (fun j => m0 (110 + j)) h i k t j) (hj : j ≤ N) (ht : t ≤ 30) : a_RS m0 b N W a2 h i k t j := by
  have key : (i ≤ j ∧ k ≤ t) ∧ (j ≤ N → t ≤ 30 → a_RS m0 b N W a2 h i k t j) := by
    refine q (fun h i k t j => (i ≤ j ∧ k ≤ t) ∧ (j ≤ N → t ≤ 30 → a_RS m0 b N W a2 h i k t j)) (fun h i k => ⟨⟨Nat.le_refl _, Nat.le_refl _⟩, fun _ _ ρ ok st => ⟨ρ, ok, Nat.le_refl _, ?_, ?_⟩⟩) (fun h i k t j w g l o e8 ih => ?_) (fun h i k p e t j w g l o e8 w0 w4 w5 ih1 ih2 => ?_)
    · intro f fu S a1 K hf hfu u hK
      obtain ⟨fu, rfl⟩ : ∃ q, fu = q + 1 := ⟨fu - 1, by omega⟩
      exact m_end (hK S fr_r u)
    · intro S x K hx u h1 h2
      exact h2 st S x fr_r (fun _ _ => rfl) u (by omega)
    · obtain ⟨⟨a1, b1⟩, ih⟩ := ih
      exact ⟨by omega, fun hj ht => RS_1 hb hN (by omega) (by omega) ht l o e8 (ih hj ht)⟩
    · obtain ⟨⟨c1, d1⟩, ih1⟩ := ih1
      obtain ⟨⟨c2, d2⟩, ih2⟩ := ih2
      refine ⟨by omega, fun hj ht => ?_⟩
      rcases of_decide_eq_true o with rfl | rfl
      · exact RS_when hb hN (by omega) (by omega) hj (by omega) (by omega) ht l e8 w0 w4 w5 (ih1 (by omega) (by omega)) (ih2 hj ht)
      · exact RS_loop hb hN (by omega) (by omega) hj (by omega) (by omega) ht l e8 w0 w4 (ih1 (by omega) (by omega)) (ih2 hj ht)
  exact key.2 hj ht
