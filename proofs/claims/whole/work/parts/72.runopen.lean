/-! what opens -/
theorem e_call {f : Nat} {S : vSt} {k e : Int32} {K : vSt → Prop} (h : ∃ fu2, p_X11_doAll_2 k e (p_X11_doAll f) K fu2 S k) : p_X11_doAll (f + 1) S k e K := h
theorem RS_when {m0 : Nat → Int32} {b N h i k p e t j : Nat} {W : aW} {a2 : Int32} {g : aL} (hb : b + 21 < 74) (hN : N ≤ 60) (hip : i + 1 ≤ p) (hpj : p + 1 ≤ j) (hj : j ≤ N) (hke : k + 1 ≤ e) (het : e ≤ t) (ht : t ≤ 30) (l : a_ln m0 W (fun j => m0 (110 + j)) i k 16 g) (e8 : m0 (110 + (9 * k + 8)) = nI e) (wp0 : W 0 p = 20) (wp4 : W 4 p = nI i) (wi4 : W 4 i = nI p) (ih1 : a_RS m0 b N W a2 h (i + 1) (k + 1) e p) (ih2 : a_RS m0 b N W a2 (h + 1) (p + 1) e t j) : a_RS m0 b N W a2 (h + 1) i k t j := by
  intro ρ ok st
  obtain ⟨hw, lo, w0, w1, w2, w3, y0, hy⟩ := id l
  by_cases h300 : ρ.2.2.1 = 300
  · exact RS_300 hb hN (by omega) (by omega) ht l ok st h300
  have hn : ρ.2.2.1 < 300 := by have := ok.2.2.1; omega
  have ok1 : a_oku m0 (ρ.1, ρ.2.1, ρ.2.2.1 + 1, ρ.2.2.2.1, ρ.2.2.2.2) := ⟨ok.1, ok.2.1, hn, ok.2.2.2.1, ok.2.2.2.2.1, ok.2.2.2.2.2⟩
  have e9 : (110 : Int32) + 9 * nI k = nI (110 + 9 * k) := by rw [show (9 : Int32) = nI 9 from rfl, pk_mul, show (110 : Int32) = nI 110 from rfl, nI_add]
  have ne300 : ¬ nI ρ.2.2.1 = 300 := fun q => h300 ((nI_eq (b := 300) (by omega) (by omega)).mp q)
  have hk30 : k < 30 := by omega
  -- the model's head
  have mh : ∀ f fu S a1 (K : vSt → Prop), h + 1 ≤ f → a_UM S ρ → (o_so ρ.1 g = false → ∀ S', a_fr a_um S S' → a_UM S' (ρ.1, ρ.2.1, ρ.2.2.1 + 1, ρ.2.2.2.1, ρ.2.2.2.2) → p_X11_doAll_2 a1 (nI t) (p_X11_doAll f) K fu S' (nI e)) → (o_so ρ.1 g = true → ∀ S', a_fr a_um S S' → a_UM S' (ρ.1, ρ.2.1, ρ.2.2.1 + 1, ρ.2.2.2.1, ρ.2.2.2.2) → p_X11_doAll f S' (nI (k + 1)) (nI e) (fun S5 => vp_in (nI (110 + 9 * k + 8)) 1900 ∧ p_X11_doAll_2 a1 (nI t) (p_X11_doAll f) K fu S5 (S5.1 148 (110 + 9 * k + 8)))) → p_X11_doAll_2 a1 (nI t) (p_X11_doAll f) K (fu + 1) S (nI k) := by
    intro f fu S a1 K hf u h0 h1
    refine m_one u st (by omega) ht ?_
    unfold p_X11_doOne
    have u1 := UM_35 (n := ρ.2.2.1 + 1) u
    have f1 : a_fr a_um S (v_si S 143 35 (nI (ρ.2.2.1 + 1))) := fr_i fr_r rfl
    rw [u.2.2.1, e9, nIs]
    simp only [ne300, eq_self, reduceCtorEq, true_implies, false_implies, and_true, true_and, not_true_eq_false, not_false_eq_true, forall_eq, ncl (show 110 + 9 * k < 2 ^ 31 by omega)]
    refine ⟨vpin ⟨by omega, by omega⟩, ?_⟩
    generalize (v_si S 143 35 (nI (ρ.2.2.1 + 1))) = S1 at u1 f1
    have c0 : S1.1 148 (110 + 9 * k) = 4 := by
      have := hy 0 (by omega)
      rw [Nat.add_zero] at this
      rw [M_0 u1.1 (show 110 + 9 * k < 380 by omega), ok1.2.2.2.2.2 _ (by omega)]
      refine this.trans ?_
      unfold a_yr
      rw [if_neg (by omega), if_neg (by omega), if_neg (by omega), if_neg (by omega), if_pos rfl]
      split
      · rw [a_set_ne (by omega), a_set_ne (by omega), a_set_eq]
      · split
        · rw [a_set_ne (by omega), a_set_ne (by omega), a_set_eq]
        · rw [a_set_ne (by omega), a_set_ne (by omega), a_set_ne (by omega), a_set_ne (by omega), a_set_eq]
    rw [c0]
    simp only [show 4 ≤ (4 : Int32) from by decide, eq_self, reduceCtorEq, true_implies, false_implies, and_true, true_and, not_true_eq_false, not_false_eq_true]
    refine m_isSo hk30 ok1 lo hy u1 ?_
    show (o_so ρ.1 g = false → _) ∧ (o_so ρ.1 g = true → _)
    refine ⟨fun c => ?_, fun c => ?_⟩
    · unfold p_X11_doOne_108
      simp only [show ¬ (4 : Int32) = 5 from by decide, show (4 : Int32) ≤ 5 from by decide, eq_self, reduceCtorEq, true_implies, false_implies, and_true, true_and, not_true_eq_false, not_false_eq_true]
      exact m_nxt (X := fun y => p_X11_doAll_2 a1 (nI t) (p_X11_doAll f) K fu S1 y) hk30 ok1 u1 e8 (h0 c S1 f1 u1)
    · have ec : S1.1 148 (110 + 9 * k + 8) = nI e := by
        rw [M_0 u1.1 (show 110 + 9 * k + 8 < 380 by omega), ok1.2.2.2.2.2 _ (by omega)]
        exact e8
      rw [show nI (110 + 9 * k) + 8 = nI (110 + 9 * k + 8) from nI_add _ 8, ncl (by omega), ec, nIs]
      exact ⟨vpin ⟨by omega, by omega⟩, h1 c S1 f1 u1⟩
  -- the class's head
  have xh : ∀ S x (K : vSt → Prop), x + 200 * (300 - ρ.2.2.1) ≤ 100000 → a_UX b N W S ρ → (∀ S', a_fr (a_uf b) S S' → S'.1 (b + 21) = S.1 (b + 21) → a_UX b N W S' (ρ.1, ρ.2.1, ρ.2.2.1 + 1, ρ.2.2.2.1, ρ.2.2.2.2) → p_X4_run_23 b a2 K (1000001 - (x + 1)) S' (if o_so ρ.1 g = true then nI (i + 1) else nI (p + 1)) (nI (x + 1))) → p_X4_run_23 b a2 K (1000001 - x) S (nI i) (nI x) := by
    intro S x K hx u hK
    refine x_run_st hN (by omega) (by omega) u w0 (by omega) (by omega) hn (fun q => absurd q (by omega)) (fun _ => ?_)
    have u1 := UX_741 (n := ρ.2.2.1 + 1) hb u
    have f1 : a_fr (a_uf b) S (v_si S 74 1 (nI (ρ.2.2.1 + 1))) := fr_i fr_r (uf_t (by omega))
    have b1 : (v_si S 74 1 (nI (ρ.2.2.1 + 1))).1 (b + 21) = S.1 (b + 21) := by
      funext l
      rw [si1, if_neg (by omega)]
    generalize (v_si S 74 1 (nI (ρ.2.2.1 + 1))) = S1 at u1 f1 b1
    have hK := hK S1 f1 b1 u1
    have e17 : S1.1 (b + 17) i = g.1 := (u1.2.2.2.2.2 1 i (by omega) (by omega)).trans w1
    have e18 : S1.1 (b + 18) i = g.2.1 := (u1.2.2.2.2.2 2 i (by omega) (by omega)).trans w2
    have e19 : S1.1 (b + 19) i = g.2.2 := (u1.2.2.2.2.2 3 i (by omega) (by omega)).trans w3
    have e20 : S1.1 (b + 20) i = nI p := (u1.2.2.2.2.2 4 i (by omega) (by omega)).trans wi4
    unfold p_X4_doStep
    rw [e_at (show i < 60 by omega) (by omega), e_at (show i < 60 by omega) (by omega), e_at (show i < 60 by omega) (by omega), e17, e18, e19, nIs]
    refine ⟨?_, ?_, ?_, ?_, ?_, ?_, ?_⟩ <;> intro q <;> first | exact absurd q (by decide) | skip
    refine x_holds ok1 lo u1 ?_
    show (o_so ρ.1 g = false → _) ∧ (o_so ρ.1 g = true → _)
    refine ⟨fun c => ?_, fun c => ?_⟩
    · rw [c, if_neg (by decide)] at hK
      rw [e_at (show i < 60 by omega) (by omega), e20, nIs]
      exact hK
    · rw [c, if_pos rfl] at hK
      exact hK
  cases c : o_so ρ.1 g
  · rw [c] at mh xh
    obtain ⟨ρ', okr, hnr, MS, CS⟩ := ih2 _ ok1 st
    simp only at hnr
    refine ⟨ρ', okr, by omega, ?_, ?_⟩
    · intro f fu S a1 K hf hfu u hK
      obtain ⟨fu, rfl⟩ : ∃ q, fu = q + 1 := ⟨fu - 1, by omega⟩
      exact mh f fu S a1 K hf u (fun _ S1 f1 u1 => MS f fu S1 a1 K hf (by omega) u1 (fun S' f' u' => hK S' (fr_t f1 f') u')) (fun w => by cases w)
    · intro S x K hx u h1 h2
      refine xh S x K hx u (fun S1 f1 b1 u1 => ?_)
      rw [if_neg (by decide)]
      refine CS S1 (x + 1) K (by show x + 1 + 200 * (300 - (ρ.2.2.1 + 1)) ≤ 100000; omega) u1 (fun q S2 f2 u2 => h1 q S2 (fr_t f1 f2) u2) (fun q S2 x' f2 l2 u2 hx' => h2 q S2 x' (fr_t f1 f2) (fun l hl => (l2 l (by omega)).trans (by rw [b1])) u2 (by simp only at hx'; omega))
  · rw [c] at mh xh
    obtain ⟨ρ1, okb, hnb, MSb, CSb⟩ := ih1 _ ok1 st
    simp only at hnb
    cases s1 : ρ1.2.2.2.2
    · obtain ⟨ρ', okr, hnr, MS, CS⟩ := ih2 _ okb s1
      refine ⟨ρ', okr, by omega, ?_, ?_⟩
      · intro f fu S a1 K hf hfu u hK
        obtain ⟨fu, rfl⟩ : ∃ q, fu = q + 1 := ⟨fu - 1, by omega⟩
        refine mh f fu S a1 K hf u (fun w => by cases w) (fun _ S1 f1 u1 => ?_)
        obtain ⟨f, rfl⟩ : ∃ q, f = q + 1 := ⟨f - 1, by omega⟩
        refine e_call ⟨e - (k + 1) + 1, MSb f _ S1 _ _ (by omega) (Nat.le_refl _) u1 (fun S2 f2 u2 => ?_)⟩
        exact m_nxt (X := fun y => p_X11_doAll_2 a1 (nI t) (p_X11_doAll (f + 1)) K fu S2 y) hk30 okb u2 e8 (MS (f + 1) fu S2 a1 K hf (by omega) u2 (fun S' f' u' => hK S' (fr_t f1 (fr_t f2 f')) u'))
      · intro S x K hx u h1 h2
        refine xh S x K hx u (fun S1 f1 b1 u1 => ?_)
        rw [if_pos rfl]
        have on := okb.2.2.1
        refine CSb S1 (x + 1) K (by show x + 1 + 200 * (300 - (ρ.2.2.1 + 1)) ≤ 100000; omega) u1 (fun q => by rw [s1] at q; cases q) (fun _ S2 x2 f2 l2 u2 hx2 => ?_)
        simp only at hx2
        refine x_run_end hb hN (by omega) (by omega) (by omega) u2 wp0 wp4 (fun _ => ?_) (fun q => by rw [w0] at q; exact absurd q (by decide))
        refine CS S2 (x2 + 1) K (by omega) u2 (fun q S3 f3 u3 => h1 q S3 (fr_t f1 (fr_t f2 f3)) u3) (fun q S3 x' f3 l3 u3 hx' => h2 q S3 x' (fr_t f1 (fr_t f2 f3)) (fun l hl => (l3 l (by omega)).trans ((l2 l (by omega)).trans (by rw [b1]))) u3 (by omega))
    · refine ⟨ρ1, okb, by omega, ?_, ?_⟩
      · intro f fu S a1 K hf hfu u hK
        obtain ⟨fu, rfl⟩ : ∃ q, fu = q + 1 + 1 := ⟨fu - 2, by omega⟩
        refine mh f (fu + 1) S a1 K hf u (fun w => by cases w) (fun _ S1 f1 u1 => ?_)
        obtain ⟨f, rfl⟩ : ∃ q, f = q + 1 := ⟨f - 1, by omega⟩
        refine e_call ⟨e - (k + 1) + 1, MSb f _ S1 _ _ (by omega) (Nat.le_refl _) u1 (fun S2 f2 u2 => ?_)⟩
        exact m_nxs (k := k) hk30 (m_stop u2 s1 (hK S2 (fr_t f1 f2) u2))
      · intro S x K hx u h1 h2
        refine xh S x K hx u (fun S1 f1 b1 u1 => ?_)
        rw [if_pos rfl]
        exact CSb S1 (x + 1) K (by show x + 1 + 200 * (300 - (ρ.2.2.1 + 1)) ≤ 100000; omega) u1 (fun q S2 f2 u2 => h1 q S2 (fr_t f1 f2) u2) (fun q => by rw [s1] at q; cases q)
