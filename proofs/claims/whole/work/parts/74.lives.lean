/-! years run from the first to the last -/
def a_yrs (m : Nat → Int32) (W : aW) (N K : Nat) : Prop := N ≤ 60 ∧ K ≤ 30 ∧ m 109 = nI K ∧ a_sg m W (fun j => m (110 + j)) 3 0 0 K N
def a_yX (b N : Nat) (W : aW) (S : vSt) : Prop := S.1 (b + 15) 6 = nI N ∧ ∀ c i, c < 5 → i < 60 → S.1 (b + 16 + c) i = W c i
theorem x_fill0 {S : vSt} {K : vSt → Prop} (h : ∀ S', a_fr (fun k j => decide (k = 75)) S S' → (∀ i, i < 5 → S'.1 75 i = 0) → K S') : p_J7_fill_53178 75 5 S 0 K := by
  unfold p_J7_fill_53178
  rintro _ rfl
  show ∃ fu5, p_J7_fill_53178_5 75 5 0 K fu5 S (nI 0) (nI 5)
  refine v_loop (fun fu i (s : vSt) => p_J7_fill_53178_5 75 5 0 K fu s (nI i) (nI 5)) (fun i s => a_fr (fun k j => decide (k = 75)) S s ∧ ∀ j, j < i → s.1 75 j = 0) 5 (fun fu i s hi I hk => ?_) (fun fu s I => ?_) S ⟨fr_r, fun j hj => absurd hj (by omega)⟩
  · have n1 : ¬ nI 5 ≤ nI i := nI_ge hi (by omega)
    rw [e_J7_fill_53178_5, ncl (by omega)]
    simp only [n1, eq_self, reduceCtorEq, true_implies, false_implies, and_true, true_and, not_true_eq_false, not_false_eq_true]
    refine ⟨vpin ⟨hi, by omega⟩, ?_⟩
    rintro _ rfl _ rfl
    rw [nIs]
    refine hk _ ⟨fr_i I.1 rfl, fun j hj => ?_⟩
    rw [si1]
    by_cases e : j = i
    · rw [if_pos ⟨rfl, e⟩]
    · rw [if_neg (fun w => e w.2)]; exact I.2 j (by omega)
  · rw [e_J7_fill_53178_5]
    simp only [Int32.le_refl, eq_self, reduceCtorEq, true_implies, false_implies, and_true, true_and, not_true_eq_false, not_false_eq_true]
    exact h s I.1 I.2
theorem yr_ex {m : Nat → Int32} {W : aW} {N K b s : Nat} {a2 : Int32} (hb : b + 21 < 74) (ok : a_ok m) (Y : a_yrs m W N K) (hs : s < 65536) (e2 : a2 = nI s) : ∃ ρ', a_oku m ρ' ∧ (∀ S (Q : vSt → Prop), a_R S b m → a_yX b N W S → (∀ S', a_fr (a_uf b) S S' → a_UX b N W S' ρ' → Q S') → p_X4_run b S a2 Q) ∧ (∀ S (Q : vSt → Prop), a_M S 0 m → (∀ S', a_fr a_um S S' → a_UM S' ρ' → Q S') → p_X11_runsYears S a2 Q) := by
  obtain ⟨hN, hK, e109, sg⟩ := Y
  subst e2
  obtain ⟨ρ', ok', -, MS, CS⟩ := sg_run (a2 := nI s) hb hN sg (Nat.le_refl _) hK (m, s, 0, (fun _ => 0), false) ⟨ok, hs, by show 0 ≤ 300; omega, rfl, rfl, fun _ _ => rfl⟩ rfl
  refine ⟨ρ', ok', fun S Q R y hQ => ?_, fun S Q M hQ => ?_⟩
  · unfold p_X4_run p_X4_sow
    refine x_fill0 (fun S1 f1 z1 => ?_)
    rintro _ rfl _ rfl
    have F : a_fr (a_uf b) S (v_si (v_si S1 74 1 0) 74 2 (nI s)) := fr_i (fr_i (fr_w f1 (fun k j w => by have := of_decide_eq_false (Bool.or_eq_false_iff.mp w).2; exact decide_eq_false (by omega))) (uf_t (by omega))) (uf_t (by omega))
    have F2 : a_fr (fun k j => decide (k = 74 ∨ k = 75)) S (v_si (v_si S1 74 1 0) 74 2 (nI s)) := fr_i (fr_i (fr_w f1 (fun k j w => by have := of_decide_eq_false w; exact decide_eq_false (by omega))) rfl) rfl
    have u : a_UX b N W (v_si (v_si S1 74 1 0) 74 2 (nI s)) (m, s, 0, (fun _ => 0), false) := by
      refine ⟨R_fr R F2 (fun j hj => ?_), si_at, rfl, fun i hi => ?_, ?_, fun c i hc hi => ?_⟩
      · have h1 : (a_xr j).1 ≤ 14 := (by decide +kernel : ∀ i, i < 108 → (a_xr i).1 ≤ 14) j hj
        exact decide_eq_false (by omega)
      · rw [si1, if_neg (by omega), si1, if_neg (by omega)]; exact z1 i hi
      · rw [(F2 _ _ (decide_eq_false (by omega))).1]; exact y.1
      · rw [(F2 _ _ (decide_eq_false (by omega))).1]; exact y.2 c i hc hi
    refine ⟨1000001, ?_⟩
    refine CS _ 0 Q (by show 0 + 200 * (300 - 0) ≤ 100000; omega) u (fun _ S2 f2 u2 => hQ S2 (fr_t F f2) u2) (fun _ S2 x2 f2 l2 u2 hx2 => ?_)
    have on := ok'.2.2.1
    have hx2 : x2 ≤ 0 + 200 * (ρ'.2.2.1 - 0) := hx2
    have n1 : ¬ 1000000 ≤ nI x2 := nI_ge (b := 1000000) (by omega) (by omega)
    rw [show 1000001 - x2 = (1000000 - x2) + 1 by omega, e_X4_run_23, u2.2.2.2.2.1]
    simp only [n1, Int32.le_refl, eq_self, reduceCtorEq, true_implies, false_implies, and_true, true_and, not_true_eq_false, not_false_eq_true]
    exact hQ S2 (fr_t F f2) u2
  · unfold p_X11_runsYears
    rintro _ rfl _ rfl _ rfl _ rfl _ rfl _ rfl _ rfl _ rfl
    have n9 : Int32.toNatClampNeg 109 = 109 := rfl
    have v9 : vp_in 109 1900 := vpin (n := 109) ⟨by omega, by omega⟩
    have F : a_fr a_um S (v_si (v_si (v_si (v_si (v_si (v_si (v_si (v_si S 143 26 (nI s)) 143 35 0) 143 36 0) 143 37 0) 143 38 0) 143 39 0) 143 40 0) 143 34 0) := fr_i (fr_i (fr_i (fr_i (fr_i (fr_i (fr_i (fr_i fr_r rfl) rfl) rfl) rfl) rfl) rfl) rfl) rfl
    have u : a_UM (v_si (v_si (v_si (v_si (v_si (v_si (v_si (v_si S 143 26 (nI s)) 143 35 0) 143 36 0) 143 37 0) 143 38 0) 143 39 0) 143 40 0) 143 34 0) (m, s, 0, (fun _ => 0), false) := by
      refine ⟨fun j hj => M j hj, rfl, rfl, fun i hi => ?_, rfl⟩
      match i, hi with
      | 0, _ => rfl
      | 1, _ => rfl
      | 2, _ => rfl
      | 3, _ => rfl
      | 4, _ => rfl
    generalize (v_si (v_si (v_si (v_si (v_si (v_si (v_si (v_si S 143 26 (nI s)) 143 35 0) 143 36 0) 143 37 0) 143 38 0) 143 39 0) 143 40 0) 143 34 0) = S1 at F u
    rw [n9, M_0 u.1 (by omega)]
    show vp_in 109 1900 ∧ p_X11_doAll (7 + 1) S1 (nI 0) (m 109) _
    rw [e109]
    refine ⟨v9, e_call ⟨K - 0 + 1, MS 7 _ S1 _ _ (by omega) (Nat.le_refl _) u (fun S2 f2 u2 => hQ S2 (fr_t F f2) u2)⟩⟩
/-! live -/
def a_lvf (k j : Nat) : Bool := a_uf 10 k j || decide (k = 76 ∨ (k = 0 ∧ (j = 12 ∨ j = 14)))
def a_lvm (k j : Nat) : Bool := a_um k j || decide (k = 154 ∨ (k = 143 ∧ (j = 0 ∨ j = 1 ∨ j = 33)))
theorem x_live {S : vSt} {m : Nat → Int32} {W : aW} {N K : Nat} {x : Int32} {Q : Int32 → vSt → Prop} {ρ' : aU} (R : a_R S 10 m) (y : S.1 25 8 ≠ 0 → a_yX 10 N W S) (ex : a_in 0 9999 x = true → S.1 25 8 ≠ 0 → ∀ S (Q : vSt → Prop), a_R S 10 m → a_yX 10 N W S → (∀ S', a_fr (a_uf 10) S S' → a_UX 10 N W S' ρ' → Q S') → p_X4_run 10 S x Q) (h5 : a_in 0 9999 x = false → Q (-1) (v_si S 0 14 5)) (h8 : a_in 0 9999 x = true → S.1 25 8 = 0 → Q (-1) (v_si S 0 14 8)) (h : a_in 0 9999 x = true → S.1 25 8 ≠ 0 → ∀ S', a_fr a_lvf S S' → a_R S' 10 ρ'.1 → S'.1 0 12 = 1 → S'.1 0 14 = 0 → (∀ i, i < 5 → S'.1 76 i = ρ'.2.2.2.1 i) → Q (nI ρ'.2.2.1) S') : p_X10_live S x Q := by
  unfold p_X10_live p_X10_live_11
  rw [gd2]
  cases g : a_in 0 9999 x
  · rw [if_neg (by decide), e_refused]
    exact h5 g
  · rw [if_pos rfl]
    by_cases c : S.1 25 8 = 0
    · simp only [c, eq_self, reduceCtorEq, true_implies, false_implies, and_true, true_and, not_true_eq_false, not_false_eq_true]
      rw [e_refused]
      exact h8 g c
    · simp only [c, eq_self, reduceCtorEq, true_implies, false_implies, and_true, true_and, not_true_eq_false, not_false_eq_true]
      refine ex g c S _ R (y c) (fun S1 f1 u1 => ?_)
      unfold p_X10_copy
      refine ⟨by unfold v_cpo; decide, ?_⟩
      have e5 : Int32.toNatClampNeg (v_mini (Int32.ofNat 5) (Int32.ofNat 5)) = 5 := by decide
      rintro _ rfl _ rfl
      rw [e5, e_told]
      have z0 : Int32.toNatClampNeg 0 = 0 := rfl
      rw [z0]
      have c76 : ∀ k j, (v_ci S1 75 76 0 0 5).1 k j = if k = 76 then va_cpy (S1.1 75) (S1.1 76) 0 0 5 j else S1.1 k j := by
        intro k j
        rfl
      have e74 : (v_si (v_ci S1 75 76 0 0 5) 0 12 1).1 74 1 = nI ρ'.2.2.1 := by
        rw [si1, if_neg (by omega), c76, if_neg (by omega)]
        exact u1.2.2.1
      rw [e74]
      have fc : a_fr a_lvf S1 (v_ci S1 75 76 0 0 5) := by
        intro k j w
        have w := of_decide_eq_false (Bool.or_eq_false_iff.mp w).2
        refine ⟨?_, rfl⟩
        rw [c76, if_neg (by omega)]
      have fu : ∀ k j, a_lvf k j = false → a_uf 10 k j = false := fun k j w => (Bool.or_eq_false_iff.mp w).1
      refine h g c _ (fr_i (fr_i (fr_t (fr_w f1 fu) fc) rfl) rfl) ?_ rfl si_at (fun i hi => ?_)
      · intro j hj
        have h1 : (a_xr j).1 ≤ 14 := (by decide +kernel : ∀ i, i < 108 → (a_xr i).1 ≤ 14) j (a_lv_lt hj)
        rw [si1, if_neg (by omega), si1, if_neg (by omega), c76, if_neg (by omega)]
        exact u1.1 j hj
      · rw [si1, if_neg (by omega), si1, if_neg (by omega), c76, if_pos rfl]
        unfold va_cpy
        rw [if_pos (by omega), show 0 + (i - 0) = i by omega]
        exact u1.2.2.2.1 i hi
theorem m_live {S : vSt} {m : Nat → Int32} {x : Int32} {Q : Int32 → vSt → Prop} {ρ' : aU} (M : a_M S 0 m) (ex : a_in 0 9999 x = true → m 108 ≠ 0 → ∀ S (Q : vSt → Prop), a_M S 0 m → (∀ S', a_fr a_um S S' → a_UM S' ρ' → Q S') → p_X11_runsYears S x Q) (h5 : a_in 0 9999 x = false → Q (-1) (v_si (v_si (v_si S 143 1 0) 143 0 0) 143 0 5)) (h8 : a_in 0 9999 x = true → m 108 = 0 → Q (-1) (v_si (v_si (v_si S 143 1 0) 143 0 0) 143 0 8)) (h : a_in 0 9999 x = true → m 108 ≠ 0 → ∀ S', a_fr a_lvm S S' → a_M S' 0 ρ'.1 → S'.1 143 33 = 1 → S'.1 143 0 = 0 → (∀ i, i < 5 → S'.1 154 i = ρ'.2.2.2.1 i) → Q (nI ρ'.2.2.1) S') : p_X11_live S x Q := by
  unfold p_X11_live
  rintro _ rfl _ rfl
  rw [e_min (lo := 0) (hi := 9999) (L := 0) (H := 9999) rfl rfl]
  unfold p_X11_refuse
  have M1 : a_M (v_si (v_si S 143 1 0) 143 0 0) 0 m := M_st (M_st M (by omega)) (by omega)
  have n8 : Int32.toNatClampNeg 108 = 108 := rfl
  have v8 : vp_in 108 1900 := vpin (n := 108) ⟨by omega, by omega⟩
  cases g : a_in 0 9999 x
  · simp only [eq_self, reduceCtorEq, true_implies, false_implies, and_true, true_and, not_true_eq_false, not_false_eq_true]
    rintro _ rfl
    exact h5 g
  · simp only [eq_self, reduceCtorEq, true_implies, false_implies, and_true, true_and, not_true_eq_false, not_false_eq_true]
    rw [n8, M_0 M1 (by omega)]
    refine ⟨v8, ?_⟩
    by_cases c : m 108 = 0
    · simp only [c, eq_self, reduceCtorEq, true_implies, false_implies, and_true, true_and, not_true_eq_false, not_false_eq_true]
      rintro _ rfl
      exact h8 g c
    · simp only [c, eq_self, reduceCtorEq, true_implies, false_implies, and_true, true_and, not_true_eq_false, not_false_eq_true]
      refine ex g c _ _ M1 (fun S1 f1 u1 => ?_)
      have z0 : Int32.toNatClampNeg 0 = 0 := rfl
      have z1 : Int32.toNatClampNeg 1 = 1 := rfl
      have z2 : Int32.toNatClampNeg 2 = 2 := rfl
      have z3 : Int32.toNatClampNeg 3 = 3 := rfl
      have z4 : Int32.toNatClampNeg 4 = 4 := rfl
      rw [z0, z1, z2, z3, z4]
      refine ⟨vpin (n := 0) ⟨by omega, by omega⟩, ?_⟩
      rintro _ rfl
      refine ⟨vpin (n := 1) ⟨by omega, by omega⟩, ?_⟩
      rintro _ rfl
      refine ⟨vpin (n := 2) ⟨by omega, by omega⟩, ?_⟩
      rintro _ rfl
      refine ⟨vpin (n := 3) ⟨by omega, by omega⟩, ?_⟩
      rintro _ rfl
      refine ⟨vpin (n := 4) ⟨by omega, by omega⟩, ?_⟩
      rintro _ rfl _ rfl
      obtain ⟨u11, u12, u13, u14, u15⟩ := u1
      have fu : ∀ k j, a_lvm k j = false → a_um k j = false := fun k j w => (Bool.or_eq_false_iff.mp w).1
      have f0 : a_fr a_lvm S (v_si (v_si S 143 1 0) 143 0 0) := fr_i (fr_i fr_r rfl) rfl
      have e35 : ∀ a b c d e f, (v_si (v_si (v_si (v_si (v_si (v_si S1 154 0 a) 154 1 b) 154 2 c) 154 3 d) 154 4 e) 143 33 f).1 143 35 = nI ρ'.2.2.1 := fun _ _ _ _ _ _ => u13
      rw [e35]
      refine h g c _ (fr_i (fr_i (fr_i (fr_i (fr_i (fr_i (fr_t f0 (fr_w f1 fu)) rfl) rfl) rfl) rfl) rfl) rfl) (M_st (M_st (M_st (M_st (M_st (M_st u11 (by omega)) (by omega)) (by omega)) (by omega)) (by omega)) (by omega)) rfl ?_ (fun i hi => ?_)
      · exact (f1 143 0 rfl).1
      · match i, hi with
        | 0, _ => exact u14 0 (by omega)
        | 1, _ => exact u14 1 (by omega)
        | 2, _ => exact u14 2 (by omega)
        | 3, _ => exact u14 3 (by omega)
        | 4, _ => exact u14 4 (by omega)
