/-! a city with its years, kept and taken back -/
def a_Yc (S : vSt) (b : Nat) (m : Nat → Int32) : Prop := (S.1 (b + 15) 8 = 0 ∧ m 108 = 0) ∨ (S.1 (b + 15) 8 = 1 ∧ m 108 = 1 ∧ ∃ N K, S.1 (b + 15) 6 = nI N ∧ S.1 (b + 15) 7 = nI K ∧ a_yrs m (fun c i => S.1 (b + 16 + c) i) N K)
theorem Yc_b {S : vSt} {b : Nat} {m : Nat → Int32} (h : a_Yc S b m) : v_isb (S.1 (b + 15) 8) := by
  rcases h with h | h
  · exact Or.inl h.1
  · exact Or.inr h.1
theorem yrs_W {m : Nat → Int32} {W W' : aW} {N K : Nat} (h : a_yrs m W N K) (e : ∀ c i, c < 5 → i < 60 → W' c i = W c i) : a_yrs m W' N K := by
  obtain ⟨a, b, c, d⟩ := h
  exact ⟨a, b, c, sg_eq d (fun c x hc _ hx => e c x hc (by omega)) (fun _ _ _ => rfl)⟩
theorem Yc_eq {S S' : vSt} {b b' : Nat} {m : Nat → Int32} (h : a_Yc S b m) (h6 : S'.1 (b' + 15) 6 = S.1 (b + 15) 6) (h7 : S'.1 (b' + 15) 7 = S.1 (b + 15) 7) (h8 : S'.1 (b' + 15) 8 = S.1 (b + 15) 8) (e : ∀ c i, c < 5 → i < 60 → S'.1 (b' + 16 + c) i = S.1 (b + 16 + c) i) : a_Yc S' b' m := by
  rcases h with ⟨a, c⟩ | ⟨a, c, N, K, d, d2, y⟩
  · exact Or.inl ⟨h8.trans a, c⟩
  · exact Or.inr ⟨h8.trans a, c, N, K, h6.trans d, h7.trans d2, yrs_W y e⟩
theorem Yc_fr {S S' : vSt} {b : Nat} {m : Nat → Int32} {c : Nat → Nat → Bool} (h : a_Yc S b m) (f : a_fr c S S') (hc : ∀ k j, b + 15 ≤ k → k ≤ b + 20 → c k j = false) : a_Yc S' b m := Yc_eq h (f _ _ (hc _ _ (by omega) (by omega))).1 (f _ _ (hc _ _ (by omega) (by omega))).1 (f _ _ (hc _ _ (by omega) (by omega))).1 (fun q i hq _ => (f _ _ (hc _ _ (by omega) (by omega))).1)
theorem x_cp {S : vSt} {b b1 : Nat} {K : vSt → Prop} (hd : b + 21 ≤ b1 ∨ b1 + 21 ≤ b) (hb : v_isb (S.1 (b1 + 15) 8)) (h : ∀ S', a_fr (a_cb b) S S' → (∀ m nm, a_ok m → a_R S b1 m → a_nmX S b1 m nm → a_Yc S b1 m → a_R S' b m ∧ a_nmX S' b m nm ∧ a_Yc S' b m) → K S') : p_X0_copyFrom b b1 S K := by
  refine x_copyFrom hd hb (fun S' f D Y z => h S' f (fun m nm ok R nx yc => ⟨R_copy R D z, nm_copy ok nx D, ?_⟩))
  obtain ⟨Y1, Y6, Y7, Y8⟩ := Y
  refine Yc_eq yc Y6 Y7 Y8 (fun c i hc hi => ?_)
  have hz : a_csz (16 + c) = 60 := (by decide : ∀ q, q < 5 → a_csz (16 + q) = 60) c hc
  have w := Y1 (16 + c) (by omega) (by omega) i (by rw [hz]; exact hi)
  rw [if_neg (by omega), show b + (16 + c) = b + 16 + c by omega, show b1 + (16 + c) = b1 + 16 + c by omega] at w
  exact w
def a_mkx (b k j : Nat) : Bool := a_cb b k j || decide (k = 0 ∧ (j = 13 ∨ j = 14))
def a_mkm (B k j : Nat) : Bool := a_cpf B k j || decide (k = 143 ∧ (j = 0 ∨ j = 1 ∨ j = 23))
theorem x_mark {S : vSt} {k : Nat} {K : Int32 → vSt → Prop} (hk : k ≤ 3) (h13 : S.1 0 13 = nI k) (hb : v_isb (S.1 25 8)) (h0 : k = 3 → K (-1) (v_si S 0 14 7)) (h : k < 3 → ∀ S', a_fr (a_mkx (77 + 22 * k)) S S' → (∀ m nm, a_ok m → a_R S 10 m → a_nmX S 10 m nm → a_Yc S 10 m → a_R S' (77 + 22 * k) m ∧ a_nmX S' (77 + 22 * k) m nm ∧ a_Yc S' (77 + 22 * k) m) → S'.1 0 13 = nI (k + 1) → S'.1 0 14 = 0 → K (nI (k + 1)) S') : p_X10_mark S K := by
  unfold p_X10_mark p_X10_mark_19
  have n1 : ¬ nI k < 0 := nI_pos (by omega)
  rw [h13, e_refused, ncl (by omega)]
  by_cases c : k = 3
  · have n2 : ¬ nI k < 3 := nI_nlt (b := 3) (by omega) (by omega)
    simp only [n1, n2, eq_self, reduceCtorEq, true_implies, false_implies, and_true, true_and, not_true_eq_false, not_false_eq_true]
    exact h0 c
  · have n2 : nI k < 3 := nI_lt (b := 3) (by omega) (by omega)
    simp only [n1, n2, eq_self, reduceCtorEq, true_implies, false_implies, and_true, true_and, not_true_eq_false, not_false_eq_true]
    refine ⟨vpin ⟨by omega, by omega⟩, ?_⟩
    rintro _ rfl
    refine x_cp (b1 := 10) (Or.inr (by omega)) hb (fun S1 f1 t1 => ?_)
    rintro _ rfl
    have e13 : S1.1 0 13 = nI k := (f1 0 13 (decide_eq_false (by omega))).1.trans h13
    have e13' : (v_si S1 0 13 (nI (k + 1))).1 0 13 = nI (k + 1) := si_at
    rw [e13, nIs, e_told, e13']
    have fw : ∀ a j, a_mkx (77 + 22 * k) a j = false → a_cb (77 + 22 * k) a j = false := fun a j w => (Bool.or_eq_false_iff.mp w).1
    have t13 : a_mkx (77 + 22 * k) 0 13 = true := by unfold a_mkx; rw [show decide ((0 : Nat) = 0 ∧ ((13 : Nat) = 13 ∨ (13 : Nat) = 14)) = true from rfl, Bool.or_true]
    have t14 : a_mkx (77 + 22 * k) 0 14 = true := by unfold a_mkx; rw [show decide ((0 : Nat) = 0 ∧ ((14 : Nat) = 13 ∨ (14 : Nat) = 14)) = true from rfl, Bool.or_true]
    refine h (by omega) _ (fr_i (fr_i (fr_w f1 fw) t13) t14) (fun m nm ok R nx yc => ?_) ?_ si_at
    · obtain ⟨a1, a2, a3⟩ := t1 m nm ok R nx yc
      have f2 : a_fr (fun k j => decide (k = 0)) S1 (v_si (v_si S1 0 13 (nI (k + 1))) 0 14 0) := fr_i (fr_i fr_r rfl) rfl
      exact ⟨R_fr a1 f2 (fun j hj => decide_eq_false (by omega)), ⟨fun p hp => a2.1 p hp, fun d hd => a2.2 d hd⟩, Yc_fr a3 f2 (fun k j h1 h2 => decide_eq_false (by omega))⟩
    · rw [si1, if_neg (by omega)]; exact si_at
theorem x_back {S : vSt} {k : Nat} {K : Int32 → vSt → Prop} (hk : k ≤ 3) (h13 : S.1 0 13 = nI k) (hb : ∀ q, q < k → v_isb (S.1 (77 + 22 * q + 15) 8)) (h0 : k = 0 → K (-1) (v_si S 0 14 8)) (h : ∀ q, k = q + 1 → ∀ S', a_fr (a_mkx 10) S S' → (∀ m nm, a_ok m → a_R S (77 + 22 * q) m → a_nmX S (77 + 22 * q) m nm → a_Yc S (77 + 22 * q) m → a_R S' 10 m ∧ a_nmX S' 10 m nm ∧ a_Yc S' 10 m) → S'.1 0 13 = nI q → S'.1 0 14 = 0 → K (nI q) S') : p_X10_back S K := by
  unfold p_X10_back p_X10_back_20
  rw [h13]
  rintro _ rfl
  rw [e_refused]
  by_cases c : k = 0
  · subst c
    simp only [show nI 0 - 1 < 0 from by decide, eq_self, reduceCtorEq, true_implies, false_implies, and_true, true_and, not_true_eq_false, not_false_eq_true]
    exact h0 rfl
  · obtain ⟨q, rfl⟩ : ∃ q, k = q + 1 := ⟨k - 1, by omega⟩
    have es : nI (q + 1) - 1 = nI q := by rw [show (1 : Int32) = nI 1 from rfl, pk_sub (by omega)]; rfl
    have n1 : ¬ nI q < 0 := nI_pos (by omega)
    have n2 : nI q < 3 := nI_lt (b := 3) (by omega) (by omega)
    rw [es, ncl (by omega)]
    simp only [n1, n2, eq_self, reduceCtorEq, true_implies, false_implies, and_true, true_and, not_true_eq_false, not_false_eq_true]
    refine ⟨vpin ⟨by omega, by omega⟩, ?_⟩
    rintro _ rfl
    refine x_cp (b := 10) (Or.inl (by omega)) (hb q (by omega)) (fun S1 f1 t1 => ?_)
    rintro _ rfl
    have e13' : (v_si S1 0 13 (nI q)).1 0 13 = nI q := si_at
    rw [e_told, e13']
    have fw : ∀ a j, a_mkx 10 a j = false → a_cb 10 a j = false := fun a j w => (Bool.or_eq_false_iff.mp w).1
    refine h q rfl _ (fr_i (fr_i (fr_w f1 fw) rfl) rfl) (fun m nm ok R nx yc => ?_) ?_ si_at
    · obtain ⟨a1, a2, a3⟩ := t1 m nm ok R nx yc
      have f2 : a_fr (fun k j => decide (k = 0)) S1 (v_si (v_si S1 0 13 (nI q)) 0 14 0) := fr_i (fr_i fr_r rfl) rfl
      exact ⟨R_fr a1 f2 (fun j hj => decide_eq_false (by omega)), ⟨fun p hp => a2.1 p hp, fun d hd => a2.2 d hd⟩, Yc_fr a3 f2 (fun k j h1 h2 => decide_eq_false (by omega))⟩
    · rw [si1, if_neg (by omega)]; exact si_at
theorem mkm_t {B j : Nat} (h : j = 0 ∨ j = 1 ∨ j = 23) : a_mkm B 143 j = true := by
  unfold a_mkm
  rw [show decide ((143 : Nat) = 143 ∧ (j = 0 ∨ j = 1 ∨ j = 23)) = true from decide_eq_true ⟨rfl, h⟩, Bool.or_true]