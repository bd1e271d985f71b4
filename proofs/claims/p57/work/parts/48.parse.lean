/-! WHAT IS READ: a fault and its place, or something and the tokens behind it -/
abbrev aF : Type := Nat × Nat
def a_h0 (R : List aK) : aK := R.headD (0, 0, 0)
def a_bl (R : List aK) (f : Nat) : aF := (if (a_h0 R).1 = 1 then 1 else f, (a_h0 R).2.1)
def a_bi {α β : Type} (x : aF ⊕ α) (f : α → aF ⊕ β) : aF ⊕ β := match x with
  | .inl e => .inl e
  | .inr a => f a
def a_wf : List aK → Prop
  | [] => False
  | t :: R => a_tkok t ∧ (t.1 ≠ 0 → a_wf R)
def a_wd (c : Bool) (R : List aK) : aF ⊕ List aK := if c = true then .inr R.tail else .inl (a_bl R 2)
def a_nu (lo hi : Nat) (R : List aK) : aF ⊕ (Nat × List aK) := if (a_h0 R).1 = 5 then (if lo ≤ (a_h0 R).2.2 ∧ (a_h0 R).2.2 ≤ hi then .inr ((a_h0 R).2.2, R.tail) else .inl (4, (a_h0 R).2.1)) else .inl (a_bl R 2)
def a_semi (R : List aK) : aF ⊕ List aK := a_wd (decide ((a_h0 R).1 = 6 ∧ (a_h0 R).2.2 = 59)) R
theorem tks_wf {C : Nat → Nat} {n : Nat} (hn : n ≤ 900) (hC : ∀ j, C j < 256) : ∀ k i, a_wf (a_tks C n k i)
  | 0, i => by
    refine ⟨?_, fun w => absurd rfl w⟩
    refine ⟨?_, ?_, ?_, ?_, ?_, ?_⟩ <;> simp only <;> omega
  | k + 1, i => by
    unfold a_tks
    split
    · refine ⟨?_, fun w => absurd rfl w⟩
      refine ⟨?_, ?_, ?_, ?_, ?_, ?_⟩ <;> simp only <;> omega
    · next c =>
      split
      · exact tks_wf hn hC k _
      · exact ⟨tok1_ok hn hC (by omega), fun _ => tks_wf hn hC k _⟩
theorem wf_c {R : List aK} (h : a_wf R) : ∃ t R', R = t :: R' ∧ a_tkok t ∧ a_h0 R = t ∧ R.tail = R' ∧ (t.1 ≠ 0 → a_wf R') := by
  cases R with
  | nil => exact absurd h id
  | cons t R' => exact ⟨t, R', rfl, h.1, rfl, rfl, h.2⟩
theorem wf_tl {R : List aK} (h : a_wf R) (hk : (a_h0 R).1 ≠ 0) : a_wf R.tail := by
  obtain ⟨t, R', rfl, -, e, -, w⟩ := wf_c h
  exact w hk
theorem is_k {t : aK} {q : Nat} (h : a_is t q = true) : t.1 ≠ 0 ∧ t.1 ≠ 1 := by
  have := of_decide_eq_true h
  omega
theorem wd_wf {R R' : List aK} {c : Bool} (h : a_wf R) (hc : c = true → (a_h0 R).1 ≠ 0) (e : a_wd c R = .inr R') : a_wf R' := by
  unfold a_wd at e
  split at e
  · next q => cases e; exact wf_tl h (hc q)
  · cases e
theorem nu_wf {R : List aK} {lo hi : Nat} {g : Nat × List aK} (h : a_wf R) (e : a_nu lo hi R = .inr g) : a_wf g.2 ∧ lo ≤ g.1 ∧ g.1 ≤ hi := by
  unfold a_nu at e
  split at e
  · next q =>
    split at e
    · next w =>
      cases e
      exact ⟨wf_tl h (by omega), w⟩
    · cases e
  · cases e
theorem semi_wf {R R' : List aK} (h : a_wf R) (e : a_semi R = .inr R') : a_wf R' := wd_wf h (fun w => by have := of_decide_eq_true w; omega) e
/-! the class's side -/
def a_ccf (k j : Nat) : Bool := decide ((k = 5 ∧ 5 ≤ j ∧ j ≤ 12) ∨ (32 ≤ k ∧ k ≤ 46) ∨ (55 ≤ k ∧ k ≤ 57) ∨ (7 ≤ k ∧ k ≤ 9))
def a_XF {γ : Type} (S : vSt) (K : Bool → vSt → Prop) (good : γ → vSt → Prop) (res : aF ⊕ γ) : Prop := match res with
  | .inl e => ∀ S', a_fr a_ccf S S' → S'.1 5 11 = nI e.1 → S'.1 5 12 = nI e.2 → K false S'
  | .inr g => ∀ S', a_fr a_ccf S S' → good g S' → K true S'
theorem psf_ccf : ∀ k j, a_ccf k j = false → a_psf k j = false := by
  intro k j q
  unfold a_ccf at q
  unfold a_psf
  rw [decide_eq_false_iff_not] at q ⊢
  omega
theorem XR_0 {S : vSt} {R : List aK} (wf : a_wf R) (h : a_XR S R) : S.1 5 7 = nI (a_h0 R).1 ∧ S.1 5 8 = nI (a_h0 R).2.1 ∧ S.2 5 9 = lN (a_h0 R).2.2 := by
  obtain ⟨t, R', rfl, -, e, -, -⟩ := wf_c wf
  rw [e]
  exact XR_cur h
theorem wf_ok {R : List aK} (wf : a_wf R) : a_tkok (a_h0 R) := by
  obtain ⟨t, R', rfl, k, e, -, -⟩ := wf_c wf
  rw [e]; exact k
theorem x_blame {S : vSt} {R : List aK} {f : Nat} {K : Bool → vSt → Prop} (wf : a_wf R) (xr : a_XR S R) (h : ∀ S', a_fr a_ccf S S' → S'.1 5 11 = nI (a_bl R f).1 → S'.1 5 12 = nI (a_bl R f).2 → K false S') : p_X6_blame S (nI f) K := by
  obtain ⟨c7, c8, -⟩ := XR_0 wf xr
  have k6 := (wf_ok wf).2.1
  have fin : ∀ x, x = nI (a_bl R f).1 → p_X6_blame_14 (nI f) K S x := by
    rintro x rfl
    unfold p_X6_blame_14
    rintro _ rfl _ rfl
    refine h _ (fr_i (fr_i fr_r rfl) rfl) ?_ ?_
    · rw [si1, if_neg (by omega)]
      exact si_at
    · rw [si_at]
      exact c8
  unfold p_X6_blame
  rw [c7]
  have e : nI (a_h0 R).1 = 1 ↔ (a_h0 R).1 = 1 := nI_eq (b := 1) (by omega) (by omega)
  rw [e]
  refine ⟨fun w => fin _ ?_, fun w => fin _ ?_⟩
  · unfold a_bl; rw [if_neg w]
  · unfold a_bl; rw [if_pos w]; rfl
theorem x_pas {S : vSt} {R : List aK} {K : vSt → Prop} (wf : a_wf R) (hk : (a_h0 R).1 ≠ 0) (xr : a_XR S R) (h : ∀ S', a_fr a_psf S S' → a_XR S' R.tail → S'.2 5 10 = lN (a_h0 R).2.2 → K S') : p_X6_pass S K := by
  obtain ⟨t, R', rfl, -, e, -, w⟩ := wf_c wf
  rw [e] at hk
  obtain ⟨u, R'', rfl, -⟩ := wf_c (w hk)
  exact x_pass xr h
theorem x_isWord {S : vSt} {R : List aK} {q : Nat} {K : Bool → vSt → Prop} (wf : a_wf R) (xr : a_XR S R) (hq : q < 22) : p_X6_isWord S (nI q) K = K (a_is (a_h0 R) q) S := by
  obtain ⟨c7, -, c9⟩ := XR_0 wf xr
  have ok := wf_ok wf
  have k6 := ok.2.1
  unfold p_X6_isWord a_is
  have e : nI (a_h0 R).1 = 2 ↔ (a_h0 R).1 = 2 := nI_eq (b := 2) (by omega) (by omega)
  rw [c7, c9, e, nI_l (by omega)]
  by_cases h : (a_h0 R).1 = 2
  · have hv := ok.2.2.1 h
    rw [pk_lEQ (by omega) (by omega)]
    by_cases d : (a_h0 R).2.2 = q <;> simp [h, d]
  · simp [h]
theorem x_takeWord {S : vSt} {R : List aK} {q : Nat} {K : Bool → vSt → Prop} (wf : a_wf R) (xr : a_XR S R) (hq : q < 22) (h : a_XF S K (fun R' S' => a_fr a_psf S S' ∧ a_XR S' R') (a_wd (a_is (a_h0 R) q) R)) : p_X6_takeWord S (nI q) K := by
  unfold p_X6_takeWord
  rw [x_isWord wf xr hq]
  unfold a_wd at h
  cases c : a_is (a_h0 R) q
  · rw [c, if_neg (by decide)] at h
    simp only [eq_self, reduceCtorEq, true_implies, false_implies, and_true, true_and, not_true_eq_false, not_false_eq_true]
    exact x_blame wf xr h
  · rw [c, if_pos rfl] at h
    simp only [eq_self, reduceCtorEq, true_implies, false_implies, and_true, true_and, not_true_eq_false, not_false_eq_true]
    exact x_pas wf (is_k c).1 xr (fun S' f xr' _ => h S' (fr_w f psf_ccf) ⟨f, xr'⟩)
theorem x_takeNumber {S : vSt} {R : List aK} {lo hi : Nat} {K : Bool → vSt → Prop} (wf : a_wf R) (xr : a_XR S R) (h1 : lo < 2 ^ 30) (h2 : hi < 2 ^ 30) (h : a_XF S K (fun g S' => a_fr a_psf S S' ∧ a_XR S' g.2 ∧ S'.2 5 10 = lN g.1) (a_nu lo hi R)) : p_X6_takeNumber S (nI lo) (nI hi) K := by
  obtain ⟨c7, c8, c9⟩ := XR_0 wf xr
  have ok := wf_ok wf
  have k6 := ok.2.1
  unfold p_X6_takeNumber p_X6_takeNumber_34
  have e : nI (a_h0 R).1 = 5 ↔ (a_h0 R).1 = 5 := nI_eq (b := 5) (by omega) (by omega)
  rw [c7, c9, e, nI_l (by omega), nI_l (by omega)]
  unfold a_nu at h
  by_cases k5 : (a_h0 R).1 = 5
  · have hv := ok.2.2.2.2.1 k5
    rw [if_pos k5] at h
    rw [pk_lLT (by omega) (by omega), pk_lLE (by omega) (by omega)]
    simp only [k5, eq_self, reduceCtorEq, true_implies, false_implies, and_true, true_and, not_true_eq_false, not_false_eq_true]
    have bad : ¬ (lo ≤ (a_h0 R).2.2 ∧ (a_h0 R).2.2 ≤ hi) → p_X6_blame S (nI 4) K := by
      intro w
      rw [if_neg w] at h
      refine x_blame wf xr ?_
      unfold a_bl
      rw [if_neg (by omega)]
      exact h
    by_cases d1 : (a_h0 R).2.2 < lo
    · simp only [d1, eq_self, reduceCtorEq, true_implies, false_implies, and_true, true_and, not_true_eq_false, not_false_eq_true]
      exact bad (by omega)
    · by_cases d2 : (a_h0 R).2.2 ≤ hi
      · rw [if_pos ⟨by omega, d2⟩] at h
        simp only [d1, d2, eq_self, reduceCtorEq, true_implies, false_implies, and_true, true_and, not_true_eq_false, not_false_eq_true]
        exact x_pas wf (by omega) xr (fun S' f xr' tk => h S' (fr_w f psf_ccf) ⟨f, xr', tk⟩)
      · simp only [d1, d2, eq_self, reduceCtorEq, true_implies, false_implies, and_true, true_and, not_true_eq_false, not_false_eq_true]
        exact bad (by omega)
  · rw [if_neg k5] at h
    simp only [k5, eq_self, reduceCtorEq, true_implies, false_implies, and_true, true_and, not_true_eq_false, not_false_eq_true]
    exact x_blame (f := 2) wf xr h
theorem x_takeSemi {S : vSt} {R : List aK} {K : Bool → vSt → Prop} (wf : a_wf R) (xr : a_XR S R) (h : a_XF S K (fun R' S' => a_fr a_psf S S' ∧ a_XR S' R') (a_semi R)) : p_X6_takeSemicolon S K := by
  obtain ⟨c7, c8, c9⟩ := XR_0 wf xr
  have ok := wf_ok wf
  have k6 := ok.2.1
  unfold p_X6_takeSemicolon p_X6_takeSemicolon_20
  have e : nI (a_h0 R).1 = 6 ↔ (a_h0 R).1 = 6 := nI_eq (b := 6) (by omega) (by omega)
  rw [c7, c9, e]
  unfold a_semi a_wd at h
  have bad : ¬ ((a_h0 R).1 = 6 ∧ (a_h0 R).2.2 = 59) → p_X6_blame S 2 K := by
    intro w
    rw [decide_eq_false w, if_neg (by decide)] at h
    exact x_blame (f := 2) wf xr h
  by_cases c6 : (a_h0 R).1 = 6
  · have hv := ok.2.2.2.2.2 c6
    have e9 : lN (a_h0 R).2.2 = 59 ↔ (a_h0 R).2.2 = 59 := pk_lEQ (b := 59) (by omega) (by omega)
    rw [e9]
    simp only [c6, eq_self, reduceCtorEq, true_implies, false_implies, and_true, true_and, not_true_eq_false, not_false_eq_true]
    by_cases c59 : (a_h0 R).2.2 = 59
    · rw [decide_eq_true ⟨c6, c59⟩, if_pos rfl] at h
      simp only [c59, eq_self, reduceCtorEq, true_implies, false_implies, and_true, true_and, not_true_eq_false, not_false_eq_true]
      exact x_pas wf (by omega) xr (fun S' f xr' _ => h S' (fr_w f psf_ccf) ⟨f, xr'⟩)
    · simp only [c59, eq_self, reduceCtorEq, true_implies, false_implies, and_true, true_and, not_true_eq_false, not_false_eq_true]
      exact bad (fun w => c59 w.2)
  · simp only [c6, eq_self, reduceCtorEq, true_implies, false_implies, and_true, true_and, not_true_eq_false, not_false_eq_true]
    exact bad (fun w => c6 w.1)
theorem x_takeWN {S : vSt} {R : List aK} {q lo hi : Nat} {K : Bool → vSt → Prop} (wf : a_wf R) (xr : a_XR S R) (hq : q < 22) (h1 : lo < 2 ^ 30) (h2 : hi < 2 ^ 30) (h : a_XF S K (fun g S' => a_fr a_psf S S' ∧ a_XR S' g.2 ∧ S'.2 5 10 = lN g.1) (a_bi (a_wd (a_is (a_h0 R) q) R) (a_nu lo hi))) : p_X1_takeWordAndNumber S (nI q) (nI lo) (nI hi) K := by
  unfold p_X1_takeWordAndNumber
  refine x_takeWord wf xr hq ?_
  cases c : a_wd (a_is (a_h0 R) q) R with
  | inl e =>
    rw [c] at h
    intro S' f b1 b2
    simp only [eq_self, reduceCtorEq, true_implies, false_implies, and_true, true_and, not_true_eq_false, not_false_eq_true]
    exact h S' f b1 b2
  | inr R1 =>
    rw [c] at h
    have h : a_XF S K (fun g S' => a_fr a_psf S S' ∧ a_XR S' g.2 ∧ S'.2 5 10 = lN g.1) (a_nu lo hi R1) := h
    have wf1 := wd_wf wf (fun w => (is_k w).1) c
    rintro S1 f1 ⟨g1, xr1⟩
    simp only [eq_self, reduceCtorEq, true_implies, false_implies, and_true, true_and, not_true_eq_false, not_false_eq_true]
    refine x_takeNumber wf1 xr1 h1 h2 ?_
    cases d : a_nu lo hi R1 with
    | inl e =>
      rw [d] at h
      intro S' f b1 b2
      simp only [eq_self, reduceCtorEq, true_implies, false_implies, and_true, true_and, not_true_eq_false, not_false_eq_true]
      exact h S' (fr_t f1 f) b1 b2
    | inr g =>
      rw [d] at h
      rintro S' f ⟨f2, xr2, tk⟩
      simp only [eq_self, reduceCtorEq, true_implies, false_implies, and_true, true_and, not_true_eq_false, not_false_eq_true]
      exact h S' (fr_t f1 f) ⟨fr_t g1 f2, xr2, tk⟩
/-! names -/
def a_nmX (S : vSt) (b : Nat) (m : Nat → Int32) (nm : Nat → Nat) : Prop := (∀ p, p < a_P m → S.2 (b + 2) p = lN (nm p)) ∧ ∀ d, d < a_D m → S.2 (b + 8) d = lN (nm (8 + d))
def a_nmb (m : Nat → Int32) (nm : Nat → Nat) : Prop := (∀ p, p < a_P m → nm p < 2 ^ 40) ∧ ∀ d, d < a_D m → nm (8 + d) < 2 ^ 40
def a_pb (m : Nat → Int32) (nm : Nat → Nat) (v : Nat) : Option Nat := v_first (fun p => decide (nm p = v)) (a_P m)
def a_db (m : Nat → Int32) (nm : Nat → Nat) (v : Nat) : Option Nat := v_first (fun d => decide (nm (8 + d) = v)) (a_D m)
def a_oi (o : Option Nat) : Int32 := match o with
  | none => -1
  | some k => nI k
theorem x_personBy {S : vSt} {b v : Nat} {m : Nat → Int32} {nm : Nat → Nat} {K : Int32 → vSt → Prop} (ok : a_ok m) (R : a_R S b m) (nx : a_nmX S b m nm) (nb : a_nmb m nm) (hv : v < 2 ^ 40) (h : K (a_oi (a_pb m nm v)) S) : p_X0_personBy b S (lN v) K := by
  have h8 := ok_P8 ok
  unfold p_X0_personBy
  refine v_loop (fun fu i (z : Unit) => p_X0_personBy_2 b (lN v) K fu S (nI i)) (fun i z => ∀ j, j < i → decide (nm j = v) = false) (a_P m) (fun fu i z hi hz hk => ?_) (fun fu z hz => ?_) () (fun j hj => absurd hj (by omega))
  · have n1 : ¬ nI (a_P m) ≤ nI i := nI_ge hi (by omega)
    have hb := nb.1 i hi
    simp only [e_X0_personBy_2, R_0 R, ok_m0 ok, n1, eq_self, reduceCtorEq, true_implies, false_implies, and_true, true_and, not_true_eq_false, not_false_eq_true, e_atl (show i < 8 by omega) (show 8 < 2 ^ 31 by omega), nx.1 i hi, pk_lEQ (show nm i < 2 ^ 63 by omega) (show v < 2 ^ 63 by omega), forall_eq, nIs]
    by_cases c : nm i = v
    · simp only [c, eq_self, reduceCtorEq, true_implies, false_implies, and_true, true_and, not_true_eq_false, not_false_eq_true]
      unfold a_pb at h
      rw [first_some hz (decide_eq_true c) _ hi] at h
      exact h
    · simp only [c, eq_self, reduceCtorEq, true_implies, false_implies, and_true, true_and, not_true_eq_false, not_false_eq_true]
      refine hk () (fun j hj => ?_)
      by_cases e : j = i
      · rw [e]; exact decide_eq_false c
      · exact hz j (by omega)
  · simp only [e_X0_personBy_2, R_0 R, ok_m0 ok, Int32.le_refl, eq_self, reduceCtorEq, true_implies, false_implies, and_true, true_and, not_true_eq_false, not_false_eq_true]
    unfold a_pb at h
    rw [first_none _ hz] at h
    exact h
theorem x_deedBy {S : vSt} {b v : Nat} {m : Nat → Int32} {nm : Nat → Nat} {K : Int32 → vSt → Prop} (ok : a_ok m) (R : a_R S b m) (nx : a_nmX S b m nm) (nb : a_nmb m nm) (hv : v < 2 ^ 40) (h : K (a_oi (a_db m nm v)) S) : p_X0_deedBy b S (lN v) K := by
  have h10 := ok_D10 ok
  unfold p_X0_deedBy
  refine v_loop (fun fu i (z : Unit) => p_X0_deedBy_2 b (lN v) K fu S (nI i)) (fun i z => ∀ j, j < i → decide (nm (8 + j) = v) = false) (a_D m) (fun fu i z hi hz hk => ?_) (fun fu z hz => ?_) () (fun j hj => absurd hj (by omega))
  · have n1 : ¬ nI (a_D m) ≤ nI i := nI_ge hi (by omega)
    have hb := nb.2 i hi
    simp only [e_X0_deedBy_2, R_1 R, ok_m1 ok, n1, eq_self, reduceCtorEq, true_implies, false_implies, and_true, true_and, not_true_eq_false, not_false_eq_true, e_atl (show i < 10 by omega) (show 10 < 2 ^ 31 by omega), nx.2 i hi, pk_lEQ (show nm (8 + i) < 2 ^ 63 by omega) (show v < 2 ^ 63 by omega), forall_eq, nIs]
    by_cases c : nm (8 + i) = v
    · simp only [c, eq_self, reduceCtorEq, true_implies, false_implies, and_true, true_and, not_true_eq_false, not_false_eq_true]
      unfold a_db at h
      rw [first_some hz (decide_eq_true c) _ hi] at h
      exact h
    · simp only [c, eq_self, reduceCtorEq, true_implies, false_implies, and_true, true_and, not_true_eq_false, not_false_eq_true]
      refine hk () (fun j hj => ?_)
      by_cases e : j = i
      · rw [e]; exact decide_eq_false c
      · exact hz j (by omega)
  · simp only [e_X0_deedBy_2, R_1 R, ok_m1 ok, Int32.le_refl, eq_self, reduceCtorEq, true_implies, false_implies, and_true, true_and, not_true_eq_false, not_false_eq_true]
    unfold a_db at h
    rw [first_none _ hz] at h
    exact h
theorem oi_m1 {o : Option Nat} (h : ∀ k, o = some k → k < 2 ^ 30) : a_oi o = -1 ↔ o = none := by
  cases o with
  | none => exact ⟨fun _ => rfl, fun _ => rfl⟩
  | some k =>
    have hk := h k rfl
    refine ⟨fun w => ?_, fun w => by cases w⟩
    have w : nI k = -1 := w
    have z : ¬ nI k < 0 := nI_pos (by omega)
    rw [w] at z
    exact absurd (by decide) z
theorem pb_lt {m : Nat → Int32} {nm : Nat → Nat} {v k : Nat} (h : a_pb m nm v = some k) : k < a_P m := first_lt _ _ h
theorem db_lt {m : Nat → Int32} {nm : Nat → Nat} {v k : Nat} (h : a_db m nm v = some k) : k < a_D m := first_lt _ _ h
def a_newn (m : Nat → Int32) (nm : Nat → Nat) (R : List aK) : aF ⊕ (Nat × List aK) := if (a_h0 R).1 = 3 then (if a_pb m nm (a_h0 R).2.2 = none ∧ a_db m nm (a_h0 R).2.2 = none then .inr ((a_h0 R).2.2, R.tail) else .inl (3, (a_h0 R).2.1)) else .inl (a_bl R 2)
theorem newn_wf {m : Nat → Int32} {nm : Nat → Nat} {R : List aK} {g : Nat × List aK} (h : a_wf R) (e : a_newn m nm R = .inr g) : a_wf g.2 ∧ g.1 < 2 ^ 40 := by
  unfold a_newn at e
  split at e
  · next q =>
    split at e
    · cases e
      exact ⟨wf_tl h (by omega), ((wf_ok h).2.2.2.1 q).1⟩
    · cases e
  · cases e
theorem x_takeNewName {S : vSt} {R : List aK} {m : Nat → Int32} {nm : Nat → Nat} {K : Bool → vSt → Prop} (ok : a_ok m) (R32 : a_R S 32 m) (nx : a_nmX S 32 m nm) (nb : a_nmb m nm) (wf : a_wf R) (xr : a_XR S R) (h : a_XF S K (fun g S' => a_fr a_psf S S' ∧ a_XR S' g.2 ∧ S'.2 5 10 = lN g.1) (a_newn m nm R)) : p_X1_takeNewName S K := by
  obtain ⟨c7, c8, c9⟩ := XR_0 wf xr
  have tok := wf_ok wf
  have k6 := tok.2.1
  have h8 := ok_P8 ok
  have h10 := ok_D10 ok
  unfold p_X1_takeNewName p_X1_takeNewName_56
  have e : nI (a_h0 R).1 = 3 ↔ (a_h0 R).1 = 3 := nI_eq (b := 3) (by omega) (by omega)
  rw [c7, c9, e]
  unfold a_newn at h
  by_cases c3 : (a_h0 R).1 = 3
  · have hv := (tok.2.2.2.1 c3).1
    rw [if_pos c3] at h
    simp only [c3, eq_self, reduceCtorEq, true_implies, false_implies, and_true, true_and, not_true_eq_false, not_false_eq_true]
    have bad : ¬ (a_pb m nm (a_h0 R).2.2 = none ∧ a_db m nm (a_h0 R).2.2 = none) → p_X6_blame S 3 K := by
      intro w
      rw [if_neg w] at h
      refine x_blame (f := 3) wf xr ?_
      unfold a_bl
      rw [if_neg (by omega)]
      exact h
    refine x_personBy ok R32 nx nb hv ?_
    rw [oi_m1 (fun k q => by have := pb_lt q; omega)]
    by_cases p1 : a_pb m nm (a_h0 R).2.2 = none
    · simp only [p1, eq_self, reduceCtorEq, true_implies, false_implies, and_true, true_and, not_true_eq_false, not_false_eq_true]
      rw [c9]
      refine x_deedBy ok R32 nx nb hv ?_
      rw [oi_m1 (fun k q => by have := db_lt q; omega)]
      by_cases p2 : a_db m nm (a_h0 R).2.2 = none
      · rw [if_pos ⟨p1, p2⟩] at h
        simp only [p2, eq_self, reduceCtorEq, true_implies, false_implies, and_true, true_and, not_true_eq_false, not_false_eq_true]
        exact x_pas wf (by omega) xr (fun S' f xr' tk => h S' (fr_w f psf_ccf) ⟨f, xr', tk⟩)
      · simp only [p2, eq_self, reduceCtorEq, true_implies, false_implies, and_true, true_and, not_true_eq_false, not_false_eq_true]
        exact bad (fun w => p2 w.2)
    · simp only [p1, eq_self, reduceCtorEq, true_implies, false_implies, and_true, true_and, not_true_eq_false, not_false_eq_true]
      exact bad (fun w => p1 w.1)
  · rw [if_neg c3] at h
    simp only [c3, eq_self, reduceCtorEq, true_implies, false_implies, and_true, true_and, not_true_eq_false, not_false_eq_true]
    exact x_blame (f := 2) wf xr h
/-! a person more -/
def a_fresh (m : Nat → Int32) : Prop := (∀ p, a_P m ≤ p → p < 8 → m (24 + p) = 0 ∧ m (32 + p) = 0 ∧ m (40 + p) = 0) ∧ ∀ d, a_D m ≤ d → d < 10 → m (78 + d) = 0 ∧ m (88 + d) = -1 ∧ m (98 + d) = -1
def a_adp (m : Nat → Int32) (c s : Int32) : Nat → Int32 := a_set (a_set (a_set m (8 + a_P m) c) (16 + a_P m) s) 0 (m 0 + 1)
theorem adp_ne {m : Nat → Int32} {c s : Int32} {i : Nat} (h0 : i ≠ 0) (h1 : i ≠ 8 + a_P m) (h2 : i ≠ 16 + a_P m) : a_adp m c s i = m i := by
  unfold a_adp
  rw [a_set_ne h0, a_set_ne h2, a_set_ne h1]
theorem adp_8 {m : Nat → Int32} {c s : Int32} : a_adp m c s (8 + a_P m) = c := by
  unfold a_adp
  rw [a_set_ne (by omega), a_set_ne (by omega), a_set_eq]
theorem adp_16 {m : Nat → Int32} {c s : Int32} : a_adp m c s (16 + a_P m) = s := by
  unfold a_adp
  rw [a_set_ne (by omega), a_set_eq]
theorem adp_PD {m : Nat → Int32} {c s : Int32} (ok : a_ok m) (hP : a_P m < 8) : a_P (a_adp m c s) = a_P m + 1 ∧ a_D (a_adp m c s) = a_D m := by
  refine ⟨?_, ?_⟩
  · have e : a_adp m c s 0 = nI (a_P m + 1) := by
      unfold a_adp
      rw [a_set_eq, ok_m0 ok, nIs]
    have e2 : a_P (a_adp m c s) = a_n (a_adp m c s 0) := rfl
    rw [e2, e, a_n_nI (by omega)]
  · unfold a_D
    rw [adp_ne (by omega) (by omega) (by omega)]
theorem adp_set8 {m : Nat → Int32} {c c' s : Int32} : a_set (a_adp m c s) (8 + a_P m) c' = a_adp m c' s := by
  funext i
  by_cases h0 : i = 0
  · subst h0
    rw [a_set_ne (by omega)]
    rfl
  · by_cases h2 : i = 16 + a_P m
    · subst h2
      rw [a_set_ne (by omega), adp_16, adp_16]
    · by_cases h1 : i = 8 + a_P m
      · subst h1
        rw [a_set_eq, adp_8]
      · rw [a_set_ne h1, adp_ne h0 h1 h2, adp_ne h0 h1 h2]
theorem adp_set16 {m : Nat → Int32} {c s s' : Int32} : a_set (a_adp m c s) (16 + a_P m) s' = a_adp m c s' := by
  funext i
  by_cases h0 : i = 0
  · subst h0
    rw [a_set_ne (by omega)]
    rfl
  · by_cases h2 : i = 16 + a_P m
    · subst h2
      rw [a_set_eq, adp_16]
    · rw [a_set_ne h2]
      by_cases h1 : i = 8 + a_P m
      · subst h1
        rw [adp_8, adp_8]
      · rw [adp_ne h0 h1 h2, adp_ne h0 h1 h2]
theorem ok_adp {m : Nat → Int32} {c s : Nat} (ok : a_ok m) (fr : a_fresh m) (hP : a_P m < 8) (hc : c ≤ 9999) (hs : s ≤ 16) : a_ok (a_adp m (nI c) (nI s)) := by
  have h10 := ok_D10 ok
  obtain ⟨eP, eD⟩ := adp_PD (c := nI c) (s := nI s) ok hP
  have e0 : a_adp m (nI c) (nI s) 0 = nI (a_P m + 1) := by
    unfold a_adp
    rw [a_set_eq, ok_m0 ok, nIs]
  have lo : ∀ i, i ≠ 0 → i ≠ 8 + a_P m → i ≠ 16 + a_P m → a_adp m (nI c) (nI s) i = m i := fun i h0 h1 h2 => adp_ne h0 h1 h2
  refine ⟨?_, ?_, ?_, ?_, ?_, ?_, ?_, fun q hq => ?_, fun e he => ?_⟩
  · rw [e0]; exact a_nb_nI (by omega) (by omega) (by omega)
  · rw [lo 1 (by omega) (by omega) (by omega)]; exact ok.2.1
  · rw [lo 2 (by omega) (by omega) (by omega)]; exact ok_J ok
  · rw [lo 3 (by omega) (by omega) (by omega)]; exact ok_F ok
  · rw [lo 4 (by omega) (by omega) (by omega)]; exact ok_L ok
  · rw [lo 5 (by omega) (by omega) (by omega)]; exact ok_H ok
  · rw [lo 6 (by omega) (by omega) (by omega)]; exact ok_T ok
  · rw [eP] at hq
    unfold a_okP
    rw [eD]
    by_cases w : q = a_P m
    · rw [w, adp_8, adp_16, lo (40 + a_P m) (by omega) (by omega) (by omega), (fr.1 (a_P m) (Nat.le_refl _) hP).2.2]
      have e2 : (nI c).toInt = c := nI_toInt (by omega)
      refine ⟨?_, a_nb_nI (by omega) (by omega) (by omega), a_nb_nI (n := 0) (by omega) (by omega) (by omega)⟩
      unfold a_rg
      omega
    · rw [lo (8 + q) (by omega) (by omega) (by omega), lo (16 + q) (by omega) (by omega) (by omega), lo (40 + q) (by omega) (by omega) (by omega)]
      exact ok_p ok (by omega)
  · rw [eD] at he
    have q := ok_d ok he
    unfold a_okD at q ⊢
    rw [eP, lo (48 + e) (by omega) (by omega) (by omega), lo (58 + e) (by omega) (by omega) (by omega), lo (68 + e) (by omega) (by omega) (by omega), lo (78 + e) (by omega) (by omega) (by omega), lo (88 + e) (by omega) (by omega) (by omega), lo (98 + e) (by omega) (by omega) (by omega)]
    obtain ⟨⟨⟨q1, q2, q3⟩, q0⟩, q4⟩ := q
    exact ⟨⟨⟨q1, q2, by omega⟩, by omega⟩, q4⟩
theorem fresh_adp {m : Nat → Int32} {c s : Int32} (ok : a_ok m) (fr : a_fresh m) (hP : a_P m < 8) : a_fresh (a_adp m c s) := by
  have h10 := ok_D10 ok
  obtain ⟨eP, eD⟩ := adp_PD (c := c) (s := s) ok hP
  unfold a_fresh
  rw [eP, eD]
  refine ⟨fun p h1 h2 => ?_, fun d h1 h2 => ?_⟩
  · rw [adp_ne (by omega) (by omega) (by omega), adp_ne (by omega) (by omega) (by omega), adp_ne (by omega) (by omega) (by omega)]
    exact fr.1 p (by omega) h2
  · rw [adp_ne (by omega) (by omega) (by omega), adp_ne (by omega) (by omega) (by omega), adp_ne (by omega) (by omega) (by omega)]
    exact fr.2 d h1 h2
theorem R_adp {S : vSt} {b : Nat} {m : Nat → Int32} {w : Int64} {c s : Int32} (ok : a_ok m) (fr : a_fresh m) (R : a_R S b m) (hP : a_P m < 8) : a_R (v_si (v_si (v_si (v_si (v_si (v_sl (v_si S b 15 (m 0 + 1)) (b + 2) (a_P m) w) (b + 3) (a_P m) c) (b + 4) (a_P m) s) (b + 5) (a_P m) 0) (b + 6) (a_P m) 0) (b + 7) (a_P m) 0) b (a_adp m c s) := by
  obtain ⟨eP, eD⟩ := adp_PD (c := c) (s := s) ok hP
  obtain ⟨z1, z2, z3⟩ := fr.1 (a_P m) (Nat.le_refl _) hP
  have h10 := ok_D10 ok
  intro j lv
  have hj := a_lv_lt lv
  by_cases c40 : j = 40 + a_P m
  · rw [c40, adp_ne (by omega) (by omega) (by omega), z3]; exact xr_eq (a_xr40 _ hP)
  rw [xr_ne hj (by omega) (a_xr40 _ hP) c40]
  by_cases c32 : j = 32 + a_P m
  · rw [c32, adp_ne (by omega) (by omega) (by omega), z2]; exact xr_eq (a_xr32 _ hP)
  rw [xr_ne hj (by omega) (a_xr32 _ hP) c32]
  by_cases c24 : j = 24 + a_P m
  · rw [c24, adp_ne (by omega) (by omega) (by omega), z1]; exact xr_eq (a_xr24 _ hP)
  rw [xr_ne hj (by omega) (a_xr24 _ hP) c24]
  by_cases c16 : j = 16 + a_P m
  · rw [c16, adp_16]; exact xr_eq (a_xr16 _ hP)
  rw [xr_ne hj (by omega) (a_xr16 _ hP) c16]
  by_cases c8 : j = 8 + a_P m
  · rw [c8, adp_8]; exact xr_eq (a_xr8 _ hP)
  rw [xr_ne hj (by omega) (a_xr8 _ hP) c8, sl1]
  by_cases c0 : j = 0
  · rw [c0]
    have e : a_adp m c s 0 = m 0 + 1 := a_set_eq
    rw [e]
    exact xr_eq (b := b) (o := 0) (i := 15) (j := 0) rfl
  have e : (v_si S b 15 (m 0 + 1)).1 (b + (a_xr j).1) (a_xr j).2 = S.1 (b + (a_xr j).1) (a_xr j).2 := xr_ne (b := b) (o := 0) (i := 15) (j0 := 0) hj (by omega) rfl c0
  rw [e, adp_ne c0 c8 c16]
  refine R j ?_
  unfold a_lv at lv ⊢
  rw [eP, eD] at lv
  rcases lv with q | q | q | ⟨r1, r2, r3, r4⟩
  · exact Or.inl q
  · exact Or.inr (Or.inl (by omega))
  · exact Or.inr (Or.inr (Or.inl q))
  · rw [adp_ne (by omega) (by omega) (by omega)] at r4
    exact Or.inr (Or.inr (Or.inr ⟨r1, r2, r3, r4⟩))
def a_up2 (nm : Nat → Nat) (k w : Nat) : Nat → Nat := fun i => if i = k then w else nm i
/-- the frame of a draft -/
def a_dr2 (k j : Nat) : Bool := decide ((32 ≤ k ∧ k ≤ 46) ∨ (55 ≤ k ∧ k ≤ 57))
theorem dr_ccf : ∀ k j, a_ccf k j = false → a_dr2 k j = false := by
  intro k j q
  unfold a_ccf at q
  unfold a_dr2
  rw [decide_eq_false_iff_not] at q ⊢
  omega
theorem XR_dr {S S' : vSt} {R : List aK} (h : a_XR S R) (f : a_fr a_dr2 S S') : a_XR S' R := XR_fr h f (fun k j w => decide_eq_false (by omega))
theorem x_addPerson {S : vSt} {m : Nat → Int32} {nm : Nat → Nat} {w : Nat} {K : Int32 → vSt → Prop} (ok : a_ok m) (fr : a_fresh m) (R : a_R S 32 m) (nx : a_nmX S 32 m nm) (hP : a_P m < 8) (h : ∀ S', a_fr a_dr2 S S' → a_R S' 32 (a_adp m 100 0) → a_nmX S' 32 (a_adp m 100 0) (a_up2 nm (a_P m) w) → S'.1 55 2 = S.1 55 2 → K (nI (a_P m)) S') : p_X0_addPerson 32 S (lN w) K := by
  obtain ⟨eP, eD⟩ := adp_PD (c := 100) (s := 0) ok hP
  unfold p_X0_addPerson
  rw [R_0 R]
  rintro _ rfl _ rfl
  have R2 := R_adp (w := lN w) (c := 100) (s := 0) ok fr R hP
  rw [ok_m0 ok] at R2 ⊢
  rw [e_putl hP (by omega), e_put hP (by omega), e_put hP (by omega), e_put hP (by omega), e_put hP (by omega), e_put hP (by omega)]
  refine h _ (fr_i (fr_i (fr_i (fr_i (fr_i (fr_l (fr_i fr_r rfl) rfl) rfl) rfl) rfl) rfl) rfl) R2 ?_ rfl
  unfold a_nmX
  rw [eP, eD]
  refine ⟨fun p hp => ?_, fun d hd => ?_⟩
  · show (v_sl (v_si S 32 15 (nI (a_P m) + 1)) (32 + 2) (a_P m) (lN w)).2 (32 + 2) p = _
    rw [sl2]
    unfold a_up2
    by_cases c : p = a_P m
    · rw [if_pos ⟨rfl, c⟩, if_pos c]
    · rw [if_neg (fun w => c w.2), if_neg c]
      exact nx.1 p (by omega)
  · show (v_sl (v_si S 32 15 (nI (a_P m) + 1)) (32 + 2) (a_P m) (lN w)).2 (32 + 8) d = _
    rw [sl2, if_neg (fun w => by omega)]
    unfold a_up2
    rw [if_neg (by omega)]
    exact nx.2 d hd
/-! a deed more -/
theorem cmt_fresh {m : Nat → Int32} {p f o : Int32} (ok : a_ok m) (fr : a_fresh m) (hd : a_D m < 10) : a_cmt m p f o = a_cm1 m p f o := by
  have h8 := ok_P8 ok
  obtain ⟨z1, z2, z3⟩ := fr.2 (a_D m) (Nat.le_refl _) hd
  funext i
  unfold a_cmt a_opk
  by_cases c : 40 ≤ i ∧ i < 40 + 8
  · rw [if_pos c, cm1_ne (by omega) (by omega) (by omega) (by omega)]
    by_cases w : i - 40 < a_P m
    · have := drop_bit ok w hd
      rw [show 40 + (i - 40) = i by omega] at this
      exact this
    · have := (fr.1 (i - 40) (by omega) (by omega)).2.2
      rw [show 40 + (i - 40) = i by omega] at this
      rw [this]
      unfold a_off
      exact Int32.zero_and
  · rw [if_neg c]
    by_cases c1 : i = 78 + a_D m
    · rw [c1, hd3_78, cm1_ne (by omega) (by omega) (by omega) (by omega), z1]
    · by_cases c2 : i = 88 + a_D m
      · rw [c2, hd3_88, cm1_ne (by omega) (by omega) (by omega) (by omega), z2]
      · by_cases c3 : i = 98 + a_D m
        · rw [c3, hd3_98, cm1_ne (by omega) (by omega) (by omega) (by omega), z3]
        · rw [hd3_ne c1 c2 c3]
theorem fresh_cm1 {m : Nat → Int32} {p f o : Int32} (ok : a_ok m) (fr : a_fresh m) (hd : a_D m < 10) : a_fresh (a_cm1 m p f o) := by
  have h8 := ok_P8 ok
  obtain ⟨eP, eD⟩ := cmt_PD (p := p) (f := f) (o := o) ok
  rw [cmt_fresh ok fr hd] at eP eD
  unfold a_fresh
  rw [eP, eD]
  refine ⟨fun q h1 h2 => ?_, fun d h1 h2 => ?_⟩
  · rw [cm1_ne (by omega) (by omega) (by omega) (by omega), cm1_ne (by omega) (by omega) (by omega) (by omega), cm1_ne (by omega) (by omega) (by omega) (by omega)]
    exact fr.1 q h1 h2
  · rw [cm1_ne (by omega) (by omega) (by omega) (by omega), cm1_ne (by omega) (by omega) (by omega) (by omega), cm1_ne (by omega) (by omega) (by omega) (by omega)]
    exact fr.2 d (by omega) h2
theorem x_addDeed {S : vSt} {m : Nat → Int32} {nm : Nat → Nat} {w : Nat} {p f o : Int32} {K : Int32 → vSt → Prop} (ok : a_ok m) (fr : a_fresh m) (R : a_R S 32 m) (nx : a_nmX S 32 m nm) (hd : a_D m < 10) (h : ∀ S', a_fr a_dr2 S S' → a_R S' 32 (a_cm1 m p f o) → a_nmX S' 32 (a_cm1 m p f o) (a_up2 nm (8 + a_D m) w) → S'.1 55 2 = S.1 55 2 → K (nI (a_D m)) S') : p_X0_addDeed 32 S (lN w) p f o K := by
  obtain ⟨eP, eD⟩ := cmt_PD (p := p) (f := f) (o := o) ok
  have h8 := ok_P8 ok
  have R2 := R_cmt (p := p) (f := f) (o := o) ok R hd
  rw [cmt_fresh ok fr hd] at eP eD R2
  unfold p_X0_addDeed
  rw [R_1 R]
  rintro _ rfl _ rfl
  rw [ok_m1 ok] at R2 ⊢
  rw [e_putl hd (by omega), e_put hd (by omega), e_put hd (by omega), e_put hd (by omega), e_put hd (by omega)]
  refine h _ (fr_i (fr_i (fr_i (fr_i (fr_l (fr_i fr_r rfl) rfl) rfl) rfl) rfl) rfl) R2 ?_ rfl
  unfold a_nmX
  rw [eP, eD]
  refine ⟨fun q hq => ?_, fun d hd' => ?_⟩
  · show (v_sl (v_si S 32 16 (nI (a_D m) + 1)) (32 + 8) (a_D m) (lN w)).2 (32 + 2) q = _
    rw [sl2, if_neg (fun w => by omega)]
    unfold a_up2
    rw [if_neg (by omega)]
    exact nx.1 q hq
  · show (v_sl (v_si S 32 16 (nI (a_D m) + 1)) (32 + 8) (a_D m) (lN w)).2 (32 + 8) d = _
    rw [sl2]
    unfold a_up2
    by_cases c : d = a_D m
    · rw [if_pos ⟨rfl, c⟩, if_pos (by omega)]
    · rw [if_neg (fun w => c w.2), if_neg (by omega)]
      exact nx.2 d (by omega)
