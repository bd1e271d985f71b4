/-! the model's steps -/
def a_kd (w : Nat) : Int32 := if w = 11 then 0 else if w = 12 then 1 else if w = 14 then 2 else if w = 15 then 3 else if w = 16 then 4 else if w = 19 then 5 else 6
def a_myf (k j : Nat) : Bool := decide ((k = 143 ∧ 12 ≤ j ∧ j ≤ 19) ∨ (k = 143 ∧ (j = 24 ∨ j = 25)) ∨ (k = 148 ∧ 1520 ≤ j) ∨ (k = 150 ∧ 72 ≤ j))
theorem mcf_myf : ∀ k j, a_myf k j = false → a_mcf k j = false := by
  intro k j q
  unfold a_myf at q
  unfold a_mcf
  rw [decide_eq_false_iff_not] at q ⊢
  omega
theorem mtf_myf : ∀ k j, a_myf k j = false → a_mtf k j = false := fun k j q => mtf_mcf k j (mcf_myf k j q)
theorem blk_myf : ∀ k j, a_myf k j = false → a_blk k j = false := fun k j q => blk_mcf k j (mcf_myf k j q)
theorem CM_myf {S S' : vSt} {m : Nat → Int32} {nm : Nat → Nat} (h : a_CM S m nm) (f : a_fr a_myf S S') : a_CM S' m nm := CM_fr h f (fun j hj => decide_eq_false (by omega)) (fun j hj => decide_eq_false (by omega))
theorem TT_myf {S S' : vSt} {C : Nat → Nat} {n : Nat} (T : a_TT S C n) (f : a_fr a_myf S S') : a_TT S' C n := TT_fr T f rfl (fun j => decide_eq_false (by omega))
/-- the model between two steps -/
def a_GY (C : Nat → Nat) (n : Nat) (S : vSt) (s : aY) (R : List aK) : Prop := a_MR S C n R ∧ S.1 143 12 = 0 ∧ S.1 143 25 = nI s.2.2.2.1 ∧ a_ye S s.2.1
/-- how a step's reading goes on -/
def a_fwd (m : Nat → Int32) (nm : Nat → Nat) (C : Nat → Nat) (n : Nat) (S0 : vSt) (k : Nat) (s : aY) (R : List aK) (σ : List (Nat × Nat)) (l : Nat) (Q : vSt → Prop) : Prop := (∀ e, a_ryr m nm k s R = .inl e → ∀ S', a_fr a_myf S0 S' → a_bad S' e → Q S') ∧ ∀ k' s' R', a_ryr m nm k s R = a_ryr m nm k' s' R' → a_YI s' → a_wf R' → R'.length ≤ k' → R'.length < l → s'.2.2.2.2 = σ → ∀ S', a_fr a_myf S0 S' → a_GY C n S' s' R' → Q S'
theorem stp_c {t : aK} (ok : a_tkok t) : (t.1 = 2 ∧ a_bgs t.2.2 = true ∧ a_stp t = a_kd t.2.2) ∨ (¬ (t.1 = 2 ∧ a_bgs t.2.2 = true) ∧ a_stp t = -1) := by
  obtain ⟨k, p, v⟩ := t
  have v2 := ok.2.2.1
  by_cases h2 : k = 2
  · subst h2
    have hv : v < 22 := v2 rfl
    have cs : v = 0 ∨ v = 1 ∨ v = 2 ∨ v = 3 ∨ v = 4 ∨ v = 5 ∨ v = 6 ∨ v = 7 ∨ v = 8 ∨ v = 9 ∨ v = 10 ∨ v = 11 ∨ v = 12 ∨ v = 13 ∨ v = 14 ∨ v = 15 ∨ v = 16 ∨ v = 17 ∨ v = 18 ∨ v = 19 ∨ v = 20 ∨ v = 21 := by omega
    rcases cs with rfl | rfl | rfl | rfl | rfl | rfl | rfl | rfl | rfl | rfl | rfl | rfl | rfl | rfl | rfl | rfl | rfl | rfl | rfl | rfl | rfl | rfl <;> simp [a_is, a_stp, a_bgs, a_kd]
  · have f : ∀ q, a_is (k, p, v) q = false := fun q => decide_eq_false (fun w => h2 w.1)
    refine Or.inr ⟨fun w => h2 w.1, ?_⟩
    unfold a_stp
    simp [f]
theorem m_rest {S : vSt} {C : Nat → Nat} {n k w : Nat} {R : List aK} {m : Nat → Int32} {nm : Nat → Nat} {Q : vSt → Prop} {y : Nat → Int32} (cm : a_CM S m nm) (T : a_TT S C n) (wf : a_wf R) (mr : a_MR S C n R) (z : S.1 143 12 = 0) (hk : k < 30) (hb : a_bgs w = true) (ye : a_ye S (a_set y (9 * k) (a_kd w))) (h : a_MH C n S Q (fun g => a_yr y k w g) (a_hdl m nm w R)) : p_X11_readRest S (nI (1630 + 9 * k)) Q := by
  have hb := of_decide_eq_true hb
  rcases hb with rfl | rfl | rfl | rfl | rfl | rfl | rfl
  · exact m_rest11 cm T wf mr z hk ye h
  · exact m_rest12 cm T wf mr z hk ye h
  · exact m_rest14 cm T wf mr z hk ye h
  · exact m_rest0 cm T wf mr z hk 3 (Or.inl rfl) ye h
  · exact m_rest16 cm T wf mr z hk ye h
  · exact m_rest19 cm T wf mr z hk ye h
  · exact m_rest0 cm T wf mr z hk 6 (Or.inr rfl) ye h
theorem q_190 {S0 S : vSt} {A : Nat} {e : aF} {x : Int32} {rc : vSt → Int32 → (vSt → Prop) → Prop} {Q : vSt → Prop} (bd : a_bad S e) (f : a_fr a_mcf S0 S) (h0 : 1520 ≤ A) (hA : A + 8 < 1900) (h : ∀ S', a_fr a_mcf S0 S' → a_bad S' e → Q S') : p_X11_readStep_190 x rc Q S (nI A) := by
  unfold p_X11_readStep_190
  exact st_b (i := A) (d := 8) bd f rfl h0 (by omega) h
theorem q_168 {S0 S : vSt} {A : Nat} {e : aF} {x : Int32} {b : Bool} {rc : vSt → Int32 → (vSt → Prop) → Prop} {Q : vSt → Prop} (bd : a_bad S e) (f : a_fr a_mcf S0 S) (h0 : 1520 ≤ A) (hA : A + 8 < 1900) (h : ∀ S', a_fr a_mcf S0 S' → a_bad S' e → Q S') : p_X11_readStep_168 x rc Q S b (nI A) := by
  have any : ∀ (K : Bool → vSt → Prop), (∀ b, K b S) → p_X11_isEnd S K := by
    intro K h
    unfold p_X11_isEnd
    rw [e_spelled, e_mWord]
    exact h _
  unfold p_X11_readStep_168
  exact ⟨fun _ => q_190 bd f h0 hA h, fun _ => any _ (fun _ => q_must bd (any_isSign (fun _ => q_must bd (q_190 bd f h0 hA h))))⟩
theorem q_140 {S0 S : vSt} {A j : Nat} {e : aF} {x : Int32} {b : Bool} {rc : vSt → Int32 → (vSt → Prop) → Prop} {Q : vSt → Prop} (bd : a_bad S e) (f : a_fr a_mcf S0 S) (h0 : 1520 ≤ A) (hA : A + 8 < 1900) (h : ∀ S', a_fr a_mcf S0 S' → a_bad S' e → Q S') : p_X11_readStep_140 x rc Q (j + 1) S b (nI A) := by
  have n := (bd_n bd).1
  rw [e_X11_readStep_140]
  simp only [n, eq_self, reduceCtorEq, true_implies, false_implies, and_true, true_and, not_true_eq_false, not_false_eq_true]
  exact ⟨fun _ => q_168 bd f h0 hA h, fun _ => q_168 bd f h0 hA h⟩
theorem q_81 {S : vSt} {e : aF} {x z : Int32} {b : Bool} {rc : vSt → Int32 → (vSt → Prop) → Prop} {Q : vSt → Prop} (bd : a_bad S e) (h : Q S) : p_X11_readStep_81 x rc Q S z b := by
  have n := (bd_n bd).2.1
  unfold p_X11_readStep_81
  simp only [n, eq_self, reduceCtorEq, true_implies, false_implies, and_true, true_and, not_true_eq_false, not_false_eq_true]
  exact h
theorem q_55 {S : vSt} {e : aF} {x z : Int32} {b : Bool} {rc : vSt → Int32 → (vSt → Prop) → Prop} {Q : vSt → Prop} (bd : a_bad S e) (h : Q S) : p_X11_readStep_55 x rc Q S z b := by
  have n := (bd_n bd).1
  unfold p_X11_readStep_55
  simp only [n, eq_self, reduceCtorEq, true_implies, false_implies, and_true, true_and, not_true_eq_false, not_false_eq_true]
  exact q_81 bd h
theorem q_29 {S : vSt} {e : aF} {x z : Int32} {b : Bool} {rc : vSt → Int32 → (vSt → Prop) → Prop} {Q : vSt → Prop} (bd : a_bad S e) (h : Q S) : p_X11_readStep_29 x rc Q S z b := by
  have n := (bd_n bd).1
  unfold p_X11_readStep_29
  simp only [n, eq_self, reduceCtorEq, true_implies, false_implies, and_true, true_and, not_true_eq_false, not_false_eq_true]
  exact q_55 bd h
theorem ryr_s {m : Nat → Int32} {nm : Nat → Nat} {k : Nat} {s : aY} {R : List aK} (h0 : (a_h0 R).1 ≠ 0) : a_ryr m nm (k + 1) s R = a_bi (a_yon m nm s R) (fun g => a_ryr m nm k g.1 g.2) := by
  show (if (a_h0 R).1 = 0 then (if s.2.2.2.2 = [] then (.inr s : aF ⊕ aY) else .inl (a_bl R 2)) else a_bi (a_yon m nm s R) (fun g => a_ryr m nm k g.1 g.2)) = _
  rw [if_neg h0]
/-- from an opened step to its end -/
theorem m_140 {m : Nat → Int32} {nm : Nat → Nat} {C : Nat → Nat} {n : Nat} {S0 : vSt} {k0 l0 : Nat} {s0 : aY} {R0 : List aK} {σ : List (Nat × Nat)} {d ln kr : Nat} {rc : vSt → Int32 → (vSt → Prop) → Prop} {Q : vSt → Prop} (T0 : a_TT S0 C n) (cm0 : a_CM S0 m nm) (hkr : kr < 30)
    (hrc : ∀ S1 k s R Q', a_YI s → a_wf R → R.length ≤ k → s.2.2.2.2 = (ln, kr) :: σ → a_is (a_h0 R) 20 = false → a_fr a_myf S0 S1 → a_GY C n S1 s R → a_fwd m nm C n S1 k s R ((ln, kr) :: σ) R.length Q' → rc S1 (nI d + 1) Q')
    (fw : a_fwd m nm C n S0 k0 s0 R0 σ l0 Q) : ∀ j k s R S1, a_ryr m nm k0 s0 R0 = a_ryr m nm k s R → a_YI s → a_wf R → R.length ≤ k → R.length ≤ j → R.length < l0 → s.2.2.2.2 = (ln, kr) :: σ → a_fr a_myf S0 S1 → a_GY C n S1 s R → p_X11_readStep_140 (nI d) rc Q (j + 2) S1 true (nI (1630 + 9 * kr))
  | 0, k, s, R, S1, eq, yi, wf, hk, hj, hl, hs, f, G => by
    obtain ⟨t, R', rfl, -, -, -, -⟩ := wf_c wf
    exact absurd hj (by rw [List.length_cons]; omega)
  | j + 1, k, s, R, S1, eq, yi, wf, hk, hj, hl, hs, f, G => by
    obtain ⟨mr, z, e25, ye⟩ := id G
    have tok := wf_ok wf
    have lt := tl_len wf
    obtain ⟨k, rfl⟩ : ∃ k', k = k' + 1 := ⟨k - 1, by omega⟩
    have T1 := TT_myf T0 f
    rw [e_X11_readStep_140, z, e_isEnd (MR_c mr) tok]
    simp only [eq_self, reduceCtorEq, true_implies, false_implies, and_true, true_and, not_true_eq_false, not_false_eq_true]
    cases c : a_is (a_h0 R) 20
    · simp only [eq_self, reduceCtorEq, true_implies, false_implies, and_true, true_and, not_true_eq_false, not_false_eq_true]
      refine hrc S1 (k + 1) s R _ yi wf hk hs c f G ⟨fun e ee S' f' bd => ?_, fun k' s' R' ee yi' wf' hk' hl' hs' S' f' G' => ?_⟩
      · exact q_140 (S0 := S') bd fr_r (by omega) (by omega) (fun S2 f2 bd2 => fw.1 e (eq.trans ee) S2 (fr_t f (fr_t f' (fr_w f2 mcf_myf))) bd2)
      · exact m_140 T0 cm0 hkr hrc fw j k' s' R' S' (eq.trans ee) yi' wf' hk' (by omega) (by omega) hs' (fr_t f f') G'
    · simp only [eq_self, reduceCtorEq, true_implies, false_implies, and_true, true_and, not_true_eq_false, not_false_eq_true]
      have hk0 := (is_k c).1
      have wt := wf_tl wf hk0
      unfold p_X11_readStep_168
      rw [e_isEnd (MR_c mr) tok, c]
      simp only [eq_self, reduceCtorEq, true_implies, false_implies, and_true, true_and, not_true_eq_false, not_false_eq_true]
      refine m_must T1 wf mr z (fun _ => hk0) ?_
      intro S2 f2 mr2 z2
      have T2 := TT_mtf T1 f2
      show p_X11_isSign S2 (nI 59) _
      rw [e_isSign (MR_c mr2) (wf_ok wt) (by omega)]
      refine m_must T2 wt mr2 z2 (fun w => by have := of_decide_eq_true w; show (a_h0 R.tail).1 ≠ 0; omega) ?_
      show a_MFu C n S2 _ (a_semi R.tail)
      have ey : a_yon m nm s R = a_yen s R := by unfold a_yon; rw [if_pos c]
      obtain ⟨W, y, N, K, σ'⟩ := s
      simp only at hs e25 ye
      subst hs
      have ee : a_yen (W, y, N, K, (ln, kr) :: σ) R = a_bi (a_semi R.tail) (fun R' => .inr ((a_wp (a_wp (a_w4 W N 20 (-1, -1, 0)) ln N) N ln, a_set y (9 * kr + 8) (nI K), N + 1, K, σ), R')) := rfl
      have er := eq.trans (ryr_s hk0)
      rw [ey] at er
      cases q : a_semi R.tail with
      | inl e =>
        rw [ee, q] at er
        intro S' f' bd
        exact q_190 (S0 := S') bd fr_r (by omega) (by omega) (fun S3 f3 bd3 => fw.1 e er S3 (fr_t f (fr_t (fr_w (fr_t f2 f') mtf_myf) (fr_w f3 mcf_myf))) bd3)
      | inr R' =>
        have yo := yen_ok yi wf c (ee.trans (by rw [q]; rfl))
        rw [ee, q] at er
        obtain ⟨yi', wf', hl'⟩ := yo
        intro S3 f3 mr3 z3
        have F3 := fr_t f2 f3
        have e25' : S3.1 143 25 = nI K := (F3 143 25 rfl).1.trans e25
        unfold p_X11_readStep_190
        rw [e25']
        simp only at hl' wf'
        refine st_y (j := 9 * kr) rfl (by omega) 8 (by omega) (TT_mtf T1 F3) mr3 z3 (ye_mtf ye F3) (fun S4 f4 T4 mr4 z4 ye4 => ?_)
        exact fw.2 k _ R' er yi' wf' (by omega) (by omega) rfl S4 (fr_t f (fr_t (fr_w F3 mtf_myf) (fr_w f4 blk_myf))) ⟨mr4, z4, (f4 143 25 rfl).1.trans e25', ye4⟩
