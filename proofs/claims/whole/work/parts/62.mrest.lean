/-! a step's rest, in good mode -/
theorem m_rest11 {S : vSt} {C : Nat → Nat} {n k : Nat} {R : List aK} {m : Nat → Int32} {nm : Nat → Nat} {Q : vSt → Prop} {y : Nat → Int32} (cm : a_CM S m nm) (T : a_TT S C n) (wf : a_wf R) (mr : a_MR S C n R) (z : S.1 143 12 = 0) (hk : k < 30) (ye : a_ye S (a_set y (9 * k) 0)) (h : a_MH C n S Q (fun g => a_yr y k 11 g) (a_hch m nm R)) : p_X11_readRest S (nI (1630 + 9 * k)) Q := by
  (unfold p_X11_readRest; rw [ncl (by omega)]; refine ⟨vpin ⟨by omega, by omega⟩, ?_⟩; rintro _ rfl; rw [(ye (9 * k) (by omega)).trans a_set_eq])
  simp only [show ¬ (0 : Int32) = 5 from by decide, show ¬ (0 : Int32) = 4 from by decide, show ¬ 3 ≤ (0 : Int32) from by decide, eq_self, reduceCtorEq, true_implies, false_implies, and_true, true_and, not_true_eq_false, not_false_eq_true]
  refine m_toldP cm T wf mr z ?_
  unfold a_hch at h
  cases e1 : a_own2 m nm R with
  | inl e =>
    rw [e1] at h
    intro S' f bd
    exact st_b (i := 1630 + 9 * k) (d := 1) bd (fr_w f mtf_mcf) rfl (by omega) (by omega) (fun S2 f2 bd2 => q_62 bd2 f2 (by omega) (by omega) h)
  | inr p =>
    rw [e1] at h
    have h : a_MH C n S Q (fun g => a_yr y k 11 g) (a_bi (a_own3 m nm p.2) (fun d => .inr ((nI p.1, nI d.1, 0), d.2))) := h
    obtain ⟨w1, -, -⟩ := own2_ok wf e1
    intro S1 f1 mr1 z1
    refine st_y (j := 9 * k) rfl (by omega) 1 (by omega) (TT_mtf T f1) mr1 z1 (ye_mtf ye f1) (fun S2 f2 T2 mr2 z2 ye2 => ?_)
    have F2 : a_fr a_mcf S S2 := fr_t (fr_w f1 mtf_mcf) (fr_w f2 blk_mcf)
    unfold p_X11_readRest_62 p_X11_readRest_71
    simp only [eq_self, reduceCtorEq, true_implies, false_implies, and_true, true_and, not_true_eq_false, not_false_eq_true]
    refine m_toldD (CM_mcf cm F2) T2 w1 mr2 z2 ?_
    cases e2 : a_own3 m nm p.2 with
    | inl e =>
      rw [e2] at h
      intro S' f bd
      exact st_b (i := 1630 + 9 * k) (d := 2) bd (fr_t F2 (fr_w f mtf_mcf)) rfl (by omega) (by omega) (fun S3 f3 bd3 => q_85 bd3 f3 (by omega) (by omega) h)
    | inr d =>
      rw [e2] at h
      intro S3 f3 mr3 z3
      refine st_y (j := 9 * k) rfl (by omega) 2 (by omega) (TT_mtf T2 f3) mr3 z3 (ye_mtf ye2 f3) (fun S4 f4 T4 mr4 z4 ye4 => ?_)
      have F4 : a_fr a_mcf S S4 := fr_t F2 (fr_t (fr_w f3 mtf_mcf) (fr_w f4 blk_mcf))
      unfold p_X11_readRest_85 p_X11_readRest_110
      simp only [show ¬ (0 : Int32) = 1 from by decide, show ¬ (0 : Int32) = 2 from by decide, eq_self, reduceCtorEq, true_implies, false_implies, and_true, true_and, not_true_eq_false, not_false_eq_true]
      exact h S4 F4 mr4 z4 ye4
theorem m_rest12 {S : vSt} {C : Nat → Nat} {n k : Nat} {R : List aK} {m : Nat → Int32} {nm : Nat → Nat} {Q : vSt → Prop} {y : Nat → Int32} (cm : a_CM S m nm) (T : a_TT S C n) (wf : a_wf R) (mr : a_MR S C n R) (z : S.1 143 12 = 0) (hk : k < 30) (ye : a_ye S (a_set y (9 * k) 1)) (h : a_MH C n S Q (fun g => a_yr y k 12 g) (a_hdr m nm R)) : p_X11_readRest S (nI (1630 + 9 * k)) Q := by
  (unfold p_X11_readRest; rw [ncl (by omega)]; refine ⟨vpin ⟨by omega, by omega⟩, ?_⟩; rintro _ rfl; rw [(ye (9 * k) (by omega)).trans a_set_eq])
  simp only [show ¬ (1 : Int32) = 5 from by decide, show ¬ (1 : Int32) = 4 from by decide, show ¬ 3 ≤ (1 : Int32) from by decide, eq_self, reduceCtorEq, true_implies, false_implies, and_true, true_and, not_true_eq_false, not_false_eq_true]
  refine m_toldP cm T wf mr z ?_
  unfold a_hdr at h
  cases e1 : a_own2 m nm R with
  | inl e =>
    rw [e1] at h
    intro S' f bd
    exact st_b (i := 1630 + 9 * k) (d := 1) bd (fr_w f mtf_mcf) rfl (by omega) (by omega) (fun S2 f2 bd2 => q_62 bd2 f2 (by omega) (by omega) h)
  | inr p =>
    rw [e1] at h
    have h : a_MH C n S Q (fun g => a_yr y k 12 g) (a_bi (a_own3 m nm p.2) (fun d => a_bi (a_wdn 13 0 9999 d.2) (fun z => .inr ((nI p.1, nI d.1, nI z.1), z.2)))) := h
    obtain ⟨w1, -, -⟩ := own2_ok wf e1
    intro S1 f1 mr1 z1
    refine st_y (j := 9 * k) rfl (by omega) 1 (by omega) (TT_mtf T f1) mr1 z1 (ye_mtf ye f1) (fun S2 f2 T2 mr2 z2 ye2 => ?_)
    have F2 : a_fr a_mcf S S2 := fr_t (fr_w f1 mtf_mcf) (fr_w f2 blk_mcf)
    unfold p_X11_readRest_62 p_X11_readRest_71
    simp only [show ¬ (1 : Int32) = 0 from by decide, eq_self, reduceCtorEq, true_implies, false_implies, and_true, true_and, not_true_eq_false, not_false_eq_true]
    refine m_toldD (CM_mcf cm F2) T2 w1 mr2 z2 ?_
    cases e2 : a_own3 m nm p.2 with
    | inl e =>
      rw [e2] at h
      intro S' f bd
      exact st_b (i := 1630 + 9 * k) (d := 2) bd (fr_t F2 (fr_w f mtf_mcf)) rfl (by omega) (by omega) (fun S3 f3 bd3 => q_85 bd3 f3 (by omega) (by omega) h)
    | inr d =>
      rw [e2] at h
      have h : a_MH C n S Q (fun g => a_yr y k 12 g) (a_bi (a_wdn 13 0 9999 d.2) (fun z => .inr ((nI p.1, nI d.1, nI z.1), z.2))) := h
      obtain ⟨w2, -, -⟩ := own3_ok w1 e2
      intro S3 f3 mr3 z3
      refine st_y (j := 9 * k) rfl (by omega) 2 (by omega) (TT_mtf T2 f3) mr3 z3 (ye_mtf ye2 f3) (fun S4 f4 T4 mr4 z4 ye4 => ?_)
      have F4 : a_fr a_mcf S S4 := fr_t F2 (fr_t (fr_w f3 mtf_mcf) (fr_w f4 blk_mcf))
      unfold p_X11_readRest_85
      simp only [eq_self, reduceCtorEq, true_implies, false_implies, and_true, true_and, not_true_eq_false, not_false_eq_true]
      rw [e_isFor (MR_c mr4) (wf_ok w2)]
      refine m_bw (q := 13) (lo := 0) (hi := 9999) T4 w2 mr4 z4 (by omega) (by omega) ?_
      cases e3 : a_wdn 13 0 9999 d.2 with
      | inl e =>
        rw [e3] at h
        intro S' f bd
        exact st_b (i := 1630 + 9 * k) (d := 3) bd (fr_t F4 (fr_w f mtf_mcf)) rfl (by omega) (by omega) (fun S3 f3 bd3 => q_110 bd3 f3 (by omega) (by omega) h)
      | inr zz =>
        rw [e3] at h
        intro S5 f5 mr5 z5
        refine st_y (j := 9 * k) rfl (by omega) 3 (by omega) (TT_mtf T4 f5) mr5 z5 (ye_mtf ye4 f5) (fun S6 f6 T6 mr6 z6 ye6 => ?_)
        have F6 : a_fr a_mcf S S6 := fr_t F4 (fr_t (fr_w f5 mtf_mcf) (fr_w f6 blk_mcf))
        unfold p_X11_readRest_110
        simp only [show ¬ (1 : Int32) = 2 from by decide, eq_self, reduceCtorEq, true_implies, false_implies, and_true, true_and, not_true_eq_false, not_false_eq_true]
        exact h S6 F6 mr6 z6 ye6
theorem m_rest14 {S : vSt} {C : Nat → Nat} {n k : Nat} {R : List aK} {m : Nat → Int32} {nm : Nat → Nat} {Q : vSt → Prop} {y : Nat → Int32} (cm : a_CM S m nm) (T : a_TT S C n) (wf : a_wf R) (mr : a_MR S C n R) (z : S.1 143 12 = 0) (hk : k < 30) (ye : a_ye S (a_set y (9 * k) 2)) (h : a_MH C n S Q (fun g => a_yr y k 14 g) (a_hea m nm R)) : p_X11_readRest S (nI (1630 + 9 * k)) Q := by
  (unfold p_X11_readRest; rw [ncl (by omega)]; refine ⟨vpin ⟨by omega, by omega⟩, ?_⟩; rintro _ rfl; rw [(ye (9 * k) (by omega)).trans a_set_eq])
  simp only [show ¬ (2 : Int32) = 5 from by decide, show ¬ (2 : Int32) = 4 from by decide, show ¬ 3 ≤ (2 : Int32) from by decide, eq_self, reduceCtorEq, true_implies, false_implies, and_true, true_and, not_true_eq_false, not_false_eq_true]
  refine m_toldP cm T wf mr z ?_
  unfold a_hea at h
  cases e1 : a_own2 m nm R with
  | inl e =>
    rw [e1] at h
    intro S' f bd
    exact st_b (i := 1630 + 9 * k) (d := 1) bd (fr_w f mtf_mcf) rfl (by omega) (by omega) (fun S2 f2 bd2 => q_62 bd2 f2 (by omega) (by omega) h)
  | inr p =>
    rw [e1] at h
    have h : a_MH C n S Q (fun g => a_yr y k 14 g) (a_bi (a_nu 1 999 p.2) (fun z => .inr ((nI p.1, -1, nI z.1), z.2))) := h
    obtain ⟨w1, -, -⟩ := own2_ok wf e1
    intro S1 f1 mr1 z1
    refine st_y (j := 9 * k) rfl (by omega) 1 (by omega) (TT_mtf T f1) mr1 z1 (ye_mtf ye f1) (fun S2 f2 T2 mr2 z2 ye2 => ?_)
    have F2 : a_fr a_mcf S S2 := fr_t (fr_w f1 mtf_mcf) (fr_w f2 blk_mcf)
    unfold p_X11_readRest_62 p_X11_readRest_85 p_X11_readRest_110
    simp only [show ¬ (2 : Int32) = 0 from by decide, show ¬ (2 : Int32) = 1 from by decide, eq_self, reduceCtorEq, true_implies, false_implies, and_true, true_and, not_true_eq_false, not_false_eq_true]
    refine m_count (lo := 1) (hi := 999) T2 w1 mr2 z2 (by omega) (by omega) ?_
    cases e2 : a_nu 1 999 p.2 with
    | inl e =>
      rw [e2] at h
      intro S' f bd
      exact st_b (i := 1630 + 9 * k) (d := 3) bd (fr_t F2 (fr_w f mtf_mcf)) rfl (by omega) (by omega) h
    | inr zz =>
      rw [e2] at h
      intro S3 f3 mr3 z3
      refine st_y (j := 9 * k) rfl (by omega) 3 (by omega) (TT_mtf T2 f3) mr3 z3 (ye_mtf ye2 f3) (fun S4 f4 T4 mr4 z4 ye4 => ?_)
      have F4 : a_fr a_mcf S S4 := fr_t F2 (fr_t (fr_w f3 mtf_mcf) (fr_w f4 blk_mcf))
      exact h S4 F4 mr4 z4 ye4
theorem m_rest19 {S : vSt} {C : Nat → Nat} {n k : Nat} {R : List aK} {m : Nat → Int32} {nm : Nat → Nat} {Q : vSt → Prop} {y : Nat → Int32} (cm : a_CM S m nm) (T : a_TT S C n) (wf : a_wf R) (mr : a_MR S C n R) (z : S.1 143 12 = 0) (hk : k < 30) (ye : a_ye S (a_set y (9 * k) 5)) (h : a_MH C n S Q (fun g => a_yr y k 19 g) (a_hlo R)) : p_X11_readRest S (nI (1630 + 9 * k)) Q := by
  (unfold p_X11_readRest; rw [ncl (by omega)]; refine ⟨vpin ⟨by omega, by omega⟩, ?_⟩; rintro _ rfl; rw [(ye (9 * k) (by omega)).trans a_set_eq])
  simp only [eq_self, reduceCtorEq, true_implies, false_implies, and_true, true_and, not_true_eq_false, not_false_eq_true]
  refine m_count (lo := 1) (hi := 99) T wf mr z (by omega) (by omega) ?_
  unfold a_hlo at h
  cases e2 : a_nu 1 99 R with
  | inl e =>
    rw [e2] at h
    intro S' f bd
    exact st_b (i := 1630 + 9 * k) (d := 1) bd (fr_w f mtf_mcf) rfl (by omega) (by omega) (fun S3 f3 bd3 => q_62 bd3 f3 (by omega) (by omega) h)
  | inr zz =>
    rw [e2] at h
    intro S3 f3 mr3 z3
    refine st_y (j := 9 * k) rfl (by omega) 1 (by omega) (TT_mtf T f3) mr3 z3 (ye_mtf ye f3) (fun S4 f4 T4 mr4 z4 ye4 => ?_)
    have F4 : a_fr a_mcf S S4 := fr_t (fr_w f3 mtf_mcf) (fr_w f4 blk_mcf)
    unfold p_X11_readRest_62 p_X11_readRest_85 p_X11_readRest_110
    simp only [show ¬ (5 : Int32) = 0 from by decide, show ¬ (5 : Int32) = 1 from by decide, show ¬ (5 : Int32) = 2 from by decide, eq_self, reduceCtorEq, true_implies, false_implies, and_true, true_and, not_true_eq_false, not_false_eq_true]
    exact h S4 F4 mr4 z4 ye4
/-- any, stop -/
theorem m_rest0 {S : vSt} {C : Nat → Nat} {n k : Nat} {R : List aK} {m : Nat → Int32} {nm : Nat → Nat} {Q : vSt → Prop} {y : Nat → Int32} (cm : a_CM S m nm) (T : a_TT S C n) (wf : a_wf R) (mr : a_MR S C n R) (z : S.1 143 12 = 0) (hk : k < 30) (x : Int32) (hx : x = 3 ∨ x = 6) (ye : a_ye S (a_set y (9 * k) x)) (h : ∀ S', a_fr a_mcf S S' → a_MR S' C n R → S'.1 143 12 = 0 → a_ye S' (a_set y (9 * k) x) → Q S') : p_X11_readRest S (nI (1630 + 9 * k)) Q := by
  (unfold p_X11_readRest; rw [ncl (by omega)]; refine ⟨vpin ⟨by omega, by omega⟩, ?_⟩; rintro _ rfl; rw [(ye (9 * k) (by omega)).trans a_set_eq])
  have go := h S fr_r mr z ye
  rcases hx with rfl | rfl
  · unfold p_X11_readRest_62 p_X11_readRest_85 p_X11_readRest_110
    simp only [show ¬ (3 : Int32) = 5 from by decide, show ¬ (3 : Int32) = 4 from by decide, show 3 ≤ (3 : Int32) from by decide, show ¬ (3 : Int32) = 0 from by decide, show ¬ (3 : Int32) = 1 from by decide, show ¬ (3 : Int32) = 2 from by decide, eq_self, reduceCtorEq, true_implies, false_implies, and_true, true_and, not_true_eq_false, not_false_eq_true]
    exact go
  · unfold p_X11_readRest_62 p_X11_readRest_85 p_X11_readRest_110
    simp only [show ¬ (6 : Int32) = 5 from by decide, show ¬ (6 : Int32) = 4 from by decide, show 3 ≤ (6 : Int32) from by decide, show ¬ (6 : Int32) = 0 from by decide, show ¬ (6 : Int32) = 1 from by decide, show ¬ (6 : Int32) = 2 from by decide, eq_self, reduceCtorEq, true_implies, false_implies, and_true, true_and, not_true_eq_false, not_false_eq_true]
    exact go
/-! when -/
theorem q_121 {S0 S : vSt} {A : Nat} {e : aF} {b : Bool} {Q : vSt → Prop} (bd : a_bad S e) (f : a_fr a_mcf S0 S) (h0 : 1520 ≤ A) (hA : A + 8 < 1900) (h : ∀ S', a_fr a_mcf S0 S' → a_bad S' e → Q S') : p_X11_readTest_121 (nI A) Q S b := by
  unfold p_X11_readTest_121
  exact q_must bd (q_count bd (st_b (i := A) (d := 2) bd f rfl h0 (by omega) h))
theorem q_46 {S0 S : vSt} {A d : Nat} {e : aF} {x : Int32} {b : Bool} {Q : vSt → Prop} (bd : a_bad S e) (f : a_fr a_mcf S0 S) (h0 : 1520 ≤ A) (hA : A + 8 < 1900) (hd : d ≤ 8) (h : ∀ S', a_fr a_mcf S0 S' → a_bad S' e → Q S') : p_X11_readTest_46 (nI A) Q S x b (nI A + nI d) := by
  unfold p_X11_readTest_46
  refine q_told bd (st_b (i := A) (d := d) bd f rfl h0 (by omega) (fun S' f' bd' => ?_))
  have n := (bd_n bd').2.2
  simp only [n, eq_self, reduceCtorEq, true_implies, false_implies, and_true, true_and, not_true_eq_false, not_false_eq_true]
  exact h S' f' bd'
theorem q_15 {S0 S : vSt} {A : Nat} {e : aF} {x : Int32} {b : Bool} {Q : vSt → Prop} (bd : a_bad S e) (f : a_fr a_mcf S0 S) (h0 : 1520 ≤ A) (hA : A + 8 < 1900) (h : ∀ S', a_fr a_mcf S0 S' → a_bad S' e → Q S') : p_X11_readTest_15 (nI A) Q S x b := by
  unfold p_X11_readTest_15
  refine q_must bd (st_b (i := A) (d := 6) bd f rfl h0 (by omega) (fun S' f' bd' => ?_))
  exact ⟨fun _ => q_46 (d := 1) bd' f' h0 hA (by omega) h, fun _ => q_46 (d := 1) bd' f' h0 hA (by omega) h⟩
theorem tsw_c (t : aK) : (a_is t 17 = true ∧ a_tsw t = 0) ∨ (a_is t 17 = false ∧ a_is t 18 = true ∧ a_tsw t = 1) ∨ (a_is t 17 = false ∧ a_is t 18 = false ∧ a_is t 5 = true ∧ a_tsw t = 2) ∨ (a_is t 17 = false ∧ a_is t 18 = false ∧ a_is t 5 = false ∧ a_tsw t = -1) := by
  unfold a_tsw
  cases c1 : a_is t 17
  · cases c2 : a_is t 18
    · cases c3 : a_is t 5
      · exact Or.inr (Or.inr (Or.inr ⟨rfl, rfl, rfl, rfl⟩))
      · exact Or.inr (Or.inr (Or.inl ⟨rfl, rfl, rfl, rfl⟩))
    · exact Or.inr (Or.inl ⟨rfl, rfl, rfl⟩)
  · exact Or.inl ⟨rfl, rfl⟩
theorem m_rest16 {S : vSt} {C : Nat → Nat} {n k : Nat} {R : List aK} {m : Nat → Int32} {nm : Nat → Nat} {Q : vSt → Prop} {y : Nat → Int32} (cm : a_CM S m nm) (T : a_TT S C n) (wf : a_wf R) (mr : a_MR S C n R) (z : S.1 143 12 = 0) (hk : k < 30) (ye : a_ye S (a_set y (9 * k) 4)) (h : a_MH C n S Q (fun g => a_yr y k 16 g) (a_hwh m nm R)) : p_X11_readRest S (nI (1630 + 9 * k)) Q := by
  (unfold p_X11_readRest; rw [ncl (by omega)]; refine ⟨vpin ⟨by omega, by omega⟩, ?_⟩; rintro _ rfl; rw [(ye (9 * k) (by omega)).trans a_set_eq])
  simp only [show ¬ (4 : Int32) = 5 from by decide, eq_self, reduceCtorEq, true_implies, false_implies, and_true, true_and, not_true_eq_false, not_false_eq_true]
  have tok := wf_ok wf
  -- behind the test
  have Qe : ∀ S', Q S' → p_X11_readRest_62 (nI (1630 + 9 * k)) Q S' 4 := by
    intro S' q
    unfold p_X11_readRest_62 p_X11_readRest_85 p_X11_readRest_110
    simp only [show ¬ (4 : Int32) = 0 from by decide, show ¬ (4 : Int32) = 1 from by decide, show ¬ (4 : Int32) = 2 from by decide, eq_self, reduceCtorEq, true_implies, false_implies, and_true, true_and, not_true_eq_false, not_false_eq_true]
    exact q
  unfold p_X11_readTest
  rw [e_testWord (MR_c mr) tok]
  unfold a_hwh at h
  -- the word is taken
  have tk : ∀ (x : Int32) (Q2 : vSt → Prop), (a_h0 R).1 ≠ 0 → (∀ S', a_fr a_mcf S S' → a_TT S' C n → a_MR S' C n R.tail → S'.1 143 12 = 0 → a_ye S' (a_set (a_set y (9 * k) 4) (9 * k + 6) x) → ((¬ x = 0 → p_X11_readTest_46 (nI (1630 + 9 * k)) Q2 S' x false (nI (1630 + 9 * k) + 1)) ∧ (x = 0 → p_X11_readTest_46 (nI (1630 + 9 * k)) Q2 S' x true (nI (1630 + 9 * k) + 1)))) → p_X11_readTest_15 (nI (1630 + 9 * k)) Q2 S x true := by
    intro x Q2 h0 hh
    unfold p_X11_readTest_15
    refine m_must T wf mr z (fun _ => h0) ?_
    intro S1 f1 mr1 z1
    exact st_y (j := 9 * k) rfl (by omega) 6 (by omega) (TT_mtf T f1) mr1 z1 (ye_mtf ye f1) (fun S2 f2 T2 mr2 z2 ye2 => hh S2 (fr_t (fr_w f1 mtf_mcf) (fr_w f2 blk_mcf)) T2 mr2 z2 ye2)
  rcases tsw_c (a_h0 R) with ⟨c17, et⟩ | ⟨c17, c18, et⟩ | ⟨c17, c18, c5, et⟩ | ⟨c17, c18, c5, et⟩
  · rw [et]
    rw [if_pos c17] at h
    have wt := wf_tl wf (is_k c17).1
    simp only [show ¬ (0 : Int32) < 0 from by decide, eq_self, reduceCtorEq, true_implies, false_implies, and_true, true_and, not_true_eq_false, not_false_eq_true]
    refine tk 0 _ (is_k c17).1 (fun S2 F2 T2 mr2 z2 ye2 => ?_)
    simp only [eq_self, reduceCtorEq, true_implies, false_implies, and_true, true_and, not_true_eq_false, not_false_eq_true]
    unfold p_X11_readTest_46
    refine m_toldD (CM_mcf cm F2) T2 wt mr2 z2 ?_
    cases e2 : a_own3 m nm R.tail with
    | inl e =>
      rw [e2] at h
      intro S' f bd
      refine st_b (i := 1630 + 9 * k) (d := 1) bd (fr_t F2 (fr_w f mtf_mcf)) rfl (by omega) (by omega) (fun S3 f3 bd3 => ?_)
      have n1 := (bd_n bd3).2.2
      simp only [n1, eq_self, reduceCtorEq, true_implies, false_implies, and_true, true_and, not_true_eq_false, not_false_eq_true]
      exact Qe _ (h S3 f3 bd3)
    | inr d =>
      rw [e2] at h
      intro S3 f3 mr3 z3
      refine st_y (j := 9 * k) rfl (by omega) 1 (by omega) (TT_mtf T2 f3) mr3 z3 (ye_mtf ye2 f3) (fun S4 f4 T4 mr4 z4 ye4 => ?_)
      have F4 : a_fr a_mcf S S4 := fr_t F2 (fr_t (fr_w f3 mtf_mcf) (fr_w f4 blk_mcf))
      rw [z4]
      simp only [show ¬ (0 : Int32) < 0 from by decide, show ¬ (0 : Int32) = 2 from by decide, eq_self, reduceCtorEq, true_implies, false_implies, and_true, true_and, not_true_eq_false, not_false_eq_true]
      exact Qe _ (h S4 F4 mr4 z4 ye4)
  · rw [et]
    rw [if_neg (by rw [c17]; decide), if_pos c18] at h
    have wt := wf_tl wf (is_k c18).1
    simp only [show ¬ (1 : Int32) < 0 from by decide, eq_self, reduceCtorEq, true_implies, false_implies, and_true, true_and, not_true_eq_false, not_false_eq_true]
    refine tk 1 _ (is_k c18).1 (fun S2 F2 T2 mr2 z2 ye2 => ?_)
    simp only [show ¬ (1 : Int32) = 0 from by decide, eq_self, reduceCtorEq, true_implies, false_implies, and_true, true_and, not_true_eq_false, not_false_eq_true]
    unfold p_X11_readTest_46
    refine m_toldP (CM_mcf cm F2) T2 wt mr2 z2 ?_
    cases e2 : a_own2 m nm R.tail with
    | inl e =>
      rw [e2] at h
      intro S' f bd
      refine st_b (i := 1630 + 9 * k) (d := 1) bd (fr_t F2 (fr_w f mtf_mcf)) rfl (by omega) (by omega) (fun S3 f3 bd3 => ?_)
      have n1 := (bd_n bd3).2.2
      simp only [n1, eq_self, reduceCtorEq, true_implies, false_implies, and_true, true_and, not_true_eq_false, not_false_eq_true]
      exact Qe _ (h S3 f3 bd3)
    | inr d =>
      rw [e2] at h
      intro S3 f3 mr3 z3
      refine st_y (j := 9 * k) rfl (by omega) 1 (by omega) (TT_mtf T2 f3) mr3 z3 (ye_mtf ye2 f3) (fun S4 f4 T4 mr4 z4 ye4 => ?_)
      have F4 : a_fr a_mcf S S4 := fr_t F2 (fr_t (fr_w f3 mtf_mcf) (fr_w f4 blk_mcf))
      rw [z4]
      simp only [show ¬ (0 : Int32) < 0 from by decide, show ¬ (1 : Int32) = 2 from by decide, eq_self, reduceCtorEq, true_implies, false_implies, and_true, true_and, not_true_eq_false, not_false_eq_true]
      exact Qe _ (h S4 F4 mr4 z4 ye4)
  · rw [et]
    rw [if_neg (by rw [c17]; decide), if_neg (by rw [c18]; decide), if_pos c5] at h
    have wt := wf_tl wf (is_k c5).1
    simp only [show ¬ (2 : Int32) < 0 from by decide, eq_self, reduceCtorEq, true_implies, false_implies, and_true, true_and, not_true_eq_false, not_false_eq_true]
    refine tk 2 _ (is_k c5).1 (fun S2 F2 T2 mr2 z2 ye2 => ?_)
    simp only [show ¬ (2 : Int32) = 0 from by decide, eq_self, reduceCtorEq, true_implies, false_implies, and_true, true_and, not_true_eq_false, not_false_eq_true]
    unfold p_X11_readTest_46
    refine m_toldP (CM_mcf cm F2) T2 wt mr2 z2 ?_
    cases e2 : a_own2 m nm R.tail with
    | inl e =>
      rw [e2] at h
      intro S' f bd
      refine st_b (i := 1630 + 9 * k) (d := 1) bd (fr_t F2 (fr_w f mtf_mcf)) rfl (by omega) (by omega) (fun S3 f3 bd3 => ?_)
      have n1 := (bd_n bd3).2.2
      simp only [n1, eq_self, reduceCtorEq, true_implies, false_implies, and_true, true_and, not_true_eq_false, not_false_eq_true]
      exact Qe _ (h S3 f3 bd3)
    | inr p =>
      rw [e2] at h
      have h : a_MH C n S Q (fun g => a_yr y k 16 g) (a_bi (a_sgn p.2) (fun q => a_bi (a_nu 0 9999 q.2) (fun z => .inr ((nI p.1, nI q.1, nI z.1), z.2)))) := h
      obtain ⟨w2, -, -⟩ := own2_ok wt e2
      intro S3 f3 mr3 z3
      refine st_y (j := 9 * k) rfl (by omega) 1 (by omega) (TT_mtf T2 f3) mr3 z3 (ye_mtf ye2 f3) (fun S4 f4 T4 mr4 z4 ye4 => ?_)
      have F4 : a_fr a_mcf S S4 := fr_t F2 (fr_t (fr_w f3 mtf_mcf) (fr_w f4 blk_mcf))
      have tok2 := wf_ok w2
      obtain ⟨c15, c14, c17', -⟩ := MR_c mr4
      have e6 := tkk_eq (k := 6) (m := 3) tok2 (by omega)
      rw [z4, c14, show (3 : Int32) = nI 3 from rfl, e6]
      simp only [show ¬ (0 : Int32) < 0 from by decide, eq_self, reduceCtorEq, true_implies, false_implies, and_true, true_and, not_true_eq_false, not_false_eq_true]
      -- the signs
      have sg : ∀ (S5 : vSt), a_MR S5 C n p.2 → ∀ (Q2 : vSt → Prop) (g : Bool → Prop), True → True := fun _ _ _ _ _ => trivial
      have v6 := tok2.2.2.2.2.2
      have go : ∀ (x : Int32), ((a_h0 p.2).1 = 6 → x = nI (a_h0 p.2).2.2) → p_X11_readTest_87 (nI (1630 + 9 * k)) (fun S24 => p_X11_readRest_62 (nI (1630 + 9 * k)) Q S24 4) S4 x (nI (1630 + 9 * k) + 7) := by
        intro x hx
        unfold p_X11_readTest_87
        refine st_y (j := 9 * k) rfl (by omega) 7 (by omega) T4 mr4 z4 ye4 (fun S5 f5 T5 mr5 z5 ye5 => ?_)
        have F5 : a_fr a_mcf S S5 := fr_t F4 (fr_w f5 blk_mcf)
        have is := fun (q : Nat) (hq : q < 256) (K : Bool → vSt → Prop) => e_isSign (x := q) (K := K) (MR_c mr5) tok2 hq
        unfold p_X11_readTest_116
        rw [show (60 : Int32) = nI 60 from rfl, is 60 (by omega), show (62 : Int32) = nI 62 from rfl, is 62 (by omega), show (61 : Int32) = nI 61 from rfl, is 61 (by omega)]
        -- the number
        have num : ∀ b : Bool, b = decide ((a_h0 p.2).1 = 6 ∧ (a_h0 p.2).2.2 ≠ 59) → p_X11_readTest_121 (nI (1630 + 9 * k)) (fun S24 => p_X11_readRest_62 (nI (1630 + 9 * k)) Q S24 4) S5 b := by
          intro b hb
          unfold p_X11_readTest_121
          refine m_must T5 w2 mr5 z5 (fun w => by rw [w] at hb; have := of_decide_eq_true hb.symm; omega) ?_
          unfold a_wd
          unfold a_sgn at h
          rw [hb]
          by_cases q : (a_h0 p.2).1 = 6 ∧ (a_h0 p.2).2.2 ≠ 59
          · rw [if_pos q] at h
            rw [decide_eq_true q, if_pos rfl]
            have h : a_MH C n S Q (fun g => a_yr y k 16 g) (a_bi (a_nu 0 9999 p.2.tail) (fun z => .inr ((nI p.1, nI (a_h0 p.2).2.2, nI z.1), z.2))) := h
            have w3 := wf_tl w2 (show (a_h0 p.2).1 ≠ 0 by omega)
            have v6 := v6 q.1
            intro S6 f6 mr6 z6
            refine m_count (lo := 0) (hi := 9999) (TT_mtf T5 f6) w3 mr6 z6 (by omega) (by omega) ?_
            cases e3 : a_nu 0 9999 p.2.tail with
            | inl e =>
              rw [e3] at h
              intro S' f bd
              refine st_b (i := 1630 + 9 * k) (d := 2) bd (fr_t F5 (fr_w (fr_t f6 f) mtf_mcf)) rfl (by omega) (by omega) (fun S7 f7 bd7 => ?_)
              exact Qe _ (h S7 f7 bd7)
            | inr zz =>
              rw [e3] at h
              intro S7 f7 mr7 z7
              refine st_y (j := 9 * k) rfl (by omega) 2 (by omega) (TT_mtf T5 (fr_t f6 f7)) mr7 z7 (ye_mtf ye5 (fr_t f6 f7)) (fun S8 f8 T8 mr8 z8 ye8 => ?_)
              refine Qe _ (h S8 (fr_t F5 (fr_t (fr_w (fr_t f6 f7) mtf_mcf) (fr_w f8 blk_mcf))) mr8 z8 ?_)
              have n17 : ¬ nI (a_h0 p.2).2.2 = 17 := fun w => by have := (nI_eq (a := (a_h0 p.2).2.2) (b := 17) (by omega) (by omega)).mp w; omega
              have n18 : ¬ nI (a_h0 p.2).2.2 = 18 := fun w => by have := (nI_eq (a := (a_h0 p.2).2.2) (b := 18) (by omega) (by omega)).mp w; omega
              have er : a_yr y k 16 (nI p.1, nI (a_h0 p.2).2.2, nI zz.1) = a_set (a_set (a_set (a_set (a_set y (9 * k) 4) (9 * k + 6) 2) (9 * k + 1) (nI p.1)) (9 * k + 7) (nI (a_h0 p.2).2.2)) (9 * k + 2) (nI zz.1) := by
                unfold a_yr
                rw [if_neg (by omega), if_neg (by omega), if_neg (by omega), if_neg (by omega), if_pos rfl]
                show (if nI (a_h0 p.2).2.2 = 17 then _ else if nI (a_h0 p.2).2.2 = 18 then _ else _) = _
                rw [if_neg n17, if_neg n18]
              show a_ye S8 (a_yr y k 16 (nI p.1, nI (a_h0 p.2).2.2, nI zz.1))
              rw [er, ← hx q.1]
              exact ye8
          · rw [if_neg q] at h
            rw [decide_eq_false q, if_neg (by decide)]
            intro S' f bd
            refine q_count bd (st_b (i := 1630 + 9 * k) (d := 2) bd (fr_t F5 (fr_w f mtf_mcf)) rfl (by omega) (by omega) (fun S7 f7 bd7 => ?_))
            exact Qe _ (h S7 f7 bd7)
        by_cases q6 : (a_h0 p.2).1 = 6
        · have v6 := v6 q6
          have nt := num true
          have nf := num false
          by_cases q60 : (a_h0 p.2).2.2 = 60
          · rw [decide_eq_true ⟨q6, q60⟩]
            simp only [eq_self, reduceCtorEq, true_implies, false_implies, and_true, true_and, not_true_eq_false, not_false_eq_true]
            exact nt (decide_eq_true ⟨q6, by omega⟩).symm
          · rw [decide_eq_false (fun w => q60 w.2)]
            simp only [eq_self, reduceCtorEq, true_implies, false_implies, and_true, true_and, not_true_eq_false, not_false_eq_true]
            by_cases q62 : (a_h0 p.2).2.2 = 62
            · rw [decide_eq_true ⟨q6, q62⟩]
              simp only [eq_self, reduceCtorEq, true_implies, false_implies, and_true, true_and, not_true_eq_false, not_false_eq_true]
              exact nt (decide_eq_true ⟨q6, by omega⟩).symm
            · rw [decide_eq_false (fun w => q62 w.2)]
              simp only [eq_self, reduceCtorEq, true_implies, false_implies, and_true, true_and, not_true_eq_false, not_false_eq_true]
              by_cases q61 : (a_h0 p.2).2.2 = 61
              · rw [decide_eq_true ⟨q6, q61⟩]
                simp only [eq_self, reduceCtorEq, true_implies, false_implies, and_true, true_and, not_true_eq_false, not_false_eq_true]
                exact nt (decide_eq_true ⟨q6, by omega⟩).symm
              · rw [decide_eq_false (fun w => q61 w.2)]
                simp only [eq_self, reduceCtorEq, true_implies, false_implies, and_true, true_and, not_true_eq_false, not_false_eq_true]
                exact nf (decide_eq_false (by omega)).symm
        · have nf := num false
          rw [decide_eq_false (fun w => q6 w.1), decide_eq_false (fun w => q6 w.1), decide_eq_false (fun w => q6 w.1)]
          simp only [eq_self, reduceCtorEq, true_implies, false_implies, and_true, true_and, not_true_eq_false, not_false_eq_true]
          exact nf (decide_eq_false (by omega)).symm
      by_cases q6 : (a_h0 p.2).1 = 6
      · simp only [q6, eq_self, reduceCtorEq, true_implies, false_implies, and_true, true_and, not_true_eq_false, not_false_eq_true]
        exact go _ (fun _ => c17' (Or.inr q6))
      · simp only [q6, eq_self, reduceCtorEq, true_implies, false_implies, and_true, true_and, not_true_eq_false, not_false_eq_true]
        exact go 0 (fun w => absurd w q6)
  · rw [et]
    rw [if_neg (by rw [c17]; decide), if_neg (by rw [c18]; decide), if_neg (by rw [c5]; decide)] at h
    simp only [show (-1 : Int32) < 0 from by decide, eq_self, reduceCtorEq, true_implies, false_implies, and_true, true_and, not_true_eq_false, not_false_eq_true]
    unfold p_X11_readTest_15
    refine m_must T wf mr z (fun w => by cases w) ?_
    intro S1 f1 bd1
    refine st_b (i := 1630 + 9 * k) (d := 6) bd1 (fr_w f1 mtf_mcf) rfl (by omega) (by omega) (fun S2 f2 bd2 => ?_)
    have hq : ∀ S', a_fr a_mcf S S' → a_bad S' (a_bl R 2) → p_X11_readRest_62 (nI (1630 + 9 * k)) Q S' 4 := fun S' f bd => Qe _ (h S' f bd)
    exact ⟨fun _ => q_46 (d := 1) bd2 f2 (by omega) (by omega) (by omega) hq, fun _ => q_46 (d := 1) bd2 f2 (by omega) (by omega) (by omega) hq⟩
