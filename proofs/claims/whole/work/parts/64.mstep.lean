/-! the model's step, by its recursion -/
theorem kd_c {w : Nat} (h : a_bgs w = true) : 0 ≤ a_kd w ∧ ((a_ope w = true ∧ (a_kd w = 4 ∨ a_kd w = 5)) ∨ (a_ope w = false ∧ ¬ a_kd w = 4 ∧ ¬ a_kd w = 5)) := by
  have hb := of_decide_eq_true h
  rcases hb with rfl | rfl | rfl | rfl | rfl | rfl | rfl <;> decide
theorem ryr_no {m : Nat → Int32} {nm : Nat → Nat} {k : Nat} {s : aY} {R : List aK} (h1 : a_is (a_h0 R) 20 = true → s.2.2.2.2 = []) (h0 : (a_h0 R).1 = 0 → s.2.2.2.2 ≠ []) (hn : ¬ ((a_h0 R).1 = 2 ∧ a_bgs (a_h0 R).2.2 = true)) : a_ryr m nm (k + 1) s R = .inl (a_bl R 2) := by
  by_cases c0 : (a_h0 R).1 = 0
  · show (if (a_h0 R).1 = 0 then (if s.2.2.2.2 = [] then (.inr s : aF ⊕ aY) else .inl (a_bl R 2)) else a_bi (a_yon m nm s R) (fun g => a_ryr m nm k g.1 g.2)) = _
    rw [if_pos c0, if_neg (h0 c0)]
  · rw [ryr_s c0]
    unfold a_yon
    by_cases c : a_is (a_h0 R) 20 = true
    · rw [if_pos c]
      obtain ⟨W, y, N, K, σ⟩ := s
      have e := h1 c
      simp only at e
      subst e
      rfl
    · rw [if_neg c]
      unfold a_yst
      rw [if_neg hn]
      rfl
theorem m_readStep {m : Nat → Int32} {nm : Nat → Nat} {C : Nat → Nat} {n : Nat} : ∀ f (S : vSt) k (s : aY) (R : List aK) (Q : vSt → Prop), 4 ≤ f + s.2.2.2.2.length → a_TT S C n → a_CM S m nm → a_YI s → a_wf R → R.length ≤ k → (a_is (a_h0 R) 20 = true → s.2.2.2.2 = []) → ((a_h0 R).1 = 0 → s.2.2.2.2 ≠ []) → a_GY C n S s R → a_fwd m nm C n S k s R s.2.2.2.2 R.length Q → p_X11_readStep f S (nI s.2.2.2.2.length) Q
  | 0, S, k, s, R, Q, hf, T, cm, yi, wf, hk, h1, h0, G, fw => absurd yi.2.2.1 (by omega)
  | f + 1, S, k, s, R, Q, hf, T, cm, yi, wf, hk, h1, h0, G, fw => by
    obtain ⟨mr, z, e25, ye⟩ := id G
    obtain ⟨y1, y2, y3, y4⟩ := id yi
    have tok := wf_ok wf
    have lt := tl_len wf
    obtain ⟨k, rfl⟩ : ∃ k', k = k' + 1 := ⟨k - 1, by omega⟩
    show pb_X11_readStep (p_X11_readStep f) S (nI s.2.2.2.2.length) Q
    unfold pb_X11_readStep
    rw [e_stepWord (MR_c mr) tok]
    rcases stp_c tok with ⟨k2, hb, es⟩ | ⟨hn, es⟩
    · rw [es]
      obtain ⟨kd0, kdc⟩ := kd_c hb
      have k0 : (a_h0 R).1 ≠ 0 := by omega
      have wt := wf_tl wf k0
      have n20 : a_is (a_h0 R) 20 = false := by
        have hb := of_decide_eq_true hb
        exact decide_eq_false (by omega)
      have er : a_ryr m nm (k + 1) s R = a_bi (a_yst m nm s R) (fun g => a_ryr m nm k g.1 g.2) := by
        rw [ryr_s k0]
        unfold a_yon
        rw [if_neg (by rw [n20]; decide)]
      have eyst : a_yst m nm s R = if s.2.2.2.1 = 30 then .inl (6, (a_h0 R).2.1) else if a_ope (a_h0 R).2.2 = true ∧ s.2.2.2.2.length = 3 then .inl (7, (a_h0 R).2.1) else a_bi (a_hdl m nm (a_h0 R).2.2 R.tail) (fun g => a_bi (a_semi g.2) (fun R' => .inr (a_yad s (a_h0 R).2.2 g.1, R'))) := by
        unfold a_yst
        rw [if_pos ⟨k2, hb⟩]
      have v22 := tok.2.2.1 k2
      generalize (a_h0 R).2.2 = w at er eyst hb kd0 kdc v22
      have go : p_X11_readStep_20 (nI s.2.2.2.2.length) (p_X11_readStep f) Q S (a_kd w) (a_ope w) := by
        unfold p_X11_readStep_20
        simp only [kd0, eq_self, reduceCtorEq, true_implies, false_implies, and_true, true_and, not_true_eq_false, not_false_eq_true]
        unfold p_X11_readStep_29
        have e30 : nI s.2.2.2.1 = 30 ↔ s.2.2.2.1 = 30 := nI_eq (b := 30) (by omega) (by omega)
        rw [z, e25, e30]
        simp only [eq_self, reduceCtorEq, true_implies, false_implies, and_true, true_and, not_true_eq_false, not_false_eq_true]
        by_cases c30 : s.2.2.2.1 = 30
        · rw [if_pos c30] at eyst
          simp only [c30, eq_self, reduceCtorEq, true_implies, false_implies, and_true, true_and, not_true_eq_false, not_false_eq_true]
          refine m_fail (f := 6) mr z (by omega) (fun S' f' bd => ?_)
          exact q_55 bd (fw.1 _ (by rw [er, eyst]; rfl) S' (fr_w f' mtf_myf) bd)
        · rw [if_neg c30] at eyst
          simp only [c30, eq_self, reduceCtorEq, true_implies, false_implies, and_true, true_and, not_true_eq_false, not_false_eq_true]
          have hK : s.2.2.2.1 < 30 := by omega
          -- behind the faults
          have go81 : ¬ (a_ope w = true ∧ s.2.2.2.2.length = 3) → p_X11_readStep_81 (nI s.2.2.2.2.length) (p_X11_readStep f) Q S (a_kd w) (a_ope w) := by
            intro c3
            rw [if_neg c3] at eyst
            rw [eyst] at er
            unfold p_X11_readStep_81
            have e26 : (1630 : Int32) + 9 * nI s.2.2.2.1 = nI (1630 + 9 * s.2.2.2.1) := by rw [show (9 : Int32) = nI 9 from rfl, pk_mul, show (1630 : Int32) = nI 1630 from rfl, nI_add]
            rw [z, e25, e26, nIs]
            simp only [Int32.le_refl, eq_self, reduceCtorEq, true_implies, false_implies, and_true, true_and, not_true_eq_false, not_false_eq_true]
            rintro _ rfl _ rfl
            have f1 : a_fr (fun k j => decide (k = 143 ∧ j = 25)) S (v_si S 143 25 (nI (s.2.2.2.1 + 1))) := fr_i fr_r (decide_eq_true ⟨rfl, rfl⟩)
            have F1 : a_fr a_myf S (v_si S 143 25 (nI (s.2.2.2.1 + 1))) := fr_i fr_r rfl
            have mr1 := MR_fr mr f1 (fun j _ _ => decide_eq_false (by omega))
            have T1 := TT_myf T F1
            have z1 : (v_si S 143 25 (nI (s.2.2.2.1 + 1))).1 143 12 = 0 := z
            have x1 : (v_si S 143 25 (nI (s.2.2.2.1 + 1))).1 143 25 = nI (s.2.2.2.1 + 1) := si_at
            have ye1 : a_ye (v_si S 143 25 (nI (s.2.2.2.1 + 1))) s.2.1 := ye
            generalize (v_si S 143 25 (nI (s.2.2.2.1 + 1))) = S1 at F1 mr1 T1 z1 x1 ye1
            refine m_adv T1 wf mr1 k0 (fun S2 f2' mr2 => ?_)
            have f2 := fr_w f2' av_mtf
            rw [ncl (by omega)]
            refine ⟨vpin ⟨by omega, by omega⟩, ?_⟩
            rintro _ rfl
            have f3 : a_fr a_blk S2 (v_si S2 148 (1630 + 9 * s.2.2.2.1) (a_kd w)) := fr_i fr_r (decide_eq_true ⟨rfl, by omega⟩)
            have F3 : a_fr a_myf S (v_si S2 148 (1630 + 9 * s.2.2.2.1) (a_kd w)) := fr_t F1 (fr_t (fr_w f2 mtf_myf) (fr_w f3 blk_myf))
            have mr3 := MR_fr mr2 f3 (fun j _ _ => decide_eq_false (by omega))
            have z3 : (v_si S2 148 (1630 + 9 * s.2.2.2.1) (a_kd w)).1 143 12 = 0 := (f2' 143 12 rfl).1.trans z1
            have x3 : (v_si S2 148 (1630 + 9 * s.2.2.2.1) (a_kd w)).1 143 25 = nI (s.2.2.2.1 + 1) := (f2 143 25 rfl).1.trans x1
            have ye3 : a_ye (v_si S2 148 (1630 + 9 * s.2.2.2.1) (a_kd w)) (a_set s.2.1 (9 * s.2.2.2.1) (a_kd w)) := ye_set (ye_mtf ye1 f2) rfl
            generalize (v_si S2 148 (1630 + 9 * s.2.2.2.1) (a_kd w)) = S3 at F3 mr3 z3 x3 ye3
            have T3 := TT_myf T F3
            -- a fault within
            have bad : ∀ e, a_ryr m nm (k + 1) s R = .inl e → ∀ S', a_fr a_myf S S' → a_bad S' e → ∃ fu140, p_X11_readStep_140 (nI s.2.2.2.2.length) (p_X11_readStep f) Q fu140 S' (a_ope w) (nI (1630 + 9 * s.2.2.2.1)) := by
              intro e ee S' f' bd
              exact ⟨1, q_140 (S0 := S') (j := 0) bd fr_r (by omega) (by omega) (fun S4 f4 bd4 => fw.1 e ee S4 (fr_t f' (fr_w f4 mcf_myf)) bd4)⟩
            refine m_rest (CM_myf cm F3) T3 wt mr3 z3 hK hb ye3 ?_
            cases q : a_hdl m nm w R.tail with
            | inl e =>
              rw [q] at er
              intro S' f' bd
              refine any_isSign (fun _ => q_must bd ?_)
              exact bad e er S' (fr_t F3 (fr_w f' mcf_myf)) bd
            | inr g =>
              obtain ⟨w4, lo, l4⟩ := hd_ok wt q
              intro S4 f4 mr4 z4 ye4
              have F4 := fr_t F3 (fr_w f4 mcf_myf)
              have x4 := (f4 143 25 rfl).1.trans x3
              have T4 := TT_myf T F4
              show p_X11_isSign S4 (nI 59) _
              rw [e_isSign (MR_c mr4) (wf_ok w4) (by omega)]
              refine m_must T4 w4 mr4 z4 (fun w => by have := of_decide_eq_true w; show (a_h0 g.2).1 ≠ 0; omega) ?_
              show a_MFu C n S4 _ (a_semi g.2)
              have yo := fun R' (e : a_semi g.2 = .inr R') => yst_ok (m := m) (nm := nm) yi wf (g := (a_yad s w g.1, R')) (by rw [eyst, q]; show a_bi (a_semi g.2) _ = _; rw [e]; rfl)
              rw [q] at er
              have er : a_ryr m nm (k + 1) s R = a_bi (a_bi (a_semi g.2) (fun R' => .inr (a_yad s w g.1, R'))) (fun g => a_ryr m nm k g.1 g.2) := er
              cases q2 : a_semi g.2 with
              | inl e =>
                rw [q2] at er
                intro S' f' bd
                exact bad e er S' (fr_t F4 (fr_w f' mtf_myf)) bd
              | inr R' =>
                rw [q2] at er
                have er : a_ryr m nm (k + 1) s R = a_ryr m nm k (a_yad s w g.1) R' := er
                obtain ⟨yi', wf', hl', -⟩ := yo R' q2
                simp only at hl' wf' yi'
                intro S5 f5 mr5 z5
                have F5 := fr_t F4 (fr_w f5 mtf_myf)
                have x5 := (f5 143 25 rfl).1.trans x4
                have ye5 := ye_mtf ye4 f5
                cases o : a_ope w
                · refine ⟨1, ?_⟩
                  rw [e_X11_readStep_140]
                  simp only [eq_self, reduceCtorEq, true_implies, false_implies, and_true, true_and, not_true_eq_false, not_false_eq_true]
                  unfold p_X11_readStep_168 p_X11_readStep_190
                  simp only [eq_self, reduceCtorEq, true_implies, false_implies, and_true, true_and, not_true_eq_false, not_false_eq_true]
                  rw [x5]
                  refine st_y (j := 9 * s.2.2.2.1) rfl (by omega) 8 (by omega) (TT_myf T F5) mr5 z5 ye5 (fun S6 f6 T6 mr6 z6 ye6 => ?_)
                  refine fw.2 k _ R' er yi' wf' (by omega) hl' ?_ S6 (fr_t F5 (fr_w f6 blk_myf)) ⟨mr6, z6, (f6 143 25 rfl).1.trans x5, ?_⟩
                  · show (if a_ope w = true then _ else s.2.2.2.2 : List (Nat × Nat)) = _
                    rw [o]; rfl
                  · show a_ye S6 (if a_ope w = true then _ else a_set (a_yr s.2.1 s.2.2.2.1 w g.1) (9 * s.2.2.2.1 + 8) (nI (s.2.2.2.1 + 1)))
                    rw [o]; exact ye6
                · have hd : s.2.2.2.2.length < 3 := by
                    by_cases w3 : s.2.2.2.2.length = 3
                    · exact absurd ⟨o, w3⟩ c3
                    · omega
                  refine ⟨R'.length + 2, m_140 (S0 := S) (k0 := k + 1) (s0 := s) (R0 := R) (σ := s.2.2.2.2) (l0 := R.length) (ln := s.2.2.1) T cm hK (fun S1 k1 s1 R1 Q1 yi1 wf1 hk1 hs1 hc1 ff1 G1 fw1 => ?_) fw R'.length k (a_yad s w g.1) R' S5 er yi' wf' (by omega) (Nat.le_refl _) hl' ?_ F5 ⟨mr5, z5, x5, ?_⟩⟩
                  · have hl1 : s1.2.2.2.2.length = s.2.2.2.2.length + 1 := by rw [hs1, List.length_cons]
                    have q := m_readStep f S1 k1 s1 R1 Q1 (by omega) (TT_myf T ff1) (CM_myf cm ff1) yi1 wf1 hk1 (fun w => by rw [hc1] at w; cases w) (fun _ w => by rw [w] at hs1; cases hs1) G1 (by rw [hs1]; exact fw1)
                    rw [hl1] at q
                    rw [nIs]
                    exact q
                  · show (if a_ope w = true then (s.2.2.1, s.2.2.2.1) :: s.2.2.2.2 else _ : List (Nat × Nat)) = _
                    rw [o]; rfl
                  · show a_ye S5 (if a_ope w = true then a_yr s.2.1 s.2.2.2.1 w g.1 else _)
                    rw [o]; exact ye5
          unfold p_X11_readStep_55
          rw [z]
          cases o : a_ope w
          · simp only [eq_self, reduceCtorEq, true_implies, false_implies, and_true, true_and, not_true_eq_false, not_false_eq_true]
            rw [o] at go81
            exact go81 (fun w => by cases w.1)
          · have e3 : nI s.2.2.2.2.length = 3 ↔ s.2.2.2.2.length = 3 := nI_eq (b := 3) (by omega) (by omega)
            rw [e3]
            simp only [eq_self, reduceCtorEq, true_implies, false_implies, and_true, true_and, not_true_eq_false, not_false_eq_true]
            by_cases c3 : s.2.2.2.2.length = 3
            · rw [if_pos ⟨o, c3⟩] at eyst
              simp only [c3, eq_self, reduceCtorEq, true_implies, false_implies, and_true, true_and, not_true_eq_false, not_false_eq_true]
              refine m_fail (f := 7) mr z (by omega) (fun S' f' bd => ?_)
              exact q_81 bd (fw.1 _ (by rw [er, eyst]; rfl) S' (fr_w f' mtf_myf) bd)
            · simp only [c3, eq_self, reduceCtorEq, true_implies, false_implies, and_true, true_and, not_true_eq_false, not_false_eq_true]
              rw [o] at go81
              exact go81 (fun w => c3 w.2)
      unfold p_X11_readStep_15
      rcases kdc with ⟨o, c⟩ | ⟨o, c4, c5⟩
      · rw [o] at go
        rcases c with c | c
        · refine ⟨fun _ => go, fun w => absurd c w⟩
        · refine ⟨fun _ => go, fun _ => ⟨fun w => absurd c w, fun _ => go⟩⟩
      · rw [o] at go
        refine ⟨fun w => absurd w c4, fun _ => ⟨fun _ => go, fun w => absurd w c5⟩⟩
    · rw [es]
      have n1 : ¬ (0 : Int32) ≤ -1 := by decide
      simp only [show ¬ (-1 : Int32) = 4 from by decide, show ¬ (-1 : Int32) = 5 from by decide, eq_self, reduceCtorEq, true_implies, false_implies, and_true, true_and, not_true_eq_false, not_false_eq_true]
      unfold p_X11_readStep_20
      simp only [n1, eq_self, reduceCtorEq, true_implies, false_implies, and_true, true_and, not_true_eq_false, not_false_eq_true]
      exact m_amiss wf mr z (fun S' f' bd => q_29 bd (fw.1 _ (ryr_no h1 h0 hn) S' (fr_w f' mtf_myf) bd))
