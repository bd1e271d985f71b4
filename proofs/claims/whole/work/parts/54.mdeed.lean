/-! the model's deed -/
theorem m_readTold {S : vSt} {C : Nat → Nat} {n : Nat} {R : List aK} {m : Nat → Int32} {nm : Nat → Nat} {K : Int32 → vSt → Prop} (ok : a_ok m) (nb : a_nmb m nm) (e20 : S.1 148 1520 = m 0) (nx : ∀ p, p < a_P m → S.2 150 (72 + p) = lN (nm p)) (T : a_TT S C n) (wf : a_wf R) (mr : a_MR S C n R) (z : S.1 143 12 = 0) (h : a_MF C n S K (a_own2 m nm R)) : p_X11_readTold S 4 0 K := by
  have h8 := ok_P8 ok
  have tok := wf_ok wf
  have mc := MR_c mr
  have b49 : ∀ (S' : vSt) (e : aF) (x : Int32), a_bad S' e → (x = 0 ∨ x = -1) → K 0 S' → p_X11_readTold_49 4 0 K S' x := by
    intro S' e x bd hx k
    unfold p_X11_readTold_49
    refine q_must bd ?_
    rcases hx with rfl | rfl
    · exact k
    · exact k
  unfold p_X11_readTold
  rw [z, e_isName mc tok]
  unfold a_own2 at h
  by_cases c3 : (a_h0 R).1 = 3
  · rw [if_pos c3] at h
    rw [decide_eq_true c3]
    simp only [eq_self, reduceCtorEq, true_implies, false_implies, and_true, true_and, not_true_eq_false, not_false_eq_true]
    have hv := (tok.2.2.2.1 c3).1
    have e19 : S.2 143 19 = lN (a_h0 R).2.2 := by
      rw [(mc.2.2.2 (Or.inr (Or.inl c3))).1]
      unfold a_wv
      rw [if_neg (by omega), if_pos c3]
    unfold p_X11_readTold_18
    rw [z]
    simp only [Int32.le_refl, eq_self, reduceCtorEq, true_implies, false_implies, and_true, true_and, not_true_eq_false, not_false_eq_true]
    refine m_named (w := 0) (N := a_P m) (f := nm) (by omega) (e20.trans (ok_m0 ok)) (by omega) (fun p hp => ⟨nx p hp, nb.1 p hp⟩) e19 hv ?_
    show p_X11_readTold_35 4 0 K S (a_oi (a_pb m nm (a_h0 R).2.2))
    unfold p_X11_readTold_35
    cases q : a_pb m nm (a_h0 R).2.2 with
    | none =>
      rw [q] at h
      have n1 : ¬ (0 : Int32) ≤ -1 := by decide
      show (0 ≤ (-1 : Int32) → _) ∧ (¬ 0 ≤ (-1 : Int32) → _)
      simp only [n1, eq_self, reduceCtorEq, true_implies, false_implies, and_true, true_and, not_true_eq_false, not_false_eq_true]
      exact m_fail (f := 3) mr z (by omega) (fun S' f bd => b49 S' _ _ bd (Or.inr rfl) (h S' f bd))
    | some p =>
      rw [q] at h
      have hp := pb_lt q
      have n1 : 0 ≤ nI p := nI_le (a := 0) (by omega) (by omega)
      show (0 ≤ nI p → _) ∧ (¬ 0 ≤ nI p → _)
      simp only [n1, eq_self, reduceCtorEq, true_implies, false_implies, and_true, true_and, not_true_eq_false, not_false_eq_true]
      unfold p_X11_readTold_49
      refine m_must T wf mr z (fun _ => by omega) ?_
      have em : v_maxi 0 (nI p) = nI p := (by decide +kernel : ∀ p, p < 8 → v_maxi 0 (nI p) = nI p) p (by omega)
      show a_MFu C n S (fun S10 => K (v_maxi 0 (nI p)) S10) (a_wd true R)
      rw [em]
      exact h
  · rw [if_neg c3] at h
    rw [decide_eq_false c3]
    simp only [eq_self, reduceCtorEq, true_implies, false_implies, and_true, true_and, not_true_eq_false, not_false_eq_true]
    refine m_amiss wf mr z (fun S' f bd => ?_)
    obtain ⟨n1, n2, -⟩ := bd_n bd
    unfold p_X11_readTold_18 p_X11_readTold_35
    simp only [n2, Int32.le_refl, eq_self, reduceCtorEq, true_implies, false_implies, and_true, true_and, not_true_eq_false, not_false_eq_true]
    exact b49 S' _ _ bd (Or.inl rfl) (h S' f bd)
theorem set_cm1 {m : Nat → Int32} {p f o : Int32} (h : a_D m < 10) : a_set (a_set (a_set (a_set m (48 + a_D m) p) (58 + a_D m) f) (68 + a_D m) o) 1 (m 1 + 1) = a_cm1 m p f o := by
  funext i
  by_cases c1 : i = 1
  · rw [c1, a_set_eq, cm1_1]
  · rw [a_set_ne c1]
    unfold a_cm1 a_inc
    by_cases c4 : i = 68 + a_D m
    · rw [c4, a_set_eq, a_set_eq]
    · rw [a_set_ne c4, a_set_ne c4]
      by_cases c3 : i = 58 + a_D m
      · rw [c3, a_set_eq, a_set_eq]
      · rw [a_set_ne c3, a_set_ne c3]
        by_cases c2 : i = 48 + a_D m
        · rw [c2, a_set_eq, a_set_eq]
        · rw [a_set_ne c2, a_set_ne c2, a_set_ne c1]
def a_blk (k j : Nat) : Bool := decide (k = 148 ∧ 1520 ≤ j)
theorem blk_mcf : ∀ k j, a_mcf k j = false → a_blk k j = false := by
  intro k j q
  unfold a_mcf at q
  unfold a_blk
  rw [decide_eq_false_iff_not] at q ⊢
  omega
theorem m_readDeed {S : vSt} {C : Nat → Nat} {n : Nat} {s : aS} {R : List aK} {K : vSt → Prop} (G : a_Gm S C n s R) (pi : a_PI s) (wf : a_wf R) (hk : a_is (a_h0 R) 7 = true) (h : a_MP C n S K (a_rde s R)) : p_X11_readDeed S K := by
  obtain ⟨T, mr, z, e24, M, nx⟩ := G
  obtain ⟨ok, fr, nb, ht⟩ := pi
  have h8 := ok_P8 ok
  have h10 := ok_D10 ok
  unfold p_X11_readDeed
  unfold a_rde at h
  refine m_readNew (w := 1) (N := a_D s.1) (cap := 10) ok nb M nx T wf mr z (is_k hk).1 (by omega) ((M 1 (by omega)).trans (ok_m1 ok)) h10 (by omega) (by omega) ?_
  by_cases c10 : a_D s.1 = 10
  · rw [if_pos c10] at h ⊢
    have hb := h
    intro S' f bd
    (refine any_isOf (fun _ => ?_); refine q_must bd ?_; refine q_told bd ?_; (refine st_b (i := 1568) bd f rfl (by omega) (by omega) (fun S7 f bd => ?_); (refine any_isFine (fun _ => ?_); refine q_bw bd ?_; refine st_b (i := 1578) bd f rfl (by omega) (by omega) (fun S8 f bd => ?_); (refine any_isOdds (fun _ => ?_); refine q_bw bd ?_; refine st_b (i := 1588) bd f rfl (by omega) (by omega) (fun S9 f9 bd9 => ?_); exact ⟨fun _ => hb S9 f9 bd9, fun w => absurd w (bd_n bd9).1⟩))))
  · rw [if_neg c10] at h ⊢
    have hD : a_D s.1 < 10 := by omega
    have wt := wf_tl wf (is_k hk).1
    cases e1 : a_newn s.1 s.2.1 R.tail with
    | inl e =>
      rw [e1] at h
      have hb := h
      intro S' f bd
      (refine any_isOf (fun _ => ?_); refine q_must bd ?_; refine q_told bd ?_; (refine st_b (i := 1568) bd f rfl (by omega) (by omega) (fun S7 f bd => ?_); (refine any_isFine (fun _ => ?_); refine q_bw bd ?_; refine st_b (i := 1578) bd f rfl (by omega) (by omega) (fun S8 f bd => ?_); (refine any_isOdds (fun _ => ?_); refine q_bw bd ?_; refine st_b (i := 1588) bd f rfl (by omega) (by omega) (fun S9 f9 bd9 => ?_); exact ⟨fun _ => hb S9 f9 bd9, fun w => absurd w (bd_n bd9).1⟩))))
    | inr g =>
      rw [e1] at h
      have h : a_MP C n S K (a_bi (a_wd (a_is (a_h0 g.2) 8) g.2) (fun R2 => a_bi (a_own2 s.1 s.2.1 R2) (fun o => a_bi (a_wdn 9 1 999 o.2) (fun f => a_bi (a_wdn 10 0 16 f.2) (fun d => .inr ((a_cm1 s.1 (nI o.1) (nI f.1) (nI d.1), a_up2 s.2.1 (8 + a_D s.1) g.1, s.2.2), d.2)))))) := h
      obtain ⟨w2, v2⟩ := newn_wf wt e1
      intro S1 f1 mr1 z1 k24 k148 k150
      have e24' : S1.1 143 24 = nI s.2.2 := k24.trans e24
      have M1 : a_M S1 4 s.1 := fun j hj => (k148 _).trans (M j hj)
      have T1 := TT_mcf T f1
      rw [e_isOf (MR_c mr1) (wf_ok w2)]
      refine m_must T1 w2 mr1 z1 (fun w => (is_k w).1) ?_
      cases e2 : a_wd (a_is (a_h0 g.2) 8) g.2 with
      | inl e =>
        rw [e2] at h
        have hb := h
        intro S' f bd
        have f := fr_t f1 (fr_w f mtf_mcf)
        refine q_told bd ?_
        (refine st_b (i := 1568) bd f rfl (by omega) (by omega) (fun S7 f bd => ?_); (refine any_isFine (fun _ => ?_); refine q_bw bd ?_; refine st_b (i := 1578) bd f rfl (by omega) (by omega) (fun S8 f bd => ?_); (refine any_isOdds (fun _ => ?_); refine q_bw bd ?_; refine st_b (i := 1588) bd f rfl (by omega) (by omega) (fun S9 f9 bd9 => ?_); exact ⟨fun _ => hb S9 f9 bd9, fun w => absurd w (bd_n bd9).1⟩)))
      | inr R2 =>
        rw [e2] at h
        have h : a_MP C n S K (a_bi (a_own2 s.1 s.2.1 R2) (fun o => a_bi (a_wdn 9 1 999 o.2) (fun f => a_bi (a_wdn 10 0 16 f.2) (fun d => .inr ((a_cm1 s.1 (nI o.1) (nI f.1) (nI d.1), a_up2 s.2.1 (8 + a_D s.1) g.1, s.2.2), d.2))))) := h
        have w3 := wd_wf w2 (fun w => (is_k w).1) e2
        intro S2 f2 mr2 z2
        have T2 := TT_mtf T1 f2
        obtain ⟨g148, g150, g24⟩ := mtf_0 f2
        have M2 : a_M S2 4 s.1 := fun j hj => (g148 _).trans (M1 j hj)
        refine m_readTold ok nb (M2 0 (by omega)) (fun p hp => ?_) T2 w3 mr2 z2 ?_
        · rw [g150, k150, if_neg (by omega)]
          exact nx.1 p hp
        cases e3 : a_own2 s.1 s.2.1 R2 with
        | inl e =>
          rw [e3] at h
          have hb := h
          intro S' f bd
          have f := fr_t (fr_t f1 (fr_w f2 mtf_mcf)) (fr_w f mtf_mcf)
          (refine st_b (i := 1568) bd f rfl (by omega) (by omega) (fun S7 f bd => ?_); (refine any_isFine (fun _ => ?_); refine q_bw bd ?_; refine st_b (i := 1578) bd f rfl (by omega) (by omega) (fun S8 f bd => ?_); (refine any_isOdds (fun _ => ?_); refine q_bw bd ?_; refine st_b (i := 1588) bd f rfl (by omega) (by omega) (fun S9 f9 bd9 => ?_); exact ⟨fun _ => hb S9 f9 bd9, fun w => absurd w (bd_n bd9).1⟩)))
        | inr o =>
          rw [e3] at h
          have h : a_MP C n S K (a_bi (a_wdn 9 1 999 o.2) (fun f => a_bi (a_wdn 10 0 16 f.2) (fun d => .inr ((a_cm1 s.1 (nI o.1) (nI f.1) (nI d.1), a_up2 s.2.1 (8 + a_D s.1) g.1, s.2.2), d.2)))) := h
          obtain ⟨w4, v4, -⟩ := own2_ok w3 e3
          intro S3 f3 mr3 z3
          have F3 := fr_t f2 f3
          obtain ⟨g148, g150, g24⟩ := mtf_0 F3
          have M3 : a_M S3 4 s.1 := fun j hj => (g148 _).trans (M1 j hj)
          refine st_w (i := 1568) rfl (by omega) ?_
          have fs4 : a_fr a_blk S3 (v_si S3 148 (1568 + a_D s.1) (nI o.1)) := fr_i fr_r (decide_eq_true ⟨rfl, by omega⟩)
          have M4 := M4_set (i := 1568 + a_D s.1) (j := 48 + a_D s.1) (x := nI o.1) M3 (by omega)
          have mr4 := MR_fr mr3 fs4 (fun j _ _ => decide_eq_false (by omega))
          have T4 := TT_mcf (TT_mtf T1 F3) (fr_w fs4 blk_mcf)
          have F4 : a_fr a_mcf S (v_si S3 148 (1568 + a_D s.1) (nI o.1)) := fr_t f1 (fr_t (fr_w F3 mtf_mcf) (fr_w fs4 blk_mcf))
          have n4 : ∀ j, (v_si S3 148 (1568 + a_D s.1) (nI o.1)).2 150 j = S1.2 150 j := g150
          have t4 : (v_si S3 148 (1568 + a_D s.1) (nI o.1)).1 143 24 = nI s.2.2 := g24.trans e24'
          have z4 : (v_si S3 148 (1568 + a_D s.1) (nI o.1)).1 143 12 = 0 := z3
          generalize (v_si S3 148 (1568 + a_D s.1) (nI o.1)) = S4 at M4 mr4 T4 F4 n4 t4 z4
          show p_X11_isFine S4 _
          rw [e_isFine (MR_c mr4) (wf_ok w4)]
          refine m_bw (q := 9) (lo := 1) (hi := 999) T4 w4 mr4 z4 (by omega) (by omega) ?_
          cases e5 : a_wdn 9 1 999 o.2 with
          | inl e =>
            rw [e5] at h
            have hb := h
            intro S' f bd
            have f := fr_t F4 (fr_w f mtf_mcf)
            refine st_b (i := 1578) bd f rfl (by omega) (by omega) (fun S8 f bd => ?_)
            (refine any_isOdds (fun _ => ?_); refine q_bw bd ?_; refine st_b (i := 1588) bd f rfl (by omega) (by omega) (fun S9 f9 bd9 => ?_); exact ⟨fun _ => hb S9 f9 bd9, fun w => absurd w (bd_n bd9).1⟩)
          | inr fi =>
            rw [e5] at h
            have h : a_MP C n S K (a_bi (a_wdn 10 0 16 fi.2) (fun d => .inr ((a_cm1 s.1 (nI o.1) (nI fi.1) (nI d.1), a_up2 s.2.1 (8 + a_D s.1) g.1, s.2.2), d.2))) := h
            obtain ⟨w5, -, -, -⟩ := wdn_ok w4 e5
            intro S5 f5 mr5 z5
            obtain ⟨g148, g150, g24⟩ := mtf_0 f5
            have M5 : a_M S5 4 _ := fun j hj => (g148 _).trans (M4 j hj)
            refine st_w (i := 1578) rfl (by omega) ?_
            have fs6 : a_fr a_blk S5 (v_si S5 148 (1578 + a_D s.1) (nI fi.1)) := fr_i fr_r (decide_eq_true ⟨rfl, by omega⟩)
            have M6 := M4_set (i := 1578 + a_D s.1) (j := 58 + a_D s.1) (x := nI fi.1) M5 (by omega)
            have mr6 := MR_fr mr5 fs6 (fun j _ _ => decide_eq_false (by omega))
            have T6 := TT_mcf (TT_mtf T4 f5) (fr_w fs6 blk_mcf)
            have F6 : a_fr a_mcf S (v_si S5 148 (1578 + a_D s.1) (nI fi.1)) := fr_t F4 (fr_t (fr_w f5 mtf_mcf) (fr_w fs6 blk_mcf))
            have n6 : ∀ j, (v_si S5 148 (1578 + a_D s.1) (nI fi.1)).2 150 j = S1.2 150 j := fun j => (g150 j).trans (n4 j)
            have t6 : (v_si S5 148 (1578 + a_D s.1) (nI fi.1)).1 143 24 = nI s.2.2 := g24.trans t4
            have z6 : (v_si S5 148 (1578 + a_D s.1) (nI fi.1)).1 143 12 = 0 := z5
            generalize (v_si S5 148 (1578 + a_D s.1) (nI fi.1)) = S6 at M6 mr6 T6 F6 n6 t6 z6
            show p_X11_isOdds S6 _
            rw [e_isOdds (MR_c mr6) (wf_ok w5)]
            refine m_bw (q := 10) (lo := 0) (hi := 16) T6 w5 mr6 z6 (by omega) (by omega) ?_
            cases e7 : a_wdn 10 0 16 fi.2 with
            | inl e =>
              rw [e7] at h
              have hb := h
              intro S' f bd
              have f := fr_t F6 (fr_w f mtf_mcf)
              refine st_b (i := 1588) bd f rfl (by omega) (by omega) (fun S9 f9 bd9 => ?_)
              exact ⟨fun _ => hb S9 f9 bd9, fun w => absurd w (bd_n bd9).1⟩
            | inr d =>
              rw [e7] at h
              intro S7 f7 mr7 z7
              obtain ⟨g148, g150, g24⟩ := mtf_0 f7
              have M7 : a_M S7 4 _ := fun j hj => (g148 _).trans (M6 j hj)
              refine st_w (i := 1588) rfl (by omega) ?_
              have z8 : (v_si S7 148 (1588 + a_D s.1) (nI d.1)).1 143 12 = 0 := z7
              have M8 := M4_set (i := 1588 + a_D s.1) (j := 68 + a_D s.1) (x := nI d.1) M7 (by omega)
              have e21 : Int32.toNatClampNeg 1521 = 1521 := rfl
              have v21 : vp_in 1521 1900 := vpin (n := 1521) ⟨by omega, by omega⟩
              refine ⟨fun w => absurd z8 w, fun _ => ⟨v21, v21, ?_⟩⟩
              rintro _ rfl
              rw [e21]
              have M9 := M4_set (i := 1521) (j := 1) (x := s.1 1 + 1) M8 (by omega)
              have e1' : (v_si S7 148 (1588 + a_D s.1) (nI d.1)).1 148 1521 = s.1 1 := by
                have q := M8 1 (by omega)
                rw [a_set_ne (by omega), a_set_ne (by omega), a_set_ne (by omega)] at q
                exact q
              rw [e1']
              rw [set_cm1 hD] at M9
              have fs : a_fr a_blk S7 (v_si (v_si S7 148 (1588 + a_D s.1) (nI d.1)) 148 1521 (s.1 1 + 1)) := fr_i (fr_i fr_r (decide_eq_true ⟨rfl, by omega⟩)) (decide_eq_true ⟨rfl, by omega⟩)
              obtain ⟨eP, eD⟩ := cmt_PD (p := nI o.1) (f := nI fi.1) (o := nI d.1) ok
              rw [cmt_fresh ok fr hD] at eP eD
              refine h _ (fr_t F6 (fr_t (fr_w f7 mtf_mcf) (fr_w fs blk_mcf))) ⟨TT_mcf (TT_mtf T6 f7) (fr_w fs blk_mcf), MR_fr mr7 fs (fun j _ _ => decide_eq_false (by omega)), z7, g24.trans t6, M9, ?_⟩
              unfold a_nmM
              show (∀ p, p < a_P (a_cm1 s.1 (nI o.1) (nI fi.1) (nI d.1)) → _) ∧ ∀ k, k < a_D (a_cm1 s.1 (nI o.1) (nI fi.1) (nI d.1)) → _
              rw [eP, eD]
              refine ⟨fun p hp => ?_, fun k hk => ?_⟩
              · show S7.2 150 (18 * 4 + p) = lN (a_up2 s.2.1 (8 + a_D s.1) g.1 p)
                rw [g150, n6, k150]
                unfold a_up2
                rw [if_neg (by omega), if_neg (by omega)]
                exact nx.1 p hp
              · show S7.2 150 (18 * 4 + 8 + k) = lN (a_up2 s.2.1 (8 + a_D s.1) g.1 (8 + k))
                rw [g150, n6, k150]
                unfold a_up2
                by_cases c : k = a_D s.1
                · rw [if_pos (by omega), if_pos (by omega)]
                · rw [if_neg (by omega), if_neg (by omega)]
                  exact nx.2 k (by omega)
/-! the rules -/
theorem m_readOnce {S : vSt} {C : Nat → Nat} {n w : Nat} {s : aS} {R : List aK} {K : vSt → Prop} (G : a_Gm S C n s R) (pi : a_PI s) (wf : a_wf R) (hk : a_is (a_h0 R) w = true) (hw : w < 4) (h : a_MP C n S K (a_rru w s R)) : p_X11_readOnce S (nI w) (a_rlo w) (a_rhi w) K := by
  obtain ⟨T, mr, z, e24, M, nx⟩ := G
  obtain ⟨ok, fr, nb, ht⟩ := pi
  obtain ⟨r1, r2, r3, r4⟩ := rlo_n w hw
  have k2 := is_k hk
  unfold p_X11_readOnce
  rw [e24, e_has, bit_at s.2.2 (by omega) w (by omega)]
  unfold a_rru at h
  cases c : s.2.2.testBit w
  · rw [c, if_neg (by decide)] at h
    simp only [eq_self, reduceCtorEq, true_implies, false_implies, and_true, true_and, not_true_eq_false, not_false_eq_true]
    unfold p_X11_readOnce_20
    rw [z]
    simp only [Int32.le_refl, eq_self, reduceCtorEq, true_implies, false_implies, and_true, true_and, not_true_eq_false, not_false_eq_true]
    rintro _ rfl
    rw [e24, bit_1 w (by omega), bit_or _ (by omega) w (by omega)]
    have f0 : a_fr (fun k j => decide (k = 143 ∧ j = 24)) S (v_si S 143 24 (nI (s.2.2 ||| 2 ^ w))) := fr_i fr_r (decide_eq_true ⟨rfl, rfl⟩)
    have f0m : ∀ k j, a_mcf k j = false → decide (k = 143 ∧ j = 24) = false := by
      intro k j q
      unfold a_mcf at q
      rw [decide_eq_false_iff_not] at q ⊢
      omega
    have mr0 := MR_fr mr f0 (fun j _ _ => decide_eq_false (by omega))
    have T0 := TT_mcf T (fr_w f0 f0m)
    have z0 : (v_si S 143 24 (nI (s.2.2 ||| 2 ^ w))).1 143 12 = 0 := z
    refine m_adv T0 wf mr0 k2.1 (fun S1 f1 mr1 => ?_)
    have F1 := fr_w f1 av_mtf
    have z1 := (f1 143 12 rfl).1.trans z0
    have wt := wf_tl wf k2.1
    rw [r1, r2]
    refine m_count (TT_mtf T0 F1) wt mr1 z1 (by omega) (by omega) ?_
    cases d : a_nu (a_n (a_rlo w)) (a_n (a_rhi w)) R.tail with
    | inl e =>
      rw [d] at h
      intro S' f bd
      refine st_b (i := 1522) bd (fr_t (fr_w f0 f0m) (fr_w (fr_t F1 f) mtf_mcf)) rfl (by omega) (by omega) (fun S9 f9 bd9 => ?_)
      exact h S9 f9 bd9
    | inr g =>
      rw [d] at h
      intro S2 f2 mr2 z2
      have F2 := fr_t F1 f2
      obtain ⟨g148, g150, g24⟩ := mtf_0 F2
      have M2 : a_M S2 4 s.1 := fun j hj => (g148 _).trans (M j hj)
      refine st_w (i := 1522) rfl (by omega) ?_
      have fs : a_fr a_blk S2 (v_si S2 148 (1522 + w) (nI g.1)) := fr_i fr_r (decide_eq_true ⟨rfl, by omega⟩)
      refine h _ (fr_t (fr_w f0 f0m) (fr_t (fr_w F2 mtf_mcf) (fr_w fs blk_mcf))) ⟨TT_mcf (TT_mtf T0 F2) (fr_w fs blk_mcf), MR_fr mr2 fs (fun j _ _ => decide_eq_false (by omega)), z2, g24.trans si_at, M4_set M2 (by omega), ?_⟩
      unfold a_nmM
      show (∀ p, p < a_P (a_set s.1 (2 + w) (nI g.1)) → _) ∧ ∀ d, d < a_D (a_set s.1 (2 + w) (nI g.1)) → _
      rw [a_P_set (by omega), a_D_set (by omega)]
      exact ⟨fun p hp => (g150 _).trans (nx.1 p hp), fun d hd => (g150 _).trans (nx.2 d hd)⟩
  · rw [c, if_pos rfl] at h
    simp only [eq_self, reduceCtorEq, true_implies, false_implies, and_true, true_and, not_true_eq_false, not_false_eq_true]
    refine m_fail (f := 5) mr z (by omega) (fun S' f bd => ?_)
    unfold p_X11_readOnce_20
    have n1 := (bd_n bd).2.1
    simp only [n1, eq_self, reduceCtorEq, true_implies, false_implies, and_true, true_and, not_true_eq_false, not_false_eq_true]
    exact h S' (fr_w f mtf_mcf) bd
theorem m_readPart {S : vSt} {C : Nat → Nat} {n : Nat} {s : aS} {R : List aK} {K : vSt → Prop} (G : a_Gm S C n s R) (pi : a_PI s) (wf : a_wf R) (h : a_MP C n S K (a_rpt s R)) : p_X11_readPart S K := by
  have mc := MR_c G.2.1
  have tok := wf_ok wf
  have ie : ∀ q, a_is (a_h0 R) q = decide ((a_h0 R).1 = 2 ∧ (a_h0 R).2.2 = q) := fun q => rfl
  unfold p_X11_readPart
  rw [e_isJurors mc tok, e_isFifth mc tok, e_isPenalty mc tok, e_isShare mc tok, e_isPerson mc tok, e_isDeed mc tok]
  have am : a_rpt s R = .inl (a_bl R 2) → p_X11_amiss S K := by
    intro q
    rw [q] at h
    exact m_amiss wf G.2.1 G.2.2.1 (fun S' f bd => h S' (fr_w f mtf_mcf) bd)
  by_cases k2 : (a_h0 R).1 = 2
  · have er : a_rpt s R = if (a_h0 R).2.2 < 4 then a_rru (a_h0 R).2.2 s R else if (a_h0 R).2.2 = 4 then a_rpe s R else if (a_h0 R).2.2 = 7 then a_rde s R else .inl (a_bl R 2) := by
      unfold a_rpt
      rw [if_pos k2]
    have on : ∀ w, w < 4 → (a_h0 R).2.2 = w → p_X11_readOnce S (nI w) (a_rlo w) (a_rhi w) K := by
      intro w hw e
      rw [er, if_pos (by omega), e] at h
      exact m_readOnce G pi wf (decide_eq_true ⟨k2, e⟩) hw h
    have v : ∀ q, a_is (a_h0 R) q = decide ((a_h0 R).2.2 = q) := fun q => by
      rw [ie, decide_eq_decide]
      exact ⟨fun w => w.2, fun w => ⟨k2, w⟩⟩
    simp only [v]
    by_cases c0 : (a_h0 R).2.2 = 0
    · rw [decide_eq_true c0]
      simp only [eq_self, reduceCtorEq, true_implies, false_implies, and_true, true_and, not_true_eq_false, not_false_eq_true]
      exact on 0 (by omega) c0
    · rw [decide_eq_false c0]
      simp only [eq_self, reduceCtorEq, true_implies, false_implies, and_true, true_and, not_true_eq_false, not_false_eq_true]
      by_cases c1 : (a_h0 R).2.2 = 1
      · rw [decide_eq_true c1]
        simp only [eq_self, reduceCtorEq, true_implies, false_implies, and_true, true_and, not_true_eq_false, not_false_eq_true]
        exact on 1 (by omega) c1
      · rw [decide_eq_false c1]
        simp only [eq_self, reduceCtorEq, true_implies, false_implies, and_true, true_and, not_true_eq_false, not_false_eq_true]
        by_cases c2 : (a_h0 R).2.2 = 2
        · rw [decide_eq_true c2]
          simp only [eq_self, reduceCtorEq, true_implies, false_implies, and_true, true_and, not_true_eq_false, not_false_eq_true]
          exact on 2 (by omega) c2
        · rw [decide_eq_false c2]
          simp only [eq_self, reduceCtorEq, true_implies, false_implies, and_true, true_and, not_true_eq_false, not_false_eq_true]
          by_cases c3 : (a_h0 R).2.2 = 3
          · rw [decide_eq_true c3]
            simp only [eq_self, reduceCtorEq, true_implies, false_implies, and_true, true_and, not_true_eq_false, not_false_eq_true]
            exact on 3 (by omega) c3
          · rw [decide_eq_false c3]
            simp only [eq_self, reduceCtorEq, true_implies, false_implies, and_true, true_and, not_true_eq_false, not_false_eq_true]
            rw [if_neg (by omega)] at er
            by_cases c4 : (a_h0 R).2.2 = 4
            · rw [decide_eq_true c4]
              simp only [eq_self, reduceCtorEq, true_implies, false_implies, and_true, true_and, not_true_eq_false, not_false_eq_true]
              rw [er, if_pos c4] at h
              exact m_readPerson G pi wf (decide_eq_true ⟨k2, c4⟩) h
            · rw [decide_eq_false c4]
              simp only [eq_self, reduceCtorEq, true_implies, false_implies, and_true, true_and, not_true_eq_false, not_false_eq_true]
              rw [if_neg c4] at er
              by_cases c7 : (a_h0 R).2.2 = 7
              · rw [decide_eq_true c7]
                simp only [eq_self, reduceCtorEq, true_implies, false_implies, and_true, true_and, not_true_eq_false, not_false_eq_true]
                rw [er, if_pos c7] at h
                exact m_readDeed G pi wf (decide_eq_true ⟨k2, c7⟩) h
              · rw [decide_eq_false c7]
                simp only [eq_self, reduceCtorEq, true_implies, false_implies, and_true, true_and, not_true_eq_false, not_false_eq_true]
                rw [if_neg c7] at er
                exact am er
  · have v : ∀ q, a_is (a_h0 R) q = false := fun q => decide_eq_false (fun w => k2 w.1)
    simp only [v]
    simp only [eq_self, reduceCtorEq, true_implies, false_implies, and_true, true_and, not_true_eq_false, not_false_eq_true]
    refine am ?_
    unfold a_rpt
    rw [if_neg k2]
