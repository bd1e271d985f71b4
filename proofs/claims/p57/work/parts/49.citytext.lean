/-! a city's text -/
abbrev aS : Type := (Nat → Int32) × (Nat → Nat) × Nat
def a_rru (w : Nat) (s : aS) (R : List aK) : aF ⊕ (aS × List aK) := if s.2.2.testBit w = true then .inl (5, (a_h0 R).2.1) else a_bi (a_nu (a_n (a_rlo w)) (a_n (a_rhi w)) R.tail) (fun g => .inr ((a_set s.1 (2 + w) (nI g.1), s.2.1, s.2.2 ||| 2 ^ w), g.2))
def a_opt (q lo hi d : Nat) (R : List aK) : aF ⊕ (Nat × List aK) := if a_is (a_h0 R) q = true then a_nu lo hi R.tail else .inr (d, R)
def a_rpe (s : aS) (R : List aK) : aF ⊕ (aS × List aK) := if a_P s.1 = 8 then .inl (6, (a_h0 R).2.1) else a_bi (a_newn s.1 s.2.1 R.tail) (fun g => a_bi (a_opt 5 0 9999 100 g.2) (fun c => a_bi (a_opt 6 0 16 0 c.2) (fun k => .inr ((a_adp s.1 (nI c.1) (nI k.1), a_up2 s.2.1 (a_P s.1) g.1, s.2.2), k.2))))
def a_own2 (m : Nat → Int32) (nm : Nat → Nat) (R : List aK) : aF ⊕ (Nat × List aK) := if (a_h0 R).1 = 3 then (match a_pb m nm (a_h0 R).2.2 with
  | some p => .inr (p, R.tail)
  | none => .inl (3, (a_h0 R).2.1)) else .inl (a_bl R 2)
def a_wdn (q lo hi : Nat) (R : List aK) : aF ⊕ (Nat × List aK) := a_bi (a_wd (a_is (a_h0 R) q) R) (a_nu lo hi)
def a_rde (s : aS) (R : List aK) : aF ⊕ (aS × List aK) := if a_D s.1 = 10 then .inl (6, (a_h0 R).2.1) else a_bi (a_newn s.1 s.2.1 R.tail) (fun g => a_bi (a_wd (a_is (a_h0 g.2) 8) g.2) (fun R2 => a_bi (a_own2 s.1 s.2.1 R2) (fun o => a_bi (a_wdn 9 1 999 o.2) (fun f => a_bi (a_wdn 10 0 16 f.2) (fun d => .inr ((a_cm1 s.1 (nI o.1) (nI f.1) (nI d.1), a_up2 s.2.1 (8 + a_D s.1) g.1, s.2.2), d.2))))))
def a_rpt (s : aS) (R : List aK) : aF ⊕ (aS × List aK) := if (a_h0 R).1 = 2 then (if (a_h0 R).2.2 < 4 then a_rru (a_h0 R).2.2 s R else if (a_h0 R).2.2 = 4 then a_rpe s R else if (a_h0 R).2.2 = 7 then a_rde s R else .inl (a_bl R 2)) else .inl (a_bl R 2)
def a_ps (x : aF ⊕ (aS × List aK)) : aF ⊕ (aS × List aK) := a_bi x (fun g => a_bi (a_semi g.2) (fun R' => .inr (g.1, R')))
def a_rcy : Nat → aS → List aK → aF ⊕ aS
  | 0, s, _ => .inr s
  | k + 1, s, R => if (a_h0 R).1 = 0 then .inr s else a_bi (a_ps (a_rpt s R)) (fun g => a_rcy k g.1 g.2)
def a_PI (s : aS) : Prop := a_ok s.1 ∧ a_fresh s.1 ∧ a_nmb s.1 s.2.1 ∧ s.2.2 < 16
theorem rlo_n : ∀ w, w < 4 → a_rlo w = nI (a_n (a_rlo w)) ∧ a_rhi w = nI (a_n (a_rhi w)) ∧ a_n (a_rlo w) < 1000 ∧ a_n (a_rhi w) < 1000 := by decide +kernel
theorem bi_inr {α β : Type} {x : aF ⊕ α} {f : α → aF ⊕ β} {b : β} (h : a_bi x f = .inr b) : ∃ a, x = .inr a ∧ f a = .inr b := by
  cases x with
  | inl e => cases h
  | inr a => exact ⟨a, rfl, h⟩
theorem tl_len {R : List aK} (h : a_wf R) : R.tail.length + 1 = R.length := by
  obtain ⟨t, R', rfl, -, -, -, -⟩ := wf_c h
  rfl
theorem nu_len {R : List aK} {lo hi : Nat} {g : Nat × List aK} (h : a_wf R) (e : a_nu lo hi R = .inr g) : g.2.length + 1 = R.length := by
  unfold a_nu at e
  split at e
  · split at e
    · cases e; exact tl_len h
    · cases e
  · cases e
theorem wd_len {R R' : List aK} {c : Bool} (h : a_wf R) (e : a_wd c R = .inr R') : R'.length + 1 = R.length := by
  unfold a_wd at e
  split at e
  · cases e; exact tl_len h
  · cases e
theorem newn_len {m : Nat → Int32} {nm : Nat → Nat} {R : List aK} {g : Nat × List aK} (h : a_wf R) (e : a_newn m nm R = .inr g) : g.2.length + 1 = R.length := by
  unfold a_newn at e
  split at e
  · split at e
    · cases e; exact tl_len h
    · cases e
  · cases e
theorem opt_ok {R : List aK} {q lo hi d : Nat} {g : Nat × List aK} (h : a_wf R) (hd : lo ≤ d ∧ d ≤ hi) (e : a_opt q lo hi d R = .inr g) : a_wf g.2 ∧ lo ≤ g.1 ∧ g.1 ≤ hi ∧ g.2.length ≤ R.length := by
  unfold a_opt at e
  split at e
  · next w =>
    have wt := wf_tl h (is_k w).1
    have l1 := nu_len wt e
    have l2 := tl_len h
    obtain ⟨a, b, c⟩ := nu_wf wt e
    exact ⟨a, b, c, by omega⟩
  · cases e
    exact ⟨h, hd.1, hd.2, Nat.le_refl _⟩
theorem own2_ok {m : Nat → Int32} {nm : Nat → Nat} {R : List aK} {g : Nat × List aK} (h : a_wf R) (e : a_own2 m nm R = .inr g) : a_wf g.2 ∧ g.1 < a_P m ∧ g.2.length + 1 = R.length := by
  unfold a_own2 at e
  split at e
  · next k =>
    cases q : a_pb m nm (a_h0 R).2.2 with
    | none => rw [q] at e; cases e
    | some p =>
      rw [q] at e
      cases e
      exact ⟨wf_tl h (by omega), pb_lt q, tl_len h⟩
  · cases e
theorem wdn_ok {R : List aK} {q lo hi : Nat} {g : Nat × List aK} (h : a_wf R) (e : a_wdn q lo hi R = .inr g) : a_wf g.2 ∧ lo ≤ g.1 ∧ g.1 ≤ hi ∧ g.2.length ≤ R.length := by
  obtain ⟨R1, e1, e2⟩ := bi_inr e
  have w1 := wd_wf h (fun w => (is_k w).1) e1
  have l1 := wd_len h e1
  have l2 := nu_len w1 e2
  obtain ⟨a, b, c⟩ := nu_wf w1 e2
  exact ⟨a, b, c, by omega⟩
theorem rpt_ok {s : aS} {R : List aK} {g : aS × List aK} (pi : a_PI s) (wf : a_wf R) (e : a_rpt s R = .inr g) : a_PI g.1 ∧ a_wf g.2 ∧ g.2.length < R.length := by
  obtain ⟨ok, fr, nb, ht⟩ := pi
  have h8 := ok_P8 ok
  have h10 := ok_D10 ok
  have lt := tl_len wf
  unfold a_rpt at e
  split at e
  · next k2 =>
    have wt := wf_tl wf (by omega)
    split at e
    · next w4 =>
      unfold a_rru at e
      split at e
      · cases e
      · obtain ⟨g1, e1, e2⟩ := bi_inr e
        cases e2
        have l1 := nu_len wt e1
        obtain ⟨a, b, c⟩ := nu_wf wt e1
        obtain ⟨r1, r2, r3, r4⟩ := rlo_n _ w4
        have hin : a_in (a_rlo (a_h0 R).2.2) (a_rhi (a_h0 R).2.2) (nI g1.1) = true := by
          rw [r1, r2]
          refine decide_eq_true ⟨nI_le b (by omega), nI_le c (by omega)⟩
        have ok' := ok_rule ok w4 hin
        refine ⟨⟨ok', ?_, ?_, ?_⟩, a, by show g1.2.length < R.length; omega⟩
        · unfold a_fresh
          show (∀ p, a_P (a_set s.1 (2 + (a_h0 R).2.2) (nI g1.1)) ≤ p → _) ∧ ∀ d, a_D (a_set s.1 (2 + (a_h0 R).2.2) (nI g1.1)) ≤ d → _
          rw [a_P_set (by omega), a_D_set (by omega)]
          refine ⟨fun p h1 h2 => ?_, fun d h1 h2 => ?_⟩
          · show a_set s.1 (2 + (a_h0 R).2.2) (nI g1.1) (24 + p) = 0 ∧ a_set s.1 (2 + (a_h0 R).2.2) (nI g1.1) (32 + p) = 0 ∧ a_set s.1 (2 + (a_h0 R).2.2) (nI g1.1) (40 + p) = 0
            rw [a_set_ne (by omega), a_set_ne (by omega), a_set_ne (by omega)]; exact fr.1 p h1 h2
          · show a_set s.1 (2 + (a_h0 R).2.2) (nI g1.1) (78 + d) = 0 ∧ a_set s.1 (2 + (a_h0 R).2.2) (nI g1.1) (88 + d) = -1 ∧ a_set s.1 (2 + (a_h0 R).2.2) (nI g1.1) (98 + d) = -1
            rw [a_set_ne (by omega), a_set_ne (by omega), a_set_ne (by omega)]; exact fr.2 d h1 h2
        · unfold a_nmb
          show (∀ p, p < a_P (a_set s.1 (2 + (a_h0 R).2.2) (nI g1.1)) → _) ∧ ∀ d, d < a_D (a_set s.1 (2 + (a_h0 R).2.2) (nI g1.1)) → _
          rw [a_P_set (by omega), a_D_set (by omega)]
          exact nb
        · exact Nat.or_lt_two_pow (n := 4) ht (Nat.pow_lt_pow_right (by omega) w4)
    · split at e
      · unfold a_rpe at e
        split at e
        · cases e
        · next hP =>
          obtain ⟨g1, e1, e2⟩ := bi_inr e
          obtain ⟨w1, v1⟩ := newn_wf wt e1
          have l1 := newn_len wt e1
          obtain ⟨g2, e3, e4⟩ := bi_inr e2
          obtain ⟨w2, -, v2, l2⟩ := opt_ok w1 (by omega) e3
          obtain ⟨g3, e5, e6⟩ := bi_inr e4
          obtain ⟨w3, -, v3, l3⟩ := opt_ok w2 (by omega) e5
          cases e6
          have hP8 : a_P s.1 < 8 := by omega
          obtain ⟨eP, eD⟩ := adp_PD (c := nI g2.1) (s := nI g3.1) ok hP8
          refine ⟨⟨ok_adp ok fr hP8 v2 v3, fresh_adp ok fr hP8, ?_, ht⟩, w3, by show g3.2.length < R.length; omega⟩
          unfold a_nmb
          show (∀ p, p < a_P (a_adp s.1 (nI g2.1) (nI g3.1)) → _) ∧ ∀ d, d < a_D (a_adp s.1 (nI g2.1) (nI g3.1)) → _
          rw [eP, eD]
          refine ⟨fun p hp => ?_, fun d hd => ?_⟩
          · show a_up2 s.2.1 (a_P s.1) g1.1 p < _
            unfold a_up2
            split
            · exact v1
            · exact nb.1 p (by omega)
          · show a_up2 s.2.1 (a_P s.1) g1.1 (8 + d) < _
            unfold a_up2
            rw [if_neg (by omega)]
            exact nb.2 d hd
      · split at e
        · unfold a_rde at e
          split at e
          · cases e
          · next hD =>
            obtain ⟨g1, e1, e2⟩ := bi_inr e
            obtain ⟨w1, v1⟩ := newn_wf wt e1
            have l1 := newn_len wt e1
            obtain ⟨R2, e3, e4⟩ := bi_inr e2
            have w2 := wd_wf w1 (fun w => (is_k w).1) e3
            have l2 := wd_len w1 e3
            obtain ⟨o, e5, e6⟩ := bi_inr e4
            obtain ⟨w3, v3, l3⟩ := own2_ok w2 e5
            obtain ⟨f, e7, e8⟩ := bi_inr e6
            obtain ⟨w4, f1, f2, l4⟩ := wdn_ok w3 e7
            obtain ⟨d, e9, e0⟩ := bi_inr e8
            obtain ⟨w5, -, d2, l5⟩ := wdn_ok w4 e9
            cases e0
            have hD10 : a_D s.1 < 10 := by omega
            have okc := ok_cmt (p := o.1) (f := nI f.1) (o := nI d.1) ok hD10 v3 (a_nb_nI (by omega) f1 f2) (a_nb_nI (by omega) (by omega) d2)
            obtain ⟨eP, eD⟩ := cmt_PD (p := nI o.1) (f := nI f.1) (o := nI d.1) ok
            rw [cmt_fresh ok fr hD10] at okc eP eD
            refine ⟨⟨okc, fresh_cm1 ok fr hD10, ?_, ht⟩, w5, by show d.2.length < R.length; omega⟩
            unfold a_nmb
            show (∀ p, p < a_P (a_cm1 s.1 (nI o.1) (nI f.1) (nI d.1)) → _) ∧ ∀ k, k < a_D (a_cm1 s.1 (nI o.1) (nI f.1) (nI d.1)) → _
            rw [eP, eD]
            refine ⟨fun p hp => ?_, fun k hk => ?_⟩
            · show a_up2 s.2.1 (8 + a_D s.1) g1.1 p < _
              unfold a_up2
              rw [if_neg (by omega)]
              exact nb.1 p hp
            · show a_up2 s.2.1 (8 + a_D s.1) g1.1 (8 + k) < _
              unfold a_up2
              split
              · exact v1
              · exact nb.2 k (by omega)
        · cases e
  · cases e
theorem ps_ok {s : aS} {R : List aK} {g : aS × List aK} (pi : a_PI s) (wf : a_wf R) (e : a_ps (a_rpt s R) = .inr g) : a_PI g.1 ∧ a_wf g.2 ∧ g.2.length < R.length := by
  obtain ⟨g1, e1, e2⟩ := bi_inr e
  obtain ⟨p1, w1, l1⟩ := rpt_ok pi wf e1
  obtain ⟨R2, e3, e4⟩ := bi_inr e2
  cases e4
  have l2 := wd_len w1 e3
  exact ⟨p1, semi_wf w1 e3, by show R2.length < R.length; omega⟩
/-! the class reads it -/
def a_CD (S : vSt) (s : aS) : Prop := a_R S 32 s.1 ∧ a_nmX S 32 s.1 s.2.1 ∧ S.1 55 2 = nI s.2.2
theorem CD_fr {S S' : vSt} {s : aS} (h : a_CD S s) (f : a_fr a_psf S S') : a_CD S' s := by
  obtain ⟨h1, h2, h3⟩ := h
  refine ⟨fun i hi => ?_, ⟨fun p hp => ?_, fun d hd => ?_⟩, ?_⟩
  · rw [(f _ _ (decide_eq_false (by omega))).1]; exact h1 i hi
  · rw [(f _ _ (decide_eq_false (by omega))).2]; exact h2.1 p hp
  · rw [(f _ _ (decide_eq_false (by omega))).2]; exact h2.2 d hd
  · rw [(f 55 2 rfl).1]; exact h3
def a_cgd (g : aS × List aK) (S' : vSt) : Prop := a_XR S' g.2 ∧ a_CD S' g.1
theorem bl_2 {R : List aK} {f : Nat} (h : (a_h0 R).1 ≠ 1) : a_bl R f = (f, (a_h0 R).2.1) := by
  unfold a_bl; rw [if_neg h]
theorem x_semi {S S1 : vSt} {s : aS} {R : List aK} {K : Bool → vSt → Prop} (wf : a_wf R) (xr : a_XR S1 R) (cd : a_CD S1 s) (f : a_fr a_ccf S S1) (h : a_XF S K a_cgd (a_bi (a_semi R) (fun R' => .inr (s, R')))) : p_X6_takeSemicolon S1 K := by
  refine x_takeSemi wf xr ?_
  cases c : a_semi R with
  | inl e =>
    rw [c] at h
    intro S' f' b1 b2
    exact h S' (fr_t f f') b1 b2
  | inr R' =>
    rw [c] at h
    rintro S' f' ⟨g, xr'⟩
    exact h S' (fr_t f f') ⟨xr', CD_fr cd g⟩
theorem lNi (n : Nat) : Int64.toInt32 (lN n) = nI n := lN_i n
theorem x_readRule {S : vSt} {s : aS} {w : Nat} {R : List aK} {K : Bool → vSt → Prop} (pi : a_PI s) (wf : a_wf R) (hk : a_is (a_h0 R) w = true) (hw : w < 4) (xr : a_XR S R) (cd : a_CD S s) (h : a_XF S K a_cgd (a_ps (a_rru w s R))) : p_X1_readRule S (nI w) K := by
  obtain ⟨ok, fr, nb, ht⟩ := pi
  obtain ⟨r1, r2, r3, r4⟩ := rlo_n w hw
  have k2 := is_k hk
  unfold p_X1_readRule
  rw [cd.2.2, e_xisIn (show w < 31 by omega), bit_at s.2.2 (by omega) w (by omega)]
  unfold a_ps a_rru at h
  cases c : s.2.2.testBit w
  · rw [c, if_neg (by decide)] at h
    simp only [eq_self, reduceCtorEq, true_implies, false_implies, and_true, true_and, not_true_eq_false, not_false_eq_true]
    refine x_pas wf k2.1 xr (fun S1 f1 xr1 _ => ?_)
    have wt := wf_tl wf k2.1
    have cd1 := CD_fr cd f1
    rw [at_s hw, at_s hw, (sr_1 w hw).1, (sr_1 w hw).2, r1, r2]
    refine x_takeNumber wt xr1 (by omega) (by omega) ?_
    cases d : a_nu (a_n (a_rlo w)) (a_n (a_rhi w)) R.tail with
    | inl e =>
      rw [d] at h
      intro S' f' b1 b2
      simp only [eq_self, reduceCtorEq, true_implies, false_implies, and_true, true_and, not_true_eq_false, not_false_eq_true]
      exact h S' (fr_t (fr_w f1 psf_ccf) f') b1 b2
    | inr g =>
      rw [d] at h
      obtain ⟨w2, -, -⟩ := nu_wf wt d
      rintro S2 f2 ⟨g2, xr2, tk⟩
      have cd2 := CD_fr cd1 g2
      simp only [eq_self, reduceCtorEq, true_implies, false_implies, and_true, true_and, not_true_eq_false, not_false_eq_true]
      rintro _ rfl
      unfold p_X6_number
      have e10 : ∀ x, (v_si S2 55 2 x).2 5 10 = lN g.1 := fun x => tk
      rw [e10, lNi, cd2.2.2, bit_1 w (by omega), bit_or _ (by omega) w (by omega)]
      show p_X10_put _ _ _ _ _ _
      rw [e_put hw (by omega)]
      have f3 : a_fr a_dr2 S2 (v_si (v_si S2 55 2 (nI (s.2.2 ||| 2 ^ w))) 33 w (nI g.1)) := fr_i (fr_i fr_r rfl) rfl
      refine x_semi (s := (a_set s.1 (2 + w) (nI g.1), s.2.1, s.2.2 ||| 2 ^ w)) w2 (XR_dr xr2 f3) ⟨?_, ?_, ?_⟩ (fr_t (fr_w f1 psf_ccf) (fr_t (fr_w g2 psf_ccf) (fr_w f3 dr_ccf))) h
      · have Rx : a_R (v_si S2 55 2 (nI (s.2.2 ||| 2 ^ w))) 32 s.1 := by
          intro i hi
          have h1 : (a_xr i).1 ≤ 14 := (by decide +kernel : ∀ i, i < 108 → (a_xr i).1 ≤ 14) i (a_lv_lt hi)
          rw [si1, if_neg (fun w => by omega)]
          exact cd2.1 i hi
        exact R_set (b := 32) (o := 1) Rx (by omega) (by omega) (a_xr2 w hw)
      · unfold a_nmX
        show (∀ p, p < a_P (a_set s.1 (2 + w) (nI g.1)) → _) ∧ ∀ d, d < a_D (a_set s.1 (2 + w) (nI g.1)) → _
        rw [a_P_set (by omega), a_D_set (by omega)]
        exact cd2.2.1
      · show (v_si (v_si S2 55 2 (nI (s.2.2 ||| 2 ^ w))) 33 w (nI g.1)).1 55 2 = _
        rw [si1, if_neg (by omega)]
        exact si_at
  · rw [c, if_pos rfl] at h
    simp only [eq_self, reduceCtorEq, true_implies, false_implies, and_true, true_and, not_true_eq_false, not_false_eq_true]
    refine x_blame (f := 5) wf xr ?_
    rw [bl_2 k2.2]
    exact h
theorem x_readPerson {S : vSt} {s : aS} {R : List aK} {K : Bool → vSt → Prop} (pi : a_PI s) (wf : a_wf R) (hk : a_is (a_h0 R) 4 = true) (xr : a_XR S R) (cd : a_CD S s) (h : a_XF S K a_cgd (a_ps (a_rpe s R))) : p_X1_readPerson S K := by
  obtain ⟨ok, fr, nb, ht⟩ := pi
  have h8 := ok_P8 ok
  have k2 := is_k hk
  unfold p_X1_readPerson
  rw [R_0 cd.1, ok_m0 ok]
  unfold a_ps a_rpe at h
  by_cases c8 : a_P s.1 = 8
  · have n1 : ¬ nI (a_P s.1) < 8 := nI_nlt (b := 8) (by omega) (by omega)
    rw [if_pos c8] at h
    simp only [n1, eq_self, reduceCtorEq, true_implies, false_implies, and_true, true_and, not_true_eq_false, not_false_eq_true]
    refine x_blame (f := 6) wf xr ?_
    rw [bl_2 k2.2]
    exact h
  · have n1 : nI (a_P s.1) < 8 := nI_lt (b := 8) (by omega) (by omega)
    rw [if_neg c8] at h
    have hP8 : a_P s.1 < 8 := by omega
    simp only [n1, eq_self, reduceCtorEq, true_implies, false_implies, and_true, true_and, not_true_eq_false, not_false_eq_true]
    refine x_pas wf k2.1 xr (fun S1 f1 xr1 _ => ?_)
    have wt := wf_tl wf k2.1
    have cd1 := CD_fr cd f1
    refine x_takeNewName ok cd1.1 cd1.2.1 nb wt xr1 ?_
    cases e1 : a_newn s.1 s.2.1 R.tail with
    | inl e =>
      rw [e1] at h
      intro S' f' b1 b2
      simp only [eq_self, reduceCtorEq, true_implies, false_implies, and_true, true_and, not_true_eq_false, not_false_eq_true]
      exact h S' (fr_t (fr_w f1 psf_ccf) f') b1 b2
    | inr g =>
      rw [e1] at h
      obtain ⟨w2, v2⟩ := newn_wf wt e1
      rintro S2 - ⟨g2, xr2, tk⟩
      have cd2 := CD_fr cd1 g2
      have F2 := fr_t (fr_w f1 psf_ccf) (fr_w g2 psf_ccf)
      simp only [eq_self, reduceCtorEq, true_implies, false_implies, and_true, true_and, not_true_eq_false, not_false_eq_true]
      rw [tk]
      refine x_addPerson ok fr cd2.1 cd2.2.1 hP8 (fun S3 f3 R3 nx3 t3 => ?_)
      have xr3 := XR_dr xr2 f3
      have F3 := fr_t F2 (fr_w f3 dr_ccf)
      have t3 : S3.1 55 2 = nI s.2.2 := t3.trans cd2.2.2
      -- the skill
      have sk : ∀ (S4 : vSt) (co : Nat) (R4 : List aK), a_wf R4 → a_XR S4 R4 → a_CD S4 (a_adp s.1 (nI co) 0, a_up2 s.2.1 (a_P s.1) g.1, s.2.2) → a_fr a_ccf S S4 → co ≤ 9999 → a_XF S K a_cgd (a_bi (a_bi (a_opt 6 0 16 0 R4) (fun k => .inr ((a_adp s.1 (nI co) (nI k.1), a_up2 s.2.1 (a_P s.1) g.1, s.2.2), k.2))) (fun g => a_bi (a_semi g.2) (fun R' => .inr (g.1, R')))) → p_X1_readPerson_96 K S4 (nI (a_P s.1)) := by
        intro S4 co R4 w4 xr4 cd4 F4 hco h4
        unfold p_X1_readPerson_96 p_X1_readPerson_140
        rw [show (6 : Int32) = nI 6 from rfl, x_isWord w4 xr4 (by omega)]
        unfold a_opt at h4
        cases c : a_is (a_h0 R4) 6
        · rw [c, if_neg (by decide)] at h4
          simp only [eq_self, reduceCtorEq, true_implies, false_implies, and_true, true_and, not_true_eq_false, not_false_eq_true]
          exact x_semi w4 xr4 cd4 F4 h4
        · rw [c, if_pos rfl] at h4
          simp only [eq_self, reduceCtorEq, true_implies, false_implies, and_true, true_and, not_true_eq_false, not_false_eq_true]
          refine x_takeWN (q := 6) (lo := 0) (hi := 16) w4 xr4 (by omega) (by omega) (by omega) ?_
          rw [c]
          show a_XF S4 _ _ (a_nu 0 16 R4.tail)
          have w5 := wf_tl w4 (is_k c).1
          cases e2 : a_nu 0 16 R4.tail with
          | inl e =>
            rw [e2] at h4
            intro S' f' b1 b2
            simp only [eq_self, reduceCtorEq, true_implies, false_implies, and_true, true_and, not_true_eq_false, not_false_eq_true]
            exact h4 S' (fr_t F4 f') b1 b2
          | inr k =>
            rw [e2] at h4
            obtain ⟨w6, -, v6⟩ := nu_wf w5 e2
            rintro S5 - ⟨g5, xr5, tk5⟩
            have cd5 := CD_fr cd4 g5
            simp only [eq_self, reduceCtorEq, true_implies, false_implies, and_true, true_and, not_true_eq_false, not_false_eq_true]
            unfold p_X6_number
            rw [tk5, lNi]
            show p_X10_put _ _ _ _ _ _
            rw [e_put hP8 (by omega)]
            have f6 : a_fr a_dr2 S5 (v_si S5 36 (a_P s.1) (nI k.1)) := fr_i fr_r rfl
            refine x_semi (s := (a_adp s.1 (nI co) (nI k.1), a_up2 s.2.1 (a_P s.1) g.1, s.2.2)) w6 (XR_dr xr5 f6) ⟨?_, ?_, ?_⟩ (fr_t F4 (fr_t (fr_w g5 psf_ccf) (fr_w f6 dr_ccf))) h4
            · show a_R _ 32 (a_adp s.1 (nI co) (nI k.1))
              rw [← adp_set16 (s := 0)]
              exact R_set (b := 32) (o := 4) cd5.1 (by omega) (by omega) (a_xr16 _ hP8)
            · unfold a_nmX
              have q := cd5.2.1
              unfold a_nmX at q
              have e3 := adp_PD (c := nI co) (s := nI k.1) ok hP8
              have e4 := adp_PD (c := nI co) (s := 0) ok hP8
              show (∀ p, p < a_P (a_adp s.1 (nI co) (nI k.1)) → _) ∧ ∀ d, d < a_D (a_adp s.1 (nI co) (nI k.1)) → _
              have q : (∀ p, p < a_P (a_adp s.1 (nI co) 0) → _) ∧ ∀ d, d < a_D (a_adp s.1 (nI co) 0) → _ := q
              rw [e3.1, e3.2]
              rw [e4.1, e4.2] at q
              exact q
            · exact cd5.2.2
      rw [show (5 : Int32) = nI 5 from rfl, x_isWord w2 xr3 (by omega)]
      have h : a_XF S K a_cgd (a_bi (a_bi (a_opt 5 0 9999 100 g.2) (fun c => a_bi (a_opt 6 0 16 0 c.2) (fun k => .inr ((a_adp s.1 (nI c.1) (nI k.1), a_up2 s.2.1 (a_P s.1) g.1, s.2.2), k.2)))) (fun g => a_bi (a_semi g.2) (fun R' => .inr (g.1, R')))) := h
      unfold a_opt at h
      cases c : a_is (a_h0 g.2) 5
      · rw [c, if_neg (by decide)] at h
        simp only [eq_self, reduceCtorEq, true_implies, false_implies, and_true, true_and, not_true_eq_false, not_false_eq_true]
        exact sk S3 100 g.2 w2 xr3 ⟨R3, nx3, t3⟩ F3 (by omega) h
      · rw [c, if_pos rfl] at h
        simp only [eq_self, reduceCtorEq, true_implies, false_implies, and_true, true_and, not_true_eq_false, not_false_eq_true]
        refine x_takeWN (q := 5) (lo := 0) (hi := 9999) w2 xr3 (by omega) (by omega) (by omega) ?_
        rw [c]
        show a_XF S3 _ _ (a_nu 0 9999 g.2.tail)
        have w5 := wf_tl w2 (is_k c).1
        cases e2 : a_nu 0 9999 g.2.tail with
        | inl e =>
          rw [e2] at h
          intro S' f' b1 b2
          simp only [eq_self, reduceCtorEq, true_implies, false_implies, and_true, true_and, not_true_eq_false, not_false_eq_true]
          exact h S' (fr_t F3 f') b1 b2
        | inr k =>
          rw [e2] at h
          obtain ⟨w6, -, v6⟩ := nu_wf w5 e2
          rintro S5 - ⟨g5, xr5, tk5⟩
          have cd5 := CD_fr (s := (a_adp s.1 100 0, a_up2 s.2.1 (a_P s.1) g.1, s.2.2)) ⟨R3, nx3, t3⟩ g5
          simp only [eq_self, reduceCtorEq, true_implies, false_implies, and_true, true_and, not_true_eq_false, not_false_eq_true]
          unfold p_X6_number
          rw [tk5, lNi]
          show p_X10_put _ _ _ _ _ _
          rw [e_put hP8 (by omega)]
          have f6 : a_fr a_dr2 S5 (v_si S5 35 (a_P s.1) (nI k.1)) := fr_i fr_r rfl
          refine sk _ k.1 k.2 w6 (XR_dr xr5 f6) ⟨?_, ?_, cd5.2.2⟩ (fr_t F3 (fr_t (fr_w g5 psf_ccf) (fr_w f6 dr_ccf))) v6 h
          · show a_R _ 32 (a_adp s.1 (nI k.1) 0)
            rw [← adp_set8 (c := 100)]
            exact R_set (b := 32) (o := 3) cd5.1 (by omega) (by omega) (a_xr8 _ hP8)
          · unfold a_nmX
            have q := cd5.2.1
            unfold a_nmX at q
            have e3 := adp_PD (c := nI k.1) (s := 0) ok hP8
            have e4 := adp_PD (c := 100) (s := 0) ok hP8
            show (∀ p, p < a_P (a_adp s.1 (nI k.1) 0) → _) ∧ ∀ d, d < a_D (a_adp s.1 (nI k.1) 0) → _
            have q : (∀ p, p < a_P (a_adp s.1 100 0) → _) ∧ ∀ d, d < a_D (a_adp s.1 100 0) → _ := q
            rw [e3.1, e3.2]
            rw [e4.1, e4.2] at q
            exact q
theorem x_readDeed {S : vSt} {s : aS} {R : List aK} {K : Bool → vSt → Prop} (pi : a_PI s) (wf : a_wf R) (hk : a_is (a_h0 R) 7 = true) (xr : a_XR S R) (cd : a_CD S s) (h : a_XF S K a_cgd (a_ps (a_rde s R))) : p_X1_readDeed S K := by
  obtain ⟨ok, fr, nb, ht⟩ := pi
  have h8 := ok_P8 ok
  have h10 := ok_D10 ok
  have k2 := is_k hk
  unfold p_X1_readDeed
  rw [R_1 cd.1, ok_m1 ok]
  unfold a_ps a_rde at h
  by_cases c10 : a_D s.1 = 10
  · have n1 : ¬ nI (a_D s.1) < 10 := nI_nlt (b := 10) (by omega) (by omega)
    rw [if_pos c10] at h
    simp only [n1, eq_self, reduceCtorEq, true_implies, false_implies, and_true, true_and, not_true_eq_false, not_false_eq_true]
    refine x_blame (f := 6) wf xr ?_
    rw [bl_2 k2.2]
    exact h
  · have n1 : nI (a_D s.1) < 10 := nI_lt (b := 10) (by omega) (by omega)
    rw [if_neg c10] at h
    have hD : a_D s.1 < 10 := by omega
    simp only [n1, eq_self, reduceCtorEq, true_implies, false_implies, and_true, true_and, not_true_eq_false, not_false_eq_true]
    refine x_pas wf k2.1 xr (fun S1 f1 xr1 _ => ?_)
    have wt := wf_tl wf k2.1
    have cd1 := CD_fr cd f1
    refine x_takeNewName ok cd1.1 cd1.2.1 nb wt xr1 ?_
    cases e1 : a_newn s.1 s.2.1 R.tail with
    | inl e =>
      rw [e1] at h
      intro S' f' b1 b2
      simp only [eq_self, reduceCtorEq, true_implies, false_implies, and_true, true_and, not_true_eq_false, not_false_eq_true]
      exact h S' (fr_t (fr_w f1 psf_ccf) f') b1 b2
    | inr g =>
      rw [e1] at h
      obtain ⟨w2, v2⟩ := newn_wf wt e1
      rintro S2 - ⟨g2, xr2, tk⟩
      have cd2 := CD_fr cd1 g2
      have F2 := fr_t (fr_w f1 psf_ccf) (fr_w g2 psf_ccf)
      simp only [eq_self, reduceCtorEq, true_implies, false_implies, and_true, true_and, not_true_eq_false, not_false_eq_true]
      rintro _ rfl
      rw [tk]
      refine x_takeWord (q := 8) w2 xr2 (by omega) ?_
      have h : a_XF S K a_cgd (a_bi (a_bi (a_wd (a_is (a_h0 g.2) 8) g.2) (fun R2 => a_bi (a_own2 s.1 s.2.1 R2) (fun o => a_bi (a_wdn 9 1 999 o.2) (fun f => a_bi (a_wdn 10 0 16 f.2) (fun d => .inr ((a_cm1 s.1 (nI o.1) (nI f.1) (nI d.1), a_up2 s.2.1 (8 + a_D s.1) g.1, s.2.2), d.2)))))) (fun g => a_bi (a_semi g.2) (fun R' => .inr (g.1, R')))) := h
      cases e2 : a_wd (a_is (a_h0 g.2) 8) g.2 with
      | inl e =>
        rw [e2] at h
        intro S' f' b1 b2
        simp only [eq_self, reduceCtorEq, true_implies, false_implies, and_true, true_and, not_true_eq_false, not_false_eq_true]
        exact h S' (fr_t F2 f') b1 b2
      | inr R2 =>
        rw [e2] at h
        have w3 := wd_wf w2 (fun w => (is_k w).1) e2
        rintro S3 - ⟨g3, xr3⟩
        have cd3 := CD_fr cd2 g3
        have F3 := fr_t F2 (fr_w g3 psf_ccf)
        simp only [eq_self, reduceCtorEq, true_implies, false_implies, and_true, true_and, not_true_eq_false, not_false_eq_true]
        obtain ⟨c7, c8, c9⟩ := XR_0 w3 xr3
        have tok := wf_ok w3
        have k6 := tok.2.1
        have ek : nI (a_h0 R2).1 = 3 ↔ (a_h0 R2).1 = 3 := nI_eq (b := 3) (by omega) (by omega)
        rw [c7, c9, ek]
        have h : a_XF S K a_cgd (a_bi (a_bi (a_own2 s.1 s.2.1 R2) (fun o => a_bi (a_wdn 9 1 999 o.2) (fun f => a_bi (a_wdn 10 0 16 f.2) (fun d => .inr ((a_cm1 s.1 (nI o.1) (nI f.1) (nI d.1), a_up2 s.2.1 (8 + a_D s.1) g.1, s.2.2), d.2))))) (fun g => a_bi (a_semi g.2) (fun R' => .inr (g.1, R')))) := h
        unfold a_own2 at h
        by_cases c3 : (a_h0 R2).1 = 3
        · have hv := (tok.2.2.2.1 c3).1
          rw [if_pos c3] at h
          simp only [c3, eq_self, reduceCtorEq, true_implies, false_implies, and_true, true_and, not_true_eq_false, not_false_eq_true]
          refine x_personBy ok cd3.1 cd3.2.1 nb hv ?_
          rw [oi_m1 (fun k q => by have := pb_lt q; omega)]
          cases q : a_pb s.1 s.2.1 (a_h0 R2).2.2 with
          | none =>
            rw [q] at h
            simp only [eq_self, reduceCtorEq, true_implies, false_implies, and_true, true_and, not_true_eq_false, not_false_eq_true]
            refine x_blame (f := 3) w3 xr3 ?_
            rw [bl_2 (by omega)]
            intro S' f' b1 b2
            exact h S' (fr_t F3 f') b1 b2
          | some o =>
            rw [q] at h
            have ho := pb_lt q
            have ns : ¬ (some o : Option Nat) = none := fun w => by cases w
            simp only [ns, eq_self, reduceCtorEq, true_implies, false_implies, and_true, true_and, not_true_eq_false, not_false_eq_true]
            refine x_pas w3 (by omega) xr3 (fun S4 f4 xr4 _ => ?_)
            have w4 := wf_tl w3 (show (a_h0 R2).1 ≠ 0 by omega)
            have cd4 := CD_fr cd3 f4
            have F4 := fr_t F3 (fr_w f4 psf_ccf)
            have h : a_XF S K a_cgd (a_bi (a_bi (a_wdn 9 1 999 R2.tail) (fun f => a_bi (a_wdn 10 0 16 f.2) (fun d => .inr ((a_cm1 s.1 (nI o) (nI f.1) (nI d.1), a_up2 s.2.1 (8 + a_D s.1) g.1, s.2.2), d.2)))) (fun g => a_bi (a_semi g.2) (fun R' => .inr (g.1, R')))) := h
            refine x_takeWN (q := 9) (lo := 1) (hi := 999) w4 xr4 (by omega) (by omega) (by omega) ?_
            show a_XF S4 _ _ (a_wdn 9 1 999 R2.tail)
            cases e5 : a_wdn 9 1 999 R2.tail with
            | inl e =>
              rw [e5] at h
              intro S' f' b1 b2
              simp only [eq_self, reduceCtorEq, true_implies, false_implies, and_true, true_and, not_true_eq_false, not_false_eq_true]
              exact h S' (fr_t F4 f') b1 b2
            | inr fi =>
              rw [e5] at h
              obtain ⟨w5, fi1, fi2, -⟩ := wdn_ok w4 e5
              rintro S5 - ⟨g5, xr5, tk5⟩
              have cd5 := CD_fr cd4 g5
              have F5 := fr_t F4 (fr_w g5 psf_ccf)
              simp only [eq_self, reduceCtorEq, true_implies, false_implies, and_true, true_and, not_true_eq_false, not_false_eq_true]
              unfold p_X6_number
              rw [tk5, lNi]
              have h : a_XF S K a_cgd (a_bi (a_bi (a_wdn 10 0 16 fi.2) (fun d => .inr ((a_cm1 s.1 (nI o) (nI fi.1) (nI d.1), a_up2 s.2.1 (8 + a_D s.1) g.1, s.2.2), d.2))) (fun g => a_bi (a_semi g.2) (fun R' => .inr (g.1, R')))) := h
              refine x_takeWN (q := 10) (lo := 0) (hi := 16) w5 xr5 (by omega) (by omega) (by omega) ?_
              show a_XF S5 _ _ (a_wdn 10 0 16 fi.2)
              cases e6 : a_wdn 10 0 16 fi.2 with
              | inl e =>
                rw [e6] at h
                intro S' f' b1 b2
                simp only [eq_self, reduceCtorEq, true_implies, false_implies, and_true, true_and, not_true_eq_false, not_false_eq_true]
                exact h S' (fr_t F5 f') b1 b2
              | inr od =>
                rw [e6] at h
                obtain ⟨w6, -, od2, -⟩ := wdn_ok w5 e6
                rintro S6 - ⟨g6, xr6, tk6⟩
                have cd6 := CD_fr cd5 g6
                have F6 := fr_t F5 (fr_w g6 psf_ccf)
                simp only [eq_self, reduceCtorEq, true_implies, false_implies, and_true, true_and, not_true_eq_false, not_false_eq_true]
                rw [tk6, lNi]
                refine x_addDeed ok fr cd6.1 cd6.2.1 hD (fun S7 f7 R7 nx7 t7 => ?_)
                exact x_semi (s := (a_cm1 s.1 (nI o) (nI fi.1) (nI od.1), a_up2 s.2.1 (8 + a_D s.1) g.1, s.2.2)) w6 (XR_dr xr6 f7) ⟨R7, nx7, t7.trans cd6.2.2⟩ (fr_t F6 (fr_w f7 dr_ccf)) h
        · rw [if_neg c3] at h
          simp only [c3, eq_self, reduceCtorEq, true_implies, false_implies, and_true, true_and, not_true_eq_false, not_false_eq_true]
          refine x_blame (f := 2) w3 xr3 ?_
          intro S' f' b1 b2
          exact h S' (fr_t F3 f') b1 b2
