/-! the class's steps -/
def a_hgd (s : aY) (w : Nat) (g : aL × List aK) (S' : vSt) : Prop := a_XR S' g.2 ∧ a_YD S' (a_yad s w g.1)
theorem YD_no {S : vSt} {s : aY} {w : Nat} {g : aL} (ho : a_ope w = false) (yw : a_YW S (a_w4 s.1 s.2.2.1 (nI w) g) (s.2.2.1 + 1) (s.2.2.2.1 + 1)) (h1 : S.1 56 4 = nI s.2.2.2.2.length) (h2 : a_stk S s.2.2.2.2) : a_YD S (a_yad s w g) := by
  refine ⟨yw, ?_, ?_⟩
  · show S.1 56 4 = nI (if a_ope w = true then _ else s.2.2.2.2 : List (Nat × Nat)).length
    rw [ho]; exact h1
  · show a_stk S (if a_ope w = true then _ else s.2.2.2.2 : List (Nat × Nat))
    rw [ho]; exact h2
theorem YD_op {S : vSt} {s : aY} {w : Nat} {g : aL} (ho : a_ope w = true) (yw : a_YW S (a_w4 s.1 s.2.2.1 (nI w) g) (s.2.2.1 + 1) (s.2.2.2.1 + 1)) (h1 : S.1 56 4 = nI (s.2.2.2.2.length + 1)) (h3 : S.1 57 s.2.2.2.2.length = nI s.2.2.1) (h2 : a_stk S s.2.2.2.2) : a_YD S (a_yad s w g) := by
  refine ⟨yw, ?_, ?_⟩
  · show S.1 56 4 = nI (if a_ope w = true then (s.2.2.1, s.2.2.2.1) :: s.2.2.2.2 else s.2.2.2.2 : List (Nat × Nat)).length
    rw [ho]; exact h1
  · show a_stk S (if a_ope w = true then (s.2.2.1, s.2.2.2.1) :: s.2.2.2.2 else s.2.2.2.2 : List (Nat × Nat))
    rw [ho]; exact ⟨h3, h2⟩
/-- a simple step is added -/
theorem x_addS {S0 S : vSt} {s : aY} {w : Nat} {g : aL} {R : List aK} {K : Bool → vSt → Prop} {Q : Int32 → vSt → Prop} (f : a_fr a_ycf S0 S) (xr : a_XR S R) (yd : a_YD S s) (yi : a_YI s) (hK : s.2.2.2.1 < 30) (hw : w < 20 ∨ 20 < w) (hw2 : w < 100) (ho : a_ope w = false) (h : a_XY S0 K (a_hgd s w) (.inr (g, R))) (q : ∀ r S', K true S' → Q r S') : p_X8_add 32 S (nI w) g.1 g.2.1 g.2.2 Q := by
  obtain ⟨y1, y2, y3, -⟩ := yi
  obtain ⟨yw, d4, st⟩ := yd
  refine x_add yw (by omega) hw hw2 (fun S' f' yw' => q _ _ (h S' (fr_t f (fr_w f' ylf_ycf)) ⟨XR_ycf xr f' (fun k j w => decide_eq_false (by omega)), YD_no ho yw' ((f' 56 4 rfl).1.trans d4) (stk_eq _ (fun j _ => (f' 57 j rfl).1) st)⟩))
/-- a step that opens is added -/
theorem x_addO {S0 S : vSt} {s : aY} {w : Nat} {g : aL} {R : List aK} {K : Bool → vSt → Prop} {Q : vSt → Prop} (f : a_fr a_ycf S0 S) (xr : a_XR S R) (yd : a_YD S s) (yi : a_YI s) (hK : s.2.2.2.1 < 30) (hd : s.2.2.2.2.length < 3) (hw : w < 20) (ho : a_ope w = true) (h : a_XY S0 K (a_hgd s w) (.inr (g, R))) (q : ∀ S', K true S' → Q S') : p_X8_add 32 S (nI w) g.1 g.2.1 g.2.2 (fun r S' => p_X9_open S' r Q) := by
  obtain ⟨y1, y2, y3, -⟩ := yi
  obtain ⟨yw, d4, st⟩ := yd
  refine x_add yw (by omega) (Or.inl hw) (by omega) (fun S1 f1 yw1 => ?_)
  refine x_open ((f1 56 4 rfl).1.trans d4) hd (fun S2 f2 e57 e56 => q _ (h S2 (fr_t f (fr_t (fr_w f1 ylf_ycf) (fr_w f2 (fun k j w => ?_)))) ⟨?_, YD_op ho (YW_fr yw1 f2 (fun k j h1 h2 => decide_eq_false (by omega))) e56 e57 ?_⟩))
  · unfold a_ycf at w
    rw [decide_eq_false_iff_not] at w ⊢
    omega
  · exact XR_ycf (XR_ycf xr f1 (fun k j w => decide_eq_false (by omega))) f2 (fun k j w => decide_eq_false (by omega))
  · refine stk_eq _ (fun j hj => ?_) st
    rw [(f2 57 j (decide_eq_false (by omega))).1]
    exact (f1 57 j rfl).1
theorem x_num {S : vSt} {z : Nat} {K : Int32 → vSt → Prop} (h : S.2 5 10 = lN z) (k : K (nI z) S) : p_X6_number S K := by
  unfold p_X6_number
  rw [h, lNi]
  exact k
theorem XR_pnf {S S' : vSt} {R : List aK} (h : a_XR S R) (f : a_fr a_pnf S S') (q : a_XR S' R) : a_XR S' R := q
theorem x_readCharge {S : vSt} {s : aY} {R : List aK} {m : Nat → Int32} {nm : Nat → Nat} {K : Bool → vSt → Prop} (cn : a_CN S m nm) (wf : a_wf R) (xr : a_XR S R) (yd : a_YD S s) (yi : a_YI s) (hK : s.2.2.2.1 < 30) (h : a_XY S K (a_hgd s 11) (a_hch m nm R)) : p_X9_readCharge S K := by
  unfold p_X9_readCharge
  unfold a_hch at h
  refine x_takeP cn wf xr (XY_bi fr_r h (fun S' k => ?_) (fun p S1 e1 f1 g1 t1 h => ?_))
  · simp only [eq_self, reduceCtorEq, true_implies, false_implies, and_true, true_and, not_true_eq_false, not_false_eq_true]
    exact k
  · obtain ⟨w1, -, -⟩ := own2_ok wf e1
    obtain ⟨pf1, xr1, n1⟩ := t1
    simp only [eq_self, reduceCtorEq, true_implies, false_implies, and_true, true_and, not_true_eq_false, not_false_eq_true]
    rw [n1]
    rintro _ rfl
    refine x_takeD (CN_fr cn f1) w1 xr1 (XY_bi f1 h (fun S' k => ?_) (fun d S2 e2 f2 g2 t2 h => ?_))
    · simp only [eq_self, reduceCtorEq, true_implies, false_implies, and_true, true_and, not_true_eq_false, not_false_eq_true]
      exact k
    · obtain ⟨pf2, xr2, n2⟩ := t2
      simp only [eq_self, reduceCtorEq, true_implies, false_implies, and_true, true_and, not_true_eq_false, not_false_eq_true]
      rw [n2]
      exact x_addS (w := 11) (g := (nI p.1, nI d.1, 0)) f2 xr2 (YD_fr (YD_fr yd pf1) pf2) yi hK (by omega) (by omega) rfl h (fun _ _ k => k)
theorem x_readDrop {S : vSt} {s : aY} {R : List aK} {m : Nat → Int32} {nm : Nat → Nat} {K : Bool → vSt → Prop} (cn : a_CN S m nm) (wf : a_wf R) (xr : a_XR S R) (yd : a_YD S s) (yi : a_YI s) (hK : s.2.2.2.1 < 30) (h : a_XY S K (a_hgd s 12) (a_hdr m nm R)) : p_X9_readDrop S K := by
  unfold p_X9_readDrop
  unfold a_hdr at h
  refine x_takeP cn wf xr (XY_bi fr_r h (fun S' k => ?_) (fun p S1 e1 f1 g1 t1 h => ?_))
  · simp only [eq_self, reduceCtorEq, true_implies, false_implies, and_true, true_and, not_true_eq_false, not_false_eq_true]
    exact k
  · obtain ⟨w1, -, -⟩ := own2_ok wf e1
    obtain ⟨pf1, xr1, n1⟩ := t1
    simp only [eq_self, reduceCtorEq, true_implies, false_implies, and_true, true_and, not_true_eq_false, not_false_eq_true]
    rw [n1]
    rintro _ rfl
    refine x_takeD (CN_fr cn f1) w1 xr1 (XY_bi f1 h (fun S' k => ?_) (fun d S2 e2 f2 g2 t2 h => ?_))
    · simp only [eq_self, reduceCtorEq, true_implies, false_implies, and_true, true_and, not_true_eq_false, not_false_eq_true]
      exact k
    · obtain ⟨w2, -, -⟩ := own3_ok w1 e2
      obtain ⟨pf2, xr2, n2⟩ := t2
      have yd2 := YD_fr (YD_fr yd pf1) pf2
      simp only [eq_self, reduceCtorEq, true_implies, false_implies, and_true, true_and, not_true_eq_false, not_false_eq_true]
      have h : a_XY S K (a_hgd s 12) (a_bi (a_bi (a_wd (a_is (a_h0 d.2) 13) d.2) (a_nu 0 9999)) (fun z => .inr ((nI p.1, nI d.1, nI z.1), z.2))) := h
      have h : a_XY S K (a_hgd s 12) (a_bi (a_wd (a_is (a_h0 d.2) 13) d.2) (fun r => a_bi (a_nu 0 9999 r) (fun z => .inr ((nI p.1, nI d.1, nI z.1), z.2)))) := by
        cases q : a_wd (a_is (a_h0 d.2) 13) d.2 with
        | inl e => rw [q] at h; exact h
        | inr r => rw [q] at h; exact h
      refine x_takeWord (q := 13) w2 xr2 (by omega) (XY_F (XY_bi f2 h (fun S' k => ?_) (fun r S3 e3 f3 g3 t3 h => ?_)))
      · simp only [eq_self, reduceCtorEq, true_implies, false_implies, and_true, true_and, not_true_eq_false, not_false_eq_true]
        exact k
      · have w3 := wd_wf w2 (fun w => (is_k w).1) e3
        obtain ⟨pf3, xr3⟩ := t3
        have yd3 := YD_fr yd2 (fr_w pf3 psf_pnf)
        have n3 : S3.1 56 5 = nI d.1 := (pf3 56 5 rfl).1.trans n2
        simp only [eq_self, reduceCtorEq, true_implies, false_implies, and_true, true_and, not_true_eq_false, not_false_eq_true]
        refine x_takeNumber (lo := 0) (hi := 9999) w3 xr3 (by omega) (by omega) (XY_F (XY_bi f3 h (fun S' k => ?_) (fun z S4 e4 f4 g4 t4 h => ?_)))
        · simp only [eq_self, reduceCtorEq, true_implies, false_implies, and_true, true_and, not_true_eq_false, not_false_eq_true]
          exact k
        · obtain ⟨pf4, xr4, tk4⟩ := t4
          have yd4 := YD_fr yd3 (fr_w pf4 psf_pnf)
          simp only [eq_self, reduceCtorEq, true_implies, false_implies, and_true, true_and, not_true_eq_false, not_false_eq_true]
          refine x_num tk4 ?_
          rw [(pf4 56 5 rfl).1, n3]
          exact x_addS (w := 12) (g := (nI p.1, nI d.1, nI z.1)) f4 xr4 yd4 yi hK (by omega) (by omega) rfl h (fun _ _ k => k)
theorem x_readEarn {S : vSt} {s : aY} {R : List aK} {m : Nat → Int32} {nm : Nat → Nat} {K : Bool → vSt → Prop} (cn : a_CN S m nm) (wf : a_wf R) (xr : a_XR S R) (yd : a_YD S s) (yi : a_YI s) (hK : s.2.2.2.1 < 30) (h : a_XY S K (a_hgd s 14) (a_hea m nm R)) : p_X9_readEarn S K := by
  unfold p_X9_readEarn
  unfold a_hea at h
  refine x_takeP cn wf xr (XY_bi fr_r h (fun S' k => ?_) (fun p S1 e1 f1 g1 t1 h => ?_))
  · simp only [eq_self, reduceCtorEq, true_implies, false_implies, and_true, true_and, not_true_eq_false, not_false_eq_true]
    exact k
  · obtain ⟨w1, -, -⟩ := own2_ok wf e1
    obtain ⟨pf1, xr1, n1⟩ := t1
    have yd1 := YD_fr yd pf1
    simp only [eq_self, reduceCtorEq, true_implies, false_implies, and_true, true_and, not_true_eq_false, not_false_eq_true]
    refine x_takeNumber (lo := 1) (hi := 999) w1 xr1 (by omega) (by omega) (XY_F (XY_bi f1 h (fun S' k => ?_) (fun z S4 e4 f4 g4 t4 h => ?_)))
    · simp only [eq_self, reduceCtorEq, true_implies, false_implies, and_true, true_and, not_true_eq_false, not_false_eq_true]
      exact k
    · obtain ⟨pf4, xr4, tk4⟩ := t4
      have yd4 := YD_fr yd1 (fr_w pf4 psf_pnf)
      simp only [eq_self, reduceCtorEq, true_implies, false_implies, and_true, true_and, not_true_eq_false, not_false_eq_true]
      refine x_num tk4 ?_
      rw [(pf4 56 5 rfl).1, n1]
      exact x_addS (w := 14) (g := (nI p.1, -1, nI z.1)) f4 xr4 yd4 yi hK (by omega) (by omega) rfl h (fun _ _ k => k)
theorem x_readLoop {S : vSt} {s : aY} {R : List aK} {K : Bool → vSt → Prop} (wf : a_wf R) (xr : a_XR S R) (yd : a_YD S s) (yi : a_YI s) (hK : s.2.2.2.1 < 30) (hd : s.2.2.2.2.length < 3) (h : a_XY S K (a_hgd s 19) (a_hlo R)) : p_X9_readLoop S K := by
  unfold p_X9_readLoop
  unfold a_hlo at h
  refine x_takeNumber (lo := 1) (hi := 99) wf xr (by omega) (by omega) (XY_F (XY_bi fr_r h (fun S' k => ?_) (fun z S4 e4 f4 g4 t4 h => ?_)))
  · simp only [eq_self, reduceCtorEq, true_implies, false_implies, and_true, true_and, not_true_eq_false, not_false_eq_true]
    exact k
  · obtain ⟨pf4, xr4, tk4⟩ := t4
    have yd4 := YD_fr yd (fr_w pf4 psf_pnf)
    simp only [eq_self, reduceCtorEq, true_implies, false_implies, and_true, true_and, not_true_eq_false, not_false_eq_true]
    refine x_num tk4 ?_
    exact x_addO (w := 19) (g := (-1, -1, nI z.1)) f4 xr4 yd4 yi hK hd (by omega) rfl h (fun _ k => k)
def a_wnw (t : aK) : Int32 := if t.1 = 2 then nI t.2.2 else -1
theorem wn_eq {t : aK} {q : Nat} (ok : a_tkok t) (hq : q < 22) : a_wnw t = nI q ↔ a_is t q = true := by
  have v2 := ok.2.2.1
  unfold a_wnw a_is
  rw [decide_eq_true_iff]
  split
  · next c =>
    have v2 := v2 c
    rw [nI_eq (by omega) (by omega)]
    exact ⟨fun w => ⟨c, w⟩, fun w => w.2⟩
  · next c =>
    refine ⟨fun w => ?_, fun w => absurd w.1 c⟩
    have z : ¬ nI q < 0 := nI_pos (by omega)
    rw [← w] at z
    exact absurd (by decide) z
theorem x_wordNow {S : vSt} {R : List aK} {K : Int32 → vSt → Prop} (wf : a_wf R) (xr : a_XR S R) : p_X6_wordNow S K = K (a_wnw (a_h0 R)) S := by
  obtain ⟨c7, c8, c9⟩ := XR_0 wf xr
  have k6 := (wf_ok wf).2.1
  unfold p_X6_wordNow a_wnw
  have e2 : nI (a_h0 R).1 = 2 ↔ (a_h0 R).1 = 2 := nI_eq (b := 2) (by omega) (by omega)
  rw [c7, c9, e2, lNi]
  by_cases k2 : (a_h0 R).1 = 2
  · simp only [k2, eq_self, reduceCtorEq, true_implies, false_implies, and_true, true_and, not_true_eq_false, not_false_eq_true, if_true]
  · simp only [k2, eq_self, reduceCtorEq, true_implies, false_implies, and_true, true_and, not_true_eq_false, not_false_eq_true, if_false]
theorem x_readTest {S : vSt} {s : aY} {R : List aK} {m : Nat → Int32} {nm : Nat → Nat} {K : Bool → vSt → Prop} (cn : a_CN S m nm) (wf : a_wf R) (xr : a_XR S R) (yd : a_YD S s) (yi : a_YI s) (hK : s.2.2.2.1 < 30) (hd : s.2.2.2.2.length < 3) (h : a_XY S K (a_hgd s 16) (a_hwh m nm R)) : p_X9_readTest S K := by
  have tok := wf_ok wf
  unfold p_X9_readTest
  rw [x_wordNow wf xr]
  have w17 := wn_eq (q := 17) tok (by omega)
  have w18 := wn_eq (q := 18) tok (by omega)
  have w5 := wn_eq (q := 5) tok (by omega)
  rw [show (17 : Int32) = nI 17 from rfl, show (18 : Int32) = nI 18 from rfl, show (5 : Int32) = nI 5 from rfl, w17, w18, w5]
  unfold a_hwh at h
  by_cases c17 : a_is (a_h0 R) 17 = true
  · rw [if_pos c17] at h
    have wt := wf_tl wf (is_k c17).1
    rw [w17.mpr c17]
    simp only [c17, eq_self, reduceCtorEq, true_implies, false_implies, and_true, true_and, not_true_eq_false, not_false_eq_true]
    unfold p_X9_readTest_34
    refine x_pas wf (is_k c17).1 xr (fun S1 f1 xr1 _ => ?_)
    have F1 := fr_w f1 psf_ycf
    have yd1 := YD_fr yd (fr_w f1 psf_pnf)
    have e17 : nI 17 = (17 : Int32) := rfl
    simp only [e17, eq_self, reduceCtorEq, true_implies, false_implies, and_true, true_and, not_true_eq_false, not_false_eq_true]
    show p_X9_deedNow S1 (fun r S1 => p_X9_takeNamed S1 r _)
    refine x_takeD (CN_fr cn F1) wt xr1 (XY_bi F1 h (fun S' k => ?_) (fun p S2 e1 f2 g2 t2 h => ?_))
    · simp only [eq_self, reduceCtorEq, true_implies, false_implies, and_true, true_and, not_true_eq_false, not_false_eq_true]
      exact k
    · obtain ⟨pf2, xr2, n2⟩ := t2
      have yd2 := YD_fr yd1 pf2
      have n5 : ¬ (17 : Int32) = 5 := by decide
      simp only [n5, eq_self, reduceCtorEq, true_implies, false_implies, and_true, true_and, not_true_eq_false, not_false_eq_true]
      rw [n2]
      exact x_addO (w := 16) (g := (nI p.1, 17, 0)) f2 xr2 yd2 yi hK hd (by omega) rfl h (fun _ k => k)
  · rw [if_neg c17] at h
    by_cases c18 : a_is (a_h0 R) 18 = true
    · rw [if_pos c18] at h
      have wt := wf_tl wf (is_k c18).1
      rw [w18.mpr c18]
      simp only [c17, c18, eq_self, reduceCtorEq, true_implies, false_implies, and_true, true_and, not_true_eq_false, not_false_eq_true]
      unfold p_X9_readTest_34
      refine x_pas wf (is_k c18).1 xr (fun S1 f1 xr1 _ => ?_)
      have F1 := fr_w f1 psf_ycf
      have yd1 := YD_fr yd (fr_w f1 psf_pnf)
      have e18 : nI 18 = (18 : Int32) := rfl
      have n17 : ¬ (18 : Int32) = 17 := by decide
      simp only [e18, n17, eq_self, reduceCtorEq, true_implies, false_implies, and_true, true_and, not_true_eq_false, not_false_eq_true]
      show p_X9_personNow S1 (fun r S1 => p_X9_takeNamed S1 r _)
      refine x_takeP (CN_fr cn F1) wt xr1 (XY_bi F1 h (fun S' k => ?_) (fun p S2 e1 f2 g2 t2 h => ?_))
      · simp only [eq_self, reduceCtorEq, true_implies, false_implies, and_true, true_and, not_true_eq_false, not_false_eq_true]
        exact k
      · obtain ⟨pf2, xr2, n2⟩ := t2
        have yd2 := YD_fr yd1 pf2
        have n5 : ¬ (18 : Int32) = 5 := by decide
        simp only [n5, eq_self, reduceCtorEq, true_implies, false_implies, and_true, true_and, not_true_eq_false, not_false_eq_true]
        rw [n2]
        exact x_addO (w := 16) (g := (nI p.1, 18, 0)) f2 xr2 yd2 yi hK hd (by omega) rfl h (fun _ k => k)
    · rw [if_neg c18] at h
      by_cases c5 : a_is (a_h0 R) 5 = true
      · rw [if_pos c5] at h
        have wt := wf_tl wf (is_k c5).1
        rw [w5.mpr c5]
        simp only [c17, c18, c5, eq_self, reduceCtorEq, true_implies, false_implies, and_true, true_and, not_true_eq_false, not_false_eq_true]
        unfold p_X9_readTest_34
        refine x_pas wf (is_k c5).1 xr (fun S1 f1 xr1 _ => ?_)
        have F1 := fr_w f1 psf_ycf
        have yd1 := YD_fr yd (fr_w f1 psf_pnf)
        have e5 : nI 5 = (5 : Int32) := rfl
        have n17 : ¬ (5 : Int32) = 17 := by decide
        simp only [e5, n17, eq_self, reduceCtorEq, true_implies, false_implies, and_true, true_and, not_true_eq_false, not_false_eq_true]
        show p_X9_personNow S1 (fun r S1 => p_X9_takeNamed S1 r _)
        refine x_takeP (CN_fr cn F1) wt xr1 (XY_bi F1 h (fun S' k => ?_) (fun p S2 e1 f2 g2 t2 h => ?_))
        · simp only [eq_self, reduceCtorEq, true_implies, false_implies, and_true, true_and, not_true_eq_false, not_false_eq_true]
          exact k
        · obtain ⟨w2, -, -⟩ := own2_ok wt e1
          obtain ⟨pf2, xr2, n2⟩ := t2
          have yd2 := YD_fr yd1 pf2
          obtain ⟨c7, c8, c9⟩ := XR_0 w2 xr2
          have tok2 := wf_ok w2
          have k6 := tok2.2.1
          have e6 : nI (a_h0 p.2).1 = 6 ↔ (a_h0 p.2).1 = 6 := nI_eq (b := 6) (by omega) (by omega)
          simp only [eq_self, reduceCtorEq, true_implies, false_implies, and_true, true_and, not_true_eq_false, not_false_eq_true]
          unfold p_X9_readTest_119
          rw [c7, c9, e6]
          have bad : ¬ ((a_h0 p.2).1 = 6 ∧ (a_h0 p.2).2.2 ≠ 59) → p_X6_blame S2 2 (fun r35 S34 => K r35 S34) := by
            intro q
            have es : a_sgn p.2 = .inl (a_bl p.2 2) := by
              unfold a_sgn
              rw [if_neg q]
            rw [es] at h
            exact x_blame (f := 2) w2 xr2 (fun S' f b1 b2 => h S' (fr_t f2 (fr_w f ccf_ycf)) b1 b2)
          by_cases q6 : (a_h0 p.2).1 = 6
          · have hv := tok2.2.2.2.2.2 q6
            have e9 : lN (a_h0 p.2).2.2 = 59 ↔ (a_h0 p.2).2.2 = 59 := pk_lEQ (b := 59) (by omega) (by omega)
            rw [e9]
            simp only [q6, eq_self, reduceCtorEq, true_implies, false_implies, and_true, true_and, not_true_eq_false, not_false_eq_true]
            by_cases q59 : (a_h0 p.2).2.2 = 59
            · simp only [q59, eq_self, reduceCtorEq, true_implies, false_implies, and_true, true_and, not_true_eq_false, not_false_eq_true]
              exact bad (fun w => w.2 q59)
            · have es : a_sgn p.2 = .inr ((a_h0 p.2).2.2, p.2.tail) := by
                unfold a_sgn
                rw [if_pos ⟨q6, q59⟩]
              rw [es] at h
              have w3 := wf_tl w2 (show (a_h0 p.2).1 ≠ 0 by omega)
              have h : a_XY S K (a_hgd s 16) (a_bi (a_nu 0 9999 p.2.tail) (fun z => .inr ((nI p.1, nI (a_h0 p.2).2.2, nI z.1), z.2))) := h
              simp only [q59, eq_self, reduceCtorEq, true_implies, false_implies, and_true, true_and, not_true_eq_false, not_false_eq_true]
              refine x_pas w2 (show (a_h0 p.2).1 ≠ 0 by omega) xr2 (fun S3 f3 xr3 tk3 => ?_)
              have yd3 := YD_fr yd2 (fr_w f3 psf_pnf)
              refine x_num tk3 ?_
              refine x_takeNumber (lo := 0) (hi := 9999) w3 xr3 (by omega) (by omega) (XY_F (XY_bi (fr_t f2 (fr_w f3 psf_ycf)) h (fun S' k => ?_) (fun z S4 e4 f4 g4 t4 h => ?_)))
              · simp only [eq_self, reduceCtorEq, true_implies, false_implies, and_true, true_and, not_true_eq_false, not_false_eq_true]
                exact k
              · obtain ⟨pf4, xr4, tk4⟩ := t4
                have yd4 := YD_fr yd3 (fr_w pf4 psf_pnf)
                simp only [eq_self, reduceCtorEq, true_implies, false_implies, and_true, true_and, not_true_eq_false, not_false_eq_true]
                refine x_num tk4 ?_
                rw [(pf4 56 5 rfl).1, (f3 56 5 rfl).1, n2]
                exact x_addO (w := 16) (g := (nI p.1, nI (a_h0 p.2).2.2, nI z.1)) f4 xr4 yd4 yi hK hd (by omega) rfl h (fun _ k => k)
          · simp only [q6, eq_self, reduceCtorEq, true_implies, false_implies, and_true, true_and, not_true_eq_false, not_false_eq_true]
            exact bad (fun w => q6 w.1)
      · rw [if_neg c5] at h
        simp only [c17, c18, c5, eq_self, reduceCtorEq, true_implies, false_implies, and_true, true_and, not_true_eq_false, not_false_eq_true]
        exact x_blame (f := 2) wf xr (fun S' f b1 b2 => h S' (fr_w f ccf_ycf) b1 b2)
