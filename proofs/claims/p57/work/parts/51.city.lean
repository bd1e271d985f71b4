/-! the tape -/
def a_TpX (S : vSt) (L : Nat) (by_ : Nat → Int32) : Prop := L ≤ 900 ∧ S.1 5 1 = nI L ∧ ∀ j, j < 900 → S.1 6 j = by_ j
def a_TpM (S : vSt) (L : Nat) (by_ : Nat → Int32) : Prop := L ≤ 900 ∧ S.1 143 8 = nI L ∧ ∀ j, j < 900 → S.1 147 j = by_ j
def a_CC (by_ : Nat → Int32) (n : Nat) : Nat → Nat := fun j => if j < n then a_cv (by_ j) else 0
theorem CC_lt {by_ : Nat → Int32} {n : Nat} : ∀ j, a_CC by_ n j < 256 := fun j => by
  unfold a_CC
  split
  · exact cv_lt _
  · omega
theorem CC_0 {by_ : Nat → Int32} {n : Nat} : ∀ j, n ≤ j → a_CC by_ n j = 0 := fun j h => if_neg (by omega)
def a_toks (by_ : Nat → Int32) (n : Nat) : List aK := a_tl (a_CC by_ n) n 0
theorem toks_wf {by_ : Nat → Int32} {n : Nat} (hn : n ≤ 900) : a_wf (a_toks by_ n) := tks_wf hn CC_lt _ _
/-- how city, years end in the class: the fault told, the tape empty -/
def a_cy (k j : Nat) : Bool := decide ((k = 5 ∧ 1 ≤ j ∧ j ≤ 12) ∨ (32 ≤ k ∧ k ≤ 53) ∨ (55 ≤ k ∧ k ≤ 57) ∨ (7 ≤ k ∧ k ≤ 9) ∨ (k = 0 ∧ 14 ≤ j ∧ j ≤ 16))
def a_cyc (k j : Nat) : Bool := a_cy k j || decide (10 ≤ k ∧ k ≤ 30)
theorem ccf_cy : ∀ k j, a_cy k j = false → a_ccf k j = false := by
  intro k j q
  unfold a_cy at q
  unfold a_ccf
  rw [decide_eq_false_iff_not] at q ⊢
  omega
theorem tf_cy : ∀ k j, a_cy k j = false → a_tf k j = false := by
  intro k j q
  unfold a_cy at q
  unfold a_tf
  rw [decide_eq_false_iff_not] at q ⊢
  omega
theorem cy_w : ∀ k j, a_cyc k j = false → a_cy k j = false := fun k j h => (Bool.or_eq_false_iff.mp h).1
theorem x_tellFault {S : vSt} {b : Bool} {K : Bool → vSt → Prop} (h : ∀ S', a_fr a_cy S S' → S'.1 5 1 = 0 → S'.1 0 15 = (if b = true then 0 else S.1 5 11) → S'.1 0 16 = (if b = true then -1 else S.1 5 12) → (∀ k, k ≠ 0 → k ≠ 5 → S'.1 k = S.1 k ∧ S'.2 k = S.2 k) → K b S') : p_X10_tellFault S b K := by
  unfold p_X10_tellFault p_X10_tellFault_16 p_X10_tellFault_35
  have fin : ∀ x y, x = (if b = true then 0 else S.1 5 11) → y = (if b = true then -1 else S.1 5 12) → K b (v_si (v_si (v_si S 0 15 x) 0 16 y) 5 1 0) := by
    intro x y ex ey
    refine h _ (fr_i (fr_i (fr_i fr_r rfl) rfl) rfl) si_at ?_ ?_ (fun k h0 h5 => ⟨?_, rfl⟩)
    · rw [si1, if_neg (by omega), si1, if_neg (by omega), si_at]; exact ex
    · rw [si1, if_neg (by omega), si_at]; exact ey
    · funext j
      rw [si1, if_neg (fun w => h5 w.1), si1, if_neg (fun w => h0 w.1), si1, if_neg (fun w => h0 w.1)]
  cases b
  · simp only [eq_self, reduceCtorEq, true_implies, false_implies, and_true, true_and, not_true_eq_false, not_false_eq_true, forall_eq]
    exact fin _ _ rfl rfl
  · simp only [eq_self, reduceCtorEq, true_implies, false_implies, and_true, true_and, not_true_eq_false, not_false_eq_true, forall_eq]
    exact fin _ _ rfl rfl
def a_XCy (S : vSt) (K : Int32 → vSt → Prop) (o : aF ⊕ aS) : Prop := match o with
  | .inl e => ∀ S', a_fr a_cy S S' → S'.1 0 14 = 10 → S'.1 0 15 = nI e.1 → S'.1 0 16 = nI e.2 → S'.1 5 1 = 0 → K (-1) S'
  | .inr s => ∀ S', a_fr a_cyc S S' → a_R S' 10 s.1 → a_nmX S' 10 s.1 s.2.1 → (S'.1 25 6 = 0 ∧ S'.1 25 7 = 0 ∧ S'.1 25 8 = 0) → S'.1 0 14 = 0 → S'.1 0 15 = 0 → S'.1 0 16 = -1 → S'.1 5 1 = 0 → K (nI (a_D s.1)) S'
theorem rcy_ok : ∀ k s R, a_PI s → a_wf R → ∀ g, a_rcy k s R = .inr g → a_PI g
  | 0, s, R, pi, _, g, e => by cases e; exact pi
  | k + 1, s, R, pi, wf, g, e => by
    have es : a_rcy (k + 1) s R = if (a_h0 R).1 = 0 then .inr s else a_bi (a_ps (a_rpt s R)) (fun g => a_rcy k g.1 g.2) := rfl
    rw [es] at e
    split at e
    · cases e; exact pi
    · obtain ⟨g1, e1, e2⟩ := bi_inr e
      obtain ⟨p1, w1, -⟩ := ps_ok pi wf e1
      exact rcy_ok k g1.1 g1.2 p1 w1 g e2
theorem me_PI (nm : Nat → Nat) : a_PI (a_me, nm, 0) := by
  refine ⟨me_ok.1, me_ok.2, ⟨fun p hp => ?_, fun d hd => ?_⟩, ?_⟩
  · have hp : p < a_P a_me := hp
    rw [me_PD.1] at hp; omega
  · have hd : d < a_D a_me := hd
    rw [me_PD.2] at hd; omega
  · show 0 < 16; omega
theorem x_city {S : vSt} {L : Nat} {by_ : Nat → Int32} {nm : Nat → Nat} {x : Int32} {K : Int32 → vSt → Prop} (tp : a_TpX S L by_) (h0 : a_in 0 (nI L) x = false → K (-1) (v_si S 0 14 5)) (h1 : ∀ n, n ≤ L → x = nI n → a_XCy S K (a_rcy (a_toks by_ n).length (a_me, nm, 0) (a_toks by_ n))) : p_X10_city S x K := by
  obtain ⟨hL, t1, t6⟩ := tp
  unfold p_X10_city p_X10_city_15
  rw [t1, gd2]
  by_cases g : a_in 0 (nI L) x = true
  · obtain ⟨n, hn, rfl, -⟩ := a_in_t (n := L) rfl (by omega) g
    rw [if_pos g]
    have h := h1 n hn rfl
    have wf := toks_wf (by_ := by_) (show n ≤ 900 by omega)
    have H : ∀ j, j < n → S.1 6 j &&& 255 = nI (a_CC by_ n j) := fun j hj => by
      rw [t6 j (by omega), cv_and]
      unfold a_CC
      rw [if_pos hj]
    refine x_split (by omega) CC_lt H (fun S1 f1 xr1 len1 => ?_)
    have xr1 : a_XR S1 (a_toks by_ n) := xr1
    have len1 : (a_toks by_ n).length ≤ 901 := len1
    unfold p_X1_readText
    refine x_clear (fun S2 k2 l2 R2 y2 => ?_)
    rintro _ rfl
    have f2 : a_fr a_cy S1 S2 := by
      intro k j q
      refine ⟨k2 k j ?_, by rw [l2]⟩
      unfold a_cy at q
      rw [decide_eq_false_iff_not] at q
      omega
    have f3 : a_fr a_cy S1 (v_si S2 55 2 0) := fr_i f2 rfl
    have xr3 : a_XR (v_si S2 55 2 0) (a_toks by_ n) := by
      obtain ⟨Ls, k, a1, a2, a3, a4, a5⟩ := xr1
      have e : ∀ a b, a ≠ 55 → a < 32 → (v_si S2 55 2 0).1 a b = S1.1 a b := fun a b ha hb => by
        rw [si1, if_neg (fun w => ha w.1)]
        exact k2 a b (by omega)
      have e2 : ∀ a b, (v_si S2 55 2 0).2 a b = S1.2 a b := fun a b => by rw [si2, l2]
      refine ⟨Ls, k, fun j t q => ?_, a2, a3, ?_, fun t q => ?_⟩
      · rw [e 7 j (by omega) (by omega), e 8 j (by omega) (by omega), e2]; exact a1 j t q
      · rw [e 5 6 (by omega) (by omega)]; exact a4
      · rw [e 5 7 (by omega) (by omega), e 5 8 (by omega) (by omega), e2]; exact a5 t q
    have cd3 : a_CD (v_si S2 55 2 0) (a_me, nm, 0) := by
      refine ⟨fun i hi => ?_, ⟨fun p hp => ?_, fun d hd => ?_⟩, si_at⟩
      · have hx : (a_xr i).1 ≤ 14 := (by decide +kernel : ∀ i, i < 108 → (a_xr i).1 ≤ 14) i (a_lv_lt hi)
        rw [si1, if_neg (fun w => by omega)]
        exact R2 i hi
      · have hp : p < a_P a_me := hp
        rw [me_PD.1] at hp; omega
      · have hd : d < a_D a_me := hd
        rw [me_PD.2] at hd; omega
    have FC : a_fr a_cy S (v_si S2 55 2 0) := fr_t (fr_w f1 tf_cy) f3
    refine ⟨(a_toks by_ n).length + 1, x_readText_14 (S := v_si S2 55 2 0) _ 0 (a_me, nm, 0) _ _ (me_PI nm) wf xr3 cd3 fr_r (Nat.le_refl _) (by omega) ?_⟩
    cases q : a_rcy (a_toks by_ n).length (a_me, nm, 0) (a_toks by_ n) with
    | inl e =>
      rw [q] at h
      intro S4 f4 b1 b2
      refine x_tellFault (fun S5 f5 c1 c2 c3 c4 => ?_)
      rw [if_neg (by decide)] at c2 c3
      simp only [eq_self, reduceCtorEq, true_implies, false_implies, and_true, true_and, not_true_eq_false, not_false_eq_true]
      rw [e_refused]
      refine h _ (fr_i (fr_t FC (fr_t (fr_w f4 ccf_cy) f5)) rfl) si_at ?_ ?_ ?_
      · rw [si1, if_neg (by omega), c2]; exact b1
      · rw [si1, if_neg (by omega), c3]; exact b2
      · rw [si1, if_neg (by omega)]; exact c1
    | inr s =>
      rw [q] at h
      have pis := rcy_ok _ _ _ (me_PI nm) wf s q
      intro S4 f4 cd4
      refine x_tellFault (fun S5 f5 c1 c2 c3 c4 => ?_)
      rw [if_pos rfl] at c2 c3
      simp only [eq_self, reduceCtorEq, true_implies, false_implies, and_true, true_and, not_true_eq_false, not_false_eq_true]
      have y4 : ∀ j, 6 ≤ j → j ≤ 8 → S5.1 47 j = 0 := by
        intro j h6 h8
        rw [(c4 47 (by omega) (by omega)).1, (f4 47 j (decide_eq_false (by omega))).1, si1, if_neg (by omega)]
        obtain ⟨y6, y7, y8⟩ := y2
        rcases (show j = 6 ∨ j = 7 ∨ j = 8 by omega) with rfl | rfl | rfl
        · exact y6
        · exact y7
        · exact y8
      refine x_copyFrom (Or.inl (by omega)) (Or.inl (y4 8 (by omega) (by omega))) (fun S6 f6 D6 Y6 z6 => ?_)
      have R5 : a_R S5 32 s.1 := fun i hi => by
        rw [(c4 _ (by omega) (by omega)).1]; exact cd4.1 i hi
      have nx5 : a_nmX S5 32 s.1 s.2.1 := ⟨fun p hp => by rw [(c4 _ (by omega) (by omega)).2]; exact cd4.2.1.1 p hp, fun d hd => by rw [(c4 _ (by omega) (by omega)).2]; exact cd4.2.1.2 d hd⟩
      have R6 := R_copy R5 D6 z6
      have nx6 := nm_copy pis.1 nx5 D6
      have e16 : S6.1 10 16 = nI (a_D s.1) := (R_1 R6).trans (ok_m1 pis.1)
      have g0 : ∀ j, S6.1 0 j = S5.1 0 j := fun j => (f6 0 j rfl).1
      rw [e_told, e16]
      have fb : ∀ k j, a_cyc k j = false → a_cb 10 k j = false := by
        intro k j w
        unfold a_cyc at w
        rw [Bool.or_eq_false_iff, decide_eq_false_iff_not] at w
        exact decide_eq_false w.2
      refine h _ (fr_i (fr_t (fr_w FC cy_w) (fr_t (fr_w (fr_w f4 ccf_cy) cy_w) (fr_t (fr_w f5 cy_w) (fr_w f6 fb)))) rfl) (R_st R6 (by omega)) nx6 ⟨?_, ?_, ?_⟩ si_at ?_ ?_ ?_
      · rw [si1, if_neg (by omega)]; exact Y6.2.1.trans (y4 6 (by omega) (by omega))
      · rw [si1, if_neg (by omega)]; exact Y6.2.2.1.trans (y4 7 (by omega) (by omega))
      · rw [si1, if_neg (by omega)]; exact Y6.2.2.2.trans (y4 8 (by omega) (by omega))
      · rw [si1, if_neg (by omega), g0]; exact c2
      · rw [si1, if_neg (by omega), g0]; exact c3
      · rw [si1, if_neg (by omega), (f6 5 1 rfl).1]; exact c1
  · rw [if_neg g]
    rw [Bool.not_eq_true] at g
    rw [e_refused]
    exact h0 g
