/-! the class's years, to the end -/
theorem ryr_ok {m : Nat → Int32} {nm : Nat → Nat} : ∀ k s R g, a_YI s → a_wf R → R.length ≤ k → a_ryr m nm k s R = .inr g → a_YI g ∧ g.2.2.2.2 = []
  | 0, s, R, g, yi, wf, hk, e => by
    obtain ⟨t, R', rfl, -, -, -, -⟩ := wf_c wf
    exact absurd hk (by rw [List.length_cons]; omega)
  | k + 1, s, R, g, yi, wf, hk, e => by
    have es : a_ryr m nm (k + 1) s R = if (a_h0 R).1 = 0 then (if s.2.2.2.2 = [] then .inr s else .inl (a_bl R 2)) else a_bi (a_yon m nm s R) (fun g => a_ryr m nm k g.1 g.2) := rfl
    rw [es] at e
    split at e
    · split at e
      · next c => cases e; exact ⟨yi, c⟩
      · cases e
    · obtain ⟨g1, e1, e2⟩ := bi_inr e
      obtain ⟨p1, w1, l1⟩ := yon_ok yi wf e1
      exact ryr_ok k g1.1 g1.2 g p1 w1 (by omega) e2
theorem x_ryr_62 {S0 S : vSt} {x1 : Int32} {K22 : vSt → Int32 → Prop} {K : Bool → vSt → Prop} (res : aF ⊕ (aY × List aK)) (f0 : a_fr a_ycf S0 S) (h1 : ∀ e, res = .inl e → ∀ S', a_fr a_ycf S0 S' → S'.1 5 11 = nI e.1 → S'.1 5 12 = nI e.2 → K false S') (h2 : ∀ g, res = .inr g → ∀ S', a_fr a_ycf S0 S' → a_ygd g S' → K22 S' (x1 + 1)) : a_XY S (fun r S' => p_X9_readText_62 K22 K S' x1 r) a_ygd res := by
  cases q : res with
  | inl e =>
    intro S' f b1 b2
    unfold p_X9_readText_62
    simp only [eq_self, reduceCtorEq, true_implies, false_implies, and_true, true_and, not_true_eq_false, not_false_eq_true]
    exact h1 e q S' (fr_t f0 f) b1 b2
  | inr g =>
    intro S' f c
    unfold p_X9_readText_62
    simp only [eq_self, reduceCtorEq, true_implies, false_implies, and_true, true_and, not_true_eq_false, not_false_eq_true, forall_eq]
    exact h2 g q S' (fr_t f0 f) c
theorem x_readText_22 {S : vSt} {m : Nat → Int32} {nm : Nat → Nat} {K : Bool → vSt → Prop} (cn : a_CN S m nm) : ∀ k i s R S1, a_YI s → a_wf R → a_XR S1 R → a_YD S1 s → a_fr a_ycf S S1 → R.length ≤ k → R.length + i ≤ 901 → (match a_ryr m nm k s R with
    | .inl e => ∀ S', a_fr a_ycf S S' → S'.1 5 11 = nI e.1 → S'.1 5 12 = nI e.2 → K false S'
    | .inr g => ∀ S', a_fr a_ycf S S' → a_YD S' g → K true S') → p_X9_readText_22 K (k + 1) S1 (nI i)
  | 0, i, s, R, S1, yi, wf, xr, yd, f, hk, hi, h => by
    obtain ⟨t, R', rfl, -, -, -, -⟩ := wf_c wf
    exact absurd hk (by rw [List.length_cons]; omega)
  | k + 1, i, s, R, S1, yi, wf, xr, yd, f, hk, hi, h => by
    have lp := tl_len wf
    obtain ⟨c7, c8, c9⟩ := XR_0 wf xr
    have tok := wf_ok wf
    have k6 := tok.2.1
    have n1 : ¬ 900 < nI i := nI_nlt (a := 900) (by omega) (by omega)
    have e0 : nI (a_h0 R).1 = 0 ↔ (a_h0 R).1 = 0 := nI_eq (b := 0) (by omega) (by omega)
    rw [e_X9_readText_22, c7, e0]
    simp only [n1, eq_self, reduceCtorEq, true_implies, false_implies, and_true, true_and, not_true_eq_false, not_false_eq_true]
    have es : a_ryr m nm (k + 1) s R = if (a_h0 R).1 = 0 then (if s.2.2.2.2 = [] then .inr s else .inl (a_bl R 2)) else a_bi (a_yon m nm s R) (fun g => a_ryr m nm k g.1 g.2) := rfl
    rw [es] at h
    by_cases k0 : (a_h0 R).1 = 0
    · rw [if_pos k0] at h
      simp only [k0, eq_self, reduceCtorEq, true_implies, false_implies, and_true, true_and, not_true_eq_false, not_false_eq_true]
      unfold p_X9_readText_75
      have y3 := yi.2.2.1
      have ez : nI s.2.2.2.2.length = 0 ↔ s.2.2.2.2.length = 0 := nI_eq (b := 0) (by omega) (by omega)
      rw [yd.2.1, ez]
      by_cases z : s.2.2.2.2 = []
      · rw [if_pos z] at h
        have z2 : s.2.2.2.2.length = 0 := by rw [z]; rfl
        simp only [z2, eq_self, reduceCtorEq, true_implies, false_implies, and_true, true_and, not_true_eq_false, not_false_eq_true]
        exact h S1 f yd
      · rw [if_neg z] at h
        have z2 : ¬ s.2.2.2.2.length = 0 := fun w => z (List.length_eq_zero_iff.mp w)
        simp only [z2, eq_self, reduceCtorEq, true_implies, false_implies, and_true, true_and, not_true_eq_false, not_false_eq_true]
        refine x_blame (f := 2) wf xr (fun S' f' b1 b2 => ?_)
        simp only [eq_self, reduceCtorEq, true_implies, false_implies, and_true, true_and, not_true_eq_false, not_false_eq_true]
        exact h S' (fr_t f (fr_w f' ccf_ycf)) b1 b2
    · rw [if_neg k0] at h
      simp only [k0, eq_self, reduceCtorEq, true_implies, false_implies, and_true, true_and, not_true_eq_false, not_false_eq_true]
      have b1 : ∀ e, a_yon m nm s R = .inl e → ∀ S', a_fr a_ycf S S' → S'.1 5 11 = nI e.1 → S'.1 5 12 = nI e.2 → K false S' := by
        intro e q
        rw [q] at h
        exact h
      have b2 : ∀ g, a_yon m nm s R = .inr g → ∀ S', a_fr a_ycf S S' → a_ygd g S' → p_X9_readText_22 K (k + 1) S' (nI i + 1) := by
        intro g q S' f' c
        obtain ⟨p2, w2, l2⟩ := yon_ok yi wf q
        rw [q] at h
        rw [nIs]
        exact x_readText_22 cn k (i + 1) g.1 g.2 S' p2 w2 c.1 c.2 f' (by omega) (by omega) h
      rw [show (20 : Int32) = nI 20 from rfl, x_isWord wf xr (by omega)]
      unfold a_yon at b1 b2
      cases c : a_is (a_h0 R) 20
      · rw [c, if_neg (by decide)] at b1 b2
        simp only [eq_self, reduceCtorEq, true_implies, false_implies, and_true, true_and, not_true_eq_false, not_false_eq_true]
        exact x_readStep (CN_fr cn f) wf xr yd yi (x_ryr_62 _ f b1 b2)
      · rw [c, if_pos rfl] at b1 b2
        simp only [eq_self, reduceCtorEq, true_implies, false_implies, and_true, true_and, not_true_eq_false, not_false_eq_true]
        exact x_readEnd wf xr yd yi c (x_ryr_62 _ f b1 b2)
def a_cyr (k j : Nat) : Bool := a_cy k j || decide (25 ≤ k ∧ k ≤ 30)
theorem cyr_w : ∀ k j, a_cyr k j = false → a_cy k j = false := fun k j h => (Bool.or_eq_false_iff.mp h).1
theorem ycf_cy : ∀ k j, a_cy k j = false → a_ycf k j = false := by
  intro k j q
  unfold a_cy at q
  unfold a_ycf
  rw [decide_eq_false_iff_not] at q ⊢
  omega
def a_XYr (S : vSt) (K : Int32 → vSt → Prop) (o : aF ⊕ aY) : Prop := match o with
  | .inl e => ∀ S', a_fr a_cy S S' → S'.1 0 14 = 10 → S'.1 0 15 = nI e.1 → S'.1 0 16 = nI e.2 → S'.1 5 1 = 0 → K (-1) S'
  | .inr s => ∀ S', a_fr a_cyr S S' → (∀ c i, c < 5 → i < 60 → S'.1 (26 + c) i = s.1 c i) → S'.1 25 6 = nI s.2.2.1 → S'.1 25 7 = nI s.2.2.2.1 → S'.1 25 8 = 1 → S'.1 0 14 = 0 → S'.1 0 15 = 0 → S'.1 0 16 = -1 → S'.1 5 1 = 0 → K (nI s.2.2.2.1) S'
theorem YI_0 {W : aW} {y : Nat → Int32} : a_YI (W, y, 0, 0, []) := ⟨Nat.le_refl _, by show 0 ≤ 30; omega, by show 0 ≤ 3; omega, fun q hq => absurd hq List.not_mem_nil⟩
theorem x_years {S : vSt} {L : Nat} {by_ : Nat → Int32} {m : Nat → Int32} {nm : Nat → Nat} {y : Nat → Int32} {x : Int32} {K : Int32 → vSt → Prop} (cn : a_CN S m nm) (tp : a_TpX S L by_) (h0 : (¬ ∃ n, n ≤ L ∧ n ≤ 300 ∧ x = nI n) → K (-1) (v_si S 0 14 5)) (h1 : ∀ n, n ≤ L → n ≤ 300 → x = nI n → a_XYr S K (a_ryr m nm (a_toks by_ n).length (fun c i => S.1 (48 + c) i, y, 0, 0, []) (a_toks by_ n))) : p_X10_years S x K := by
  obtain ⟨hL, t1, t6⟩ := tp
  unfold p_X10_years p_X10_years_22
  rw [t1]
  by_cases g : ∃ n, n ≤ L ∧ n ≤ 300 ∧ x = nI n
  · obtain ⟨n, hn, h3, rfl⟩ := g
    have h := h1 n hn h3 rfl
    have n1 : ¬ nI n < 0 := nI_pos (by omega)
    have n2 : ¬ nI L < nI n := nI_nlt hn (by omega)
    have n3 : nI n ≤ 300 := nI_le (b := 300) h3 (by omega)
    simp only [n1, n2, n3, eq_self, reduceCtorEq, true_implies, false_implies, and_true, true_and, not_true_eq_false, not_false_eq_true]
    have wf := toks_wf (by_ := by_) (show n ≤ 900 by omega)
    have H : ∀ j, j < n → S.1 6 j &&& 255 = nI (a_CC by_ n j) := fun j hj => by
      rw [t6 j (by omega), cv_and]
      unfold a_CC
      rw [if_pos hj]
    refine x_split (by omega) CC_lt H (fun S1 f1 xr1 len1 => ?_)
    have xr1 : a_XR S1 (a_toks by_ n) := xr1
    have len1 : (a_toks by_ n).length ≤ 901 := len1
    unfold p_X9_readText p_X8_clear
    show ∀ S4, S4 = v_si S1 47 6 0 → ∀ S5, S5 = v_si S4 47 7 0 → ∀ S6, S6 = v_si S5 47 8 0 → _
    rintro _ rfl _ rfl _ rfl _ rfl _ rfl
    have f2 : a_fr (fun k j => decide ((k = 47 ∧ 6 ≤ j ∧ j ≤ 8) ∨ (k = 56 ∧ j = 4))) S1 (v_si (v_si (v_si (v_si (v_si S1 47 6 0) 47 7 0) 47 8 0) 47 8 1) 56 4 0) := fr_i (fr_i (fr_i (fr_i (fr_i fr_r rfl) rfl) rfl) rfl) rfl
    have F2 : a_fr a_cy S (v_si (v_si (v_si (v_si (v_si S1 47 6 0) 47 7 0) 47 8 0) 47 8 1) 56 4 0) := fr_i (fr_i (fr_i (fr_i (fr_i (fr_w f1 tf_cy) rfl) rfl) rfl) rfl) rfl
    have yd2 : a_YD (v_si (v_si (v_si (v_si (v_si S1 47 6 0) 47 7 0) 47 8 0) 47 8 1) 56 4 0) (fun c i => S.1 (48 + c) i, y, 0, 0, []) := by
      refine ⟨⟨fun c i h1 h2 => ?_, rfl, rfl, rfl⟩, rfl, trivial⟩
      rw [(f2 _ _ (decide_eq_false (by omega))).1]
      exact (f1 _ _ (decide_eq_false (by omega))).1
    have cn2 : a_CN (v_si (v_si (v_si (v_si (v_si S1 47 6 0) 47 7 0) 47 8 0) 47 8 1) 56 4 0) m nm := by
      obtain ⟨a, b, c, d⟩ := cn
      refine ⟨a, b, R_fr c F2 (fun j hj => ?_), fun p hp => ?_, fun k hk => ?_⟩
      · have hx : (a_xr j).1 ≤ 14 := (by decide +kernel : ∀ i, i < 108 → (a_xr i).1 ≤ 14) j hj
        exact decide_eq_false (by omega)
      · rw [(F2 _ _ rfl).2]; exact d.1 p hp
      · rw [(F2 _ _ rfl).2]; exact d.2 k hk
    have xr2 := XR_ycf xr1 f2 (fun k j w => decide_eq_false (by omega))
    generalize (v_si (v_si (v_si (v_si (v_si S1 47 6 0) 47 7 0) 47 8 0) 47 8 1) 56 4 0) = S2 at F2 yd2 cn2 xr2
    refine ⟨(a_toks by_ n).length + 1, x_readText_22 (S := S2) cn2 _ 0 (fun c i => S.1 (48 + c) i, y, 0, 0, []) _ _ YI_0 wf xr2 yd2 fr_r (Nat.le_refl _) (by omega) ?_⟩
    cases q : a_ryr m nm (a_toks by_ n).length (fun c i => S.1 (48 + c) i, y, 0, 0, []) (a_toks by_ n) with
    | inl e =>
      rw [q] at h
      intro S4 f4 b1 b2
      refine x_tellFault (fun S5 f5 c1 c2 c3 c4 => ?_)
      rw [if_neg (by decide)] at c2 c3
      simp only [eq_self, reduceCtorEq, true_implies, false_implies, and_true, true_and, not_true_eq_false, not_false_eq_true]
      rw [e_refused]
      refine h _ (fr_i (fr_t F2 (fr_t (fr_w f4 ycf_cy) f5)) rfl) si_at ?_ ?_ ?_
      · rw [si1, if_neg (by omega), c2]; exact b1
      · rw [si1, if_neg (by omega), c3]; exact b2
      · rw [si1, if_neg (by omega)]; exact c1
    | inr s =>
      rw [q] at h
      intro S4 f4 yd4
      refine x_tellFault (fun S5 f5 c1 c2 c3 c4 => ?_)
      rw [if_pos rfl] at c2 c3
      simp only [eq_self, reduceCtorEq, true_implies, false_implies, and_true, true_and, not_true_eq_false, not_false_eq_true]
      obtain ⟨⟨a4, b4, d4, e4⟩, -, -⟩ := yd4
      have r5 : ∀ k j, 47 ≤ k → k ≤ 52 → S5.1 k j = S4.1 k j := fun k j h1 h2 => by rw [(c4 k (by omega) (by omega)).1]
      have e5 : S5.1 47 8 = 1 := (r5 47 8 (by omega) (by omega)).trans e4
      refine x_yearsCopy (S0 := S5) (b := 10) (b1 := 32) (Or.inl (by omega)) (Or.inr e5) fr_r (fun S6 f6 k6 Y6 => ?_)
      obtain ⟨Y1, Y2, Y3, Y4⟩ := Y6
      have y2 : S6.1 25 6 = nI s.2.2.1 := Y2.trans ((r5 47 6 (by omega) (by omega)).trans b4)
      have y3 : S6.1 25 7 = nI s.2.2.2.1 := Y3.trans ((r5 47 7 (by omega) (by omega)).trans d4)
      have y4 : S6.1 25 8 = 1 := Y4.trans e5
      rw [e_told, y3]
      have g0 : ∀ j, S6.1 0 j = S5.1 0 j := fun j => by rw [(k6 0 (by omega)).1]
      have f6' : a_fr a_cyr S5 S6 := by
        intro k j w
        by_cases hk : k < 25
        · rw [(k6 k hk).1, (k6 k hk).2]; exact ⟨rfl, rfl⟩
        · refine f6 k j ?_
          unfold a_cyr at w
          have w := of_decide_eq_false (Bool.or_eq_false_iff.mp w).2
          exact decide_eq_false (by omega)
      refine h _ (fr_i (fr_t (fr_w F2 cyr_w) (fr_t (fr_w (fr_w f4 ycf_cy) cyr_w) (fr_t (fr_w f5 cyr_w) f6'))) rfl) (fun c i h1 h2 => ?_) ?_ ?_ ?_ si_at ?_ ?_ ?_
      · rw [si1, if_neg (by omega)]
        have hz : a_csz (16 + c) = 60 := (by decide : ∀ c, c < 5 → a_csz (16 + c) = 60) c h1
        have q := Y1 (16 + c) (by omega) (by omega) i (by rw [hz]; exact h2)
        rw [if_neg (by omega), show 10 + (16 + c) = 26 + c by omega, show 32 + (16 + c) = 48 + c by omega] at q
        rw [q, r5 (48 + c) i (by omega) (by omega)]
        exact a4 c i h1 h2
      · rw [si1, if_neg (by omega)]; exact y2
      · rw [si1, if_neg (by omega)]; exact y3
      · rw [si1, if_neg (by omega)]; exact y4
      · rw [si1, if_neg (by omega), g0]; exact c2
      · rw [si1, if_neg (by omega), g0]; exact c3
      · rw [si1, if_neg (by omega), (k6 5 (by omega)).1]; exact c1
  · have h0 := h0 g
    have c : ¬ (¬ x < 0 ∧ ¬ nI L < x ∧ x ≤ 300) := by
      rintro ⟨w1, w2, w3⟩
      have hi : a_in 0 (nI L) x = true := decide_eq_true ⟨Int32.not_lt.mp w1, Int32.not_lt.mp w2⟩
      obtain ⟨n, hn, rfl, -⟩ := a_in_t (n := L) rfl (by omega) hi
      refine g ⟨n, hn, ?_, rfl⟩
      have := (nI_leI (a := n) (b := 300) (by omega) (by omega)).mp w3
      exact this
    rw [e_refused]
    refine ⟨fun _ => h0, fun w1 => ⟨fun _ => h0, fun w2 => ⟨fun w3 => absurd ⟨w1, w2, w3⟩ c, fun _ => h0⟩⟩⟩
