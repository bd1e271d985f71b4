/-! the class reads parts till the end -/
theorem x_readText_92 {S0 S : vSt} {s : aS} {R : List aK} {x1 : Int32} {K14 : vSt → Int32 → Prop} {K : Bool → vSt → Prop} (res : aF ⊕ (aS × List aK)) (f0 : a_fr a_ccf S0 S) (h1 : ∀ e, res = .inl e → ∀ S', a_fr a_ccf S0 S' → S'.1 5 11 = nI e.1 → S'.1 5 12 = nI e.2 → K false S') (h2 : ∀ g, res = .inr g → ∀ S', a_fr a_ccf S0 S' → a_cgd g S' → K14 S' (x1 + 1)) : a_XF S (fun r S' => p_X1_readText_92 K14 K S' x1 r) a_cgd res := by
  cases q : res with
  | inl e =>
    intro S' f b1 b2
    unfold p_X1_readText_92
    simp only [eq_self, reduceCtorEq, true_implies, false_implies, and_true, true_and, not_true_eq_false, not_false_eq_true]
    exact h1 e q S' (fr_t f0 f) b1 b2
  | inr g =>
    intro S' f c
    unfold p_X1_readText_92
    simp only [eq_self, reduceCtorEq, true_implies, false_implies, and_true, true_and, not_true_eq_false, not_false_eq_true, forall_eq]
    exact h2 g q S' (fr_t f0 f) c
theorem x_readText_14 {S : vSt} {K : Bool → vSt → Prop} : ∀ k i s R S1, a_PI s → a_wf R → a_XR S1 R → a_CD S1 s → a_fr a_ccf S S1 → R.length ≤ k → R.length + i ≤ 901 → (match a_rcy k s R with
    | .inl e => ∀ S', a_fr a_ccf S S' → S'.1 5 11 = nI e.1 → S'.1 5 12 = nI e.2 → K false S'
    | .inr g => ∀ S', a_fr a_ccf S S' → a_CD S' g → K true S') → p_X1_readText_14 K (k + 1) S1 (nI i)
  | 0, i, s, R, S1, pi, wf, xr, cd, f, hk, hi, h => by
    obtain ⟨t, R', rfl, -, -, -, -⟩ := wf_c wf
    exact absurd hk (by rw [List.length_cons]; omega)
  | k + 1, i, s, R, S1, pi, wf, xr, cd, f, hk, hi, h => by
    have lp := tl_len wf
    obtain ⟨c7, c8, c9⟩ := XR_0 wf xr
    have tok := wf_ok wf
    have k6 := tok.2.1
    have n1 : ¬ 900 < nI i := nI_nlt (a := 900) (by omega) (by omega)
    have e0 : nI (a_h0 R).1 = 0 ↔ (a_h0 R).1 = 0 := nI_eq (b := 0) (by omega) (by omega)
    rw [e_X1_readText_14, c7, e0]
    simp only [n1, eq_self, reduceCtorEq, true_implies, false_implies, and_true, true_and, not_true_eq_false, not_false_eq_true]
    have es : a_rcy (k + 1) s R = if (a_h0 R).1 = 0 then .inr s else a_bi (a_ps (a_rpt s R)) (fun g => a_rcy k g.1 g.2) := rfl
    rw [es] at h
    by_cases k0 : (a_h0 R).1 = 0
    · rw [if_pos k0] at h
      simp only [k0, eq_self, reduceCtorEq, true_implies, false_implies, and_true, true_and, not_true_eq_false, not_false_eq_true]
      exact h S1 f cd
    · rw [if_neg k0] at h
      simp only [k0, eq_self, reduceCtorEq, true_implies, false_implies, and_true, true_and, not_true_eq_false, not_false_eq_true]
      have b1 : ∀ e, a_ps (a_rpt s R) = .inl e → ∀ S', a_fr a_ccf S S' → S'.1 5 11 = nI e.1 → S'.1 5 12 = nI e.2 → K false S' := by
        intro e q
        rw [q] at h
        exact h
      have b2 : ∀ g, a_ps (a_rpt s R) = .inr g → ∀ S', a_fr a_ccf S S' → a_cgd g S' → p_X1_readText_14 K (k + 1) S' (nI i + 1) := by
        intro g q S' f' c
        obtain ⟨p2, w2, l2⟩ := ps_ok pi wf q
        rw [q] at h
        rw [nIs]
        exact x_readText_14 k (i + 1) g.1 g.2 S' p2 w2 c.1 c.2 f' (by omega) (by omega) h
      have blame : a_rpt s R = .inl (a_bl R 2) → p_X6_blame S1 2 (fun r30 S29 => p_X1_readText_91 (p_X1_readText_14 K (k + 1)) K S29 (nI i) r30) := by
        intro q
        have b1 := b1 (a_bl R 2) (by rw [q]; rfl)
        refine x_blame (f := 2) wf xr (fun S' f' c1 c2 => ?_)
        unfold p_X1_readText_91 p_X1_readText_92
        simp only [eq_self, reduceCtorEq, true_implies, false_implies, and_true, true_and, not_true_eq_false, not_false_eq_true]
        exact b1 S' (fr_t f f') c1 c2
      unfold p_X6_wordNow
      have e2 : nI (a_h0 R).1 = 2 ↔ (a_h0 R).1 = 2 := nI_eq (b := 2) (by omega) (by omega)
      rw [c7, c9, e2, lNi]
      by_cases k2 : (a_h0 R).1 = 2
      · have hv := tok.2.2.1 k2
        simp only [k2, eq_self, reduceCtorEq, true_implies, false_implies, and_true, true_and, not_true_eq_false, not_false_eq_true]
        have z1 : ¬ nI (a_h0 R).2.2 < 0 := nI_pos (by omega)
        simp only [z1, eq_self, reduceCtorEq, true_implies, false_implies, and_true, true_and, not_true_eq_false, not_false_eq_true]
        have er : a_rpt s R = if (a_h0 R).2.2 < 4 then a_rru (a_h0 R).2.2 s R else if (a_h0 R).2.2 = 4 then a_rpe s R else if (a_h0 R).2.2 = 7 then a_rde s R else .inl (a_bl R 2) := by
          unfold a_rpt
          rw [if_pos k2]
        by_cases c4 : (a_h0 R).2.2 < 4
        · have z2 : ¬ 4 ≤ nI (a_h0 R).2.2 := nI_ge (b := 4) c4 (by omega)
          rw [if_pos c4] at er
          rw [er] at b1 b2
          simp only [z2, eq_self, reduceCtorEq, true_implies, false_implies, and_true, true_and, not_true_eq_false, not_false_eq_true]
          exact x_readRule pi wf (decide_eq_true ⟨k2, rfl⟩) c4 xr cd (x_readText_92 (s := s) (R := R) _ f b1 b2)
        · have z2 : 4 ≤ nI (a_h0 R).2.2 := nI_le (a := 4) (by omega) (by omega)
          rw [if_neg c4] at er
          simp only [z2, eq_self, reduceCtorEq, true_implies, false_implies, and_true, true_and, not_true_eq_false, not_false_eq_true]
          unfold p_X1_readText_57
          have e4 : nI (a_h0 R).2.2 = 4 ↔ (a_h0 R).2.2 = 4 := nI_eq (b := 4) (by omega) (by omega)
          have e7 : nI (a_h0 R).2.2 = 7 ↔ (a_h0 R).2.2 = 7 := nI_eq (b := 7) (by omega) (by omega)
          rw [e4, e7]
          by_cases d4 : (a_h0 R).2.2 = 4
          · rw [if_pos d4] at er
            rw [er] at b1 b2
            simp only [d4, eq_self, reduceCtorEq, true_implies, false_implies, and_true, true_and, not_true_eq_false, not_false_eq_true]
            exact x_readPerson pi wf (decide_eq_true ⟨k2, d4⟩) xr cd (x_readText_92 (s := s) (R := R) _ f b1 b2)
          · rw [if_neg d4] at er
            by_cases d7 : (a_h0 R).2.2 = 7
            · rw [if_pos d7] at er
              rw [er] at b1 b2
              simp only [d7, show ¬ (7 : Nat) = 4 from by omega, eq_self, reduceCtorEq, true_implies, false_implies, and_true, true_and, not_true_eq_false, not_false_eq_true]
              exact x_readDeed pi wf (decide_eq_true ⟨k2, d7⟩) xr cd (x_readText_92 (s := s) (R := R) _ f b1 b2)
            · rw [if_neg d7] at er
              simp only [d4, d7, eq_self, reduceCtorEq, true_implies, false_implies, and_true, true_and, not_true_eq_false, not_false_eq_true]
              exact blame er
      · simp only [k2, eq_self, reduceCtorEq, true_implies, false_implies, and_true, true_and, not_true_eq_false, not_false_eq_true, show (-1 : Int32) < 0 from by decide]
        have er : a_rpt s R = .inl (a_bl R 2) := by
          unfold a_rpt
          rw [if_neg k2]
        unfold p_X1_readText_57
        simp only [show ¬ (-1 : Int32) = 4 from by decide, show ¬ (-1 : Int32) = 7 from by decide, eq_self, reduceCtorEq, true_implies, false_implies, and_true, true_and, not_true_eq_false, not_false_eq_true]
        exact blame er
/-! an empty city -/
def a_me (j : Nat) : Int32 := if j = 2 then 5 else if j = 3 then 1 else if j = 4 then 100 else if j = 5 then 8 else if 88 ≤ j ∧ j < 108 then -1 else 0
theorem me_PD : a_P a_me = 0 ∧ a_D a_me = 0 := ⟨rfl, rfl⟩
theorem me_ok : a_ok a_me ∧ a_fresh a_me := by
  have z : ∀ n lo hi : Nat, n < 2 ^ 31 → lo ≤ n → n ≤ hi → a_nb (nI n) lo hi := fun n lo hi h1 h2 h3 => a_nb_nI h1 h2 h3
  refine ⟨⟨z 0 0 8 (by omega) (by omega) (by omega), z 0 0 10 (by omega) (by omega) (by omega), z 5 1 9 (by omega) (by omega) (by omega), z 1 0 9 (by omega) (by omega) (by omega), z 100 0 999 (by omega) (by omega) (by omega), z 8 0 16 (by omega) (by omega) (by omega), z 0 0 99999 (by omega) (by omega) (by omega), fun p hp => ?_, fun d hd => ?_⟩, ⟨fun p _ h2 => ?_, fun d _ h2 => ?_⟩⟩
  · rw [me_PD.1] at hp; omega
  · rw [me_PD.2] at hd; omega
  · exact (by decide : ∀ p, p < 8 → a_me (24 + p) = 0 ∧ a_me (32 + p) = 0 ∧ a_me (40 + p) = 0) p h2
  · exact (by decide : ∀ d, d < 10 → a_me (78 + d) = 0 ∧ a_me (88 + d) = -1 ∧ a_me (98 + d) = -1) d h2
theorem x_clear {S : vSt} {b : Nat} {K : vSt → Prop} (h : ∀ S', (∀ k j, ¬ ((k = b ∧ 15 ≤ j ∧ j ≤ 18) ∨ k = b + 1 ∨ (k = b + 15 ∧ 6 ≤ j ∧ j ≤ 8)) → S'.1 k j = S.1 k j) → S'.2 = S.2 → a_R S' b a_me → S'.1 (b + 15) 6 = 0 ∧ S'.1 (b + 15) 7 = 0 ∧ S'.1 (b + 15) 8 = 0 → K S') : p_X0_clear b S K := by
  unfold p_X0_clear p_X10_copy_s p_X8_clear
  have e4 : Int32.toNatClampNeg (v_mini 4 (Int32.ofNat 4)) = 4 := by decide
  refine ⟨by unfold v_cpo; decide, ?_⟩
  rintro _ rfl _ rfl _ rfl _ rfl _ rfl _ rfl _ rfl _ rfl
  rw [e4]
  refine h _ (fun k j w => ?_) rfl (fun j lv => ?_) ⟨?_, ?_, ?_⟩
  · rw [si1, if_neg (fun q => w (by omega)), si1, if_neg (fun q => w (by omega)), si1, if_neg (fun q => w (by omega)), si1, if_neg (fun q => w (by omega)), si1, if_neg (fun q => w (by omega)), si1, if_neg (fun q => w (by omega)), si1, if_neg (fun q => w (by omega))]
    show (if k = b + 1 then _ else S.1 k j) = _
    rw [if_neg (fun q => w (by omega))]
  · have lt : j < 8 := by
      unfold a_lv at lv
      rw [me_PD.1, me_PD.2] at lv
      omega
    have s15 : ∀ T : vSt, ∀ x6 x7 x8 : Int32, ∀ o i, o ≤ 14 → (v_si (v_si (v_si T (b + 15) 6 x6) (b + 15) 7 x7) (b + 15) 8 x8).1 (b + o) i = T.1 (b + o) i := by
      intro T x6 x7 x8 o i ho
      rw [si1, if_neg (fun q => by omega), si1, if_neg (fun q => by omega), si1, if_neg (fun q => by omega)]
    have hx : (a_xr j).1 ≤ 14 := (by decide +kernel : ∀ i, i < 108 → (a_xr i).1 ≤ 14) j (by omega)
    rw [s15 _ _ _ _ _ _ hx]
    match j, lt with
    | 0, _ =>
      show (v_si (v_si (v_si (v_si _ b 15 0) b 16 0) b 17 0) b 18 0).1 b 15 = 0
      rw [si1, if_neg (by omega), si1, if_neg (by omega), si1, if_neg (by omega)]
      exact si_at
    | 1, _ =>
      show (v_si (v_si (v_si (v_si _ b 15 0) b 16 0) b 17 0) b 18 0).1 b 16 = 0
      rw [si1, if_neg (by omega), si1, if_neg (by omega)]
      exact si_at
    | 6, _ =>
      show (v_si (v_si (v_si (v_si _ b 15 0) b 16 0) b 17 0) b 18 0).1 b 17 = 0
      rw [si1, if_neg (by omega)]
      exact si_at
    | 7, _ => exact si_at
    | 2, _ =>
      show (v_si (v_si (v_si (v_si (v_cs S 0 (b + 1) _ _ 4) b 15 0) b 16 0) b 17 0) b 18 0).1 (b + 1) 0 = 5
      rw [si1, if_neg (by omega), si1, if_neg (by omega), si1, if_neg (by omega), si1, if_neg (by omega)]
      show (if b + 1 = b + 1 then _ else _) = _
      rw [if_pos rfl]
      rfl
    | 3, _ =>
      show (v_si (v_si (v_si (v_si (v_cs S 0 (b + 1) _ _ 4) b 15 0) b 16 0) b 17 0) b 18 0).1 (b + 1) 1 = 1
      rw [si1, if_neg (by omega), si1, if_neg (by omega), si1, if_neg (by omega), si1, if_neg (by omega)]
      show (if b + 1 = b + 1 then _ else _) = _
      rw [if_pos rfl]
      rfl
    | 4, _ =>
      show (v_si (v_si (v_si (v_si (v_cs S 0 (b + 1) _ _ 4) b 15 0) b 16 0) b 17 0) b 18 0).1 (b + 1) 2 = 100
      rw [si1, if_neg (by omega), si1, if_neg (by omega), si1, if_neg (by omega), si1, if_neg (by omega)]
      show (if b + 1 = b + 1 then _ else _) = _
      rw [if_pos rfl]
      rfl
    | 5, _ =>
      show (v_si (v_si (v_si (v_si (v_cs S 0 (b + 1) _ _ 4) b 15 0) b 16 0) b 17 0) b 18 0).1 (b + 1) 3 = 8
      rw [si1, if_neg (by omega), si1, if_neg (by omega), si1, if_neg (by omega), si1, if_neg (by omega)]
      show (if b + 1 = b + 1 then _ else _) = _
      rw [if_pos rfl]
      rfl
    | j + 8, q => exact absurd q (by omega)
  · rw [si1, if_neg (by omega), si1, if_neg (by omega)]
    exact si_at
  · rw [si1, if_neg (by omega)]
    exact si_at
  · exact si_at
/-! a city is copied -/
def a_cb (b k _j : Nat) : Bool := decide (b ≤ k ∧ k ≤ b + 20)
theorem cb_t {b k j : Nat} (h : b ≤ k ∧ k ≤ b + 20) : a_cb b k j = true := decide_eq_true h
theorem mini_self {n : Nat} (hn : n < 2 ^ 31) : Int32.toNatClampNeg (v_mini (Int32.ofNat n) (Int32.ofNat n)) = n := by
  have e : v_mini (Int32.ofNat n) (Int32.ofNat n) = nI n := by unfold v_mini; split <;> rfl
  rw [e]
  exact nI_clamp hn
theorem cpo_self {n : Nat} (hn : n < 2 ^ 31) : v_cpo 0 0 (v_mini (Int32.ofNat n) (Int32.ofNat n)) n n := by
  have e : v_mini (Int32.ofNat n) (Int32.ofNat n) = nI n := by unfold v_mini; split <;> rfl
  unfold v_cpo
  rw [e, nI_clamp hn]
  have z : Int32.toNatClampNeg 0 = 0 := rfl
  refine ⟨by decide, by decide, nI_pos hn, by omega, by omega⟩
def a_csz (o : Nat) : Nat := if o < 2 then 4 else if o < 8 then 8 else if o < 15 then 10 else 60
def a_cok (S0 s : vSt) (b b1 o : Nat) : Prop := ∀ j, j < a_csz o → s.1 (b + o) j = S0.1 (b1 + o) j ∧ s.2 (b + o) j = S0.2 (b1 + o) j
def a_cki (S0 s : vSt) (b b1 o : Nat) : Prop := ∀ j, j < a_csz o → (if o = 2 ∨ o = 8 then s.2 (b + o) j = S0.2 (b1 + o) j else s.1 (b + o) j = S0.1 (b1 + o) j)
theorem cp_i {S0 s : vSt} {b b1 c o n : Nat} {K : vSt → Prop} (hd : b + 21 ≤ b1 ∨ b1 + 21 ≤ b) (ho : o ≤ 20) (hn : n = a_csz o) (ht : ¬ (o = 2 ∨ o = 8)) (f : a_fr (a_cb b) S0 s) (D : ∀ q, c ≤ q → q < o → q ≠ 15 → a_cki S0 s b b1 q) (h : ∀ s', a_fr (a_cb b) S0 s' → (∀ q, c ≤ q → q < o + 1 → q ≠ 15 → a_cki S0 s' b b1 q) → K s') : p_X10_copy (b1 + o) n (b + o) n s K := by
  have h60 : n ≤ 60 := by rw [hn]; unfold a_csz; split <;> (try split) <;> (try split) <;> omega
  unfold p_X10_copy
  refine ⟨cpo_self (by omega), ?_⟩
  rintro _ rfl
  rw [mini_self (by omega)]
  have z : Int32.toNatClampNeg 0 = 0 := rfl
  rw [z]
  have f2 : a_fr (a_cb b) s (v_ci s (b1 + o) (b + o) 0 0 n) := by
    intro k j q
    refine ⟨?_, rfl⟩
    show (if k = b + o then _ else s.1 k j) = _
    rw [if_neg]
    rintro rfl
    unfold a_cb at q
    rw [decide_eq_true (by omega)] at q
    cases q
  refine h _ (fr_t f f2) (fun q h1 h2 h15 j hj => ?_)
  by_cases e : q = o
  · subst e
    rw [if_neg ht]
    show (if b + q = b + q then va_cpy (s.1 (b1 + q)) (s.1 (b + q)) 0 0 n j else _) = _
    rw [if_pos rfl]
    unfold va_cpy
    rw [if_pos (by omega), show 0 + (j - 0) = j by omega, (f (b1 + q) j (decide_eq_false (by omega))).1]
  · have w := D q h1 (by omega) h15 j hj
    have e1 : (v_ci s (b1 + o) (b + o) 0 0 n).1 (b + q) j = s.1 (b + q) j := by
      show (if b + q = b + o then _ else s.1 (b + q) j) = _
      rw [if_neg (by omega)]
    rw [e1]
    exact w
theorem cp_l {S0 s : vSt} {b b1 c o n : Nat} {K : vSt → Prop} (hd : b + 21 ≤ b1 ∨ b1 + 21 ≤ b) (ho : o ≤ 20) (hn : n = a_csz o) (ht : o = 2 ∨ o = 8) (f : a_fr (a_cb b) S0 s) (D : ∀ q, c ≤ q → q < o → q ≠ 15 → a_cki S0 s b b1 q) (h : ∀ s', a_fr (a_cb b) S0 s' → (∀ q, c ≤ q → q < o + 1 → q ≠ 15 → a_cki S0 s' b b1 q) → K s') : p_X10_copy_ (b1 + o) n (b + o) n s K := by
  have h60 : n ≤ 60 := by rw [hn]; unfold a_csz; split <;> (try split) <;> (try split) <;> omega
  unfold p_X10_copy_
  refine ⟨cpo_self (by omega), ?_⟩
  rintro _ rfl
  rw [mini_self (by omega)]
  have z : Int32.toNatClampNeg 0 = 0 := rfl
  rw [z]
  have f2 : a_fr (a_cb b) s (v_cl s (b1 + o) (b + o) 0 0 n) := by
    intro k j q
    refine ⟨rfl, ?_⟩
    show (if k = b + o then _ else s.2 k j) = _
    rw [if_neg]
    rintro rfl
    unfold a_cb at q
    rw [decide_eq_true (by omega)] at q
    cases q
  refine h _ (fr_t f f2) (fun q h1 h2 h15 j hj => ?_)
  by_cases e : q = o
  · subst e
    rw [if_pos ht]
    show (if b + q = b + q then va_cpy (s.2 (b1 + q)) (s.2 (b + q)) 0 0 n j else _) = _
    rw [if_pos rfl]
    unfold va_cpy
    rw [if_pos (by omega), show 0 + (j - 0) = j by omega, (f (b1 + q) j (decide_eq_false (by omega))).2]
  · have w := D q h1 (by omega) h15 j hj
    have e1 : (v_cl s (b1 + o) (b + o) 0 0 n).2 (b + q) j = s.2 (b + q) j := by
      show (if b + q = b + o then _ else s.2 (b + q) j) = _
      rw [if_neg (by omega)]
    rw [e1]
    exact w
/-- the years of one city are those of another -/
def a_ycp (S0 s : vSt) (b b1 : Nat) : Prop := (∀ q, 16 ≤ q → q < 21 → a_cki S0 s b b1 q) ∧ s.1 (b + 15) 6 = S0.1 (b1 + 15) 6 ∧ s.1 (b + 15) 7 = S0.1 (b1 + 15) 7 ∧ s.1 (b + 15) 8 = S0.1 (b1 + 15) 8
theorem x_yearsCopy {S0 s : vSt} {b b1 : Nat} {K : vSt → Prop} (hd : b + 21 ≤ b1 ∨ b1 + 21 ≤ b) (hb : v_isb (S0.1 (b1 + 15) 8)) (f : a_fr (a_cb b) S0 s) (h : ∀ s', a_fr (a_cb b) S0 s' → (∀ k, k < b + 15 → s'.1 k = s.1 k ∧ s'.2 k = s.2 k) → a_ycp S0 s' b b1 → K s') : p_X8_copyFrom b b1 s K := by
  unfold p_X8_copyFrom
  have keep : ∀ o, 16 ≤ o → o ≤ 20 → ∀ s1 s2 : vSt, s2 = v_ci s1 (b1 + o) (b + o) 0 0 60 → ∀ k, k < b + 15 → s2.1 k = s1.1 k ∧ s2.2 k = s1.2 k := by
    rintro o h1 h2 s1 _ rfl k hk
    refine ⟨?_, rfl⟩
    funext j
    show (if k = b + o then _ else s1.1 k j) = _
    rw [if_neg (by omega)]
  have stp : ∀ (o : Nat) (s1 : vSt) (K1 : vSt → Prop), 16 ≤ o → o ≤ 20 → a_fr (a_cb b) S0 s1 → (∀ k, k < b + 15 → s1.1 k = s.1 k ∧ s1.2 k = s.2 k) → (∀ q, 16 ≤ q → q < o → q ≠ 15 → a_cki S0 s1 b b1 q) → (∀ s2, a_fr (a_cb b) S0 s2 → (∀ k, k < b + 15 → s2.1 k = s.1 k ∧ s2.2 k = s.2 k) → (∀ q, 16 ≤ q → q < o + 1 → q ≠ 15 → a_cki S0 s2 b b1 q) → K1 s2) → p_X10_copy (b1 + o) 60 (b + o) 60 s1 K1 := by
    intro o s1 K1 h1 h2 f1 k1 D1 hK
    have q := cp_i (c := 16) (K := fun s2 => s2 = v_ci s1 (b1 + o) (b + o) 0 0 60 → K1 s2) hd (by omega) (show 60 = a_csz o by unfold a_csz; rw [if_neg (by omega), if_neg (by omega), if_neg (by omega)]) (by omega) f1 D1 (fun s2 f2 D2 e => hK s2 f2 (fun k hk => by
      obtain ⟨a1, a2⟩ := keep o h1 h2 s1 s2 e k hk
      rw [a1, a2]
      exact k1 k hk) D2)
    unfold p_X10_copy at q ⊢
    obtain ⟨q1, q2⟩ := q
    refine ⟨q1, ?_⟩
    rintro _ rfl
    refine q2 _ rfl ?_
    rw [mini_self (by omega)]
    rfl
  refine stp 16 s _ (by omega) (by omega) f (fun k _ => ⟨rfl, rfl⟩) (fun q h1 h2 => absurd h2 (by omega)) (fun s1 f1 k1 D1 => ?_)
  refine stp 17 s1 _ (by omega) (by omega) f1 k1 D1 (fun s2 f2 k2 D2 => ?_)
  refine stp 18 s2 _ (by omega) (by omega) f2 k2 D2 (fun s3 f3 k3 D3 => ?_)
  refine stp 19 s3 _ (by omega) (by omega) f3 k3 D3 (fun s4 f4 k4 D4 => ?_)
  refine stp 20 s4 _ (by omega) (by omega) f4 k4 D4 (fun s5 f5 k5 D5 => ?_)
  rintro _ rfl _ rfl
  have g : ∀ j, s5.1 (b1 + 15) j = S0.1 (b1 + 15) j := fun j => (f5 _ _ (decide_eq_false (by omega))).1
  have e7 : (v_si s5 (b + 15) 6 (s5.1 (b1 + 15) 6)).1 (b1 + 15) 7 = S0.1 (b1 + 15) 7 := by
    rw [si1, if_neg (fun w => by omega)]; exact g 7
  have e8 : (v_si (v_si s5 (b + 15) 6 (s5.1 (b1 + 15) 6)) (b + 15) 7 ((v_si s5 (b + 15) 6 (s5.1 (b1 + 15) 6)).1 (b1 + 15) 7)).1 (b1 + 15) 8 = S0.1 (b1 + 15) 8 := by
    rw [si1, if_neg (fun w => by omega), si1, if_neg (fun w => by omega)]; exact g 8
  rw [e8]
  refine ⟨hb, ?_⟩
  rintro _ rfl
  rw [e7, g 6]
  refine h _ (fr_i (fr_i (fr_i f5 (cb_t (by omega))) (cb_t (by omega))) (cb_t (by omega))) (fun k hk => ?_) ⟨fun q h1 h2 j hj => ?_, ?_, ?_, ?_⟩
  · refine ⟨?_, (k5 k hk).2⟩
    rw [← (k5 k hk).1]
    funext j
    rw [si1, if_neg (fun w => by omega), si1, if_neg (fun w => by omega), si1, if_neg (fun w => by omega)]
  · have w := D5 q h1 (by omega) (by omega) j hj
    rw [if_neg (show ¬ (q = 2 ∨ q = 8) by omega)] at w ⊢
    rw [si1, if_neg (fun w => by omega), si1, if_neg (fun w => by omega), si1, if_neg (fun w => by omega)]
    exact w
  · rw [si1, if_neg (by omega), si1, if_neg (by omega)]
    exact si_at
  · rw [si1, if_neg (by omega)]
    exact si_at
  · exact si_at
theorem x_copyFrom {S : vSt} {b b1 : Nat} {K : vSt → Prop} (hd : b + 21 ≤ b1 ∨ b1 + 21 ≤ b) (hb : v_isb (S.1 (b1 + 15) 8)) (h : ∀ s', a_fr (a_cb b) S s' → (∀ q, 1 ≤ q → q < 15 → a_cki S s' b b1 q) → a_ycp S s' b b1 → (∀ j, 15 ≤ j → j ≤ 18 → s'.1 b j = S.1 b1 j) → K s') : p_X0_copyFrom b b1 S K := by
  unfold p_X0_copyFrom
  refine cp_i (c := 1) hd (show 1 ≤ 20 by omega) (show 4 = a_csz 1 by rfl) (by omega) fr_r (fun q h1 h2 => absurd h2 (by omega)) (fun s1 f1 D1 => ?_)
  refine cp_l (c := 1) hd (show 2 ≤ 20 by omega) (show 8 = a_csz 2 by rfl) (by omega) f1 D1 (fun s2 f2 D2 => ?_)
  refine cp_i (c := 1) hd (show 3 ≤ 20 by omega) (show 8 = a_csz 3 by rfl) (by omega) f2 D2 (fun s3 f3 D3 => ?_)
  refine cp_i (c := 1) hd (show 4 ≤ 20 by omega) (show 8 = a_csz 4 by rfl) (by omega) f3 D3 (fun s4 f4 D4 => ?_)
  refine cp_i (c := 1) hd (show 5 ≤ 20 by omega) (show 8 = a_csz 5 by rfl) (by omega) f4 D4 (fun s5 f5 D5 => ?_)
  refine cp_i (c := 1) hd (show 6 ≤ 20 by omega) (show 8 = a_csz 6 by rfl) (by omega) f5 D5 (fun s6 f6 D6 => ?_)
  refine cp_i (c := 1) hd (show 7 ≤ 20 by omega) (show 8 = a_csz 7 by rfl) (by omega) f6 D6 (fun s7 f7 D7 => ?_)
  refine cp_l (c := 1) hd (show 8 ≤ 20 by omega) (show 10 = a_csz 8 by rfl) (by omega) f7 D7 (fun s8 f8 D8 => ?_)
  refine cp_i (c := 1) hd (show 9 ≤ 20 by omega) (show 10 = a_csz 9 by rfl) (by omega) f8 D8 (fun s9 f9 D9 => ?_)
  refine cp_i (c := 1) hd (show 10 ≤ 20 by omega) (show 10 = a_csz 10 by rfl) (by omega) f9 D9 (fun s10 f10 D10 => ?_)
  refine cp_i (c := 1) hd (show 11 ≤ 20 by omega) (show 10 = a_csz 11 by rfl) (by omega) f10 D10 (fun s11 f11 D11 => ?_)
  refine cp_i (c := 1) hd (show 12 ≤ 20 by omega) (show 10 = a_csz 12 by rfl) (by omega) f11 D11 (fun s12 f12 D12 => ?_)
  refine cp_i (c := 1) hd (show 13 ≤ 20 by omega) (show 10 = a_csz 13 by rfl) (by omega) f12 D12 (fun s13 f13 D13 => ?_)
  refine cp_i (c := 1) hd (show 14 ≤ 20 by omega) (show 10 = a_csz 14 by rfl) (by omega) f13 D13 (fun s14 f14 D14 => ?_)
  refine x_yearsCopy hd hb f14 (fun s15 f15 k15 y15 => ?_)
  rintro _ rfl _ rfl _ rfl _ rfl
  have g : ∀ j, s15.1 b1 j = S.1 b1 j := fun j => (f15 _ _ (decide_eq_false (by omega))).1
  have g2 : ∀ x j, (v_si s15 b 15 x).1 b1 j = S.1 b1 j := fun x j => by rw [si1, if_neg (fun w => by omega)]; exact g j
  have g3 : ∀ x y j, (v_si (v_si s15 b 15 x) b 16 y).1 b1 j = S.1 b1 j := fun x y j => by rw [si1, if_neg (fun w => by omega)]; exact g2 x j
  have g4 : ∀ x y z j, (v_si (v_si (v_si s15 b 15 x) b 16 y) b 17 z).1 b1 j = S.1 b1 j := fun x y z j => by rw [si1, if_neg (fun w => by omega)]; exact g3 x y j
  rw [g4, g3, g2, g]
  have o1 : ∀ k, k ≠ b → (v_si (v_si (v_si (v_si s15 b 15 (S.1 b1 15)) b 16 (S.1 b1 16)) b 17 (S.1 b1 17)) b 18 (S.1 b1 18)).1 k = s15.1 k := by
    intro k hk
    funext j
    rw [si1, if_neg (fun w => hk w.1), si1, if_neg (fun w => hk w.1), si1, if_neg (fun w => hk w.1), si1, if_neg (fun w => hk w.1)]
  refine h _ (fr_i (fr_i (fr_i (fr_i f15 (cb_t (by omega))) (cb_t (by omega))) (cb_t (by omega))) (cb_t (by omega))) (fun q h1 h2 j hj => ?_) ⟨fun q h1 h2 j hj => ?_, ?_, ?_, ?_⟩ (fun j h1 h2 => ?_)
  · have w := D14 q h1 (by omega) (by omega) j hj
    obtain ⟨a1, a2⟩ := k15 (b + q) (by omega)
    rw [o1 (b + q) (by omega), a1]
    show (if q = 2 ∨ q = 8 then s15.2 (b + q) j = _ else _)
    rw [a2]
    exact w
  · rw [o1 (b + q) (by omega)]
    exact y15.1 q h1 h2 j hj
  · rw [o1 (b + 15) (by omega)]; exact y15.2.1
  · rw [o1 (b + 15) (by omega)]; exact y15.2.2.1
  · rw [o1 (b + 15) (by omega)]; exact y15.2.2.2
  · rw [si1, si1, si1, si1]
    by_cases c18 : j = 18
    · rw [if_pos ⟨rfl, c18⟩, c18]
    · rw [if_neg (fun w => c18 w.2)]
      by_cases c17 : j = 17
      · rw [if_pos ⟨rfl, c17⟩, c17]
      · rw [if_neg (fun w => c17 w.2)]
        by_cases c16 : j = 16
        · rw [if_pos ⟨rfl, c16⟩, c16]
        · rw [if_neg (fun w => c16 w.2), if_pos ⟨rfl, by omega⟩, show j = 15 by omega]
theorem R_copy {S s : vSt} {b b1 : Nat} {m : Nat → Int32} (R : a_R S b1 m) (h1 : ∀ q, 1 ≤ q → q < 15 → a_cki S s b b1 q) (h0 : ∀ j, 15 ≤ j → j ≤ 18 → s.1 b j = S.1 b1 j) : a_R s b m := by
  intro j hj
  rw [← R j hj]
  obtain ⟨x1, x2, x3, x4⟩ := (by decide +kernel : ∀ i, i < 108 → (a_xr i).1 ≤ 14 ∧ ((a_xr i).1 = 0 → 15 ≤ (a_xr i).2 ∧ (a_xr i).2 ≤ 18) ∧ ((a_xr i).1 ≠ 2 ∧ (a_xr i).1 ≠ 8) ∧ ((a_xr i).1 ≠ 0 → (a_xr i).2 < a_csz (a_xr i).1)) j (a_lv_lt hj)
  by_cases c : (a_xr j).1 = 0
  · rw [c]
    exact h0 _ (x2 c).1 (x2 c).2
  · have w := h1 _ (by omega) (by omega) _ (x4 c)
    rw [if_neg (by omega)] at w
    exact w
theorem nm_copy {S s : vSt} {b b1 : Nat} {m : Nat → Int32} {nm : Nat → Nat} (ok : a_ok m) (nx : a_nmX S b1 m nm) (h1 : ∀ q, 1 ≤ q → q < 15 → a_cki S s b b1 q) : a_nmX s b m nm := by
  have h8 := ok_P8 ok
  have h10 := ok_D10 ok
  refine ⟨fun p hp => ?_, fun d hd => ?_⟩
  · have w := h1 2 (by omega) (by omega) p (show p < 8 by omega)
    rw [if_pos (by omega)] at w
    rw [w]
    exact nx.1 p hp
  · have w := h1 8 (by omega) (by omega) d (show d < 10 by omega)
    rw [if_pos (by omega)] at w
    rw [w]
    exact nx.2 d hd
