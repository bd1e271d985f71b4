/-! the model's years -/
def a_ymm (m : Nat → Int32) (K : Nat) (y : Nat → Int32) : Nat → Int32 := fun j => if j = 108 then 1 else if j = 109 then nI K else if 110 ≤ j ∧ j < 110 + 9 * K then y (j - 110) else m j
def a_myr (k j : Nat) : Bool := a_my k j || decide (k = 143 ∧ j = 25)
def a_myy (k j : Nat) : Bool := a_myr k j || decide (k = 148 ∧ 108 ≤ j ∧ j < 380)
theorem myr_w : ∀ k j, a_myy k j = false → a_myr k j = false := fun k j h => (Bool.or_eq_false_iff.mp h).1
theorem my_myr : ∀ k j, a_myr k j = false → a_my k j = false := fun k j h => (Bool.or_eq_false_iff.mp h).1
theorem myf_myr : ∀ k j, a_myr k j = false → a_myf k j = false := by
  intro k j q
  have q1 := of_decide_eq_false (Bool.or_eq_false_iff.mp q).1
  have q2 := of_decide_eq_false (Bool.or_eq_false_iff.mp q).2
  exact decide_eq_false (by omega)
def a_MYr (S : vSt) (m : Nat → Int32) (K : Int32 → vSt → Prop) (o : aF ⊕ aY) : Prop := match o with
  | .inl e => ∀ S', a_fr a_myr S S' → S'.1 143 0 = 10 → S'.1 143 10 = nI e.1 → S'.1 143 11 = nI e.2 → S'.1 143 8 = 0 → K (-1) S'
  | .inr s => ∀ S', a_fr a_myy S S' → a_M S' 0 (a_ymm m s.2.2.2.1 s.2.1) → S'.1 143 0 = 0 → S'.1 143 10 = 0 → S'.1 143 11 = -1 → S'.1 143 8 = 0 → K (nI s.2.2.2.1) S'
theorem m_years_28 {S : vSt} {m : Nat → Int32} {nm : Nat → Nat} {C : Nat → Nat} {n : Nat} {x : Int32} {K : Int32 → vSt → Prop} (T : a_TT S C n) (cm : a_CM S m nm) : ∀ j k s R S1, a_YI s → a_wf R → s.2.2.2.2 = [] → a_GY C n S1 s R → a_fr a_myf S S1 → R.length ≤ k → R.length ≤ j → (match a_ryr m nm k s R with
    | .inl e => ∀ S', a_fr a_myf S S' → a_bad S' e → p_X11_years_50 x K S'
    | .inr g => ∀ S', a_fr a_myf S S' → S'.1 143 12 = 0 → S'.1 143 25 = nI g.2.2.2.1 → a_ye S' g.2.1 → p_X11_years_50 x K S') → p_X11_years_28 x K (j + 2) S1
  | 0, k, s, R, S1, yi, wf, hs, G, f, hk, hj, h => by
    obtain ⟨t, R', rfl, -, -, -, -⟩ := wf_c wf
    exact absurd hj (by rw [List.length_cons]; omega)
  | j + 1, k, s, R, S1, yi, wf, hs, G, f, hk, hj, h => by
    obtain ⟨mr, z, e25, ye⟩ := id G
    have c14 := (MR_c mr).2.1
    have e0 := tkk_eq (k := 0) (m := 0) (wf_ok wf) (by omega)
    have lt := tl_len wf
    rw [e_X11_years_28, z, c14, show (0 : Int32) = nI 0 from rfl, e0]
    by_cases k0 : (a_h0 R).1 = 0
    · obtain ⟨k, rfl⟩ : ∃ k', k = k' + 1 := ⟨k - 1, by omega⟩
      have er : a_ryr m nm (k + 1) s R = .inr s := by
        show (if (a_h0 R).1 = 0 then (if s.2.2.2.2 = [] then (.inr s : aF ⊕ aY) else .inl (a_bl R 2)) else a_bi (a_yon m nm s R) (fun g => a_ryr m nm k g.1 g.2)) = _
        rw [if_pos k0, if_pos hs]
      rw [er] at h
      simp only [k0, eq_self, reduceCtorEq, true_implies, false_implies, and_true, true_and, not_true_eq_false, not_false_eq_true]
      exact h S1 f z e25 ye
    · simp only [k0, eq_self, reduceCtorEq, true_implies, false_implies, and_true, true_and, not_true_eq_false, not_false_eq_true]
      have el : nI s.2.2.2.2.length = 0 := by rw [hs]; rfl
      have fwd : a_fwd m nm C n S1 k s R s.2.2.2.2 R.length (fun S20 => p_X11_years_28 x K (j + 2) S20) := by
        refine ⟨fun e ee S' f' bd => ?_, fun k' s' R' ee yi' wf' hk' hl' hs' S' f' G' => ?_⟩
        · rw [ee] at h
          have n1 := (bd_n bd).1
          show p_X11_years_28 x K (j + 1 + 1) S'
          rw [e_X11_years_28]
          simp only [n1, eq_self, reduceCtorEq, true_implies, false_implies, and_true, true_and, not_true_eq_false, not_false_eq_true]
          exact h S' (fr_t f f') bd
        · rw [ee] at h
          exact m_years_28 T cm j k' s' R' S' yi' wf' (hs'.trans hs) G' (fr_t f f') hk' (by omega) h
      have q := m_readStep 6 S1 k s R _ (by omega) (TT_myf T f) (CM_myf cm f) yi wf hk (fun _ => hs) (fun w => absurd w k0) G fwd
      rw [el] at q
      exact q
theorem m_years {S : vSt} {L : Nat} {by_ : Nat → Int32} {m : Nat → Int32} {nm : Nat → Nat} {W : aW} {x : Int32} {K : Int32 → vSt → Prop} (cm : a_CM S m nm) (tp : a_TpM S L by_) (h0 : (¬ ∃ n, n ≤ L ∧ n ≤ 300 ∧ x = nI n) → K (-1) (v_si (v_si (v_si S 143 1 0) 143 0 0) 143 0 5)) (h1 : ∀ n, n ≤ L → n ≤ 300 → x = nI n → a_MYr S m K (a_ryr m nm (a_toks by_ n).length (W, fun j => S.1 148 (1630 + j), 0, 0, []) (a_toks by_ n))) : p_X11_years S x K := by
  obtain ⟨hL, t1, t6⟩ := tp
  unfold p_X11_years
  rintro _ rfl _ rfl
  unfold p_X11_starts p_X11_starts_17
  have e8 : (v_si (v_si S 143 1 0) 143 0 0).1 143 8 = nI L := t1
  rw [e8, e_no]
  by_cases g : ∃ n, n ≤ L ∧ n ≤ 300 ∧ x = nI n
  · obtain ⟨n, hn, h3, rfl⟩ := g
    have h := h1 n hn h3 rfl
    have wf := toks_wf (by_ := by_) (show n ≤ 900 by omega)
    have n1 : ¬ nI n < 0 := nI_pos (by omega)
    have n2 : ¬ nI L < nI n := nI_nlt hn (by omega)
    have n3 : nI n ≤ 300 := nI_le (b := 300) h3 (by omega)
    simp only [n1, n2, n3, eq_self, reduceCtorEq, true_implies, false_implies, and_true, true_and, not_true_eq_false, not_false_eq_true, forall_eq]
    have f0 : a_fr a_my S (v_si (v_si (v_si (v_si (v_si (v_si S 143 1 0) 143 0 0) 143 9 (nI n)) 143 8 0) 143 16 0) 143 12 0) := fr_i (fr_i (fr_i (fr_i (fr_i (fr_i fr_r rfl) rfl) rfl) rfl) rfl) rfl
    have T0 : a_TT (v_si (v_si (v_si (v_si (v_si (v_si S 143 1 0) 143 0 0) 143 9 (nI n)) 143 8 0) 143 16 0) 143 12 0) (a_CC by_ n) n := by
      refine ⟨by omega, CC_lt, CC_0, rfl, fun j hj => ?_⟩
      show S.1 147 j &&& 255 = _
      rw [t6 j (by omega), cv_and]
      unfold a_CC
      rw [if_pos hj]
    have z0 : (v_si (v_si (v_si (v_si (v_si (v_si S 143 1 0) 143 0 0) 143 9 (nI n)) 143 8 0) 143 16 0) 143 12 0).1 143 12 = 0 := rfl
    have w0 : (v_si (v_si (v_si (v_si (v_si (v_si S 143 1 0) 143 0 0) 143 9 (nI n)) 143 8 0) 143 16 0) 143 12 0).1 143 0 = 0 := rfl
    have t0 : (v_si (v_si (v_si (v_si (v_si (v_si S 143 1 0) 143 0 0) 143 9 (nI n)) 143 8 0) 143 16 0) 143 12 0).1 143 8 = 0 := rfl
    refine m_advance (q := 0) T0 (by omega) rfl (fun S1 f1 mr1 => ?_)
    have z1 := (f1 143 12 rfl).1.trans z0
    have w1 := (f1 143 0 rfl).1.trans w0
    have t1 := (f1 143 8 rfl).1.trans t0
    have F3 : a_fr a_myr S (v_si S1 143 25 0) := fr_i (fr_w (fr_t f0 (fr_w f1 av_my)) my_myr) rfl
    have f13 : a_fr (fun k j => decide (k = 143 ∧ j = 25)) S1 (v_si S1 143 25 0) := fr_i fr_r rfl
    have T3 : a_TT (v_si S1 143 25 0) (a_CC by_ n) n := TT_fr (TT_av T0 f1) f13 rfl (fun j => rfl)
    have mr3 := MR_fr mr1 f13 (fun j _ _ => decide_eq_false (by omega))
    have z3 : (v_si S1 143 25 0).1 143 12 = 0 := z1
    have w3 : (v_si S1 143 25 0).1 143 0 = 0 := w1
    have t3 : (v_si S1 143 25 0).1 143 8 = 0 := t1
    have x3 : (v_si S1 143 25 0).1 143 25 = 0 := si_at
    have ye3 : a_ye (v_si S1 143 25 0) (fun j => S.1 148 (1630 + j)) := fun j hj => by
      show S1.1 148 (1630 + j) = S.1 148 (1630 + j)
      exact (f1 148 _ (decide_eq_false (by omega))).1
    have cm3 : a_CM (v_si S1 143 25 0) m nm := by
      refine CM_fr cm F3 (fun j hj => ?_) (fun j hj => ?_)
      · refine Bool.or_eq_false_iff.mpr ⟨decide_eq_false (by omega), decide_eq_false (by omega)⟩
      · refine Bool.or_eq_false_iff.mpr ⟨decide_eq_false (by omega), decide_eq_false (by omega)⟩
    show ∃ fu28, p_X11_years_28 (nI n) K fu28 (v_si S1 143 25 0)
    generalize (v_si S1 143 25 0) = S3 at F3 T3 mr3 z3 w3 t3 x3 ye3 cm3
    refine ⟨(a_toks by_ n).length + 2, m_years_28 (S := S3) T3 cm3 _ _ (W, fun j => S.1 148 (1630 + j), 0, 0, []) _ _ YI_0 wf rfl ⟨mr3, z3, x3, ye3⟩ fr_r (Nat.le_refl _) (Nat.le_refl _) ?_⟩
    cases q : a_ryr m nm (a_toks by_ n).length (W, fun j => S.1 148 (1630 + j), 0, 0, []) (a_toks by_ n) with
    | inl e =>
      rw [q] at h
      intro S4 f4 bd
      obtain ⟨n1, -, -⟩ := bd_n bd
      obtain ⟨b1, b2, -⟩ := bd
      unfold p_X11_years_50 p_X11_isWell p_X11_isWell_24
      rintro _ rfl
      have e12 : (v_si S4 143 10 (S4.1 143 12)).1 143 12 = S4.1 143 12 := rfl
      rw [e12]
      have e12' : ∀ y, (v_si (v_si S4 143 10 (S4.1 143 12)) 143 11 y).1 143 12 = S4.1 143 12 := fun y => rfl
      simp only [n1, eq_self, reduceCtorEq, true_implies, false_implies, and_true, true_and, not_true_eq_false, not_false_eq_true, forall_eq, e12', e_no]
      refine h _ (fr_i (fr_i (fr_i (fr_t F3 (fr_w f4 myf_myr)) rfl) rfl) rfl) si_at b1 b2 ?_
      exact (f4 143 8 rfl).1.trans t3
    | inr s =>
      rw [q] at h
      obtain ⟨yis, -⟩ := ryr_ok _ _ _ s YI_0 wf (Nat.le_refl _) q
      have hK := yis.2.1
      intro S4 f4 z4 x4 ye4
      have M4 := (CM_myf cm3 f4).2.2.1
      unfold p_X11_years_50 p_X11_isWell p_X11_isWell_24
      rintro _ rfl
      have e12 : (v_si S4 143 10 (S4.1 143 12)).1 143 12 = S4.1 143 12 := rfl
      rw [e12, z4]
      simp only [eq_self, reduceCtorEq, true_implies, false_implies, and_true, true_and, not_true_eq_false, not_false_eq_true, forall_eq]
      have e12' : (v_si (v_si S4 143 10 0) 143 11 (-1)).1 143 12 = 0 := z4
      rw [e12']
      simp only [eq_self, reduceCtorEq, true_implies, false_implies, and_true, true_and, not_true_eq_false, not_false_eq_true]
      have v8 : vp_in 108 1900 := vpin (n := 108) ⟨by omega, by omega⟩
      have v9 : vp_in 109 1900 := vpin (n := 109) ⟨by omega, by omega⟩
      have n8 : Int32.toNatClampNeg 108 = 108 := rfl
      have n9 : Int32.toNatClampNeg 109 = 109 := rfl
      rw [n8, n9]
      refine ⟨v8, v9, ?_⟩
      have x5 : ∀ a b : Int32, (v_si (v_si (v_si S4 143 10 0) 143 11 (-1)) 148 108 a).1 143 25 = nI s.2.2.2.1 := fun a b => x4
      rw [x5 1 0]
      have F5 : a_fr a_myy S (v_si (v_si (v_si (v_si S4 143 10 0) 143 11 (-1)) 148 108 1) 148 109 (nI s.2.2.2.1)) := fr_i (fr_i (fr_i (fr_i (fr_w (fr_t F3 (fr_w f4 myf_myr)) myr_w) rfl) rfl) rfl) rfl
      have M5 : ∀ j, j < 380 → (v_si (v_si (v_si (v_si S4 143 10 0) 143 11 (-1)) 148 108 1) 148 109 (nI s.2.2.2.1)).1 148 j = if j = 108 then 1 else if j = 109 then nI s.2.2.2.1 else m j := by
        intro j hj
        rw [si1, si1]
        by_cases c9 : j = 109
        · rw [if_pos ⟨rfl, c9⟩, if_neg (by omega), if_pos c9]
        · rw [if_neg (fun w => c9 w.2)]
          by_cases c8 : j = 108
          · rw [if_pos ⟨rfl, c8⟩, if_pos c8]
          · rw [if_neg (fun w => c8 w.2), if_neg c8, if_neg c9]
            exact M_0 M4 hj
      have y5 : a_ye (v_si (v_si (v_si (v_si S4 143 10 0) 143 11 (-1)) 148 108 1) 148 109 (nI s.2.2.2.1)) s.2.1 := by
        intro j hj
        rw [si1, if_neg (by omega), si1, if_neg (by omega)]
        exact ye4 j hj
      have z5 : (v_si (v_si (v_si (v_si S4 143 10 0) 143 11 (-1)) 148 108 1) 148 109 (nI s.2.2.2.1)).1 143 0 = 0 := (f4 143 0 rfl).1.trans w3
      have q10 : (v_si (v_si (v_si (v_si S4 143 10 0) 143 11 (-1)) 148 108 1) 148 109 (nI s.2.2.2.1)).1 143 10 = 0 := rfl
      have q11 : (v_si (v_si (v_si (v_si S4 143 10 0) 143 11 (-1)) 148 108 1) 148 109 (nI s.2.2.2.1)).1 143 11 = -1 := rfl
      have t5 : (v_si (v_si (v_si (v_si S4 143 10 0) 143 11 (-1)) 148 108 1) 148 109 (nI s.2.2.2.1)).1 143 8 = 0 := (f4 143 8 rfl).1.trans t3
      have x6 : (v_si (v_si (v_si (v_si S4 143 10 0) 143 11 (-1)) 148 108 1) 148 109 (nI s.2.2.2.1)).1 143 25 = nI s.2.2.2.1 := x4
      generalize (v_si (v_si (v_si (v_si S4 143 10 0) 143 11 (-1)) 148 108 1) 148 109 (nI s.2.2.2.1)) = S5 at F5 M5 y5 z5 q10 q11 t5 x6
      have e9 : (9 : Int32) * nI s.2.2.2.1 = nI (9 * s.2.2.2.1) := by rw [show (9 : Int32) = nI 9 from rfl, pk_mul]
      have el : ∀ i, (1630 : Int32) + nI i = nI (1630 + i) := fun i => by rw [show (1630 : Int32) = nI 1630 from rfl, nI_add]
      have em : ∀ i, (110 : Int32) + nI i = nI (110 + i) := fun i => by rw [show (110 : Int32) = nI 110 from rfl, nI_add]
      refine v_loop (fun fu i (t : vSt) => p_X11_years_80 (nI n) K fu t (nI i)) (fun i t => a_fr (fun k j => decide (k = 148 ∧ 110 ≤ j ∧ j < 380)) S5 t ∧ ∀ j, j < 380 → t.1 148 j = if 110 ≤ j ∧ j < 110 + i then s.2.1 (j - 110) else S5.1 148 j) (9 * s.2.2.2.1) (fun fu i t hi I hk => ?_) (fun fu t I => ?_) S5 ⟨fr_r, fun j hj => by rw [if_neg (by omega)]⟩
      · obtain ⟨ft, tj⟩ := I
        have e25 : t.1 143 25 = nI s.2.2.2.1 := (ft 143 25 rfl).1.trans x6
        have n1 : ¬ nI (9 * s.2.2.2.1) ≤ nI i := nI_ge hi (by omega)
        rw [e_X11_years_80, e25, e9, el, em, ncl (by omega), ncl (by omega)]
        simp only [n1, eq_self, reduceCtorEq, true_implies, false_implies, and_true, true_and, not_true_eq_false, not_false_eq_true]
        refine ⟨vpin ⟨by omega, by omega⟩, vpin ⟨by omega, by omega⟩, ?_⟩
        rintro _ rfl _ rfl
        rw [nIs]
        refine hk _ ⟨fr_i ft (decide_eq_true ⟨rfl, by omega, by omega⟩), fun j hj => ?_⟩
        rw [si1]
        by_cases c : j = 110 + i
        · rw [if_pos ⟨rfl, c⟩, if_pos (by omega), c, show 110 + i - 110 = i by omega]
          rw [(ft 148 (1630 + i) (decide_eq_false (by omega))).1]
          exact y5 i (by omega)
        · rw [if_neg (fun w => c w.2), tj j hj]
          by_cases d : 110 ≤ j ∧ j < 110 + i
          · rw [if_pos d, if_pos (by omega)]
          · rw [if_neg d, if_neg (by omega)]
      · obtain ⟨ft, tj⟩ := I
        have e25 : t.1 143 25 = nI s.2.2.2.1 := (ft 143 25 rfl).1.trans x6
        rw [e_X11_years_80, e25, e9]
        simp only [Int32.le_refl, eq_self, reduceCtorEq, true_implies, false_implies, and_true, true_and, not_true_eq_false, not_false_eq_true]
        refine h t (fr_t F5 (fr_w ft (fun k j w => ?_))) (fun j hj => ?_) ((ft 143 0 rfl).1.trans z5) ((ft 143 10 rfl).1.trans q10) ((ft 143 11 rfl).1.trans q11) ((ft 143 8 rfl).1.trans t5)
        · have w := of_decide_eq_false (Bool.or_eq_false_iff.mp w).2
          exact decide_eq_false (by omega)
        · rw [show 380 * 0 + j = j by omega, tj j hj, M5 j hj]
          unfold a_ymm
          by_cases c8 : j = 108
          · rw [if_neg (by omega), if_pos c8, if_pos c8]
          · rw [if_neg c8, if_neg c8]
            by_cases c9 : j = 109
            · rw [if_neg (by omega), if_pos c9, if_pos c9]
            · rw [if_neg c9, if_neg c9]
  · have h0 := h0 g
    have c : ¬ (¬ x < 0 ∧ ¬ nI L < x ∧ x ≤ 300) := by
      rintro ⟨w1, w2, w3⟩
      have hi : a_in 0 (nI L) x = true := decide_eq_true ⟨Int32.not_lt.mp w1, Int32.not_lt.mp w2⟩
      obtain ⟨n, hn, rfl, -⟩ := a_in_t (n := L) rfl (by omega) hi
      refine g ⟨n, hn, ?_, rfl⟩
      have := (nI_leI (a := n) (b := 300) (by omega) (by omega)).mp w3
      exact this
    refine ⟨fun _ => ?_, fun w1 => ⟨fun _ => ?_, fun w2 => ⟨fun w3 => absurd ⟨w1, w2, w3⟩ c, fun _ => ?_⟩⟩⟩
    · exact ⟨fun w => absurd w (by decide), fun _ => h0⟩
    · exact ⟨fun w => absurd w (by decide), fun _ => h0⟩
    · exact ⟨fun w => absurd w (by decide), fun _ => h0⟩
