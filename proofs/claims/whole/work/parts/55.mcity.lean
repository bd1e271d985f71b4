/-! blocks of the model -/
def a_cpf (B k j : Nat) : Bool := decide ((k = 148 ∧ 380 * B ≤ j ∧ j < 380 * B + 380) ∨ (k = 150 ∧ 18 * B ≤ j ∧ j < 18 * B + 18))
theorem m_copy {S : vSt} {B1 B2 : Nat} {K : vSt → Prop} (h1 : B1 < 5) (h2 : B2 < 5) (hn : B1 ≠ B2) (h : ∀ S', a_fr (a_cpf B2) S S' → (∀ j, j < 380 → S'.1 148 (380 * B2 + j) = S.1 148 (380 * B1 + j)) → (∀ j, j < 18 → S'.2 150 (18 * B2 + j) = S.2 150 (18 * B1 + j)) → K S') : p_X11_copy S (nI B1) (nI B2) K := by
  have ea : ∀ B i, (380 : Int32) * nI B + nI i = nI (380 * B + i) := fun B i => by rw [show (380 : Int32) = nI 380 from rfl, pk_mul, nI_add]
  have eb : ∀ B i, (18 : Int32) * nI B + nI i = nI (18 * B + i) := fun B i => by rw [show (18 : Int32) = nI 18 from rfl, pk_mul, nI_add]
  unfold p_X11_copy
  refine v_loop (fun fu i (s : vSt) => p_X11_copy_2 (nI B1) (nI B2) K fu s (nI i)) (fun i s => a_fr (a_cpf B2) S s ∧ s.2 = S.2 ∧ ∀ j, j < i → s.1 148 (380 * B2 + j) = S.1 148 (380 * B1 + j)) 380 (fun fu i s hi I hk => ?_) (fun fu s I => ?_) S ⟨fr_r, rfl, fun j hj => absurd hj (by omega)⟩
  · obtain ⟨f, e2, hj⟩ := I
    have n1 : ¬ 380 ≤ nI i := nI_ge (b := 380) hi (by omega)
    rw [e_X11_copy_2, ea, ea, ncl (by omega), ncl (by omega)]
    simp only [n1, eq_self, reduceCtorEq, true_implies, false_implies, and_true, true_and, not_true_eq_false, not_false_eq_true]
    refine ⟨vpin ⟨by omega, by omega⟩, vpin ⟨by omega, by omega⟩, ?_⟩
    rintro _ rfl _ rfl
    rw [nIs]
    refine hk _ ⟨fr_i f (decide_eq_true (Or.inl ⟨rfl, by omega, by omega⟩)), e2, fun j hj' => ?_⟩
    rw [si1]
    by_cases c : j = i
    · rw [if_pos ⟨rfl, by omega⟩, c]
      exact (f 148 _ (decide_eq_false (by omega))).1
    · rw [if_neg (fun q => c (by omega))]
      exact hj j (by omega)
  · obtain ⟨f, e2, hj⟩ := I
    have n1 : (380 : Int32) ≤ nI 380 := Int32.le_refl _
    rw [e_X11_copy_2]
    simp only [n1, eq_self, reduceCtorEq, true_implies, false_implies, and_true, true_and, not_true_eq_false, not_false_eq_true]
    refine v_loop (fun fu i (s : vSt) => p_X11_copy_41 (nI B1) (nI B2) K fu s (nI i)) (fun i t => a_fr (a_cpf B2) S t ∧ t.1 = s.1 ∧ ∀ j, j < i → t.2 150 (18 * B2 + j) = S.2 150 (18 * B1 + j)) 18 (fun fu i t hi I hk => ?_) (fun fu t I => ?_) s ⟨f, rfl, fun j hj => absurd hj (by omega)⟩
    · obtain ⟨g, e1, gj⟩ := I
      have n1 : ¬ 18 ≤ nI i := nI_ge (b := 18) hi (by omega)
      rw [e_X11_copy_41, eb, eb, ncl (by omega), ncl (by omega)]
      simp only [n1, eq_self, reduceCtorEq, true_implies, false_implies, and_true, true_and, not_true_eq_false, not_false_eq_true]
      refine ⟨vpin ⟨by omega, by omega⟩, vpin ⟨by omega, by omega⟩, ?_⟩
      rintro _ rfl _ rfl
      rw [nIs]
      refine hk _ ⟨fr_l g (decide_eq_true (Or.inr ⟨rfl, by omega, by omega⟩)), e1, fun j hj' => ?_⟩
      rw [sl2]
      by_cases c : j = i
      · rw [if_pos ⟨rfl, by omega⟩, c]
        exact (g 150 _ (decide_eq_false (by omega))).2
      · rw [if_neg (fun q => c (by omega))]
        exact gj j (by omega)
    · obtain ⟨g, e1, gj⟩ := I
      have n1 : (18 : Int32) ≤ nI 18 := Int32.le_refl _
      rw [e_X11_copy_41]
      simp only [n1, eq_self, reduceCtorEq, true_implies, false_implies, and_true, true_and, not_true_eq_false, not_false_eq_true]
      exact h t g (fun j hj' => by rw [e1]; exact hj j hj') gj
theorem m_empties {S : vSt} {B : Nat} {K : vSt → Prop} (hB : B < 5) (h : ∀ S', a_fr (a_cpf B) S S' → S'.2 = S.2 → a_M S' B a_me → K S') : p_X11_empties S (nI B) K := by
  have e0 : (380 : Int32) * nI B = nI (380 * B) := by rw [show (380 : Int32) = nI 380 from rfl, pk_mul]
  unfold p_X11_empties
  rw [e0]
  rintro _ rfl
  refine v_loop (fun fu i (s : vSt) => p_X11_empties_8 (nI B) K fu s (nI (380 * B)) (nI i)) (fun i s => a_fr (a_cpf B) S s ∧ s.2 = S.2 ∧ ∀ j, j < i → s.1 148 (380 * B + j) = 0) 380 (fun fu i s hi I hk => ?_) (fun fu s I => ?_) S ⟨fr_r, rfl, fun j hj => absurd hj (by omega)⟩
  · obtain ⟨f, e2, hj⟩ := I
    have n1 : ¬ 380 ≤ nI i := nI_ge (b := 380) hi (by omega)
    rw [e_X11_empties_8, nI_add, ncl (by omega)]
    simp only [n1, eq_self, reduceCtorEq, true_implies, false_implies, and_true, true_and, not_true_eq_false, not_false_eq_true]
    refine ⟨vpin ⟨by omega, by omega⟩, ?_⟩
    rintro _ rfl _ rfl
    rw [nIs]
    refine hk _ ⟨fr_i f (decide_eq_true (Or.inl ⟨rfl, by omega, by omega⟩)), e2, fun j hj' => ?_⟩
    rw [si1]
    by_cases c : j = i
    · rw [if_pos ⟨rfl, by omega⟩]
    · rw [if_neg (fun q => c (by omega))]
      exact hj j (by omega)
  · obtain ⟨f, e2, hj⟩ := I
    have n1 : (380 : Int32) ≤ nI 380 := Int32.le_refl _
    have el : ∀ c, c < 380 → nI (380 * B) + nI c = nI (380 * B + c) := fun c _ => nI_add _ _
    rw [e_X11_empties_8]
    simp only [n1, eq_self, reduceCtorEq, true_implies, false_implies, and_true, true_and, not_true_eq_false, not_false_eq_true]
    rw [show (2 : Int32) = nI 2 from rfl, show (3 : Int32) = nI 3 from rfl, show (4 : Int32) = nI 4 from rfl, show (5 : Int32) = nI 5 from rfl]
    simp only [el 2 (by omega), el 3 (by omega), el 4 (by omega), el 5 (by omega), ncl (show 380 * B + 2 < 2 ^ 31 by omega), ncl (show 380 * B + 3 < 2 ^ 31 by omega), ncl (show 380 * B + 4 < 2 ^ 31 by omega), ncl (show 380 * B + 5 < 2 ^ 31 by omega)]
    refine ⟨vpin ⟨by omega, by omega⟩, ?_⟩
    rintro _ rfl
    refine ⟨vpin ⟨by omega, by omega⟩, ?_⟩
    rintro _ rfl
    refine ⟨vpin ⟨by omega, by omega⟩, ?_⟩
    rintro _ rfl
    refine ⟨vpin ⟨by omega, by omega⟩, ?_⟩
    rintro _ rfl
    have f4 := fr_i (x := 8) (fr_i (x := 100) (fr_i (x := 1) (fr_i (x := 5) f (decide_eq_true (Or.inl ⟨rfl, show 380 * B ≤ 380 * B + 2 by omega, by omega⟩))) (decide_eq_true (Or.inl ⟨rfl, show 380 * B ≤ 380 * B + 3 by omega, by omega⟩))) (decide_eq_true (Or.inl ⟨rfl, show 380 * B ≤ 380 * B + 4 by omega, by omega⟩))) (decide_eq_true (Or.inl ⟨rfl, show 380 * B ≤ 380 * B + 5 by omega, by omega⟩))
    have v4 : ∀ j, j < 380 → (v_si (v_si (v_si (v_si s 148 (380 * B + 2) 5) 148 (380 * B + 3) 1) 148 (380 * B + 4) 100) 148 (380 * B + 5) 8).1 148 (380 * B + j) = if j = 2 then 5 else if j = 3 then 1 else if j = 4 then 100 else if j = 5 then 8 else 0 := by
      intro j hj'
      rw [si1, si1, si1, si1]
      by_cases c5 : j = 5
      · subst c5; rw [if_pos ⟨rfl, rfl⟩]; rfl
      · rw [if_neg (fun q => c5 (by omega))]
        by_cases c4 : j = 4
        · subst c4; rw [if_pos ⟨rfl, rfl⟩]; rfl
        · rw [if_neg (fun q => c4 (by omega))]
          by_cases c3 : j = 3
          · subst c3; rw [if_pos ⟨rfl, rfl⟩]; rfl
          · rw [if_neg (fun q => c3 (by omega))]
            by_cases c2 : j = 2
            · subst c2; rw [if_pos ⟨rfl, rfl⟩]; rfl
            · rw [if_neg (fun q => c2 (by omega)), if_neg c2, if_neg c3, if_neg c4, if_neg c5]
              exact hj j hj'
    have e4 : (v_si (v_si (v_si (v_si s 148 (380 * B + 2) 5) 148 (380 * B + 3) 1) 148 (380 * B + 4) 100) 148 (380 * B + 5) 8).2 = S.2 := e2
    show ∃ fu, p_X11_empties_70 (nI B) K fu (v_si (v_si (v_si (v_si s 148 (380 * B + 2) 5) 148 (380 * B + 3) 1) 148 (380 * B + 4) 100) 148 (380 * B + 5) 8) (nI (380 * B)) 0
    generalize (v_si (v_si (v_si (v_si s 148 (380 * B + 2) 5) 148 (380 * B + 3) 1) 148 (380 * B + 4) 100) 148 (380 * B + 5) 8) = s4 at f4 v4 e4
    refine v_loop (fun fu i (s : vSt) => p_X11_empties_70 (nI B) K fu s (nI (380 * B)) (nI i)) (fun i s => a_fr (a_cpf B) S s ∧ s.2 = S.2 ∧ ∀ j, j < 380 → s.1 148 (380 * B + j) = if j = 2 then 5 else if j = 3 then 1 else if j = 4 then 100 else if j = 5 then 8 else if (88 ≤ j ∧ j < 88 + i) ∨ (98 ≤ j ∧ j < 98 + i) then -1 else 0) 10 (fun fu i s hi I hk => ?_) (fun fu s I => ?_) s4 ⟨f4, e4, fun j hj' => ?_⟩
    · obtain ⟨f, e2, hj⟩ := I
      have n1 : ¬ 10 ≤ nI i := nI_ge (b := 10) hi (by omega)
      have e8 : nI (380 * B) + 88 + nI i = nI (380 * B + 88 + i) := by rw [show (88 : Int32) = nI 88 from rfl, nI_add, nI_add]
      have e9 : nI (380 * B) + 98 + nI i = nI (380 * B + 98 + i) := by rw [show (98 : Int32) = nI 98 from rfl, nI_add, nI_add]
      rw [e_X11_empties_70, e8, e9, ncl (by omega), ncl (by omega)]
      simp only [n1, eq_self, reduceCtorEq, true_implies, false_implies, and_true, true_and, not_true_eq_false, not_false_eq_true]
      refine ⟨vpin ⟨by omega, by omega⟩, ?_⟩
      rintro _ rfl
      refine ⟨vpin ⟨by omega, by omega⟩, ?_⟩
      rintro _ rfl _ rfl
      rw [nIs]
      refine hk _ ⟨fr_i (fr_i f (decide_eq_true (Or.inl ⟨rfl, by omega, by omega⟩))) (decide_eq_true (Or.inl ⟨rfl, by omega, by omega⟩)), e2, fun j hj' => ?_⟩
      rw [si1, si1]
      by_cases c9 : j = 98 + i
      · rw [if_pos ⟨rfl, by omega⟩, if_neg (by omega), if_neg (by omega), if_neg (by omega), if_neg (by omega), if_pos (by omega)]
      · rw [if_neg (fun q => c9 (by omega))]
        by_cases c8 : j = 88 + i
        · rw [if_pos ⟨rfl, by omega⟩, if_neg (by omega), if_neg (by omega), if_neg (by omega), if_neg (by omega), if_pos (by omega)]
        · rw [if_neg (fun q => c8 (by omega)), hj j hj']
          have e : ((88 ≤ j ∧ j < 88 + i) ∨ (98 ≤ j ∧ j < 98 + i)) ↔ ((88 ≤ j ∧ j < 88 + (i + 1)) ∨ (98 ≤ j ∧ j < 98 + (i + 1))) := by omega
          simp only [e]
    · obtain ⟨f, e2, hj⟩ := I
      have n1 : (10 : Int32) ≤ nI 10 := Int32.le_refl _
      rw [e_X11_empties_70]
      simp only [n1, eq_self, reduceCtorEq, true_implies, false_implies, and_true, true_and, not_true_eq_false, not_false_eq_true]
      refine h s f e2 (fun j hj' => ?_)
      rw [hj j hj']
      unfold a_me
      have e : ((88 ≤ j ∧ j < 88 + 10) ∨ (98 ≤ j ∧ j < 98 + 10)) ↔ (88 ≤ j ∧ j < 108) := by omega
      simp only [e]
    · rw [v4 j hj']
      have e : ¬ ((88 ≤ j ∧ j < 88 + 0) ∨ (98 ≤ j ∧ j < 98 + 0)) := by omega
      simp only [e, if_false]
/-! the model's city -/
def a_my (k j : Nat) : Bool := decide ((k = 143 ∧ (j ≤ 1 ∨ (8 ≤ j ∧ j ≤ 19) ∨ j = 24)) ∨ (k = 148 ∧ 1520 ≤ j) ∨ (k = 150 ∧ 72 ≤ j))
def a_myc (k j : Nat) : Bool := a_my k j || decide ((k = 148 ∧ j < 380) ∨ (k = 150 ∧ j < 18))
theorem my_w : ∀ k j, a_myc k j = false → a_my k j = false := fun k j h => (Bool.or_eq_false_iff.mp h).1
theorem mcf_my : ∀ k j, a_my k j = false → a_mcf k j = false := by
  intro k j q
  unfold a_my at q
  unfold a_mcf
  rw [decide_eq_false_iff_not] at q ⊢
  omega
theorem av_my : ∀ k j, a_my k j = false → a_av k j = false := fun k j q => av_mtf k j (mtf_mcf k j (mcf_my k j q))
theorem cp4_my : ∀ k j, a_my k j = false → a_cpf 4 k j = false := by
  intro k j q
  unfold a_my at q
  unfold a_cpf
  rw [decide_eq_false_iff_not] at q ⊢
  omega
theorem cp0_myc : ∀ k j, a_myc k j = false → a_cpf 0 k j = false := by
  intro k j q
  unfold a_myc at q
  have q := of_decide_eq_false (Bool.or_eq_false_iff.mp q).2
  exact decide_eq_false (by omega)
def a_MCy (S : vSt) (K : Int32 → vSt → Prop) (o : aF ⊕ aS) : Prop := match o with
  | .inl e => ∀ S', a_fr a_my S S' → S'.1 143 0 = 10 → S'.1 143 10 = nI e.1 → S'.1 143 11 = nI e.2 → S'.1 143 8 = 0 → K (-1) S'
  | .inr s => ∀ S', a_fr a_myc S S' → a_M S' 0 s.1 → a_nmM S' 0 s.1 s.2.1 → S'.1 143 0 = 0 → S'.1 143 10 = 0 → S'.1 143 11 = -1 → S'.1 143 8 = 0 → K (nI (a_D s.1)) S'
theorem m_city_33 {S : vSt} {C : Nat → Nat} {n : Nat} {x : Int32} {K : Int32 → vSt → Prop} : ∀ k s R S1, a_PI s → a_wf R → a_Gm S1 C n s R → a_fr a_mcf S S1 → R.length ≤ k → (match a_rcy k s R with
    | .inl e => ∀ S', a_fr a_mcf S S' → a_bad S' e → p_X11_city_64 x K S'
    | .inr g => ∀ S', a_fr a_mcf S S' → S'.1 143 12 = 0 → a_M S' 4 g.1 → a_nmM S' 4 g.1 g.2.1 → p_X11_city_64 x K S') → p_X11_city_33 x K (k + 2) S1
  | 0, s, R, S1, pi, wf, G, f, hk, h => by
    obtain ⟨t, R', rfl, -, -, -, -⟩ := wf_c wf
    exact absurd hk (by rw [List.length_cons]; omega)
  | k + 1, s, R, S1, pi, wf, G, f, hk, h => by
    have z := G.2.2.1
    have c14 := (MR_c G.2.1).2.1
    have e0 := tkk_eq (k := 0) (m := 0) (wf_ok wf) (by omega)
    rw [e_X11_city_33, z, c14, show (0 : Int32) = nI 0 from rfl, e0]
    have es : a_rcy (k + 1) s R = if (a_h0 R).1 = 0 then .inr s else a_bi (a_ps (a_rpt s R)) (fun g => a_rcy k g.1 g.2) := rfl
    rw [es] at h
    by_cases k0 : (a_h0 R).1 = 0
    · rw [if_pos k0] at h
      simp only [k0, eq_self, reduceCtorEq, true_implies, false_implies, and_true, true_and, not_true_eq_false, not_false_eq_true]
      exact h S1 f z G.2.2.2.2.1 G.2.2.2.2.2
    · rw [if_neg k0] at h
      simp only [k0, eq_self, reduceCtorEq, true_implies, false_implies, and_true, true_and, not_true_eq_false, not_false_eq_true]
      have bad : ∀ e, a_ps (a_rpt s R) = .inl e → ∀ S', a_fr a_mcf S S' → a_bad S' e → p_X11_city_33 x K (k + 2) S' := by
        intro e q S' f' bd
        rw [q] at h
        have n1 := (bd_n bd).1
        rw [e_X11_city_33]
        simp only [n1, eq_self, reduceCtorEq, true_implies, false_implies, and_true, true_and, not_true_eq_false, not_false_eq_true]
        exact h S' f' bd
      refine m_readPart G pi wf ?_
      cases q : a_rpt s R with
      | inl e =>
        intro S' f' bd
        refine any_isSign (fun _ => q_must bd ?_)
        exact bad e (by rw [q]; rfl) S' (fr_t f f') bd
      | inr g =>
        obtain ⟨p2, w2, l2⟩ := rpt_ok pi wf q
        intro S2 f2 G2
        obtain ⟨T2, mr2, z2, t2, M2, nx2⟩ := G2
        show p_X11_isSign S2 (nI 59) _
        rw [e_isSign (MR_c mr2) (wf_ok w2) (by omega)]
        refine m_must T2 w2 mr2 z2 (fun w => by have := of_decide_eq_true w; omega) ?_
        show a_MFu C n S2 _ (a_semi g.2)
        cases q2 : a_semi g.2 with
        | inl e =>
          intro S' f' bd
          refine bad e ?_ S' (fr_t (fr_t f f2) (fr_w f' mtf_mcf)) bd
          rw [q]
          show a_bi (a_semi g.2) _ = _
          rw [q2]
          rfl
        | inr R2 =>
          intro S3 f3 mr3 z3
          obtain ⟨g148, g150, g24⟩ := mtf_0 f3
          have er : a_ps (a_rpt s R) = .inr (g.1, R2) := by
            rw [q]
            show a_bi (a_semi g.2) _ = _
            rw [q2]
            rfl
          rw [er] at h
          have l3 := wd_len w2 q2
          refine m_city_33 k g.1 R2 S3 p2 (semi_wf w2 q2) ⟨TT_mtf T2 f3, mr3, z3, g24.trans t2, fun j hj => (g148 _).trans (M2 j hj), fun p hp => (g150 _).trans (nx2.1 p hp), fun d hd => (g150 _).trans (nx2.2 d hd)⟩ (fr_t (fr_t f f2) (fr_w f3 mtf_mcf)) (by omega) h
theorem m_city {S : vSt} {L : Nat} {by_ : Nat → Int32} {nm : Nat → Nat} {x : Int32} {K : Int32 → vSt → Prop} (tp : a_TpM S L by_) (h0 : a_in 0 (nI L) x = false → K (-1) (v_si (v_si (v_si S 143 1 0) 143 0 0) 143 0 5)) (h1 : ∀ n, n ≤ L → x = nI n → a_MCy S K (a_rcy (a_toks by_ n).length (a_me, nm, 0) (a_toks by_ n))) : p_X11_city S x K := by
  obtain ⟨hL, t1, t6⟩ := tp
  unfold p_X11_city
  rintro _ rfl _ rfl
  unfold p_X11_starts p_X11_starts_17
  have e8 : (v_si (v_si S 143 1 0) 143 0 0).1 143 8 = nI L := t1
  rw [e8, e_no]
  by_cases g : a_in 0 (nI L) x = true
  · obtain ⟨n, hn, rfl, -⟩ := a_in_t (n := L) rfl (by omega) g
    have h := h1 n hn rfl
    have wf := toks_wf (by_ := by_) (show n ≤ 900 by omega)
    have n1 : ¬ nI n < 0 := nI_pos (by omega)
    have n2 : ¬ nI L < nI n := nI_nlt hn (by omega)
    have n3 : nI n ≤ 900 := nI_le (b := 900) (by omega) (by omega)
    simp only [n1, n2, n3, eq_self, reduceCtorEq, true_implies, false_implies, and_true, true_and, not_true_eq_false, not_false_eq_true, forall_eq]
    have f0 : a_fr a_my S (v_si (v_si (v_si (v_si (v_si (v_si S 143 1 0) 143 0 0) 143 9 (nI n)) 143 8 0) 143 16 0) 143 12 0) := fr_i (fr_i (fr_i (fr_i (fr_i (fr_i fr_r rfl) rfl) rfl) rfl) rfl) rfl
    have T0 : a_TT (v_si (v_si (v_si (v_si (v_si (v_si S 143 1 0) 143 0 0) 143 9 (nI n)) 143 8 0) 143 16 0) 143 12 0) (a_CC by_ n) n := by
      refine ⟨by omega, CC_lt, CC_0, rfl, fun j hj => ?_⟩
      show S.1 147 j &&& 255 = _
      rw [t6 j (by omega), cv_and]
      unfold a_CC
      rw [if_pos hj]
    have z0 : (v_si (v_si (v_si (v_si (v_si (v_si S 143 1 0) 143 0 0) 143 9 (nI n)) 143 8 0) 143 16 0) 143 12 0).1 143 12 = 0 := rfl
    have w0 : (v_si (v_si (v_si (v_si (v_si (v_si S 143 1 0) 143 0 0) 143 9 (nI n)) 143 8 0) 143 16 0) 143 12 0).1 143 0 = 0 := rfl
    have t0 : (v_si (v_si (v_si (v_si (v_si (v_si S 143 1 0) 143 0 0) 143 9 (nI n)) 143 8 0) 143 16 0) 143 12 0).1 143 8 = 0 := rfl
    refine m_advance (q := 0) T0 (by omega) rfl (fun S1 f1 mr1 => ?_)
    have z1 := (f1 143 12 rfl).1.trans z0
    have w1 := (f1 143 0 rfl).1.trans w0
    have t1 := (f1 143 8 rfl).1.trans t0
    have T1 := TT_av T0 f1
    have F1 := fr_t f0 (fr_w f1 av_my)
    refine m_empties (B := 4) (by omega) (fun S2 f2 n2 M2 => ?_)
    have F2 := fr_t F1 (fr_w f2 cp4_my)
    have F3 : a_fr a_my S (v_si S2 143 24 0) := fr_i F2 rfl
    have f23 : a_fr (fun k j => decide (k = 148 ∨ k = 150 ∨ (k = 143 ∧ j = 24))) S1 (v_si S2 143 24 0) := by
      refine fr_i (fr_w f2 (fun k j q => ?_)) rfl
      rw [decide_eq_false_iff_not] at q
      exact decide_eq_false (by omega)
    have G3 : a_Gm (v_si S2 143 24 0) (a_CC by_ n) n (a_me, nm, 0) (a_toks by_ n) := by
      refine ⟨TT_fr T1 f23 rfl (fun j => decide_eq_false (by omega)), MR_fr mr1 f23 (fun j _ _ => decide_eq_false (by omega)), (f23 143 12 rfl).1.trans z1, si_at, fun j hj => M2 j hj, fun p hp => ?_, fun d hd => ?_⟩
      · have hp : p < a_P a_me := hp
        rw [me_PD.1] at hp; omega
      · have hd : d < a_D a_me := hd
        rw [me_PD.2] at hd; omega
    have w3 := (f23 143 0 rfl).1.trans w1
    have t3 := (f23 143 8 rfl).1.trans t1
    refine ⟨(a_toks by_ n).length + 2, m_city_33 (S := v_si S2 143 24 0) _ (a_me, nm, 0) _ _ (me_PI nm) wf G3 fr_r (Nat.le_refl _) ?_⟩
    have emf : ∀ (a : Nat), (a = 0 ∨ a = 8) → a_mcf 143 a = false := fun a ha => by rcases ha with rfl | rfl <;> rfl
    cases q : a_rcy (a_toks by_ n).length (a_me, nm, 0) (a_toks by_ n) with
    | inl e =>
      rw [q] at h
      intro S4 f4 bd
      obtain ⟨n1, -, -⟩ := bd_n bd
      obtain ⟨b1, b2, -⟩ := bd
      unfold p_X11_city_64 p_X11_isWell p_X11_isWell_24
      rintro _ rfl
      have e12 : (v_si S4 143 10 (S4.1 143 12)).1 143 12 = S4.1 143 12 := rfl
      rw [e12]
      have e12' : ∀ y, (v_si (v_si S4 143 10 (S4.1 143 12)) 143 11 y).1 143 12 = S4.1 143 12 := fun y => rfl
      simp only [n1, eq_self, reduceCtorEq, true_implies, false_implies, and_true, true_and, not_true_eq_false, not_false_eq_true, forall_eq, e12', e_no]
      refine h _ (fr_i (fr_i (fr_i (fr_t F3 (fr_w f4 mcf_my)) rfl) rfl) rfl) si_at ?_ ?_ ?_
      · exact b1
      · exact b2
      · exact (f4 143 8 rfl).1.trans t3
    | inr s =>
      rw [q] at h
      have pis := rcy_ok _ _ _ (me_PI nm) wf s q
      intro S4 f4 z4 M4 nx4
      unfold p_X11_city_64 p_X11_isWell p_X11_isWell_24
      rintro _ rfl
      have e12 : (v_si S4 143 10 (S4.1 143 12)).1 143 12 = S4.1 143 12 := rfl
      rw [e12]
      have e12' : ∀ y, (v_si (v_si S4 143 10 (S4.1 143 12)) 143 11 y).1 143 12 = S4.1 143 12 := fun y => rfl
      rw [z4]
      simp only [eq_self, reduceCtorEq, true_implies, false_implies, and_true, true_and, not_true_eq_false, not_false_eq_true, forall_eq]
      have e12' : (v_si (v_si S4 143 10 0) 143 11 (-1)).1 143 12 = 0 := z4
      rw [e12']
      simp only [eq_self, reduceCtorEq, true_implies, false_implies, and_true, true_and, not_true_eq_false, not_false_eq_true]
      refine m_copy (B1 := 4) (B2 := 0) (by omega) (by omega) (by omega) (fun S5 f5 c5 n5 => ?_)
      have e1 : Int32.toNatClampNeg 1 = 1 := rfl
      have v1 : vp_in 1 1900 := vpin (n := 1) ⟨by omega, by omega⟩
      refine ⟨v1, ?_⟩
      rw [e1]
      have M5 : a_M S5 0 s.1 := fun j hj => (c5 j hj).trans (M4 j hj)
      have e5 : S5.1 148 1 = nI (a_D s.1) := (M_0 M5 (by omega)).trans (ok_m1 pis.1)
      rw [e5]
      have h8 := ok_P8 pis.1
      have h10 := ok_D10 pis.1
      refine h S5 (fr_t (fr_w (fr_i (fr_i (fr_t F3 (fr_w f4 mcf_my)) rfl) rfl) my_w) (fr_w f5 cp0_myc)) M5 ⟨fun p hp => ?_, fun d hd => ?_⟩ ?_ ?_ ?_ ?_
      · exact (n5 p (by omega)).trans (nx4.1 p hp)
      · have q := nx4.2 d hd
        have q2 := n5 (8 + d) (by omega)
        rw [show 18 * 4 + (8 + d) = 18 * 4 + 8 + d by omega, show 18 * 0 + (8 + d) = 18 * 0 + 8 + d by omega] at q2
        exact q2.trans q
      · exact (f5 143 0 rfl).1.trans ((f4 143 0 rfl).1.trans w3)
      · exact (f5 143 10 rfl).1.trans rfl
      · exact (f5 143 11 rfl).1.trans rfl
      · exact (f5 143 8 rfl).1.trans ((f4 143 8 rfl).1.trans t3)
  · rw [Bool.not_eq_true] at g
    have h0 := h0 g
    have c := of_decide_eq_false g
    refine ⟨fun _ => ?_, fun w1 => ⟨fun _ => ?_, fun w2 => absurd ⟨Int32.not_lt.mp w1, Int32.not_lt.mp w2⟩ c⟩⟩
    · exact ⟨fun w => absurd w (by decide), fun _ => h0⟩
    · exact ⟨fun w => absurd w (by decide), fun _ => h0⟩
