/-! the model's parts of a city -/
def a_MN (C : Nat → Nat) (n : Nat) (S : vSt) (k N : Nat) (K : Int32 → vSt → Prop) (res : aF ⊕ (Nat × List aK)) : Prop := match res with
  | .inl e => ∀ S', a_fr a_mcf S S' → a_bad S' e → K (nI 0) S'
  | .inr g => ∀ S', a_fr a_mcf S S' → a_MR S' C n g.2 → S'.1 143 12 = 0 → S'.1 143 24 = S.1 143 24 → (∀ j, S'.1 148 j = S.1 148 j) → (∀ j, S'.2 150 j = if j = k then lN g.1 else S.2 150 j) → K (nI N) S'
theorem mtf_0 {S S' : vSt} (f : a_fr a_mtf S S') : (∀ j, S'.1 148 j = S.1 148 j) ∧ (∀ j, S'.2 150 j = S.2 150 j) ∧ S'.1 143 24 = S.1 143 24 := ⟨fun j => (f 148 j (decide_eq_false (by omega))).1, fun j => (f 150 j (decide_eq_false (by omega))).2, (f 143 24 rfl).1⟩
theorem m_readNew {S : vSt} {C : Nat → Nat} {n w N cap : Nat} {R : List aK} {m : Nat → Int32} {nm : Nat → Nat} {K : Int32 → vSt → Prop} (ok : a_ok m) (nb : a_nmb m nm) (M : a_M S 4 m) (nx : a_nmM S 4 m nm) (T : a_TT S C n) (wf : a_wf R) (mr : a_MR S C n R) (z : S.1 143 12 = 0) (hk : (a_h0 R).1 ≠ 0) (hw : w < 2) (hN : S.1 148 (1520 + w) = nI N) (hc : N ≤ cap) (h10 : cap ≤ 10) (h18 : 8 * w + cap ≤ 18) (h : a_MN C n S (72 + 8 * w + N) N K (if N = cap then .inl (6, (a_h0 R).2.1) else a_newn m nm R.tail)) : p_X11_readNew S (nI w) (nI cap) K := by
  have h8 := ok_P8 ok
  have h10' := ok_D10 ok
  have ea : (1520 : Int32) + nI w = nI (1520 + w) := nI_add 1520 w
  have eb : (72 : Int32) + 8 * nI w + nI N = nI (72 + 8 * w + N) := by rw [show (8 : Int32) = nI 8 from rfl, pk_mul, show (72 : Int32) = nI 72 from rfl, nI_add, nI_add]
  have b84 : ∀ (S' : vSt) (e : aF) (x : Int32), a_bad S' e → K (nI 0) S' → p_X11_readNew_84 (nI w) (nI cap) K S' x := by
    intro S' e x bd k
    unfold p_X11_readNew_84
    have n1 := (bd_n bd).2.1
    simp only [n1, eq_self, reduceCtorEq, true_implies, false_implies, and_true, true_and, not_true_eq_false, not_false_eq_true]
    exact k
  unfold p_X11_readNew
  rw [ea, ncl (by omega), hN]
  refine ⟨vpin ⟨by omega, by omega⟩, ?_⟩
  rintro _ rfl
  rw [nI_eq (by omega) (by omega)]
  by_cases c : N = cap
  · rw [if_pos c] at h
    simp only [c, eq_self, reduceCtorEq, true_implies, false_implies, and_true, true_and, not_true_eq_false, not_false_eq_true]
    refine m_fail (f := 6) mr z (by omega) (fun S' f bd => ?_)
    unfold p_X11_readNew_26
    have n1 := (bd_n bd).2.1
    simp only [n1, eq_self, reduceCtorEq, true_implies, false_implies, and_true, true_and, not_true_eq_false, not_false_eq_true]
    exact h S' (fr_w f mtf_mcf) bd
  · rw [if_neg c] at h
    simp only [c, eq_self, reduceCtorEq, true_implies, false_implies, and_true, true_and, not_true_eq_false, not_false_eq_true]
    unfold p_X11_readNew_26
    rw [z]
    simp only [Int32.le_refl, eq_self, reduceCtorEq, true_implies, false_implies, and_true, true_and, not_true_eq_false, not_false_eq_true]
    refine m_adv T wf mr hk (fun S1 f1 mr1 => ?_)
    have F1 := fr_w f1 av_mtf
    have z1 := (f1 143 12 rfl).1.trans z
    have T1 := TT_mtf T F1
    have wt := wf_tl wf hk
    have tok := wf_ok wt
    have mc := MR_c mr1
    rw [e_isName mc tok]
    unfold a_newn at h
    by_cases c3 : (a_h0 R.tail).1 = 3
    · rw [if_pos c3] at h
      rw [decide_eq_true c3]
      simp only [eq_self, reduceCtorEq, true_implies, false_implies, and_true, true_and, not_true_eq_false, not_false_eq_true]
      have hv := (tok.2.2.2.1 c3).1
      have e19 : S1.2 143 19 = lN (a_h0 R.tail).2.2 := by
        rw [(mc.2.2.2 (Or.inr (Or.inl c3))).1]
        unfold a_wv
        rw [if_neg (by omega), if_pos c3]
      obtain ⟨g148, g150, g24⟩ := mtf_0 F1
      have M1 : a_M S1 4 m := fun j hj => (g148 _).trans (M j hj)
      have nd : ∀ K', (K' (a_oi (a_pb m nm (a_h0 R.tail).2.2)) S1) → p_X11_named S1 4 0 K' := fun K' k => m_named (w := 0) (N := a_P m) (f := nm) (by omega) ((M1 0 (by omega)).trans (ok_m0 ok)) (by omega) (fun p hp => ⟨(g150 _).trans (nx.1 p hp), nb.1 p hp⟩) e19 hv k
      have ne : ∀ K', (K' (a_oi (a_db m nm (a_h0 R.tail).2.2)) S1) → p_X11_named S1 4 1 K' := fun K' k => m_named (w := 1) (N := a_D m) (f := fun d => nm (8 + d)) (by omega) ((M1 1 (by omega)).trans (ok_m1 ok)) (by omega) (fun p hp => ⟨(g150 _).trans (nx.2 p hp), nb.2 p hp⟩) e19 hv k
      have bad : ¬ (a_pb m nm (a_h0 R.tail).2.2 = none ∧ a_db m nm (a_h0 R.tail).2.2 = none) → p_X11_readNew_75 (nI w) (nI cap) K S1 (nI N) := by
        intro q
        rw [if_neg q] at h
        unfold p_X11_readNew_75
        exact m_fail (f := 3) mr1 z1 (by omega) (fun S' f bd => b84 S' _ _ bd (h S' (fr_w (fr_t F1 f) mtf_mcf) bd))
      have good : a_pb m nm (a_h0 R.tail).2.2 = none ∧ a_db m nm (a_h0 R.tail).2.2 = none → p_X11_readNew_84 (nI w) (nI cap) K S1 (nI N) := by
        intro q
        rw [if_pos q] at h
        unfold p_X11_readNew_84
        rw [z1, eb, e19, ncl (by omega)]
        simp only [Int32.le_refl, eq_self, reduceCtorEq, true_implies, false_implies, and_true, true_and, not_true_eq_false, not_false_eq_true]
        refine ⟨vpin ⟨by omega, by omega⟩, ?_⟩
        rintro _ rfl
        have f2 : a_fr a_mcf S1 (v_sl S1 150 (72 + 8 * w + N) (lN (a_h0 R.tail).2.2)) := fr_l fr_r (decide_eq_true (Or.inr (Or.inr (Or.inr ⟨rfl, by omega⟩))))
        have mr2 : a_MR (v_sl S1 150 (72 + 8 * w + N) (lN (a_h0 R.tail).2.2)) C n R.tail := by
          refine MR_fr (c := fun k j => decide (k = 150 ∧ j = 72 + 8 * w + N)) mr1 (fr_l fr_r (decide_eq_true ⟨rfl, rfl⟩)) (fun j _ _ => decide_eq_false (by omega))
        refine m_adv (TT_mcf T1 f2) wt mr2 (by omega) (fun S3 f3 mr3 => ?_)
        have F3 := fr_w f3 av_mtf
        obtain ⟨k148, k150, k24⟩ := mtf_0 F3
        refine h S3 (fr_t (fr_w F1 mtf_mcf) (fr_t f2 (fr_w F3 mtf_mcf))) mr3 ((f3 143 12 rfl).1.trans z1) (k24.trans g24) (fun j => (k148 j).trans (g148 j)) (fun j => ?_)
        rw [k150, sl2, g150]
        by_cases e : j = 72 + 8 * w + N
        · rw [if_pos ⟨rfl, e⟩, if_pos e]
        · rw [if_neg (fun q => e q.2), if_neg e]
      unfold p_X11_readNew_50
      rw [z1]
      simp only [eq_self, reduceCtorEq, true_implies, false_implies, and_true, true_and, not_true_eq_false, not_false_eq_true]
      refine nd _ ?_
      have oz : ∀ o : Option Nat, (∀ k, o = some k → k < 30) → (0 ≤ a_oi o ↔ ¬ o = none) ∧ (a_oi o < 0 ↔ o = none) := by
        intro o ho
        cases o with
        | none => exact ⟨⟨fun w => absurd w (by decide), fun w => absurd rfl w⟩, ⟨fun _ => rfl, fun _ => by decide⟩⟩
        | some k =>
          have hk := ho k rfl
          refine ⟨⟨(fun _ w => by cases w), fun _ => ?_⟩, ⟨fun w => ?_, fun w => by cases w⟩⟩
          · exact nI_le (a := 0) (b := k) (by omega) (by omega)
          · exact absurd w (nI_pos (n := k) (by omega))
      obtain ⟨o1, -⟩ := oz (a_pb m nm (a_h0 R.tail).2.2) (fun k q => by have := pb_lt q; omega)
      obtain ⟨-, o2⟩ := oz (a_db m nm (a_h0 R.tail).2.2) (fun k q => by have := db_lt q; omega)
      rw [o1]
      by_cases p1 : a_pb m nm (a_h0 R.tail).2.2 = none
      · simp only [p1, eq_self, reduceCtorEq, true_implies, false_implies, and_true, true_and, not_true_eq_false, not_false_eq_true]
        refine ne _ ?_
        rw [o2]
        by_cases p2 : a_db m nm (a_h0 R.tail).2.2 = none
        · simp only [p2, eq_self, reduceCtorEq, true_implies, false_implies, and_true, true_and, not_true_eq_false, not_false_eq_true]
          exact good ⟨p1, p2⟩
        · simp only [p2, eq_self, reduceCtorEq, true_implies, false_implies, and_true, true_and, not_true_eq_false, not_false_eq_true]
          exact bad (fun q => p2 q.2)
      · simp only [p1, eq_self, reduceCtorEq, true_implies, false_implies, and_true, true_and, not_true_eq_false, not_false_eq_true]
        exact bad (fun q => p1 q.1)
    · rw [if_neg c3] at h
      rw [decide_eq_false c3]
      simp only [eq_self, reduceCtorEq, true_implies, false_implies, and_true, true_and, not_true_eq_false, not_false_eq_true]
      refine m_amiss wt mr1 z1 (fun S' f bd => ?_)
      unfold p_X11_readNew_50
      have n1 := (bd_n bd).1
      simp only [n1, eq_self, reduceCtorEq, true_implies, false_implies, and_true, true_and, not_true_eq_false, not_false_eq_true]
      exact b84 S' _ _ bd (h S' (fr_w (fr_t F1 f) mtf_mcf) bd)
/-- between two parts -/
def a_Gm (S : vSt) (C : Nat → Nat) (n : Nat) (s : aS) (R : List aK) : Prop := a_TT S C n ∧ a_MR S C n R ∧ S.1 143 12 = 0 ∧ S.1 143 24 = nI s.2.2 ∧ a_M S 4 s.1 ∧ a_nmM S 4 s.1 s.2.1
def a_MP (C : Nat → Nat) (n : Nat) (S : vSt) (K : vSt → Prop) (res : aF ⊕ (aS × List aK)) : Prop := match res with
  | .inl e => ∀ S', a_fr a_mcf S S' → a_bad S' e → K S'
  | .inr g => ∀ S', a_fr a_mcf S S' → a_Gm S' C n g.1 g.2 → K S'
theorem M4_set {S : vSt} {m : Nat → Int32} {i j : Nat} {x : Int32} (h : a_M S 4 m) (e : i = 1520 + j) : a_M (v_si S 148 i x) 4 (a_set m j x) := by
  subst e
  intro k hk
  rw [si1, show 380 * 4 + k = 1520 + k by omega]
  unfold a_set
  by_cases e : k = j
  · rw [if_pos ⟨rfl, by omega⟩, if_pos e]
  · rw [if_neg (fun q => e (by omega)), if_neg e]
    exact h k hk
theorem tsw2 {t : aK} : a_tsw t = 2 ↔ a_is t 5 = true := by
  unfold a_tsw a_is
  constructor
  · intro h
    split at h
    · exact absurd h (by decide)
    · split at h
      · exact absurd h (by decide)
      · split at h
        · next w => exact w
        · exact absurd h (by decide)
  · intro h
    have h := of_decide_eq_true h
    rw [decide_eq_false (fun w => by omega), decide_eq_false (fun w => by omega), decide_eq_true h]
    rfl
theorem m_perh {S : vSt} {C : Nat → Nat} {n q : Nat} {R : List aK} {K : Bool → vSt → Prop} (T : a_TT S C n) (wf : a_wf R) (mr : a_MR S C n R) (z : S.1 143 12 = 0) (h0 : a_is (a_h0 R) q = false → K false S) (h1 : a_is (a_h0 R) q = true → ∀ S', a_fr a_mtf S S' → a_MR S' C n R.tail → S'.1 143 12 = 0 → K true S') : p_X11_perhaps S (a_is (a_h0 R) q) K := by
  have n1 : ¬ (0 : Int32) < 0 := by decide
  unfold p_X11_perhaps
  rw [z]
  cases c : a_is (a_h0 R) q
  · simp only [n1, eq_self, reduceCtorEq, true_implies, false_implies, and_true, true_and, not_true_eq_false, not_false_eq_true]
    exact h0 c
  · simp only [n1, eq_self, reduceCtorEq, true_implies, false_implies, and_true, true_and, not_true_eq_false, not_false_eq_true]
    exact m_adv T wf mr (is_k c).1 (fun S' f mr' => h1 c S' (fr_w f av_mtf) mr' ((f 143 12 rfl).1.trans z))
theorem m_readPerson {S : vSt} {C : Nat → Nat} {n : Nat} {s : aS} {R : List aK} {K : vSt → Prop} (G : a_Gm S C n s R) (pi : a_PI s) (wf : a_wf R) (hk : a_is (a_h0 R) 4 = true) (h : a_MP C n S K (a_rpe s R)) : p_X11_readPerson S K := by
  obtain ⟨T, mr, z, e24, M, nx⟩ := G
  obtain ⟨ok, fr, nb, ht⟩ := pi
  have h8 := ok_P8 ok
  have b64 : ∀ (S' : vSt) (e : aF) (x y w : Int32), a_bad S' e → K S' → p_X11_readPerson_64 K S' x y w := by
    intro S' e x y w bd k
    unfold p_X11_readPerson_64
    have n1 := (bd_n bd).2.1
    simp only [n1, eq_self, reduceCtorEq, true_implies, false_implies, and_true, true_and, not_true_eq_false, not_false_eq_true]
    exact k
  have b41 : ∀ (S' : vSt) (e : aF) (x y : Int32), a_bad S' e → K S' → p_X11_readPerson_41 K S' x y := by
    intro S' e x y bd k
    unfold p_X11_readPerson_41
    refine any_isSkill (fun _ => q_perh bd ?_)
    simp only [eq_self, reduceCtorEq, true_implies, false_implies, and_true, true_and, not_true_eq_false, not_false_eq_true]
    exact b64 S' e _ _ _ bd k
  have b22 : ∀ (S' : vSt) (e : aF) (x : Int32) (b : Bool), a_bad S' e → K S' → p_X11_readPerson_22 K S' x b := by
    intro S' e x b bd k
    unfold p_X11_readPerson_22
    refine q_perh bd ?_
    simp only [eq_self, reduceCtorEq, true_implies, false_implies, and_true, true_and, not_true_eq_false, not_false_eq_true]
    exact b41 S' e _ _ bd k
  unfold p_X11_readPerson
  unfold a_rpe at h
  refine m_readNew (w := 0) (N := a_P s.1) (cap := 8) ok nb M nx T wf mr z (is_k hk).1 (by omega) ((M 0 (by omega)).trans (ok_m0 ok)) h8 (by omega) (by omega) ?_
  by_cases c8 : a_P s.1 = 8
  · rw [if_pos c8] at h ⊢
    intro S' f bd
    refine any_testWord (fun r => ⟨fun _ => b22 S' _ _ _ bd (h S' f bd), fun _ => b22 S' _ _ _ bd (h S' f bd)⟩)
  · rw [if_neg c8] at h ⊢
    have hP8 : a_P s.1 < 8 := by omega
    have wt := wf_tl wf (is_k hk).1
    cases e1 : a_newn s.1 s.2.1 R.tail with
    | inl e =>
      rw [e1] at h
      intro S' f bd
      refine any_testWord (fun r => ⟨fun _ => b22 S' _ _ _ bd (h S' f bd), fun _ => b22 S' _ _ _ bd (h S' f bd)⟩)
    | inr g =>
      rw [e1] at h
      have h : a_MP C n S K (a_bi (a_opt 5 0 9999 100 g.2) (fun c => a_bi (a_opt 6 0 16 0 c.2) (fun k => .inr ((a_adp s.1 (nI c.1) (nI k.1), a_up2 s.2.1 (a_P s.1) g.1, s.2.2), k.2)))) := h
      obtain ⟨w2, v2⟩ := newn_wf wt e1
      intro S1 f1 mr1 z1 k24 k148 k150
      have e24' : S1.1 143 24 = nI s.2.2 := k24.trans e24
      have M1 : a_M S1 4 s.1 := fun j hj => (k148 _).trans (M j hj)
      have T1 := TT_mcf T f1
      -- the end
      have p64 : ∀ (S2 : vSt) (co sk : Nat) (R2 : List aK), a_fr a_mtf S1 S2 → a_MR S2 C n R2 → S2.1 143 12 = 0 → (∀ S', a_fr a_mcf S S' → a_Gm S' C n (a_adp s.1 (nI co) (nI sk), a_up2 s.2.1 (a_P s.1) g.1, s.2.2) R2 → K S') → p_X11_readPerson_64 K S2 (nI (a_P s.1)) (nI co) (nI sk) := by
        intro S2 co sk R2 f2 mr2 z2 hh
        obtain ⟨g148, g150, g24⟩ := mtf_0 f2
        unfold p_X11_readPerson_64
        rw [z2]
        simp only [Int32.le_refl, eq_self, reduceCtorEq, true_implies, false_implies, and_true, true_and, not_true_eq_false, not_false_eq_true]
        refine st_w (i := 1528) rfl (by omega) (st_w (i := 1536) rfl (by omega) ?_)
        have M2 : a_M S2 4 s.1 := fun j hj => (g148 _).trans (M1 j hj)
        have M3 := M4_set (i := 1536 + a_P s.1) (j := 16 + a_P s.1) (x := nI sk) (M4_set (i := 1528 + a_P s.1) (j := 8 + a_P s.1) (x := nI co) M2 (by omega)) (by omega)
        have e20 : Int32.toNatClampNeg 1520 = 1520 := rfl
        have v20 : vp_in 1520 1900 := vpin (n := 1520) ⟨by omega, by omega⟩
        refine ⟨v20, v20, ?_⟩
        rintro _ rfl
        rw [e20]
        have M4 := M4_set (i := 1520) (j := 0) (x := (v_si (v_si S2 148 (1528 + a_P s.1) (nI co)) 148 (1536 + a_P s.1) (nI sk)).1 148 1520 + 1) M3 (by omega)
        have e0 : (v_si (v_si S2 148 (1528 + a_P s.1) (nI co)) 148 (1536 + a_P s.1) (nI sk)).1 148 1520 = s.1 0 := by
          rw [si1, if_neg (by omega), si1, if_neg (by omega)]
          exact M2 0 (by omega)
        rw [e0] at M4 ⊢
        have fs : a_fr (fun k j => decide (k = 148 ∧ 1520 ≤ j)) S2 (v_si (v_si (v_si S2 148 (1528 + a_P s.1) (nI co)) 148 (1536 + a_P s.1) (nI sk)) 148 1520 (s.1 0 + 1)) := fr_i (fr_i (fr_i fr_r (decide_eq_true ⟨rfl, by omega⟩)) (decide_eq_true ⟨rfl, by omega⟩)) (decide_eq_true ⟨rfl, by omega⟩)
        have fm : ∀ k j, a_mcf k j = false → decide (k = 148 ∧ 1520 ≤ j) = false := by
          intro k j q
          unfold a_mcf at q
          rw [decide_eq_false_iff_not] at q ⊢
          omega
        obtain ⟨eP, eD⟩ := adp_PD (c := nI co) (s := nI sk) ok hP8
        refine hh _ (fr_t f1 (fr_t (fr_w f2 mtf_mcf) (fr_w fs fm))) ⟨TT_mcf (TT_mtf T1 f2) (fr_w fs fm), MR_fr mr2 fs (fun j _ _ => decide_eq_false (by omega)), z2, g24.trans e24', M4, ?_⟩
        unfold a_nmM
        show (∀ p, p < a_P (a_adp s.1 (nI co) (nI sk)) → _) ∧ ∀ d, d < a_D (a_adp s.1 (nI co) (nI sk)) → _
        rw [eP, eD]
        refine ⟨fun p hp => ?_, fun d hd => ?_⟩
        · show S2.2 150 (18 * 4 + p) = lN (a_up2 s.2.1 (a_P s.1) g.1 p)
          rw [g150, k150]
          unfold a_up2
          by_cases c : p = a_P s.1
          · rw [if_pos (by omega), if_pos c]
          · rw [if_neg (by omega), if_neg c]
            exact nx.1 p (by omega)
        · show S2.2 150 (18 * 4 + 8 + d) = lN (a_up2 s.2.1 (a_P s.1) g.1 (8 + d))
          rw [g150, k150]
          unfold a_up2
          rw [if_neg (by omega), if_neg (by omega)]
          exact nx.2 d hd
      -- the skill
      have p41 : ∀ (S2 : vSt) (co : Nat) (R2 : List aK), a_wf R2 → a_fr a_mtf S1 S2 → a_MR S2 C n R2 → S2.1 143 12 = 0 → a_MP C n S K (a_bi (a_opt 6 0 16 0 R2) (fun k => .inr ((a_adp s.1 (nI co) (nI k.1), a_up2 s.2.1 (a_P s.1) g.1, s.2.2), k.2))) → p_X11_readPerson_41 K S2 (nI (a_P s.1)) (nI co) := by
        intro S2 co R2 wf2 f2 mr2 z2 h4
        unfold p_X11_readPerson_41
        rw [e_isSkill (MR_c mr2) (wf_ok wf2)]
        have T2 := TT_mtf T1 f2
        unfold a_opt at h4
        refine m_perh T2 wf2 mr2 z2 (fun c => ?_) (fun c S3 f3 mr3 z3 => ?_)
        · rw [c, if_neg (by decide)] at h4
          simp only [eq_self, reduceCtorEq, true_implies, false_implies, and_true, true_and, not_true_eq_false, not_false_eq_true]
          exact p64 S2 co 0 R2 f2 mr2 z2 h4
        · rw [c, if_pos rfl] at h4
          have wt2 := wf_tl wf2 (is_k c).1
          have F3 := fr_t f2 f3
          simp only [eq_self, reduceCtorEq, true_implies, false_implies, and_true, true_and, not_true_eq_false, not_false_eq_true]
          refine m_count (lo := 0) (hi := 16) (TT_mtf T1 F3) wt2 mr3 z3 (by omega) (by omega) ?_
          cases e2 : a_nu 0 16 R2.tail with
          | inl e =>
            rw [e2] at h4
            intro S' f bd
            exact b64 S' _ _ _ _ bd (h4 S' (fr_t f1 (fr_w (fr_t F3 f) mtf_mcf)) bd)
          | inr k =>
            rw [e2] at h4
            intro S4 f4 mr4 z4
            exact p64 S4 co k.1 k.2 (fr_t F3 f4) mr4 z4 h4
      rw [e_testWord (MR_c mr1) (wf_ok w2), tsw2]
      have go : p_X11_readPerson_22 K S1 (nI (a_P s.1)) (a_is (a_h0 g.2) 5) := by
        unfold p_X11_readPerson_22
        unfold a_opt at h
        refine m_perh T1 w2 mr1 z1 (fun c => ?_) (fun c S3 f3 mr3 z3 => ?_)
        · rw [c, if_neg (by decide)] at h
          simp only [eq_self, reduceCtorEq, true_implies, false_implies, and_true, true_and, not_true_eq_false, not_false_eq_true]
          exact p41 S1 100 g.2 w2 fr_r mr1 z1 h
        · rw [c, if_pos rfl] at h
          have wt2 := wf_tl w2 (is_k c).1
          simp only [eq_self, reduceCtorEq, true_implies, false_implies, and_true, true_and, not_true_eq_false, not_false_eq_true]
          refine m_count (lo := 0) (hi := 9999) (TT_mtf T1 f3) wt2 mr3 z3 (by omega) (by omega) ?_
          cases e2 : a_nu 0 9999 g.2.tail with
          | inl e =>
            rw [e2] at h
            intro S' f bd
            exact b41 S' _ _ _ bd (h S' (fr_t f1 (fr_w (fr_t f3 f) mtf_mcf)) bd)
          | inr k =>
            rw [e2] at h
            obtain ⟨w6, -, -⟩ := nu_wf wt2 e2
            intro S4 f4 mr4 z4
            exact p41 S4 k.1 k.2 w6 (fr_t f3 f4) mr4 z4 h
      cases c : a_is (a_h0 g.2) 5
      · rw [c] at go
        simp only [eq_self, reduceCtorEq, true_implies, false_implies, and_true, true_and, not_true_eq_false, not_false_eq_true, Bool.false_eq_true]
        exact go
      · rw [c] at go
        simp only [eq_self, reduceCtorEq, true_implies, false_implies, and_true, true_and, not_true_eq_false, not_false_eq_true]
        exact go
