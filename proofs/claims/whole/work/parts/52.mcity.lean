/-! the model reads a city's text -/
def a_mtf (k j : Nat) : Bool := decide (k = 143 ∧ 12 ≤ j ∧ j ≤ 19)
def a_mcf (k j : Nat) : Bool := decide ((k = 143 ∧ 12 ≤ j ∧ j ≤ 19) ∨ (k = 143 ∧ j = 24) ∨ (k = 148 ∧ 1520 ≤ j) ∨ (k = 150 ∧ 72 ≤ j))
def a_bad (S : vSt) (e : aF) : Prop := S.1 143 12 = nI e.1 ∧ S.1 143 13 = nI e.2 ∧ 1 ≤ e.1 ∧ e.1 < 100
def a_nmM (S : vSt) (B : Nat) (m : Nat → Int32) (nm : Nat → Nat) : Prop := (∀ p, p < a_P m → S.2 150 (18 * B + p) = lN (nm p)) ∧ ∀ d, d < a_D m → S.2 150 (18 * B + 8 + d) = lN (nm (8 + d))
theorem bd_n {S : vSt} {e : aF} (h : a_bad S e) : ¬ S.1 143 12 = 0 ∧ ¬ S.1 143 12 ≤ 0 ∧ 0 < S.1 143 12 := by
  obtain ⟨a, -, b, c⟩ := h
  rw [a]
  exact ⟨fun w => by have := (nI_eq (a := e.1) (b := 0) (by omega) (by omega)).mp w; omega, nI_ge (b := e.1) (a := 0) (by omega) (by omega), nI_lt (a := 0) (by omega) (by omega)⟩
theorem bd_fr {S S' : vSt} {e : aF} {c : Nat → Nat → Bool} (h : a_bad S e) (f : a_fr c S S') (h1 : c 143 12 = false) (h2 : c 143 13 = false) : a_bad S' e := by
  obtain ⟨a, b, c, d⟩ := h
  exact ⟨(f _ _ h1).1.trans a, (f _ _ h2).1.trans b, c, d⟩
theorem mtf_mcf : ∀ k j, a_mcf k j = false → a_mtf k j = false := by
  intro k j q
  unfold a_mcf at q
  unfold a_mtf
  rw [decide_eq_false_iff_not] at q ⊢
  omega
theorem av_mtf : ∀ k j, a_mtf k j = false → a_av k j = false := by
  intro k j q
  unfold a_mtf at q
  unfold a_av
  rw [decide_eq_false_iff_not] at q ⊢
  omega
theorem TT_mtf {S S' : vSt} {C : Nat → Nat} {n : Nat} (T : a_TT S C n) (f : a_fr a_mtf S S') : a_TT S' C n := TT_fr T f rfl (fun j => decide_eq_false (by omega))
theorem TT_mcf {S S' : vSt} {C : Nat → Nat} {n : Nat} (T : a_TT S C n) (f : a_fr a_mcf S S') : a_TT S' C n := TT_fr T f rfl (fun j => decide_eq_false (by omega))
/-! in bad mode nothing goes on -/
theorem q_must {S : vSt} {e : aF} {b : Bool} {K : vSt → Prop} (h : a_bad S e) (k : K S) : p_X11_must S b K := by
  have n := (bd_n h).2.1
  unfold p_X11_must
  simp only [n, eq_self, reduceCtorEq, true_implies, false_implies, and_true, true_and, not_true_eq_false, not_false_eq_true]
  exact k
theorem q_count {S : vSt} {e : aF} {lo hi : Int32} {K : Int32 → vSt → Prop} (h : a_bad S e) (k : K 0 S) : p_X11_count S lo hi K := by
  obtain ⟨n1, n2, -⟩ := bd_n h
  unfold p_X11_count p_X11_count_19 p_X11_count_50
  simp only [n1, n2, eq_self, reduceCtorEq, true_implies, false_implies, and_true, true_and, not_true_eq_false, not_false_eq_true]
  exact k
theorem q_bw {S : vSt} {e : aF} {b : Bool} {lo hi : Int32} {K : Int32 → vSt → Prop} (h : a_bad S e) (k : K 0 S) : p_X11_behindWord S b lo hi K := by
  unfold p_X11_behindWord
  exact q_must h (q_count h k)
theorem q_perh {S : vSt} {e : aF} {b : Bool} {K : Bool → vSt → Prop} (h : a_bad S e) (k : K false S) : p_X11_perhaps S b K := by
  have n := (bd_n h).2.2
  unfold p_X11_perhaps
  simp only [n, eq_self, reduceCtorEq, true_implies, false_implies, and_true, true_and, not_true_eq_false, not_false_eq_true]
  exact k
theorem q_told {S : vSt} {e : aF} {x y : Int32} {K : Int32 → vSt → Prop} (h : a_bad S e) (k : K 0 S) : p_X11_readTold S x y K := by
  obtain ⟨n1, n2, -⟩ := bd_n h
  unfold p_X11_readTold p_X11_readTold_18 p_X11_readTold_35 p_X11_readTold_49
  simp only [n1, n2, eq_self, reduceCtorEq, true_implies, false_implies, and_true, true_and, not_true_eq_false, not_false_eq_true, Int32.le_refl]
  exact q_must h k
theorem any_isOf {S : vSt} {K : Bool → vSt → Prop} (h : ∀ b, K b S) : p_X11_isOf S K := by
  unfold p_X11_isOf
  rw [e_spelled, e_mWord]
  exact h _
theorem any_isFine {S : vSt} {K : Bool → vSt → Prop} (h : ∀ b, K b S) : p_X11_isFine S K := by
  unfold p_X11_isFine
  rw [e_spelled, e_mWord]
  exact h _
theorem any_isOdds {S : vSt} {K : Bool → vSt → Prop} (h : ∀ b, K b S) : p_X11_isOdds S K := by
  unfold p_X11_isOdds
  rw [e_spelled, e_mWord]
  exact h _
theorem any_isSkill {S : vSt} {K : Bool → vSt → Prop} (h : ∀ b, K b S) : p_X11_isSkill S K := by
  unfold p_X11_isSkill
  rw [e_spelled, e_mWord]
  exact h _
theorem any_isSign {S : vSt} {x : Int32} {K : Bool → vSt → Prop} (h : ∀ b, K b S) : p_X11_isSign S x K := by
  unfold p_X11_isSign
  exact ⟨fun _ => h _, fun _ => ⟨fun _ => h _, fun _ => h _⟩⟩
theorem any_testWord {S : vSt} {K : Int32 → vSt → Prop} (h : ∀ b, K b S) : p_X11_testWord S K := by
  unfold p_X11_testWord
  simp only [e_spelled, e_mWord]
  exact ⟨fun _ => ⟨fun _ => ⟨fun _ => h _, fun _ => h _⟩, fun _ => h _⟩, fun _ => h _⟩
/-- a cell of the scratch city is set -/
theorem st_w {S : vSt} {c : Int32} {i d : Nat} {x : Int32} {K : vSt → Prop} (hc : c = nI i) (hi : i + d < 1900) (k : K (v_si S 148 (i + d) x)) : vp_in (c + nI d) 1900 ∧ ∀ S', S' = v_si S 148 (Int32.toNatClampNeg (c + nI d)) x → K S' := by
  subst hc
  rw [nI_add, ncl (by omega)]
  exact ⟨vpin ⟨hi, by omega⟩, by rintro _ rfl; exact k⟩
theorem st_b {S0 S : vSt} {c : Int32} {i d : Nat} {x : Int32} {e : aF} {K : vSt → Prop} (bd : a_bad S e) (f : a_fr a_mcf S0 S) (hc : c = nI i) (h0 : 1520 ≤ i) (hi : i + d < 1900) (k : ∀ S', a_fr a_mcf S0 S' → a_bad S' e → K S') : vp_in (c + nI d) 1900 ∧ ∀ S', S' = v_si S 148 (Int32.toNatClampNeg (c + nI d)) x → K S' := st_w hc hi (k _ (fr_i f (decide_eq_true (Or.inr (Or.inr (Or.inl ⟨rfl, by omega⟩))))) bd)
/-! in good mode -/
theorem m_adv {S : vSt} {C : Nat → Nat} {n : Nat} {R : List aK} {K : vSt → Prop} (T : a_TT S C n) (wf : a_wf R) (mr : a_MR S C n R) (hk : (a_h0 R).1 ≠ 0) (h : ∀ S', a_fr a_av S S' → a_MR S' C n R.tail → K S') : p_X11_advance S K := by
  obtain ⟨t, R', rfl, mc, nx⟩ := mr
  obtain ⟨q, hq, e16, rfl⟩ := nx hk
  exact m_advance T hq e16 h
theorem MR_c {S : vSt} {C : Nat → Nat} {n : Nat} {R : List aK} (mr : a_MR S C n R) : a_mc S (a_h0 R) := by
  obtain ⟨t, R', rfl, mc, -⟩ := mr
  exact mc
theorem MR_fr {S S' : vSt} {C : Nat → Nat} {n : Nat} {R : List aK} {c : Nat → Nat → Bool} (mr : a_MR S C n R) (f : a_fr c S S') (hc : ∀ j, 14 ≤ j → j ≤ 19 → c 143 j = false) : a_MR S' C n R := by
  obtain ⟨t, R', rfl, ⟨c15, c14, c17, c19⟩, nx⟩ := mr
  refine ⟨t, R', rfl, ⟨?_, ?_, fun w => ?_, fun w => ?_⟩, fun w => ?_⟩
  · rw [(f 143 15 (hc _ (by omega) (by omega))).1]; exact c15
  · rw [(f 143 14 (hc _ (by omega) (by omega))).1]; exact c14
  · rw [(f 143 17 (hc _ (by omega) (by omega))).1]; exact c17 w
  · rw [(f 143 19 (hc _ (by omega) (by omega))).2, (f 143 18 (hc _ (by omega) (by omega))).1]; exact c19 w
  · rw [(f 143 16 (hc _ (by omega) (by omega))).1]; exact nx w
theorem m_fail {S : vSt} {C : Nat → Nat} {n f : Nat} {R : List aK} {K : vSt → Prop} (mr : a_MR S C n R) (z : S.1 143 12 = 0) (hf : 1 ≤ f ∧ f < 100) (h : ∀ S', a_fr a_mtf S S' → a_bad S' (f, (a_h0 R).2.1) → K S') : p_X11_fail S (nI f) (S.1 143 15) K := by
  have c := (MR_c mr).1
  unfold p_X11_fail
  rw [z, c]
  simp only [Int32.le_refl, eq_self, reduceCtorEq, true_implies, false_implies, and_true, true_and, not_true_eq_false, not_false_eq_true, forall_eq]
  refine h _ (fr_i (fr_i fr_r rfl) rfl) ⟨?_, si_at, hf.1, hf.2⟩
  rw [si1, if_neg (by omega)]
  exact si_at
theorem bl_lt {R : List aK} {f : Nat} (h : 1 ≤ f ∧ f < 100) : 1 ≤ (a_bl R f).1 ∧ (a_bl R f).1 < 100 := by
  unfold a_bl
  show 1 ≤ (if _ then _ else _) ∧ (if _ then _ else _) < 100
  split <;> omega
theorem m_amiss {S : vSt} {C : Nat → Nat} {n : Nat} {R : List aK} {K : vSt → Prop} (wf : a_wf R) (mr : a_MR S C n R) (z : S.1 143 12 = 0) (h : ∀ S', a_fr a_mtf S S' → a_bad S' (a_bl R 2) → K S') : p_X11_amiss S K := by
  have c := (MR_c mr).2.1
  have e := tkk_eq (k := 1) (m := 4) (wf_ok wf) (by omega)
  unfold p_X11_amiss p_X11_amiss_14
  rw [c, show (4 : Int32) = nI 4 from rfl, e]
  unfold a_bl at h
  by_cases k : (a_h0 R).1 = 1
  · rw [if_pos k] at h
    simp only [k, eq_self, reduceCtorEq, true_implies, false_implies, and_true, true_and, not_true_eq_false, not_false_eq_true]
    exact m_fail (f := 1) mr z (by omega) h
  · rw [if_neg k] at h
    simp only [k, eq_self, reduceCtorEq, true_implies, false_implies, and_true, true_and, not_true_eq_false, not_false_eq_true]
    exact m_fail (f := 2) mr z (by omega) h
def a_MFu (C : Nat → Nat) (n : Nat) (S : vSt) (K : vSt → Prop) (res : aF ⊕ List aK) : Prop := match res with
  | .inl e => ∀ S', a_fr a_mtf S S' → a_bad S' e → K S'
  | .inr R' => ∀ S', a_fr a_mtf S S' → a_MR S' C n R' → S'.1 143 12 = 0 → K S'
def a_MF (C : Nat → Nat) (n : Nat) (S : vSt) (K : Int32 → vSt → Prop) (res : aF ⊕ (Nat × List aK)) : Prop := match res with
  | .inl e => ∀ S', a_fr a_mtf S S' → a_bad S' e → K 0 S'
  | .inr g => ∀ S', a_fr a_mtf S S' → a_MR S' C n g.2 → S'.1 143 12 = 0 → K (nI g.1) S'
theorem m_must {S : vSt} {C : Nat → Nat} {n : Nat} {R : List aK} {b : Bool} {K : vSt → Prop} (T : a_TT S C n) (wf : a_wf R) (mr : a_MR S C n R) (z : S.1 143 12 = 0) (hb : b = true → (a_h0 R).1 ≠ 0) (h : a_MFu C n S K (a_wd b R)) : p_X11_must S b K := by
  unfold p_X11_must
  rw [z]
  unfold a_wd at h
  cases b
  · rw [if_neg (by decide)] at h
    simp only [Int32.le_refl, eq_self, reduceCtorEq, true_implies, false_implies, and_true, true_and, not_true_eq_false, not_false_eq_true]
    exact m_amiss wf mr z h
  · rw [if_pos rfl] at h
    simp only [Int32.le_refl, eq_self, reduceCtorEq, true_implies, false_implies, and_true, true_and, not_true_eq_false, not_false_eq_true]
    exact m_adv T wf mr (hb rfl) (fun S' f mr' => h S' (fr_w f av_mtf) mr' ((f 143 12 rfl).1.trans z))
theorem m_count {S : vSt} {C : Nat → Nat} {n lo hi : Nat} {R : List aK} {K : Int32 → vSt → Prop} (T : a_TT S C n) (wf : a_wf R) (mr : a_MR S C n R) (z : S.1 143 12 = 0) (h1 : lo < 2 ^ 30) (h2 : hi < 2 ^ 30) (h : a_MF C n S K (a_nu lo hi R)) : p_X11_count S (nI lo) (nI hi) K := by
  have tok := wf_ok wf
  obtain ⟨c15, c14, c17, -⟩ := MR_c mr
  have e := tkk_eq (k := 5) (m := 2) tok (by omega)
  have bad : ∀ (S' : vSt) (e : aF), a_bad S' e → K 0 S' → p_X11_count_50 (nI lo) (nI hi) K S' := by
    intro S' e bd k
    unfold p_X11_count_50
    have n1 := (bd_n bd).2.1
    simp only [n1, eq_self, reduceCtorEq, true_implies, false_implies, and_true, true_and, not_true_eq_false, not_false_eq_true]
    exact k
  unfold p_X11_count
  rw [z, c14, show (2 : Int32) = nI 2 from rfl, e]
  unfold a_nu at h
  by_cases k5 : (a_h0 R).1 = 5
  · rw [if_pos k5] at h
    have hv := tok.2.2.2.2.1 k5
    have e17 := c17 (Or.inl k5)
    simp only [k5, eq_self, reduceCtorEq, true_implies, false_implies, and_true, true_and, not_true_eq_false, not_false_eq_true]
    unfold p_X11_count_19
    rw [z, e17, e_min (lo := nI lo) (hi := nI hi) rfl rfl]
    have ei : a_in (nI lo) (nI hi) (nI (a_h0 R).2.2) = decide (lo ≤ (a_h0 R).2.2 ∧ (a_h0 R).2.2 ≤ hi) := by
      unfold a_in
      rw [decide_eq_decide, nI_leI (by omega) (by omega), nI_leI (by omega) (by omega)]
    rw [ei]
    by_cases d : lo ≤ (a_h0 R).2.2 ∧ (a_h0 R).2.2 ≤ hi
    · rw [if_pos d] at h
      rw [decide_eq_true d]
      simp only [eq_self, reduceCtorEq, true_implies, false_implies, and_true, true_and, not_true_eq_false, not_false_eq_true]
      unfold p_X11_count_50
      rw [z, e17]
      simp only [Int32.le_refl, eq_self, reduceCtorEq, true_implies, false_implies, and_true, true_and, not_true_eq_false, not_false_eq_true, forall_eq]
      exact m_adv T wf mr (by omega) (fun S' f mr' => h S' (fr_w f av_mtf) mr' ((f 143 12 rfl).1.trans z))
    · rw [if_neg d] at h
      rw [decide_eq_false d]
      simp only [eq_self, reduceCtorEq, true_implies, false_implies, and_true, true_and, not_true_eq_false, not_false_eq_true]
      exact m_fail (f := 4) mr z (by omega) (fun S' f bd => bad S' _ bd (h S' f bd))
  · rw [if_neg k5] at h
    simp only [k5, eq_self, reduceCtorEq, true_implies, false_implies, and_true, true_and, not_true_eq_false, not_false_eq_true]
    refine m_amiss wf mr z (fun S' f bd => ?_)
    unfold p_X11_count_19
    have n1 := (bd_n bd).1
    simp only [n1, eq_self, reduceCtorEq, true_implies, false_implies, and_true, true_and, not_true_eq_false, not_false_eq_true]
    exact bad S' _ bd (h S' f bd)
theorem m_bw {S : vSt} {C : Nat → Nat} {n q lo hi : Nat} {R : List aK} {K : Int32 → vSt → Prop} (T : a_TT S C n) (wf : a_wf R) (mr : a_MR S C n R) (z : S.1 143 12 = 0) (h1 : lo < 2 ^ 30) (h2 : hi < 2 ^ 30) (h : a_MF C n S K (a_wdn q lo hi R)) : p_X11_behindWord S (a_is (a_h0 R) q) (nI lo) (nI hi) K := by
  unfold p_X11_behindWord
  refine m_must T wf mr z (fun w => (is_k w).1) ?_
  unfold a_wdn at h
  cases c : a_wd (a_is (a_h0 R) q) R with
  | inl e =>
    rw [c] at h
    intro S' f bd
    exact q_count bd (h S' f bd)
  | inr R1 =>
    rw [c] at h
    have h : a_MF C n S K (a_nu lo hi R1) := h
    have wf1 := wd_wf wf (fun w => (is_k w).1) c
    intro S1 f1 mr1 z1
    refine m_count (TT_mtf T f1) wf1 mr1 z1 h1 h2 ?_
    cases d : a_nu lo hi R1 with
    | inl e =>
      rw [d] at h
      intro S' f bd
      exact h S' (fr_t f1 f) bd
    | inr g =>
      rw [d] at h
      intro S' f mr2 z2
      exact h S' (fr_t f1 f) mr2 z2
theorem m_named {S : vSt} {w N v : Nat} {f : Nat → Nat} {K : Int32 → vSt → Prop} (hw : w < 2) (hN : S.1 148 (1520 + w) = nI N) (h18 : 8 * w + N ≤ 18) (hf : ∀ p, p < N → S.2 150 (72 + 8 * w + p) = lN (f p) ∧ f p < 2 ^ 40) (hv : S.2 143 19 = lN v) (h40 : v < 2 ^ 40) (h : K (a_oi (v_first (fun p => decide (f p = v)) N)) S) : p_X11_named S 4 (nI w) K := by
  have ea : (380 : Int32) * 4 + nI w = nI (1520 + w) := by rw [show (380 : Int32) * 4 = nI 1520 from rfl, nI_add]
  have eb : ∀ i, (18 : Int32) * 4 + 8 * nI w + nI i = nI (72 + 8 * w + i) := fun i => by rw [show (18 : Int32) * 4 = nI 72 from rfl, show (8 : Int32) = nI 8 from rfl, pk_mul, nI_add, nI_add]
  unfold p_X11_named
  refine v_loop (fun fu i (z : Unit) => p_X11_named_2 4 (nI w) K fu S (nI i)) (fun i z => ∀ j, j < i → decide (f j = v) = false) N (fun fu i z hi hz hk => ?_) (fun fu z hz => ?_) () (fun j hj => absurd hj (by omega))
  · have n1 : ¬ nI N ≤ nI i := nI_ge hi (by omega)
    obtain ⟨a1, a2⟩ := hf i hi
    rw [e_X11_named_2, ea, eb, ncl (by omega), ncl (by omega), hN, a1, hv]
    refine ⟨vpin ⟨by omega, by omega⟩, ?_⟩
    simp only [n1, eq_self, reduceCtorEq, true_implies, false_implies, and_true, true_and, not_true_eq_false, not_false_eq_true]
    refine ⟨vpin ⟨by omega, by omega⟩, ?_⟩
    rw [pk_lEQ (by omega) (by omega)]
    simp only [forall_eq, nIs]
    by_cases c : f i = v
    · simp only [c, eq_self, reduceCtorEq, true_implies, false_implies, and_true, true_and, not_true_eq_false, not_false_eq_true]
      rw [first_some hz (decide_eq_true c) _ hi] at h
      exact h
    · simp only [c, eq_self, reduceCtorEq, true_implies, false_implies, and_true, true_and, not_true_eq_false, not_false_eq_true]
      refine hk () (fun j hj => ?_)
      by_cases e : j = i
      · rw [e]; exact decide_eq_false c
      · exact hz j (by omega)
  · rw [e_X11_named_2, ea, ncl (by omega), hN]
    refine ⟨vpin ⟨by omega, by omega⟩, ?_⟩
    simp only [Int32.le_refl, eq_self, reduceCtorEq, true_implies, false_implies, and_true, true_and, not_true_eq_false, not_false_eq_true]
    rw [first_none _ hz] at h
    exact h
