/-! the model reads a step's rest -/
def a_ye (S : vSt) (y : Nat → Int32) : Prop := ∀ j, j < 270 → S.1 148 (1630 + j) = y j
theorem ye_set {S : vSt} {y : Nat → Int32} {i j : Nat} {x : Int32} (h : a_ye S y) (e : i = 1630 + j) : a_ye (v_si S 148 i x) (a_set y j x) := by
  subst e
  intro k hk
  rw [si1]
  unfold a_set
  by_cases e : k = j
  · rw [if_pos ⟨rfl, by omega⟩, if_pos e]
  · rw [if_neg (fun q => e (by omega)), if_neg e]
    exact h k hk
theorem ye_mtf {S S' : vSt} {y : Nat → Int32} (h : a_ye S y) (f : a_fr a_mtf S S') : a_ye S' y := fun j hj => ((mtf_0 f).1 _).trans (h j hj)
/-- the city that the model's names are of -/
def a_CM (S : vSt) (m : Nat → Int32) (nm : Nat → Nat) : Prop := a_ok m ∧ a_nmb m nm ∧ a_M S 0 m ∧ a_nmM S 0 m nm
theorem CM_fr {S S' : vSt} {m : Nat → Int32} {nm : Nat → Nat} {c : Nat → Nat → Bool} (h : a_CM S m nm) (f : a_fr c S S') (h1 : ∀ j, j < 380 → c 148 j = false) (h2 : ∀ j, j < 18 → c 150 j = false) : a_CM S' m nm := by
  obtain ⟨ok, nb, M, nx⟩ := h
  have h8 := ok_P8 ok
  have h10 := ok_D10 ok
  refine ⟨ok, nb, fun j hj => ?_, fun p hp => ?_, fun d hd => ?_⟩
  · rw [(f 148 _ (h1 _ (by omega))).1]; exact M j hj
  · rw [(f 150 _ (h2 _ (by omega))).2]; exact nx.1 p hp
  · rw [(f 150 _ (h2 _ (by omega))).2]; exact nx.2 d hd
theorem CM_mcf {S S' : vSt} {m : Nat → Int32} {nm : Nat → Nat} (h : a_CM S m nm) (f : a_fr a_mcf S S') : a_CM S' m nm := CM_fr h f (fun j hj => decide_eq_false (by omega)) (fun j hj => decide_eq_false (by omega))
theorem CM_mtf {S S' : vSt} {m : Nat → Int32} {nm : Nat → Nat} (h : a_CM S m nm) (f : a_fr a_mtf S S') : a_CM S' m nm := CM_mcf h (fr_w f mtf_mcf)
theorem m_named0 {S : vSt} {w N v : Nat} {f : Nat → Nat} {K : Int32 → vSt → Prop} (hw : w < 2) (hN : S.1 148 w = nI N) (h18 : 8 * w + N ≤ 18) (hf : ∀ p, p < N → S.2 150 (8 * w + p) = lN (f p) ∧ f p < 2 ^ 40) (hv : S.2 143 19 = lN v) (h40 : v < 2 ^ 40) (h : K (a_oi (v_first (fun p => decide (f p = v)) N)) S) : p_X11_named S 0 (nI w) K := by
  have ea : (380 : Int32) * 0 + nI w = nI w := by rw [show (380 : Int32) * 0 = nI 0 from rfl, nI_add, Nat.zero_add]
  have eb : ∀ i, (18 : Int32) * 0 + 8 * nI w + nI i = nI (8 * w + i) := fun i => by rw [show (18 : Int32) * 0 = nI 0 from rfl, show (8 : Int32) = nI 8 from rfl, pk_mul, nI_add, nI_add, Nat.zero_add]
  unfold p_X11_named
  refine v_loop (fun fu i (z : Unit) => p_X11_named_2 0 (nI w) K fu S (nI i)) (fun i z => ∀ j, j < i → decide (f j = v) = false) N (fun fu i z hi hz hk => ?_) (fun fu z hz => ?_) () (fun j hj => absurd hj (by omega))
  · have n1 : ¬ nI N ≤ nI i := nI_ge hi (by omega)
    obtain ⟨a1, a2⟩ := hf i hi
    rw [e_X11_named_2, ea, eb, ncl (by omega), ncl (by omega), hN, a1, hv]
    refine ⟨vpin ⟨by omega, by omega⟩, ?_⟩
    simp only [n1, eq_self, reduceCtorEq, true_implies, false_implies, and_true, true_and, not_true_eq_false, not_false_eq_true]
    refine ⟨vpin ⟨by omega, by omega⟩, ?_⟩
    rw [pk_lEQ (by omega) (by omega)]
    simp only [forall_eq, nIs]
    by_cases c : f i = v
    · simp only [c, eq_self, reduceCtorEq, true_implies, false_implies, and_true, true_and, not_true_eq_false, not_false_eq_true]
      rw [first_some hz (decide_eq_true c) _ hi] at h
      exact h
    · simp only [c, eq_self, reduceCtorEq, true_implies, false_implies, and_true, true_and, not_true_eq_false, not_false_eq_true]
      refine hk () (fun j hj => ?_)
      by_cases e : j = i
      · rw [e]; exact decide_eq_false c
      · exact hz j (by omega)
  · rw [e_X11_named_2, ea, ncl (by omega), hN]
    refine ⟨vpin ⟨by omega, by omega⟩, ?_⟩
    simp only [Int32.le_refl, eq_self, reduceCtorEq, true_implies, false_implies, and_true, true_and, not_true_eq_false, not_false_eq_true]
    rw [first_none _ hz] at h
    exact h
theorem m_told0 {S : vSt} {C : Nat → Nat} {n w N : Nat} {f : Nat → Nat} {R : List aK} {K : Int32 → vSt → Prop} (hw : w < 2) (hN : S.1 148 w = nI N) (h18 : 8 * w + N ≤ 18) (h10 : N ≤ 10) (hf : ∀ p, p < N → S.2 150 (8 * w + p) = lN (f p) ∧ f p < 2 ^ 40) (T : a_TT S C n) (wf : a_wf R) (mr : a_MR S C n R) (z : S.1 143 12 = 0) (h : a_MF C n S K (a_onm (v_first (fun p => decide (f p = (a_h0 R).2.2)) N) R)) : p_X11_readTold S 0 (nI w) K := by
  have tok := wf_ok wf
  have mc := MR_c mr
  have b49 : ∀ (S' : vSt) (e : aF) (x : Int32), a_bad S' e → (x = 0 ∨ x = -1) → K 0 S' → p_X11_readTold_49 0 (nI w) K S' x := by
    intro S' e x bd hx k
    unfold p_X11_readTold_49
    refine q_must bd ?_
    rcases hx with rfl | rfl
    · exact k
    · exact k
  unfold p_X11_readTold
  rw [z, e_isName mc tok]
  unfold a_onm at h
  by_cases c3 : (a_h0 R).1 = 3
  · rw [if_pos c3] at h
    rw [decide_eq_true c3]
    simp only [eq_self, reduceCtorEq, true_implies, false_implies, and_true, true_and, not_true_eq_false, not_false_eq_true]
    have hv := (tok.2.2.2.1 c3).1
    have e19 : S.2 143 19 = lN (a_h0 R).2.2 := by
      rw [(mc.2.2.2 (Or.inr (Or.inl c3))).1]
      unfold a_wv
      rw [if_neg (by omega), if_pos c3]
    unfold p_X11_readTold_18
    rw [z]
    simp only [Int32.le_refl, eq_self, reduceCtorEq, true_implies, false_implies, and_true, true_and, not_true_eq_false, not_false_eq_true]
    refine m_named0 (N := N) (f := f) hw hN h18 hf e19 hv ?_
    show p_X11_readTold_35 0 (nI w) K S (a_oi (v_first (fun p => decide (f p = (a_h0 R).2.2)) N))
    unfold p_X11_readTold_35
    cases q : v_first (fun p => decide (f p = (a_h0 R).2.2)) N with
    | none =>
      rw [q] at h
      have n1 : ¬ (0 : Int32) ≤ -1 := by decide
      show (0 ≤ (-1 : Int32) → _) ∧ (¬ 0 ≤ (-1 : Int32) → _)
      simp only [n1, eq_self, reduceCtorEq, true_implies, false_implies, and_true, true_and, not_true_eq_false, not_false_eq_true]
      exact m_fail (f := 3) mr z (by omega) (fun S' f bd => b49 S' _ _ bd (Or.inr rfl) (h S' f bd))
    | some p =>
      rw [q] at h
      have hp := first_lt _ _ q
      have n1 : 0 ≤ nI p := nI_le (a := 0) (by omega) (by omega)
      show (0 ≤ nI p → _) ∧ (¬ 0 ≤ nI p → _)
      simp only [n1, eq_self, reduceCtorEq, true_implies, false_implies, and_true, true_and, not_true_eq_false, not_false_eq_true]
      unfold p_X11_readTold_49
      refine m_must T wf mr z (fun _ => by omega) ?_
      have em : v_maxi 0 (nI p) = nI p := (by decide +kernel : ∀ p, p < 10 → v_maxi 0 (nI p) = nI p) p (by omega)
      show a_MFu C n S (fun S10 => K (v_maxi 0 (nI p)) S10) (a_wd true R)
      rw [em]
      exact h
  · rw [if_neg c3] at h
    rw [decide_eq_false c3]
    simp only [eq_self, reduceCtorEq, true_implies, false_implies, and_true, true_and, not_true_eq_false, not_false_eq_true]
    refine m_amiss wf mr z (fun S' f bd => ?_)
    obtain ⟨n1, n2, -⟩ := bd_n bd
    unfold p_X11_readTold_18 p_X11_readTold_35
    simp only [n2, Int32.le_refl, eq_self, reduceCtorEq, true_implies, false_implies, and_true, true_and, not_true_eq_false, not_false_eq_true]
    exact b49 S' _ _ bd (Or.inl rfl) (h S' f bd)
theorem m_toldP {S : vSt} {C : Nat → Nat} {n : Nat} {R : List aK} {m : Nat → Int32} {nm : Nat → Nat} {K : Int32 → vSt → Prop} (cm : a_CM S m nm) (T : a_TT S C n) (wf : a_wf R) (mr : a_MR S C n R) (z : S.1 143 12 = 0) (h : a_MF C n S K (a_own2 m nm R)) : p_X11_readTold S 0 0 K := by
  obtain ⟨ok, nb, M, nx⟩ := cm
  have h8 := ok_P8 ok
  exact m_told0 (w := 0) (N := a_P m) (f := nm) (by omega) ((M_0 M (by omega)).trans (ok_m0 ok)) (by omega) (by omega) (fun p hp => ⟨by have := nx.1 p hp; exact this, nb.1 p hp⟩) T wf mr z h
theorem m_toldD {S : vSt} {C : Nat → Nat} {n : Nat} {R : List aK} {m : Nat → Int32} {nm : Nat → Nat} {K : Int32 → vSt → Prop} (cm : a_CM S m nm) (T : a_TT S C n) (wf : a_wf R) (mr : a_MR S C n R) (z : S.1 143 12 = 0) (h : a_MF C n S K (a_own3 m nm R)) : p_X11_readTold S 0 1 K := by
  obtain ⟨ok, nb, M, nx⟩ := cm
  have h10 := ok_D10 ok
  exact m_told0 (w := 1) (N := a_D m) (f := fun d => nm (8 + d)) (by omega) ((M_0 M (by omega)).trans (ok_m1 ok)) (by omega) (by omega) (fun p hp => ⟨by have := nx.2 p hp; exact this, nb.2 p hp⟩) T wf mr z h
/-! in bad mode -/
theorem q_110 {S0 S : vSt} {A : Nat} {e : aF} {x : Int32} {Q : vSt → Prop} (bd : a_bad S e) (f : a_fr a_mcf S0 S) (h0 : 1520 ≤ A) (hA : A + 8 < 1900) (h : ∀ S', a_fr a_mcf S0 S' → a_bad S' e → Q S') : p_X11_readRest_110 (nI A) Q S x := by
  unfold p_X11_readRest_110
  refine ⟨fun _ => h S f bd, fun _ => q_count bd ?_⟩
  exact st_b (i := A) (d := 3) bd f rfl h0 (by omega) (fun S' f' bd' => h S' f' bd')
theorem q_85 {S0 S : vSt} {A : Nat} {e : aF} {x : Int32} {Q : vSt → Prop} (bd : a_bad S e) (f : a_fr a_mcf S0 S) (h0 : 1520 ≤ A) (hA : A + 8 < 1900) (h : ∀ S', a_fr a_mcf S0 S' → a_bad S' e → Q S') : p_X11_readRest_85 (nI A) Q S x := by
  unfold p_X11_readRest_85
  refine ⟨fun _ => q_110 bd f h0 hA h, fun _ => ?_⟩
  have any : ∀ (K : Bool → vSt → Prop), (∀ b, K b S) → p_X11_isFor S K := by
    intro K h
    unfold p_X11_isFor
    rw [e_spelled, e_mWord]
    exact h _
  refine any _ (fun b => q_bw bd ?_)
  exact st_b (i := A) (d := 3) bd f rfl h0 (by omega) (fun S' f' bd' => q_110 bd' f' h0 hA h)
theorem q_71 {S0 S : vSt} {A : Nat} {e : aF} {x : Int32} {Q : vSt → Prop} (bd : a_bad S e) (f : a_fr a_mcf S0 S) (h0 : 1520 ≤ A) (hA : A + 8 < 1900) (h : ∀ S', a_fr a_mcf S0 S' → a_bad S' e → Q S') : p_X11_readRest_71 (nI A) Q S x := by
  unfold p_X11_readRest_71
  exact q_told bd (st_b (i := A) (d := 2) bd f rfl h0 (by omega) (fun S' f' bd' => q_85 bd' f' h0 hA h))
theorem q_62 {S0 S : vSt} {A : Nat} {e : aF} {x : Int32} {Q : vSt → Prop} (bd : a_bad S e) (f : a_fr a_mcf S0 S) (h0 : 1520 ≤ A) (hA : A + 8 < 1900) (h : ∀ S', a_fr a_mcf S0 S' → a_bad S' e → Q S') : p_X11_readRest_62 (nI A) Q S x := by
  unfold p_X11_readRest_62
  exact ⟨fun _ => q_71 bd f h0 hA h, fun _ => ⟨fun _ => q_85 bd f h0 hA h, fun _ => q_71 bd f h0 hA h⟩⟩
/-! in good mode -/
def a_MH (C : Nat → Nat) (n : Nat) (S : vSt) (Q : vSt → Prop) (y : aL → Nat → Int32) (res : aF ⊕ (aL × List aK)) : Prop := match res with
  | .inl e => ∀ S', a_fr a_mcf S S' → a_bad S' e → Q S'
  | .inr g => ∀ S', a_fr a_mcf S S' → a_MR S' C n g.2 → S'.1 143 12 = 0 → a_ye S' (y g.1) → Q S'
/-- a cell of a step is set -/
theorem st_y {S : vSt} {A j : Nat} {C : Nat → Nat} {n : Nat} {x : Int32} {R : List aK} {y : Nat → Int32} {Q : vSt → Prop} (A0 : A = 1630 + j) (hj : j + 8 < 270) (d : Nat) (hd : d ≤ 8) (T : a_TT S C n) (mr : a_MR S C n R) (z : S.1 143 12 = 0) (ye : a_ye S y) (h : ∀ S', a_fr a_blk S S' → a_TT S' C n → a_MR S' C n R → S'.1 143 12 = 0 → a_ye S' (a_set y (j + d) x) → Q S') : vp_in (nI A + nI d) 1900 ∧ ∀ S', S' = v_si S 148 (Int32.toNatClampNeg (nI A + nI d)) x → Q S' := by
  subst A0
  have fs : a_fr a_blk S (v_si S 148 (1630 + j + d) x) := fr_i fr_r (decide_eq_true ⟨rfl, by omega⟩)
  exact st_w (i := 1630 + j) rfl (by omega) (h _ fs (TT_mcf T (fr_w fs blk_mcf)) (MR_fr mr fs (fun j _ _ => decide_eq_false (by omega))) z (ye_set ye (by omega)))
