/-! the model reads a city's text -/
def a_mtf (k j : Nat) : Bool := decide (k = 143 ∧ 12 ≤ j ∧ j ≤ 19)
def a_mcf (k j : Nat) : Bool := decide ((k = 143 ∧ 12 ≤ j ∧ j ≤ 19) ∨ (k = 143 ∧ j = 24) ∨ (k = 148 ∧ 1520 ≤ j) ∨ (k = 150 ∧ 72 ≤ j))
def a_bad (S : vSt) (e : aF) : Prop := S.1 143 12 = nI e.1 ∧ S.1 143 13 = nI e.2 ∧ 1 ≤ e.1 ∧ e.1 < 100
def a_nmM (S : vSt) (B : Nat) (m : Nat → Int32) (nm : Nat → Nat) : Prop := (∀ p, p < a_P m → S.2 150 (18 * B + p) = lN (nm p)) ∧ ∀ d, d < a_D m → S.2 150 (18 * B + 8 + d) = lN (nm (8 + d))
theorem bd_n {S : vSt} {e : aF} (h : a_bad S e) : ¬ S.1 143 12 = 0 ∧ ¬ S.1 143 12 ≤ 0 ∧ 0 < S.1 143 12 := by
  obtain ⟨a, -, b, c⟩ := h
  rw [a]
  exact ⟨fun w => by have := (nI_eq (a := e.1) (b := 0) (by omega) (by omega)).mp w; omega, nI_ge (b := e.1) (a := 0) (by omega) (by omega), nI_lt (a := 0) (by omega) (by omega)⟩
theorem bd_fr {S S' : vSt} {e : aF} {c : Nat → Nat → Bool} (h : a_bad S e) (f : a_fr c S S') (h1 : c 143 12 = false) (h2 : c 143 13 = false) : a_bad S' e := by
  obtain ⟨a, b, c, d⟩ := h
  exact ⟨(f _ _ h1).1.trans a, (f _ _ h2).1.trans b, c, d⟩
theorem mtf_mcf : ∀ k j, a_mcf k j = false → a_mtf k j = false := by
  intro k j q
  unfold a_mcf at q
  unfold a_mtf
  rw [decide_eq_false_iff_not] at q ⊢
  omega
theorem av_mtf : ∀ k j, a_mtf k j = false → a_av k j = false := by
  intro k j q
  unfold a_mtf at q
  unfold a_av
  rw [decide_eq_false_iff_not] at q ⊢
  omega
theorem TT_mtf {S S' : vSt} {C : Nat → Nat} {n : Nat} (T : a_TT S C n) (f : a_fr a_mtf S S') : a_TT S' C n := TT_fr T f rfl (fun j => decide_eq_false (by omega))
theorem TT_mcf {S S' : vSt} {C : Nat → Nat} {n : Nat} (T : a_TT S C n) (f : a_fr a_mcf S S') : a_TT S' C n := TT_fr T f rfl (fun j => decide_eq_false (by omega))
/-! in bad mode nothing goes on -/
/-- a cell of the scratch city is set -/
theorem st_w {S : vSt} {c : Int32} {i d : Nat} {x : Int32} {K : vSt → Prop} (hc : c = nI i) (hi : i + d < 1900) (k : K (v_si S 148 (i + d) x)) : vp_in (c + nI d) 1900 ∧ ∀ S', S' = v_si S 148 (Int32.toNatClampNeg (c + nI d)) x → K S' := by
  subst hc
  rw [nI_add, ncl (by omega)]
  exact ⟨vpin ⟨hi, by omega⟩, by rintro _ rfl; exact k⟩
theorem st_b {S0 S : vSt} {c : Int32} {i d : Nat} {x : Int32} {e : aF} {K : vSt → Prop} (bd : a_bad S e) (f : a_fr a_mcf S0 S) (hc : c = nI i) (h0 : 1520 ≤ i) (hi : i + d < 1900) (k : ∀ S', a_fr a_mcf S0 S' → a_bad S' e → K S') : vp_in (c + nI d) 1900 ∧ ∀ S', S' = v_si S 148 (Int32.toNatClampNeg (c + nI d)) x → K S' := st_w hc hi (k _ (fr_i f (decide_eq_true (Or.inr (Or.inr (Or.inl ⟨rfl, by omega⟩))))) bd)
/-! in good mode -/
theorem MR_c {S : vSt} {C : Nat → Nat} {n : Nat} {R : List aK} (mr : a_MR S C n R) : a_mc S (a_h0 R) := by
  obtain ⟨t, R', rfl, mc, -⟩ := mr
  exact mc
theorem MR_fr {S S' : vSt} {C : Nat → Nat} {n : Nat} {R : List aK} {c : Nat → Nat → Bool} (mr : a_MR S C n R) (f : a_fr c S S') (hc : ∀ j, 14 ≤ j → j ≤ 19 → c 143 j = false) : a_MR S' C n R := by
  obtain ⟨t, R', rfl, ⟨c15, c14, c17, c19⟩, nx⟩ := mr
  refine ⟨t, R', rfl, ⟨?_, ?_, fun w => ?_, fun w => ?_⟩, fun w => ?_⟩
  · rw [(f 143 15 (hc _ (by omega) (by omega))).1]; exact c15
  · rw [(f 143 14 (hc _ (by omega) (by omega))).1]; exact c14
  · rw [(f 143 17 (hc _ (by omega) (by omega))).1]; exact c17 w
  · rw [(f 143 19 (hc _ (by omega) (by omega))).2, (f 143 18 (hc _ (by omega) (by omega))).1]; exact c19 w
  · rw [(f 143 16 (hc _ (by omega) (by omega))).1]; exact nx w
theorem bl_lt {R : List aK} {f : Nat} (h : 1 ≤ f ∧ f < 100) : 1 ≤ (a_bl R f).1 ∧ (a_bl R f).1 < 100 := by
  unfold a_bl
  show 1 ≤ (if _ then _ else _) ∧ (if _ then _ else _) < 100
  split <;> omega
def a_MFu (C : Nat → Nat) (n : Nat) (S : vSt) (K : vSt → Prop) (res : aF ⊕ List aK) : Prop := match res with
  | .inl e => ∀ S', a_fr a_mtf S S' → a_bad S' e → K S'
  | .inr R' => ∀ S', a_fr a_mtf S S' → a_MR S' C n R' → S'.1 143 12 = 0 → K S'
def a_MF (C : Nat → Nat) (n : Nat) (S : vSt) (K : Int32 → vSt → Prop) (res : aF ⊕ (Nat × List aK)) : Prop := match res with
  | .inl e => ∀ S', a_fr a_mtf S S' → a_bad S' e → K 0 S'
  | .inr g => ∀ S', a_fr a_mtf S S' → a_MR S' C n g.2 → S'.1 143 12 = 0 → K (nI g.1) S'