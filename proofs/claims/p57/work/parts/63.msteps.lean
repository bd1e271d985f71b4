/-! the model's steps -/
def a_kd (w : Nat) : Int32 := if w = 11 then 0 else if w = 12 then 1 else if w = 14 then 2 else if w = 15 then 3 else if w = 16 then 4 else if w = 19 then 5 else 6
def a_myf (k j : Nat) : Bool := decide ((k = 143 ∧ 12 ≤ j ∧ j ≤ 19) ∨ (k = 143 ∧ (j = 24 ∨ j = 25)) ∨ (k = 148 ∧ 1520 ≤ j) ∨ (k = 150 ∧ 72 ≤ j))
theorem mcf_myf : ∀ k j, a_myf k j = false → a_mcf k j = false := by
  intro k j q
  unfold a_myf at q
  unfold a_mcf
  rw [decide_eq_false_iff_not] at q ⊢
  omega
theorem mtf_myf : ∀ k j, a_myf k j = false → a_mtf k j = false := fun k j q => mtf_mcf k j (mcf_myf k j q)
theorem blk_myf : ∀ k j, a_myf k j = false → a_blk k j = false := fun k j q => blk_mcf k j (mcf_myf k j q)
theorem CM_myf {S S' : vSt} {m : Nat → Int32} {nm : Nat → Nat} (h : a_CM S m nm) (f : a_fr a_myf S S') : a_CM S' m nm := CM_fr h f (fun j hj => decide_eq_false (by omega)) (fun j hj => decide_eq_false (by omega))
theorem TT_myf {S S' : vSt} {C : Nat → Nat} {n : Nat} (T : a_TT S C n) (f : a_fr a_myf S S') : a_TT S' C n := TT_fr T f rfl (fun j => decide_eq_false (by omega))
/-- the model between two steps -/
def a_GY (C : Nat → Nat) (n : Nat) (S : vSt) (s : aY) (R : List aK) : Prop := a_MR S C n R ∧ S.1 143 12 = 0 ∧ S.1 143 25 = nI s.2.2.2.1 ∧ a_ye S s.2.1
/-- how a step's reading goes on -/
def a_fwd (m : Nat → Int32) (nm : Nat → Nat) (C : Nat → Nat) (n : Nat) (S0 : vSt) (k : Nat) (s : aY) (R : List aK) (σ : List (Nat × Nat)) (l : Nat) (Q : vSt → Prop) : Prop := (∀ e, a_ryr m nm k s R = .inl e → ∀ S', a_fr a_myf S0 S' → a_bad S' e → Q S') ∧ ∀ k' s' R', a_ryr m nm k s R = a_ryr m nm k' s' R' → a_YI s' → a_wf R' → R'.length ≤ k' → R'.length < l → s'.2.2.2.2 = σ → ∀ S', a_fr a_myf S0 S' → a_GY C n S' s' R' → Q S'
theorem stp_c {t : aK} (ok : a_tkok t) : (t.1 = 2 ∧ a_bgs t.2.2 = true ∧ a_stp t = a_kd t.2.2) ∨ (¬ (t.1 = 2 ∧ a_bgs t.2.2 = true) ∧ a_stp t = -1) := by
  obtain ⟨k, p, v⟩ := t
  have v2 := ok.2.2.1
  by_cases h2 : k = 2
  · subst h2
    have hv : v < 22 := v2 rfl
    have cs : v = 0 ∨ v = 1 ∨ v = 2 ∨ v = 3 ∨ v = 4 ∨ v = 5 ∨ v = 6 ∨ v = 7 ∨ v = 8 ∨ v = 9 ∨ v = 10 ∨ v = 11 ∨ v = 12 ∨ v = 13 ∨ v = 14 ∨ v = 15 ∨ v = 16 ∨ v = 17 ∨ v = 18 ∨ v = 19 ∨ v = 20 ∨ v = 21 := by omega
    rcases cs with rfl | rfl | rfl | rfl | rfl | rfl | rfl | rfl | rfl | rfl | rfl | rfl | rfl | rfl | rfl | rfl | rfl | rfl | rfl | rfl | rfl | rfl <;> simp [a_is, a_stp, a_bgs, a_kd]
  · have f : ∀ q, a_is (k, p, v) q = false := fun q => decide_eq_false (fun w => h2 w.1)
    refine Or.inr ⟨fun w => h2 w.1, ?_⟩
    unfold a_stp
    simp [f]
theorem ryr_s {m : Nat → Int32} {nm : Nat → Nat} {k : Nat} {s : aY} {R : List aK} (h0 : (a_h0 R).1 ≠ 0) : a_ryr m nm (k + 1) s R = a_bi (a_yon m nm s R) (fun g => a_ryr m nm k g.1 g.2) := by
  show (if (a_h0 R).1 = 0 then (if s.2.2.2.2 = [] then (.inr s : aF ⊕ aY) else .inl (a_bl R 2)) else a_bi (a_yon m nm s R) (fun g => a_ryr m nm k g.1 g.2)) = _
  rw [if_neg h0]