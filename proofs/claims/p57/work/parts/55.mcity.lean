/-! blocks of the model -/
def a_cpf (B k j : Nat) : Bool := decide ((k = 148 ∧ 380 * B ≤ j ∧ j < 380 * B + 380) ∨ (k = 150 ∧ 18 * B ≤ j ∧ j < 18 * B + 18))
/-! the model's city -/
def a_my (k j : Nat) : Bool := decide ((k = 143 ∧ (j ≤ 1 ∨ (8 ≤ j ∧ j ≤ 19) ∨ j = 24)) ∨ (k = 148 ∧ 1520 ≤ j) ∨ (k = 150 ∧ 72 ≤ j))
def a_myc (k j : Nat) : Bool := a_my k j || decide ((k = 148 ∧ j < 380) ∨ (k = 150 ∧ j < 18))
theorem my_w : ∀ k j, a_myc k j = false → a_my k j = false := fun k j h => (Bool.or_eq_false_iff.mp h).1
theorem mcf_my : ∀ k j, a_my k j = false → a_mcf k j = false := by
  intro k j q
  unfold a_my at q
  unfold a_mcf
  rw [decide_eq_false_iff_not] at q ⊢
  omega
theorem av_my : ∀ k j, a_my k j = false → a_av k j = false := fun k j q => av_mtf k j (mtf_mcf k j (mcf_my k j q))
theorem cp4_my : ∀ k j, a_my k j = false → a_cpf 4 k j = false := by
  intro k j q
  unfold a_my at q
  unfold a_cpf
  rw [decide_eq_false_iff_not] at q ⊢
  omega
theorem cp0_myc : ∀ k j, a_myc k j = false → a_cpf 0 k j = false := by
  intro k j q
  unfold a_myc at q
  have q := of_decide_eq_false (Bool.or_eq_false_iff.mp q).2
  exact decide_eq_false (by omega)
def a_MCy (S : vSt) (K : Int32 → vSt → Prop) (o : aF ⊕ aS) : Prop := match o with
  | .inl e => ∀ S', a_fr a_my S S' → S'.1 143 0 = 10 → S'.1 143 10 = nI e.1 → S'.1 143 11 = nI e.2 → S'.1 143 8 = 0 → K (-1) S'
  | .inr s => ∀ S', a_fr a_myc S S' → a_M S' 0 s.1 → a_nmM S' 0 s.1 s.2.1 → S'.1 143 0 = 0 → S'.1 143 10 = 0 → S'.1 143 11 = -1 → S'.1 143 8 = 0 → K (nI (a_D s.1)) S'