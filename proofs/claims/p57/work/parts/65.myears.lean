/-! the model's years -/
def a_ymm (m : Nat → Int32) (K : Nat) (y : Nat → Int32) : Nat → Int32 := fun j => if j = 108 then 1 else if j = 109 then nI K else if 110 ≤ j ∧ j < 110 + 9 * K then y (j - 110) else m j
def a_myr (k j : Nat) : Bool := a_my k j || decide (k = 143 ∧ j = 25)
def a_myy (k j : Nat) : Bool := a_myr k j || decide (k = 148 ∧ 108 ≤ j ∧ j < 380)
theorem myr_w : ∀ k j, a_myy k j = false → a_myr k j = false := fun k j h => (Bool.or_eq_false_iff.mp h).1
theorem my_myr : ∀ k j, a_myr k j = false → a_my k j = false := fun k j h => (Bool.or_eq_false_iff.mp h).1
theorem myf_myr : ∀ k j, a_myr k j = false → a_myf k j = false := by
  intro k j q
  have q1 := of_decide_eq_false (Bool.or_eq_false_iff.mp q).1
  have q2 := of_decide_eq_false (Bool.or_eq_false_iff.mp q).2
  exact decide_eq_false (by omega)
def a_MYr (S : vSt) (m : Nat → Int32) (K : Int32 → vSt → Prop) (o : aF ⊕ aY) : Prop := match o with
  | .inl e => ∀ S', a_fr a_myr S S' → S'.1 143 0 = 10 → S'.1 143 10 = nI e.1 → S'.1 143 11 = nI e.2 → S'.1 143 8 = 0 → K (-1) S'
  | .inr s => ∀ S', a_fr a_myy S S' → a_M S' 0 (a_ymm m s.2.2.2.1 s.2.1) → S'.1 143 0 = 0 → S'.1 143 10 = 0 → S'.1 143 11 = -1 → S'.1 143 8 = 0 → K (nI s.2.2.2.1) S'