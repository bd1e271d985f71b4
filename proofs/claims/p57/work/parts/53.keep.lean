/-! a change of the city -/
def a_keep (m m' : Nat → Int32) : Prop := a_ok m' ∧ a_P m' = a_P m ∧ a_D m' = a_D m ∧ ∀ j, 108 ≤ j → m' j = m j