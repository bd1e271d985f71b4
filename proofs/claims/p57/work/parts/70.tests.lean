/-! tests -/
def o_so (m : Nat → Int32) (g : aL) : Bool := if g.2.1 = 17 then decide (m (78 + a_n g.1) = 0) else if g.2.1 = 18 then decide (m (8 + a_n g.1) < 0) else if g.2.1 = 60 then decide (¬ g.2.2 ≤ m (8 + a_n g.1)) else if g.2.1 = 62 then decide (¬ m (8 + a_n g.1) ≤ g.2.2) else decide (m (8 + a_n g.1) = g.2.2)
/-! one step of the class's run -/