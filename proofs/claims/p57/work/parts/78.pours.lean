/-! pour -/
def a_cpl (f : Nat → Int64) (i j n : Nat) : Nat → Int64 := fun q => if j ≤ q ∧ q < j + n then f (i + (q - j)) else f q
/-- a run of numbers is within a tray -/
def a_run (T : aT) (t : Nat) (y z : Int32) : Bool := decide (¬ y < 0 ∧ ¬ z < 0 ∧ a_n y + a_n z ≤ a_n (T.2.1 t))
def o_pour (T : aT) (x1 x2 x3 x4 x5 : Int32) : Int32 × aT :=
  if a_in 0 3 x1 = true ∧ a_in 0 3 x3 = true then
    (if T.2.1 (a_n x1) = -1 ∨ T.2.1 (a_n x3) = -1 then (3, T)
     else if T.1 (a_n x1) = T.1 (a_n x3) then
       (if 0 ≤ x5 then
          (if a_run T (a_n x1) x2 x5 = true ∧ a_run T (a_n x3) x4 x5 = true then (0, (T.1, T.2.1, a_cpl T.2.2 (60 * a_n x1 + a_n x2) (60 * a_n x3 + a_n x4) (a_n x5))) else (4, T))
        else (6, T))
     else (11, T))
  else (1, T)
theorem nn_i {y : Int32} (h : ¬ y < 0) : ∃ i, i < 2 ^ 31 ∧ y = nI i ∧ a_n y = i := by
  have h0 : 0 ≤ y.toInt := by
    have := Int32.not_lt.mp h
    rw [Int32.le_iff_toInt_le] at this
    exact this
  have h1 := Int32.toInt_lt y
  refine ⟨y.toInt.toNat, by omega, ?_, ?_⟩
  · apply Int32.toInt_inj.mp
    rw [nI_toInt (by omega)]
    omega
  · have e : y = nI y.toInt.toNat := by
      apply Int32.toInt_inj.mp
      rw [nI_toInt (by omega)]
      omega
    have q := congrArg a_n e
    rw [a_n_nI (by omega)] at q
    exact q