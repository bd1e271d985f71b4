/-! city keeps it -/
theorem in_no {L n : Nat} {x : Int32} (g : a_in 0 (nI L) x = false) (hn : n ≤ L) (hL : L ≤ 900) (e : x = nI n) : False := by
  have : a_in 0 (nI L) x = true := by rw [e]; exact decide_eq_true ⟨nI_le (a := 0) (by omega) (by omega), nI_le (by omega) (by omega)⟩
  rw [this] at g; cases g