/-! mean -/
def a_nsm (v : Nat → Nat) : Nat → Nat
  | 0 => 0
  | n + 1 => a_nsm v n + v n
theorem nsm_lt {v : Nat → Nat} {c : Nat} (hv : ∀ q, q < c → v q ≤ 99999) : ∀ n, n ≤ c → a_nsm v n ≤ n * 99999
  | 0, _ => Nat.zero_le _
  | n + 1, h => by
    have := nsm_lt hv n (by omega)
    have := hv n (by omega)
    show a_nsm v n + v n ≤ (n + 1) * 99999
    omega
/-- the range of mean's numbers -/
def a_mnr (x z : Int32) : Bool := a_in 1 20 z && a_in 0 (10000 - z) x
theorem mnr_t {x z : Int32} (h : a_mnr x z = true) : ∃ s c, x = nI s ∧ z = nI c ∧ 1 ≤ c ∧ c ≤ 20 ∧ s + c ≤ 10000 := by
  have h := (Bool.and_eq_true _ _).mp h
  obtain ⟨c, hc, rfl, -⟩ := a_in_t (x := z) (n := 20) rfl (by omega) (by
    have := of_decide_eq_true h.1
    exact decide_eq_true ⟨Int32.le_trans (by decide) this.1, this.2⟩)
  have h1 := of_decide_eq_true h.1
  have c1 : 1 ≤ c := (nI_leI (a := 1) (by omega) (by omega)).mp h1.1
  have e : (10000 : Int32) - nI c = nI (10000 - c) := by rw [show (10000 : Int32) = nI 10000 from rfl, pk_sub (by omega)]
  have h2 := h.2
  rw [e] at h2
  obtain ⟨s, hs, rfl, -⟩ := a_in_t (x := x) (n := 10000 - c) rfl (by omega) h2
  exact ⟨s, c, rfl, rfl, c1, hc, by omega⟩
theorem mnr_x {A B : Prop} {x z : Int32} : ((x < 0 → A) ∧ (¬ x < 0 → ((9999 < x → A) ∧ (¬ 9999 < x → ((z < 1 → A) ∧ (¬ z < 1 → ((20 < z → A) ∧ (¬ 20 < z → (((x + z) - 1 ≤ 9999 → B) ∧ (¬ (x + z) - 1 ≤ 9999 → A)))))))))) = (if a_mnr x z = true then B else A) := by
  by_cases g1 : a_in 0 9999 x = true
  · obtain ⟨s, hs, rfl, -⟩ := a_in_t (n := 9999) rfl (by omega) g1
    have n1 : ¬ nI s < 0 := nI_pos (by omega)
    have n2 : ¬ 9999 < nI s := nI_nlt (a := 9999) (by omega) (by omega)
    by_cases g2 : a_in 1 20 z = true
    · have q := of_decide_eq_true g2
      obtain ⟨c, hc, rfl, -⟩ := a_in_t (x := z) (n := 20) rfl (by omega) (decide_eq_true ⟨Int32.le_trans (by decide) q.1, q.2⟩)
      have n3 : ¬ nI c < 1 := Int32.not_lt.mpr q.1
      have n4 : ¬ 20 < nI c := Int32.not_lt.mpr q.2
      have c1 : 1 ≤ c := (nI_leI (a := 1) (by omega) (by omega)).mp q.1
      have e1 : nI s + nI c - 1 = nI (s + c - 1) := by rw [nI_add, show (1 : Int32) = nI 1 from rfl, pk_sub (by omega)]
      have e : (10000 : Int32) - nI c = nI (10000 - c) := by rw [show (10000 : Int32) = nI 10000 from rfl, pk_sub (by omega)]
      have e2 : nI (s + c - 1) ≤ 9999 ↔ s + c ≤ 10000 := (nI_leI (b := 9999) (by omega) (by omega)).trans (by omega)
      have e3 : a_mnr (nI s) (nI c) = decide (s + c ≤ 10000) := by
        unfold a_mnr
        rw [g2, Bool.true_and, e]
        unfold a_in
        rw [decide_eq_decide, nI_leI (by omega) (by omega)]
        have : (0 : Int32) ≤ nI s := nI_le (a := 0) (by omega) (by omega)
        constructor
        · intro w; omega
        · intro w; exact ⟨this, by omega⟩
      rw [e1, e2, e3]
      by_cases d : s + c ≤ 10000
      · rw [decide_eq_true d, if_pos rfl]
        simp only [n1, n2, n3, n4, d, eq_self, reduceCtorEq, true_implies, false_implies, and_true, true_and, not_true_eq_false, not_false_eq_true]
      · rw [decide_eq_false d, if_neg (by decide)]
        simp only [n1, n2, n3, n4, d, eq_self, reduceCtorEq, true_implies, false_implies, and_true, true_and, not_true_eq_false, not_false_eq_true]
    · have e3 : a_mnr (nI s) z = false := by
        unfold a_mnr
        rw [Bool.not_eq_true] at g2
        rw [g2, Bool.false_and]
      rw [e3, if_neg (by decide)]
      simp only [n1, n2, eq_self, reduceCtorEq, true_implies, false_implies, and_true, true_and, not_true_eq_false, not_false_eq_true]
      rw [Bool.not_eq_true] at g2
      have q := of_decide_eq_false g2
      refine propext ⟨fun w => ?_, fun a => ⟨fun _ => a, fun w3 => ⟨fun _ => a, fun w4 => absurd ⟨Int32.not_lt.mp w3, Int32.not_lt.mp w4⟩ q⟩⟩⟩
      by_cases w3 : z < 1
      · exact w.1 w3
      · by_cases w4 : 20 < z
        · exact (w.2 w3).1 w4
        · exact absurd ⟨Int32.not_lt.mp w3, Int32.not_lt.mp w4⟩ q
  · have e3 : a_mnr x z = false := by
      cases w : a_mnr x z
      · rfl
      · obtain ⟨s, c, rfl, rfl, h1, h2, h3⟩ := mnr_t w
        exact absurd (decide_eq_true ⟨nI_le (a := 0) (by omega) (by omega), nI_le (b := 9999) (by omega) (by omega)⟩) g1
    rw [e3, if_neg (by decide)]
    rw [Bool.not_eq_true] at g1
    have q := of_decide_eq_false g1
    refine propext ⟨fun w => ?_, fun a => ⟨fun _ => a, fun w1 => ⟨fun _ => a, fun w2 => absurd ⟨Int32.not_lt.mp w1, Int32.not_lt.mp w2⟩ q⟩⟩⟩
    by_cases w1 : x < 0
    · exact w.1 w1
    · by_cases w2 : 9999 < x
      · exact (w.2 w1).1 w2
      · exact absurd ⟨Int32.not_lt.mp w1, Int32.not_lt.mp w2⟩ q
def o_mean (there : Bool) (x z : Int32) (v : Nat → Nat) : Bool × Int32 × Option (Int64 × Int64) := if a_mnr x z = true then (if there = true then (true, 0, a_frac (a_nsm v (a_n z) : Nat) (a_n z)) else (false, 8, none)) else (false, 5, none)
def a_smc (k j : Nat) : Bool := a_sm k j || decide (k = 148 ∧ j < 108)
theorem um_smc : ∀ k j, a_smc k j = false → a_um k j = false := fun k j w => by
  have w1 := of_decide_eq_false (Bool.or_eq_false_iff.mp w).1
  have w2 := of_decide_eq_false (Bool.or_eq_false_iff.mp w).2
  exact decide_eq_false (by omega)
def a_smd (k j : Nat) : Bool := a_smm k j || decide (k = 148 ∧ j < 108)
def a_MKc {α : Type} (S : vSt) (m : Nat → Int32) (Q : α → vSt → Prop) (o : α × Int32 × Option (Int64 × Int64)) : Prop := ∀ S', a_fr a_smd S S' → a_M S' 0 m → S'.1 143 0 = o.2.1 → S'.2 143 2 = a_ft o.2.2 (S.2 143 2) → S'.2 143 3 = a_fb o.2.2 (S.2 143 3) → Q o.1 S'
theorem MKc_MK {α : Type} {S : vSt} {m : Nat → Int32} {Q : α → vSt → Prop} {o : α × Int32 × Option (Int64 × Int64)} (M : a_M S 0 m) (h : a_MKc S m Q o) : a_MK S Q o := fun S' f e1 e2 e3 => h S' (fr_w f (fun k j w => (Bool.or_eq_false_iff.mp w).1)) (M_fr M f (fun j => by simp [a_smm, a_sm])) e1 e2 e3
theorem smc_smd : ∀ k j, a_smd k j = false → a_smc k j = false := fun k j w => Bool.or_eq_false_iff.mpr ⟨sm_w k j (Bool.or_eq_false_iff.mp w).1, (Bool.or_eq_false_iff.mp w).2⟩