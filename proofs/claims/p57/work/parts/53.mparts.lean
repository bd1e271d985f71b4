/-! the model's parts of a city -/
def a_MN (C : Nat → Nat) (n : Nat) (S : vSt) (k N : Nat) (K : Int32 → vSt → Prop) (res : aF ⊕ (Nat × List aK)) : Prop := match res with
  | .inl e => ∀ S', a_fr a_mcf S S' → a_bad S' e → K (nI 0) S'
  | .inr g => ∀ S', a_fr a_mcf S S' → a_MR S' C n g.2 → S'.1 143 12 = 0 → S'.1 143 24 = S.1 143 24 → (∀ j, S'.1 148 j = S.1 148 j) → (∀ j, S'.2 150 j = if j = k then lN g.1 else S.2 150 j) → K (nI N) S'
theorem mtf_0 {S S' : vSt} (f : a_fr a_mtf S S') : (∀ j, S'.1 148 j = S.1 148 j) ∧ (∀ j, S'.2 150 j = S.2 150 j) ∧ S'.1 143 24 = S.1 143 24 := ⟨fun j => (f 148 j (decide_eq_false (by omega))).1, fun j => (f 150 j (decide_eq_false (by omega))).2, (f 143 24 rfl).1⟩
/-- between two parts -/
def a_Gm (S : vSt) (C : Nat → Nat) (n : Nat) (s : aS) (R : List aK) : Prop := a_TT S C n ∧ a_MR S C n R ∧ S.1 143 12 = 0 ∧ S.1 143 24 = nI s.2.2 ∧ a_M S 4 s.1 ∧ a_nmM S 4 s.1 s.2.1
def a_MP (C : Nat → Nat) (n : Nat) (S : vSt) (K : vSt → Prop) (res : aF ⊕ (aS × List aK)) : Prop := match res with
  | .inl e => ∀ S', a_fr a_mcf S S' → a_bad S' e → K S'
  | .inr g => ∀ S', a_fr a_mcf S S' → a_Gm S' C n g.1 g.2 → K S'
theorem M4_set {S : vSt} {m : Nat → Int32} {i j : Nat} {x : Int32} (h : a_M S 4 m) (e : i = 1520 + j) : a_M (v_si S 148 i x) 4 (a_set m j x) := by
  subst e
  intro k hk
  rw [si1, show 380 * 4 + k = 1520 + k by omega]
  unfold a_set
  by_cases e : k = j
  · rw [if_pos ⟨rfl, by omega⟩, if_pos e]
  · rw [if_neg (fun q => e (by omega)), if_neg e]
    exact h k hk
theorem tsw2 {t : aK} : a_tsw t = 2 ↔ a_is t 5 = true := by
  unfold a_tsw a_is
  constructor
  · intro h
    split at h
    · exact absurd h (by decide)
    · split at h
      · exact absurd h (by decide)
      · split at h
        · next w => exact w
        · exact absurd h (by decide)
  · intro h
    have h := of_decide_eq_true h
    rw [decide_eq_false (fun w => by omega), decide_eq_false (fun w => by omega), decide_eq_true h]
    rfl