/-! the run of years: who, which draw, how many steps, what came of it, whether it is over -/
abbrev aU : Type := (Nat → Int32) × Nat × Nat × (Nat → Int32) × Bool
def a_oku (m0 : Nat → Int32) (ρ : aU) : Prop := a_ok ρ.1 ∧ ρ.2.1 < 65536 ∧ ρ.2.2.1 ≤ 300 ∧ a_P ρ.1 = a_P m0 ∧ a_D ρ.1 = a_D m0 ∧ ∀ j, 108 ≤ j → ρ.1 j = m0 j
def a_UX (b N : Nat) (W : aW) (S : vSt) (ρ : aU) : Prop := a_R S b ρ.1 ∧ S.1 74 2 = nI ρ.2.1 ∧ S.1 74 1 = nI ρ.2.2.1 ∧ (∀ i, i < 5 → S.1 75 i = ρ.2.2.2.1 i) ∧ S.1 (b + 15) 6 = nI N ∧ ∀ c i, c < 5 → i < 60 → S.1 (b + 16 + c) i = W c i
def a_UM (S : vSt) (ρ : aU) : Prop := a_M S 0 ρ.1 ∧ S.1 143 26 = nI ρ.2.1 ∧ S.1 143 35 = nI ρ.2.2.1 ∧ (∀ i, i < 5 → S.1 143 (36 + i) = ρ.2.2.2.1 i) ∧ S.1 143 34 = if ρ.2.2.2.2 = true then 1 else 0
def a_uf (b k j : Nat) : Bool := a_sc b k j || decide (k = 74 ∨ k = 75 ∨ k = b + 21)
def a_um (k j : Nat) : Bool := decide ((k = 148 ∧ j < 108) ∨ (k = 143 ∧ (j = 26 ∨ (34 ≤ j ∧ j ≤ 40))))
theorem sc_uf {b : Nat} : ∀ k j, a_uf b k j = false → a_sc b k j = false := fun k j h => (Bool.or_eq_false_iff.mp h).1
theorem fx_uf {b : Nat} : ∀ k j, a_uf b k j = false → a_fx k j = false := fun k j h => by
  have := of_decide_eq_false (Bool.or_eq_false_iff.mp h).2
  exact decide_eq_false (by omega)
theorem cm_um : ∀ k j, a_um k j = false → a_cm k j = false := fun k j h => by
  have := of_decide_eq_false h
  exact decide_eq_false (by omega)
theorem fm2_um : ∀ k j, a_um k j = false → a_fm2 k j = false := fun k j h => by
  have := of_decide_eq_false h
  exact decide_eq_false (by omega)
theorem uf_t {b k j : Nat} (h : k = 74 ∨ k = 75 ∨ k = b + 21) : a_uf b k j = true := by
  unfold a_uf
  rw [decide_eq_true h, Bool.or_true]
/-- only the city changes -/
theorem UX_sc {b N : Nat} {W : aW} {S S' : vSt} {ρ : aU} {m' : Nat → Int32} (hb : b + 21 < 74) (u : a_UX b N W S ρ) (f : a_fr (a_sc b) S S') (R : a_R S' b m') : a_UX b N W S' (m', ρ.2) := by
  obtain ⟨-, u2, u3, u4, u5, u6⟩ := u
  have n : ∀ k j, k ≠ b → (k < b ∨ b + 14 < k) → a_sc b k j = false := fun k j h1 h2 => decide_eq_false (by omega)
  refine ⟨R, ?_, ?_, fun i hi => ?_, ?_, fun c i hc hi => ?_⟩
  · rw [(f _ _ (n 74 2 (by omega) (by omega))).1]; exact u2
  · rw [(f _ _ (n 74 1 (by omega) (by omega))).1]; exact u3
  · rw [(f _ _ (n 75 i (by omega) (by omega))).1]; exact u4 i hi
  · rw [(f _ _ (n (b + 15) 6 (by omega) (by omega))).1]; exact u5
  · rw [(f _ _ (n (b + 16 + c) i (by omega) (by omega))).1]; exact u6 c i hc hi
theorem UX_fx {b N : Nat} {W : aW} {S S' : vSt} {ρ : aU} {s' : Nat} (hb : b + 21 < 74) (u : a_UX b N W S ρ) (f : a_fr a_fx S S') (h : S'.1 74 2 = nI s') : a_UX b N W S' (ρ.1, s', ρ.2.2) := by
  obtain ⟨u1, u2, u3, u4, u5, u6⟩ := u
  refine ⟨R_fx u1 f (by omega), h, (f 74 1 rfl).1.trans u3, fun i hi => (f 75 i (decide_eq_false (by omega))).1.trans (u4 i hi), (f _ _ (decide_eq_false (by omega))).1.trans u5, fun c i hc hi => (f _ _ (decide_eq_false (by omega))).1.trans (u6 c i hc hi)⟩
theorem UX_75 {b N i : Nat} {W : aW} {S : vSt} {ρ : aU} {x : Int32} (hb : b + 21 < 74) (u : a_UX b N W S ρ) : a_UX b N W (v_si S 75 i x) (ρ.1, ρ.2.1, ρ.2.2.1, a_set ρ.2.2.2.1 i x, ρ.2.2.2.2) := by
  obtain ⟨u1, u2, u3, u4, u5, u6⟩ := u
  refine ⟨fun j hj => ?_, u2, u3, fun q hq => ?_, ?_, fun c q hc hq => ?_⟩
  · have h1 : (a_xr j).1 ≤ 14 := (by decide +kernel : ∀ i, i < 108 → (a_xr i).1 ≤ 14) j (a_lv_lt hj)
    rw [si1, if_neg (fun w => by omega)]
    exact u1 j hj
  · rw [si1]
    show _ = a_set ρ.2.2.2.1 i x q
    unfold a_set
    by_cases e : q = i
    · rw [if_pos ⟨rfl, e⟩, if_pos e]
    · rw [if_neg (fun w => e w.2), if_neg e]
      exact u4 q hq
  · rw [si1, if_neg (fun w => by omega)]; exact u5
  · rw [si1, if_neg (fun w => by omega)]; exact u6 c q hc hq
/-! a charge in the years -/
def o_acc (ρ : aU) (p d : Nat) : aU := if a_can ρ.1 p d = true then (a_hear ρ.1 p d (a_jr ρ.2.1 (a_c ρ.1 p d) (a_J ρ.1)).2, (a_jr ρ.2.1 (a_c ρ.1 p d) (a_J ρ.1)).1, ρ.2.2.1, (if a_out ρ.1 (a_jr ρ.2.1 (a_c ρ.1 p d) (a_J ρ.1)).2 = 1 then a_inc (a_inc ρ.2.2.2.1 1) 2 else if a_out ρ.1 (a_jr ρ.2.1 (a_c ρ.1 p d) (a_J ρ.1)).2 = 2 then a_inc (a_inc ρ.2.2.2.1 1) 3 else a_inc ρ.2.2.2.1 1), ρ.2.2.2.2) else (ρ.1, ρ.2.1, ρ.2.2.1, a_inc ρ.2.2.2.1 0, ρ.2.2.2.2)
theorem out_3 (m : Nat → Int32) (v : Nat) : a_out m v = 0 ∨ a_out m v = 1 ∨ a_out m v = 2 := by
  unfold a_out
  split
  · omega
  · split <;> omega