/-! the model's tokens, one by one -/
def a_wv (t : aK) : Int64 := if t.1 = 2 then lN (a_kc t.2.2) else if t.1 = 3 then lN t.2.2 else -1
def a_tkk (k : Nat) : Nat := if k = 0 then 0 else if k = 1 then 4 else if k = 5 then 2 else if k = 6 then 3 else 1
def a_mc (S : vSt) (t : aK) : Prop := S.1 143 15 = nI t.2.1 ∧ S.1 143 14 = nI (a_tkk t.1) ∧ ((t.1 = 5 ∨ t.1 = 6) → S.1 143 17 = nI t.2.2) ∧ ((t.1 = 2 ∨ t.1 = 3 ∨ t.1 = 4) → S.2 143 19 = a_wv t ∧ (8 < S.1 143 18 ↔ t.1 = 4))
def a_av (k j : Nat) : Bool := decide (k = 143 ∧ 14 ≤ j ∧ j ≤ 19)
/-- the text of the model: n bytes, told by C -/
def a_TT (S : vSt) (C : Nat → Nat) (n : Nat) : Prop := n ≤ 900 ∧ (∀ j, C j < 256) ∧ (∀ j, n ≤ j → C j = 0) ∧ S.1 143 9 = nI n ∧ ∀ j, j < n → S.1 147 j &&& 255 = nI (C j)
theorem TT_fr {S S' : vSt} {C : Nat → Nat} {n : Nat} {c : Nat → Nat → Bool} (h : a_TT S C n) (f : a_fr c S S') (h1 : c 143 9 = false) (h2 : ∀ j, c 147 j = false) : a_TT S' C n := by
  obtain ⟨a1, a2, a3, a4, a5⟩ := h
  refine ⟨a1, a2, a3, (f 143 9 h1).1.trans a4, fun j hj => ?_⟩
  rw [(f 147 j (h2 j)).1]
  exact a5 j hj
/-- the model stands at the first token of R -/
def a_MR (S : vSt) (C : Nat → Nat) (n : Nat) (R : List aK) : Prop := ∃ (t : aK) (R' : List aK), R = t :: R' ∧ a_mc S t ∧ (t.1 ≠ 0 → ∃ q, q ≤ n ∧ S.1 143 16 = nI q ∧ R' = a_tl C n q)
theorem TT_av {S S' : vSt} {C : Nat → Nat} {n : Nat} (T : a_TT S C n) (f : a_fr a_av S S') : a_TT S' C n := TT_fr T f rfl (fun j => decide_eq_false (by omega))
theorem re_s (p : Nat → Bool) (C : Nat → Nat) (k i : Nat) : a_re p C (k + 1) i = if p (C i) = true then a_re p C k (i + 1) else i := rfl
theorem tok1_k {C : Nat → Nat} {n i : Nat} : (a_tok1 C n i).1 ≠ 0 ∧ (a_tok1 C n i).2.1 = i := by
  unfold a_tok1
  split
  · unfold a_wtk
    split
    · exact ⟨by show 2 ≠ 0; omega, rfl⟩
    · split
      · exact ⟨by show 4 ≠ 0; omega, rfl⟩
      · exact ⟨by show 3 ≠ 0; omega, rfl⟩
  · split
    · unfold a_ntk
      split
      · exact ⟨by show 1 ≠ 0; omega, rfl⟩
      · exact ⟨by show 5 ≠ 0; omega, rfl⟩
    · split
      · exact ⟨by show 6 ≠ 0; omega, rfl⟩
      · exact ⟨by show 1 ≠ 0; omega, rfl⟩
/-! what a token is, asked by the model -/
def a_is (t : aK) (q : Nat) : Bool := decide (t.1 = 2 ∧ t.2.2 = q)
theorem kw_is {S : vSt} {t : aK} {q : Nat} (c : a_mc S t) (ok : a_tkok t) (hq : q < 22) : decide (S.1 143 14 = 1 ∧ S.2 143 19 = lN (a_kc q)) = a_is t q := by
  obtain ⟨-, c14, -, c19⟩ := c
  obtain ⟨-, k6, v2, v3, -, -⟩ := ok
  have hk := kc_lt q hq
  unfold a_is
  rw [decide_eq_decide, c14]
  have nz : ∀ m, m ≠ 1 → m < 10 → ¬ nI m = 1 := fun m h1 h2 w => h1 ((nI_eq (b := 1) (by omega) (by omega)).mp w)
  have neg : ¬ (-1 : Int64) = lN (a_kc q) := by
    intro w
    have h1 : (-1 : Int64).toInt = -1 := by decide
    rw [w, pk_lT (by omega)] at h1
    omega
  unfold a_tkk
  by_cases h2 : t.1 = 2
  · obtain ⟨w, -⟩ := c19 (Or.inl h2)
    have hv := kc_lt _ (v2 h2)
    rw [w, h2]
    unfold a_wv
    rw [if_pos h2, pk_lEQ (by omega) (by omega)]
    constructor
    · rintro ⟨-, e⟩; exact ⟨rfl, kc_inj _ (v2 h2) q hq e⟩
    · rintro ⟨-, e⟩; exact ⟨rfl, by rw [e]⟩
  · by_cases h3 : t.1 = 3
    · obtain ⟨w, -⟩ := c19 (Or.inr (Or.inl h3))
      obtain ⟨v31, v32⟩ := v3 h3
      rw [w, h3]
      unfold a_wv
      rw [if_neg h2, if_pos h3, pk_lEQ (by omega) (by omega)]
      constructor
      · rintro ⟨-, e⟩; exact absurd e (v32 q hq)
      · rintro ⟨e, -⟩; omega
    · by_cases h4 : t.1 = 4
      · obtain ⟨w, -⟩ := c19 (Or.inr (Or.inr h4))
        rw [w]
        unfold a_wv
        rw [if_neg h2, if_neg h3]
        constructor
        · rintro ⟨-, e⟩; exact absurd e neg
        · rintro ⟨e, -⟩; omega
      · constructor
        · rintro ⟨e, -⟩
          refine absurd e ?_
          split
          · exact nz 0 (by omega) (by omega)
          · split
            · exact nz 4 (by omega) (by omega)
            · split
              · exact nz 2 (by omega) (by omega)
              · split
                · exact nz 3 (by omega) (by omega)
                · omega
        · rintro ⟨e, -⟩; exact absurd e h2
def a_spl (p q r s t u : Int32) : Int64 :=
  let w := ((p.toInt64 - 96) * 32 + q.toInt64) - 96
  let w := if r ≤ 0 then w else (w * 32 + r.toInt64) - 96
  let w := if s ≤ 0 then w else (w * 32 + s.toInt64) - 96
  let w := if t ≤ 0 then w else (w * 32 + t.toInt64) - 96
  if u ≤ 0 then w else (w * 32 + u.toInt64) - 96
def a_stp (t : aK) : Int32 := if a_is t 11 = true then 0 else if a_is t 12 = true then 1 else if a_is t 14 = true then 2 else if a_is t 15 = true then 3 else if a_is t 16 = true then 4 else if a_is t 19 = true then 5 else if a_is t 21 = true then 6 else -1
def a_tsw (t : aK) : Int32 := if a_is t 17 = true then 0 else if a_is t 18 = true then 1 else if a_is t 5 = true then 2 else -1
theorem tkk_eq {t : aK} {k m : Nat} (ok : a_tkok t) (hm : (k = 0 ∧ m = 0) ∨ (k = 1 ∧ m = 4) ∨ (k = 5 ∧ m = 2) ∨ (k = 6 ∧ m = 3)) : nI (a_tkk t.1) = nI m ↔ t.1 = k := by
  have k6 := ok.2.1
  have lt : a_tkk t.1 < 5 := by unfold a_tkk; split <;> (try split) <;> (try split) <;> (try split) <;> omega
  rw [nI_eq (by omega) (by omega)]
  unfold a_tkk
  split
  · omega
  · split
    · omega
    · split
      · omega
      · split <;> omega