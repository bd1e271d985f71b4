/-! YEARS, told line by line (the class) and step by step (the model) -/
abbrev aW : Type := Nat → Nat → Int32
abbrev aY : Type := aW × (Nat → Int32) × Nat × Nat × List (Nat × Nat)
abbrev aL : Type := Int32 × Int32 × Int32
def a_w4 (W : aW) (N : Nat) (w : Int32) (g : aL) : aW := fun c i => if i = N ∧ c < 4 then (if c = 0 then w else if c = 1 then g.1 else if c = 2 then g.2.1 else g.2.2) else W c i
def a_wp (W : aW) (l e : Nat) : aW := fun c i => if c = 4 ∧ i = l then nI e else W c i
/-- the model's cells of the step k -/
def a_yr (y : Nat → Int32) (k w : Nat) (g : aL) : Nat → Int32 :=
  if w = 11 then a_set (a_set (a_set y (9 * k) 0) (9 * k + 1) g.1) (9 * k + 2) g.2.1
  else if w = 12 then a_set (a_set (a_set (a_set y (9 * k) 1) (9 * k + 1) g.1) (9 * k + 2) g.2.1) (9 * k + 3) g.2.2
  else if w = 14 then a_set (a_set (a_set y (9 * k) 2) (9 * k + 1) g.1) (9 * k + 3) g.2.2
  else if w = 15 then a_set y (9 * k) 3
  else if w = 16 then (if g.2.1 = 17 then a_set (a_set (a_set y (9 * k) 4) (9 * k + 6) 0) (9 * k + 1) g.1
    else if g.2.1 = 18 then a_set (a_set (a_set y (9 * k) 4) (9 * k + 6) 1) (9 * k + 1) g.1
    else a_set (a_set (a_set (a_set (a_set y (9 * k) 4) (9 * k + 6) 2) (9 * k + 1) g.1) (9 * k + 7) g.2.1) (9 * k + 2) g.2.2)
  else if w = 19 then a_set (a_set y (9 * k) 5) (9 * k + 1) g.2.2
  else a_set y (9 * k) 6
/-- a deed's name -/
def a_own3 (m : Nat → Int32) (nm : Nat → Nat) (R : List aK) : aF ⊕ (Nat × List aK) := if (a_h0 R).1 = 3 then (match a_db m nm (a_h0 R).2.2 with
  | some p => .inr (p, R.tail)
  | none => .inl (3, (a_h0 R).2.1)) else .inl (a_bl R 2)
def a_sgn (R : List aK) : aF ⊕ (Nat × List aK) := if (a_h0 R).1 = 6 ∧ (a_h0 R).2.2 ≠ 59 then .inr ((a_h0 R).2.2, R.tail) else .inl (a_bl R 2)
def a_hch (m : Nat → Int32) (nm : Nat → Nat) (R : List aK) : aF ⊕ (aL × List aK) := a_bi (a_own2 m nm R) (fun p => a_bi (a_own3 m nm p.2) (fun d => .inr ((nI p.1, nI d.1, 0), d.2)))
def a_hdr (m : Nat → Int32) (nm : Nat → Nat) (R : List aK) : aF ⊕ (aL × List aK) := a_bi (a_own2 m nm R) (fun p => a_bi (a_own3 m nm p.2) (fun d => a_bi (a_wdn 13 0 9999 d.2) (fun z => .inr ((nI p.1, nI d.1, nI z.1), z.2))))
def a_hea (m : Nat → Int32) (nm : Nat → Nat) (R : List aK) : aF ⊕ (aL × List aK) := a_bi (a_own2 m nm R) (fun p => a_bi (a_nu 1 999 p.2) (fun z => .inr ((nI p.1, -1, nI z.1), z.2)))
def a_hlo (R : List aK) : aF ⊕ (aL × List aK) := a_bi (a_nu 1 99 R) (fun z => .inr ((-1, -1, nI z.1), z.2))
def a_hwh (m : Nat → Int32) (nm : Nat → Nat) (R : List aK) : aF ⊕ (aL × List aK) :=
  if a_is (a_h0 R) 17 = true then a_bi (a_own3 m nm R.tail) (fun d => .inr ((nI d.1, 17, 0), d.2))
  else if a_is (a_h0 R) 18 = true then a_bi (a_own2 m nm R.tail) (fun p => .inr ((nI p.1, 18, 0), p.2))
  else if a_is (a_h0 R) 5 = true then a_bi (a_own2 m nm R.tail) (fun p => a_bi (a_sgn p.2) (fun q => a_bi (a_nu 0 9999 q.2) (fun z => .inr ((nI p.1, nI q.1, nI z.1), z.2))))
  else .inl (a_bl R 2)
def a_hdl (m : Nat → Int32) (nm : Nat → Nat) (w : Nat) (R : List aK) : aF ⊕ (aL × List aK) := if w = 11 then a_hch m nm R else if w = 12 then a_hdr m nm R else if w = 14 then a_hea m nm R else if w = 16 then a_hwh m nm R else if w = 19 then a_hlo R else .inr ((-1, -1, 0), R)
def a_bgs (w : Nat) : Bool := decide (w = 11 ∨ w = 12 ∨ w = 14 ∨ w = 15 ∨ w = 16 ∨ w = 19 ∨ w = 21)
def a_ope (w : Nat) : Bool := decide (w = 16 ∨ w = 19)
/-- a step more -/
def a_yad (s : aY) (w : Nat) (g : aL) : aY := (a_w4 s.1 s.2.2.1 (nI w) g, (if a_ope w = true then a_yr s.2.1 s.2.2.2.1 w g else a_set (a_yr s.2.1 s.2.2.2.1 w g) (9 * s.2.2.2.1 + 8) (nI (s.2.2.2.1 + 1))), s.2.2.1 + 1, s.2.2.2.1 + 1, if a_ope w = true then (s.2.2.1, s.2.2.2.1) :: s.2.2.2.2 else s.2.2.2.2)
def a_yst (m : Nat → Int32) (nm : Nat → Nat) (s : aY) (R : List aK) : aF ⊕ (aY × List aK) := if (a_h0 R).1 = 2 ∧ a_bgs (a_h0 R).2.2 = true then (if s.2.2.2.1 = 30 then .inl (6, (a_h0 R).2.1) else if a_ope (a_h0 R).2.2 = true ∧ s.2.2.2.2.length = 3 then .inl (7, (a_h0 R).2.1) else a_bi (a_hdl m nm (a_h0 R).2.2 R.tail) (fun g => a_bi (a_semi g.2) (fun R' => .inr (a_yad s (a_h0 R).2.2 g.1, R')))) else .inl (a_bl R 2)
/-- an end -/
def a_yen (s : aY) (R : List aK) : aF ⊕ (aY × List aK) := match s.2.2.2.2 with
  | [] => .inl (a_bl R 2)
  | (l, k) :: σ => a_bi (a_semi R.tail) (fun R' => .inr ((a_wp (a_wp (a_w4 s.1 s.2.2.1 20 (-1, -1, 0)) l s.2.2.1) s.2.2.1 l, a_set s.2.1 (9 * k + 8) (nI s.2.2.2.1), s.2.2.1 + 1, s.2.2.2.1, σ), R'))
def a_yon (m : Nat → Int32) (nm : Nat → Nat) (s : aY) (R : List aK) : aF ⊕ (aY × List aK) := if a_is (a_h0 R) 20 = true then a_yen s R else a_yst m nm s R
def a_ryr (m : Nat → Int32) (nm : Nat → Nat) : Nat → aY → List aK → aF ⊕ aY
  | 0, s, _ => .inr s
  | k + 1, s, R => if (a_h0 R).1 = 0 then (if s.2.2.2.2 = [] then .inr s else .inl (a_bl R 2)) else a_bi (a_yon m nm s R) (fun g => a_ryr m nm k g.1 g.2)
/-! what stays -/
def a_YI (s : aY) : Prop := s.2.2.1 + s.2.2.2.2.length ≤ 2 * s.2.2.2.1 ∧ s.2.2.2.1 ≤ 30 ∧ s.2.2.2.2.length ≤ 3 ∧ ∀ q ∈ s.2.2.2.2, q.1 < s.2.2.1 ∧ q.2 < s.2.2.2.1
theorem own3_ok {m : Nat → Int32} {nm : Nat → Nat} {R : List aK} {g : Nat × List aK} (h : a_wf R) (e : a_own3 m nm R = .inr g) : a_wf g.2 ∧ g.1 < a_D m ∧ g.2.length + 1 = R.length := by
  unfold a_own3 at e
  split at e
  · next k =>
    cases q : a_db m nm (a_h0 R).2.2 with
    | none => rw [q] at e; cases e
    | some p =>
      rw [q] at e
      cases e
      exact ⟨wf_tl h (by omega), db_lt q, tl_len h⟩
  · cases e
theorem sgn_ok {R : List aK} {g : Nat × List aK} (h : a_wf R) (e : a_sgn R = .inr g) : a_wf g.2 ∧ (g.1 = 60 ∨ g.1 = 61 ∨ g.1 = 62) ∧ g.2.length + 1 = R.length := by
  have v := (wf_ok h).2.2.2.2.2
  unfold a_sgn at e
  split at e
  · next q =>
    have v := v q.1
    cases e
    have q2 := q.2
    have q1 := q.1
    exact ⟨wf_tl h (by omega), by show (a_h0 R).2.2 = 60 ∨ (a_h0 R).2.2 = 61 ∨ (a_h0 R).2.2 = 62; omega, tl_len h⟩
  · cases e
/-- a line's fields: what can stand in the words, the people and deeds told -/
def a_lok (m : Nat → Int32) (w : Nat) (g : aL) : Prop :=
  if w = 11 then ∃ p d, p < a_P m ∧ d < a_D m ∧ g = (nI p, nI d, 0)
  else if w = 12 then ∃ p d z, p < a_P m ∧ d < a_D m ∧ z ≤ 9999 ∧ g = (nI p, nI d, nI z)
  else if w = 14 then ∃ p z, p < a_P m ∧ 1 ≤ z ∧ z ≤ 999 ∧ g = (nI p, -1, nI z)
  else if w = 16 then (∃ d, d < a_D m ∧ g = (nI d, 17, 0)) ∨ (∃ p, p < a_P m ∧ g = (nI p, 18, 0)) ∨ ∃ p q z, p < a_P m ∧ (q = 60 ∨ q = 61 ∨ q = 62) ∧ z ≤ 9999 ∧ g = (nI p, nI q, nI z)
  else if w = 19 then ∃ z, 1 ≤ z ∧ z ≤ 99 ∧ g = (-1, -1, nI z)
  else g = (-1, -1, 0)
theorem hd_ok {m : Nat → Int32} {nm : Nat → Nat} {w : Nat} {R : List aK} {g : aL × List aK} (h : a_wf R) (e : a_hdl m nm w R = .inr g) : a_wf g.2 ∧ a_lok m w g.1 ∧ g.2.length ≤ R.length := by
  unfold a_hdl at e
  unfold a_lok
  split at e
  · next c =>
    rw [if_pos c]
    obtain ⟨p, e1, e⟩ := bi_inr e
    obtain ⟨w1, p1, l1⟩ := own2_ok h e1
    obtain ⟨d, e2, e⟩ := bi_inr e
    obtain ⟨w2, d1, l2⟩ := own3_ok w1 e2
    cases e
    exact ⟨w2, ⟨_, _, p1, d1, rfl⟩, by show d.2.length ≤ _; omega⟩
  · next c =>
    rw [if_neg c]
    split at e
    · next c =>
      rw [if_pos c]
      obtain ⟨p, e1, e⟩ := bi_inr e
      obtain ⟨w1, p1, l1⟩ := own2_ok h e1
      obtain ⟨d, e2, e⟩ := bi_inr e
      obtain ⟨w2, d1, l2⟩ := own3_ok w1 e2
      obtain ⟨z, e3, e⟩ := bi_inr e
      obtain ⟨w3, -, z2, l3⟩ := wdn_ok w2 e3
      cases e
      exact ⟨w3, ⟨_, _, _, p1, d1, z2, rfl⟩, by show z.2.length ≤ _; omega⟩
    · next c =>
      rw [if_neg c]
      split at e
      · next c =>
        rw [if_pos c]
        obtain ⟨p, e1, e⟩ := bi_inr e
        obtain ⟨w1, p1, l1⟩ := own2_ok h e1
        obtain ⟨z, e3, e⟩ := bi_inr e
        have l3 := nu_len w1 e3
        obtain ⟨w3, z1, z2⟩ := nu_wf w1 e3
        cases e
        exact ⟨w3, ⟨_, _, p1, z1, z2, rfl⟩, by show z.2.length ≤ _; omega⟩
      · next c =>
        rw [if_neg c]
        split at e
        · next c =>
          rw [if_pos c]
          unfold a_hwh at e
          split at e
          · next q =>
            have wt := wf_tl h (is_k q).1
            have lt := tl_len h
            obtain ⟨d, e2, e⟩ := bi_inr e
            obtain ⟨w2, d1, l2⟩ := own3_ok wt e2
            cases e
            exact ⟨w2, Or.inl ⟨_, d1, rfl⟩, by show d.2.length ≤ _; omega⟩
          · split at e
            · next q =>
              have wt := wf_tl h (is_k q).1
              have lt := tl_len h
              obtain ⟨d, e2, e⟩ := bi_inr e
              obtain ⟨w2, d1, l2⟩ := own2_ok wt e2
              cases e
              exact ⟨w2, Or.inr (Or.inl ⟨_, d1, rfl⟩), by show d.2.length ≤ _; omega⟩
            · split at e
              · next q =>
                have wt := wf_tl h (is_k q).1
                have lt := tl_len h
                obtain ⟨p, e1, e⟩ := bi_inr e
                obtain ⟨w1, p1, l1⟩ := own2_ok wt e1
                obtain ⟨v, e2, e⟩ := bi_inr e
                obtain ⟨w2, v1, l2⟩ := sgn_ok w1 e2
                obtain ⟨z, e3, e⟩ := bi_inr e
                have l3 := nu_len w2 e3
                obtain ⟨w3, z1, z2⟩ := nu_wf w2 e3
                cases e
                exact ⟨w3, Or.inr (Or.inr ⟨_, _, _, p1, v1, z2, rfl⟩), by show z.2.length ≤ _; omega⟩
              · cases e
        · next c =>
          rw [if_neg c]
          split at e
          · next c =>
            rw [if_pos c]
            obtain ⟨z, e3, e⟩ := bi_inr e
            have l3 := nu_len h e3
            obtain ⟨w3, z1, z2⟩ := nu_wf h e3
            cases e
            exact ⟨w3, ⟨_, z1, z2, rfl⟩, by show z.2.length ≤ _; omega⟩
          · next c =>
            rw [if_neg c]
            cases e
            exact ⟨h, rfl, Nat.le_refl _⟩
theorem yst_ok {m : Nat → Int32} {nm : Nat → Nat} {s : aY} {R : List aK} {g : aY × List aK} (yi : a_YI s) (wf : a_wf R) (e : a_yst m nm s R = .inr g) : a_YI g.1 ∧ a_wf g.2 ∧ g.2.length < R.length ∧ ∃ w v, a_bgs w = true ∧ a_lok m w v ∧ s.2.2.2.1 < 30 ∧ (a_ope w = true → s.2.2.2.2.length < 3) ∧ g.1 = a_yad s w v := by
  obtain ⟨y1, y2, y3, y4⟩ := yi
  unfold a_yst at e
  split at e
  · next q =>
    split at e
    · cases e
    · next c30 =>
      split at e
      · cases e
      · next c3 =>
        have wt := wf_tl wf (show (a_h0 R).1 ≠ 0 by omega)
        have lt := tl_len wf
        obtain ⟨v, e1, e⟩ := bi_inr e
        obtain ⟨w1, lo, l1⟩ := hd_ok wt e1
        obtain ⟨R', e2, e⟩ := bi_inr e
        have l2 := wd_len w1 e2
        cases e
        have hl : a_ope (a_h0 R).2.2 = true → s.2.2.2.2.length < 3 := fun w => by
          by_cases z : s.2.2.2.2.length = 3
          · exact absurd ⟨w, z⟩ c3
          · omega
        refine ⟨?_, semi_wf w1 e2, by show R'.length < _; omega, _, _, q.2, lo, by omega, hl, rfl⟩
        unfold a_YI
        show s.2.2.1 + 1 + (if a_ope (a_h0 R).2.2 = true then _ else _ : List (Nat × Nat)).length ≤ 2 * (s.2.2.2.1 + 1) ∧ s.2.2.2.1 + 1 ≤ 30 ∧ (if a_ope (a_h0 R).2.2 = true then _ else _ : List (Nat × Nat)).length ≤ 3 ∧ ∀ q ∈ (if a_ope (a_h0 R).2.2 = true then _ else _ : List (Nat × Nat)), q.1 < s.2.2.1 + 1 ∧ q.2 < s.2.2.2.1 + 1
        cases o : a_ope (a_h0 R).2.2
        · simp only [Bool.false_eq_true, if_false]
          refine ⟨by omega, by omega, by omega, fun q hq => ?_⟩
          have := y4 q hq
          omega
        · have hl := hl o
          simp only [if_true, List.length_cons]
          refine ⟨by omega, by omega, by omega, fun q hq => ?_⟩
          rcases List.mem_cons.mp hq with rfl | hq
          · simp only; omega
          · have := y4 q hq
            omega
  · cases e
theorem yen_ok {s : aY} {R : List aK} {g : aY × List aK} (yi : a_YI s) (wf : a_wf R) (hk : a_is (a_h0 R) 20 = true) (e : a_yen s R = .inr g) : a_YI g.1 ∧ a_wf g.2 ∧ g.2.length < R.length := by
  obtain ⟨y1, y2, y3, y4⟩ := yi
  have wt := wf_tl wf (is_k hk).1
  have lt := tl_len wf
  obtain ⟨W, y, N, K, σ⟩ := s
  unfold a_yen at e
  cases σ with
  | nil => cases e
  | cons q σ =>
    obtain ⟨R', e2, e⟩ := bi_inr e
    have l2 := wd_len wt e2
    cases e
    refine ⟨?_, semi_wf wt e2, by show R'.length < _; omega⟩
    unfold a_YI
    simp only [List.length_cons] at y1 y2 y3 y4 ⊢
    refine ⟨by omega, by omega, by omega, fun p hp => ?_⟩
    have := y4 p (List.mem_cons_of_mem _ hp)
    omega
theorem yon_ok {m : Nat → Int32} {nm : Nat → Nat} {s : aY} {R : List aK} {g : aY × List aK} (yi : a_YI s) (wf : a_wf R) (e : a_yon m nm s R = .inr g) : a_YI g.1 ∧ a_wf g.2 ∧ g.2.length < R.length := by
  unfold a_yon at e
  split at e
  · next c => exact yen_ok yi wf c e
  · obtain ⟨a, b, c, -⟩ := yst_ok yi wf e
    exact ⟨a, b, c⟩
