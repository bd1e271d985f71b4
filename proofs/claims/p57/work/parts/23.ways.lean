/-! what a call tells, and how it ends -/
theorem c0 {A : Prop} : (vp_in 0 1900 ∧ A) = A := vpt (n := 0) (by omega)
theorem c1 {A : Prop} : (vp_in 1 1900 ∧ A) = A := vpt (n := 1) (by omega)
theorem c2 {A : Prop} : (vp_in 2 1900 ∧ A) = A := vpt (n := 2) (by omega)
theorem c3 {A : Prop} : (vp_in 3 1900 ∧ A) = A := vpt (n := 3) (by omega)
theorem c4 {A : Prop} : (vp_in 4 1900 ∧ A) = A := vpt (n := 4) (by omega)
theorem c5 {A : Prop} : (vp_in 5 1900 ∧ A) = A := vpt (n := 5) (by omega)
theorem c6 {A : Prop} : (vp_in 6 1900 ∧ A) = A := vpt (n := 6) (by omega)
theorem c7 {A : Prop} : (vp_in 7 1900 ∧ A) = A := vpt (n := 7) (by omega)
theorem k0 : Int32.toNatClampNeg 0 = 0 := rfl
theorem k1 : Int32.toNatClampNeg 1 = 1 := rfl
theorem k2 : Int32.toNatClampNeg 2 = 2 := rfl
theorem k3 : Int32.toNatClampNeg 3 = 3 := rfl
theorem k4 : Int32.toNatClampNeg 4 = 4 := rfl
theorem k5 : Int32.toNatClampNeg 5 = 5 := rfl
theorem k6 : Int32.toNatClampNeg 6 = 6 := rfl
theorem k7 : Int32.toNatClampNeg 7 = 7 := rfl
theorem si_at {S : vSt} {k j : Nat} {x : Int32} : (v_si S k j x).1 k j = x := if_pos ⟨rfl, rfl⟩
theorem sl_at {S : vSt} {k j : Nat} {x : Int64} : (v_sl S k j x).2 k j = x := if_pos ⟨rfl, rfl⟩
def a_ft (q : Option (Int64 × Int64)) (x : Int64) : Int64 := match q with
  | none => x
  | some p => p.1
def a_fb (q : Option (Int64 × Int64)) (x : Int64) : Int64 := match q with
  | none => x
  | some p => p.2
/-- behind a call of the class: its answer, its status, its fraction -/
def a_XK {α : Type} (S : vSt) (K : α → vSt → Prop) (o : α × Int32 × Option (Int64 × Int64)) : Prop := ∀ S', a_fr a_sxx S S' → S'.1 0 14 = o.2.1 → S'.2 0 17 = a_ft o.2.2 (S.2 0 17) → S'.2 0 18 = a_fb o.2.2 (S.2 0 18) → K o.1 S'
def a_MK {α : Type} (S : vSt) (K : α → vSt → Prop) (o : α × Int32 × Option (Int64 × Int64)) : Prop := ∀ S', a_fr a_smm S S' → S'.1 143 0 = o.2.1 → S'.2 143 2 = a_ft o.2.2 (S.2 143 2) → S'.2 143 3 = a_fb o.2.2 (S.2 143 3) → K o.1 S'
theorem x_end {α : Type} {S S1 : vSt} {K : α → vSt → Prop} {x : α} {st : Int32} (f : a_fr a_sx S S1) (h : a_XK S K (x, st, none)) : K x (v_si S1 0 14 st) := by
  refine h _ (fr_i (fr_w f sx_w) rfl) ?_ ?_ ?_
  · exact si_at
  · exact (f 0 17 rfl).2
  · exact (f 0 18 rfl).2
theorem x_told {S S1 : vSt} {K : Int32 → vSt → Prop} {x : Int32} (f : a_fr a_sx S S1) (h : a_XK S K (x, 0, none)) : p_X10_told S1 x K := by
  rw [e_told]; exact x_end f h
theorem x_refused {S S1 : vSt} {K : Int32 → vSt → Prop} {st : Int32} (f : a_fr a_sx S S1) (h : a_XK S K (-1, st, none)) : p_X10_refused S1 st K := by
  rw [e_refused]; exact x_end f h
theorem x_settled {S S1 : vSt} {K : Bool → vSt → Prop} {st : Int32} (f : a_fr a_sx S S1) (h : a_XK S K (decide (st = 0), st, none)) : p_X10_settled S1 st K := by
  rw [e_settled]; exact x_end f h
/-- a call of the model begins; in it the status is st -/
def a_g (S S1 : vSt) (st : Int32) : Prop := a_fr a_smm S S1 ∧ S1.1 143 0 = st ∧ S1.2 143 2 = S.2 143 2 ∧ S1.2 143 3 = S.2 143 3
theorem g_go {S : vSt} {Q : vSt → Prop} (h : ∀ S1, a_g S S1 0 → Q S1) : ∀ S1, S1 = v_si S 143 1 0 → ∀ S2, S2 = v_si S1 143 0 0 → Q S2 := by
  rintro S1 rfl S2 rfl
  exact h _ ⟨fr_i (fr_i fr_r rfl) rfl, si_at, rfl, rfl⟩
theorem g_fr {S S1 S2 : vSt} {st : Int32} (g : a_g S S1 st) (f : a_fr a_sm S1 S2) : a_g S S2 st := ⟨fr_t g.1 (fr_w f sm_w), (f 143 0 rfl).1.trans g.2.1, (f 143 2 rfl).2.trans g.2.2.1, (f 143 3 rfl).2.trans g.2.2.2⟩
theorem g_st {S S1 : vSt} {st st' : Int32} (g : a_g S S1 st) : a_g S (v_si S1 143 0 st') st' := ⟨fr_i g.1 rfl, si_at, g.2.2.1, g.2.2.2⟩
theorem g_thrown {S : vSt} {st : Int32} (h : S.1 143 0 = st) : a_g S (v_si S 143 1 0) st := ⟨fr_i fr_r rfl, h, rfl, rfl⟩
theorem m_ret {α : Type} {S S1 : vSt} {K : α → vSt → Prop} {x : α} {st : Int32} (g : a_g S S1 st) (h : a_MK S K (x, st, none)) : K x S1 := h S1 g.1 g.2.1 g.2.2.1 g.2.2.2
theorem M_g {S S1 : vSt} {st : Int32} {B : Nat} {m : Nat → Int32} (h : a_M S B m) (g : a_g S S1 st) : a_M S1 B m := M_fr h g.1 (fun j => by simp [a_smm, a_sm])
/-! guards -/
def a_one (m : Nat → Int32) (x : Int32) : Bool := decide (¬ x < 0 ∧ ¬ m 0 ≤ x)
def a_two (m : Nat → Int32) (x : Int32) : Bool := decide (¬ x < 0 ∧ ¬ m 1 ≤ x)
def a_in (lo hi x : Int32) : Bool := decide (lo ≤ x ∧ x ≤ hi)
theorem nI_cut {x : Int32} {N : Nat} (hN : N < 2 ^ 31) (h0 : ¬ x < 0) (h1 : ¬ nI N ≤ x) : ∃ p, p < N ∧ x = nI p ∧ a_n x = p := by
  obtain ⟨j, hj, rfl⟩ := nI_of h0
  rw [nI_leI hN hj] at h1
  exact ⟨j, by omega, rfl, a_n_nI hj⟩
theorem a_one_t {m : Nat → Int32} {x : Int32} (ok : a_ok m) (g : a_one m x = true) : ∃ p, p < a_P m ∧ x = nI p ∧ a_n x = p := by
  have h := of_decide_eq_true g
  rw [ok_m0 ok] at h
  exact nI_cut (by have := ok_P8 ok; omega) h.1 h.2
theorem a_two_t {m : Nat → Int32} {x : Int32} (ok : a_ok m) (g : a_two m x = true) : ∃ p, p < a_D m ∧ x = nI p ∧ a_n x = p := by
  have h := of_decide_eq_true g
  rw [ok_m1 ok] at h
  exact nI_cut (by have := ok_D10 ok; omega) h.1 h.2
theorem a_in_t {x hi : Int32} {n : Nat} (hh : hi = nI n) (hn : n < 2 ^ 30) (g : a_in 0 hi x = true) : ∃ k, k ≤ n ∧ x = nI k ∧ a_n x = k := by
  have h := of_decide_eq_true g
  obtain ⟨j, hj, rfl⟩ := nI_of (Int32.not_lt.mpr h.1)
  rw [hh, nI_leI hj (by omega)] at h
  exact ⟨j, h.2, rfl, a_n_nI hj⟩
theorem a_both_t {m : Nat → Int32} {x y : Int32} (ok : a_ok m) (g : (a_one m x && a_two m y) = true) : ∃ p d, p < a_P m ∧ d < a_D m ∧ x = nI p ∧ y = nI d ∧ a_n x = p ∧ a_n y = d := by
  rw [Bool.and_eq_true] at g
  obtain ⟨p, hp, e1, e2⟩ := a_one_t ok g.1
  obtain ⟨d, hd, e3, e4⟩ := a_two_t ok g.2
  exact ⟨p, d, hp, hd, e1, e3, e2, e4⟩
theorem e_hasPerson {S : vSt} {b : Nat} {m : Nat → Int32} {x : Int32} {K : Bool → vSt → Prop} (R : a_R S b m) : p_X0_hasPerson b S x K = K (a_one m x) S := by
  unfold p_X0_hasPerson a_one
  rw [R_0 R]
  by_cases c : x < 0 <;> by_cases d : m 0 ≤ x <;> simp [c, d]
theorem e_hasDeed {S : vSt} {b : Nat} {m : Nat → Int32} {x : Int32} {K : Bool → vSt → Prop} (R : a_R S b m) : p_X0_hasDeed b S x K = K (a_two m x) S := by
  unfold p_X0_hasDeed a_two
  rw [R_1 R]
  by_cases c : x < 0 <;> by_cases d : m 1 ≤ x <;> simp [c, d]
theorem e_areThere {S : vSt} {m : Nat → Int32} {x y : Int32} {K : Bool → vSt → Prop} (R : a_R S 10 m) : p_X10_areThere S x y K = K (a_one m x && a_two m y) S := by
  unfold p_X10_areThere
  rw [e_hasPerson R]
  simp only [e_hasDeed R]
  cases a_one m x <;> cases a_two m y <;> simp
theorem le_64 (x y : Int32) : x.toInt64 ≤ y.toInt64 ↔ x ≤ y := by
  rw [Int64.le_iff_toInt_le, Int32.toInt_toInt64, Int32.toInt_toInt64, Int32.le_iff_toInt_le]
theorem lt_64 (x y : Int32) : x.toInt64 < y.toInt64 ↔ x < y := by
  rw [Int64.lt_iff_toInt_lt, Int32.toInt_toInt64, Int32.toInt_toInt64, Int32.lt_iff_toInt_lt]
theorem nI_m1 : ∀ P, P < 11 → (nI P - 1).toInt = (P : Int) - 1 := by decide +kernel
theorem a_in_m1 {x : Int32} {P : Nat} (hP : P < 11) : a_in 0 (nI P - 1) x = decide (¬ x < 0 ∧ ¬ nI P ≤ x) := by
  unfold a_in
  have e := nI_m1 P hP
  have e2 : (nI P).toInt = P := nI_toInt (by omega)
  simp only [Int32.le_iff_toInt_le, Int32.lt_iff_toInt_lt, e, e2, Int32.toInt_zero]
  rw [decide_eq_decide]
  omega
/-! who can charge, and by what chance somebody votes -/
def a_can (m : Nat → Int32) (p d : Nat) : Bool := decide (m (78 + d) = 0) && !decide (m (48 + d) = nI p) && !v_bit (m (40 + p)) d && !decide (m (8 + p) < 0)
theorem x_mayCharge {S : vSt} {b p d : Nat} {m : Nat → Int32} {K : Bool → vSt → Prop} (ok : a_ok m) (R : a_R S b m) (hp : p < a_P m) (hd : d < a_D m) : p_X0_mayCharge b S (nI p) (nI d) K = K (a_can m p d) S := by
  have h8 := ok_P8 ok
  have h10 := ok_D10 ok
  rw [e_mayCharge (by omega) (by omega), R_78 R hd h10, R_48 R hd h10, R_40 R hp h8, R_8 R hp h8]
  rfl
def a_c (m : Nat → Int32) (p d : Nat) : Nat := min 16 (a_n (m (68 + d)) + a_n (m (16 + p)) - a_n (m (16 + a_o m d)))
theorem a_c16 (m : Nat → Int32) (p d : Nat) : a_c m p d ≤ 16 := Nat.min_le_left _ _
theorem lim16 : ∀ x, x < 17 → ∀ y, y < 17 → ∀ z, z < 17 → v_maxi 0 (v_mini 16 (nI x + nI y - nI z)) = nI (min 16 (x + y - z)) := by decide +kernel
theorem a_ch {m : Nat → Int32} {p d : Nat} (ok : a_ok m) (hp : p < a_P m) (hd : d < a_D m) : v_maxi 0 (v_mini 16 (m (68 + d) + m (16 + p) - m (16 + a_o m d))) = nI (a_c m p d) := by
  have h1 := (ok_d ok hd).2.2.1
  have h2 := (ok_p ok hp).2.1
  have h3 := (ok_p ok (ok_o ok hd).2).2.1
  have e := lim16 _ (show a_n (m (68 + d)) < 17 by have := h1.2.2; omega) _ (show a_n (m (16 + p)) < 17 by have := h2.2.2; omega) _ (show a_n (m (16 + a_o m d)) < 17 by have := h3.2.2; omega)
  rw [← h1.1, ← h2.1, ← h3.1] at e
  exact e
theorem x_chanceOf {S : vSt} {b p d : Nat} {m : Nat → Int32} {K : Int32 → vSt → Prop} (ok : a_ok m) (R : a_R S b m) (hp : p < a_P m) (hd : d < a_D m) : p_X0_chanceOf b S (nI p) (nI d) K = K (nI (a_c m p d)) S := by
  have h8 := ok_P8 ok
  have h10 := ok_D10 ok
  have ho := ok_o ok hd
  rw [e_chanceOf (o := a_o m d) (by omega) (by omega) (by rw [R_48 R hd h10]; exact ho.1) (by omega), R_68 R hd h10, R_16 R hp h8, R_16 R ho.2 h8, a_ch ok hp hd]
/-! can, chance -/
def o_can (m : Nat → Int32) (x y : Int32) : Int32 × Int32 × Option (Int64 × Int64) := if (a_one m x && a_two m y) = true then (v_b (a_can m (a_n x) (a_n y)), 0, none) else (-1, 2, none)
theorem x_can {S : vSt} {m : Nat → Int32} {x y : Int32} {K : Int32 → vSt → Prop} (ok : a_ok m) (R : a_R S 10 m) (h : a_XK S K (o_can m x y)) : p_X10_can S x y K := by
  unfold p_X10_can
  rw [e_areThere R]
  unfold o_can at h
  by_cases g : (a_one m x && a_two m y) = true
  · obtain ⟨p, d, hp, hd, rfl, rfl, e1, e2⟩ := a_both_t ok g
    rw [if_pos g, e1, e2] at h
    rw [g]
    simp only [eq_self, reduceCtorEq, true_implies, false_implies, and_true, true_and, not_true_eq_false, not_false_eq_true]
    rw [x_mayCharge ok R hp hd]
    cases c : a_can m p d <;> rw [c] at h <;> simp only [eq_self, reduceCtorEq, true_implies, false_implies, and_true, true_and, not_true_eq_false, not_false_eq_true] <;> exact x_told fr_r h
  · rw [if_neg g] at h
    rw [Bool.not_eq_true] at g
    rw [g]
    simp only [eq_self, reduceCtorEq, true_implies, false_implies, and_true, true_and, not_true_eq_false, not_false_eq_true]
    exact x_refused fr_r h