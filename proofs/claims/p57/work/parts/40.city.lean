/-! THE CITY CHANGES: m becomes m' -/
theorem ok_set {m : Nat → Int32} {j : Nat} {x : Int32} (ok : a_ok m) (h2 : 2 ≤ j) (h48 : j < 48) (c2 : j = 2 → a_nb x 1 9) (c3 : j = 3 → a_nb x 0 9) (c4 : j = 4 → a_nb x 0 999) (c5 : j = 5 → a_nb x 0 16) (c6 : j = 6 → a_nb x 0 99999) (c8 : ∀ p, p < a_P m → j = 8 + p → a_rg x (-99999) 99999) (c16 : ∀ p, p < a_P m → j = 16 + p → a_nb x 0 16) (c40 : ∀ p, p < a_P m → j = 40 + p → a_nb x 0 (2 ^ a_D m - 1)) : a_ok (a_set m j x) := by
  have h8 := ok_P8 ok
  have h10 := ok_D10 ok
  have eP := a_P_set (m := m) (x := x) (show 0 ≠ j by omega)
  have eD := a_D_set (m := m) (x := x) (show 1 ≠ j by omega)
  have f : ∀ (i : Nat) (Q : Int32 → Prop), Q (m i) → (j = i → Q x) → Q (a_set m j x i) := by
    intro i Q h1 h2
    unfold a_set
    split
    · next e => exact h2 e.symm
    · exact h1
  refine ⟨f 0 (fun z => a_nb z 0 8) ok.1 (fun e => absurd e (by omega)), f 1 (fun z => a_nb z 0 10) ok.2.1 (fun e => absurd e (by omega)), f 2 (fun z => a_nb z 1 9) (ok_J ok) c2, f 3 (fun z => a_nb z 0 9) (ok_F ok) c3, f 4 (fun z => a_nb z 0 999) (ok_L ok) c4, f 5 (fun z => a_nb z 0 16) (ok_H ok) c5, f 6 (fun z => a_nb z 0 99999) (ok_T ok) c6, fun p hp => ?_, fun d hd => ?_⟩
  · rw [eP] at hp
    have q := ok_p ok hp
    unfold a_okP
    rw [eD]
    exact ⟨f (8 + p) (fun z => a_rg z (-99999) 99999) q.1 (c8 p hp), f (16 + p) (fun z => a_nb z 0 16) q.2.1 (c16 p hp), f (40 + p) (fun z => a_nb z 0 (2 ^ a_D m - 1)) q.2.2 (c40 p hp)⟩
  · rw [eD] at hd
    have q := ok_d ok hd
    unfold a_okD
    rw [eP, a_set_ne (show 48 + d ≠ j by omega), a_set_ne (show 58 + d ≠ j by omega), a_set_ne (show 68 + d ≠ j by omega), a_set_ne (show 78 + d ≠ j by omega), a_set_ne (show 88 + d ≠ j by omega), a_set_ne (show 98 + d ≠ j by omega)]
    exact q
def a_hd3 (m : Nat → Int32) (d : Nat) (x y z : Int32) : Nat → Int32 := a_set (a_set (a_set m (78 + d) x) (88 + d) y) (98 + d) z
theorem hd3_ne {m : Nat → Int32} {d i : Nat} {x y z : Int32} (h1 : i ≠ 78 + d) (h2 : i ≠ 88 + d) (h3 : i ≠ 98 + d) : a_hd3 m d x y z i = m i := by
  unfold a_hd3
  rw [a_set_ne h3, a_set_ne h2, a_set_ne h1]
theorem hd3_78 {m : Nat → Int32} {d : Nat} {x y z : Int32} : a_hd3 m d x y z (78 + d) = x := by
  unfold a_hd3
  rw [a_set_ne (by omega), a_set_ne (by omega), a_set_eq]
theorem hd3_88 {m : Nat → Int32} {d : Nat} {x y z : Int32} : a_hd3 m d x y z (88 + d) = y := by
  unfold a_hd3
  rw [a_set_ne (by omega), a_set_eq]
theorem hd3_98 {m : Nat → Int32} {d : Nat} {x y z : Int32} : a_hd3 m d x y z (98 + d) = z := by
  unfold a_hd3
  rw [a_set_eq]
theorem hd3_P {m : Nat → Int32} {d : Nat} {x y z : Int32} : a_P (a_hd3 m d x y z) = a_P m := by
  unfold a_P; rw [hd3_ne (by omega) (by omega) (by omega)]
theorem hd3_D {m : Nat → Int32} {d : Nat} {x y z : Int32} : a_D (a_hd3 m d x y z) = a_D m := by
  unfold a_D; rw [hd3_ne (by omega) (by omega) (by omega)]
theorem ok_hd3 {m : Nat → Int32} {d : Nat} {x y z : Int32} (ok : a_ok m) (hd : d < a_D m) (hx : a_nb x 0 2) (h0 : x = 0 → y = -1 ∧ z = -1) (h1 : x ≠ 0 → ¬ y < 0 ∧ ¬ z < 0) : a_ok (a_hd3 m d x y z) := by
  have h8 := ok_P8 ok
  have h10 := ok_D10 ok
  have eP := hd3_P (m := m) (d := d) (x := x) (y := y) (z := z)
  have eD := hd3_D (m := m) (d := d) (x := x) (y := y) (z := z)
  have g : ∀ i, i < 78 → a_hd3 m d x y z i = m i := fun i hi => hd3_ne (by omega) (by omega) (by omega)
  refine ⟨?_, ?_, ?_, ?_, ?_, ?_, ?_, fun p hp => ?_, fun e he => ?_⟩
  · rw [g 0 (by omega)]; exact ok.1
  · rw [g 1 (by omega)]; exact ok.2.1
  · rw [g 2 (by omega)]; exact ok_J ok
  · rw [g 3 (by omega)]; exact ok_F ok
  · rw [g 4 (by omega)]; exact ok_L ok
  · rw [g 5 (by omega)]; exact ok_H ok
  · rw [g 6 (by omega)]; exact ok_T ok
  · rw [eP] at hp
    have q := ok_p ok hp
    unfold a_okP
    rw [eD, g (8 + p) (by omega), g (16 + p) (by omega), g (40 + p) (by omega)]
    exact q
  · rw [eD] at he
    obtain ⟨q1, q2, q3, q4, q5, q6⟩ := ok_d ok he
    unfold a_okD
    rw [eP, g (48 + e) (by omega), g (58 + e) (by omega), g (68 + e) (by omega)]
    by_cases c : e = d
    · subst c
      rw [hd3_78, hd3_88, hd3_98]
      exact ⟨q1, q2, q3, hx, h0, h1⟩
    · rw [hd3_ne (show 78 + e ≠ 78 + d by omega) (by omega) (by omega), hd3_ne (show 88 + e ≠ 78 + d by omega) (by omega) (by omega), hd3_ne (show 98 + e ≠ 78 + d by omega) (by omega) (by omega)]
      exact ⟨q1, q2, q3, q4, q5, q6⟩
/-! coins -/
def a_clamp (x : Int32) : Int32 := v_maxi (-99999) (v_mini 99999 x)
def a_pays (m : Nat → Int32) (j : Nat) (z : Int32) : Nat → Int32 := a_set m j (a_clamp (m j + z))
def a_inc (m : Nat → Int32) (j : Nat) : Nat → Int32 := a_set m j (m j + 1)
theorem pays_ne {m : Nat → Int32} {j i : Nat} {z : Int32} (h : i ≠ j) : a_pays m j z i = m i := a_set_ne h
theorem inc_ne {m : Nat → Int32} {j i : Nat} (h : i ≠ j) : a_inc m j i = m i := a_set_ne h
theorem pays_P {m : Nat → Int32} {j : Nat} {z : Int32} (h : 0 ≠ j) : a_P (a_pays m j z) = a_P m := a_P_set h
theorem pays_D {m : Nat → Int32} {j : Nat} {z : Int32} (h : 1 ≠ j) : a_D (a_pays m j z) = a_D m := a_D_set h
theorem inc_P {m : Nat → Int32} {j : Nat} (h : 0 ≠ j) : a_P (a_inc m j) = a_P m := a_P_set h
theorem inc_D {m : Nat → Int32} {j : Nat} (h : 1 ≠ j) : a_D (a_inc m j) = a_D m := a_D_set h
theorem clamp_rg (x : Int32) : a_rg (a_clamp x) (-99999) 99999 := by
  have e1 : (-99999 : Int32).toInt = -99999 := by decide
  have e2 : (99999 : Int32).toInt = 99999 := by decide
  unfold a_clamp v_maxi v_mini a_rg
  by_cases c : x < 99999
  · rw [if_pos c]
    rw [Int32.lt_iff_toInt_lt] at c
    by_cases d : (-99999 : Int32) < x
    · rw [if_pos d]; rw [Int32.lt_iff_toInt_lt] at d; omega
    · rw [if_neg d]; omega
  · rw [if_neg c]
    by_cases d : (-99999 : Int32) < 99999
    · rw [if_pos d]; omega
    · rw [if_neg d]; omega
theorem clamp_n {n : Nat} (h : n < 2 ^ 30) : a_clamp (nI n) = nI (min 99999 n) ∧ v_mini 99999 (nI n) = nI (min 99999 n) := by
  have e : v_mini 99999 (nI n) = nI (min 99999 n) := by
    unfold v_mini
    by_cases c : n < 99999
    · have q : nI n < 99999 := nI_lt (b := 99999) c (by omega)
      rw [if_pos q, Nat.min_eq_right (by omega)]
    · have q : ¬ nI n < 99999 := nI_nlt (b := 99999) (by omega) (by omega)
      rw [if_neg q, Nat.min_eq_left (by omega)]
      rfl
  refine ⟨?_, e⟩
  unfold a_clamp
  rw [e]
  unfold v_maxi
  rw [if_pos]
  rw [Int32.lt_iff_toInt_lt, nI_toInt (by omega)]
  have e1 : (-99999 : Int32).toInt = -99999 := by decide
  omega
theorem ok_coin {m : Nat → Int32} {p : Nat} (ok : a_ok m) (hp : p < a_P m) (z : Int32) : a_ok (a_pays m (8 + p) z) := by
  have h8 := ok_P8 ok
  exact ok_set ok (by omega) (by omega) (fun e => absurd e (by omega)) (fun e => absurd e (by omega)) (fun e => absurd e (by omega)) (fun e => absurd e (by omega)) (fun e => absurd e (by omega)) (fun _ _ _ => clamp_rg _) (fun q hq e => absurd e (by omega)) (fun q hq e => absurd e (by omega))
theorem ok_inc {m : Nat → Int32} {j : Nat} (ok : a_ok m) (hj : j = 7 ∨ (24 ≤ j ∧ j < 40)) : a_ok (a_inc m j) := by
  have h8 := ok_P8 ok
  exact ok_set ok (by omega) (by omega) (fun e => absurd e (by omega)) (fun e => absurd e (by omega)) (fun e => absurd e (by omega)) (fun e => absurd e (by omega)) (fun e => absurd e (by omega)) (fun q hq e => absurd e (by omega)) (fun q hq e => absurd e (by omega)) (fun q hq e => absurd e (by omega))
theorem ok_fill {m : Nat → Int32} {k : Nat} (ok : a_ok m) (hk : k < 100000) : a_ok (a_pays m 6 (nI k)) ∧ a_clamp (m 6 + nI k) = v_mini 99999 (m 6 + nI k) := by
  obtain ⟨e, -, h⟩ := ok_T ok
  have h8 := ok_P8 ok
  have q : m 6 + nI k = nI (a_n (m 6) + k) := by rw [e, nI_add, a_n_nI (by omega)]
  have c := clamp_n (n := a_n (m 6) + k) (by omega)
  refine ⟨?_, by rw [q, c.1, c.2]⟩
  refine ok_set ok (by omega) (by omega) (fun e => absurd e (by omega)) (fun e => absurd e (by omega)) (fun e => absurd e (by omega)) (fun e => absurd e (by omega)) (fun _ => ?_) (fun q hq e => absurd e (by omega)) (fun q hq e => absurd e (by omega)) (fun q hq e => absurd e (by omega))
  rw [q, c.1]
  exact a_nb_nI (by omega) (by omega) (by omega)
/-! a charge is heard -/
def a_hd (m : Nat → Int32) (p d v : Nat) (x : Int32) : Nat → Int32 := a_hd3 (a_inc m 7) d x (nI p) (nI v)
def a_hw (m : Nat → Int32) (p d v : Nat) : Nat → Int32 := a_pays (a_pays (a_pays (a_inc (a_hd m p d v 1) (24 + p)) (8 + a_o m d) (-(m (58 + d)))) (8 + p) (nI (a_part m d))) 6 (nI (a_f m d - a_part m d))
def a_ho (m : Nat → Int32) (p d v : Nat) : Nat → Int32 := a_pays (a_pays (a_inc (a_hd m p d v 2) (32 + p)) (8 + p) (-(m 4))) 6 (m 4)
def a_hear (m : Nat → Int32) (p d v : Nat) : Nat → Int32 := if a_J m < 2 * v then a_hw m p d v else if v < a_F m then a_ho m p d v else a_hd m p d v 2
def a_out (m : Nat → Int32) (v : Nat) : Nat := if a_J m < 2 * v then 1 else if v < a_F m then 2 else 0
theorem hd_ne {m : Nat → Int32} {p d v i : Nat} {x : Int32} (h0 : i ≠ 7) (h1 : i ≠ 78 + d) (h2 : i ≠ 88 + d) (h3 : i ≠ 98 + d) : a_hd m p d v x i = m i := by
  unfold a_hd
  rw [hd3_ne h1 h2 h3, inc_ne h0]
theorem hd_P {m : Nat → Int32} {p d v : Nat} {x : Int32} : a_P (a_hd m p d v x) = a_P m := by
  unfold a_P; rw [hd_ne (by omega) (by omega) (by omega) (by omega)]
theorem hd_D {m : Nat → Int32} {p d v : Nat} {x : Int32} : a_D (a_hd m p d v x) = a_D m := by
  unfold a_D; rw [hd_ne (by omega) (by omega) (by omega) (by omega)]
theorem ok_hd {m : Nat → Int32} {p d v x : Nat} (ok : a_ok m) (hp : p < a_P m) (hd : d < a_D m) (hv : v < 100) (hx : x = 1 ∨ x = 2) : a_ok (a_hd m p d v (nI x)) := by
  have h8 := ok_P8 ok
  refine ok_hd3 (ok_inc ok (Or.inl rfl)) (by rw [inc_D (by omega)]; exact hd) (a_nb_nI (by omega) (by omega) (by omega)) (fun e => ?_) (fun _ => ⟨nI_pos (by omega), nI_pos (by omega)⟩)
  exact absurd e (nI_ne0 (by omega) (by omega))
theorem hear_PD {m : Nat → Int32} {p d v : Nat} : a_P (a_hear m p d v) = a_P m ∧ a_D (a_hear m p d v) = a_D m := by
  unfold a_hear
  split
  · unfold a_hw
    rw [pays_P (by omega), pays_P (by omega), pays_P (by omega), inc_P (by omega), hd_P, pays_D (by omega), pays_D (by omega), pays_D (by omega), inc_D (by omega), hd_D]
    exact ⟨rfl, rfl⟩
  · split
    · unfold a_ho
      rw [pays_P (by omega), pays_P (by omega), inc_P (by omega), hd_P, pays_D (by omega), pays_D (by omega), inc_D (by omega), hd_D]
      exact ⟨rfl, rfl⟩
    · exact ⟨hd_P, hd_D⟩
/-- only what becomes of it: not people, deeds, laws, names, years -/
theorem hear_ne {m : Nat → Int32} {p d v i : Nat} (h0 : i ≠ 7) (h1 : i ≠ 78 + d) (h2 : i ≠ 88 + d) (h3 : i ≠ 98 + d) (h4 : i ≠ 6) (h5 : i ≠ 24 + p) (h6 : i ≠ 32 + p) (h7 : i ≠ 8 + p) (h8 : i ≠ 8 + a_o m d) : a_hear m p d v i = m i := by
  unfold a_hear
  split
  · unfold a_hw
    rw [pays_ne h4, pays_ne h7, pays_ne h8, inc_ne h5, hd_ne h0 h1 h2 h3]
  · split
    · unfold a_ho
      rw [pays_ne h4, pays_ne h7, inc_ne h6, hd_ne h0 h1 h2 h3]
    · exact hd_ne h0 h1 h2 h3
theorem ok_hear {m : Nat → Int32} {p d v : Nat} (ok : a_ok m) (hp : p < a_P m) (hd : d < a_D m) (hv : v < 100) : a_ok (a_hear m p d v) := by
  have h8 := ok_P8 ok
  have ho := (ok_o ok hd).2
  have hf := ok_f1 ok hd
  have hL := ok_L1 ok
  unfold a_hear
  split
  · unfold a_hw
    refine (ok_fill ?_ (by omega)).1
    refine ok_coin ?_ (by rw [pays_P (by omega), inc_P (by omega), hd_P]; exact hp) _
    refine ok_coin ?_ (by rw [inc_P (by omega), hd_P]; exact ho) _
    exact ok_inc (ok_hd ok hp hd hv (x := 1) (Or.inl rfl)) (Or.inr (by omega))
  · split
    · unfold a_ho
      rw [hL.1]
      refine (ok_fill ?_ (by omega)).1
      refine ok_coin ?_ (by rw [inc_P (by omega), hd_P]; exact hp) _
      exact ok_inc (ok_hd ok hp hd hv (x := 2) (Or.inr rfl)) (Or.inr (by omega))
    · exact ok_hd ok hp hd hv (x := 2) (Or.inr rfl)
/-! the class's -/
theorem sc_t {b k j : Nat} (h : (k = b ∧ 15 ≤ j ∧ j ≤ 18) ∨ (b + 1 ≤ k ∧ k ≤ b + 14 ∧ k ≠ b + 2 ∧ k ≠ b + 8)) : a_sc b k j = true := decide_eq_true h
theorem x_give {S : vSt} {b p : Nat} {m : Nat → Int32} {z : Int32} {K : vSt → Prop} (ok : a_ok m) (R : a_R S b m) (hp : p < a_P m) (h : ∀ S', a_fr (a_sc b) S S' → a_R S' b (a_pays m (8 + p) z) → K S') : p_X0_give b S (nI p) z K := by
  have h8 := ok_P8 ok
  rw [e_give (show p < 8 by omega), R_8 R hp h8]
  exact h _ (fr_i fr_r (sc_t (by omega))) (R_set R (by omega) (by omega) (a_xr8 p (by omega)))
theorem x_fill {S : vSt} {b k : Nat} {m : Nat → Int32} {K : vSt → Prop} (ok : a_ok m) (R : a_R S b m) (hk : k < 100000) (h : ∀ S', a_fr (a_sc b) S S' → a_R S' b (a_pays m 6 (nI k)) → K S') : p_X0_fillTreasury b S (nI k) K := by
  unfold p_X0_fillTreasury
  rintro _ rfl
  rw [R_6 R, ← (ok_fill ok hk).2]
  exact h _ (fr_i fr_r (sc_t (by omega))) (R_set R (by omega) (by omega) (o := 0) (i := 17) (j := 6) rfl)
theorem x_decide {S : vSt} {b p d v : Nat} {m : Nat → Int32} {K : Int32 → vSt → Prop} (ok : a_ok m) (R : a_R S b m) (hp : p < a_P m) (hd : d < a_D m) (hv : v < 100) (h : ∀ S', a_fr (a_sc b) S S' → a_R S' b (a_hear m p d v) → K (nI (a_out m v)) S') : p_X0_decide b S (nI p) (nI d) (nI v) K := by
  have h8 := ok_P8 ok
  have h10 := ok_D10 ok
  obtain ⟨eJ, J1, J9⟩ := ok_J1 ok
  obtain ⟨eF, F9⟩ := ok_F1 ok
  obtain ⟨eL, L9⟩ := ok_L1 ok
  obtain ⟨ef, f1, f9⟩ := ok_f1 ok hd
  obtain ⟨eo, ho⟩ := ok_o ok hd
  unfold p_X0_decide
  rintro _ rfl
  rw [R_7 R]
  have R1 : a_R (v_si S b 18 (m 7 + 1)) b (a_inc m 7) := R_set R (by omega) (by omega) (o := 0) (i := 18) (j := 7) rfl
  rw [e_put (show d < 10 by omega) (by omega), e_put (show d < 10 by omega) (by omega)]
  have rr : ∀ j, j < 4 → (v_si (v_si (v_si S b 18 (m 7 + 1)) (b + 13) d (nI p)) (b + 14) d (nI v)).1 (b + 1) j = m (2 + j) := by
    intro j hj
    rw [si1, if_neg (fun w => by omega), si1, if_neg (fun w => by omega), R_2 R1 hj, inc_ne (by omega)]
  have r0 : m (2 + 0) = nI (a_J m) := eJ
  rw [show (0 : Int32) = nI 0 from rfl, e_ruleOf (show 0 < 4 by omega), rr 0 (by omega), r0, show nI v * 2 = nI (v * 2) from pk_mul v 2]
  have fh : ∀ x, a_fr (a_sc b) S (v_si (v_si (v_si (v_si S b 18 (m 7 + 1)) (b + 13) d (nI p)) (b + 14) d (nI v)) (b + 12) d x) := fun x => fr_i (fr_i (fr_i (fr_i fr_r (sc_t (by omega))) (sc_t (by omega))) (sc_t (by omega))) (sc_t (by omega))
  have Rh : ∀ x, a_R (v_si (v_si (v_si (v_si S b 18 (m 7 + 1)) (b + 13) d (nI p)) (b + 14) d (nI v)) (b + 12) d x) b (a_hd m p d v x) := fun x => R_heard R1 (by omega)
  by_cases c : a_J m < 2 * v
  · have n1 : ¬ nI (v * 2) ≤ nI (a_J m) := nI_ge (by omega) (by omega)
    have oko := ok_hd ok hp hd hv (x := 1) (Or.inl rfl)
    have Rx := Rh 1
    simp only [n1, eq_self, reduceCtorEq, true_implies, false_implies, and_true, true_and, not_true_eq_false, not_false_eq_true]
    rw [e_put (show d < 10 by omega) (by omega), e_at (show p < 8 by omega) (by omega), e_put (show p < 8 by omega) (by omega)]
    rw [R_24 Rx (by rw [hd_P]; exact hp) (by rw [hd_P]; exact h8)]
    have R3 : a_R (v_si (v_si (v_si (v_si (v_si S b 18 (m 7 + 1)) (b + 13) d (nI p)) (b + 14) d (nI v)) (b + 12) d 1) (b + 5) p (a_hd m p d v 1 (24 + p) + 1)) b (a_inc (a_hd m p d v 1) (24 + p)) := R_set Rx (by omega) (by omega) (a_xr24 p (by omega))
    have f3 := fr_i (x := a_hd m p d v 1 (24 + p) + 1) (j := p) (fh 1) (sc_t (k := b + 5) (by omega))
    have ok3 : a_ok (a_inc (a_hd m p d v 1) (24 + p)) := ok_inc oko (Or.inr (by omega))
    have P3 : a_P (a_inc (a_hd m p d v 1) (24 + p)) = a_P m := by rw [inc_P (by omega), hd_P]
    have D3 : a_D (a_inc (a_hd m p d v 1) (24 + p)) = a_D m := by rw [inc_D (by omega), hd_D]
    have rd : ∀ i, i ≠ 7 → i < 78 → i ≠ 24 + p → a_inc (a_hd m p d v 1) (24 + p) i = m i := fun i h0 h1 h2 => by rw [inc_ne h2, hd_ne h0 (by omega) (by omega) (by omega)]
    rw [e_at (show d < 10 by omega) (by omega), R_58 R3 (by rw [D3]; exact hd) (by rw [D3]; exact h10), rd _ (by omega) (by omega) (by omega), x_rule3 R3, rd _ (by omega) (by omega) (by omega)]
    simp only [p_X0_partOf, x_part ok hd]
    rw [e_at (show d < 10 by omega) (by omega), R_48 R3 (by rw [D3]; exact hd) (by rw [D3]; exact h10), rd _ (by omega) (by omega) (by omega), eo]
    refine x_give ok3 R3 (by rw [P3]; exact ho) (fun S4 f4 R4 => ?_)
    have ok4 : a_ok (a_pays (a_inc (a_hd m p d v 1) (24 + p)) (8 + a_o m d) (-(m (58 + d)))) := ok_coin ok3 (by rw [P3]; exact ho) _
    refine x_give ok4 R4 (by rw [pays_P (by omega), P3]; exact hp) (fun S5 f5 R5 => ?_)
    have ok5 := ok_coin ok4 (p := p) (by rw [pays_P (by omega), P3]; exact hp) (nI (a_part m d))
    rw [ef, pk_sub (part_le ok hd)]
    refine x_fill ok5 R5 (by omega) (fun S6 f6 R6 => ?_)
    have h := h S6 (fr_t f3 (fr_t f4 (fr_t f5 f6)))
    unfold a_hear a_out at h
    rw [if_pos c, if_pos c] at h
    refine h ?_
    unfold a_hw
    exact R6
  · have n1 : nI (v * 2) ≤ nI (a_J m) := nI_le (by omega) (by omega)
    have oko := ok_hd ok hp hd hv (x := 2) (Or.inr rfl)
    have Rx := Rh 2
    simp only [n1, eq_self, reduceCtorEq, true_implies, false_implies, and_true, true_and, not_true_eq_false, not_false_eq_true]
    rw [e_put (show d < 10 by omega) (by omega), x_rule1 Rx, hd_ne (by omega) (by omega) (by omega) (by omega), eF]
    by_cases c2 : v < a_F m
    · have n2 : nI v < nI (a_F m) := nI_lt c2 (by omega)
      simp only [n2, eq_self, reduceCtorEq, true_implies, false_implies, and_true, true_and, not_true_eq_false, not_false_eq_true]
      rw [e_at (show p < 8 by omega) (by omega), e_put (show p < 8 by omega) (by omega)]
      rw [R_32 Rx (by rw [hd_P]; exact hp) (by rw [hd_P]; exact h8)]
      have R3 : a_R (v_si (v_si (v_si (v_si (v_si S b 18 (m 7 + 1)) (b + 13) d (nI p)) (b + 14) d (nI v)) (b + 12) d 2) (b + 6) p (a_hd m p d v 2 (32 + p) + 1)) b (a_inc (a_hd m p d v 2) (32 + p)) := R_set Rx (by omega) (by omega) (a_xr32 p (by omega))
      have f3 := fr_i (x := a_hd m p d v 2 (32 + p) + 1) (j := p) (fh 2) (sc_t (k := b + 6) (by omega))
      have ok3 : a_ok (a_inc (a_hd m p d v 2) (32 + p)) := ok_inc oko (Or.inr (by omega))
      have P3 : a_P (a_inc (a_hd m p d v 2) (32 + p)) = a_P m := by rw [inc_P (by omega), hd_P]
      have r4 : a_inc (a_hd m p d v 2) (32 + p) 4 = m 4 := by rw [inc_ne (by omega), hd_ne (by omega) (by omega) (by omega) (by omega)]
      rw [x_rule2 R3, r4]
      refine x_give ok3 R3 (by rw [P3]; exact hp) (fun S4 f4 R4 => ?_)
      have ok4 := ok_coin ok3 (p := p) (by rw [P3]; exact hp) (-(m 4))
      rw [x_rule2 R4, pays_ne (by omega), r4, eL]
      rw [eL] at R4 ok4
      refine x_fill ok4 R4 (by omega) (fun S5 f5 R5 => ?_)
      have h := h S5 (fr_t f3 (fr_t f4 f5))
      unfold a_hear a_out at h
      rw [if_neg c, if_pos c2, if_neg c, if_pos c2] at h
      refine h ?_
      unfold a_ho
      rw [eL]
      exact R5
    · have n2 : ¬ nI v < nI (a_F m) := nI_nlt (by omega) (by omega)
      simp only [n2, eq_self, reduceCtorEq, true_implies, false_implies, and_true, true_and, not_true_eq_false, not_false_eq_true]
      have h := h _ (fh 2)
      unfold a_hear a_out at h
      rw [if_neg c, if_neg c2, if_neg c, if_neg c2] at h
      exact h Rx
/-! the model's -/
def a_cm (k j : Nat) : Bool := decide (k = 148 ∧ j < 108)
theorem cm_t {j : Nat} (h : j < 108) : a_cm 148 j = true := decide_eq_true ⟨rfl, h⟩