/-! commit: a deed more -/
def a_cm1 (m : Nat → Int32) (p f o : Int32) : Nat → Int32 := a_set (a_set (a_set (a_inc m 1) (48 + a_D m) p) (58 + a_D m) f) (68 + a_D m) o
def a_cmt (m : Nat → Int32) (p f o : Int32) : Nat → Int32 := a_opk (a_cm1 m p f o) (a_D m) 8
theorem cm1_ne {m : Nat → Int32} {p f o : Int32} {i : Nat} (h1 : i ≠ 1) (h2 : i ≠ 48 + a_D m) (h3 : i ≠ 58 + a_D m) (h4 : i ≠ 68 + a_D m) : a_cm1 m p f o i = m i := by
  unfold a_cm1
  rw [a_set_ne h4, a_set_ne h3, a_set_ne h2, inc_ne h1]
theorem cm1_1 {m : Nat → Int32} {p f o : Int32} : a_cm1 m p f o 1 = m 1 + 1 := by
  unfold a_cm1
  rw [a_set_ne (by omega), a_set_ne (by omega), a_set_ne (by omega)]
  exact a_set_eq
theorem cmt_PD {m : Nat → Int32} {p f o : Int32} (ok : a_ok m) : a_P (a_cmt m p f o) = a_P m ∧ a_D (a_cmt m p f o) = a_D m + 1 := by
  have h10 := ok_D10 ok
  have q := opk_PD (m := a_cm1 m p f o) (d := a_D m) (k := 8)
  unfold a_cmt
  rw [q.1, q.2]
  refine ⟨?_, ?_⟩
  · unfold a_P
    rw [cm1_ne (by omega) (by omega) (by omega) (by omega)]
  · unfold a_D
    rw [cm1_1, ok_m1 ok, nIs, a_n_nI (by unfold a_D; unfold a_D at h10; omega)]
    rw [a_n_nI (by unfold a_D at h10; unfold a_D; omega)]
theorem drop_bit {m : Nat → Int32} (ok : a_ok m) {p : Nat} (hp : p < a_P m) (hd : a_D m < 10) : a_off (m (40 + p)) (a_D m) = m (40 + p) := by
  obtain ⟨e, h⟩ := ok_c1 ok hp
  obtain ⟨c, hc, e2, e3⟩ := off_n h (ok_D10 ok) hd
  rw [e, e2, e3 (Nat.testBit_lt_two_pow h)]
theorem cmt_lo {m : Nat → Int32} {p f o : Int32} {j : Nat} (h0 : j < 40 ∨ (48 ≤ j ∧ j < 78)) (h1 : j ≠ 1) (h2 : j ≠ 48 + a_D m) (h3 : j ≠ 58 + a_D m) (h4 : j ≠ 68 + a_D m) : (a_cmt m p f o) j = m j := by
  unfold a_cmt
  rw [opk_lo h0 (by omega), cm1_ne h1 h2 h3 h4]
theorem cmt_hi {m : Nat → Int32} {p f o : Int32} {j : Nat} (h0 : 78 ≤ j) (hd : a_D m < 10) (h2 : j ≠ 78 + a_D m) (h3 : j ≠ 88 + a_D m) (h4 : j ≠ 98 + a_D m) : (a_cmt m p f o) j = m j := by
  unfold a_cmt
  rw [opk_hi (by omega) (by omega), hd3_ne h2 h3 h4, cm1_ne (by omega) (by omega) (by omega) (by omega)]
theorem cmt_40 {m : Nat → Int32} {p f o : Int32} (ok : a_ok m) (hd : a_D m < 10) {q : Nat} (hq : q < a_P m) : (a_cmt m p f o) (40 + q) = m (40 + q) := by
  have h8 := ok_P8 ok
  unfold a_cmt
  rw [opk_40 (by omega), cm1_ne (by omega) (by omega) (by omega) (by omega)]
  exact drop_bit ok hq hd
theorem cmt_48 {m : Nat → Int32} {p f o : Int32} (hd : a_D m < 10) : (a_cmt m p f o) (48 + a_D m) = p ∧ (a_cmt m p f o) (58 + a_D m) = f ∧ (a_cmt m p f o) (68 + a_D m) = o ∧ (a_cmt m p f o) (78 + a_D m) = 0 ∧ (a_cmt m p f o) (88 + a_D m) = -1 ∧ (a_cmt m p f o) (98 + a_D m) = -1 := by
  unfold a_cmt
  rw [opk_lo (Or.inr (by omega)) (by omega), opk_lo (Or.inr (by omega)) (by omega), opk_lo (Or.inr (by omega)) (by omega), opk_hi (by omega) (by omega), opk_hi (by omega) (by omega), opk_hi (by omega) (by omega), hd3_78, hd3_88, hd3_98]
  unfold a_cm1
  refine ⟨?_, ?_, ?_, rfl, rfl, rfl⟩
  · rw [a_set_ne (by omega), a_set_ne (by omega), a_set_eq]
  · rw [a_set_ne (by omega), a_set_eq]
  · rw [a_set_eq]
theorem ok_cmt {m : Nat → Int32} {p : Nat} {f o : Int32} (ok : a_ok m) (hd : a_D m < 10) (hp : p < a_P m) (hf : a_nb f 1 999) (ho : a_nb o 0 16) : a_ok (a_cmt m (nI p) f o) := by
  have h8 := ok_P8 ok
  have h10 := ok_D10 ok
  obtain ⟨eP, eD⟩ := cmt_PD (p := nI p) (f := f) (o := o) ok
  have lo : ∀ j, j < 40 → j ≠ 1 → a_cmt m (nI p) f o j = m j := fun j hj h1 => cmt_lo (Or.inl hj) h1 (by omega) (by omega) (by omega)
  have e1 : a_cmt m (nI p) f o 1 = nI (a_D m + 1) := by
    unfold a_cmt
    rw [opk_lo (Or.inl (by omega)) (by omega), cm1_1, ok_m1 ok, nIs]
  refine ⟨?_, ?_, ?_, ?_, ?_, ?_, ?_, fun q hq => ?_, fun e he => ?_⟩
  · rw [lo 0 (by omega) (by omega)]; exact ok.1
  · rw [e1]; exact a_nb_nI (by omega) (by omega) (by omega)
  · rw [lo 2 (by omega) (by omega)]; exact ok_J ok
  · rw [lo 3 (by omega) (by omega)]; exact ok_F ok
  · rw [lo 4 (by omega) (by omega)]; exact ok_L ok
  · rw [lo 5 (by omega) (by omega)]; exact ok_H ok
  · rw [lo 6 (by omega) (by omega)]; exact ok_T ok
  · rw [eP] at hq
    have w := ok_p ok hq
    obtain ⟨e2, hq2⟩ := ok_c1 ok hq
    have h2 : 2 ^ (a_D m + 1) ≤ 1024 := Nat.pow_le_pow_right (n := 2) (j := 10) (by omega) (by omega)
    have h3 : 2 ^ (a_D m + 1) = 2 ^ a_D m * 2 := Nat.pow_succ ..
    unfold a_okP
    rw [eD, lo (8 + q) (by omega) (by omega), lo (16 + q) (by omega) (by omega), cmt_40 ok hd hq, e2]
    exact ⟨w.1, w.2.1, a_nb_nI (by omega) (by omega) (by omega)⟩
  · rw [eD] at he
    unfold a_okD
    rw [eP]
    by_cases c : e = a_D m
    · obtain ⟨q1, q2, q3, q4, q5, q6⟩ := cmt_48 (m := m) (p := nI p) (f := f) (o := o) hd
      subst c
      rw [q1, q2, q3, q4, q5, q6]
      exact ⟨⟨a_nb_nI (by omega) (by omega) (by omega), by omega⟩, hf, ho, a_nb_nI (n := 0) (by omega) (by omega) (by omega), fun _ => ⟨rfl, rfl⟩, fun w => absurd rfl w⟩
    · have he' : e < a_D m := by omega
      rw [cmt_lo (Or.inr (by omega)) (by omega) (by omega) (by omega) (by omega), cmt_lo (Or.inr (by omega)) (by omega) (by omega) (by omega) (by omega), cmt_lo (Or.inr (by omega)) (by omega) (by omega) (by omega) (by omega), cmt_hi (by omega) hd (by omega) (by omega) (by omega), cmt_hi (by omega) hd (by omega) (by omega) (by omega), cmt_hi (by omega) hd (by omega) (by omega) (by omega)]
      exact ok_d ok he'
theorem xr_ne {S : vSt} {b j j0 o i : Nat} {x : Int32} (hj : j < 108) (h0 : j0 < 108) (hx : a_xr j0 = (o, i)) (n : j ≠ j0) : (v_si S (b + o) i x).1 (b + (a_xr j).1) (a_xr j).2 = S.1 (b + (a_xr j).1) (a_xr j).2 := by
  rw [si1, if_neg]
  rintro ⟨w1, w2⟩
  exact n (a_xr_inj j hj j0 h0 (by rw [hx]; exact Nat.add_left_cancel w1) (by rw [hx]; exact w2))
theorem xr_eq {S : vSt} {b j o i : Nat} {x : Int32} (hx : a_xr j = (o, i)) : (v_si S (b + o) i x).1 (b + (a_xr j).1) (a_xr j).2 = x := by
  rw [hx]; exact si_at
/-- a deed stands at its place -/
theorem R_cmt {S : vSt} {b : Nat} {m : Nat → Int32} {p f o : Int32} (ok : a_ok m) (R : a_R S b m) (hd : a_D m < 10) : a_R (v_si (v_si (v_si (v_si (v_sl (v_si S b 16 (m 1 + 1)) (b + 8) (a_D m) 0) (b + 9) (a_D m) p) (b + 10) (a_D m) f) (b + 11) (a_D m) o) (b + 12) (a_D m) 0) b (a_cmt m p f o) := by
  obtain ⟨eP, eD⟩ := cmt_PD (p := p) (f := f) (o := o) ok
  obtain ⟨q1, q2, q3, q4, q5, q6⟩ := cmt_48 (m := m) (p := p) (f := f) (o := o) hd
  intro j lv
  have hj := a_lv_lt lv
  by_cases c78 : j = 78 + a_D m
  · rw [c78, q4]; exact xr_eq (a_xr78 _ hd)
  rw [xr_ne hj (by omega) (a_xr78 _ hd) c78]
  by_cases c68 : j = 68 + a_D m
  · rw [c68, q3]; exact xr_eq (a_xr68 _ hd)
  rw [xr_ne hj (by omega) (a_xr68 _ hd) c68]
  by_cases c58 : j = 58 + a_D m
  · rw [c58, q2]; exact xr_eq (a_xr58 _ hd)
  rw [xr_ne hj (by omega) (a_xr58 _ hd) c58]
  by_cases c48 : j = 48 + a_D m
  · rw [c48, q1]; exact xr_eq (a_xr48 _ hd)
  rw [xr_ne hj (by omega) (a_xr48 _ hd) c48, sl1]
  by_cases c1 : j = 1
  · rw [c1]
    unfold a_cmt
    rw [opk_lo (Or.inl (by omega)) (by omega), cm1_1]
    exact xr_eq (b := b) (o := 0) (i := 16) (j := 1) rfl
  have e : (v_si S b 16 (m 1 + 1)).1 (b + (a_xr j).1) (a_xr j).2 = S.1 (b + (a_xr j).1) (a_xr j).2 := xr_ne (b := b) (o := 0) (i := 16) (j0 := 1) hj (by omega) rfl c1
  rw [e]
  unfold a_lv at lv
  rw [eP, eD] at lv
  have lv' : a_lv m j := by
    unfold a_lv
    rcases lv with q | q | q | ⟨r1, r2, r3, r4⟩
    · exact Or.inl q
    · exact Or.inr (Or.inl q)
    · exact Or.inr (Or.inr (Or.inl (by omega)))
    · have n : (j - 88) % 10 ≠ a_D m := fun w => r4 (by rw [w]; exact q4)
      refine Or.inr (Or.inr (Or.inr ⟨r1, r2, by omega, ?_⟩))
      rw [cmt_hi (by omega) hd (by omega) (by omega) (by omega)] at r4
      exact r4
  rw [R j lv']
  rcases lv with q | ⟨r1, r2, r3⟩ | ⟨r1, r2, r3⟩ | ⟨r1, r2, r3, r4⟩
  · exact (cmt_lo (Or.inl (by omega)) c1 (by omega) (by omega) (by omega)).symm
  · by_cases w : j < 40
    · exact (cmt_lo (Or.inl w) c1 (by omega) (by omega) (by omega)).symm
    · have := cmt_40 (p := p) (f := f) (o := o) ok hd (q := j - 40) (by omega)
      rw [show 40 + (j - 40) = j by omega] at this
      exact this.symm
  · by_cases w : j < 78
    · exact (cmt_lo (Or.inr (by omega)) c1 c48 c58 c68).symm
    · exact (cmt_hi (by omega) hd c78 (by omega) (by omega)).symm
  · have n : (j - 88) % 10 ≠ a_D m := fun w => r4 (by rw [w]; exact q4)
    exact (cmt_hi (by omega) hd c78 (by omega) (by omega)).symm
/-- its name is 0 -/
def a_zw (w : Option Nat) (f : Nat → Int64) (j : Nat) : Int64 := match w with
  | none => f j
  | some d => if j = d then 0 else f j
def a_cxx (k j : Nat) : Bool := a_cx k j || decide (k = 18)
def a_cmx (k j : Nat) : Bool := a_cmm k j || decide (k = 150)
theorem cxx_w : ∀ k j, a_cxx k j = false → a_cx k j = false := fun k j h => (Bool.or_eq_false_iff.mp h).1
theorem cmx_w : ∀ k j, a_cmx k j = false → a_cmm k j = false := fun k j h => (Bool.or_eq_false_iff.mp h).1
def a_XC (S : vSt) (K : Int32 → vSt → Prop) (o : Int32 × Int32 × (Nat → Int32) × Option Nat) : Prop := ∀ S', a_fr a_cxx S S' → a_R S' 10 o.2.2.1 → S'.1 0 14 = o.2.1 → (∀ j, S'.2 18 j = a_zw o.2.2.2 (S.2 18) j) → K o.1 S'
def a_MC (S : vSt) (K : Int32 → vSt → Prop) (o : Int32 × Int32 × (Nat → Int32) × Option Nat) : Prop := ∀ S', a_fr a_cmx S S' → a_M S' 0 o.2.2.1 → S'.1 143 0 = o.2.1 → (∀ j, S'.2 150 j = a_zw (o.2.2.2.map (8 + ·)) (S.2 150) j) → K o.1 S'
theorem XC_no {S : vSt} {K : Int32 → vSt → Prop} {x : Int32} {st : Int32} {m' : Nat → Int32} (h : a_XC S K (x, st, m', none)) : a_XU S K (x, st, m') := fun S' f R s => h S' (fr_w f cxx_w) R s (fun j => (f 18 j rfl).2)
theorem MC_no {S : vSt} {K : Int32 → vSt → Prop} {x : Int32} {st : Int32} {m' : Nat → Int32} (h : a_MC S K (x, st, m', none)) : a_MU S K (x, st, m') := fun S' f M s => h S' (fr_w f cmx_w) M s (fun j => (f 150 j rfl).2)
def o_commit (m : Nat → Int32) (x y z : Int32) : Int32 × Int32 × (Nat → Int32) × Option Nat := if a_one m x = true then (if a_in 1 999 y = true ∧ a_in 0 16 z = true then (if a_D m < 10 then (m 1, 0, a_cmt m x y z, some (a_D m)) else (-1, 7, m, none)) else (-1, 5, m, none)) else (-1, 2, m, none)
theorem x_commit {S : vSt} {m : Nat → Int32} {x y z : Int32} {K : Int32 → vSt → Prop} (ok : a_ok m) (R : a_R S 10 m) (h : a_XC S K (o_commit m x y z)) : p_X10_commit S x y z K := by
  have h10 := ok_D10 ok
  unfold p_X10_commit p_X10_commit_39
  rw [e_hasPerson R, gd2, gd3]
  unfold o_commit at h
  by_cases g : a_one m x = true
  · rw [if_pos g] at h
    rw [g]
    simp only [eq_self, reduceCtorEq, true_implies, false_implies, and_true, true_and, not_true_eq_false, not_false_eq_true]
    by_cases g2 : a_in 1 999 y = true
    · rw [if_pos g2]
      by_cases g3 : a_in 0 16 z = true
      · rw [if_pos ⟨g2, g3⟩] at h
        rw [if_pos g3, R_1 R, ok_m1 ok]
        by_cases c : a_D m < 10
        · have n1 : nI (a_D m) < 10 := nI_lt (b := 10) c (by omega)
          rw [if_pos c] at h
          simp only [n1, eq_self, reduceCtorEq, true_implies, false_implies, and_true, true_and, not_true_eq_false, not_false_eq_true]
          unfold p_X0_addDeed
          rw [R_1 R]
          rintro _ rfl _ rfl
          rw [ok_m1 ok, e_putl c (by omega), e_put c (by omega), e_put c (by omega), e_put c (by omega), e_put c (by omega)]
          show p_X10_told _ _ _
          rw [e_told]
          have R1 := R_cmt (p := x) (f := y) (o := z) ok R c
          rw [ok_m1 ok] at R1 h
          refine h _ (fr_i (fr_i (fr_i (fr_i (fr_i (fr_l (fr_i fr_r rfl) rfl) rfl) rfl) rfl) rfl) rfl) (R_st R1 (by omega)) si_at (fun j => ?_)
          show (v_sl (v_si S 10 16 (nI (a_D m) + 1)) (10 + 8) (a_D m) 0).2 18 j = _
          rw [sl2]
          unfold a_zw
          by_cases q : j = a_D m
          · rw [if_pos ⟨rfl, q⟩]; exact (if_pos q).symm
          · rw [if_neg (fun w => q w.2)]; exact (if_neg q).symm
        · have n1 : ¬ nI (a_D m) < 10 := nI_nlt (b := 10) (by omega) (by omega)
          rw [if_neg c] at h
          simp only [n1, eq_self, reduceCtorEq, true_implies, false_implies, and_true, true_and, not_true_eq_false, not_false_eq_true]
          exact u_refused fr_r R (XC_no h)
      · rw [if_neg (fun w => g3 w.2)] at h
        rw [if_neg g3]
        exact u_refused fr_r R (XC_no h)
    · rw [if_neg (fun w => g2 w.1)] at h
      rw [if_neg g2]
      exact u_refused fr_r R (XC_no h)
  · rw [if_neg g] at h
    rw [Bool.not_eq_true] at g
    rw [g]
    simp only [eq_self, reduceCtorEq, true_implies, false_implies, and_true, true_and, not_true_eq_false, not_false_eq_true]
    exact u_refused fr_r R (XC_no h)