/-! small sets: their bits, how many are in them -/
theorem bt_nI {q i : Nat} (hi : i < 32) : bt (nI q) i = q.testBit i := by
  show (BitVec.ofNat 32 q).getLsbD i = _
  rw [BitVec.getLsbD_ofNat, decide_eq_true hi, Bool.true_and]
def a_cnt (q n : Nat) : Nat := a_sum (fun j => if q.testBit j = true then 1 else 0) n
def a_bc (a : Int32) : Int32 :=
  let y6 := a - (((Int32.toUInt32 a) >>> ((Int32.toUInt32 1) &&& Int32.toUInt32 31)).toInt32 &&& 1431655765)
  let y7 := (y6 &&& 858993459) + ((((Int32.toUInt32 y6) >>> ((Int32.toUInt32 2) &&& Int32.toUInt32 31)).toInt32) &&& 858993459)
  let y8 := (y7 + (((Int32.toUInt32 y7) >>> ((Int32.toUInt32 4) &&& Int32.toUInt32 31)).toInt32)) &&& 252645135
  let y9 := y8 + (((Int32.toUInt32 y8) >>> ((Int32.toUInt32 8) &&& Int32.toUInt32 31)).toInt32)
  let y10 := y9 + (((Int32.toUInt32 y9) >>> ((Int32.toUInt32 16) &&& Int32.toUInt32 31)).toInt32)
  y10 &&& 63
theorem bc_cnt : ∀ q, q < 1024 → a_bc (nI q) = nI (a_cnt q 10) := by decide +kernel
theorem x_bitCount {S : vSt} {q : Nat} {K : Int32 → vSt → Prop} (hq : q < 1024) : p_J6_bitCount_0f7a4 S (nI q) K = K (nI (a_cnt q 10)) S := by
  rw [← bc_cnt q hq]
  unfold p_J6_bitCount_0f7a4
  simp only [forall_eq]
  rfl
theorem cnt_le (q : Nat) : ∀ n, a_cnt q n ≤ n
  | 0 => Nat.le_refl _
  | n + 1 => by
    have h := cnt_le q n
    show a_cnt q n + (if q.testBit n = true then 1 else 0) ≤ n + 1
    split <;> omega
theorem sum_eq {f g : Nat → Nat} : ∀ n, (∀ j, j < n → f j ≤ g j) → a_sum f n = a_sum g n → ∀ j, j < n → f j = g j
  | 0, _, _, j, hj => absurd hj (by omega)
  | n + 1, h, e, j, hj => by
    have h1 := sum_le n (fun j hj => h j (show j < n + 1 by omega))
    have h2 := h n (by omega)
    have e : a_sum f n + f n = a_sum g n + g n := e
    by_cases q : j = n
    · subst q; omega
    · exact sum_eq n (fun j hj => h j (by omega)) (by omega) j (by omega)
theorem cnt_lt {a b : Nat} (ha : a < 1024) (hb : b < 1024) (h : ∀ j, a.testBit j = true → b.testBit j = true) (n : a ≠ b) : a_cnt a 10 < a_cnt b 10 := by
  have pt : ∀ j, j < 10 → (if a.testBit j = true then 1 else 0) ≤ (if b.testBit j = true then 1 else 0) := by
    intro j _
    by_cases q : a.testBit j = true
    · rw [if_pos q, if_pos (h j q)]; exact Nat.le_refl 1
    · rw [if_neg q]; exact Nat.zero_le _
  have h1 : a_cnt a 10 ≤ a_cnt b 10 := sum_le 10 pt
  rcases Nat.lt_or_eq_of_le h1 with q | q
  · exact q
  · refine absurd (Nat.eq_of_testBit_eq (fun j => ?_)) n
    by_cases hj : j < 10
    · have e := sum_eq 10 pt q j hj
      cases c : a.testBit j <;> cases d : b.testBit j <;> simp [c, d] at e ⊢
    · have h2 : 2 ^ 10 ≤ 2 ^ j := Nat.pow_le_pow_right (by omega) (by omega)
      rw [Nat.testBit_lt_two_pow (by omega), Nat.testBit_lt_two_pow (by omega)]
theorem and_not {a b c : Nat} (hc : c < 1024) (ha : a < 1024) (h : ∀ j, j < 10 → c.testBit j = (a.testBit j && !b.testBit j)) : nI a &&& (nI b ^^^ (-1)) = nI c := by
  refine b_ext (fun i hi => ?_)
  rw [b_and, b_xor, b_m1 i hi, bt_nI hi, bt_nI hi, bt_nI hi]
  by_cases hj : i < 10
  · rw [h i hj]; simp
  · have h2 : 2 ^ 10 ≤ 2 ^ i := Nat.pow_le_pow_right (by omega) (by omega)
    rw [Nat.testBit_lt_two_pow (show a < 2 ^ i by omega), Nat.testBit_lt_two_pow (show c < 2 ^ i by omega)]
    rfl
/-! sets of people -/
def a_isS (m : Nat → Int32) (x : Int32) : Bool := decide (¬ x < 0 ∧ ¬ nI (2 ^ a_P m) ≤ x)
theorem pow_P {m : Nat → Int32} (ok : a_ok m) : 2 ^ a_P m ≤ 256 := Nat.pow_le_pow_right (n := 2) (by omega) (ok_P8 ok)
theorem isS_t {m : Nat → Int32} {x : Int32} (ok : a_ok m) (g : a_isS m x = true) : ∃ q, q < 2 ^ a_P m ∧ x = nI q ∧ a_n x = q := by
  have h := of_decide_eq_true g
  have := pow_P ok
  exact nI_cut (by omega) h.1 h.2
theorem x_isSet {S : vSt} {m : Nat → Int32} {x : Int32} {K : Bool → vSt → Prop} (ok : a_ok m) (R : a_R S 10 m) : p_X0_isSet 10 S x K = K (a_isS m x) S := by
  have h8 := ok_P8 ok
  unfold p_X0_isSet a_isS
  rw [R_0 R, ok_m0 ok, bit_1 _ (by omega)]
  by_cases c : x < 0 <;> by_cases d : nI (2 ^ a_P m) ≤ x <;> simp [c, d]
theorem a_in_p1 {x : Int32} {N : Nat} (h0 : 0 < N) (hN : N < 2 ^ 31) : a_in 0 (nI N - 1) x = decide (¬ x < 0 ∧ ¬ nI N ≤ x) := by
  unfold a_in
  have e : (nI N - 1 : Int32) = nI (N - 1) := pk_sub (b := 1) h0
  rw [e]
  have e1 : (nI (N - 1)).toInt = (N - 1 : Nat) := nI_toInt (by omega)
  have e2 : (nI N).toInt = N := nI_toInt (by omega)
  simp only [Int32.le_iff_toInt_le, Int32.lt_iff_toInt_lt, e1, e2, Int32.toInt_zero]
  rw [decide_eq_decide]
  omega
/-! who stays in a club -/
def a_ds (m : Nat → Int32) (q n : Nat) : Nat := a_sum (fun p => if q.testBit p = true then a_da m p else 0) n
def a_go (m : Nat → Int32) (q p : Nat) : Bool := decide (a_da m p * a_cnt q 10 < a_ds m q (a_P m))
def a_stay (m : Nat → Int32) (q : Nat) : Nat := a_ns (fun p => q.testBit p && !a_go m q p) (a_P m)
def a_leave (m : Nat → Int32) (q : Nat) : Nat := a_ns (fun p => q.testBit p && a_go m q p) (a_P m)
def a_cl (m : Nat → Int32) : Nat → Nat → Nat
  | 0, q => q
  | r + 1, q => if a_stay m q = q then q else a_cl m r (a_stay m q)
theorem da_50 {m : Nat → Int32} (ok : a_ok m) (p : Nat) : a_da m p ≤ 2 ^ 50 := da_le ok (Nat.le_refl _)
theorem ds_le {m : Nat → Int32} (ok : a_ok m) (q : Nat) {n : Nat} (hn : n ≤ a_P m) : a_ds m q n ≤ 8 * 2 ^ 50 := by
  have h8 := ok_P8 ok
  have h1 := sum_bd n (f := fun p => if q.testBit p = true then a_da m p else 0) (c := 2 ^ 50) (fun j hj => by
    show (if q.testBit j = true then a_da m j else 0) ≤ 2 ^ 50
    split
    · exact da_50 ok j
    · exact Nat.zero_le _)
  have h2 : n * 2 ^ 50 ≤ 8 * 2 ^ 50 := Nat.mul_le_mul_right _ (Nat.le_trans hn h8)
  exact Nat.le_trans h1 h2
theorem fit_ds {m : Nat → Int32} (ok : a_ok m) (q : Nat) : a_fit (a_ds m q (a_P m)) := by
  have := ds_le ok q (Nat.le_refl (a_P m))
  unfold a_fit; omega
theorem fit_dc {m : Nat → Int32} (ok : a_ok m) (q p : Nat) : a_fit ((a_da m p * a_cnt q 10 : Nat) : Int) := by
  have h1 := da_50 ok p
  have h2 := cnt_le q 10
  have h3 : a_da m p * a_cnt q 10 ≤ 2 ^ 50 * 10 := Nat.mul_le_mul h1 h2
  unfold a_fit; omega
theorem stay_lt {m : Nat → Int32} (ok : a_ok m) (q : Nat) : a_stay m q < 256 := Nat.lt_of_lt_of_le (ns_lt _ _) (pow_P ok)
theorem leave_lt {m : Nat → Int32} (ok : a_ok m) (q : Nat) : a_leave m q < 256 := Nat.lt_of_lt_of_le (ns_lt _ _) (pow_P ok)
theorem q_bit {m : Nat → Int32} {q : Nat} (hq : q < 2 ^ a_P m) {j : Nat} (hj : ¬ j < a_P m) : q.testBit j = false := by
  have h2 : 2 ^ a_P m ≤ 2 ^ j := Nat.pow_le_pow_right (by omega) (by omega)
  exact Nat.testBit_lt_two_pow (by omega)
theorem stay_bit {m : Nat → Int32} {q : Nat} (hq : q < 2 ^ a_P m) (j : Nat) : (a_stay m q).testBit j = (q.testBit j && !(a_leave m q).testBit j) := by
  unfold a_stay a_leave
  rw [ns_bit, ns_bit]
  by_cases hj : j < a_P m
  · rw [decide_eq_true hj]
    cases q.testBit j <;> cases a_go m q j <;> rfl
  · rw [decide_eq_false hj, q_bit hq hj]; rfl
theorem leave_0 {m : Nat → Int32} {q : Nat} (hq : q < 2 ^ a_P m) : a_leave m q = 0 ↔ a_stay m q = q := by
  constructor
  · intro e
    refine Nat.eq_of_testBit_eq (fun j => ?_)
    rw [stay_bit hq, e, Nat.zero_testBit]
    simp
  · intro e
    refine Nat.eq_of_testBit_eq (fun j => ?_)
    have h := stay_bit hq j
    rw [e] at h
    rw [Nat.zero_testBit]
    cases c : (a_leave m q).testBit j
    · rfl
    · rw [c] at h
      unfold a_leave at c
      rw [ns_bit] at c
      simp only [Bool.and_eq_true] at c
      rw [c.2.1] at h
      exact Bool.noConfusion h
theorem x_setClub {S : vSt} {m : Nat → Int32} {K : vSt → Prop} (ok : a_ok m) (R : a_R S 10 m) (s : a_seen S m) (h : ∀ S', a_fr (a_ro 71) S S' → (∀ p, p < a_P m → S'.2 71 p = lI (a_da m p)) → K S') : p_X2_setClub S K := by
  have h8 := ok_P8 ok
  unfold p_X2_setClub
  refine v_loop (fun fu i (s : vSt) => p_X2_setClub_2 K fu s (nI i)) (fun i s => a_fr (a_ro 71) S s ∧ ∀ p, p < i → s.2 71 p = lI (a_da m p)) (a_P m) (fun fu i s2 hi hI hk => ?_) (fun fu s2 hI => ?_) S ⟨fr_r, fun p hp => absurd hp (by omega)⟩
  · obtain ⟨f, g⟩ := hI
    have R1 := R_x R (fr_w f (ro_sx (by omega)))
    have s1 := seen_fr s f (fun k j h1 h2 => decide_eq_false (by omega))
    have h1 : ¬ nI (a_P m) ≤ nI i := nI_ge hi (by omega)
    simp only [e_X2_setClub_2, R_0 R1, ok_m0 ok, h1, eq_self, reduceCtorEq, true_implies, false_implies, and_true, true_and, not_true_eq_false, not_false_eq_true]
    refine x_dreadOf ok R1 s1 ?_
    rw [e_putl (show i < 8 by omega) (by omega)]
    simp only [forall_eq, nIs]
    refine hk _ ⟨fr_l f ro_at, fun p hp => ?_⟩
    rw [sl2]
    by_cases e : p = i
    · rw [if_pos ⟨rfl, e⟩, e]
    · rw [if_neg (fun w => e w.2)]; exact g p (by omega)
  · obtain ⟨f, g⟩ := hI
    have R1 := R_x R (fr_w f (ro_sx (by omega)))
    simp only [e_X2_setClub_2, R_0 R1, ok_m0 ok, Int32.le_refl, eq_self, reduceCtorEq, true_implies, false_implies, and_true, true_and, not_true_eq_false, not_false_eq_true]
    exact h s2 f g
theorem x_sumOfDreads {S : vSt} {m : Nat → Int32} {q : Nat} {K : Int64 → vSt → Prop} (ok : a_ok m) (R : a_R S 10 m) (g : ∀ p, p < a_P m → S.2 71 p = lI (a_da m p)) (hq : q < 2 ^ a_P m) (h : K (lI (a_ds m q (a_P m))) S) : p_X2_sumOfDreads S (nI q) K := by
  have h8 := ok_P8 ok
  have hP := pow_P ok
  unfold p_X2_sumOfDreads
  refine v_loop (fun fu i (z : Int64) => p_X2_sumOfDreads_5 (nI q) K fu S z (nI i)) (fun i z => z = lI (a_ds m q i)) (a_P m) (fun fu i z hi hI hk => ?_) (fun fu z hI => ?_) 0 rfl
  · have h1 : ¬ nI (a_P m) ≤ nI i := nI_ge hi (by omega)
    subst hI
    simp only [e_X2_sumOfDreads_5, R_0 R, ok_m0 ok, h1, eq_self, reduceCtorEq, true_implies, false_implies, and_true, true_and, not_true_eq_false, not_false_eq_true, e_xisIn (show i < 31 by omega), bit_at q (show q < 1024 by omega) i (show i < 10 by omega), e_atl (show i < 8 by omega) (show 8 < 2 ^ 31 by omega), g i hi]
    unfold p_X2_sumOfDreads_40
    have e : a_ds m q (i + 1) = a_ds m q i + (if q.testBit i = true then a_da m i else 0) := rfl
    cases b : q.testBit i
    · simp only [eq_self, reduceCtorEq, true_implies, false_implies, and_true, true_and, not_true_eq_false, not_false_eq_true, forall_eq, nIs]
      refine hk _ ?_
      rw [e, b, if_neg (by decide), Nat.add_zero, Int64.add_zero]
    · simp only [eq_self, reduceCtorEq, true_implies, false_implies, and_true, true_and, not_true_eq_false, not_false_eq_true, forall_eq, nIs]
      refine hk _ ?_
      rw [e, b, if_pos rfl, lI_add, Int.natCast_add]
  · subst hI
    simp only [e_X2_sumOfDreads_5, R_0 R, ok_m0 ok, Int32.le_refl, eq_self, reduceCtorEq, true_implies, false_implies, and_true, true_and, not_true_eq_false, not_false_eq_true]
    exact h
theorem x_leavers {S : vSt} {m : Nat → Int32} {q : Nat} {K : Int32 → vSt → Prop} (ok : a_ok m) (R : a_R S 10 m) (g : ∀ p, p < a_P m → S.2 71 p = lI (a_da m p)) (hq : q < 2 ^ a_P m) (h : K (nI (a_leave m q)) S) : p_X2_leavers S (nI q) K := by
  have h8 := ok_P8 ok
  have hP := pow_P ok
  unfold p_X2_leavers
  refine x_sumOfDreads ok R g hq ?_
  rw [x_bitCount (show q < 1024 by omega)]
  refine v_loop (fun fu i (z : Int32) => p_X2_leavers_18 (nI q) K fu S (lI (a_ds m q (a_P m))) (nI (a_cnt q 10)) z (nI i)) (fun i z => z = v_set (fun p => q.testBit p && a_go m q p) i) (a_P m) (fun fu i z hi hI hk => ?_) (fun fu z hI => ?_) 0 rfl
  · have h1 : ¬ nI (a_P m) ≤ nI i := nI_ge hi (by omega)
    have hc := cnt_le q 10
    subst hI
    have e : v_set (fun p => q.testBit p && a_go m q p) (i + 1) = v_set (fun p => q.testBit p && a_go m q p) i ||| (if (q.testBit i && a_go m q i) = true then 1 <<< (nI i &&& 31) else 0) := rfl
    simp only [e_X2_leavers_18, R_0 R, ok_m0 ok, h1, eq_self, reduceCtorEq, true_implies, false_implies, and_true, true_and, not_true_eq_false, not_false_eq_true, e_xisIn (show i < 31 by omega), bit_at q (show q < 1024 by omega) i (show i < 10 by omega), e_atl (show i < 8 by omega) (show 8 < 2 ^ 31 by omega), g i hi]
    unfold p_X2_leavers_66
    simp only [forall_eq, nIs, nI_lI (show a_cnt q 10 < 2 ^ 31 by omega), lI_mul, ← Int.natCast_mul, lI_le (fit_ds ok q) (fit_dc ok q i)]
    cases b : q.testBit i
    · simp only [eq_self, reduceCtorEq, true_implies, false_implies, and_true, true_and, not_true_eq_false, not_false_eq_true]
      refine hk _ ?_
      rw [e, b, Bool.false_and, if_neg (by decide), Int32.or_zero]
    · simp only [eq_self, reduceCtorEq, true_implies, false_implies, and_true, true_and, not_true_eq_false, not_false_eq_true]
      by_cases c : a_da m i * a_cnt q 10 < a_ds m q (a_P m)
      · have c' : ¬ (a_ds m q (a_P m) : Int) ≤ ((a_da m i * a_cnt q 10 : Nat) : Int) := by omega
        have eg : a_go m q i = true := decide_eq_true c
        simp only [c', eq_self, reduceCtorEq, true_implies, false_implies, and_true, true_and, not_true_eq_false, not_false_eq_true]
        refine hk _ ?_
        rw [e, b, eg]
        rfl
      · have c' : (a_ds m q (a_P m) : Int) ≤ ((a_da m i * a_cnt q 10 : Nat) : Int) := by omega
        have eg : a_go m q i = false := decide_eq_false c
        simp only [c', eq_self, reduceCtorEq, true_implies, false_implies, and_true, true_and, not_true_eq_false, not_false_eq_true]
        refine hk _ ?_
        rw [e, eg, Bool.and_false, if_neg (by decide), Int32.or_zero]
  · subst hI
    simp only [e_X2_leavers_18, R_0 R, ok_m0 ok, Int32.le_refl, eq_self, reduceCtorEq, true_implies, false_implies, and_true, true_and, not_true_eq_false, not_false_eq_true]
    rw [set_ns _ _ (by omega)]
    exact h
theorem stay_2P {m : Nat → Int32} (q : Nat) : a_stay m q < 2 ^ a_P m := ns_lt _ _
theorem x_stayers {S : vSt} {m : Nat → Int32} {q : Nat} {K : Int32 → vSt → Prop} (ok : a_ok m) (R : a_R S 10 m) (g : ∀ p, p < a_P m → S.2 71 p = lI (a_da m p)) (hq : q < 2 ^ a_P m) (h : K (nI (a_cl m 9 q)) S) : p_X2_stayers S (nI q) K := by
  have hP := pow_P ok
  unfold p_X2_stayers
  refine v_loop (fun fu i (z : Int32) => p_X2_stayers_4 (nI q) K fu S z (nI i)) (fun i z => ∃ q', q' < 2 ^ a_P m ∧ z = nI q' ∧ a_cl m (9 - i) q' = a_cl m 9 q) 9 (fun fu i z hi hI hk => ?_) (fun fu z hI => ?_) (nI q) ⟨q, hq, rfl, rfl⟩
  · obtain ⟨q', h1, rfl, e⟩ := hI
    have h2 : ¬ 8 < nI i := nI_nlt (a := 8) (by omega) (by omega)
    simp only [e_X2_stayers_4, h2, eq_self, reduceCtorEq, true_implies, false_implies, and_true, true_and, not_true_eq_false, not_false_eq_true]
    refine x_leavers ok R g h1 ?_
    have el := leave_lt ok q'
    rw [show 9 - i = (9 - (i + 1)) + 1 by omega] at e
    have e : (if a_stay m q' = q' then q' else a_cl m (9 - (i + 1)) (a_stay m q')) = a_cl m 9 q := e
    by_cases c : a_leave m q' = 0
    · have c' : nI (a_leave m q') = 0 := by rw [c]; rfl
      rw [if_pos ((leave_0 h1).mp c)] at e
      simp only [c', eq_self, reduceCtorEq, true_implies, false_implies, and_true, true_and, not_true_eq_false, not_false_eq_true]
      rw [e]; exact h
    · have c' : ¬ nI (a_leave m q') = 0 := nI_ne0 (by omega) (by omega)
      rw [if_neg (fun w => c ((leave_0 h1).mpr w))] at e
      simp only [c', eq_self, reduceCtorEq, true_implies, false_implies, and_true, true_and, not_true_eq_false, not_false_eq_true, forall_eq, nIs]
      refine hk _ ⟨a_stay m q', stay_2P q', ?_, e⟩
      exact and_not (by have := stay_lt ok q'; omega) (by omega) (fun j _ => stay_bit h1 j)
  · obtain ⟨q', h1, rfl, e⟩ := hI
    have h2 : 8 < nI 9 := by decide
    simp only [e_X2_stayers_4, h2, eq_self, reduceCtorEq, true_implies, false_implies, and_true, true_and, not_true_eq_false, not_false_eq_true]
    have e : q' = a_cl m 9 q := e
    rw [e]; exact h
def o_club (m : Nat → Int32) (x : Int32) : Int32 × Int32 × Option (Int64 × Int64) := if a_isS m x = true then (nI (a_cl m 9 (a_n x)), 0, none) else (-1, 5, none)
theorem x_club {S : vSt} {m : Nat → Int32} {x : Int32} {K : Int32 → vSt → Prop} (ok : a_ok m) (R : a_R S 10 m) (h : a_XK S K (o_club m x)) : p_X10_club S x K := by
  unfold p_X10_club
  rw [x_isSet ok R]
  unfold o_club at h
  by_cases g : a_isS m x = true
  · obtain ⟨q, hq, rfl, e⟩ := isS_t ok g
    rw [if_pos g, e] at h
    rw [g]
    simp only [eq_self, reduceCtorEq, true_implies, false_implies, and_true, true_and, not_true_eq_false, not_false_eq_true]
    refine x_see ok R (fun S1 f1 s1 => ?_)
    refine x_setClub ok (R_x R f1) s1 (fun S2 f2 g2 => ?_)
    have f2' := fr_t f1 (fr_w f2 (ro_sx (by omega)))
    refine x_stayers ok (R_x R f2') g2 hq ?_
    exact x_told f2' h
  · rw [if_neg g] at h
    rw [Bool.not_eq_true] at g
    rw [g]
    simp only [eq_self, reduceCtorEq, true_implies, false_implies, and_true, true_and, not_true_eq_false, not_false_eq_true]
    exact x_refused fr_r h
def o_part (m : Nat → Int32) (x : Int32) : Bool × Int32 × Option (Int64 × Int64) := if a_isS m x = true ∧ x ≠ 0 then (true, 0, a_frac (a_ds m (a_n x) (a_P m)) (a_all m * a_cnt (a_n x) 10)) else (false, 5, none)
theorem cnt_0 {q : Nat} (hq : q < 1024) (h : q ≠ 0) : 0 < a_cnt q 10 := by
  have e : a_cnt 0 10 = 0 := by decide
  rw [← e]
  exact cnt_lt (by omega) hq (fun j w => by rw [Nat.zero_testBit] at w; exact Bool.noConfusion w) (Ne.symm h)
theorem ac_40 {m : Nat → Int32} (ok : a_ok m) {q : Nat} (hq : q < 1024) (h : q ≠ 0) : 0 < a_all m * a_cnt q 10 ∧ a_all m * a_cnt q 10 < 2 ^ 40 := by
  have h1 := all_le ok
  have h2 := cnt_le q 10
  have h3 : a_all m * a_cnt q 10 ≤ 2 ^ 36 * 10 := Nat.mul_le_mul h1 h2
  exact ⟨Nat.mul_pos (all_pos m) (cnt_0 hq h), by omega⟩
theorem x_clubPart {S : vSt} {m : Nat → Int32} {x : Int32} {K : Bool → vSt → Prop} (ok : a_ok m) (R : a_R S 10 m) (h : a_XK S K (o_part m x)) : p_X10_clubPart S x K := by
  have hP := pow_P ok
  unfold p_X10_clubPart p_X10_clubPart_15
  rw [x_isSet ok R]
  unfold o_part at h
  by_cases z : x = 0
  · rw [if_neg (fun w => w.2 z)] at h
    simp only [z, eq_self, reduceCtorEq, true_implies, false_implies, and_true, true_and, not_true_eq_false, not_false_eq_true]
    exact x_settled fr_r h
  · simp only [z, eq_self, reduceCtorEq, true_implies, false_implies, and_true, true_and, not_true_eq_false, not_false_eq_true]
    by_cases g : a_isS m x = true
    · obtain ⟨q, hq, rfl, e⟩ := isS_t ok g
      rw [if_pos ⟨g, z⟩, e] at h
      have q0 : q ≠ 0 := fun w => z (by rw [w]; rfl)
      have hc := cnt_le q 10
      rw [g]
      simp only [eq_self, reduceCtorEq, true_implies, false_implies, and_true, true_and, not_true_eq_false, not_false_eq_true]
      refine x_see ok R (fun S1 f1 s1 => ?_)
      refine x_setClub ok (R_x R f1) s1 (fun S2 f2 g2 => ?_)
      have f2' := fr_t f1 (fr_w f2 (ro_sx (by omega)))
      refine x_sumOfDreads ok (R_x R f2') g2 hq ?_
      rw [x_whole ok (R_x R f2'), x_bitCount (show q < 1024 by omega), nI_l (by omega), lN_mul]
      obtain ⟨u1, u2⟩ := ac_40 ok (show q < 1024 by omega) q0
      exact x_tell f2' (fit_ds ok q) u1 u2 h
    · rw [if_neg (fun w => g w.1)] at h
      rw [Bool.not_eq_true] at g
      rw [g]
      simp only [eq_self, reduceCtorEq, true_implies, false_implies, and_true, true_and, not_true_eq_false, not_false_eq_true]
      exact x_settled fr_r h
/-! the model's club -/
theorem cl_fix {m : Nat → Int32} (ok : a_ok m) : ∀ r q, q < 2 ^ a_P m → a_cnt q 10 < r → a_cl m (r + 1) q = a_cl m r q
  | 0, _, _, h => absurd h (by omega)
  | r + 1, q, hq, h => by
    have hP := pow_P ok
    have hs := stay_2P (m := m) q
    show (if a_stay m q = q then q else a_cl m (r + 1) (a_stay m q)) = (if a_stay m q = q then q else a_cl m r (a_stay m q))
    by_cases c : a_stay m q = q
    · rw [if_pos c, if_pos c]
    · rw [if_neg c, if_neg c]
      have := cnt_lt (a := a_stay m q) (b := q) (by omega) (by omega) (fun j w => by rw [stay_bit hq, Bool.and_eq_true] at w; exact w.1) c
      exact cl_fix ok r _ hs (by omega)
theorem cnt_P {m : Nat → Int32} (ok : a_ok m) {q : Nat} (hq : q < 2 ^ a_P m) : a_cnt q 10 ≤ 8 := by
  have h8 := ok_P8 ok
  have e : a_cnt q 10 = a_cnt q 8 := by
    show a_cnt q 8 + (if q.testBit 8 = true then 1 else 0) + (if q.testBit 9 = true then 1 else 0) = a_cnt q 8
    rw [q_bit hq (show ¬ 8 < a_P m by omega), q_bit hq (show ¬ 9 < a_P m by omega)]
    rfl
  rw [e]
  exact cnt_le q 8