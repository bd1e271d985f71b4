/-! drop -/
def a_drp (m : Nat → Int32) (p d : Nat) (z : Int32) : Nat → Int32 := a_set (a_pays (a_pays m (8 + a_o m d) (-z)) (8 + p) z) (40 + p) (m (40 + p) ||| 1 <<< (nI d &&& 31))
def a_mdr (m : Nat → Int32) (p d : Nat) (z : Int32) : Bool := a_can m p d && !decide (m (8 + a_o m d) < z)
theorem drp_PD {m : Nat → Int32} {p d : Nat} {z : Int32} : a_P (a_drp m p d z) = a_P m ∧ a_D (a_drp m p d z) = a_D m := by
  unfold a_drp
  rw [a_P_set (by omega), pays_P (by omega), pays_P (by omega), a_D_set (by omega), pays_D (by omega), pays_D (by omega)]
  exact ⟨rfl, rfl⟩
theorem drp_ne {m : Nat → Int32} {p d i : Nat} {z : Int32} (h1 : i ≠ 40 + p) (h2 : i ≠ 8 + p) (h3 : i ≠ 8 + a_o m d) : a_drp m p d z i = m i := by
  unfold a_drp
  rw [a_set_ne h1, pays_ne h2, pays_ne h3]
theorem ok_drp {m : Nat → Int32} {p d : Nat} {z : Int32} (ok : a_ok m) (hp : p < a_P m) (hd : d < a_D m) : a_ok (a_drp m p d z) := by
  have h8 := ok_P8 ok
  have h10 := ok_D10 ok
  have ho := (ok_o ok hd).2
  have ok1 := ok_coin ok ho (-z)
  have ok2 := ok_coin ok1 (p := p) (by rw [pays_P (by omega)]; exact hp) z
  obtain ⟨e, hq⟩ := ok_c1 ok hp
  have hq2 : 2 ^ a_D m ≤ 1024 := Nat.pow_le_pow_right (n := 2) (j := 10) (by omega) h10
  refine ok_set ok2 (by omega) (by omega) (fun e => absurd e (by omega)) (fun e => absurd e (by omega)) (fun e => absurd e (by omega)) (fun e => absurd e (by omega)) (fun e => absurd e (by omega)) (fun q hq e => absurd e (by rw [pays_P (by omega), pays_P (by omega)] at hq; omega)) (fun q hq e => absurd e (by rw [pays_P (by omega), pays_P (by omega)] at hq; omega)) (fun q _ _ => ?_)
  rw [pays_D (by omega), pays_D (by omega), e, bit_1 d (by omega), bit_or _ (by omega) d (by omega)]
  have hl : a_n (m (40 + p)) ||| 2 ^ d < 2 ^ a_D m := Nat.or_lt_two_pow hq (Nat.pow_lt_pow_right (by omega) hd)
  exact a_nb_nI (by omega) (by omega) (by omega)
theorem x_mayDrop {S : vSt} {b p d : Nat} {m : Nat → Int32} {z : Int32} {K : Bool → vSt → Prop} (ok : a_ok m) (R : a_R S b m) (hp : p < a_P m) (hd : d < a_D m) : p_X0_mayDrop b S (nI p) (nI d) z K = K (a_mdr m p d z) S := by
  have h8 := ok_P8 ok
  have h10 := ok_D10 ok
  obtain ⟨eo, ho⟩ := ok_o ok hd
  unfold p_X0_mayDrop a_mdr
  rw [x_mayCharge ok R hp hd, e_at (show d < 10 by omega) (by omega), R_48 R hd h10, eo, e_at (show a_o m d < 8 by omega) (by omega), R_8 R ho h8]
  cases a_can m p d
  · simp
  · by_cases c : m (8 + a_o m d) < z <;> simp [c]
theorem x_settle {S : vSt} {b p d : Nat} {m : Nat → Int32} {z : Int32} {K : vSt → Prop} (ok : a_ok m) (R : a_R S b m) (hp : p < a_P m) (hd : d < a_D m) (h : ∀ S', a_fr (a_sc b) S S' → a_R S' b (a_drp m p d z) → K S') : p_X0_settle b S (nI p) (nI d) z K := by
  have h8 := ok_P8 ok
  have h10 := ok_D10 ok
  obtain ⟨eo, ho⟩ := ok_o ok hd
  unfold p_X0_settle
  rw [e_at (show d < 10 by omega) (by omega), R_48 R hd h10, eo]
  refine x_give ok R ho (fun S1 f1 R1 => ?_)
  have ok1 := ok_coin ok ho (-z)
  refine x_give ok1 R1 (p := p) (by rw [pays_P (by omega)]; exact hp) (fun S2 f2 R2 => ?_)
  rw [e_at (show p < 8 by omega) (by omega), R_40 R2 (by rw [pays_P (by omega), pays_P (by omega)]; exact hp) (by rw [pays_P (by omega), pays_P (by omega)]; exact h8), pays_ne (by omega), pays_ne (by omega), e_put (show p < 8 by omega) (by omega)]
  exact h _ (fr_t f1 (fr_i f2 (sc_t (by omega)))) (R_set R2 (by omega) (by omega) (a_xr40 p (by omega)))
def o_drop (m : Nat → Int32) (x y z : Int32) : Int32 × Int32 × (Nat → Int32) := if (a_one m x && a_two m y) = true then (if a_in 0 9999 z = true then (if a_mdr m (a_n x) (a_n y) z = true then (a_drp m (a_n x) (a_n y) z (8 + a_n x), 0, a_drp m (a_n x) (a_n y) z) else (-1, 9, m)) else (-1, 5, m)) else (-1, 2, m)
theorem x_drop {S : vSt} {m : Nat → Int32} {x y z : Int32} {K : Int32 → vSt → Prop} (ok : a_ok m) (R : a_R S 10 m) (h : a_XU S K (o_drop m x y z)) : p_X10_drop S x y z K := by
  have h8 := ok_P8 ok
  unfold p_X10_drop p_X10_drop_26
  rw [e_areThere R]
  unfold o_drop at h
  by_cases g : (a_one m x && a_two m y) = true
  · obtain ⟨p, d, hp, hd, rfl, rfl, e1, e2⟩ := a_both_t ok g
    rw [if_pos g, e1, e2] at h
    rw [g]
    simp only [eq_self, reduceCtorEq, true_implies, false_implies, and_true, true_and, not_true_eq_false, not_false_eq_true, gd2]
    by_cases g2 : a_in 0 9999 z = true
    · rw [if_pos g2] at h
      rw [if_pos g2, x_mayDrop ok R hp hd]
      cases c : a_mdr m p d z
      · rw [c, if_neg (by decide)] at h
        simp only [eq_self, reduceCtorEq, true_implies, false_implies, and_true, true_and, not_true_eq_false, not_false_eq_true]
        exact u_refused fr_r R h
      · rw [c, if_pos rfl] at h
        simp only [eq_self, reduceCtorEq, true_implies, false_implies, and_true, true_and, not_true_eq_false, not_false_eq_true]
        refine x_settle ok R hp hd (fun S1 f1 R1 => ?_)
        have q := (drp_PD (m := m) (p := p) (d := d) (z := z)).1
        rw [e_at (show p < 8 by omega) (by omega), R_8 (b := 10) R1 (by rw [q]; exact hp) (by rw [q]; exact h8)]
        exact u_told (fr_w f1 cx_w) R1 h
    · rw [if_neg g2] at h ⊢
      exact u_refused fr_r R h
  · rw [if_neg g] at h
    rw [Bool.not_eq_true] at g
    rw [g]
    simp only [eq_self, reduceCtorEq, true_implies, false_implies, and_true, true_and, not_true_eq_false, not_false_eq_true]
    exact u_refused fr_r R h
/-! a deed is open, as if it was not heard -/
def a_off (x : Int32) (d : Nat) : Int32 := x &&& (nI (2 ^ d) ^^^ (-1))
def a_opk (m : Nat → Int32) (d k : Nat) : Nat → Int32 := fun j => if 40 ≤ j ∧ j < 40 + k then a_off (m j) d else a_hd3 m d 0 (-1) (-1) j
theorem off_n {q d D : Nat} (hq : q < 2 ^ D) (hD : D ≤ 10) (hd : d < 10) : ∃ c, c < 2 ^ D ∧ a_off (nI q) d = nI c ∧ (q.testBit d = false → c = q) := by
  have h2 : 2 ^ D ≤ 1024 := Nat.pow_le_pow_right (n := 2) (j := 10) (by omega) hD
  have bits : ∀ j, (a_ns (fun j => q.testBit j && !(2 ^ d).testBit j) 10).testBit j = (q.testBit j && !(2 ^ d).testBit j) := by
    intro j
    rw [ns_bit]
    by_cases hj : j < 10
    · rw [decide_eq_true hj, Bool.true_and]
    · have h3 : 2 ^ 10 ≤ 2 ^ j := Nat.pow_le_pow_right (by omega) (by omega)
      rw [decide_eq_false hj, Nat.testBit_lt_two_pow (show q < 2 ^ j by omega)]
      rfl
  have lt : a_ns (fun j => q.testBit j && !(2 ^ d).testBit j) 10 < 2 ^ D := by
    refine Nat.lt_pow_two_of_testBit _ (fun j hj => ?_)
    have h3 : 2 ^ D ≤ 2 ^ j := Nat.pow_le_pow_right (by omega) hj
    rw [bits, Nat.testBit_lt_two_pow (show q < 2 ^ j by omega)]
    rfl
  refine ⟨_, lt, and_not (ns_lt _ 10) (by omega) (fun j _ => bits j), fun e => ?_⟩
  refine Nat.eq_of_testBit_eq (fun j => ?_)
  rw [bits, Nat.testBit_two_pow]
  by_cases c : d = j
  · subst c
    rw [e]; rfl
  · rw [decide_eq_false c]
    simp
theorem opk_0 {m : Nat → Int32} {d : Nat} : a_opk m d 0 = a_hd3 m d 0 (-1) (-1) := by
  funext j
  unfold a_opk
  rw [if_neg (by omega)]
theorem opk_s {m : Nat → Int32} {d k : Nat} (hk : k < 8) : a_set (a_opk m d k) (40 + k) (a_off (a_opk m d k (40 + k)) d) = a_opk m d (k + 1) := by
  have e : a_opk m d k (40 + k) = m (40 + k) := by
    unfold a_opk
    rw [if_neg (by omega), hd3_ne (by omega) (by omega) (by omega)]
  rw [e]
  funext j
  unfold a_set
  by_cases c : j = 40 + k
  · rw [if_pos c]
    unfold a_opk
    rw [if_pos (by omega), c]
  · rw [if_neg c]
    unfold a_opk
    by_cases c2 : 40 ≤ j ∧ j < 40 + k
    · rw [if_pos c2, if_pos (by omega)]
    · rw [if_neg c2, if_neg (by omega)]
theorem opk_PD {m : Nat → Int32} {d k : Nat} : a_P (a_opk m d k) = a_P m ∧ a_D (a_opk m d k) = a_D m := by
  have e : ∀ j, j < 40 → a_opk m d k j = m j := fun j hj => by
    unfold a_opk
    rw [if_neg (by omega), hd3_ne (by omega) (by omega) (by omega)]
  unfold a_P a_D
  rw [e 0 (by omega), e 1 (by omega)]
  exact ⟨rfl, rfl⟩
theorem opk_lo {m : Nat → Int32} {d k j : Nat} (hj : j < 40 ∨ (48 ≤ j ∧ j < 78)) (hk : k ≤ 8) : a_opk m d k j = m j := by
  unfold a_opk
  rw [if_neg (by omega), hd3_ne (by omega) (by omega) (by omega)]
theorem opk_40 {m : Nat → Int32} {d k p : Nat} (hp : p < k) : a_opk m d k (40 + p) = a_off (m (40 + p)) d := by
  unfold a_opk
  rw [if_pos (by omega)]
theorem opk_hi {m : Nat → Int32} {d k j : Nat} (hj : 48 ≤ j) (hk : k ≤ 8) : a_opk m d k j = a_hd3 m d 0 (-1) (-1) j := by
  unfold a_opk
  rw [if_neg (by omega)]
theorem ok_opk {m : Nat → Int32} {d : Nat} (ok : a_ok m) (hd : d < a_D m) : a_ok (a_opk m d 8) := by
  have h8 := ok_P8 ok
  have h10 := ok_D10 ok
  have ok3 : a_ok (a_hd3 m d 0 (-1) (-1)) := ok_hd3 ok hd (a_nb_nI (n := 0) (by omega) (by omega) (by omega)) (fun _ => ⟨rfl, rfl⟩) (fun w => absurd rfl w)
  obtain ⟨eP, eD⟩ := opk_PD (m := m) (d := d) (k := 8)
  have lo : ∀ j, j < 40 → a_opk m d 8 j = m j := fun j hj => opk_lo (Or.inl hj) (by omega)
  have hi : ∀ j, 48 ≤ j → a_opk m d 8 j = a_hd3 m d 0 (-1) (-1) j := fun j hj => opk_hi hj (by omega)
  refine ⟨?_, ?_, ?_, ?_, ?_, ?_, ?_, fun p hp => ?_, fun e he => ?_⟩
  · rw [lo 0 (by omega)]; exact ok.1
  · rw [lo 1 (by omega)]; exact ok.2.1
  · rw [lo 2 (by omega)]; exact ok_J ok
  · rw [lo 3 (by omega)]; exact ok_F ok
  · rw [lo 4 (by omega)]; exact ok_L ok
  · rw [lo 5 (by omega)]; exact ok_H ok
  · rw [lo 6 (by omega)]; exact ok_T ok
  · rw [eP] at hp
    have q := ok_p ok hp
    obtain ⟨e1, hq⟩ := ok_c1 ok hp
    obtain ⟨c, hc, e2, -⟩ := off_n hq h10 (show d < 10 by omega)
    have hq2 : 2 ^ a_D m ≤ 1024 := Nat.pow_le_pow_right (n := 2) (j := 10) (by omega) h10
    unfold a_okP
    rw [eD, lo (8 + p) (by omega), lo (16 + p) (by omega), opk_40 (by omega), e1, e2]
    exact ⟨q.1, q.2.1, a_nb_nI (by omega) (by omega) (by omega)⟩
  · rw [eD] at he
    have q := ok_d ok3 (d := e) (by rw [hd3_D]; exact he)
    unfold a_okD at q ⊢
    rw [hd3_P] at q
    rw [eP, hi (48 + e) (by omega), hi (58 + e) (by omega), hi (68 + e) (by omega), hi (78 + e) (by omega), hi (88 + e) (by omega), hi (98 + e) (by omega)]
    exact q
theorem R_eq {S : vSt} {b : Nat} {m m' : Nat → Int32} (R : a_R S b m) (h : ∀ j, j < 108 → a_lv m' j → a_lv m j ∧ m j = m' j) : a_R S b m' := by
  intro j hj
  obtain ⟨h1, h2⟩ := h j (a_lv_lt hj) hj
  rw [← h2]
  exact R j h1
theorem x_openAgain {S : vSt} {b d : Nat} {m : Nat → Int32} {K : vSt → Prop} (ok : a_ok m) (R : a_R S b m) (hd : d < a_D m) (h : ∀ S', a_fr (a_sc b) S S' → a_R S' b (a_opk m d 8) → K S') : p_X0_openAgain b S (nI d) K := by
  have h8 := ok_P8 ok
  have h10 := ok_D10 ok
  unfold p_X0_openAgain
  rw [e_put (show d < 10 by omega) (by omega)]
  have R0 : a_R (v_si S (b + 12) d 0) b (a_opk m d 0) := by
    rw [opk_0]
    exact R_open R (by omega)
  refine v_loop (fun fu i (s : vSt) => p_X0_openAgain_11 b (nI d) K fu s (nI i)) (fun i s => a_fr (a_sc b) S s ∧ a_R s b (a_opk m d i)) (a_P m) (fun fu i s hi hI hk => ?_) (fun fu s hI => ?_) _ ⟨fr_i fr_r (sc_t (by omega)), R0⟩
  · obtain ⟨f, R1⟩ := hI
    obtain ⟨eP, eD⟩ := opk_PD (m := m) (d := d) (k := i)
    have n1 : ¬ nI (a_P m) ≤ nI i := nI_ge hi (by omega)
    have m0 : a_opk m d i 0 = nI (a_P m) := by rw [opk_lo (by omega) (by omega)]; exact ok_m0 ok
    simp only [e_X0_openAgain_11, R_0 R1, m0, n1, eq_self, reduceCtorEq, true_implies, false_implies, and_true, true_and, not_true_eq_false, not_false_eq_true]
    rw [e_at (show i < 8 by omega) (by omega), R_40 R1 (by rw [eP]; exact hi) (by rw [eP]; exact h8), e_put (show i < 8 by omega) (by omega), bit_1 d (by omega)]
    simp only [forall_eq, nIs]
    refine hk _ ⟨fr_i f (sc_t (by omega)), ?_⟩
    rw [← opk_s (show i < 8 by omega)]
    exact R_set R1 (by omega) (by omega) (a_xr40 i (by omega))
  · obtain ⟨f, R1⟩ := hI
    have m0 : a_opk m d (a_P m) 0 = nI (a_P m) := by rw [opk_lo (by omega) (by omega)]; exact ok_m0 ok
    simp only [e_X0_openAgain_11, R_0 R1, m0, Int32.le_refl, eq_self, reduceCtorEq, true_implies, false_implies, and_true, true_and, not_true_eq_false, not_false_eq_true]
    refine h s f (R_eq R1 (fun j hj lv => ?_))
    have same : ∀ j, ¬ (40 + a_P m ≤ j ∧ j < 48) → a_opk m d (a_P m) j = a_opk m d 8 j := by
      intro j hj
      unfold a_opk
      by_cases c : 40 ≤ j ∧ j < 40 + a_P m
      · rw [if_pos c, if_pos (by omega)]
      · rw [if_neg c, if_neg (by omega)]
    unfold a_lv at lv ⊢
    rw [opk_PD.1, opk_PD.2] at lv ⊢
    rw [same (78 + (j - 88) % 10) (by omega)]
    exact ⟨lv, same j (by omega)⟩
/-! reopen -/
def o_reopen (m : Nat → Int32) (x : Int32) : Bool × Int32 × (Nat → Int32) := if a_two m x = true then (if m (78 + a_n x) = 0 then (false, 9, m) else (true, 0, a_opk m (a_n x) 8)) else (false, 2, m)
theorem x_reopen {S : vSt} {m : Nat → Int32} {x : Int32} {K : Bool → vSt → Prop} (ok : a_ok m) (R : a_R S 10 m) (h : a_XU S K (o_reopen m x)) : p_X10_reopen S x K := by
  have h10 := ok_D10 ok
  unfold p_X10_reopen
  rw [e_hasDeed R]
  unfold o_reopen at h
  by_cases g : a_two m x = true
  · obtain ⟨d, hd, rfl, e⟩ := a_two_t ok g
    rw [if_pos g, e] at h
    rw [g]
    simp only [eq_self, reduceCtorEq, true_implies, false_implies, and_true, true_and, not_true_eq_false, not_false_eq_true, e_isOpen (show d < 10 by omega)]
    rw [R_78 R hd h10]
    by_cases c : m (78 + d) = 0
    · rw [if_pos c] at h
      simp only [c, decide_true, eq_self, reduceCtorEq, true_implies, false_implies, and_true, true_and, not_true_eq_false, not_false_eq_true]
      exact u_settled fr_r R h
    · rw [if_neg c] at h
      simp only [c, decide_false, eq_self, reduceCtorEq, true_implies, false_implies, and_true, true_and, not_true_eq_false, not_false_eq_true]
      refine x_openAgain ok R hd (fun S1 f1 R1 => ?_)
      exact u_settled (fr_w f1 cx_w) R1 h
  · rw [if_neg g] at h
    rw [Bool.not_eq_true] at g
    rw [g]
    simp only [eq_self, reduceCtorEq, true_implies, false_implies, and_true, true_and, not_true_eq_false, not_false_eq_true]
    exact u_settled fr_r R h
/-! train, earn -/
def o_train (m : Nat → Int32) (x y : Int32) : Bool × Int32 × (Nat → Int32) := if a_one m x = true then (if a_in 0 16 y = true then (true, 0, a_set m (16 + a_n x) y) else (false, 5, m)) else (false, 2, m)
theorem ok_train {m : Nat → Int32} {p : Nat} {y : Int32} (ok : a_ok m) (hp : p < a_P m) (g : a_in 0 16 y = true) : a_ok (a_set m (16 + p) y) := by
  have h8 := ok_P8 ok
  obtain ⟨k, hk, rfl, e⟩ := a_in_t (n := 16) rfl (by omega) g
  exact ok_set ok (by omega) (by omega) (fun e => absurd e (by omega)) (fun e => absurd e (by omega)) (fun e => absurd e (by omega)) (fun e => absurd e (by omega)) (fun e => absurd e (by omega)) (fun q hq e => absurd e (by omega)) (fun q hq e => a_nb_nI (by omega) (by omega) (by omega)) (fun q hq e => absurd e (by omega))
def o_earn (m : Nat → Int32) (x y : Int32) : Int32 × Int32 × (Nat → Int32) := if a_one m x = true then (if a_in (-9999) 9999 y = true then (a_pays m (8 + a_n x) y (8 + a_n x), 0, a_pays m (8 + a_n x) y) else (-1, 5, m)) else (-1, 2, m)
/-! rule -/
def a_rlo (k : Nat) : Int32 := if k = 0 then 1 else 0
def a_rhi (k : Nat) : Int32 := if k = 0 then 9 else if k = 1 then 9 else if k = 2 then 999 else 16
def o_rule (m : Nat → Int32) (x y : Int32) : Bool × Int32 × (Nat → Int32) := if a_in 0 3 x = true then (if a_in (a_rlo (a_n x)) (a_rhi (a_n x)) y = true then (true, 0, a_set m (2 + a_n x) y) else (false, 5, m)) else (false, 5, m)
theorem gd4 {A B : Prop} {x lo hi hi1 : Int32} (h : hi1.toInt = hi.toInt + 1) : ((x < lo → A) ∧ (¬ x < lo → ((hi1 ≤ x → A) ∧ (¬ hi1 ≤ x → B)))) = (if a_in lo hi x = true then B else A) := by
  unfold a_in
  by_cases c : x < lo <;> by_cases d : hi1 ≤ x <;> simp only [c, d, eq_self, reduceCtorEq, true_implies, false_implies, and_true, true_and, not_true_eq_false, not_false_eq_true, decide_eq_true_eq] <;> simp only [Int32.lt_iff_toInt_lt, Int32.le_iff_toInt_le] at c d ⊢
  · rw [if_neg (by omega)]
  · rw [if_neg (by omega)]
  · rw [if_neg (by omega)]
  · rw [if_pos (by omega)]
theorem at_s {i k : Nat} {S : vSt} {K : Int32 → vSt → Prop} (hk : k < 4) : p_X10_at_s i S (nI k) K = K ((v_sr i).2.getD k 0) S := by
  unfold p_X10_at_s
  have h1 : ¬ nI k < 0 := nI_pos (by omega)
  have h2 : ¬ 4 ≤ nI k := nI_ge (b := 4) hk (by omega)
  simp (disch := omega) only [h1, h2, eq_self, reduceCtorEq, true_implies, false_implies, and_true, true_and, not_true_eq_false, not_false_eq_true, ia8, ia16, ia24, ia32, ia40, ia48, ia58, ia68, ia78, ia88, ia98, ncl, vpt, c0, c1, c2, c3, c4, c5, c6, c7, k0, k1, k2, k3, k4, k5, k6, k7]
theorem sr_1 : ∀ k, k < 4 → (v_sr 1).2.getD k 0 = a_rlo k ∧ (v_sr 2).2.getD k 0 = a_rhi k := by decide +kernel
theorem ok_rule {m : Nat → Int32} {k : Nat} {y : Int32} (ok : a_ok m) (hk : k < 4) (g : a_in (a_rlo k) (a_rhi k) y = true) : a_ok (a_set m (2 + k) y) := by
  have h := of_decide_eq_true g
  have rg : ∀ lo hi : Nat, a_rlo k = nI lo → a_rhi k = nI hi → lo < 1000 → hi < 1000 → a_nb y lo hi := by
    intro lo hi e1 e2 l1 l2
    rw [e1, e2] at h
    have y0 : ¬ y < 0 := by
      intro w
      have q := h.1
      rw [Int32.lt_iff_toInt_lt] at w
      rw [Int32.le_iff_toInt_le, nI_toInt (by omega)] at q
      have : (0 : Int32).toInt = 0 := rfl
      omega
    obtain ⟨j, hj, rfl⟩ := nI_of y0
    have d1 := (nI_leI (a := lo) (b := j) (by omega) hj).mp h.1
    have d2 := (nI_leI (a := j) (b := hi) hj (by omega)).mp h.2
    exact a_nb_nI hj d1 d2
  refine ok_set ok (by omega) (by omega) (fun e => ?_) (fun e => ?_) (fun e => ?_) (fun e => ?_) (fun e => absurd e (by omega)) (fun q hq e => absurd e (by omega)) (fun q hq e => absurd e (by omega)) (fun q hq e => absurd e (by omega))
  · have : k = 0 := by omega
    subst this
    exact rg 1 9 rfl rfl (by omega) (by omega)
  · have : k = 1 := by omega
    subst this
    exact rg 0 9 rfl rfl (by omega) (by omega)
  · have : k = 2 := by omega
    subst this
    exact rg 0 999 rfl rfl (by omega) (by omega)
  · have : k = 3 := by omega
    subst this
    exact rg 0 16 rfl rfl (by omega) (by omega)
