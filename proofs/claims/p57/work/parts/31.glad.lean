/-! sets by their bits -/
theorem bt_one : ∀ i, i < 32 → bt 1 i = decide (i = 0) := by decide +kernel
theorem bt_set (c : Nat → Bool) : ∀ n i, n ≤ 31 → i < 32 → bt (v_set c n) i = (decide (i < n) && c i)
  | 0, i, _, _ => by
    show bt 0 i = _
    rw [b_0]; simp
  | n + 1, i, hn, hi => by
    show bt (v_set c n ||| (if c n = true then 1 <<< (nI n &&& 31) else 0)) i = _
    rw [b_or, bt_set c n i (by omega) hi]
    have q : bt (if c n = true then 1 <<< (nI n &&& 31) else 0) i = (decide (i = n) && c n) := by
      cases c n
      · simp [b_0]
      · simp only [if_true, Bool.and_true]
        rw [b_shl n (by omega) 1 hi, bt_one _ (by omega)]
        by_cases e : i = n
        · subst e; simp
        · by_cases e2 : n ≤ i
          · simp [e, e2, show ¬ i - n = 0 by omega]
          · simp [e, e2]
    rw [q]
    by_cases e : i = n
    · subst e; simp
    · by_cases e2 : i < n
      · simp [e, e2, show i < n + 1 by omega]
      · simp [e, e2, show ¬ i < n + 1 by omega]
theorem bt_v {x : Int32} {d : Nat} (hd : d < 31) : v_bit x d = bt x d := by
  unfold v_bit
  have h1 : bt ((x >>> (nI d &&& 31)) &&& 1) 0 = bt x d := by
    rw [b_and, b_sshr d (by omega) x (by omega), bt_one 0 (by omega), if_pos (by omega)]
    simp
  cases c : bt x d
  · rw [c] at h1
    refine decide_eq_false (fun w => ?_)
    rw [w] at h1
    exact absurd h1 (by decide)
  · refine decide_eq_true ?_
    refine b_ext (fun i hi => ?_)
    by_cases e : i = 0
    · subst e; rw [h1, c]; rfl
    · rw [b_and, bt_one i hi]; simp [e]
theorem set_minus (a b : Nat → Bool) {n : Nat} (hn : n ≤ 31) : v_set a n &&& (v_set b n ^^^ (-1)) = v_set (fun d => a d && !b d) n := by
  refine b_ext (fun i hi => ?_)
  rw [b_and, b_xor, bt_set _ _ _ hn hi, bt_set _ _ _ hn hi, bt_set _ _ _ hn hi, b_m1 i hi]
  by_cases e : i < n
  · simp [e]
  · simp [e]
/-! a cell of the city is another -/
theorem ok_upd {m : Nat → Int32} {j : Nat} {x : Int32} (ok : a_ok m) (h2 : 2 ≤ j) (h78 : j < 78) (c2 : j = 2 → a_nb x 1 9) (c3 : j = 3 → a_nb x 0 9) (c4 : j = 4 → a_nb x 0 999) (c5 : j = 5 → a_nb x 0 16) (c6 : j = 6 → a_nb x 0 99999) (c8 : 8 ≤ j → j < 16 → a_rg x (-99999) 99999) (c16 : 16 ≤ j → j < 24 → a_nb x 0 16) (c40 : 40 ≤ j → j < 48 → a_nb x 0 (2 ^ a_D m - 1)) (c48 : 48 ≤ j → j < 58 → a_nb x 0 (a_P m - 1)) (c58 : 58 ≤ j → j < 68 → a_nb x 1 999) (c68 : 68 ≤ j → j < 78 → a_nb x 0 16) : a_ok (a_set m j x) := by
  have h8 := ok_P8 ok
  have h10 := ok_D10 ok
  have key : ∀ (Q : Int32 → Prop) (i : Nat), Q (m i) → (i = j → Q x) → Q (a_set m j x i) := by
    intro Q i q1 q2
    by_cases e : i = j
    · rw [e, a_set_eq]; exact q2 e
    · rw [a_set_ne e]; exact q1
  obtain ⟨o0, o1, o2, o3, o4, o5, o6, op, od⟩ := ok
  unfold a_ok a_okP a_okD
  rw [a_P_set (by omega), a_D_set (by omega)]
  refine ⟨key (fun y => a_nb y 0 8) 0 o0 (fun e => by omega), key (fun y => a_nb y 0 10) 1 o1 (fun e => by omega), key (fun y => a_nb y 1 9) 2 o2 (fun e => c2 (by omega)), key (fun y => a_nb y 0 9) 3 o3 (fun e => c3 (by omega)), key (fun y => a_nb y 0 999) 4 o4 (fun e => c4 (by omega)), key (fun y => a_nb y 0 16) 5 o5 (fun e => c5 (by omega)), key (fun y => a_nb y 0 99999) 6 o6 (fun e => c6 (by omega)), fun p hp => ?_, fun d hd => ?_⟩
  · obtain ⟨q1, q2, q3⟩ := op p hp
    refine ⟨key (fun y => a_rg y (-99999) 99999) _ q1 (fun e => c8 (by omega) (by omega)), key (fun y => a_nb y 0 16) _ q2 (fun e => c16 (by omega) (by omega)), key (fun y => a_nb y 0 (2 ^ a_D m - 1)) _ q3 (fun e => c40 (by omega) (by omega))⟩
  · obtain ⟨⟨q1, q0⟩, q2, q3, q4, q5, q6⟩ := od d hd
    refine ⟨⟨key (fun y => a_nb y 0 (a_P m - 1)) _ q1 (fun e => c48 (by omega) (by omega)), q0⟩, key (fun y => a_nb y 1 999) _ q2 (fun e => c58 (by omega) (by omega)), key (fun y => a_nb y 0 16) _ q3 (fun e => c68 (by omega) (by omega)), ?_, ?_, ?_⟩
    · rw [a_set_ne (by omega)]; exact q4
    · rw [a_set_ne (by omega), a_set_ne (by omega), a_set_ne (by omega)]; exact q5
    · rw [a_set_ne (by omega), a_set_ne (by omega), a_set_ne (by omega)]; exact q6
theorem ok_s4 {m : Nat → Int32} {n : Nat} (ok : a_ok m) (h : n ≤ 999) : a_ok (a_set m 4 (nI n)) :=
  ok_upd ok (by omega) (by omega) (by omega) (by omega) (fun _ => a_nb_nI (by omega) (by omega) h) (by omega) (by omega) (by omega) (by omega) (by omega) (by omega) (by omega) (by omega)
theorem ok_s5 {m : Nat → Int32} {n : Nat} (ok : a_ok m) (h : n ≤ 16) : a_ok (a_set m 5 (nI n)) :=
  ok_upd ok (by omega) (by omega) (by omega) (by omega) (by omega) (fun _ => a_nb_nI (by omega) (by omega) h) (by omega) (by omega) (by omega) (by omega) (by omega) (by omega) (by omega)
theorem ok_s58 {m : Nat → Int32} {n d : Nat} (ok : a_ok m) (hd : d < 10) (h : 1 ≤ n ∧ n ≤ 999) : a_ok (a_set m (58 + d) (nI n)) :=
  ok_upd ok (by omega) (by omega) (by omega) (by omega) (by omega) (by omega) (by omega) (by omega) (by omega) (by omega) (by omega) (fun _ _ => a_nb_nI (by omega) h.1 h.2) (by omega)
/-- shares, fines and penalties change no chance -/
def a_sfp (j : Nat) : Prop := j = 4 ∨ j = 5 ∨ (58 ≤ j ∧ j < 68)
theorem can_set {m : Nat → Int32} {j p d : Nat} {x : Int32} (hj : a_sfp j) (hp : p < 8) (hd : d < 10) : a_can (a_set m j x) p d = a_can m p d := by
  unfold a_sfp at hj
  unfold a_can
  rw [a_set_ne (by omega), a_set_ne (by omega), a_set_ne (by omega), a_set_ne (by omega)]
theorem c_set {m : Nat → Int32} {j p d : Nat} {x : Int32} (ok : a_ok m) (hj : a_sfp j) (hp : p < 8) (hd : d < a_D m) : a_c (a_set m j x) p d = a_c m p d := by
  have h10 := ok_D10 ok
  have h8 := ok_P8 ok
  have ho := (ok_o ok hd).2
  unfold a_sfp at hj
  have e : a_o (a_set m j x) d = a_o m d := by unfold a_o; rw [a_set_ne (by omega)]
  unfold a_c
  rw [e, a_set_ne (by omega), a_set_ne (by omega), a_set_ne (by omega)]
theorem J_set {m : Nat → Int32} {j : Nat} {x : Int32} (hj : a_sfp j) : a_J (a_set m j x) = a_J m := by
  unfold a_sfp at hj
  unfold a_J
  rw [a_set_ne (by omega)]
theorem F_set {m : Nat → Int32} {j : Nat} {x : Int32} (hj : a_sfp j) : a_F (a_set m j x) = a_F m := by
  unfold a_sfp at hj
  unfold a_F
  rw [a_set_ne (by omega)]
theorem wn_set {m : Nat → Int32} {j p d : Nat} {x : Int32} (ok : a_ok m) (hj : a_sfp j) (hp : p < 8) (hd : d < a_D m) : a_wn (a_set m j x) p d = a_wn m p d := by
  unfold a_wn
  rw [c_set ok hj hp hd, J_set hj]
theorem ow_set {m : Nat → Int32} {j p d : Nat} {x : Int32} (ok : a_ok m) (hj : a_sfp j) (hp : p < 8) (hd : d < a_D m) : a_ow (a_set m j x) p d = a_ow m p d := by
  unfold a_ow
  rw [c_set ok hj hp hd, J_set hj, F_set hj]
theorem P_sfp {m : Nat → Int32} {j : Nat} {x : Int32} (hj : a_sfp j) : a_P (a_set m j x) = a_P m := a_P_set (by unfold a_sfp at hj; omega)
theorem D_sfp {m : Nat → Int32} {j : Nat} {x : Int32} (hj : a_sfp j) : a_D (a_set m j x) = a_D m := a_D_set (by unfold a_sfp at hj; omega)
/-! is anybody glad -/
def a_any (c : Nat → Bool) : Nat → Bool
  | 0 => false
  | n + 1 => a_any c n || c n
theorem any_t {c : Nat → Bool} {i : Nat} (h : c i = true) : ∀ n, i < n → a_any c n = true
  | 0, q => absurd q (by omega)
  | n + 1, q => by
    unfold a_any
    by_cases e : i = n
    · subst e; rw [h, Bool.or_true]
    · rw [any_t h n (by omega), Bool.true_or]
theorem any_congr {c c' : Nat → Bool} : ∀ n, (∀ i, i < n → c i = c' i) → a_any c n = a_any c' n
  | 0, _ => rfl
  | n + 1, h => by
    unfold a_any
    rw [any_congr n (fun i hi => h i (by omega)), h n (by omega)]
def a_gl (m : Nat → Int32) (d prize pen : Nat) : Bool := a_any (fun p => a_can m p d && decide (a_ow m p d * pen < a_wn m p d * prize)) (a_P m)
theorem gl_dread {m : Nat → Int32} {d : Nat} (ok : a_ok m) (hd : d < a_D m) : a_gl m d (a_part m d) (a_L m) = decide (a_dread m d ≠ 0) := by
  have key : ∀ n, a_any (fun p => a_can m p d && decide (a_ow m p d * a_L m < a_wn m p d * a_part m d)) n = decide (a_dr m d n ≠ 0) := by
    intro n
    induction n with
    | zero => rfl
    | succ n ih =>
      have e : (a_ow m n d * a_L m < a_wn m n d * a_part m d) ↔ 0 < a_gain m n d := by
        unfold a_gain
        rw [← Int.natCast_mul, ← Int.natCast_mul]
        omega
      unfold a_any a_dr
      have e2 : decide (a_ow m n d * a_L m < a_wn m n d * a_part m d) = decide (0 < a_gain m n d) := decide_eq_decide.mpr e
      rw [ih, e2]
      by_cases c1 : a_can m n d = true <;> by_cases c2 : 0 < a_gain m n d
      · have := glad_loss ok hd c2
        rw [if_pos ⟨c1, c2⟩, c1]
        have q : max (a_dr m d n) (a_loss m n d) ≠ 0 := by omega
        simp only [c2, decide_true, Bool.and_true, Bool.or_true]
        rw [decide_eq_true q]
      · rw [if_neg (fun w => c2 w.2)]; simp [c2]
      · rw [if_neg (fun w => c1 w.1)]; simp [c1]
      · rw [if_neg (fun w => c1 w.1)]; simp [c1]
  exact key (a_P m)
theorem gl_set {m : Nat → Int32} {j d prize pen : Nat} {x : Int32} (ok : a_ok m) (hj : a_sfp j) (hd : d < a_D m) : a_gl (a_set m j x) d prize pen = a_gl m d prize pen := by
  have h8 := ok_P8 ok
  have h10 := ok_D10 ok
  unfold a_gl
  rw [P_sfp hj]
  refine any_congr _ (fun p hp => ?_)
  rw [can_set hj (by omega) (by omega), ow_set ok hj (by omega) hd, wn_set ok hj (by omega) hd]
theorem mul_64 {a b : Nat} (hb : b < 2 ^ 31) : lN a * (nI b).toInt64 = lN (a * b) := by rw [nI_l hb, lN_mul]
theorem x_isAnyGlad {S : vSt} {m : Nat → Int32} {d prize pen : Nat} {K : Bool → vSt → Prop} (ok : a_ok m) (R : a_R S 10 m) (s : a_seen S m) (hd : d < a_D m) (h1 : prize ≤ 999) (h2 : pen ≤ 999) (h : K (a_gl m d prize pen) S) : p_X3_isAnyGlad S (nI d) (nI prize) (nI pen) K := by
  have h8 := ok_P8 ok
  have h10 := ok_D10 ok
  unfold p_X3_isAnyGlad
  refine v_loop (fun fu i (_ : Unit) => p_X3_isAnyGlad_3 (nI d) (nI prize) (nI pen) K fu S (nI i)) (fun i _ => a_any (fun p => a_can m p d && decide (a_ow m p d * pen < a_wn m p d * prize)) i = false) (a_P m) (fun fu i z hi hI hk => ?_) (fun fu z hI => ?_) () rfl
  · have g1 : ¬ nI (a_P m) ≤ nI i := nI_ge hi (by omega)
    have nx : (a_can m i d && decide (a_ow m i d * pen < a_wn m i d * prize)) = false → p_X3_isAnyGlad_3 (nI d) (nI prize) (nI pen) K fu S (nI (i + 1)) := fun e => hk () (by
      unfold a_any
      rw [hI, e]
      rfl)
    obtain ⟨s1, s2, -, -⟩ := s.1 i d hi hd
    have hw := wn_ow (m := m) i d
    have hall := all_le ok
    have b1 : a_wn m i d * prize ≤ 2 ^ 36 * 999 := Nat.mul_le_mul (by omega) h1
    have b2 : a_ow m i d * pen ≤ 2 ^ 36 * 999 := Nat.mul_le_mul (by omega) h2
    simp only [e_X3_isAnyGlad_3, R_0 R, ok_m0 ok, g1, eq_self, reduceCtorEq, true_implies, false_implies, and_true, true_and, not_true_eq_false, not_false_eq_true, p_X3_cellOf, cellN, x_isWithin ok s hi hd, p_X3_isAnyGlad_63, forall_eq, nIs]
    cases c : a_can m i d
    · simp only [eq_self, reduceCtorEq, true_implies, false_implies, and_true, true_and, not_true_eq_false, not_false_eq_true]
      exact nx (by rw [c]; rfl)
    · simp only [eq_self, reduceCtorEq, true_implies, false_implies, and_true, true_and, not_true_eq_false, not_false_eq_true, e_atl (show i * 10 + d < 80 by omega) (show 80 < 2 ^ 31 by omega), s1, s2, mul_64 (show prize < 2 ^ 31 by omega), mul_64 (show pen < 2 ^ 31 by omega), pk_lLE (show a_wn m i d * prize < 2 ^ 63 by omega) (show a_ow m i d * pen < 2 ^ 63 by omega)]
      by_cases q : a_ow m i d * pen < a_wn m i d * prize
      · have q2 : ¬ a_wn m i d * prize ≤ a_ow m i d * pen := by omega
        have e : a_gl m d prize pen = true := any_t (i := i) (by rw [c, decide_eq_true q]; rfl) _ hi
        rw [e] at h
        simp only [q2, eq_self, reduceCtorEq, true_implies, false_implies, and_true, true_and, not_true_eq_false, not_false_eq_true]
        exact h
      · have q2 : a_wn m i d * prize ≤ a_ow m i d * pen := by omega
        simp only [q2, eq_self, reduceCtorEq, true_implies, false_implies, and_true, true_and, not_true_eq_false, not_false_eq_true]
        exact nx (by rw [c, decide_eq_false q]; rfl)
  · simp only [e_X3_isAnyGlad_3, R_0 R, ok_m0 ok, Int32.le_refl, eq_self, reduceCtorEq, true_implies, false_implies, and_true, true_and, not_true_eq_false, not_false_eq_true]
    rw [show a_gl m d prize pen = false from hI] at h
    exact h
/-! the first that makes somebody glad -/
theorem first_none {c : Nat → Bool} : ∀ n, (∀ k, k < n → c k = false) → v_first c n = none
  | 0, _ => rfl
  | n + 1, h => by
    unfold v_first
    rw [first_none n (fun k hk => h k (by omega))]
    simp [h n (by omega)]
theorem first_some {c : Nat → Bool} {i : Nat} (h : ∀ k, k < i → c k = false) (hi : c i = true) : ∀ n, i < n → v_first c n = some i
  | 0, q => absurd q (by omega)
  | n + 1, q => by
    unfold v_first
    by_cases e : i = n
    · subst e
      rw [first_none i h]
      simp [hi]
    · rw [first_some h hi n (by omega)]
def a_fg (c : Nat → Bool) (val : Nat → Int32) (n : Nat) : Int32 := match v_first c n with
  | none => -1
  | some k => val k
theorem fg_none {c : Nat → Bool} {val : Nat → Int32} {n : Nat} (h : ∀ k, k < n → c k = false) : a_fg c val n = -1 := by
  unfold a_fg; rw [first_none n h]
theorem fg_some {c : Nat → Bool} {val : Nat → Int32} {n i : Nat} (h : ∀ k, k < i → c k = false) (hi : c i = true) (hn : i < n) : a_fg c val n = val i := by
  unfold a_fg; rw [first_some h hi n hn]
theorem first_congr {c c' : Nat → Bool} : ∀ n, (∀ k, k < n → c k = c' k) → v_first c n = v_first c' n
  | 0, _ => rfl
  | n + 1, h => by
    unfold v_first
    rw [first_congr n (fun k hk => h k (by omega)), h n (by omega)]
theorem first_lt {c : Nat → Bool} : ∀ n k, v_first c n = some k → k < n
  | 0, k, q => by simp [v_first] at q
  | n + 1, k, q => by
    unfold v_first at q
    split at q
    · next k' q' => have := first_lt n _ q'; cases q; omega
    · split at q
      · cases q; omega
      · cases q
theorem fg_congr {c c' : Nat → Bool} {val val' : Nat → Int32} (n : Nat) (h : ∀ k, k < n → c k = c' k) (hv : ∀ k, k < n → val k = val' k) : a_fg c val n = a_fg c' val' n := by
  unfold a_fg
  rw [first_congr n h]
  cases q : v_first c' n with
  | none => rfl
  | some k => exact hv k (first_lt _ _ q)
def a_gS (m : Nat → Int32) (d i : Nat) : Bool := decide (a_dread (a_set m 5 (nI i)) d ≠ 0)
def a_gF (m : Nat → Int32) (d i : Nat) : Bool := decide (a_dread (a_set m (58 + d) (nI (1 + i))) d ≠ 0)
def a_gP (m : Nat → Int32) (d i : Nat) : Bool := decide (a_dread (a_set m 4 (nI (999 - i))) d ≠ 0)
theorem sfp4 : a_sfp 4 := Or.inl rfl
theorem sfp5 : a_sfp 5 := Or.inr (Or.inl rfl)
theorem sfp58 {d : Nat} (hd : d < 10) : a_sfp (58 + d) := Or.inr (Or.inr (by omega))
theorem gS_gl {m : Nat → Int32} {d i : Nat} (ok : a_ok m) (hd : d < a_D m) (hi : i ≤ 16) : a_gS m d i = a_gl m d (a_f m d * i / 16) (a_L m) := by
  have h10 := ok_D10 ok
  unfold a_gS
  rw [← gl_dread (ok_s5 ok hi) (by rw [D_sfp sfp5]; exact hd), gl_set ok sfp5 hd]
  congr 1
  · unfold a_part a_f a_H
    rw [a_set_eq, a_set_ne (by omega), a_n_nI (by omega)]
theorem gF_gl {m : Nat → Int32} {d i : Nat} (ok : a_ok m) (hd : d < a_D m) (hi : i < 999) : a_gF m d i = a_gl m d ((1 + i) * a_H m / 16) (a_L m) := by
  have h10 := ok_D10 ok
  unfold a_gF
  rw [← gl_dread (ok_s58 ok (by omega) ⟨by omega, by omega⟩) (by rw [D_sfp (sfp58 (by omega))]; exact hd), gl_set ok (sfp58 (by omega)) hd]
  congr 1
  · unfold a_part a_f a_H
    rw [a_set_eq, a_set_ne (by omega), a_n_nI (by omega)]
  · unfold a_L
    rw [a_set_ne (by omega)]
theorem gP_gl {m : Nat → Int32} {d i : Nat} (ok : a_ok m) (hd : d < a_D m) (hi : i ≤ 999) : a_gP m d i = a_gl m d (a_part m d) (999 - i) := by
  have h10 := ok_D10 ok
  unfold a_gP
  rw [← gl_dread (ok_s4 ok (by omega)) (by rw [D_sfp sfp4]; exact hd), gl_set ok sfp4 hd]
  congr 1
  · unfold a_part a_f a_H
    rw [a_set_ne (by omega), a_set_ne (by omega)]
  · unfold a_L
    rw [a_set_eq, a_n_nI (by omega)]
theorem part_n {a b : Nat} (ha : a ≤ 999) (hb : b ≤ 16) : (nI a * nI b) / 16 = nI (a * b / 16) ∧ a * b / 16 ≤ 999 := by
  have h3 : a * b ≤ 999 * 16 := Nat.mul_le_mul ha hb
  refine ⟨?_, by omega⟩
  rw [pk_mul, show (16 : Int32) = nI 16 from rfl, pk_div (by omega) (by omega) (by omega)]
theorem x_leastGladShare {S : vSt} {m : Nat → Int32} {d : Nat} {K : Int32 → vSt → Prop} (ok : a_ok m) (R : a_R S 10 m) (s : a_seen S m) (hd : d < a_D m) (h : K (a_fg (a_gS m d) nI 17) S) : p_X3_leastGladShare S (nI d) K := by
  have h10 := ok_D10 ok
  obtain ⟨eL, L9⟩ := ok_L1 ok
  obtain ⟨ef, f1, f9⟩ := ok_f1 ok hd
  unfold p_X3_leastGladShare
  rw [x_rule2 R, eL]
  refine v_loop (fun fu i (_ : Unit) => p_X3_leastGladShare_11 (nI d) K fu S (nI (a_L m)) (nI i)) (fun i _ => ∀ k, k < i → a_gS m d k = false) 17 (fun fu i z hi hI hk => ?_) (fun fu z hI => ?_) () (fun k hk => absurd hk (by omega))
  · have g1 : ¬ 16 < nI i := nI_nlt (a := 16) (by omega) (by omega)
    obtain ⟨e1, e2⟩ := part_n (a := a_f m d) (b := i) f9 (by omega)
    simp only [e_X3_leastGladShare_11, g1, eq_self, reduceCtorEq, true_implies, false_implies, and_true, true_and, not_true_eq_false, not_false_eq_true, e_at (show d < 10 by omega) (show 10 < 2 ^ 31 by omega), R_58 (b := 10) R hd h10, ef, p_X0_partOf, e1]
    refine x_isAnyGlad ok R s hd e2 L9 ?_
    rw [← gS_gl ok hd (by omega)]
    cases c : a_gS m d i
    · simp only [eq_self, reduceCtorEq, true_implies, false_implies, and_true, true_and, not_true_eq_false, not_false_eq_true, forall_eq, nIs]
      refine hk () (fun k hk => ?_)
      by_cases e : k = i
      · rw [e, c]
      · exact hI k (by omega)
    · simp only [eq_self, reduceCtorEq, true_implies, false_implies, and_true, true_and, not_true_eq_false, not_false_eq_true]
      rw [fg_some hI c hi] at h
      exact h
  · have g1 : 16 < nI 17 := by decide
    simp only [e_X3_leastGladShare_11, g1, eq_self, reduceCtorEq, true_implies, false_implies, and_true, true_and, not_true_eq_false, not_false_eq_true]
    rw [fg_none hI] at h
    exact h
theorem x_leastGladFine {S : vSt} {m : Nat → Int32} {d : Nat} {K : Int32 → vSt → Prop} (ok : a_ok m) (R : a_R S 10 m) (s : a_seen S m) (hd : d < a_D m) (h : K (a_fg (a_gF m d) (fun i => nI (1 + i)) 999) S) : p_X3_leastGladFine S (nI d) K := by
  have h10 := ok_D10 ok
  obtain ⟨eL, L9⟩ := ok_L1 ok
  obtain ⟨eH, H9⟩ := ok_H1 ok
  unfold p_X3_leastGladFine
  rw [x_rule2 R, eL]
  refine v_loop (fun fu i (_ : Unit) => p_X3_leastGladFine_11 (nI d) K fu S (nI (a_L m)) (nI (1 + i))) (fun i _ => ∀ k, k < i → a_gF m d k = false) 999 (fun fu i z hi hI hk => ?_) (fun fu z hI => ?_) () (fun k hk => absurd hk (by omega))
  · have g1 : ¬ 999 < nI (1 + i) := nI_nlt (a := 999) (by omega) (by omega)
    obtain ⟨e1, e2⟩ := part_n (a := 1 + i) (b := a_H m) (by omega) H9
    simp only [e_X3_leastGladFine_11, g1, eq_self, reduceCtorEq, true_implies, false_implies, and_true, true_and, not_true_eq_false, not_false_eq_true, x_rule3 R, eH, p_X0_partOf, e1]
    refine x_isAnyGlad ok R s hd e2 L9 ?_
    rw [← gF_gl ok hd (by omega)]
    cases c : a_gF m d i
    · simp only [eq_self, reduceCtorEq, true_implies, false_implies, and_true, true_and, not_true_eq_false, not_false_eq_true, forall_eq, nIs]
      refine hk () (fun k hk => ?_)
      by_cases e : k = i
      · rw [e, c]
      · exact hI k (by omega)
    · simp only [eq_self, reduceCtorEq, true_implies, false_implies, and_true, true_and, not_true_eq_false, not_false_eq_true]
      rw [fg_some hI c hi] at h
      exact h
  · have g1 : 999 < nI (1 + 999) := by decide
    simp only [e_X3_leastGladFine_11, g1, eq_self, reduceCtorEq, true_implies, false_implies, and_true, true_and, not_true_eq_false, not_false_eq_true]
    rw [fg_none hI] at h
    exact h
theorem down {N i : Nat} (h : i < N) : nI (N - i) + (-1) = nI (N - (i + 1)) := by
  have e : N - i = N - (i + 1) + 1 := by omega
  rw [e, pk_m1]
theorem x_mostGladPenalty {S : vSt} {m : Nat → Int32} {d : Nat} {K : Int32 → vSt → Prop} (ok : a_ok m) (R : a_R S 10 m) (s : a_seen S m) (hd : d < a_D m) (h : K (a_fg (a_gP m d) (fun i => nI (999 - i)) 1000) S) : p_X3_mostGladPenalty S (nI d) K := by
  have h10 := ok_D10 ok
  have hpl := part_le ok hd
  have f9 := (ok_f1 ok hd).2.2
  unfold p_X3_mostGladPenalty
  rw [e_at (show d < 10 by omega) (show 10 < 2 ^ 31 by omega), x_rule3 R, R_58 (b := 10) R hd h10]
  simp only [p_X0_partOf, x_part ok hd]
  refine v_loop (fun fu i (_ : Unit) => p_X3_mostGladPenalty_27 (nI d) K fu S (nI (a_part m d)) (nI (1000 - i) + (-1))) (fun i _ => ∀ k, k < i → a_gP m d k = false) 1000 (fun fu i z hi hI hk => ?_) (fun fu z hI => ?_) () (fun k hk => absurd hk (by omega))
  · rw [down hi] at *
    have g1 : ¬ nI (1000 - (i + 1)) < 0 := nI_pos (by omega)
    have hk := fun q => hk () q
    simp only [e_X3_mostGladPenalty_27, g1, eq_self, reduceCtorEq, true_implies, false_implies, and_true, true_and, not_true_eq_false, not_false_eq_true]
    refine x_isAnyGlad ok R s hd (by omega) (by omega) ?_
    rw [show 1000 - (i + 1) = 999 - i by omega, ← gP_gl ok hd (by omega)]
    cases c : a_gP m d i
    · simp only [eq_self, reduceCtorEq, true_implies, false_implies, and_true, true_and, not_true_eq_false, not_false_eq_true, forall_eq]
      have hk := hk (fun k hk => by
        by_cases e : k = i
        · rw [e, c]
        · exact hI k (by omega))
      rw [show 1000 - (i + 1) = 999 - i by omega] at hk
      exact hk
    · simp only [eq_self, reduceCtorEq, true_implies, false_implies, and_true, true_and, not_true_eq_false, not_false_eq_true]
      rw [fg_some hI c hi] at h
      exact h
  · have g1 : nI (1000 - 1000) + (-1) < 0 := by decide
    simp only [e_X3_mostGladPenalty_27, g1, eq_self, reduceCtorEq, true_implies, false_implies, and_true, true_and, not_true_eq_false, not_false_eq_true]
    rw [fg_none hI] at h
    exact h
/-! the model tries -/
theorem a_set_set {m : Nat → Int32} {j : Nat} {x y : Int32} : a_set (a_set m j x) j y = a_set m j y := by
  funext i
  unfold a_set
  split <;> rfl
/-- but for one cell, which is to be set back, nothing else has become -/
def a_try (S S1 : vSt) (cell : Nat) : Prop := a_fr (a_ro 151) S (v_si S1 148 cell (S.1 148 cell))
theorem try_0 {S : vSt} {cell : Nat} : a_try S S cell := by
  unfold a_try
  rw [si_self]
  exact fr_r
theorem try_set {S S1 : vSt} {cell : Nat} {x : Int32} (h : a_try S S1 cell) : a_try S (v_si S1 148 cell x) cell := by
  intro k j q
  have := h k j q
  refine ⟨?_, this.2⟩
  rw [← this.1, si1, si1, si1]
  split <;> rfl
theorem try_fr {S S1 S2 : vSt} {cell : Nat} (h : a_try S S1 cell) (f : a_fr (a_ro 151) S1 S2) : a_try S S2 cell := by
  intro k j q
  have h1 := h k j q
  have h2 := f k j q
  refine ⟨?_, h2.2.trans h1.2⟩
  rw [← h1.1, si1, si1]
  split
  · rfl
  · exact h2.1
theorem try_M {S S1 : vSt} {m : Nat → Int32} {cell : Nat} (M : a_M S 0 m) (h : a_try S S1 cell) {x : Int32} : a_M (v_si S1 148 cell x) 0 (a_set m cell x) := by
  intro k hk
  rw [show 380 * 0 + k = k by omega, si1]
  by_cases e : k = cell
  · subst e
    rw [if_pos ⟨rfl, rfl⟩, a_set_eq]
  · have := (h 148 k rfl).1
    rw [si1, if_neg (fun w => e w.2)] at this
    rw [if_neg (fun w => e w.2), a_set_ne e, this]
    exact M_0 M hk
def o_leastShare (m : Nat → Int32) (x : Int32) : Int32 × Int32 × Option (Int64 × Int64) := if a_two m x = true then o_any (a_fg (a_gS m (a_n x)) nI 17) else (-1, 2, none)
def o_leastFine (m : Nat → Int32) (x : Int32) : Int32 × Int32 × Option (Int64 × Int64) := if a_two m x = true then o_any (a_fg (a_gF m (a_n x)) (fun i => nI (1 + i)) 999) else (-1, 2, none)
def o_mostPenalty (m : Nat → Int32) (x : Int32) : Int32 × Int32 × Option (Int64 × Int64) := if a_two m x = true then o_any (a_fg (a_gP m (a_n x)) (fun i => nI (999 - i)) 1000) else (-1, 2, none)
theorem x_leastShare {S : vSt} {m : Nat → Int32} {x : Int32} {K : Int32 → vSt → Prop} (ok : a_ok m) (R : a_R S 10 m) (h : a_XK S K (o_leastShare m x)) : p_X10_leastShare S x K := by
  unfold p_X10_leastShare p_X10_seen
  rw [e_hasDeed R]
  unfold o_leastShare at h
  by_cases g : a_two m x = true
  · obtain ⟨d, hd, rfl, e⟩ := a_two_t ok g
    rw [if_pos g, e] at h
    rw [g]
    simp only [eq_self, reduceCtorEq, true_implies, false_implies, and_true, true_and, not_true_eq_false, not_false_eq_true]
    refine x_see ok R (fun S1 f1 s1 => ?_)
    refine x_leastGladShare ok (R_x R f1) s1 hd ?_
    exact x_toldIfAny f1 h
  · rw [if_neg g] at h
    rw [Bool.not_eq_true] at g
    rw [g]
    simp only [eq_self, reduceCtorEq, true_implies, false_implies, and_true, true_and, not_true_eq_false, not_false_eq_true]
    exact x_refused fr_r h
theorem x_leastFine {S : vSt} {m : Nat → Int32} {x : Int32} {K : Int32 → vSt → Prop} (ok : a_ok m) (R : a_R S 10 m) (h : a_XK S K (o_leastFine m x)) : p_X10_leastFine S x K := by
  unfold p_X10_leastFine p_X10_seen
  rw [e_hasDeed R]
  unfold o_leastFine at h
  by_cases g : a_two m x = true
  · obtain ⟨d, hd, rfl, e⟩ := a_two_t ok g
    rw [if_pos g, e] at h
    rw [g]
    simp only [eq_self, reduceCtorEq, true_implies, false_implies, and_true, true_and, not_true_eq_false, not_false_eq_true]
    refine x_see ok R (fun S1 f1 s1 => ?_)
    refine x_leastGladFine ok (R_x R f1) s1 hd ?_
    exact x_toldIfAny f1 h
  · rw [if_neg g] at h
    rw [Bool.not_eq_true] at g
    rw [g]
    simp only [eq_self, reduceCtorEq, true_implies, false_implies, and_true, true_and, not_true_eq_false, not_false_eq_true]
    exact x_refused fr_r h
theorem x_mostPenalty {S : vSt} {m : Nat → Int32} {x : Int32} {K : Int32 → vSt → Prop} (ok : a_ok m) (R : a_R S 10 m) (h : a_XK S K (o_mostPenalty m x)) : p_X10_mostPenalty S x K := by
  unfold p_X10_mostPenalty p_X10_seen
  rw [e_hasDeed R]
  unfold o_mostPenalty at h
  by_cases g : a_two m x = true
  · obtain ⟨d, hd, rfl, e⟩ := a_two_t ok g
    rw [if_pos g, e] at h
    rw [g]
    simp only [eq_self, reduceCtorEq, true_implies, false_implies, and_true, true_and, not_true_eq_false, not_false_eq_true]
    refine x_see ok R (fun S1 f1 s1 => ?_)
    refine x_mostGladPenalty ok (R_x R f1) s1 hd ?_
    exact x_toldIfAny f1 h
  · rw [if_neg g] at h
    rw [Bool.not_eq_true] at g
    rw [g]
    simp only [eq_self, reduceCtorEq, true_implies, false_implies, and_true, true_and, not_true_eq_false, not_false_eq_true]
    exact x_refused fr_r h
