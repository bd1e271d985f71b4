/-! small sets as numbers -/
theorem bit_at : ∀ q, q < 1024 → ∀ d, d < 10 → v_bit (nI q) d = q.testBit d := by decide +kernel
theorem bit_or : ∀ q, q < 1024 → ∀ d, d < 11 → nI q ||| nI (2 ^ d) = nI (q ||| 2 ^ d) := by decide +kernel
theorem bit_or0 : ∀ q, q < 1024 → nI q ||| 0 = nI q := by decide +kernel
theorem bit_1 : ∀ d, d < 31 → (1 : Int32) <<< (nI d &&& 31) = nI (2 ^ d) := by decide +kernel
def a_ns (c : Nat → Bool) : Nat → Nat
  | 0 => 0
  | n + 1 => a_ns c n ||| (if c n = true then 2 ^ n else 0)
theorem ns_lt (c : Nat → Bool) : ∀ n, a_ns c n < 2 ^ n
  | 0 => by simp [a_ns]
  | n + 1 => by
    have h := ns_lt c n
    show a_ns c n ||| (if c n = true then 2 ^ n else 0) < 2 ^ (n + 1)
    refine Nat.or_lt_two_pow (Nat.lt_trans h (Nat.pow_lt_pow_right (by omega) (by omega))) ?_
    split
    · exact Nat.pow_lt_pow_right (by omega) (by omega)
    · exact Nat.two_pow_pos _
theorem ns_bit (c : Nat → Bool) : ∀ n d, (a_ns c n).testBit d = (decide (d < n) && c d)
  | 0, d => by simp [a_ns]
  | n + 1, d => by
    show (a_ns c n ||| (if c n = true then 2 ^ n else 0)).testBit d = _
    rw [Nat.testBit_or, ns_bit c n d]
    by_cases e : d = n
    · subst e
      cases h : c d <;> simp
    · have q : ((if c n = true then 2 ^ n else 0 : Nat).testBit d) = false := by
        split
        · rw [Nat.testBit_two_pow]; simp; omega
        · simp
      rw [q, Bool.or_false]
      by_cases h1 : d < n
      · simp [h1, show d < n + 1 by omega]
      · simp [h1, show ¬ d < n + 1 by omega]
theorem set_ns (c : Nat → Bool) : ∀ n, n ≤ 10 → v_set c n = nI (a_ns c n)
  | 0, _ => rfl
  | n + 1, hn => by
    have h := set_ns c n (by omega)
    have h2 := ns_lt c n
    have h3 : 2 ^ n ≤ 1024 := Nat.pow_le_pow_right (by omega) (show n ≤ 10 by omega)
    show v_set c n ||| (if c n = true then 1 <<< (nI n &&& 31) else 0) = nI (a_ns c n ||| (if c n = true then 2 ^ n else 0))
    rw [h]
    cases c n
    · simp only [eq_self, reduceCtorEq, true_implies, false_implies, and_true, true_and, not_true_eq_false, not_false_eq_true, Bool.false_eq_true, if_false]
      rw [bit_or0 _ (by omega), Nat.or_zero]
    · simp only [eq_self, reduceCtorEq, true_implies, false_implies, and_true, true_and, not_true_eq_false, not_false_eq_true, if_true]
      rw [bit_1 n (by omega), bit_or _ (by omega) n (by omega)]
theorem set_bit {c : Nat → Bool} {n d : Nat} (hn : n ≤ 10) (hd : d < n) : v_bit (v_set c n) d = c d := by
  have h2 := ns_lt c n
  have h3 : 2 ^ n ≤ 1024 := Nat.pow_le_pow_right (by omega) hn
  rw [set_ns c n hn, bit_at _ (by omega) d (by omega), ns_bit]
  simp [hd]
/-! longs by integers -/
def lI (z : Int) : Int64 := Int64.ofInt z
theorem lI_N (n : Nat) : lN n = lI n := by
  unfold lN lI
  rw [Int64.ofInt_eq_ofNat]
theorem lI_add (a b : Int) : lI a + lI b = lI (a + b) := (Int64.ofInt_add a b).symm
theorem lI_mul (a b : Int) : lI a * lI b = lI (a * b) := (Int64.ofInt_mul a b).symm
theorem lI_neg (a : Int) : -lI a = lI (-a) := (Int64.ofInt_neg a).symm
theorem lI_sub (a b : Int) : lI a - lI b = lI (a - b) := by
  rw [Int64.sub_eq_add_neg, lI_neg, lI_add, Int.sub_eq_add_neg]
theorem lI_0 : (0 : Int64) = lI 0 := rfl
theorem lI_1 : (1 : Int64) = lI 1 := rfl
theorem lI_m1 : (-1 : Int64) = lI (-1) := rfl
/-- an integer that fits well -/
def a_fit (z : Int) : Prop := -(2 ^ 62) < z ∧ z < 2 ^ 62
theorem lI_toInt {z : Int} (h : a_fit z) : (lI z).toInt = z := by
  unfold a_fit at h
  exact Int64.toInt_ofInt_of_le (by omega) (by omega)
theorem lI_lt {a b : Int} (ha : a_fit a) (hb : a_fit b) : lI a < lI b ↔ a < b := by
  rw [Int64.lt_iff_toInt_lt, lI_toInt ha, lI_toInt hb]
theorem lI_le {a b : Int} (ha : a_fit a) (hb : a_fit b) : lI a ≤ lI b ↔ a ≤ b := by
  rw [Int64.le_iff_toInt_le, lI_toInt ha, lI_toInt hb]
theorem lI_eq {a b : Int} (ha : a_fit a) (hb : a_fit b) : lI a = lI b ↔ a = b := by
  rw [← Int64.toInt_inj, lI_toInt ha, lI_toInt hb]
theorem lI_max {a b : Int} (ha : a_fit a) (hb : a_fit b) : v_maxl (lI a) (lI b) = lI (max a b) := by
  unfold v_maxl
  by_cases c : b < a
  · rw [if_pos ((lI_lt hb ha).mpr c), Int.max_eq_left (by omega)]
  · rw [if_neg (fun w => c ((lI_lt hb ha).mp w)), Int.max_eq_right (by omega)]
theorem lI_min {a b : Int} (ha : a_fit a) (hb : a_fit b) : v_minl (lI a) (lI b) = lI (min a b) := by
  unfold v_minl
  by_cases c : b < a
  · rw [if_pos ((lI_lt hb ha).mpr c), Int.min_eq_right (by omega)]
  · rw [if_neg (fun w => c ((lI_lt hb ha).mp w)), Int.min_eq_left (by omega)]
theorem lI_abs {a : Int} (ha : a_fit a) : v_absl (lI a) = lI a.natAbs := by
  unfold v_absl
  have h0 : a_fit 0 := by unfold a_fit; omega
  rw [lI_0]
  by_cases c : 0 < a
  · rw [if_pos ((lI_lt h0 ha).mpr c)]; congr 1; omega
  · rw [if_neg (fun w => c ((lI_lt h0 ha).mp w)), lI_neg]; congr 1; omega
theorem nI_lI {n : Nat} (h : n < 2 ^ 31) : (nI n).toInt64 = lI n := by rw [nI_l h, lI_N]
/-! sums -/
def a_sum (f : Nat → Nat) : Nat → Nat
  | 0 => 0
  | n + 1 => a_sum f n + f n
theorem sum_cut {f : Nat → Nat} {e : Nat} : ∀ k, (∀ j, e ≤ j → j < e + k → f j = 0) → a_sum f (e + k) = a_sum f e
  | 0, _ => rfl
  | k + 1, h => by
    show a_sum f (e + k) + f (e + k) = _
    rw [sum_cut k (fun j h1 h2 => h j h1 (by omega)), h (e + k) (by omega) (by omega)]
    rfl
theorem sum_le {f g : Nat → Nat} : ∀ n, (∀ j, j < n → f j ≤ g j) → a_sum f n ≤ a_sum g n
  | 0, _ => Nat.le_refl _
  | n + 1, h => Nat.add_le_add (sum_le n (fun j hj => h j (by omega))) (h n (by omega))
theorem sum_congr {f g : Nat → Nat} : ∀ n, (∀ j, j < n → f j = g j) → a_sum f n = a_sum g n
  | 0, _ => rfl
  | n + 1, h => by
    show a_sum f n + f n = a_sum g n + g n
    rw [sum_congr n (fun j hj => h j (by omega)), h n (by omega)]
theorem sum_add {f g : Nat → Nat} : ∀ n, a_sum (fun j => f j + g j) n = a_sum f n + a_sum g n
  | 0 => rfl
  | n + 1 => by
    show a_sum (fun j => f j + g j) n + (f n + g n) = (a_sum f n + f n) + (a_sum g n + g n)
    rw [sum_add n]; omega
theorem sum_mul {f : Nat → Nat} {c : Nat} : ∀ n, a_sum (fun j => f j * c) n = a_sum f n * c
  | 0 => by simp [a_sum]
  | n + 1 => by
    show a_sum (fun j => f j * c) n + f n * c = (a_sum f n + f n) * c
    rw [sum_mul n, Nat.add_mul]
theorem sum_shift {f : Nat → Nat} : ∀ n, a_sum (fun j => if j = 0 then 0 else f (j - 1)) (n + 1) = a_sum f n
  | 0 => rfl
  | n + 1 => by
    show a_sum (fun j => if j = 0 then 0 else f (j - 1)) (n + 1) + (if n + 1 = 0 then 0 else f (n + 1 - 1)) = a_sum f n + f n
    rw [sum_shift n, if_neg (by omega), show n + 1 - 1 = n by omega]
/-! how many vote: by the whole of 16 to the jurors -/
def a_W (c : Nat) : Nat → Nat → Nat
  | 0, k => if k = 0 then 1 else 0
  | n + 1, k => a_W c n k * (16 - c) + (if k = 0 then 0 else a_W c n (k - 1)) * c
theorem W_big {c : Nat} : ∀ n k, n < k → a_W c n k = 0
  | 0, k, h => if_neg (by omega)
  | n + 1, k, h => by
    show a_W c n k * (16 - c) + (if k = 0 then 0 else a_W c n (k - 1)) * c = 0
    rw [W_big n k (by omega), if_neg (by omega), W_big n (k - 1) (by omega)]
    omega
theorem W_sum {c : Nat} (hc : c ≤ 16) : ∀ n, a_sum (a_W c n) (n + 1) = 16 ^ n
  | 0 => rfl
  | n + 1 => by
    have h1 : a_sum (a_W c (n + 1)) (n + 1 + 1) = a_sum (fun j => a_W c n j * (16 - c)) (n + 1 + 1) + a_sum (fun j => (if j = 0 then 0 else a_W c n (j - 1)) * c) (n + 1 + 1) := sum_add _
    rw [h1, sum_mul, sum_mul (f := fun j => if j = 0 then 0 else a_W c n (j - 1)), sum_shift, W_sum hc n]
    show (a_sum (a_W c n) (n + 1) + a_W c n (n + 1)) * (16 - c) + 16 ^ n * c = 16 ^ (n + 1)
    rw [W_sum hc n, W_big n (n + 1) (by omega), Nat.pow_succ, Nat.add_zero, ← Nat.mul_add]
    congr 1
    omega
def a_win (c J : Nat) : Nat := a_sum (fun k => if J < 2 * k then a_W c J k else 0) (J + 1)
def a_owe (c J F : Nat) : Nat := a_sum (fun k => if 2 * k ≤ J ∧ k < F then a_W c J k else 0) (J + 1)
theorem win_owe {c J F : Nat} (hc : c ≤ 16) : a_win c J + a_owe c J F ≤ 16 ^ J := by
  unfold a_win a_owe
  rw [← W_sum hc J, ← sum_add]
  refine sum_le _ (fun j _ => ?_)
  by_cases h1 : J < 2 * j
  · rw [if_pos h1, if_neg (by omega)]; omega
  · rw [if_neg h1]
    split
    · omega
    · omega
theorem W_le {c J : Nat} (hc : c ≤ 16) (k : Nat) : a_W c J k ≤ 16 ^ J := by
  by_cases h : J < k
  · rw [W_big J k h]; exact Nat.zero_le _
  · rw [← W_sum hc J]
    have key : ∀ n, k < n → a_W c J k ≤ a_sum (a_W c J) n := by
      intro n
      induction n with
      | zero => intro h; omega
      | succ n ih =>
        intro h
        show _ ≤ a_sum (a_W c J) n + a_W c J n
        by_cases e : k = n
        · subst e; omega
        · have := ih (by omega); omega
    exact key _ (by omega)
theorem pow_le9 {J : Nat} (h : J ≤ 9) : 16 ^ J ≤ 2 ^ 36 := by
  have := Nat.pow_le_pow_right (n := 16) (by omega) h
  exact this
/-! the city's numbers -/
def a_J (m : Nat → Int32) : Nat := a_n (m 2)
def a_F (m : Nat → Int32) : Nat := a_n (m 3)
def a_L (m : Nat → Int32) : Nat := a_n (m 4)
def a_H (m : Nat → Int32) : Nat := a_n (m 5)
def a_f (m : Nat → Int32) (d : Nat) : Nat := a_n (m (58 + d))
def a_part (m : Nat → Int32) (d : Nat) : Nat := a_f m d * a_H m / 16
def a_wn (m : Nat → Int32) (p d : Nat) : Nat := a_win (a_c m p d) (a_J m)
def a_ow (m : Nat → Int32) (p d : Nat) : Nat := a_owe (a_c m p d) (a_J m) (a_F m)
def a_gain (m : Nat → Int32) (p d : Nat) : Int := (a_wn m p d : Int) * a_part m d - (a_ow m p d : Int) * a_L m
def a_loss (m : Nat → Int32) (p d : Nat) : Nat := a_wn m p d * a_f m d
def a_all (m : Nat → Int32) : Nat := 16 ^ a_J m
theorem ok_J1 {m : Nat → Int32} (ok : a_ok m) : m 2 = nI (a_J m) ∧ 1 ≤ a_J m ∧ a_J m ≤ 9 := ok_J ok
theorem ok_F1 {m : Nat → Int32} (ok : a_ok m) : m 3 = nI (a_F m) ∧ a_F m ≤ 9 := ⟨(ok_F ok).1, (ok_F ok).2.2⟩
theorem ok_L1 {m : Nat → Int32} (ok : a_ok m) : m 4 = nI (a_L m) ∧ a_L m ≤ 999 := ⟨(ok_L ok).1, (ok_L ok).2.2⟩
theorem ok_H1 {m : Nat → Int32} (ok : a_ok m) : m 5 = nI (a_H m) ∧ a_H m ≤ 16 := ⟨(ok_H ok).1, (ok_H ok).2.2⟩
theorem ok_f1 {m : Nat → Int32} (ok : a_ok m) {d : Nat} (hd : d < a_D m) : m (58 + d) = nI (a_f m d) ∧ 1 ≤ a_f m d ∧ a_f m d ≤ 999 := (ok_d ok hd).2.1
theorem ok_c1 {m : Nat → Int32} (ok : a_ok m) {p : Nat} (hp : p < a_P m) : m (40 + p) = nI (a_n (m (40 + p))) ∧ a_n (m (40 + p)) < 2 ^ a_D m := by
  have h := (ok_p ok hp).2.2
  have := Nat.two_pow_pos (a_D m)
  exact ⟨h.1, by have := h.2.2; omega⟩
theorem all_le {m : Nat → Int32} (ok : a_ok m) : a_all m ≤ 2 ^ 36 := pow_le9 (ok_J1 ok).2.2
theorem all_pos (m : Nat → Int32) : 0 < a_all m := Nat.pow_pos (by omega)
theorem part_le {m : Nat → Int32} (ok : a_ok m) {d : Nat} (hd : d < a_D m) : a_part m d ≤ a_f m d := by
  unfold a_part
  have h1 := (ok_H1 ok).2
  have h2 : a_f m d * a_H m ≤ a_f m d * 16 := Nat.mul_le_mul_left _ h1
  omega
theorem wn_ow {m : Nat → Int32} (p d : Nat) : a_wn m p d + a_ow m p d ≤ a_all m := win_owe (a_c16 m p d)
theorem loss_le {m : Nat → Int32} (ok : a_ok m) {p d : Nat} (hd : d < a_D m) : a_loss m p d ≤ a_all m * 999 := by
  unfold a_loss
  exact Nat.mul_le_mul (by have := wn_ow (m := m) p d; omega) (ok_f1 ok hd).2.2
theorem gain_le {m : Nat → Int32} (ok : a_ok m) {p d : Nat} (hd : d < a_D m) : -((a_all m * 999 : Nat) : Int) ≤ a_gain m p d ∧ a_gain m p d ≤ a_loss m p d := by
  have h1 := part_le ok hd
  have h2 := wn_ow (m := m) p d
  have h3 := (ok_L1 ok).2
  have h4 : a_wn m p d * a_part m d ≤ a_wn m p d * a_f m d := Nat.mul_le_mul_left _ h1
  have h5 : a_ow m p d * a_L m ≤ a_all m * 999 := Nat.mul_le_mul (by omega) h3
  unfold a_gain a_loss
  rw [← Int.natCast_mul, ← Int.natCast_mul]
  omega
theorem fit_loss {m : Nat → Int32} (ok : a_ok m) {p d : Nat} (hd : d < a_D m) : a_fit (a_loss m p d) := by
  have h1 := loss_le (p := p) ok hd
  have h2 := all_le ok
  have h3 : a_all m * 999 ≤ 2 ^ 36 * 999 := Nat.mul_le_mul_right _ h2
  unfold a_fit; omega
theorem fit_gain {m : Nat → Int32} (ok : a_ok m) {p d : Nat} (hd : d < a_D m) : a_fit (a_gain m p d) := by
  have h0 := gain_le (p := p) ok hd
  have h1 := loss_le (p := p) ok hd
  have h2 := all_le ok
  have h3 : a_all m * 999 ≤ 2 ^ 36 * 999 := Nat.mul_le_mul_right _ h2
  unfold a_fit; omega
theorem fit_0 : a_fit 0 := by unfold a_fit; omega
theorem fit_all {m : Nat → Int32} (ok : a_ok m) : a_fit (a_all m) := by
  have h2 := all_le ok
  unfold a_fit; omega
/-- who is glad gains by it, and then it costs the other -/
theorem glad_loss {m : Nat → Int32} {p d : Nat} (ok : a_ok m) (hd : d < a_D m) (h : 0 < a_gain m p d) : 0 < a_loss m p d := by
  have := (gain_le (p := p) ok hd).2
  omega
