/-! ints by integers -/
def iI (z : Int) : Int32 := Int32.ofInt z
theorem nI_iI (n : Nat) : nI n = iI n := by
  unfold nI iI
  rw [Int32.ofInt_eq_ofNat]
theorem iI_add (a b : Int) : iI a + iI b = iI (a + b) := (Int32.ofInt_add a b).symm
theorem iI_neg (a : Int) : -iI a = iI (-a) := (Int32.ofInt_neg a).symm
theorem iI_sub (a b : Int) : iI a - iI b = iI (a - b) := by
  rw [Int32.sub_eq_add_neg, iI_neg, iI_add, Int.sub_eq_add_neg]
theorem iI_mul (a b : Int) : iI a * iI b = iI (a * b) := (Int32.ofInt_mul a b).symm
def a_fi (z : Int) : Prop := -(2 ^ 30) < z ∧ z < 2 ^ 30
theorem iI_toInt {z : Int} (h : a_fi z) : (iI z).toInt = z := by
  unfold a_fi at h
  exact fb_ofI (by omega) (by omega)
theorem iI_of (x : Int32) : x = iI x.toInt := (fb_asI x).symm
theorem iI_lt {a b : Int} (ha : a_fi a) (hb : a_fi b) : iI a < iI b ↔ a < b := by
  rw [Int32.lt_iff_toInt_lt, iI_toInt ha, iI_toInt hb]
theorem iI_le {a b : Int} (ha : a_fi a) (hb : a_fi b) : iI a ≤ iI b ↔ a ≤ b := by
  rw [Int32.le_iff_toInt_le, iI_toInt ha, iI_toInt hb]
theorem iI_eq {a b : Int} (ha : a_fi a) (hb : a_fi b) : iI a = iI b ↔ a = b := by
  rw [← Int32.toInt_inj, iI_toInt ha, iI_toInt hb]
theorem fi_0 : a_fi 0 := by unfold a_fi; omega
theorem iI_0 : (0 : Int32) = iI 0 := rfl
theorem nI_and (a b : Nat) : nI a &&& nI b = nI (a &&& b) := by
  refine b_ext (fun i hi => ?_)
  rw [b_and, bt_nI hi, bt_nI hi, bt_nI hi, Nat.testBit_and]
/-! in how many ways so much is paid -/
def a_pay (L : Nat) (z : Int) : Nat → Nat
  | 0 => if z = 0 then 1 else 0
  | r + 1 => a_pay L z r + a_pay L (z - L) r
def a_bin : Nat → Nat → Nat
  | _, 0 => 1
  | 0, _ + 1 => 0
  | r + 1, k + 1 => a_bin r (k + 1) + a_bin r k
theorem pay_neg {L : Nat} : ∀ r (z : Int), z < 0 → a_pay L z r = 0
  | 0, z, h => if_neg (by omega)
  | r + 1, z, h => by
    show a_pay L z r + a_pay L (z - L) r = 0
    rw [pay_neg r z h, pay_neg r (z - L) (by omega)]
theorem pay_0 : ∀ r (z : Int), a_pay 0 z r = if z = 0 then 2 ^ r else 0
  | 0, z => rfl
  | r + 1, z => by
    show a_pay 0 z r + a_pay 0 (z - (0 : Nat)) r = _
    rw [show z - ((0 : Nat) : Int) = z by omega, pay_0 r z]
    split
    · rw [Nat.pow_succ]; omega
    · rfl
theorem pay_ch {L : Nat} (hL : 0 < L) : ∀ r k, a_pay L ((k * L : Nat) : Int) r = a_bin r k
  | 0, 0 => by
    show (if ((0 * L : Nat) : Int) = 0 then 1 else 0) = 1
    rw [if_pos (by rw [Nat.zero_mul]; rfl)]
  | 0, k + 1 => by
    show (if (((k + 1) * L : Nat) : Int) = 0 then 1 else 0) = 0
    have : L ≤ (k + 1) * L := Nat.le_mul_of_pos_left L (by omega)
    rw [if_neg (by omega)]
  | r + 1, 0 => by
    show a_pay L ((0 * L : Nat) : Int) r + a_pay L (((0 * L : Nat) : Int) - L) r = 1
    rw [pay_ch hL r 0, pay_neg r _ (by rw [Nat.zero_mul]; omega)]
    cases r <;> rfl
  | r + 1, k + 1 => by
    show a_pay L (((k + 1) * L : Nat) : Int) r + a_pay L ((((k + 1) * L : Nat) : Int) - L) r = a_bin r (k + 1) + a_bin r k
    have e : (k + 1) * L = k * L + L := Nat.succ_mul k L
    rw [pay_ch hL r (k + 1), show (((k + 1) * L : Nat) : Int) - L = ((k * L : Nat) : Int) by omega, pay_ch hL r k]
theorem pay_mod {L : Nat} (hL : 0 < L) : ∀ r n, n % L ≠ 0 → a_pay L ((n : Nat) : Int) r = 0
  | 0, n, h => if_neg (fun w => h (by rw [show n = 0 by omega, Nat.zero_mod]))
  | r + 1, n, h => by
    show a_pay L ((n : Nat) : Int) r + a_pay L (((n : Nat) : Int) - L) r = 0
    rw [pay_mod hL r n h]
    by_cases c : L ≤ n
    · rw [show ((n : Nat) : Int) - L = ((n - L : Nat) : Int) by omega, pay_mod hL r (n - L) (by rw [← Nat.mod_eq_sub_mod c]; exact h)]
    · rw [pay_neg r _ (by omega)]
theorem pay_le {L : Nat} : ∀ r (z : Int), a_pay L z r ≤ 2 ^ r
  | 0, z => by
    show (if z = 0 then 1 else 0) ≤ 1
    split <;> omega
  | r + 1, z => by
    have h1 := pay_le (L := L) r z
    have h2 := pay_le (L := L) r (z - L)
    show a_pay L z r + a_pay L (z - L) r ≤ 2 ^ (r + 1)
    rw [Nat.pow_succ]; omega
def a_pr (r : Nat) : Nat → Nat
  | 0 => 1
  | i + 1 => a_pr r i * (r - i) / (i + 1)
theorem pr_ch : ∀ r, r < 11 → ∀ k, k < 11 → (k ≤ r → a_pr r k = a_bin r k) ∧ a_pr r k ≤ 1000 := by decide +kernel
theorem ch_big : ∀ r k, r < k → a_bin r k = 0
  | 0, 0, h => absurd h (by omega)
  | 0, k + 1, _ => rfl
  | r + 1, 0, h => absurd h (by omega)
  | r + 1, k + 1, h => by
    show a_bin r (k + 1) + a_bin r k = 0
    rw [ch_big r (k + 1) (by omega), ch_big r k (by omega)]
theorem x_choices {S : vSt} {r j : Nat} {K : Int32 → vSt → Prop} (hr : r ≤ 10) (hj : j < 2 ^ 30) (h : K (nI (a_bin r j)) S) : p_X5_choices S (nI r) (nI j) K := by
  unfold p_X5_choices
  by_cases c : j ≤ r
  · have n1 : nI j ≤ nI r := nI_le c (by omega)
    simp only [n1, eq_self, reduceCtorEq, true_implies, false_implies, and_true, true_and, not_true_eq_false, not_false_eq_true]
    refine v_loop (fun fu i (z : Int32) => p_X5_choices_11 (nI r) (nI j) K fu S z (nI (i + 1))) (fun i z => z = nI (a_pr r i)) j (fun fu i z hi hI hk => ?_) (fun fu z hI => ?_) 1 rfl
    · have n2 : ¬ nI j < nI (i + 1) := nI_nlt (by omega) (by omega)
      have n4 : r - (i + 1) + 1 = r - i := by omega
      have n3 : ¬ nI (i + 1) = 0 := nI_ne0 (by omega) (by omega)
      have b := (pr_ch r (by omega) i (by omega)).2
      have b2 : a_pr r i * (r - i) ≤ 1000 * 10 := Nat.mul_le_mul b (by omega)
      subst hI
      simp only [e_X5_choices_11, n2, nIs, n3, n4, eq_self, reduceCtorEq, true_implies, false_implies, and_true, true_and, not_true_eq_false, not_false_eq_true, forall_eq, pk_sub (show i + 1 ≤ r by omega), pk_mul, pk_div (show a_pr r i * (r - i) < 2 ^ 31 by omega) (show 0 < i + 1 by omega) (show i + 1 < 2 ^ 31 by omega)]
      exact hk _ rfl
    · subst hI
      have n2 : nI j < nI (j + 1) := nI_lt (by omega) (by omega)
      simp only [e_X5_choices_11, n2, eq_self, reduceCtorEq, true_implies, false_implies, and_true, true_and, not_true_eq_false, not_false_eq_true]
      rw [(pr_ch r (by omega) j (by omega)).1 c]
      exact h
  · have n1 : ¬ nI j ≤ nI r := nI_ge (by omega) (by omega)
    simp only [n1, eq_self, reduceCtorEq, true_implies, false_implies, and_true, true_and, not_true_eq_false, not_false_eq_true]
    rw [ch_big r j (by omega)] at h
    exact h
theorem x_waysToPay {S : vSt} {m : Nat → Int32} {r : Nat} {z : Int} {K : Int32 → vSt → Prop} (ok : a_ok m) (R : a_R S 10 m) (hr : r ≤ 10) (hz : a_fi z) (h : K (nI (a_pay (a_L m) z r)) S) : p_X5_waysToPay S (iI z) (nI r) K := by
  obtain ⟨eL, L9⟩ := ok_L1 ok
  unfold p_X5_waysToPay
  have z0 : iI z = 0 ↔ z = 0 := iI_eq hz fi_0
  have z1 : iI z < 0 ↔ z < 0 := iI_lt hz fi_0
  rw [x_rule2 R, eL]
  by_cases c : a_L m = 0
  · rw [c, pay_0] at h
    have e0 : nI (a_L m) = 0 := by rw [c]; rfl
    simp only [e0, eq_self, reduceCtorEq, true_implies, false_implies, and_true, true_and, not_true_eq_false, not_false_eq_true, z0, bit_1 r (show r < 31 by omega)]
    by_cases d : z = 0
    · rw [if_pos d] at h
      simp only [d, eq_self, reduceCtorEq, true_implies, false_implies, and_true, true_and, not_true_eq_false, not_false_eq_true]
      exact h
    · rw [if_neg d] at h
      simp only [d, eq_self, reduceCtorEq, true_implies, false_implies, and_true, true_and, not_true_eq_false, not_false_eq_true]
      exact h
  · have e0 : ¬ nI (a_L m) = 0 := nI_ne0 (by omega) (by omega)
    simp only [e0, eq_self, reduceCtorEq, true_implies, false_implies, and_true, true_and, not_true_eq_false, not_false_eq_true, z1]
    by_cases d : z < 0
    · rw [pay_neg r z d] at h
      simp only [d, eq_self, reduceCtorEq, true_implies, false_implies, and_true, true_and, not_true_eq_false, not_false_eq_true]
      exact h
    · obtain ⟨k, rfl⟩ : ∃ k : Nat, z = k := ⟨z.toNat, by omega⟩
      have hk : k < 2 ^ 30 := by unfold a_fi at hz; omega
      rw [← nI_iI]
      simp only [d, eq_self, reduceCtorEq, true_implies, false_implies, and_true, true_and, not_true_eq_false, not_false_eq_true, pk_rem (show k < 2 ^ 31 by omega) (show 0 < a_L m by omega) (show a_L m < 2 ^ 31 by omega)]
      simp only [pk_div (show k < 2 ^ 31 by omega) (show 0 < a_L m by omega) (show a_L m < 2 ^ 31 by omega)]
      have hm : k % a_L m < a_L m := Nat.mod_lt _ (by omega)
      by_cases w : k % a_L m = 0
      · have e1 : nI (k % a_L m) = 0 := by rw [w]; rfl
        simp only [e1, eq_self, reduceCtorEq, true_implies, false_implies, and_true, true_and, not_true_eq_false, not_false_eq_true]
        have hd : k / a_L m ≤ k := Nat.div_le_self _ _
        have e2 : k = k / a_L m * a_L m := by
          have := Nat.div_add_mod k (a_L m)
          rw [w, Nat.add_zero, Nat.mul_comm] at this
          exact this.symm
        rw [e2, pay_ch (by omega)] at h
        exact x_choices hr (by omega) h
      · have e1 : ¬ nI (k % a_L m) = 0 := nI_ne0 (by omega) (by omega)
        simp only [e1, eq_self, reduceCtorEq, true_implies, false_implies, and_true, true_and, not_true_eq_false, not_false_eq_true]
        rw [pay_mod (by omega) r k w] at h
        exact h
/-! ways, and what is won in all of them -/
def a_va (u v : Nat × Nat) : Nat × Nat := (u.1 + v.1, u.2 &&& v.2)
theorem va_com (u v : Nat × Nat) : a_va u v = a_va v u := by unfold a_va; rw [Nat.add_comm, Nat.and_comm]
theorem va_ass (u v w : Nat × Nat) : a_va (a_va u v) w = a_va u (a_va v w) := by unfold a_va; simp only [Nat.add_assoc, Nat.and_assoc]
theorem va_mid (a b c d : Nat × Nat) : a_va (a_va a b) (a_va c d) = a_va (a_va a c) (a_va b d) := by
  rw [va_ass, va_ass, ← va_ass b c d, va_com b c, va_ass c b d]
def a_pw (L : Nat) (z : Int) (r w : Nat) : Nat × Nat := (a_pay L z r, if a_pay L z r = 0 then 1023 else w)
theorem and_1023 {w : Nat} (h : w < 1024) : w &&& 1023 = w := by
  rw [show 1023 = 2 ^ 10 - 1 from rfl, Nat.and_two_pow_sub_one_eq_mod]
  exact Nat.mod_eq_of_lt h
theorem pw_s {L : Nat} {z : Int} {r w : Nat} (hw : w < 1024) : a_pw L z (r + 1) w = a_va (a_pw L z r w) (a_pw L (z - L) r w) := by
  unfold a_pw a_va
  have e : a_pay L z (r + 1) = a_pay L z r + a_pay L (z - L) r := rfl
  refine Prod.ext e ?_
  show (if a_pay L z (r + 1) = 0 then 1023 else w) = (if a_pay L z r = 0 then 1023 else w) &&& (if a_pay L (z - L) r = 0 then 1023 else w)
  rw [e]
  by_cases c : a_pay L z r = 0 <;> by_cases d : a_pay L (z - L) r = 0
  · rw [if_pos (by omega), if_pos c, if_pos d]; rfl
  · rw [if_neg (by omega), if_pos c, if_neg d, Nat.and_comm, and_1023 hw]
  · rw [if_neg (by omega), if_neg c, if_pos d, and_1023 hw]
  · rw [if_neg (by omega), if_neg c, if_neg d, Nat.and_self]
/-- by the deeds of a list, all that can have become of each -/
def a_G (m : Nat → Int32) : List Nat → Int → Nat → Nat → Nat × Nat
  | [], x, r, w => a_pw (a_L m) (-x) r w
  | d :: l, x, r, w => a_va (a_G m l x (r + 1) w) (a_G m l (x - a_part m d) r (w ||| 2 ^ d))
theorem G_s {m : Nat → Int32} : ∀ (l : List Nat) (x : Int) (r w : Nat), w < 1024 → (∀ d, d ∈ l → d < 10) → a_G m l x (r + 1) w = a_va (a_G m l x r w) (a_G m l (x + a_L m) r w)
  | [], x, r, w, hw, _ => by
    show a_pw (a_L m) (-x) (r + 1) w = a_va (a_pw (a_L m) (-x) r w) (a_pw (a_L m) (-(x + a_L m)) r w)
    rw [pw_s hw, show -(x + (a_L m : Int)) = -x - a_L m by omega]
  | d :: l, x, r, w, hw, hl => by
    have hl' : ∀ e, e ∈ l → e < 10 := fun e he => hl e (List.mem_cons_of_mem _ he)
    have hd := hl d (List.mem_cons_self ..)
    show a_va (a_G m l x (r + 1 + 1) w) (a_G m l (x - a_part m d) (r + 1) (w ||| 2 ^ d)) = a_va (a_va (a_G m l x (r + 1) w) (a_G m l (x - a_part m d) r (w ||| 2 ^ d))) (a_va (a_G m l (x + a_L m) (r + 1) w) (a_G m l (x + a_L m - a_part m d) r (w ||| 2 ^ d)))
    rw [G_s l x (r + 1) w hw hl', G_s l (x - a_part m d) r (w ||| 2 ^ d) (or_10 hw hd) hl', va_mid, show x + (a_L m : Int) - a_part m d = x - a_part m d + a_L m by omega]
/-- one set of them, as the class goes through it -/
def a_E (m : Nat → Int32) : List Nat → Nat → Int → Nat → Nat → Nat × Nat
  | [], _, x, r, w => a_pw (a_L m) (-x) r w
  | d :: l, c, x, r, w => if c % 2 = 1 then a_E m l (c / 2) (x - a_part m d) r (w ||| 2 ^ d) else a_E m l (c / 2) x (r + 1) w
def a_vs (f : Nat → Nat × Nat) : Nat → Nat × Nat
  | 0 => (0, 1023)
  | n + 1 => a_va (a_vs f n) (f n)
theorem vs_2 {f : Nat → Nat × Nat} : ∀ n, a_vs f (2 * n) = a_va (a_vs (fun c => f (2 * c)) n) (a_vs (fun c => f (2 * c + 1)) n)
  | 0 => Prod.ext rfl (Nat.and_self 1023).symm
  | n + 1 => by
    show a_va (a_va (a_vs f (2 * n)) (f (2 * n))) (f (2 * n + 1)) = a_va (a_va (a_vs (fun c => f (2 * c)) n) (f (2 * n))) (a_va (a_vs (fun c => f (2 * c + 1)) n) (f (2 * n + 1)))
    rw [vs_2 n, va_ass, va_mid]
theorem vs_congr {f g : Nat → Nat × Nat} (h : ∀ c, f c = g c) : ∀ n, a_vs f n = a_vs g n
  | 0 => rfl
  | n + 1 => by
    show a_va (a_vs f n) (f n) = a_va (a_vs g n) (g n)
    rw [vs_congr h n, h n]
theorem pw_lt {L : Nat} {z : Int} {r w : Nat} (hw : w < 1024) : (a_pw L z r w).2 < 1024 := by
  unfold a_pw
  show (if _ then 1023 else w) < 1024
  split <;> omega
theorem va_unit {u : Nat × Nat} (h : u.2 < 1024) : a_va (0, 1023) u = u := by
  unfold a_va
  refine Prod.ext (Nat.zero_add _) ?_
  show 1023 &&& u.2 = u.2
  rw [Nat.and_comm, and_1023 h]
theorem E_G {m : Nat → Int32} : ∀ (l : List Nat) (x : Int) (r w : Nat), w < 1024 → (∀ d, d ∈ l → d < 10) → a_vs (fun c => a_E m l c x r w) (2 ^ l.length) = a_G m l x r w
  | [], x, r, w, hw, _ => va_unit (pw_lt hw)
  | d :: l, x, r, w, hw, hl => by
    have hl' : ∀ e, e ∈ l → e < 10 := fun e he => hl e (List.mem_cons_of_mem _ he)
    have hd := hl d (List.mem_cons_self ..)
    show a_vs (fun c => a_E m (d :: l) c x r w) (2 ^ (l.length + 1)) = a_va (a_G m l x (r + 1) w) (a_G m l (x - a_part m d) r (w ||| 2 ^ d))
    rw [Nat.pow_succ, Nat.mul_comm, vs_2, ← E_G l x (r + 1) w hw hl', ← E_G l (x - a_part m d) r (w ||| 2 ^ d) (or_10 hw hd) hl']
    congr 1
    · refine vs_congr (fun c => ?_) _
      show (if (2 * c) % 2 = 1 then a_E m l (2 * c / 2) (x - a_part m d) r (w ||| 2 ^ d) else a_E m l (2 * c / 2) x (r + 1) w) = _
      rw [if_neg (by omega), show 2 * c / 2 = c by omega]
    · refine vs_congr (fun c => ?_) _
      show (if (2 * c + 1) % 2 = 1 then a_E m l ((2 * c + 1) / 2) (x - a_part m d) r (w ||| 2 ^ d) else a_E m l ((2 * c + 1) / 2) x (r + 1) w) = _
      rw [if_pos (by omega), show (2 * c + 1) / 2 = c by omega]
theorem E_lt {m : Nat → Int32} : ∀ (l : List Nat) (c : Nat) (x : Int) (r w : Nat), w < 1024 → (∀ d, d ∈ l → d < 10) → (a_E m l c x r w).2 < 1024
  | [], c, x, r, w, hw, _ => pw_lt hw
  | d :: l, c, x, r, w, hw, hl => by
    have hl' : ∀ e, e ∈ l → e < 10 := fun e he => hl e (List.mem_cons_of_mem _ he)
    show (if c % 2 = 1 then a_E m l (c / 2) (x - a_part m d) r (w ||| 2 ^ d) else a_E m l (c / 2) x (r + 1) w).2 < 1024
    split
    · exact E_lt l _ _ _ _ (or_10 hw (hl d (List.mem_cons_self ..))) hl'
    · exact E_lt l _ _ _ _ hw hl'
/-- the deeds from d on, k of them, that are not p's own -/
def a_ol (m : Nat → Int32) (p : Nat) : Nat → Nat → List Nat
  | 0, _ => []
  | k + 1, d => if m (48 + d) = nI p then a_ol m p k (d + 1) else d :: a_ol m p k (d + 1)
theorem ol_lt {m : Nat → Int32} {p : Nat} : ∀ k d e, e ∈ a_ol m p k d → d ≤ e ∧ e < d + k
  | 0, d, e, h => absurd h (List.not_mem_nil)
  | k + 1, d, e, h => by
    unfold a_ol at h
    split at h
    · have := ol_lt k (d + 1) e h; omega
    · rcases List.mem_cons.mp h with q | q
      · omega
      · have := ol_lt k (d + 1) e q; omega
theorem ol_len {m : Nat → Int32} {p : Nat} : ∀ k d, (a_ol m p k d).length ≤ k
  | 0, d => Nat.le_refl _
  | k + 1, d => by
    have := ol_len (m := m) (p := p) k (d + 1)
    unfold a_ol
    split
    · omega
    · rw [List.length_cons]; omega
def a_ot (m : Nat → Int32) (p : Nat) : List Nat := a_ol m p (a_D m) 0
/-! the class's -/
def a_pc (k _j : Nat) : Bool := decide (k = 72 ∨ k = 73)
theorem pc_sx : ∀ k j, a_sx k j = false → a_pc k j = false := by
  intro k j q
  unfold a_sx at q
  unfold a_pc
  rw [decide_eq_false_iff_not] at q ⊢
  omega
def a_oth (S : vSt) (m : Nat → Int32) (p : Nat) : Prop := S.1 72 2 = nI (a_ot m p).length ∧ ∀ i d : Nat, (a_ot m p)[i]? = some d → S.1 73 i = nI d
theorem x_gather {S : vSt} {m : Nat → Int32} {p : Nat} {K : vSt → Prop} (ok : a_ok m) (R : a_R S 10 m) (h : ∀ S', a_fr a_pc S S' → a_oth S' m p → K S') : p_X5_gather S (nI p) K := by
  have h10 := ok_D10 ok
  unfold p_X5_gather
  rintro _ rfl
  refine v_loop (fun fu i (s : vSt) => p_X5_gather_7 (nI p) K fu s (nI i)) (fun i s => a_fr a_pc S s ∧ ∃ l : List Nat, a_ot m p = l ++ a_ol m p (a_D m - i) i ∧ l.length ≤ i ∧ s.1 72 2 = nI l.length ∧ ∀ j d : Nat, l[j]? = some d → s.1 73 j = nI d) (a_D m) (fun fu i s hi hI hk => ?_) (fun fu s hI => ?_) _ ⟨fr_i fr_r rfl, [], rfl, Nat.le_refl _, si_at, fun j d q => by cases q⟩
  · obtain ⟨f, l, e, hl, h2, h3⟩ := hI
    have R1 := R_x R (fr_w f pc_sx)
    have h1 : ¬ nI (a_D m) ≤ nI i := nI_ge hi (by omega)
    have eo : a_ol m p (a_D m - i) i = if m (48 + i) = nI p then a_ol m p (a_D m - (i + 1)) (i + 1) else i :: a_ol m p (a_D m - (i + 1)) (i + 1) := by
      rw [show a_D m - i = (a_D m - (i + 1)) + 1 by omega]
      rfl
    simp only [e_X5_gather_7, R_1 R1, ok_m1 ok, h1, eq_self, reduceCtorEq, true_implies, false_implies, and_true, true_and, not_true_eq_false, not_false_eq_true]
    rw [e_isOwn (show i < 10 by omega), R_48 R1 hi h10]
    unfold p_X5_gather_52
    by_cases c : m (48 + i) = nI p
    · rw [if_pos c] at eo
      simp only [c, decide_true, eq_self, reduceCtorEq, true_implies, false_implies, and_true, true_and, not_true_eq_false, not_false_eq_true, forall_eq, nIs]
      exact hk s ⟨f, l, by rw [e, eo], by omega, h2, h3⟩
    · rw [if_neg c] at eo
      simp only [c, decide_false, eq_self, reduceCtorEq, true_implies, false_implies, and_true, true_and, not_true_eq_false, not_false_eq_true, h2]
      rw [e_put (show l.length < 10 by omega) (by omega)]
      have e2 : (v_si s 73 l.length (nI i)).1 72 2 = nI l.length := h2
      simp only [forall_eq, nIs, e2]
      refine hk _ ⟨fr_i (fr_i f rfl) rfl, l ++ [i], by rw [e, eo, List.append_assoc]; rfl, by rw [List.length_append]; show l.length + 1 ≤ i + 1; omega, by rw [si_at, List.length_append]; rfl, fun j d q => ?_⟩
      rw [si1, if_neg (fun w => by omega), si1]
      rw [List.getElem?_append] at q
      by_cases cj : j < l.length
      · rw [if_pos cj] at q
        rw [if_neg (fun w => by omega)]
        exact h3 j d q
      · rw [if_neg cj] at q
        have hj : j - l.length < 1 := by
          have := (List.getElem?_eq_some_iff.mp q).1
          simpa using this
        have ej : j = l.length := by omega
        rw [if_pos ⟨rfl, ej⟩]
        rw [ej, Nat.sub_self] at q
        have : i = d := by simpa using q
        rw [this]
  · obtain ⟨f, l, e, hl, h2, h3⟩ := hI
    have R1 := R_x R (fr_w f pc_sx)
    simp only [e_X5_gather_7, R_1 R1, ok_m1 ok, Int32.le_refl, eq_self, reduceCtorEq, true_implies, false_implies, and_true, true_and, not_true_eq_false, not_false_eq_true]
    rw [Nat.sub_self] at e
    have e : a_ot m p = l := by rw [e]; exact List.append_nil l
    exact h s f ⟨by rw [e]; exact h2, by rw [e]; exact h3⟩
theorem ot_D {m : Nat → Int32} {p i d : Nat} (h : (a_ot m p)[i]? = some d) : d < a_D m := by
  have := (ol_lt _ _ _ (List.mem_of_getElem? h)).2
  omega
theorem ot_len {m : Nat → Int32} (ok : a_ok m) (p : Nat) : (a_ot m p).length ≤ 10 := Nat.le_trans (ol_len _ _) (ok_D10 ok)
theorem ot_10 {m : Nat → Int32} (ok : a_ok m) {p d : Nat} (h : d ∈ a_ot m p) : d < 10 := by
  have := (ol_lt _ _ _ h).2
  have := ok_D10 ok
  omega
theorem x_prize {S : vSt} {m : Nat → Int32} {p i d : Nat} {K : Int32 → vSt → Prop} (ok : a_ok m) (R : a_R S 10 m) (o : a_oth S m p) (h : (a_ot m p)[i]? = some d) : p_X5_prize S (nI i) K = K (nI (a_part m d)) S := by
  have h10 := ok_D10 ok
  have hd := ot_D h
  have hi : i < 10 := by
    have := (List.getElem?_eq_some_iff.mp h).1
    have := ot_len ok p
    omega
  unfold p_X5_prize
  rw [e_at hi (by omega), o.2 i d h, e_at (show d < 10 by omega) (by omega), R_58 (b := 10) R hd h10, x_rule3 R]
  simp only [p_X0_partOf, x_part ok hd]
theorem oth_fr {S S' : vSt} {m : Nat → Int32} {p : Nat} (o : a_oth S m p) (h2 : S'.1 72 2 = S.1 72 2) (h3 : ∀ i, S'.1 73 i = S.1 73 i) : a_oth S' m p := ⟨h2.trans o.1, fun i d q => (h3 i).trans (o.2 i d q)⟩
theorem drop_at {l : List Nat} {i d : Nat} (h : l[i]? = some d) : l.drop i = d :: l.drop (i + 1) := by
  obtain ⟨h1, h2⟩ := List.getElem?_eq_some_iff.mp h
  rw [List.drop_eq_getElem_cons h1, h2]
theorem sum_part {m : Nat → Int32} (ok : a_ok m) {d : Nat} (hd : d < a_D m) : a_part m d ≤ 999 := Nat.le_trans (part_le ok hd) (ok_f1 ok hd).2.2
theorem half_bit (c i : Nat) : c.testBit i = decide (c / 2 ^ i % 2 = 1) := by
  rw [Nat.testBit_eq_decide_div_mod_eq]
theorem x_look {S : vSt} {m : Nat → Int32} {p : Nat} {y : Int} {K : vSt → Prop} (ok : a_ok m) (R : a_R S 10 m) (hy : -9999 ≤ y ∧ y ≤ 9999) (h : ∀ S', a_fr a_pc S S' → S'.1 72 3 = nI (a_G m (a_ot m p) y 0 0).1 → S'.1 72 4 = nI (a_G m (a_ot m p) y 0 0).2 → K S') : p_X5_look S (nI p) (iI y) K := by
  have h10 := ok_D10 ok
  have hl := ot_len ok p
  unfold p_X5_look
  refine x_gather ok R (fun S1 f1 o1 => ?_)
  rintro _ rfl _ rfl
  have h2l : 2 ^ (a_ot m p).length ≤ 1024 := Nat.pow_le_pow_right (n := 2) (j := 10) (by omega) hl
  refine v_loop (fun fu c (s : vSt) => p_X5_look_19 (nI p) (iI y) K fu s (nI c)) (fun c s => a_fr a_pc S s ∧ a_oth s m p ∧ s.1 72 3 = nI (a_vs (fun c => a_E m (a_ot m p) c y 0 0) c).1 ∧ s.1 72 4 = nI (a_vs (fun c => a_E m (a_ot m p) c y 0 0) c).2) (2 ^ (a_ot m p).length) (fun fu c s hc hI hk => ?_) (fun fu s hI => ?_) _ ⟨fr_i (fr_i f1 rfl) rfl, oth_fr o1 rfl (fun i => rfl), rfl, rfl⟩
  · obtain ⟨f, o, v3, v4⟩ := hI
    have R1 := R_x R (fr_w f pc_sx)
    have h1 : ¬ nI (2 ^ (a_ot m p).length) ≤ nI c := nI_ge hc (by omega)
    simp only [e_X5_look_19, o.1, bit_1 _ (show (a_ot m p).length < 31 by omega), h1, eq_self, reduceCtorEq, true_implies, false_implies, and_true, true_and, not_true_eq_false, not_false_eq_true]
    refine v_loop (fun fu2 i (z : Int32 × Int32) => p_X5_look_38 (nI p) (iI y) (p_X5_look_19 (nI p) (iI y) K fu) K fu2 s (nI c) z.1 z.2 (nI i)) (fun i z => ∃ su w r : Nat, z.1 = nI su ∧ z.2 = nI w ∧ su ≤ i * 999 ∧ w < 1024 ∧ r + a_cnt c i = i ∧ a_E m (a_ot m p) c y 0 0 = a_E m ((a_ot m p).drop i) (c / 2 ^ i) (y - su) r w) (a_ot m p).length (fun fu2 i z hi hI hk2 => ?_) (fun fu2 z hI => ?_) (0, 0) ⟨0, 0, 0, rfl, rfl, by omega, by omega, rfl, ?_⟩
    · obtain ⟨z1, z2⟩ := z
      obtain ⟨su, w, r, e1, e2, hs, hw, hr, hE⟩ := hI
      simp only at e1 e2
      subst e1 e2
      have h2 : ¬ nI (a_ot m p).length ≤ nI i := nI_ge hi (by omega)
      obtain ⟨d, hd⟩ : ∃ d, (a_ot m p)[i]? = some d := ⟨_, List.getElem?_eq_getElem hi⟩
      have hD := ot_D hd
      have hp := sum_part ok hD
      have ec : a_cnt c (i + 1) = a_cnt c i + (if c.testBit i = true then 1 else 0) := rfl
      have e2 : c / 2 ^ i / 2 = c / 2 ^ (i + 1) := by rw [Nat.div_div_eq_div_mul, Nat.pow_succ]
      rw [drop_at hd] at hE
      have hE : a_E m (a_ot m p) c y 0 0 = if c / 2 ^ i % 2 = 1 then a_E m ((a_ot m p).drop (i + 1)) (c / 2 ^ i / 2) (y - su - a_part m d) r (w ||| 2 ^ d) else a_E m ((a_ot m p).drop (i + 1)) (c / 2 ^ i / 2) (y - su) (r + 1) w := hE
      rw [e2] at hE
      simp only [e_X5_look_38, o.1, h2, eq_self, reduceCtorEq, true_implies, false_implies, and_true, true_and, not_true_eq_false, not_false_eq_true, e_xisIn (show i < 31 by omega), bit_at c (show c < 1024 by omega) i (show i < 10 by omega)]
      unfold p_X5_look_83
      have hb := half_bit c i
      cases b : c.testBit i
      · rw [b] at hb ec
        have hb := of_decide_eq_false hb.symm
        rw [if_neg hb] at hE
        rw [if_neg (by decide)] at ec
        simp only [eq_self, reduceCtorEq, true_implies, false_implies, and_true, true_and, not_true_eq_false, not_false_eq_true, forall_eq, nIs]
        exact hk2 (nI su, nI w) ⟨su, w, r + 1, rfl, rfl, Nat.le_trans hs (Nat.mul_le_mul_right _ (Nat.le_succ i)), hw, by omega, hE⟩
      · rw [b] at hb ec
        have hb := of_decide_eq_true hb.symm
        rw [if_pos hb] at hE
        rw [if_pos rfl] at ec
        simp only [eq_self, reduceCtorEq, true_implies, false_implies, and_true, true_and, not_true_eq_false, not_false_eq_true, x_prize ok R1 o hd, forall_eq, e_at (show i < 10 by omega) (show 10 < 2 ^ 31 by omega), o.2 i d hd, bit_1 d (show d < 31 by omega), bit_or w hw d (show d < 11 by omega), nIs, nI_add]
        exact hk2 (nI (su + a_part m d), nI (w ||| 2 ^ d)) ⟨su + a_part m d, w ||| 2 ^ d, r, rfl, rfl, by omega, or_10 hw (by omega), by omega, by rw [hE]; congr 1; omega⟩
    · obtain ⟨z1, z2⟩ := z
      obtain ⟨su, w, r, e1, e2, hs, hw, hr, hE⟩ := hI
      simp only at e1 e2
      subst e1 e2
      have ec : a_cnt c 10 = a_cnt c (a_ot m p).length := by
        rw [show 10 = (a_ot m p).length + (10 - (a_ot m p).length) by omega]
        refine sum_cut _ (fun j h1 h2 => if_neg (fun q => ?_))
        have h3 : 2 ^ (a_ot m p).length ≤ 2 ^ j := Nat.pow_le_pow_right (by omega) h1
        rw [Nat.testBit_lt_two_pow (by omega)] at q
        exact Bool.noConfusion q
      have hE : a_E m (a_ot m p) c y 0 0 = a_pw (a_L m) (-(y - su)) r w := by
        rw [hE, List.drop_of_length_le (Nat.le_refl _)]
        rfl
      have hp := pay_le (L := a_L m) r (-(y - su))
      have h2r : 2 ^ r ≤ 1024 := Nat.pow_le_pow_right (n := 2) (j := 10) (by omega) (by omega)
      simp only [e_X5_look_38, o.1, Int32.le_refl, eq_self, reduceCtorEq, true_implies, false_implies, and_true, true_and, not_true_eq_false, not_false_eq_true, x_bitCount (show c < 1024 by omega)]
      rw [ec, pk_sub (show a_cnt c (a_ot m p).length ≤ (a_ot m p).length by omega), show (a_ot m p).length - a_cnt c (a_ot m p).length = r by omega, nI_iI su, iI_sub, show (su : Int) - y = -(y - su) by omega]
      refine x_waysToPay ok R1 (by omega) (by unfold a_fi; omega) ?_
      simp only [forall_eq, v3, nI_add]
      have e4 : ∀ q, (v_si s 72 3 q).1 72 4 = s.1 72 4 := fun q => rfl
      unfold p_X5_look_138
      simp only [e4, v4, forall_eq, nIs, nI_and]
      have ev : a_vs (fun c => a_E m (a_ot m p) c y 0 0) (c + 1) = a_va (a_vs (fun c => a_E m (a_ot m p) c y 0 0) c) (a_pw (a_L m) (-(y - su)) r w) := by rw [← hE]; rfl
      have vl : (a_vs (fun c => a_E m (a_ot m p) c y 0 0) c).2 < 1024 := by
        have key : ∀ n, (a_vs (fun c => a_E m (a_ot m p) c y 0 0) n).2 < 1024 := by
          intro n
          cases n with
          | zero => show 1023 < 1024; omega
          | succ n => exact Nat.and_lt_two_pow (n := 10) _ (E_lt _ _ _ _ _ (by omega) (fun d hd => ot_10 ok hd))
        exact key c
      by_cases q : a_pay (a_L m) (-(y - su)) r = 0
      · have q' : nI (a_pay (a_L m) (-(y - su)) r) ≤ 0 := by rw [q]; decide
        simp only [q', eq_self, reduceCtorEq, true_implies, false_implies, and_true, true_and, not_true_eq_false, not_false_eq_true]
        refine hk _ ⟨fr_i (fr_i f rfl) rfl, oth_fr o rfl (fun i => rfl), ?_, ?_⟩
        · rw [ev]; rfl
        · rw [si_at, ev]
          unfold a_va a_pw
          simp only [q, if_true]
          rw [and_1023 vl, Nat.and_self]
      · have q' : ¬ nI (a_pay (a_L m) (-(y - su)) r) ≤ 0 := nI_nle (by omega) (by omega)
        simp only [q', eq_self, reduceCtorEq, true_implies, false_implies, and_true, true_and, not_true_eq_false, not_false_eq_true]
        refine hk _ ⟨fr_i (fr_i f rfl) rfl, oth_fr o rfl (fun i => rfl), ?_, ?_⟩
        · rw [ev]; rfl
        · rw [si_at, ev]
          unfold a_va a_pw
          simp only [q, if_false]
    · rw [List.drop_zero, Nat.pow_zero, Nat.div_one, show y - ((0 : Nat) : Int) = y by omega]
  · obtain ⟨f, o, v3, v4⟩ := hI
    simp only [e_X5_look_19, o.1, bit_1 _ (show (a_ot m p).length < 31 by omega), Int32.le_refl, eq_self, reduceCtorEq, true_implies, false_implies, and_true, true_and, not_true_eq_false, not_false_eq_true]
    have e := E_G (m := m) (a_ot m p) y 0 0 (by omega) (fun d hd => ot_10 ok hd)
    rw [e] at v3 v4
    exact h s f v3 v4
