/-! PURE FACTS: from here on the machine is left behind; p_M is rewritten by equations e_M, K being what comes behind -/
theorem v_bif (b : Bool) (A B : Prop) : ((b = false → A) ∧ (b = true → B)) = (if b = true then B else A) := by cases b <;> simp
theorem v_bif' (b : Bool) (A B : Prop) : ((b = true → B) ∧ (b = false → A)) = (if b = true then B else A) := by cases b <;> simp
theorem v_pif (P : Prop) [Decidable P] (A B : Prop) : ((P → A) ∧ (¬ P → B)) = (if P then A else B) := by by_cases h : P <;> simp [h]
theorem v_pif' (P : Prop) [Decidable P] (A B : Prop) : ((¬ P → B) ∧ (P → A)) = (if P then A else B) := by by_cases h : P <;> simp [h]
theorem vpin {n N : Nat} (h : n < N ∧ N < 2 ^ 31) : vp_in (nI n) N := vp_in_nI h.1 h.2
theorem vpt {n N : Nat} {A : Prop} (h : n < N ∧ N < 2 ^ 31) : (vp_in (nI n) N ∧ A) = A := by simp [vpin h]
theorem ncl {n : Nat} (h : n < 2 ^ 31) : Int32.toNatClampNeg (nI n) = n := nI_clamp h
-- a cell's place by a number and an index
theorem ia (k : Nat) (c : Int32) (hc : c = nI k) (j : Nat) : c + nI j = nI (k + j) := by rw [hc, nI_add]
theorem ia8 (j : Nat) : (8 : Int32) + nI j = nI (8 + j) := ia 8 8 rfl j
theorem ia16 (j : Nat) : (16 : Int32) + nI j = nI (16 + j) := ia 16 16 rfl j
theorem ia24 (j : Nat) : (24 : Int32) + nI j = nI (24 + j) := ia 24 24 rfl j
theorem ia32 (j : Nat) : (32 : Int32) + nI j = nI (32 + j) := ia 32 32 rfl j
theorem ia40 (j : Nat) : (40 : Int32) + nI j = nI (40 + j) := ia 40 40 rfl j
theorem ia48 (j : Nat) : (48 : Int32) + nI j = nI (48 + j) := ia 48 48 rfl j
theorem ia58 (j : Nat) : (58 : Int32) + nI j = nI (58 + j) := ia 58 58 rfl j
theorem ia68 (j : Nat) : (68 : Int32) + nI j = nI (68 + j) := ia 68 68 rfl j
theorem ia78 (j : Nat) : (78 : Int32) + nI j = nI (78 + j) := ia 78 78 rfl j
theorem ia88 (j : Nat) : (88 : Int32) + nI j = nI (88 + j) := ia 88 88 rfl j
theorem ia98 (j : Nat) : (98 : Int32) + nI j = nI (98 + j) := ia 98 98 rfl j
theorem cv (n : Nat) : vp_in (OfNat.ofNat n : Int32) 1900 ↔ vp_in (nI n) 1900 := Iff.rfl
theorem ccl (n : Nat) : Int32.toNatClampNeg (OfNat.ofNat n : Int32) = Int32.toNatClampNeg (nI n) := rfl
-- reads and writes of the picture
theorem si1 (S : vSt) (k j : Nat) (v : Int32) (a b : Nat) : (v_si S k j v).1 a b = if a = k ∧ b = j then v else S.1 a b := rfl
theorem si2 (S : vSt) (k j : Nat) (v : Int32) : (v_si S k j v).2 = S.2 := rfl
theorem sl1 (S : vSt) (k j : Nat) (v : Int64) : (v_sl S k j v).1 = S.1 := rfl
theorem sl2 (S : vSt) (k j : Nat) (v : Int64) (a b : Nat) : (v_sl S k j v).2 a b = if a = k ∧ b = j then v else S.2 a b := rfl
-- HalfAccuser.at, put
theorem e_at {k n j : Nat} {S : vSt} {K : Int32 → vSt → Prop} (h : j < n) (hn : n < 2 ^ 31) : p_X10_at k n S (nI j) K = K (S.1 k j) S := by
  have h1 : ¬ nI j < 0 := nI_pos (by omega)
  have h2 : ¬ Int32.ofNat n ≤ nI j := nI_ge h hn
  simp only [p_X10_at, h1, h2, vp_in_nI h hn, nI_clamp (show j < 2 ^ 31 by omega), false_implies, true_and, not_false_eq_true, true_implies]
theorem e_atl {k n j : Nat} {S : vSt} {K : Int64 → vSt → Prop} (h : j < n) (hn : n < 2 ^ 31) : p_X10_at_ k n S (nI j) K = K (S.2 k j) S := by
  have h1 : ¬ nI j < 0 := nI_pos (by omega)
  have h2 : ¬ Int32.ofNat n ≤ nI j := nI_ge h hn
  simp only [p_X10_at_, h1, h2, vp_in_nI h hn, nI_clamp (show j < 2 ^ 31 by omega), false_implies, true_and, not_false_eq_true, true_implies]
theorem e_put {k n j : Nat} {S : vSt} {v : Int32} {K : vSt → Prop} (h : j < n) (hn : n < 2 ^ 31) : p_X10_put k n S (nI j) v K = K (v_si S k j v) := by
  have h1 : ¬ nI j < 0 := nI_pos (by omega)
  have h2 : ¬ Int32.ofNat n ≤ nI j := nI_ge h hn
  simp only [p_X10_put, h1, h2, vp_in_nI h hn, nI_clamp (show j < 2 ^ 31 by omega), false_implies, true_and, not_false_eq_true, true_implies, forall_eq]
theorem e_putl {k n j : Nat} {S : vSt} {v : Int64} {K : vSt → Prop} (h : j < n) (hn : n < 2 ^ 31) : p_X10_put_ k n S (nI j) v K = K (v_sl S k j v) := by
  have h1 : ¬ nI j < 0 := nI_pos (by omega)
  have h2 : ¬ Int32.ofNat n ≤ nI j := nI_ge h hn
  simp only [p_X10_put_, h1, h2, vp_in_nI h hn, nI_clamp (show j < 2 ^ 31 by omega), false_implies, true_and, not_false_eq_true, true_implies, forall_eq]
-- out of the row: 0, nothing
theorem e_at_m1 {k n : Nat} {S : vSt} {K : Int32 → vSt → Prop} {x : Int32} (h : x < 0) : p_X10_at k n S x K = K 0 S := by
  simp [p_X10_at, h]
theorem e_atl_m1 {k n : Nat} {S : vSt} {K : Int64 → vSt → Prop} {x : Int32} (h : x < 0) : p_X10_at_ k n S x K = K 0 S := by
  simp [p_X10_at_, h]
-- a bit of a set
def v_bit (s : Int32) (j : Nat) : Bool := decide ((s >>> (nI j &&& 31)) &&& 1 = 1)
theorem e_xisIn {j : Nat} {S : vSt} {s : Int32} {K : Bool → vSt → Prop} (h : j < 31) : p_X10_isIn S s (nI j) K = K (v_bit s j) S := by
  have h1 : ¬ nI j < 0 := nI_pos (by omega)
  have h2 : ¬ (31 : Int32) ≤ nI j := nI_ge (b := 31) h (by omega)
  simp only [p_X10_isIn, h1, h2, v_bit, false_implies, true_and, not_false_eq_true, true_implies]
  by_cases c : (s >>> (nI j &&& 31)) &&& 1 = 1 <;> simp [c]
theorem e_limited {S : vSt} {x m : Int32} {K : Int32 → vSt → Prop} : p_X10_limited S x m K = K (v_maxi 0 (v_mini m x)) S := rfl
theorem e_told {S : vSt} {x : Int32} {K : Int32 → vSt → Prop} : p_X10_told S x K = K x (v_si S 0 14 0) := by simp [p_X10_told]
theorem e_refused {S : vSt} {x : Int32} {K : Int32 → vSt → Prop} : p_X10_refused S x K = K (-1) (v_si S 0 14 x) := by simp [p_X10_refused]
theorem e_settled {S : vSt} {x : Int32} {K : Bool → vSt → Prop} : p_X10_settled S x K = K (decide (x = 0)) (v_si S 0 14 x) := by
  by_cases c : x = 0 <;> simp [p_X10_settled, c]
theorem e_ruleOf {b j : Nat} {S : vSt} {K : Int32 → vSt → Prop} (h : j < 4) : p_X0_ruleOf b S (nI j) K = K (S.1 (b + 1) j) S := by
  simp only [p_X0_ruleOf, e_at h (show 4 < 2 ^ 31 by omega)]
theorem e_isRuined {b p : Nat} {S : vSt} {K : Bool → vSt → Prop} (h : p < 8) : p_X0_isRuined b S (nI p) K = K (decide (S.1 (b + 3) p < 0)) S := by
  simp only [p_X0_isRuined, e_at h (show 8 < 2 ^ 31 by omega)]
  by_cases c : S.1 (b + 3) p < 0 <;> simp [c, ← Int32.not_lt]
theorem e_isOpen {b d : Nat} {S : vSt} {K : Bool → vSt → Prop} (h : d < 10) : p_X0_isOpen b S (nI d) K = K (decide (S.1 (b + 12) d = 0)) S := by
  simp only [p_X0_isOpen, e_at h (show 10 < 2 ^ 31 by omega)]
  by_cases c : S.1 (b + 12) d = 0 <;> simp [c]
theorem e_isOwn {b d : Nat} {p : Int32} {S : vSt} {K : Bool → vSt → Prop} (h : d < 10) : p_X0_isOwn b S p (nI d) K = K (decide (S.1 (b + 9) d = p)) S := by
  simp only [p_X0_isOwn, e_at h (show 10 < 2 ^ 31 by omega)]
  by_cases c : S.1 (b + 9) d = p <;> simp [c]
theorem e_mayCharge {b p d : Nat} {S : vSt} {K : Bool → vSt → Prop} (hp : p < 8) (hd : d < 10) : p_X0_mayCharge b S (nI p) (nI d) K = K (decide (S.1 (b + 12) d = 0) && !decide (S.1 (b + 9) d = nI p) && !v_bit (S.1 (b + 7) p) d && !decide (S.1 (b + 3) p < 0)) S := by
  simp only [p_X0_mayCharge, e_isOpen hd, e_isOwn hd, e_at hp (show 8 < 2 ^ 31 by omega), e_xisIn (show d < 31 by omega), e_isRuined hp]
  cases decide (S.1 (b + 12) d = 0) <;> cases decide (S.1 (b + 9) d = nI p) <;> cases v_bit (S.1 (b + 7) p) d <;> cases decide (S.1 (b + 3) p < 0) <;> simp
theorem e_chanceOf {b p d o : Nat} {S : vSt} {K : Int32 → vSt → Prop} (hp : p < 8) (hd : d < 10) (ho : S.1 (b + 9) d = nI o) (ho8 : o < 8) : p_X0_chanceOf b S (nI p) (nI d) K = K (v_maxi 0 (v_mini 16 (S.1 (b + 11) d + S.1 (b + 4) p - S.1 (b + 4) o))) S := by
  simp only [p_X0_chanceOf, e_at hd (show 10 < 2 ^ 31 by omega), e_at hp (show 8 < 2 ^ 31 by omega), ho, e_at ho8 (show 8 < 2 ^ 31 by omega), e_limited]
theorem e_give {b p : Nat} {x : Int32} {S : vSt} {K : vSt → Prop} (hp : p < 8) : p_X0_give b S (nI p) x K = K (v_si S (b + 3) p (v_maxi (-99999) (v_mini 99999 (S.1 (b + 3) p + x)))) := by
  simp only [p_X0_give, e_at hp (show 8 < 2 ^ 31 by omega), e_put hp (show 8 < 2 ^ 31 by omega)]
-- the model's reads