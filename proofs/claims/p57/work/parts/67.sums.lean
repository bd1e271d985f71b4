/-! COINS of all and the TREASURY together -/
def b_cs (m : Nat → Int32) : Nat → Int32
  | 0 => m 6
  | n + 1 => b_cs m n + m (8 + n)
theorem cs_s (m : Nat → Int32) (n : Nat) : b_cs m (n + 1) = b_cs m n + m (8 + n) := rfl
theorem cs_congr {m m' : Nat → Int32} (h6 : m' 6 = m 6) : ∀ n, (∀ p, p < n → m' (8 + p) = m (8 + p)) → b_cs m' n = b_cs m n
  | 0, _ => h6
  | n + 1, h => by rw [cs_s, cs_s, cs_congr h6 n (fun p hp => h p (by omega)), h n (by omega)]
theorem cs_6 {m : Nat → Int32} {x : Int32} : ∀ n, b_cs (a_set m 6 (m 6 + x)) n = b_cs m n + x
  | 0 => a_set_eq
  | n + 1 => by
    rw [cs_s, cs_s, cs_6 n, a_set_ne (by omega), Int32.add_assoc, Int32.add_comm x, ← Int32.add_assoc]
theorem cs_8 {m : Nat → Int32} {p : Nat} {x : Int32} : ∀ n, p < n → b_cs (a_set m (8 + p) (m (8 + p) + x)) n = b_cs m n + x
  | 0, h => absurd h (by omega)
  | n + 1, h => by
    rw [cs_s, cs_s]
    rcases (show p < n ∨ p = n by omega) with c | rfl
    · rw [cs_8 n c, a_set_ne (by omega), Int32.add_assoc, Int32.add_comm x, ← Int32.add_assoc]
    · rw [cs_congr (m := m) (a_set_ne (by omega)) p (fun q hq => a_set_ne (by omega)), a_set_eq, Int32.add_assoc]
/-- COINS and TREASURY stay between, their sum is s -/
def b_Z (m : Nat → Int32) (n : Nat) (c t : Int) (s : Int32) : Prop := (∀ p, p < n → -c ≤ (m (8 + p)).toInt ∧ (m (8 + p)).toInt ≤ c) ∧ (0 ≤ (m 6).toInt ∧ (m 6).toInt ≤ t) ∧ b_cs m n = s
theorem clamp_id {x : Int32} (h1 : -99999 ≤ x.toInt) (h2 : x.toInt ≤ 99999) : a_clamp x = x := by
  have e1 : (99999 : Int32).toInt = 99999 := by decide
  have e2 : (-99999 : Int32).toInt = -99999 := by decide
  have q1 : v_mini 99999 x = x := by
    unfold v_mini
    by_cases c : x < 99999
    · rw [if_pos c]
    · rw [if_neg c]
      rw [Int32.lt_iff_toInt_lt, e1] at c
      exact Int32.toInt_inj.mp (by rw [e1]; omega)
  unfold a_clamp
  rw [q1]
  unfold v_maxi
  by_cases c : -99999 < x
  · rw [if_pos c]
  · rw [if_neg c]
    rw [Int32.lt_iff_toInt_lt, e2] at c
    exact Int32.toInt_inj.mp (by rw [e2]; omega)
theorem pays_id {m : Nat → Int32} {j : Nat} {z : Int32} (h1 : -99999 ≤ (m j).toInt + z.toInt) (h2 : (m j).toInt + z.toInt ≤ 99999) : a_pays m j z = a_set m j (m j + z) ∧ (m j + z).toInt = (m j).toInt + z.toInt := by
  have e : (m j + z).toInt = (m j).toInt + z.toInt := fb_addI (by omega) (by omega)
  unfold a_pays
  rw [clamp_id (by omega) (by omega)]
  exact ⟨rfl, e⟩
theorem Z_coin {m : Nat → Int32} {n p : Nat} {c t k : Int} {s z : Int32} (h : b_Z m n c t s) (hp : p < n) (hz : -k ≤ z.toInt ∧ z.toInt ≤ k) (hk : 0 ≤ k) (hc : c + k ≤ 99999) : b_Z (a_pays m (8 + p) z) n (c + k) t (s + z) := by
  obtain ⟨h1, h2, h3⟩ := h
  have hq := h1 p hp
  obtain ⟨e1, e2⟩ := pays_id (m := m) (j := 8 + p) (z := z) (by omega) (by omega)
  rw [e1]
  refine ⟨fun q hq2 => ?_, ?_, ?_⟩
  · by_cases c : q = p
    · subst c; rw [a_set_eq, e2]; omega
    · rw [a_set_ne (by omega)]; have := h1 q hq2; omega
  · rw [a_set_ne (by omega)]; exact h2
  · rw [cs_8 n hp, h3]
theorem Z_tre {m : Nat → Int32} {n : Nat} {c t k : Int} {s z : Int32} (h : b_Z m n c t s) (hz : 0 ≤ z.toInt ∧ z.toInt ≤ k) (hc : t + k ≤ 99999) : b_Z (a_pays m 6 z) n c (t + k) (s + z) := by
  obtain ⟨h1, h2, h3⟩ := h
  obtain ⟨e1, e2⟩ := pays_id (m := m) (j := 6) (z := z) (by omega) (by omega)
  rw [e1]
  refine ⟨fun q hq2 => ?_, ?_, ?_⟩
  · rw [a_set_ne (by omega)]; exact h1 q hq2
  · rw [a_set_eq, e2]; omega
  · rw [cs_6 n, h3]
theorem Z_w {m : Nat → Int32} {n : Nat} {c t c' t' : Int} {s : Int32} (h : b_Z m n c t s) (hc : c ≤ c') (ht : t ≤ t') : b_Z m n c' t' s := ⟨fun p hp => by have := h.1 p hp; omega, by have := h.2.1; omega, h.2.2⟩
theorem Z_eq {m m' : Nat → Int32} {n : Nat} {c t : Int} {s : Int32} (h : b_Z m n c t s) (h6 : m' 6 = m 6) (h8 : ∀ p, p < n → m' (8 + p) = m (8 + p)) : b_Z m' n c t s := ⟨fun p hp => by rw [h8 p hp]; exact h.1 p hp, by rw [h6]; exact h.2.1, (cs_congr h6 n h8).trans h.2.2⟩
theorem nI_tI {n : Nat} (h : n < 2 ^ 31) : (nI n).toInt = (n : Int) := nI_toInt h
theorem neg_tI {n : Nat} (h : n < 2 ^ 30) : (-(nI n)).toInt = -(n : Int) := by
  rw [fb_negI (by rw [nI_toInt (by omega)]; omega), nI_toInt (by omega)]
theorem add_neg0 (s x : Int32) : s + -x + x = s := by rw [Int32.add_assoc, Int32.add_left_neg, Int32.add_zero]
/-- a charge that is heard moves COINS, and no more -/
theorem Z_hear {m : Nat → Int32} {p d v : Nat} {c t : Int} {s : Int32} (ok : a_ok m) (hp : p < a_P m) (hd : d < a_D m) (h : b_Z m (a_P m) c t s) (hc : c + 2000 ≤ 99999) (ht : t + 1000 ≤ 99999) : b_Z (a_hear m p d v) (a_P m) (c + 2000) (t + 1000) s := by
  have h8 := ok_P8 ok
  have ho := (ok_o ok hd).2
  obtain ⟨ef, f1, f2⟩ := ok_f1 ok hd
  obtain ⟨eL, hL⟩ := ok_L1 ok
  have hpt := part_le ok hd
  have base : ∀ x, b_Z (a_hd m p d v x) (a_P m) c t s := fun x => Z_eq h (hd_ne (by omega) (by omega) (by omega) (by omega)) (fun q hq => hd_ne (by omega) (by omega) (by omega) (by omega))
  unfold a_hear
  by_cases c1 : a_J m < 2 * v
  · rw [if_pos c1]
    unfold a_hw
    have b1 : b_Z (a_inc (a_hd m p d v 1) (24 + p)) (a_P m) c t s := Z_eq (base 1) (inc_ne (by omega)) (fun q hq => inc_ne (by omega))
    have tf : (-(m (58 + d))).toInt = -(a_f m d : Int) := by rw [ef]; exact neg_tI (by omega)
    have tp : (nI (a_part m d)).toInt = (a_part m d : Int) := nI_tI (by omega)
    have tr : (nI (a_f m d - a_part m d)).toInt = ((a_f m d - a_part m d : Nat) : Int) := nI_tI (by omega)
    have b2 := Z_coin (k := 1000) (z := -(m (58 + d))) b1 ho (by rw [tf]; omega) (by omega) (by omega)
    have b3 := Z_coin (k := 1000) (z := nI (a_part m d)) b2 hp (by rw [tp]; omega) (by omega) (by omega)
    have b4 := Z_tre (k := 1000) (z := nI (a_f m d - a_part m d)) b3 (by rw [tr]; omega) (by omega)
    have es : s + -(m (58 + d)) + nI (a_part m d) + nI (a_f m d - a_part m d) = s := by
      rw [Int32.add_assoc (s + -(m (58 + d))), nI_add, show a_part m d + (a_f m d - a_part m d) = a_f m d by omega, ← ef, add_neg0]
    rw [es] at b4
    exact Z_w b4 (by omega) (by omega)
  · rw [if_neg c1]
    by_cases c2 : v < a_F m
    · rw [if_pos c2]
      unfold a_ho
      have b1 : b_Z (a_inc (a_hd m p d v 2) (32 + p)) (a_P m) c t s := Z_eq (base 2) (inc_ne (by omega)) (fun q hq => inc_ne (by omega))
      have tf : (-(m 4)).toInt = -(a_L m : Int) := by rw [eL]; exact neg_tI (by omega)
      have tp : (m 4).toInt = (a_L m : Int) := by rw [eL]; exact nI_tI (by omega)
      have b2 := Z_coin (k := 1000) (z := -(m 4)) b1 hp (by rw [tf]; omega) (by omega) (by omega)
      have b3 := Z_tre (k := 1000) (z := m 4) b2 (by rw [tp]; omega) (by omega)
      rw [add_neg0] at b3
      exact Z_w b3 (by omega) (by omega)
    · rw [if_neg c2]
      exact Z_w (base 2) (by omega) (by omega)
theorem Z_drop {m : Nat → Int32} {p d k : Nat} {c t : Int} {s : Int32} (ok : a_ok m) (hp : p < a_P m) (hd : d < a_D m) (hk : k ≤ 999) (h : b_Z m (a_P m) c t s) (hc : c + 2000 ≤ 99999) : b_Z (a_drp m p d (nI k)) (a_P m) (c + 2000) t s := by
  have h8 := ok_P8 ok
  have ho := (ok_o ok hd).2
  have b2 := Z_coin (k := 1000) (z := -(nI k)) h ho (by rw [neg_tI (by omega)]; omega) (by omega) (by omega)
  have b3 := Z_coin (k := 1000) (z := nI k) b2 hp (by rw [nI_tI (by omega)]; omega) (by omega) (by omega)
  rw [add_neg0] at b3
  unfold a_drp
  exact Z_w (Z_eq b3 (a_set_ne (by omega)) (fun q hq => a_set_ne (by omega))) (by omega) (by omega)
