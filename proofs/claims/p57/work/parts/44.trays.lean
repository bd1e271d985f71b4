/-! TRAYS: sorts, sizes, numbers -/
abbrev aT : Type := (Nat → Int32) × (Nat → Int32) × (Nat → Int64)
def a_TX (S : vSt) (T : aT) : Prop := (∀ t, t < 4 → S.1 3 t = T.1 t ∧ S.1 4 t = T.2.1 t) ∧ ∀ k, k < 240 → S.2 2 k = T.2.2 k
def a_TM (S : vSt) (T : aT) : Prop := (∀ t, t < 4 → S.1 144 t = T.1 t ∧ S.1 145 t = T.2.1 t) ∧ ∀ k, k < 240 → S.2 146 k = T.2.2 k
def a_tok (T : aT) : Prop := ∀ t, t < 4 → T.2.1 t = -1 ∨ ∃ n, n ≤ 60 ∧ T.2.1 t = nI n
def a_ts (f : Nat → Int32) (k : Nat) (v : Int32) : Nat → Int32 := fun j => if j = k then v else f j
def a_tc (f : Nat → Int64) (k : Nat) (v : Int64) : Nat → Int64 := fun j => if j = k then v else f j
def a_tx (k j : Nat) : Bool := decide (k = 2 ∨ k = 3 ∨ k = 4 ∨ (k = 0 ∧ j = 14))
def a_tm (k j : Nat) : Bool := decide (k = 144 ∨ k = 145 ∨ k = 146 ∨ (k = 143 ∧ (j = 0 ∨ j = 1)))
theorem TX_set {S : vSt} {T : aT} {k : Nat} {v : Int64} (h : a_TX S T) : a_TX (v_sl S 2 k v) (T.1, T.2.1, a_tc T.2.2 k v) := by
  refine ⟨h.1, fun j hj => ?_⟩
  rw [sl2]
  show _ = if j = k then v else T.2.2 j
  by_cases c : j = k
  · rw [if_pos ⟨rfl, c⟩, if_pos c]
  · rw [if_neg (fun w => c w.2), if_neg c]; exact h.2 j hj
theorem TM_set {S : vSt} {T : aT} {k : Nat} {v : Int64} (h : a_TM S T) : a_TM (v_sl S 146 k v) (T.1, T.2.1, a_tc T.2.2 k v) := by
  refine ⟨h.1, fun j hj => ?_⟩
  rw [sl2]
  show _ = if j = k then v else T.2.2 j
  by_cases c : j = k
  · rw [if_pos ⟨rfl, c⟩, if_pos c]
  · rw [if_neg (fun w => c w.2), if_neg c]; exact h.2 j hj
theorem TX_st {S : vSt} {T : aT} {k j : Nat} {x : Int32} (h : a_TX S T) (hk : k ≠ 3 ∧ k ≠ 4) : a_TX (v_si S k j x) T := by
  refine ⟨fun t ht => ?_, h.2⟩
  rw [si1, if_neg (fun w => hk.1 w.1.symm), si1, if_neg (fun w => hk.2 w.1.symm)]
  exact h.1 t ht
theorem TM_st {S : vSt} {T : aT} {k j : Nat} {x : Int32} (h : a_TM S T) (hk : k ≠ 144 ∧ k ≠ 145) : a_TM (v_si S k j x) T := by
  refine ⟨fun t ht => ?_, h.2⟩
  rw [si1, if_neg (fun w => hk.1 w.1.symm), si1, if_neg (fun w => hk.2 w.1.symm)]
  exact h.1 t ht
/-- how such a call ends -/
def a_XT {α : Type} (S : vSt) (K : α → vSt → Prop) (o : α × Int32 × aT) : Prop := ∀ S', a_fr a_tx S S' → a_TX S' o.2.2 → S'.1 0 14 = o.2.1 → K o.1 S'
def a_MT {α : Type} (S : vSt) (K : α → vSt → Prop) (o : α × Int32 × aT) : Prop := ∀ S', a_fr a_tm S S' → a_TM S' o.2.2 → S'.1 143 0 = o.2.1 → K o.1 S'
theorem t_end {α : Type} {S S1 : vSt} {T : aT} {K : α → vSt → Prop} {x : α} {st : Int32} (f : a_fr a_tx S S1) (h1 : a_TX S1 T) (h : a_XT S K (x, st, T)) : K x (v_si S1 0 14 st) := h _ (fr_i f rfl) (TX_st h1 (by omega)) si_at
theorem t_settled {S S1 : vSt} {T : aT} {K : Bool → vSt → Prop} {st : Int32} (f : a_fr a_tx S S1) (h1 : a_TX S1 T) (h : a_XT S K (decide (st = 0), st, T)) : p_X10_settled S1 st K := by
  rw [e_settled]; exact t_end f h1 h
theorem t_refused {S S1 : vSt} {T : aT} {K : Int32 → vSt → Prop} {st : Int32} (f : a_fr a_tx S S1) (h1 : a_TX S1 T) (h : a_XT S K (-1, st, T)) : p_X10_refused S1 st K := by
  rw [e_refused]; exact t_end f h1 h
theorem t_told {S S1 : vSt} {T : aT} {K : Int32 → vSt → Prop} {x : Int32} (f : a_fr a_tx S S1) (h1 : a_TX S1 T) (h : a_XT S K (x, 0, T)) : p_X10_told S1 x K := by
  rw [e_told]; exact t_end f h1 h
def a_gt (S S1 : vSt) (T : aT) (st : Int32) : Prop := a_fr a_tm S S1 ∧ a_TM S1 T ∧ S1.1 143 0 = st
theorem gt_go {S : vSt} {T : aT} {Q : vSt → Prop} (h0 : a_TM S T) (h : ∀ S1, a_gt S S1 T 0 → Q S1) : ∀ S1, S1 = v_si S 143 1 0 → ∀ S2, S2 = v_si S1 143 0 0 → Q S2 := by
  rintro S1 rfl S2 rfl
  exact h _ ⟨fr_i (fr_i fr_r rfl) rfl, TM_st (TM_st h0 (by omega)) (by omega), si_at⟩
theorem mt_ret {α : Type} {S S1 : vSt} {T : aT} {K : α → vSt → Prop} {x : α} {st : Int32} (g : a_gt S S1 T st) (h : a_MT S K (x, st, T)) : K x S1 := h S1 g.1 g.2.1 g.2.2
theorem tray_t {x : Int32} (g : a_in 0 3 x = true) : ∃ t, t < 4 ∧ x = nI t ∧ a_n x = t := by
  obtain ⟨k, hk, e1, e2⟩ := a_in_t (n := 3) rfl (by omega) g
  exact ⟨k, by omega, e1, e2⟩
/-! tray -/
def a_fill (f : Nat → Int64) (k n : Nat) : Nat → Int64 := fun j => if k ≤ j ∧ j < k + n then 0 else f j
def a_mk (T : aT) (t : Nat) (y : Int32) (n : Nat) : aT := (a_ts T.1 t y, a_ts T.2.1 t (nI n), a_fill T.2.2 (60 * t) n)
def o_tray (T : aT) (x y z : Int32) : Bool × Int32 × aT := if a_in 0 3 x = true ∧ a_in 0 3 y = true then (if z ≤ 60 then (if 0 ≤ z then (true, 0, a_mk T (a_n x) y (a_n z)) else (false, 6, T)) else (false, 5, T)) else (false, 1, T)
theorem fill_s {f : Nat → Int64} {k n : Nat} : a_tc (a_fill f k n) (k + n) 0 = a_fill f k (n + 1) := by
  funext j
  unfold a_tc a_fill
  by_cases c : j = k + n
  · rw [if_pos c, if_pos (by omega)]
  · rw [if_neg c]
    by_cases d : k ≤ j ∧ j < k + n
    · rw [if_pos d, if_pos (by omega)]
    · rw [if_neg d, if_neg (by omega)]
theorem fill_0 {f : Nat → Int64} {k : Nat} : a_fill f k 0 = f := by
  funext j
  unfold a_fill
  rw [if_neg (by omega)]
theorem sort_4 {x : Int32} {A B C : Prop} : ((x < 0 → A) ∧ (¬ x < 0 → ((x < 4 → B) ∧ (¬ x < 4 → A)))) = (if a_in 0 3 x = true then B else A) := gd1 (by decide)
theorem num_60 {z : Int32} (h1 : z ≤ 60) (h2 : 0 ≤ z) : ∃ n, n ≤ 60 ∧ z = nI n ∧ a_n z = n := by
  obtain ⟨n, hn, rfl⟩ := nI_of (Int32.not_lt.mpr h2)
  have := (nI_leI (b := 60) hn (by omega)).mp h1
  exact ⟨n, this, rfl, a_n_nI hn⟩
theorem ts_at {S : vSt} {T : aT} {t : Nat} {y : Int32} (h : a_TX S T) : a_TX (v_si S 3 t y) (a_ts T.1 t y, T.2.1, T.2.2) := by
  refine ⟨fun j hj => ?_, h.2⟩
  rw [si1, si1, if_neg (show ¬ (4 = 3 ∧ j = t) by omega)]
  refine ⟨?_, (h.1 j hj).2⟩
  show _ = if j = t then y else T.1 j
  by_cases c : j = t
  · rw [if_pos ⟨rfl, c⟩, if_pos c]
  · rw [if_neg (fun w => c w.2), if_neg c]; exact (h.1 j hj).1
theorem tz_at {S : vSt} {T : aT} {t : Nat} {y : Int32} (h : a_TX S T) : a_TX (v_si S 4 t y) (T.1, a_ts T.2.1 t y, T.2.2) := by
  refine ⟨fun j hj => ?_, h.2⟩
  rw [si1, si1, if_neg (show ¬ (3 = 4 ∧ j = t) by omega)]
  refine ⟨(h.1 j hj).1, ?_⟩
  show _ = if j = t then y else T.2.1 j
  by_cases c : j = t
  · rw [if_pos ⟨rfl, c⟩, if_pos c]
  · rw [if_neg (fun w => c w.2), if_neg c]; exact (h.1 j hj).2
theorem ms_at {S : vSt} {T : aT} {t : Nat} {y : Int32} (h : a_TM S T) : a_TM (v_si S 144 t y) (a_ts T.1 t y, T.2.1, T.2.2) := by
  refine ⟨fun j hj => ?_, h.2⟩
  rw [si1, si1, if_neg (show ¬ (145 = 144 ∧ j = t) by omega)]
  refine ⟨?_, (h.1 j hj).2⟩
  show _ = if j = t then y else T.1 j
  by_cases c : j = t
  · rw [if_pos ⟨rfl, c⟩, if_pos c]
  · rw [if_neg (fun w => c w.2), if_neg c]; exact (h.1 j hj).1
theorem mz_at {S : vSt} {T : aT} {t : Nat} {y : Int32} (h : a_TM S T) : a_TM (v_si S 145 t y) (T.1, a_ts T.2.1 t y, T.2.2) := by
  refine ⟨fun j hj => ?_, h.2⟩
  rw [si1, si1, if_neg (show ¬ (144 = 145 ∧ j = t) by omega)]
  refine ⟨(h.1 j hj).1, ?_⟩
  show _ = if j = t then y else T.2.1 j
  by_cases c : j = t
  · rw [if_pos ⟨rfl, c⟩, if_pos c]
  · rw [if_neg (fun w => c w.2), if_neg c]; exact (h.1 j hj).2
theorem t60 (t k : Nat) : nI t * 60 + nI k = nI (60 * t + k) := by
  rw [show (60 : Int32) = nI 60 from rfl, pk_mul, nI_add, Nat.mul_comm t 60]
theorem t60' (t k : Nat) : 60 * nI t + nI k = nI (60 * t + k) := by
  rw [show (60 : Int32) = nI 60 from rfl, pk_mul, nI_add]
theorem tok_tray {T : aT} {x y z : Int32} (h : a_tok T) : a_tok (o_tray T x y z).2.2 := by
  unfold o_tray
  split
  · split
    · next c =>
      split
      · next d =>
        obtain ⟨n, hn, e1, e2⟩ := num_60 c d
        intro t ht
        show a_ts T.2.1 (a_n x) (nI (a_n z)) t = -1 ∨ ∃ k, k ≤ 60 ∧ a_ts T.2.1 (a_n x) (nI (a_n z)) t = nI k
        unfold a_ts
        split
        · exact Or.inr ⟨n, hn, by rw [e2]⟩
        · exact h t ht
      · exact h
    · exact h
  · exact h
/-! write, read -/
def a_tst (T : aT) (x : Int32) : Int32 := if a_in 0 3 x = true then (if T.2.1 (a_n x) = -1 then 3 else 0) else 1
def a_plc (T : aT) (x y : Int32) : Int32 := if a_tst T x = 0 then (if y < 0 then 4 else if y < T.2.1 (a_n x) then 0 else 4) else a_tst T x
def a_cut (s : Int32) (v : Int64) : Int64 := if s = 0 then Int32.toInt64 ((Int32.toInt8 (Int64.toInt32 v)).toInt32) else if s = 1 then Int32.toInt64 ((Int32.toInt16 (Int64.toInt32 v)).toInt32) else if s = 2 then Int32.toInt64 (Int64.toInt32 v) else v
theorem tst_0 {T : aT} {x : Int32} (tok : a_tok T) (h : a_tst T x = 0) : ∃ t n, t < 4 ∧ x = nI t ∧ a_n x = t ∧ n ≤ 60 ∧ T.2.1 t = nI n := by
  unfold a_tst at h
  by_cases g : a_in 0 3 x = true
  · obtain ⟨t, ht, e1, e⟩ := tray_t g
    rw [if_pos g, e] at h
    rcases tok t ht with q | ⟨n, hn, q⟩
    · rw [if_pos q] at h; exact absurd h (by decide)
    · exact ⟨t, n, ht, e1, e, hn, q⟩
  · rw [if_neg g] at h; exact absurd h (by decide)
theorem tst_le {T : aT} {x : Int32} : a_tst T x ≤ 0 ↔ a_tst T x = 0 := by
  unfold a_tst
  split
  · split <;> decide
  · decide
theorem plc_le {T : aT} {x y : Int32} : a_plc T x y ≤ 0 ↔ a_plc T x y = 0 := by
  unfold a_plc
  split
  · split
    · decide
    · split <;> decide
  · exact tst_le
theorem plc_0 {T : aT} {x y : Int32} (tok : a_tok T) (h : a_plc T x y = 0) : ∃ t k n, t < 4 ∧ x = nI t ∧ a_n x = t ∧ k < n ∧ n ≤ 60 ∧ y = nI k ∧ a_n y = k ∧ T.2.1 t = nI n := by
  unfold a_plc at h
  by_cases c : a_tst T x = 0
  · obtain ⟨t, n, ht, e1, e, hn, q⟩ := tst_0 tok c
    rw [if_pos c, e] at h
    by_cases d : y < 0
    · rw [if_pos d] at h; exact absurd h (by decide)
    · rw [if_neg d] at h
      by_cases d2 : y < T.2.1 t
      · obtain ⟨k, hk, rfl⟩ := nI_of d
        rw [q, nI_ltI hk (by omega)] at d2
        exact ⟨t, k, n, ht, e1, e, d2, hn, rfl, a_n_nI hk, q⟩
      · rw [if_neg d2] at h; exact absurd h (by decide)
  · rw [if_neg c] at h; exact absurd h c
def a_wr1 (T : aT) (t k : Nat) (v : Int64) : aT := (T.1, T.2.1, a_tc T.2.2 (60 * t + k) (a_cut (T.1 t) v))
def o_write (T : aT) (x y : Int32) (v : Int64) : Bool × Int32 × aT := if a_plc T x y = 0 then (true, 0, a_wr1 T (a_n x) (a_n y) v) else (false, a_plc T x y, T)
def o_read (T : aT) (x y : Int32) : Int64 × Int32 × aT := if a_plc T x y = 0 then (T.2.2 (60 * a_n x + a_n y), 0, T) else (-1, a_plc T x y, T)
/-! copyCoins -/
def a_cc (T : aT) (t : Nat) (m : Nat → Int32) : Nat → aT
  | 0 => T
  | i + 1 => a_wr1 (a_cc T t m i) t i (m (8 + i)).toInt64
theorem cc_1 {T : aT} {t : Nat} {m : Nat → Int32} : ∀ i, (a_cc T t m i).1 = T.1 ∧ (a_cc T t m i).2.1 = T.2.1
  | 0 => ⟨rfl, rfl⟩
  | i + 1 => cc_1 i
def o_copy (T : aT) (m : Nat → Int32) (x : Int32) : Int32 × Int32 × aT := if a_tst T x = 0 then (if m 0 ≤ T.2.1 (a_n x) then (m 0, 0, a_cc T (a_n x) m (a_P m)) else (-1, 4, T)) else (-1, a_tst T x, T)
theorem R_tx {S S' : vSt} {m : Nat → Int32} (R : a_R S 10 m) (f : a_fr a_tx S S') : a_R S' 10 m := by
  intro i hi
  rw [(f _ _ (decide_eq_false (by omega))).1]
  exact R i hi
theorem M_tm {S S' : vSt} {m : Nat → Int32} (M : a_M S 0 m) (f : a_fr a_tm S S') : a_M S' 0 m := M_fr M f (fun j => decide_eq_false (by omega))