/-! TRAYS: sorts, sizes, numbers -/
abbrev aT : Type := (Nat → Int32) × (Nat → Int32) × (Nat → Int64)
def a_TX (S : vSt) (T : aT) : Prop := (∀ t, t < 4 → S.1 3 t = T.1 t ∧ S.1 4 t = T.2.1 t) ∧ ∀ k, k < 240 → S.2 2 k = T.2.2 k
def a_TM (S : vSt) (T : aT) : Prop := (∀ t, t < 4 → S.1 144 t = T.1 t ∧ S.1 145 t = T.2.1 t) ∧ ∀ k, k < 240 → S.2 146 k = T.2.2 k
def a_tok (T : aT) : Prop := ∀ t, t < 4 → T.2.1 t = -1 ∨ ∃ n, n ≤ 60 ∧ T.2.1 t = nI n
def a_ts (f : Nat → Int32) (k : Nat) (v : Int32) : Nat → Int32 := fun j => if j = k then v else f j
def a_tc (f : Nat → Int64) (k : Nat) (v : Int64) : Nat → Int64 := fun j => if j = k then v else f j
def a_tx (k j : Nat) : Bool := decide (k = 2 ∨ k = 3 ∨ k = 4 ∨ (k = 0 ∧ j = 14))
def a_tm (k j : Nat) : Bool := decide (k = 144 ∨ k = 145 ∨ k = 146 ∨ (k = 143 ∧ (j = 0 ∨ j = 1)))
theorem TX_set {S : vSt} {T : aT} {k : Nat} {v : Int64} (h : a_TX S T) : a_TX (v_sl S 2 k v) (T.1, T.2.1, a_tc T.2.2 k v) := by
  refine ⟨h.1, fun j hj => ?_⟩
  rw [sl2]
  show _ = if j = k then v else T.2.2 j
  by_cases c : j = k
  · rw [if_pos ⟨rfl, c⟩, if_pos c]
  · rw [if_neg (fun w => c w.2), if_neg c]; exact h.2 j hj
theorem TM_set {S : vSt} {T : aT} {k : Nat} {v : Int64} (h : a_TM S T) : a_TM (v_sl S 146 k v) (T.1, T.2.1, a_tc T.2.2 k v) := by
  refine ⟨h.1, fun j hj => ?_⟩
  rw [sl2]
  show _ = if j = k then v else T.2.2 j
  by_cases c : j = k
  · rw [if_pos ⟨rfl, c⟩, if_pos c]
  · rw [if_neg (fun w => c w.2), if_neg c]; exact h.2 j hj
theorem TX_st {S : vSt} {T : aT} {k j : Nat} {x : Int32} (h : a_TX S T) (hk : k ≠ 3 ∧ k ≠ 4) : a_TX (v_si S k j x) T := by
  refine ⟨fun t ht => ?_, h.2⟩
  rw [si1, if_neg (fun w => hk.1 w.1.symm), si1, if_neg (fun w => hk.2 w.1.symm)]
  exact h.1 t ht
theorem TM_st {S : vSt} {T : aT} {k j : Nat} {x : Int32} (h : a_TM S T) (hk : k ≠ 144 ∧ k ≠ 145) : a_TM (v_si S k j x) T := by
  refine ⟨fun t ht => ?_, h.2⟩
  rw [si1, if_neg (fun w => hk.1 w.1.symm), si1, if_neg (fun w => hk.2 w.1.symm)]
  exact h.1 t ht
/-- how such a call ends -/
def a_XT {α : Type} (S : vSt) (K : α → vSt → Prop) (o : α × Int32 × aT) : Prop := ∀ S', a_fr a_tx S S' → a_TX S' o.2.2 → S'.1 0 14 = o.2.1 → K o.1 S'
def a_MT {α : Type} (S : vSt) (K : α → vSt → Prop) (o : α × Int32 × aT) : Prop := ∀ S', a_fr a_tm S S' → a_TM S' o.2.2 → S'.1 143 0 = o.2.1 → K o.1 S'
theorem t_end {α : Type} {S S1 : vSt} {T : aT} {K : α → vSt → Prop} {x : α} {st : Int32} (f : a_fr a_tx S S1) (h1 : a_TX S1 T) (h : a_XT S K (x, st, T)) : K x (v_si S1 0 14 st) := h _ (fr_i f rfl) (TX_st h1 (by omega)) si_at
theorem t_settled {S S1 : vSt} {T : aT} {K : Bool → vSt → Prop} {st : Int32} (f : a_fr a_tx S S1) (h1 : a_TX S1 T) (h : a_XT S K (decide (st = 0), st, T)) : p_X10_settled S1 st K := by
  rw [e_settled]; exact t_end f h1 h
theorem t_refused {S S1 : vSt} {T : aT} {K : Int32 → vSt → Prop} {st : Int32} (f : a_fr a_tx S S1) (h1 : a_TX S1 T) (h : a_XT S K (-1, st, T)) : p_X10_refused S1 st K := by
  rw [e_refused]; exact t_end f h1 h
theorem t_told {S S1 : vSt} {T : aT} {K : Int32 → vSt → Prop} {x : Int32} (f : a_fr a_tx S S1) (h1 : a_TX S1 T) (h : a_XT S K (x, 0, T)) : p_X10_told S1 x K := by
  rw [e_told]; exact t_end f h1 h
def a_gt (S S1 : vSt) (T : aT) (st : Int32) : Prop := a_fr a_tm S S1 ∧ a_TM S1 T ∧ S1.1 143 0 = st
theorem gt_go {S : vSt} {T : aT} {Q : vSt → Prop} (h0 : a_TM S T) (h : ∀ S1, a_gt S S1 T 0 → Q S1) : ∀ S1, S1 = v_si S 143 1 0 → ∀ S2, S2 = v_si S1 143 0 0 → Q S2 := by
  rintro S1 rfl S2 rfl
  exact h _ ⟨fr_i (fr_i fr_r rfl) rfl, TM_st (TM_st h0 (by omega)) (by omega), si_at⟩
theorem mt_ret {α : Type} {S S1 : vSt} {T : aT} {K : α → vSt → Prop} {x : α} {st : Int32} (g : a_gt S S1 T st) (h : a_MT S K (x, st, T)) : K x S1 := h S1 g.1 g.2.1 g.2.2
theorem mt_no {S S1 : vSt} {T : aT} {K : Bool → vSt → Prop} {st st' : Int32} (g : a_gt S S1 T st') (h : a_MT S K (false, st, T)) : p_X11_no S1 st K := by
  rw [e_no]; exact h _ (fr_i g.1 rfl) (TM_st g.2.1 (by omega)) si_at
theorem mt_refuse {S S1 : vSt} {T : aT} {K : Int32 → vSt → Prop} {st st' : Int32} (g : a_gt S S1 T st') (h : a_MT S K (-1, st, T)) : p_X11_refuse S1 st K := by
  rw [e_refuse]; exact h _ (fr_i g.1 rfl) (TM_st g.2.1 (by omega)) si_at
theorem e_isTray {S : vSt} {x : Int32} {K : Bool → vSt → Prop} : p_X7_isTray S x K = K (a_in 0 3 x) S := by
  unfold p_X7_isTray
  rw [gd4 (hi := 3) (by decide)]
  cases a_in 0 3 x <;> rfl
theorem tray_t {x : Int32} (g : a_in 0 3 x = true) : ∃ t, t < 4 ∧ x = nI t ∧ a_n x = t := by
  obtain ⟨k, hk, e1, e2⟩ := a_in_t (n := 3) rfl (by omega) g
  exact ⟨k, by omega, e1, e2⟩
/-! tray -/
def a_fill (f : Nat → Int64) (k n : Nat) : Nat → Int64 := fun j => if k ≤ j ∧ j < k + n then 0 else f j
def a_mk (T : aT) (t : Nat) (y : Int32) (n : Nat) : aT := (a_ts T.1 t y, a_ts T.2.1 t (nI n), a_fill T.2.2 (60 * t) n)
def o_tray (T : aT) (x y z : Int32) : Bool × Int32 × aT := if a_in 0 3 x = true ∧ a_in 0 3 y = true then (if z ≤ 60 then (if 0 ≤ z then (true, 0, a_mk T (a_n x) y (a_n z)) else (false, 6, T)) else (false, 5, T)) else (false, 1, T)
theorem fill_s {f : Nat → Int64} {k n : Nat} : a_tc (a_fill f k n) (k + n) 0 = a_fill f k (n + 1) := by
  funext j
  unfold a_tc a_fill
  by_cases c : j = k + n
  · rw [if_pos c, if_pos (by omega)]
  · rw [if_neg c]
    by_cases d : k ≤ j ∧ j < k + n
    · rw [if_pos d, if_pos (by omega)]
    · rw [if_neg d, if_neg (by omega)]
theorem fill_0 {f : Nat → Int64} {k : Nat} : a_fill f k 0 = f := by
  funext j
  unfold a_fill
  rw [if_neg (by omega)]
theorem sort_4 {x : Int32} {A B C : Prop} : ((x < 0 → A) ∧ (¬ x < 0 → ((x < 4 → B) ∧ (¬ x < 4 → A)))) = (if a_in 0 3 x = true then B else A) := gd1 (by decide)
theorem num_60 {z : Int32} (h1 : z ≤ 60) (h2 : 0 ≤ z) : ∃ n, n ≤ 60 ∧ z = nI n ∧ a_n z = n := by
  obtain ⟨n, hn, rfl⟩ := nI_of (Int32.not_lt.mpr h2)
  have := (nI_leI (b := 60) hn (by omega)).mp h1
  exact ⟨n, this, rfl, a_n_nI hn⟩
theorem ts_at {S : vSt} {T : aT} {t : Nat} {y : Int32} (h : a_TX S T) : a_TX (v_si S 3 t y) (a_ts T.1 t y, T.2.1, T.2.2) := by
  refine ⟨fun j hj => ?_, h.2⟩
  rw [si1, si1, if_neg (show ¬ (4 = 3 ∧ j = t) by omega)]
  refine ⟨?_, (h.1 j hj).2⟩
  show _ = if j = t then y else T.1 j
  by_cases c : j = t
  · rw [if_pos ⟨rfl, c⟩, if_pos c]
  · rw [if_neg (fun w => c w.2), if_neg c]; exact (h.1 j hj).1
theorem tz_at {S : vSt} {T : aT} {t : Nat} {y : Int32} (h : a_TX S T) : a_TX (v_si S 4 t y) (T.1, a_ts T.2.1 t y, T.2.2) := by
  refine ⟨fun j hj => ?_, h.2⟩
  rw [si1, si1, if_neg (show ¬ (3 = 4 ∧ j = t) by omega)]
  refine ⟨(h.1 j hj).1, ?_⟩
  show _ = if j = t then y else T.2.1 j
  by_cases c : j = t
  · rw [if_pos ⟨rfl, c⟩, if_pos c]
  · rw [if_neg (fun w => c w.2), if_neg c]; exact (h.1 j hj).2
theorem ms_at {S : vSt} {T : aT} {t : Nat} {y : Int32} (h : a_TM S T) : a_TM (v_si S 144 t y) (a_ts T.1 t y, T.2.1, T.2.2) := by
  refine ⟨fun j hj => ?_, h.2⟩
  rw [si1, si1, if_neg (show ¬ (145 = 144 ∧ j = t) by omega)]
  refine ⟨?_, (h.1 j hj).2⟩
  show _ = if j = t then y else T.1 j
  by_cases c : j = t
  · rw [if_pos ⟨rfl, c⟩, if_pos c]
  · rw [if_neg (fun w => c w.2), if_neg c]; exact (h.1 j hj).1
theorem mz_at {S : vSt} {T : aT} {t : Nat} {y : Int32} (h : a_TM S T) : a_TM (v_si S 145 t y) (T.1, a_ts T.2.1 t y, T.2.2) := by
  refine ⟨fun j hj => ?_, h.2⟩
  rw [si1, si1, if_neg (show ¬ (144 = 145 ∧ j = t) by omega)]
  refine ⟨(h.1 j hj).1, ?_⟩
  show _ = if j = t then y else T.2.1 j
  by_cases c : j = t
  · rw [if_pos ⟨rfl, c⟩, if_pos c]
  · rw [if_neg (fun w => c w.2), if_neg c]; exact (h.1 j hj).2
theorem t60 (t k : Nat) : nI t * 60 + nI k = nI (60 * t + k) := by
  rw [show (60 : Int32) = nI 60 from rfl, pk_mul, nI_add, Nat.mul_comm t 60]
theorem t60' (t k : Nat) : 60 * nI t + nI k = nI (60 * t + k) := by
  rw [show (60 : Int32) = nI 60 from rfl, pk_mul, nI_add]
theorem x_tray {S : vSt} {T : aT} {x y z : Int32} {K : Bool → vSt → Prop} (h0 : a_TX S T) (h : a_XT S K (o_tray T x y z)) : p_X10_tray S x y z K := by
  unfold p_X10_tray p_X7_make
  rw [e_isTray, sort_4 (C := True)]
  unfold o_tray at h
  by_cases g : a_in 0 3 x = true
  · rw [g]
    simp only [eq_self, reduceCtorEq, true_implies, false_implies, and_true, true_and, not_true_eq_false, not_false_eq_true]
    by_cases g2 : a_in 0 3 y = true
    · rw [if_pos ⟨g, g2⟩] at h
      rw [if_pos g2]
      obtain ⟨t, ht, rfl, e⟩ := tray_t g
      rw [e] at h
      by_cases c : z ≤ 60
      · rw [if_pos c] at h
        simp only [c, eq_self, reduceCtorEq, true_implies, false_implies, and_true, true_and, not_true_eq_false, not_false_eq_true]
        by_cases d : 0 ≤ z
        · rw [if_pos d] at h
          obtain ⟨n, hn, rfl, e2⟩ := num_60 c d
          rw [e2] at h
          simp only [d, eq_self, reduceCtorEq, true_implies, false_implies, and_true, true_and, not_true_eq_false, not_false_eq_true, e_put ht (show 4 < 2 ^ 31 by omega)]
          refine v_loop (fun fu i (s : vSt) => p_X7_make_54 (nI t) y (nI n) (fun r6 S5 => p_X10_settled S5 r6 (fun r8 S7 => K r8 S7)) fu s (nI i)) (fun i s => a_fr a_tx S s ∧ True ∧ a_TX s ((a_mk T t y n).1, (a_mk T t y n).2.1, a_fill T.2.2 (60 * t) i)) n (fun fu i s hi hI hk => ?_) (fun fu s hI => ?_) _ ⟨fr_i (fr_i fr_r rfl) rfl, trivial, ?_⟩
          · obtain ⟨f, -, q⟩ := hI
            have n1 : ¬ nI n ≤ nI i := nI_ge hi (by omega)
            simp only [e_X7_make_54, n1, eq_self, reduceCtorEq, true_implies, false_implies, and_true, true_and, not_true_eq_false, not_false_eq_true, t60, e_putl (show 60 * t + i < 240 by omega) (show 240 < 2 ^ 31 by omega), forall_eq, nIs]
            refine hk _ ⟨fr_l f rfl, trivial, ?_⟩
            have q2 := TX_set (k := 60 * t + i) (v := 0) q
            rw [fill_s] at q2
            exact q2
          · obtain ⟨f, -, q⟩ := hI
            simp only [e_X7_make_54, Int32.le_refl, eq_self, reduceCtorEq, true_implies, false_implies, and_true, true_and, not_true_eq_false, not_false_eq_true]
            exact t_settled f q h
          · rw [fill_0]
            exact tz_at (ts_at h0)
        · rw [if_neg d] at h
          simp only [d, eq_self, reduceCtorEq, true_implies, false_implies, and_true, true_and, not_true_eq_false, not_false_eq_true]
          exact t_settled fr_r h0 h
      · rw [if_neg c] at h
        simp only [c, eq_self, reduceCtorEq, true_implies, false_implies, and_true, true_and, not_true_eq_false, not_false_eq_true]
        exact t_settled fr_r h0 h
    · rw [if_neg (fun w => g2 w.2)] at h
      rw [if_neg g2]
      exact t_settled fr_r h0 h
  · rw [if_neg (fun w => g w.1)] at h
    rw [Bool.not_eq_true] at g
    rw [g]
    simp only [eq_self, reduceCtorEq, true_implies, false_implies, and_true, true_and, not_true_eq_false, not_false_eq_true]
    exact t_settled fr_r h0 h
theorem m_tray {S : vSt} {T : aT} {x y z : Int32} {K : Bool → vSt → Prop} (h0 : a_TM S T) (h : a_MT S K (o_tray T x y z)) : p_X11_tray S x y z K := by
  unfold p_X11_tray p_X11_tray_28
  refine gt_go h0 (fun S1 g1 => ?_)
  rw [gd4 (hi := 3) (by decide), gd2]
  unfold o_tray at h
  by_cases g : a_in 0 3 x = true
  · rw [if_pos g]
    by_cases g2 : a_in 0 3 y = true
    · rw [if_pos ⟨g, g2⟩] at h
      rw [if_pos g2]
      obtain ⟨t, ht, rfl, e⟩ := tray_t g
      rw [e] at h
      by_cases c : z ≤ 60
      · rw [if_pos c] at h
        simp only [c, eq_self, reduceCtorEq, true_implies, false_implies, and_true, true_and, not_true_eq_false, not_false_eq_true]
        by_cases d : 0 ≤ z
        · rw [if_pos d] at h
          obtain ⟨n, hn, rfl, e2⟩ := num_60 c d
          rw [e2] at h
          simp (disch := omega) only [d, eq_self, reduceCtorEq, true_implies, false_implies, and_true, true_and, not_true_eq_false, not_false_eq_true, ia8, ia16, ia24, ia32, ia40, ia48, ia58, ia68, ia78, ia88, ia98, ncl, vpt, c0, c1, c2, c3, c4, c5, c6, c7, k0, k1, k2, k3, k4, k5, k6, k7, forall_eq]
          refine v_loop (fun fu i (s : vSt) => p_X11_tray_74 (nI t) y (nI n) K fu s (nI i)) (fun i s => a_gt S s ((a_mk T t y n).1, (a_mk T t y n).2.1, a_fill T.2.2 (60 * t) i) 0) n (fun fu i s hi hI hk => ?_) (fun fu s hI => ?_) _ ⟨fr_i (fr_i g1.1 rfl) rfl, ?_, g1.2.2⟩
          · obtain ⟨f, q, st⟩ := hI
            have n1 : ¬ nI n ≤ nI i := nI_ge hi (by omega)
            simp (disch := omega) only [e_X11_tray_74, n1, eq_self, reduceCtorEq, true_implies, false_implies, and_true, true_and, not_true_eq_false, not_false_eq_true, t60', ia8, ia16, ia24, ia32, ia40, ia48, ia58, ia68, ia78, ia88, ia98, ncl, vpt, c0, c1, c2, c3, c4, c5, c6, c7, k0, k1, k2, k3, k4, k5, k6, k7, forall_eq, nIs]
            have q2 := TM_set (k := 60 * t + i) (v := 0) q
            rw [fill_s] at q2
            exact hk _ ⟨fr_l f rfl, q2, st⟩
          · simp only [e_X11_tray_74, Int32.le_refl, eq_self, reduceCtorEq, true_implies, false_implies, and_true, true_and, not_true_eq_false, not_false_eq_true]
            exact mt_ret hI h
          · rw [fill_0]
            exact mz_at (ms_at g1.2.1)
        · rw [if_neg d] at h
          simp only [d, eq_self, reduceCtorEq, true_implies, false_implies, and_true, true_and, not_true_eq_false, not_false_eq_true]
          exact mt_no g1 h
      · rw [if_neg c] at h
        simp only [c, eq_self, reduceCtorEq, true_implies, false_implies, and_true, true_and, not_true_eq_false, not_false_eq_true]
        exact mt_no g1 h
    · rw [if_neg (fun w => g2 w.2)] at h
      rw [if_neg g2]
      exact mt_no g1 h
  · rw [if_neg (fun w => g w.1)] at h
    rw [if_neg g]
    exact mt_no g1 h
theorem tok_tray {T : aT} {x y z : Int32} (h : a_tok T) : a_tok (o_tray T x y z).2.2 := by
  unfold o_tray
  split
  · split
    · next c =>
      split
      · next d =>
        obtain ⟨n, hn, e1, e2⟩ := num_60 c d
        intro t ht
        show a_ts T.2.1 (a_n x) (nI (a_n z)) t = -1 ∨ ∃ k, k ≤ 60 ∧ a_ts T.2.1 (a_n x) (nI (a_n z)) t = nI k
        unfold a_ts
        split
        · exact Or.inr ⟨n, hn, by rw [e2]⟩
        · exact h t ht
      · exact h
    · exact h
  · exact h
/-! write, read -/
def a_tst (T : aT) (x : Int32) : Int32 := if a_in 0 3 x = true then (if T.2.1 (a_n x) = -1 then 3 else 0) else 1
def a_plc (T : aT) (x y : Int32) : Int32 := if a_tst T x = 0 then (if y < 0 then 4 else if y < T.2.1 (a_n x) then 0 else 4) else a_tst T x
def a_cut (s : Int32) (v : Int64) : Int64 := if s = 0 then Int32.toInt64 ((Int32.toInt8 (Int64.toInt32 v)).toInt32) else if s = 1 then Int32.toInt64 ((Int32.toInt16 (Int64.toInt32 v)).toInt32) else if s = 2 then Int32.toInt64 (Int64.toInt32 v) else v
theorem e_cut {S : vSt} {s : Int32} {v : Int64} {K : Int64 → vSt → Prop} (h : K (a_cut s v) S) : p_X7_cut S v s K := by
  unfold p_X7_cut
  unfold a_cut at h
  refine ⟨fun e => by rw [if_pos e] at h; exact h, fun e => by rw [e, if_neg (by decide), if_pos rfl] at h; exact h, fun e => by rw [e, if_neg (by decide), if_neg (by decide), if_pos rfl] at h; exact h, fun q => ?_⟩
  have n0 : ¬ s = 0 := by rintro rfl; rcases q with q | q <;> exact absurd q (by decide)
  have n1 : ¬ s = 1 := by rintro rfl; rcases q with q | q <;> exact absurd q (by decide)
  have n2 : ¬ s = 2 := by rintro rfl; rcases q with q | q <;> exact absurd q (by decide)
  rw [if_neg n0, if_neg n1, if_neg n2] at h
  exact h
theorem e_mcut {S : vSt} {s : Int32} {v : Int64} {K : Int64 → vSt → Prop} : p_X11_cut S s v K = K (a_cut s v) S := by
  unfold p_X11_cut a_cut
  by_cases n0 : s = 0
  · simp only [n0, eq_self, reduceCtorEq, true_implies, false_implies, and_true, true_and, not_true_eq_false, not_false_eq_true, if_true]
  · by_cases n1 : s = 1
    · simp only [n1, eq_self, reduceCtorEq, true_implies, false_implies, and_true, true_and, not_true_eq_false, not_false_eq_true, if_true, show ¬ (1 : Int32) = 0 from by decide, if_false]
    · by_cases n2 : s = 2
      · simp only [n2, eq_self, reduceCtorEq, true_implies, false_implies, and_true, true_and, not_true_eq_false, not_false_eq_true, if_true, show ¬ (2 : Int32) = 0 from by decide, show ¬ (2 : Int32) = 1 from by decide, if_false]
      · simp only [n0, n1, n2, eq_self, reduceCtorEq, true_implies, false_implies, and_true, true_and, not_true_eq_false, not_false_eq_true, if_false]
theorem x_trayStatus {S : vSt} {T : aT} {x : Int32} {K : Int32 → vSt → Prop} (h0 : a_TX S T) : p_X7_trayStatus S x K = K (a_tst T x) S := by
  unfold p_X7_trayStatus a_tst
  rw [e_isTray]
  by_cases g : a_in 0 3 x = true
  · obtain ⟨t, ht, rfl, e⟩ := tray_t g
    rw [g, if_pos rfl, e]
    simp only [eq_self, reduceCtorEq, true_implies, false_implies, and_true, true_and, not_true_eq_false, not_false_eq_true, e_at ht (show 4 < 2 ^ 31 by omega), (h0.1 t ht).2]
    by_cases c : T.2.1 t = -1 <;> simp [c]
  · rw [if_neg g]
    rw [Bool.not_eq_true] at g
    rw [g]
    simp only [eq_self, reduceCtorEq, true_implies, false_implies, and_true, true_and, not_true_eq_false, not_false_eq_true]
theorem tst_0 {T : aT} {x : Int32} (tok : a_tok T) (h : a_tst T x = 0) : ∃ t n, t < 4 ∧ x = nI t ∧ a_n x = t ∧ n ≤ 60 ∧ T.2.1 t = nI n := by
  unfold a_tst at h
  by_cases g : a_in 0 3 x = true
  · obtain ⟨t, ht, e1, e⟩ := tray_t g
    rw [if_pos g, e] at h
    rcases tok t ht with q | ⟨n, hn, q⟩
    · rw [if_pos q] at h; exact absurd h (by decide)
    · exact ⟨t, n, ht, e1, e, hn, q⟩
  · rw [if_neg g] at h; exact absurd h (by decide)
theorem x_placeStatus {S : vSt} {T : aT} {x y : Int32} {K : Int32 → vSt → Prop} (tok : a_tok T) (h0 : a_TX S T) : p_X7_placeStatus S x y K = K (a_plc T x y) S := by
  unfold p_X7_placeStatus a_plc
  rw [x_trayStatus h0]
  by_cases c : a_tst T x = 0
  · obtain ⟨t, n, ht, rfl, e, hn, q⟩ := tst_0 tok c
    rw [if_pos c, e]
    simp only [c, eq_self, reduceCtorEq, true_implies, false_implies, and_true, true_and, not_true_eq_false, not_false_eq_true, e_at ht (show 4 < 2 ^ 31 by omega), (h0.1 t ht).2]
    by_cases d : y < 0
    · simp only [d, eq_self, reduceCtorEq, true_implies, false_implies, and_true, true_and, not_true_eq_false, not_false_eq_true, if_true]
    · by_cases d2 : y < T.2.1 t
      · simp only [d, d2, eq_self, reduceCtorEq, true_implies, false_implies, and_true, true_and, not_true_eq_false, not_false_eq_true, if_true, if_false]
      · simp only [d, d2, eq_self, reduceCtorEq, true_implies, false_implies, and_true, true_and, not_true_eq_false, not_false_eq_true, if_false]
  · rw [if_neg c]
    simp only [c, eq_self, reduceCtorEq, true_implies, false_implies, and_true, true_and, not_true_eq_false, not_false_eq_true]
theorem m_trayed {S : vSt} {T : aT} {x : Int32} {K : Int32 → vSt → Prop} (tok : a_tok T) (h0 : a_TM S T) : p_X11_trayed S x K = K (a_tst T x) S := by
  unfold p_X11_trayed a_tst
  rw [sort_4 (C := True)]
  by_cases g : a_in 0 3 x = true
  · obtain ⟨t, ht, rfl, e⟩ := tray_t g
    rw [if_pos g, if_pos g, e]
    simp (disch := omega) only [ia8, ia16, ia24, ia32, ia40, ia48, ia58, ia68, ia78, ia88, ia98, ncl, vpt, c0, c1, c2, c3, c4, c5, c6, c7, k0, k1, k2, k3, k4, k5, k6, k7, (h0.1 t ht).2]
    rcases tok t ht with q | ⟨n, hn, q⟩
    · have z : ¬ (0 : Int32) ≤ -1 := by decide
      simp only [q, z, eq_self, reduceCtorEq, true_implies, false_implies, and_true, true_and, not_true_eq_false, not_false_eq_true, if_true]
    · have z : (0 : Int32) ≤ nI n := nI_pos' (by omega)
      have z2 : ¬ nI n = -1 := fun w => by rw [w] at z; exact absurd z (by decide)
      simp only [q, z, z2, eq_self, reduceCtorEq, true_implies, false_implies, and_true, true_and, not_true_eq_false, not_false_eq_true, if_false]
  · rw [if_neg g, if_neg g]
theorem tst_le {T : aT} {x : Int32} : a_tst T x ≤ 0 ↔ a_tst T x = 0 := by
  unfold a_tst
  split
  · split <;> decide
  · decide
theorem plc_le {T : aT} {x y : Int32} : a_plc T x y ≤ 0 ↔ a_plc T x y = 0 := by
  unfold a_plc
  split
  · split
    · decide
    · split <;> decide
  · exact tst_le
theorem m_placed {S : vSt} {T : aT} {x y : Int32} {K : Int32 → vSt → Prop} (tok : a_tok T) (h0 : a_TM S T) : p_X11_placed S x y K = K (a_plc T x y) S := by
  unfold p_X11_placed a_plc
  rw [m_trayed tok h0]
  simp only [tst_le]
  by_cases c : a_tst T x = 0
  · obtain ⟨t, n, ht, rfl, e, hn, q⟩ := tst_0 tok c
    rw [if_pos c, e]
    simp (disch := omega) only [c, eq_self, reduceCtorEq, true_implies, false_implies, and_true, true_and, not_true_eq_false, not_false_eq_true, ia8, ia16, ia24, ia32, ia40, ia48, ia58, ia68, ia78, ia88, ia98, ncl, vpt, c0, c1, c2, c3, c4, c5, c6, c7, k0, k1, k2, k3, k4, k5, k6, k7, (h0.1 t ht).2]
    by_cases d : y < 0
    · simp only [d, eq_self, reduceCtorEq, true_implies, false_implies, and_true, true_and, not_true_eq_false, not_false_eq_true, if_true]
    · by_cases d2 : y < T.2.1 t
      · simp only [d, d2, eq_self, reduceCtorEq, true_implies, false_implies, and_true, true_and, not_true_eq_false, not_false_eq_true, if_true, if_false]
      · simp only [d, d2, eq_self, reduceCtorEq, true_implies, false_implies, and_true, true_and, not_true_eq_false, not_false_eq_true, if_false]
  · rw [if_neg c]
    simp only [c, eq_self, reduceCtorEq, true_implies, false_implies, and_true, true_and, not_true_eq_false, not_false_eq_true]
theorem plc_0 {T : aT} {x y : Int32} (tok : a_tok T) (h : a_plc T x y = 0) : ∃ t k n, t < 4 ∧ x = nI t ∧ a_n x = t ∧ k < n ∧ n ≤ 60 ∧ y = nI k ∧ a_n y = k ∧ T.2.1 t = nI n := by
  unfold a_plc at h
  by_cases c : a_tst T x = 0
  · obtain ⟨t, n, ht, e1, e, hn, q⟩ := tst_0 tok c
    rw [if_pos c, e] at h
    by_cases d : y < 0
    · rw [if_pos d] at h; exact absurd h (by decide)
    · rw [if_neg d] at h
      by_cases d2 : y < T.2.1 t
      · obtain ⟨k, hk, rfl⟩ := nI_of d
        rw [q, nI_ltI hk (by omega)] at d2
        exact ⟨t, k, n, ht, e1, e, d2, hn, rfl, a_n_nI hk, q⟩
      · rw [if_neg d2] at h; exact absurd h (by decide)
  · rw [if_neg c] at h; exact absurd h c
def a_wr1 (T : aT) (t k : Nat) (v : Int64) : aT := (T.1, T.2.1, a_tc T.2.2 (60 * t + k) (a_cut (T.1 t) v))
def o_write (T : aT) (x y : Int32) (v : Int64) : Bool × Int32 × aT := if a_plc T x y = 0 then (true, 0, a_wr1 T (a_n x) (a_n y) v) else (false, a_plc T x y, T)
theorem x_set {S : vSt} {T : aT} {t k : Nat} {v : Int64} {K : vSt → Prop} (h0 : a_TX S T) (ht : t < 4) (hk : k < 60) (h : ∀ S', a_fr a_tx S S' → a_TX S' (a_wr1 T t k v) → K S') : p_X7_set S (nI t) (nI k) v K := by
  unfold p_X7_set
  rw [e_at ht (by omega), (h0.1 t ht).1]
  refine e_cut ?_
  rw [t60, e_putl (show 60 * t + k < 240 by omega) (by omega)]
  exact h _ (fr_l fr_r rfl) (TX_set h0)
theorem x_write {S : vSt} {T : aT} {x y : Int32} {v : Int64} {K : Bool → vSt → Prop} (tok : a_tok T) (h0 : a_TX S T) (h : a_XT S K (o_write T x y v)) : p_X10_write S x y v K := by
  unfold p_X10_write p_X10_write_26
  rw [x_placeStatus tok h0]
  unfold o_write at h
  by_cases c : a_plc T x y = 0
  · obtain ⟨t, k, n, ht, rfl, e1, hk, hn, rfl, e2, q⟩ := plc_0 tok c
    rw [if_pos c, e1, e2] at h
    simp only [c, eq_self, reduceCtorEq, true_implies, false_implies, and_true, true_and, not_true_eq_false, not_false_eq_true]
    refine x_set h0 ht (by omega) (fun S1 f1 h1 => ?_)
    exact t_settled f1 h1 h
  · rw [if_neg c] at h
    simp only [c, eq_self, reduceCtorEq, true_implies, false_implies, and_true, true_and, not_true_eq_false, not_false_eq_true]
    refine t_settled fr_r h0 ?_
    rw [decide_eq_false c]
    exact h
theorem m_write {S : vSt} {T : aT} {x y : Int32} {v : Int64} {K : Bool → vSt → Prop} (tok : a_tok T) (h0 : a_TM S T) (h : a_MT S K (o_write T x y v)) : p_X11_write S x y v K := by
  unfold p_X11_write
  rintro _ rfl
  rw [m_placed tok (TM_st h0 (by omega))]
  rintro _ rfl
  have h1 : a_TM (v_si (v_si S 143 1 0) 143 0 (a_plc T x y)) T := TM_st (TM_st h0 (by omega)) (by omega)
  have f1 : a_fr a_tm S (v_si (v_si S 143 1 0) 143 0 (a_plc T x y)) := fr_i (fr_i fr_r rfl) rfl
  rw [si_at]
  simp only [plc_le]
  unfold o_write at h
  by_cases c : a_plc T x y = 0
  · obtain ⟨t, k, n, ht, rfl, e1, hk, hn, rfl, e2, q⟩ := plc_0 tok c
    rw [if_pos c, e1, e2] at h
    rw [c] at h1 f1 ⊢
    simp (disch := omega) only [eq_self, reduceCtorEq, true_implies, false_implies, and_true, true_and, not_true_eq_false, not_false_eq_true, ia8, ia16, ia24, ia32, ia40, ia48, ia58, ia68, ia78, ia88, ia98, ncl, vpt, c0, c1, c2, c3, c4, c5, c6, c7, k0, k1, k2, k3, k4, k5, k6, k7, e_mcut, (h1.1 t ht).1, t60', forall_eq]
    refine h _ (fr_l f1 rfl) (TM_set h1) ?_
    show (v_si (v_si S 143 1 0) 143 0 0).1 143 0 = 0
    exact si_at
  · rw [if_neg c] at h
    simp only [c, eq_self, reduceCtorEq, true_implies, false_implies, and_true, true_and, not_true_eq_false, not_false_eq_true]
    exact h _ f1 h1 si_at
def o_read (T : aT) (x y : Int32) : Int64 × Int32 × aT := if a_plc T x y = 0 then (T.2.2 (60 * a_n x + a_n y), 0, T) else (-1, a_plc T x y, T)
theorem x_read {S : vSt} {T : aT} {x y : Int32} {K : Int64 → vSt → Prop} (tok : a_tok T) (h0 : a_TX S T) (h : a_XT S K (o_read T x y)) : p_X10_read S x y K := by
  unfold p_X10_read
  rw [x_placeStatus tok h0]
  rintro _ rfl
  unfold o_read at h
  by_cases c : a_plc T x y = 0
  · obtain ⟨t, k, n, ht, rfl, e1, hk, hn, rfl, e2, q⟩ := plc_0 tok c
    rw [if_pos c, e1, e2] at h
    rw [c]
    simp only [eq_self, reduceCtorEq, true_implies, false_implies, and_true, true_and, not_true_eq_false, not_false_eq_true, p_X7_get, t60]
    rw [e_atl (show 60 * t + k < 240 by omega) (by omega)]
    have e : (v_si S 0 14 0).2 2 (60 * t + k) = T.2.2 (60 * t + k) := h0.2 _ (by omega)
    rw [e]
    exact h _ (fr_i fr_r rfl) (TX_st h0 (by omega)) si_at
  · rw [if_neg c] at h
    simp only [c, eq_self, reduceCtorEq, true_implies, false_implies, and_true, true_and, not_true_eq_false, not_false_eq_true]
    exact h _ (fr_i fr_r rfl) (TX_st h0 (by omega)) si_at
theorem m_read {S : vSt} {T : aT} {x y : Int32} {K : Int64 → vSt → Prop} (tok : a_tok T) (h0 : a_TM S T) (h : a_MT S K (o_read T x y)) : p_X11_read S x y K := by
  unfold p_X11_read
  rintro _ rfl
  rw [m_placed tok (TM_st h0 (by omega))]
  rintro _ rfl
  have h1 : a_TM (v_si (v_si S 143 1 0) 143 0 (a_plc T x y)) T := TM_st (TM_st h0 (by omega)) (by omega)
  have f1 : a_fr a_tm S (v_si (v_si S 143 1 0) 143 0 (a_plc T x y)) := fr_i (fr_i fr_r rfl) rfl
  rw [si_at]
  simp only [plc_le]
  unfold o_read at h
  by_cases c : a_plc T x y = 0
  · obtain ⟨t, k, n, ht, rfl, e1, hk, hn, rfl, e2, q⟩ := plc_0 tok c
    rw [if_pos c, e1, e2] at h
    rw [c] at h1 f1 ⊢
    simp (disch := omega) only [eq_self, reduceCtorEq, true_implies, false_implies, and_true, true_and, not_true_eq_false, not_false_eq_true, ia8, ia16, ia24, ia32, ia40, ia48, ia58, ia68, ia78, ia88, ia98, ncl, vpt, c0, c1, c2, c3, c4, c5, c6, c7, k0, k1, k2, k3, k4, k5, k6, k7, t60', h1.2]
    exact h _ f1 h1 si_at
  · rw [if_neg c] at h
    simp only [c, eq_self, reduceCtorEq, true_implies, false_implies, and_true, true_and, not_true_eq_false, not_false_eq_true]
    exact h _ f1 h1 si_at
/-! copyCoins -/
def a_cc (T : aT) (t : Nat) (m : Nat → Int32) : Nat → aT
  | 0 => T
  | i + 1 => a_wr1 (a_cc T t m i) t i (m (8 + i)).toInt64
theorem cc_1 {T : aT} {t : Nat} {m : Nat → Int32} : ∀ i, (a_cc T t m i).1 = T.1 ∧ (a_cc T t m i).2.1 = T.2.1
  | 0 => ⟨rfl, rfl⟩
  | i + 1 => cc_1 i
def o_copy (T : aT) (m : Nat → Int32) (x : Int32) : Int32 × Int32 × aT := if a_tst T x = 0 then (if m 0 ≤ T.2.1 (a_n x) then (m 0, 0, a_cc T (a_n x) m (a_P m)) else (-1, 4, T)) else (-1, a_tst T x, T)
theorem R_tx {S S' : vSt} {m : Nat → Int32} (R : a_R S 10 m) (f : a_fr a_tx S S') : a_R S' 10 m := by
  intro i hi
  rw [(f _ _ (decide_eq_false (by omega))).1]
  exact R i hi
theorem M_tm {S S' : vSt} {m : Nat → Int32} (M : a_M S 0 m) (f : a_fr a_tm S S') : a_M S' 0 m := M_fr M f (fun j => decide_eq_false (by omega))
theorem x_copyCoins {S : vSt} {T : aT} {m : Nat → Int32} {x : Int32} {K : Int32 → vSt → Prop} (ok : a_ok m) (tok : a_tok T) (R : a_R S 10 m) (h0 : a_TX S T) (h : a_XT S K (o_copy T m x)) : p_X10_copyCoins S x K := by
  have h8 := ok_P8 ok
  unfold p_X10_copyCoins p_X7_roomStatus
  rw [x_trayStatus h0, R_0 R]
  unfold o_copy at h
  by_cases c : a_tst T x = 0
  · obtain ⟨t, n, ht, rfl, e, hn, q⟩ := tst_0 tok c
    rw [if_pos c, e] at h
    simp only [c, eq_self, reduceCtorEq, true_implies, false_implies, and_true, true_and, not_true_eq_false, not_false_eq_true]
    rw [e_at ht (by omega), (h0.1 t ht).2]
    by_cases d : m 0 ≤ T.2.1 t
    · rw [if_pos d] at h
      simp only [d, eq_self, reduceCtorEq, true_implies, false_implies, and_true, true_and, not_true_eq_false, not_false_eq_true]
      have hPn : a_P m ≤ n := by
        rw [q, ok_m0 ok] at d
        exact (nI_leI (by omega) (by omega)).mp d
      refine v_loop (fun fu i (s : vSt) => p_X10_copyCoins_28 (nI t) K fu s (nI i)) (fun i s => a_fr a_tx S s ∧ a_TX s (a_cc T t m i)) (a_P m) (fun fu i s hi hI hk => ?_) (fun fu s hI => ?_) S ⟨fr_r, h0⟩
      · obtain ⟨f, q1⟩ := hI
        have R1 := R_tx R f
        have n1 : ¬ nI (a_P m) ≤ nI i := nI_ge hi (by omega)
        simp only [e_X10_copyCoins_28, R_0 R1, ok_m0 ok, n1, eq_self, reduceCtorEq, true_implies, false_implies, and_true, true_and, not_true_eq_false, not_false_eq_true]
        rw [e_at (show i < 8 by omega) (by omega), R_8 (b := 10) R1 hi h8]
        refine x_set q1 ht (by omega) (fun S1 f1 h1 => ?_)
        simp only [forall_eq, nIs]
        exact hk S1 ⟨fr_t f f1, h1⟩
      · obtain ⟨f, q1⟩ := hI
        have R1 := R_tx R f
        simp only [e_X10_copyCoins_28, R_0 R1, ok_m0 ok, Int32.le_refl, eq_self, reduceCtorEq, true_implies, false_implies, and_true, true_and, not_true_eq_false, not_false_eq_true]
        rw [ok_m0 ok] at h
        exact t_told f q1 h
    · rw [if_neg d] at h
      simp only [d, show ¬ (4 : Int32) = 0 from by decide, eq_self, reduceCtorEq, true_implies, false_implies, and_true, true_and, not_true_eq_false, not_false_eq_true]
      exact t_refused fr_r h0 h
  · rw [if_neg c] at h
    simp only [c, eq_self, reduceCtorEq, true_implies, false_implies, and_true, true_and, not_true_eq_false, not_false_eq_true]
    exact t_refused fr_r h0 h
theorem m_copyCoins {S : vSt} {T : aT} {m : Nat → Int32} {x : Int32} {K : Int32 → vSt → Prop} (ok : a_ok m) (tok : a_tok T) (M : a_M S 0 m) (h0 : a_TM S T) (h : a_MT S K (o_copy T m x)) : p_X11_copyCoins S x K := by
  have h8 := ok_P8 ok
  unfold p_X11_copyCoins p_X11_isTray
  refine gt_go h0 (fun S1 g1 => ?_)
  have M1 := M_tm M g1.1
  rw [e_min (lo := 0) (hi := 3) (L := 0) (H := 3) rfl rfl]
  unfold o_copy a_tst at h
  by_cases g : a_in 0 3 x = true
  · obtain ⟨t, ht, rfl, e⟩ := tray_t g
    rw [if_pos g, e] at h
    rw [g]
    simp (disch := omega) only [eq_self, reduceCtorEq, true_implies, false_implies, and_true, true_and, not_true_eq_false, not_false_eq_true, ia8, ia16, ia24, ia32, ia40, ia48, ia58, ia68, ia78, ia88, ia98, ncl, vpt, c0, c1, c2, c3, c4, c5, c6, c7, k0, k1, k2, k3, k4, k5, k6, k7, (g1.2.1.1 t ht).2, M_0 M1]
    rcases tok t ht with q | ⟨n, hn, q⟩
    · have z : ¬ (0 : Int32) ≤ -1 := by decide
      rw [if_pos q, if_neg (by decide)] at h
      simp only [q, z, eq_self, reduceCtorEq, true_implies, false_implies, and_true, true_and, not_true_eq_false, not_false_eq_true]
      exact mt_refuse g1 h
    · have z : (0 : Int32) ≤ nI n := nI_pos' (by omega)
      have z2 : ¬ nI n = -1 := fun w => by rw [w] at z; exact absurd z (by decide)
      rw [q, if_neg z2, if_pos rfl] at h
      simp only [q, z, eq_self, reduceCtorEq, true_implies, false_implies, and_true, true_and, not_true_eq_false, not_false_eq_true]
      by_cases d : m 0 ≤ nI n
      · rw [if_pos d] at h
        simp only [d, eq_self, reduceCtorEq, true_implies, false_implies, and_true, true_and, not_true_eq_false, not_false_eq_true]
        have hPn : a_P m ≤ n := by
          rw [ok_m0 ok] at d
          exact (nI_leI (by omega) (by omega)).mp d
        refine v_loop (fun fu i (s : vSt) => p_X11_copyCoins_62 (nI t) K fu s (nI i)) (fun i s => a_gt S s (a_cc T t m i) 0) (a_P m) (fun fu i s hi hI hk => ?_) (fun fu s hI => ?_) S1 g1
        · obtain ⟨f, q1, st⟩ := hI
          have M2 := M_tm M f
          have n1 : ¬ nI (a_P m) ≤ nI i := nI_ge hi (by omega)
          simp (disch := omega) only [e_X11_copyCoins_62, ia8, ia16, ia24, ia32, ia40, ia48, ia58, ia68, ia78, ia88, ia98, ncl, vpt, c0, c1, c2, c3, c4, c5, c6, c7, k0, k1, k2, k3, k4, k5, k6, k7, M_0 M2, ok_m0 ok, n1, eq_self, reduceCtorEq, true_implies, false_implies, and_true, true_and, not_true_eq_false, not_false_eq_true]
          have tok1 : a_tok (a_cc T t m i) := by
            intro t' ht'
            rw [(cc_1 i).2]
            exact tok t' ht'
          refine m_write tok1 q1 (fun S3 f3 h3 st3 => ?_)
          have ep : a_plc (a_cc T t m i) (nI t) (nI i) = 0 := by
            unfold a_plc a_tst
            rw [(cc_1 i).2, if_pos g, e, q, if_neg z2, if_pos rfl, if_neg (nI_pos (by omega)), if_pos (nI_lt (by omega) (by omega))]
          unfold o_write at h3 st3
          rw [if_pos ep, e, a_n_nI (by omega)] at h3
          rw [if_pos ep] at st3
          simp only [forall_eq, nIs]
          exact hk S3 ⟨fr_t f f3, h3, st3⟩
        · have M2 := M_tm M hI.1
          simp (disch := omega) only [e_X11_copyCoins_62, ia8, ia16, ia24, ia32, ia40, ia48, ia58, ia68, ia78, ia88, ia98, ncl, vpt, c0, c1, c2, c3, c4, c5, c6, c7, k0, k1, k2, k3, k4, k5, k6, k7, M_0 M2, ok_m0 ok, Int32.le_refl, eq_self, reduceCtorEq, true_implies, false_implies, and_true, true_and, not_true_eq_false, not_false_eq_true]
          rw [ok_m0 ok] at h
          exact mt_ret hI h
      · rw [if_neg d] at h
        simp only [d, eq_self, reduceCtorEq, true_implies, false_implies, and_true, true_and, not_true_eq_false, not_false_eq_true]
        exact mt_refuse g1 h
  · rw [if_neg g, if_neg (by decide)] at h
    rw [Bool.not_eq_true] at g
    rw [g]
    simp only [eq_self, reduceCtorEq, true_implies, false_implies, and_true, true_and, not_true_eq_false, not_false_eq_true]
    exact mt_refuse g1 h
