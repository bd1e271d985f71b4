/-! the model's game -/
theorem mv_1 {m : Nat → Int32} {p o d : Nat} : a_mv m p o d = 1 ↔ (m (48 + d) = nI o ∧ a_can m p d = true) := by
  unfold a_mv
  split
  · next q => exact ⟨fun _ => q, fun _ => rfl⟩
  · next q =>
    refine ⟨fun w => ?_, fun w => absurd w q⟩
    split at w <;> omega
theorem mv_2 {m : Nat → Int32} {p o d : Nat} (n : ¬ nI o = nI p) : a_mv m p o d = 2 ↔ (m (48 + d) = nI p ∧ a_can m o d = true) := by
  unfold a_mv
  split
  · next q => exact ⟨fun w => absurd w (by omega), fun w => absurd (q.1.symm.trans w.1) n⟩
  · split
    · next q => exact ⟨fun _ => q, fun _ => rfl⟩
    · next q => exact ⟨fun w => absurd w (by omega), fun w => absurd w q⟩
def a_w (p o : Nat) (f : Bool) : Nat := if f = true then p else o
theorem cd_w {m : Nat → Int32} {p o c d : Nat} {f : Bool} (n : ¬ nI o = nI p) : a_cd m p o f c d = (decide (m (48 + d) = nI (a_w o p f)) && !c.testBit d && a_can m (a_w p o f) d) := by
  cases f
  · have e : decide (a_mv m p o d = if false = true then 1 else 2) = (decide (m (48 + d) = nI p) && a_can m o d) := by
      rw [Bool.eq_iff_iff, Bool.and_eq_true, decide_eq_true_iff, decide_eq_true_iff, if_neg (by decide)]
      exact mv_2 n
    show (decide (a_mv m p o d = if false = true then 1 else 2) && !c.testBit d) = (decide (m (48 + d) = nI p) && !c.testBit d && a_can m o d)
    rw [e, Bool.and_assoc, Bool.and_assoc, Bool.and_comm (a_can m o d)]
  · have e : decide (a_mv m p o d = if true = true then 1 else 2) = (decide (m (48 + d) = nI o) && a_can m p d) := by
      rw [Bool.eq_iff_iff, Bool.and_eq_true, decide_eq_true_iff, decide_eq_true_iff, if_pos rfl]
      exact mv_1
    show (decide (a_mv m p o d = if true = true then 1 else 2) && !c.testBit d) = (decide (m (48 + d) = nI o) && !c.testBit d && a_can m p d)
    rw [e, Bool.and_assoc, Bool.and_assoc, Bool.and_comm (a_can m p d)]
theorem wo_w {m : Nat → Int32} {p o c d : Nat} {f : Bool} (h : a_cd m p o f c d = true) : a_wo m p o d = if f = true then a_gain m (a_w p o f) d + a_loss m (a_w p o f) d else -(a_gain m (a_w p o f) d + a_loss m (a_w p o f) d) := by
  unfold a_cd at h
  rw [Bool.and_eq_true, decide_eq_true_iff] at h
  have q := h.1
  cases f
  · rw [if_neg (by decide)] at q
    unfold a_wo
    rw [q, if_neg (by omega), if_neg (by decide)]
    show _ = -(a_gain m o d + a_loss m o d)
    omega
  · rw [if_pos rfl] at q
    unfold a_wo
    rw [q, if_pos rfl, if_pos rfl]
    rfl
def a_wi (m : Nat → Int32) (p o k : Nat) (f : Bool) (c : Nat) : Int32 := match v_first (fun d => a_cd m p o f c d && decide (a_pv m p o k f c d = a_pl m p o (k + 1) f c)) (a_D m) with
  | none => nI (a_D m)
  | some j => nI j
theorem wi_none {m : Nat → Int32} {p o k c : Nat} {f : Bool} (h : ∀ l, l < a_D m → a_cd m p o f c l = true → a_pv m p o k f c l ≠ a_pl m p o (k + 1) f c) : a_wi m p o k f c = nI (a_D m) := by
  unfold a_wi
  rw [first_none (a_D m) (fun l hl => ?_)]
  cases q : a_cd m p o f c l
  · rfl
  · rw [decide_eq_false (h l hl q)]; rfl
theorem wi_some {m : Nat → Int32} {p o k c j : Nat} {f : Bool} (h : a_jb f (a_cd m p o f c) (a_pv m p o k f c) (a_D m) j) (e : a_pl m p o (k + 1) f c = a_pv m p o k f c j) : a_wi m p o k f c = nI j := by
  obtain ⟨h1, h2, h3, h4⟩ := h
  have e1 : ∀ l, l < j → (fun d => a_cd m p o f c d && decide (a_pv m p o k f c d = a_pl m p o (k + 1) f c)) l = false := by
    intro l hl
    show (a_cd m p o f c l && decide (a_pv m p o k f c l = a_pl m p o (k + 1) f c)) = false
    cases q : a_cd m p o f c l
    · rfl
    · rw [e, decide_eq_false (h4 l hl q)]; rfl
  have e2 : (fun d => a_cd m p o f c d && decide (a_pv m p o k f c d = a_pl m p o (k + 1) f c)) j = true := by
    show (a_cd m p o f c j && decide (a_pv m p o k f c j = a_pl m p o (k + 1) f c)) = true
    rw [h2, e, decide_eq_true rfl]; rfl
  unfold a_wi
  rw [first_some e1 e2 (a_D m) h1]
/-! game, moveOf -/
def a_gst (m : Nat → Int32) (x y T lo : Int32) : Int32 := if (a_one m x && a_one m y) = true then (if x = y then 5 else if a_in lo 3 T = true then 0 else 5) else 2
theorem x_gameStatus {S : vSt} {m : Nat → Int32} {x y T lo : Int32} {K : Int32 → vSt → Prop} (R : a_R S 10 m) : p_X10_gameStatus S x y T lo K = K (a_gst m x y T lo) S := by
  unfold p_X10_gameStatus a_gst
  rw [e_hasPerson R]
  simp only [e_hasPerson R, gd2]
  cases a_one m x <;> cases a_one m y <;> simp only [Bool.and_true, Bool.and_false, Bool.true_and, Bool.false_and, Bool.false_eq_true, if_true, if_false, eq_self, reduceCtorEq, true_implies, false_implies, and_true, true_and, not_true_eq_false, not_false_eq_true]
  by_cases c : x = y
  · simp only [c, eq_self, reduceCtorEq, true_implies, false_implies, and_true, true_and, not_true_eq_false, not_false_eq_true, if_true]
  · simp only [c, eq_self, reduceCtorEq, true_implies, false_implies, and_true, true_and, not_true_eq_false, not_false_eq_true, if_false]
    split <;> rfl
theorem gst_0 {m : Nat → Int32} {x y T : Int32} {l : Nat} (hl : l ≤ 1) (ok : a_ok m) (h : a_gst m x y T (nI l) = 0) : ∃ p o k, p < a_P m ∧ o < a_P m ∧ p ≠ o ∧ l ≤ k ∧ k ≤ 3 ∧ x = nI p ∧ y = nI o ∧ T = nI k ∧ a_n x = p ∧ a_n y = o ∧ a_n T = k := by
  unfold a_gst at h
  by_cases g : (a_one m x && a_one m y) = true
  · rw [if_pos g] at h
    rw [Bool.and_eq_true] at g
    obtain ⟨p, hp, e1, e2⟩ := a_one_t ok g.1
    obtain ⟨o, ho, e3, e4⟩ := a_one_t ok g.2
    by_cases c : x = y
    · rw [if_pos c] at h; exact absurd h (by decide)
    · rw [if_neg c] at h
      by_cases d : a_in (nI l) 3 T = true
      · unfold a_in at d
        have d := of_decide_eq_true d
        have t0 : ¬ T < 0 := by
          intro w
          have q := d.1
          rw [Int32.lt_iff_toInt_lt] at w
          rw [Int32.le_iff_toInt_le, nI_toInt (by omega)] at q
          have : (0 : Int32).toInt = 0 := rfl
          omega
        obtain ⟨k, hk, rfl⟩ := nI_of t0
        have d1 := (nI_leI (a := l) (b := k) (by omega) hk).mp d.1
        have d2 := (nI_leI (a := k) (b := 3) hk (by omega)).mp d.2
        exact ⟨p, o, k, hp, ho, fun w => c (by rw [e1, e3, w]), d1, d2, e1, e3, rfl, e2, e4, a_n_nI hk⟩
      · rw [if_neg d] at h; exact absurd h (by decide)
  · rw [if_neg g] at h; exact absurd h (by decide)
theorem gst_n {m : Nat → Int32} {x y T lo : Int32} (h : a_gst m x y T lo ≠ 0) : (false, a_gst m x y T lo, (none : Option (Int64 × Int64))) = (decide (a_gst m x y T lo = 0), a_gst m x y T lo, none) := by
  rw [decide_eq_false h]
theorem gst_p {m : Nat → Int32} {x y T lo : Int32} (h : a_gst m x y T lo ≠ 0) : ¬ a_gst m x y T lo ≤ 0 := by
  unfold a_gst at h ⊢
  split at h
  · next q =>
    rw [if_pos q]
    split at h
    · next q => rw [if_pos q]; decide
    · next q =>
      rw [if_neg q]
      split at h
      · exact absurd rfl h
      · next q => rw [if_neg q]; decide
  · next q => rw [if_neg q]; decide
def o_game (m : Nat → Int32) (x y T : Int32) : Bool × Int32 × Option (Int64 × Int64) := if a_gst m x y T 0 = 0 then (true, 0, a_frac (a_pl m (a_n x) (a_n y) (a_n T) true 0) (a_all m)) else (false, a_gst m x y T 0, none)
theorem x_game {S : vSt} {m : Nat → Int32} {x y T : Int32} {K : Bool → vSt → Prop} (ok : a_ok m) (R : a_R S 10 m) (h : a_XK S K (o_game m x y T)) : p_X10_game S x y T K := by
  unfold p_X10_game
  rw [x_gameStatus R]
  unfold o_game at h
  by_cases g : a_gst m x y T 0 = 0
  · obtain ⟨p, o, k, hp, ho, n, -, hk, rfl, rfl, rfl, e1, e2, e3⟩ := gst_0 (l := 0) (by omega) ok g
    rw [if_pos g, e1, e2, e3] at h
    simp only [g, eq_self, reduceCtorEq, true_implies, false_implies, and_true, true_and, not_true_eq_false, not_false_eq_true]
    refine x_see ok R (fun S1 f1 s1 => ?_)
    refine x_setGame ok (R_x R f1) s1 hp ho n (fun S2 f2 g2 t2 => ?_)
    have f2' := fr_t f1 (fr_w f2 gr_sx)
    have R2 := R_x R f2'
    refine x_outcome ok R2 g2 hk t2 ?_
    rw [x_whole ok R2]
    exact x_tell f2' (pl_fit ok p o (by omega) true 0) (all_pos m) (all_40 ok) h
  · rw [if_neg g, gst_n g] at h
    simp only [g, eq_self, reduceCtorEq, true_implies, false_implies, and_true, true_and, not_true_eq_false, not_false_eq_true]
    exact x_settled fr_r h
def o_move (m : Nat → Int32) (x y T : Int32) : Int32 × Int32 × Option (Int64 × Int64) := if a_gst m x y T 1 = 0 then o_any (a_first m (a_n x) (a_n y) (a_n T - 1)) else (-1, a_gst m x y T 1, none)
theorem x_moveOf {S : vSt} {m : Nat → Int32} {x y T : Int32} {K : Int32 → vSt → Prop} (ok : a_ok m) (R : a_R S 10 m) (h : a_XK S K (o_move m x y T)) : p_X10_moveOf S x y T K := by
  unfold p_X10_moveOf
  rw [x_gameStatus R]
  unfold o_move at h
  by_cases g : a_gst m x y T 1 = 0
  · obtain ⟨p, o, k, hp, ho, n, hl, hk, rfl, rfl, rfl, e1, e2, e3⟩ := gst_0 (l := 1) (by omega) ok g
    rw [if_pos g, e1, e2, e3] at h
    simp only [g, eq_self, reduceCtorEq, true_implies, false_implies, and_true, true_and, not_true_eq_false, not_false_eq_true]
    refine x_see ok R (fun S1 f1 s1 => ?_)
    refine x_setGame ok (R_x R f1) s1 hp ho n (fun S2 f2 g2 t2 => ?_)
    have f2' := fr_t f1 (fr_w f2 gr_sx)
    have R2 := R_x R f2'
    refine x_firstMove ok R2 g2 (k := k - 1) (by omega) (by rw [t2]; congr 1; omega) ?_
    exact x_toldIfAny f2' h
  · rw [if_neg g] at h
    simp only [g, eq_self, reduceCtorEq, true_implies, false_implies, and_true, true_and, not_true_eq_false, not_false_eq_true]
    exact x_refused fr_r h