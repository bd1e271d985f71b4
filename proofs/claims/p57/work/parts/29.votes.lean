/-! votes, wins, owes, gain, loss -/
theorem all_40 {m : Nat → Int32} (ok : a_ok m) : a_all m < 2 ^ 40 := by
  have := all_le ok
  omega
theorem fit_nat {m : Nat → Int32} (ok : a_ok m) {n : Nat} (h : n ≤ a_all m) : a_fit n := by
  have := all_le ok
  unfold a_fit
  omega
theorem a_why_n {m : Nat → Int32} {x y : Int32} (h : a_why m x y ≠ 0) : (false, a_why m x y, (none : Option (Int64 × Int64))) = (decide (a_why m x y = 0), a_why m x y, none) := by
  rw [decide_eq_false h]
def o_votes (m : Nat → Int32) (x y z : Int32) : Bool × Int32 × Option (Int64 × Int64) := if (a_one m x && a_two m y) = true then (if a_in 0 (m 2) z = true then (if m (48 + a_n y) = x then (false, 9, none) else (true, 0, a_frac (a_W (a_c m (a_n x) (a_n y)) (a_J m) (a_n z)) (a_all m))) else (false, 5, none)) else (false, 2, none)
theorem g_why {S : vSt} {w : Int32} : a_g S (v_si (v_si S 143 1 0) 143 0 w) w := ⟨fr_i (fr_i fr_r rfl) rfl, si_at, rfl, rfl⟩
theorem M_thr {S : vSt} {B : Nat} {m : Nat → Int32} (M : a_M S B m) : a_M (v_si S 143 1 0) B m := M_m M (fr_i fr_r rfl)

def o_wins (m : Nat → Int32) (x y : Int32) : Bool × Int32 × Option (Int64 × Int64) := if a_why m x y = 0 then (true, 0, a_frac (a_wn m (a_n x) (a_n y)) (a_all m)) else (false, a_why m x y, none)
theorem x_wins {S : vSt} {m : Nat → Int32} {x y : Int32} {K : Bool → vSt → Prop} (ok : a_ok m) (R : a_R S 10 m) (h : a_XK S K (o_wins m x y)) : p_X10_wins S x y K := by
  unfold p_X10_wins
  rw [x_voteStatus ok R]
  unfold o_wins at h
  by_cases g : a_why m x y = 0
  · obtain ⟨p, d, hp, hd, rfl, rfl, e1, e2, -⟩ := a_why_0 ok g
    rw [if_pos g, e1, e2] at h
    simp only [g, eq_self, reduceCtorEq, true_implies, false_implies, and_true, true_and, not_true_eq_false, not_false_eq_true, x_chanceOf ok R hp hd]
    refine x_weigh ok R (a_c16 m p d) (fun S1 f1 w1 => ?_)
    have R1 := R_x R (fr_w f1 (ro_sx (by omega)))
    refine x_waysToWin ok R1 w1 ?_
    rw [x_whole ok R1, lI_N]
    exact x_tell (fr_w f1 (ro_sx (by omega))) (fit_nat ok (n := a_wn m p d) (by have := wn_ow (m := m) p d; omega)) (all_pos m) (all_40 ok) h
  · rw [if_neg g, a_why_n g] at h
    simp only [g, eq_self, reduceCtorEq, true_implies, false_implies, and_true, true_and, not_true_eq_false, not_false_eq_true]
    exact x_settled fr_r h
def o_owes (m : Nat → Int32) (x y : Int32) : Bool × Int32 × Option (Int64 × Int64) := if a_why m x y = 0 then (true, 0, a_frac (a_ow m (a_n x) (a_n y)) (a_all m)) else (false, a_why m x y, none)
theorem x_owes {S : vSt} {m : Nat → Int32} {x y : Int32} {K : Bool → vSt → Prop} (ok : a_ok m) (R : a_R S 10 m) (h : a_XK S K (o_owes m x y)) : p_X10_owes S x y K := by
  unfold p_X10_owes
  rw [x_voteStatus ok R]
  unfold o_owes at h
  by_cases g : a_why m x y = 0
  · obtain ⟨p, d, hp, hd, rfl, rfl, e1, e2, -⟩ := a_why_0 ok g
    rw [if_pos g, e1, e2] at h
    simp only [g, eq_self, reduceCtorEq, true_implies, false_implies, and_true, true_and, not_true_eq_false, not_false_eq_true, x_chanceOf ok R hp hd]
    refine x_weigh ok R (a_c16 m p d) (fun S1 f1 w1 => ?_)
    have R1 := R_x R (fr_w f1 (ro_sx (by omega)))
    refine x_waysToOwe ok R1 w1 ?_
    rw [x_whole ok R1, lI_N]
    exact x_tell (fr_w f1 (ro_sx (by omega))) (fit_nat ok (n := a_ow m p d) (by have := wn_ow (m := m) p d; omega)) (all_pos m) (all_40 ok) h
  · rw [if_neg g, a_why_n g] at h
    simp only [g, eq_self, reduceCtorEq, true_implies, false_implies, and_true, true_and, not_true_eq_false, not_false_eq_true]
    exact x_settled fr_r h
def a_mean (m : Nat → Int32) (x y : Int32) : Int32 := if a_why m x y = 0 then (if m (8 + a_n x) < 0 then 9 else 0) else a_why m x y
theorem a_mean_0 {m : Nat → Int32} {x y : Int32} (ok : a_ok m) (h : a_mean m x y = 0) : ∃ p d, p < a_P m ∧ d < a_D m ∧ x = nI p ∧ y = nI d ∧ a_n x = p ∧ a_n y = d ∧ ¬ m (8 + p) < 0 ∧ a_why m x y = 0 := by
  unfold a_mean at h
  by_cases g : a_why m x y = 0
  · obtain ⟨p, d, hp, hd, rfl, rfl, e1, e2, -⟩ := a_why_0 ok g
    rw [if_pos g, e1] at h
    refine ⟨p, d, hp, hd, rfl, rfl, e1, e2, fun c => ?_, g⟩
    rw [if_pos c] at h
    exact absurd h (by decide)
  · rw [if_neg g] at h
    exact absurd h g
theorem x_meanStatus {S : vSt} {m : Nat → Int32} {x y : Int32} {K : Int32 → vSt → Prop} (ok : a_ok m) (R : a_R S 10 m) : p_X10_meanStatus S x y K = K (a_mean m x y) S := by
  unfold p_X10_meanStatus a_mean
  rw [x_voteStatus ok R]
  have h8 := ok_P8 ok
  by_cases g : a_why m x y = 0
  · obtain ⟨p, d, hp, hd, rfl, rfl, e1, e2, -⟩ := a_why_0 ok g
    rw [if_pos g, g, e1]
    simp only [eq_self, reduceCtorEq, true_implies, false_implies, and_true, true_and, not_true_eq_false, not_false_eq_true, e_isRuined (show p < 8 by omega), R_8 R hp h8]
    by_cases c : m (8 + p) < 0 <;> simp [c]
  · rw [if_neg g]
    simp only [g, eq_self, reduceCtorEq, true_implies, false_implies, and_true, true_and, not_true_eq_false, not_false_eq_true]
theorem a_mean_n {m : Nat → Int32} {x y : Int32} (h : a_mean m x y ≠ 0) : (false, a_mean m x y, (none : Option (Int64 × Int64))) = (decide (a_mean m x y = 0), a_mean m x y, none) := by
  rw [decide_eq_false h]

def o_gain (m : Nat → Int32) (x y : Int32) : Bool × Int32 × Option (Int64 × Int64) := if a_mean m x y = 0 then (true, 0, a_frac (a_gain m (a_n x) (a_n y)) (a_all m)) else (false, a_mean m x y, none)
theorem x_gain {S : vSt} {m : Nat → Int32} {x y : Int32} {K : Bool → vSt → Prop} (ok : a_ok m) (R : a_R S 10 m) (h : a_XK S K (o_gain m x y)) : p_X10_gain S x y K := by
  unfold p_X10_gain
  rw [x_meanStatus ok R]
  unfold o_gain at h
  by_cases g : a_mean m x y = 0
  · obtain ⟨p, d, hp, hd, rfl, rfl, e1, e2, -, -⟩ := a_mean_0 ok g
    rw [if_pos g, e1, e2] at h
    simp only [g, eq_self, reduceCtorEq, true_implies, false_implies, and_true, true_and, not_true_eq_false, not_false_eq_true, p_X10_seen]
    refine x_see ok R (fun S1 f1 s1 => ?_)
    have R1 := R_x R f1
    rw [x_gainOf ok s1 hp hd, x_whole ok R1]
    exact x_tell f1 (fit_gain ok hd) (all_pos m) (all_40 ok) h
  · rw [if_neg g, a_mean_n g] at h
    simp only [g, eq_self, reduceCtorEq, true_implies, false_implies, and_true, true_and, not_true_eq_false, not_false_eq_true]
    exact x_settled fr_r h
def o_loss (m : Nat → Int32) (x y : Int32) : Bool × Int32 × Option (Int64 × Int64) := if a_mean m x y = 0 then (true, 0, a_frac (a_loss m (a_n x) (a_n y)) (a_all m)) else (false, a_mean m x y, none)
theorem x_loss {S : vSt} {m : Nat → Int32} {x y : Int32} {K : Bool → vSt → Prop} (ok : a_ok m) (R : a_R S 10 m) (h : a_XK S K (o_loss m x y)) : p_X10_loss S x y K := by
  unfold p_X10_loss
  rw [x_meanStatus ok R]
  unfold o_loss at h
  by_cases g : a_mean m x y = 0
  · obtain ⟨p, d, hp, hd, rfl, rfl, e1, e2, -, -⟩ := a_mean_0 ok g
    rw [if_pos g, e1, e2] at h
    simp only [g, eq_self, reduceCtorEq, true_implies, false_implies, and_true, true_and, not_true_eq_false, not_false_eq_true, p_X10_seen]
    refine x_see ok R (fun S1 f1 s1 => ?_)
    have R1 := R_x R f1
    rw [x_lossOf ok s1 hp hd, x_whole ok R1]
    exact x_tell f1 (fit_loss ok hd) (all_pos m) (all_40 ok) h
  · rw [if_neg g, a_mean_n g] at h
    simp only [g, eq_self, reduceCtorEq, true_implies, false_implies, and_true, true_and, not_true_eq_false, not_false_eq_true]
    exact x_settled fr_r h