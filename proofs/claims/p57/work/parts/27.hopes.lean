/-! the class's hopes -/
def a_ro (r k _j : Nat) : Bool := decide (k = r)
theorem ro_at {r j : Nat} : a_ro r r j = true := decide_eq_true rfl
theorem ro_sx {r : Nat} (h : 55 ≤ r ∧ r ≤ 75) : ∀ k j, a_sx k j = false → a_ro r k j = false := by
  intro k j q
  unfold a_sx at q
  unfold a_ro
  rw [decide_eq_false_iff_not] at q ⊢
  omega
theorem ro_sm {r : Nat} (h : 151 ≤ r ∧ r ≤ 153) : ∀ k j, a_sm k j = false → a_ro r k j = false := by
  intro k j q
  unfold a_sm at q
  unfold a_ro
  rw [decide_eq_false_iff_not] at q ⊢
  omega
theorem x_rule0 {S : vSt} {b : Nat} {m : Nat → Int32} {K : Int32 → vSt → Prop} (R : a_R S b m) : p_X0_ruleOf b S 0 K = K (m 2) S := (e_ruleOf (j := 0) (by omega)).trans (by rw [R_2 R (by omega)])
theorem x_rule1 {S : vSt} {b : Nat} {m : Nat → Int32} {K : Int32 → vSt → Prop} (R : a_R S b m) : p_X0_ruleOf b S 1 K = K (m 3) S := (e_ruleOf (j := 1) (by omega)).trans (by rw [R_2 R (by omega)])
theorem x_rule2 {S : vSt} {b : Nat} {m : Nat → Int32} {K : Int32 → vSt → Prop} (R : a_R S b m) : p_X0_ruleOf b S 2 K = K (m 4) S := (e_ruleOf (j := 2) (by omega)).trans (by rw [R_2 R (by omega)])
theorem x_rule3 {S : vSt} {b : Nat} {m : Nat → Int32} {K : Int32 → vSt → Prop} (R : a_R S b m) : p_X0_ruleOf b S 3 K = K (m 5) S := (e_ruleOf (j := 3) (by omega)).trans (by rw [R_2 R (by omega)])
theorem h_fill {S : vSt} {r0 N0 : Nat} {x : Int64} {K : vSt → Prop} (hn : N0 < 2 ^ 31) (h : ∀ S', a_fr (a_ro r0) S S' → (∀ k, k < N0 → S'.2 r0 k = x) → K S') : p_J7_fill_d0a16 r0 N0 S x K := by
  unfold p_J7_fill_d0a16
  rintro _ rfl
  refine v_loop (fun fu i (s : vSt) => p_J7_fill_d0a16_6 r0 N0 x K fu s (nI i) (nI N0)) (fun i s => a_fr (a_ro r0) S s ∧ ∀ k, k < i → s.2 r0 k = x) N0 (fun fu i s hi hI hk => ?_) (fun fu s hI => ?_) S ⟨fr_r, fun k hk => absurd hk (by omega)⟩
  · have h1 : ¬ nI N0 ≤ nI i := nI_ge hi hn
    simp (disch := omega) only [e_J7_fill_d0a16_6, h1, eq_self, reduceCtorEq, true_implies, false_implies, and_true, true_and, not_true_eq_false, not_false_eq_true, ia8, ia16, ia24, ia32, ia40, ia48, ia58, ia68, ia78, ia88, ia98, ncl, vpt, c0, c1, c2, c3, c4, c5, c6, c7, k0, k1, k2, k3, k4, k5, k6, k7, forall_eq, nIs]
    refine hk _ ⟨fr_l hI.1 ro_at, fun k hk => ?_⟩
    rw [sl2]
    by_cases e : k = i
    · rw [if_pos ⟨rfl, e⟩]
    · rw [if_neg (fun w => e w.2)]
      exact hI.2 k (by omega)
  · simp only [e_J7_fill_d0a16_6, Int32.le_refl, eq_self, reduceCtorEq, true_implies, false_implies, and_true, true_and, not_true_eq_false, not_false_eq_true]
    exact h s hI.1 hI.2
/-- in row r stand the ways of n jurors -/
def a_wr (S : vSt) (r c n : Nat) : Prop := ∀ k, k < 10 → S.2 r k = lN (a_W c n k)
theorem x_weigh_in {S : vSt} {c n : Nat} {K : vSt → Int32 → Prop} {post : vSt → Prop} (hc : c ≤ 16) (hn : n + 1 < 10) (h0 : a_wr S 59 c n) (h : ∀ S', a_fr (a_ro 59) S S' → a_wr S' 59 c (n + 1) → K S' (nI (n + 2))) : ∃ fu, p_X3_weigh_33 (nI c) K post fu S (nI (n + 1)) (nI (n + 1)) := by
  have e16 : (16 : Int32) - nI c = nI (16 - c) := pk_sub (a := 16) hc
  have key : p_X3_weigh_33 (nI c) K post (n + 2 + 1) S (nI (n + 1)) (nI (n + 2) - 1) := by
    refine pk_loopD (fun fu e (s : vSt) => p_X3_weigh_33 (nI c) K post fu s (nI (n + 1)) (nI e - 1)) (fun e s => a_fr (a_ro 59) S s ∧ e ≤ n + 2 ∧ ∀ k, k < 10 → s.2 59 k = lN (if e ≤ k then a_W c (n + 1) k else a_W c n k)) ?_ ?_ (n + 2) S ⟨fr_r, Nat.le_refl _, ?_⟩
    · intro fu s hI
      have h1 : nI 0 - 1 < 0 := by decide
      simp only [e_X3_weigh_33, h1, eq_self, reduceCtorEq, true_implies, false_implies, and_true, true_and, not_true_eq_false, not_false_eq_true, forall_eq, nIs]
      exact h s hI.1 (fun k hk => by rw [hI.2.2 k hk, if_pos (Nat.zero_le _)])
    · rintro fu i s ⟨f, hi, hI⟩ hk
      have h1 : ¬ nI i < 0 := nI_pos (by omega)
      simp only [e_X3_weigh_33, nI_pred, h1, eq_self, reduceCtorEq, true_implies, false_implies, and_true, true_and, not_true_eq_false, not_false_eq_true]
      rw [e_atl (show i < 10 by omega) (by omega), hI i (by omega), if_neg (by omega)]
      have step : ∀ z : Int64, z = lN (if i = 0 then 0 else a_W c n (i - 1)) → p_X10_put_ 59 10 s (nI i) (lN (a_W c n i) * ((16 : Int32) - nI c).toInt64 + z * (nI c).toInt64) (fun S30 => ∀ y31, y31 = nI i + (-1) → p_X3_weigh_33 (nI c) K post fu S30 (nI (n + 1)) y31) := by
        rintro _ rfl
        rw [e16, nI_l (by omega), nI_l (by omega), lN_mul, lN_mul, lN_add, e_putl (show i < 10 by omega) (by omega)]
        rintro _ rfl
        rw [← Int32.sub_eq_add_neg]
        refine hk _ ⟨fr_l f ro_at, by omega, fun k hk => ?_⟩
        rw [sl2]
        by_cases e : k = i
        · subst e
          rw [if_pos ⟨rfl, rfl⟩, if_pos (Nat.le_refl _)]
          rfl
        · rw [if_neg (fun w => e w.2), hI k hk]
          by_cases q : i ≤ k
          · rw [if_pos q, if_pos (by omega)]
          · rw [if_neg q, if_neg (by omega)]
      match i, hi, hI, step with
      | 0, hi, hI, step =>
        rw [e_atl_m1 (by decide)]
        exact step 0 rfl
      | j + 1, hi, hI, step =>
        rw [nI_pred, e_atl (show j < 10 by omega) (by omega), hI j (by omega), if_neg (by omega)]
        exact step _ (by rw [if_neg (by omega), show j + 1 - 1 = j by omega])
    · intro k hk
      rw [h0 k hk]
      by_cases q : n + 2 ≤ k
      · rw [if_pos q, W_big n k (by omega), W_big (n + 1) k (by omega)]
      · rw [if_neg q]
  rw [nI_pred] at key
  exact ⟨_, key⟩
theorem x_weigh {S : vSt} {m : Nat → Int32} {c : Nat} {K : vSt → Prop} (ok : a_ok m) (R : a_R S 10 m) (hc : c ≤ 16) (h : ∀ S', a_fr (a_ro 59) S S' → a_wr S' 59 c (a_J m) → K S') : p_X3_weigh S (nI c) K := by
  obtain ⟨eJ, J1, J9⟩ := ok_J1 ok
  unfold p_X3_weigh
  refine h_fill (by omega) (fun S1 f1 z1 => ?_)
  refine (e_putl (k := 59) (n := 10) (j := 0) (by omega) (by omega)).mpr ?_
  refine v_loop (fun fu i (s : vSt) => p_X3_weigh_19 (nI c) K fu s (nI (i + 1))) (fun i s => a_fr (a_ro 59) S s ∧ a_wr s 59 c i) (a_J m) (fun fu i s hi hI hk => ?_) (fun fu s hI => ?_) _ ⟨fr_l f1 ro_at, fun k hk => ?_⟩
  · have h1 : ¬ nI (a_J m) < nI (i + 1) := nI_nlt (by omega) (by omega)
    have Rs := R_x R (fr_w hI.1 (ro_sx (by omega)))
    simp only [e_X3_weigh_19, x_rule0 Rs, eJ, h1, eq_self, reduceCtorEq, true_implies, false_implies, and_true, true_and, not_true_eq_false, not_false_eq_true]
    exact x_weigh_in hc (by omega) hI.2 (fun S' f' w' => hk S' ⟨fr_t hI.1 f', w'⟩)
  · have h1 : nI (a_J m) < nI (a_J m + 1) := nI_lt (by omega) (by omega)
    have Rs := R_x R (fr_w hI.1 (ro_sx (by omega)))
    simp only [e_X3_weigh_19, x_rule0 Rs, eJ, h1, eq_self, reduceCtorEq, true_implies, false_implies, and_true, true_and, not_true_eq_false, not_false_eq_true]
    exact h s hI.1 hI.2
  · rw [sl2]
    by_cases e : k = 0
    · subst e
      rw [if_pos ⟨rfl, rfl⟩]; rfl
    · rw [if_neg (fun w => e w.2), z1 k hk]
      show _ = lN (if k = 0 then 1 else 0)
      rw [if_neg e]; rfl
theorem two_mul (k : Nat) : (2 : Int32) * nI k = nI (2 * k) := pk_mul 2 k
theorem x_waysToWin {S : vSt} {m : Nat → Int32} {c : Nat} {K : Int64 → vSt → Prop} (ok : a_ok m) (R : a_R S 10 m) (w : a_wr S 59 c (a_J m)) (h : K (lN (a_win c (a_J m))) S) : p_X3_waysToWin S K := by
  obtain ⟨eJ, J1, J9⟩ := ok_J1 ok
  unfold p_X3_waysToWin
  rw [x_rule0 R, eJ]
  refine v_loop (fun fu i (z : Int64) => p_X3_waysToWin_14 K fu S (nI (a_J m)) z (nI i)) (fun i z => z = lN (a_sum (fun k => if a_J m < 2 * k then a_W c (a_J m) k else 0) i)) (a_J m + 1) (fun fu i z hi hI hk => ?_) (fun fu z hI => ?_) 0 rfl
  · have h1 : ¬ nI (a_J m) < nI i := nI_nlt (by omega) (by omega)
    subst hI
    simp only [e_X3_waysToWin_14, h1, eq_self, reduceCtorEq, true_implies, false_implies, and_true, true_and, not_true_eq_false, not_false_eq_true, two_mul, p_X3_waysToWin_42, forall_eq, nIs]
    by_cases q : a_J m < 2 * i
    · have h2 : ¬ nI (2 * i) ≤ nI (a_J m) := nI_ge q (by omega)
      simp only [h2, eq_self, reduceCtorEq, true_implies, false_implies, and_true, true_and, not_true_eq_false, not_false_eq_true, e_atl (show i < 10 by omega) (show 10 < 2 ^ 31 by omega), w i (by omega), lN_add]
      exact hk _ (by simp only [a_sum, if_pos q])
    · have h2 : nI (2 * i) ≤ nI (a_J m) := nI_le (by omega) (by omega)
      simp only [h2, eq_self, reduceCtorEq, true_implies, false_implies, and_true, true_and, not_true_eq_false, not_false_eq_true]
      refine hk _ ?_
      simp only [a_sum, if_neg q, Nat.add_zero, Int64.add_zero]
  · have h1 : nI (a_J m) < nI (a_J m + 1) := nI_lt (by omega) (by omega)
    subst hI
    simp only [e_X3_waysToWin_14, h1, eq_self, reduceCtorEq, true_implies, false_implies, and_true, true_and, not_true_eq_false, not_false_eq_true]
    exact h
theorem x_waysToOwe {S : vSt} {m : Nat → Int32} {c : Nat} {K : Int64 → vSt → Prop} (ok : a_ok m) (R : a_R S 10 m) (w : a_wr S 59 c (a_J m)) (h : K (lN (a_owe c (a_J m) (a_F m))) S) : p_X3_waysToOwe S K := by
  obtain ⟨eJ, J1, J9⟩ := ok_J1 ok
  obtain ⟨eF, F9⟩ := ok_F1 ok
  have cut : ∀ i, i ≤ a_J m + 1 → (a_J m < 2 * i ∨ a_F m ≤ i) → a_owe c (a_J m) (a_F m) = a_sum (fun k => if 2 * k ≤ a_J m ∧ k < a_F m then a_W c (a_J m) k else 0) i := by
    intro i hi q
    unfold a_owe
    rw [show a_J m + 1 = i + (a_J m + 1 - i) by omega]
    exact sum_cut _ (fun j h1 h2 => if_neg (by omega))
  unfold p_X3_waysToOwe
  rw [x_rule0 R, eJ]
  refine v_loop (fun fu i (z : Int64) => p_X3_waysToOwe_14 K fu S (nI (a_J m)) z (nI i)) (fun i z => z = lN (a_sum (fun k => if 2 * k ≤ a_J m ∧ k < a_F m then a_W c (a_J m) k else 0) i)) (a_J m + 1) (fun fu i z hi hI hk => ?_) (fun fu z hI => ?_) 0 rfl
  · subst hI
    simp only [e_X3_waysToOwe_14, two_mul, x_rule1 R, eF]
    by_cases q : a_J m < 2 * i
    · have h2 : nI (a_J m) < nI (2 * i) := nI_lt q (by omega)
      simp only [h2, eq_self, reduceCtorEq, true_implies, false_implies, and_true, true_and, not_true_eq_false, not_false_eq_true]
      rw [← cut i (by omega) (Or.inl q)]
      exact h
    · have h2 : ¬ nI (a_J m) < nI (2 * i) := nI_nlt (by omega) (by omega)
      simp only [h2, eq_self, reduceCtorEq, true_implies, false_implies, and_true, true_and, not_true_eq_false, not_false_eq_true]
      by_cases q2 : a_F m ≤ i
      · have h3 : nI (a_F m) ≤ nI i := nI_le q2 (by omega)
        simp only [h3, eq_self, reduceCtorEq, true_implies, false_implies, and_true, true_and, not_true_eq_false, not_false_eq_true]
        rw [← cut i (by omega) (Or.inr q2)]
        exact h
      · have h3 : ¬ nI (a_F m) ≤ nI i := nI_ge (by omega) (by omega)
        simp only [h3, eq_self, reduceCtorEq, true_implies, false_implies, and_true, true_and, not_true_eq_false, not_false_eq_true, e_atl (show i < 10 by omega) (show 10 < 2 ^ 31 by omega), w i (by omega), lN_add, forall_eq, nIs]
        refine hk _ ?_
        simp only [a_sum]
        rw [if_pos ⟨by omega, by omega⟩]
  · subst hI
    have h1 : nI (a_J m) < nI (2 * (a_J m + 1)) := nI_lt (by omega) (by omega)
    simp only [e_X3_waysToOwe_14, two_mul, h1, eq_self, reduceCtorEq, true_implies, false_implies, and_true, true_and, not_true_eq_false, not_false_eq_true]
    exact h
theorem sh_all : ∀ J, J < 10 → (1 : Int64) <<< ((Int32.toInt64 ((4 : Int32) * nI J)) &&& 63) = lN (16 ^ J) := by decide +kernel
theorem x_whole {S : vSt} {m : Nat → Int32} {K : Int64 → vSt → Prop} (ok : a_ok m) (R : a_R S 10 m) : p_X3_whole S K = K (lN (a_all m)) S := by
  unfold p_X3_whole
  rw [x_rule0 R, (ok_J1 ok).1, sh_all _ (by have := (ok_J1 ok).2.2; omega)]
  rfl
theorem si_self {S : vSt} {k j : Nat} : v_si S k j (S.1 k j) = S := by
  have : (v_si S k j (S.1 k j)).1 = S.1 := by
    funext a b
    rw [si1]
    split
    · next h => rw [h.1, h.2]
    · rfl
  exact Prod.ext this rfl
/-- what is seen of one charge -/
def a_see1 (S : vSt) (m : Nat → Int32) (p d : Nat) : vSt := v_si (v_sl (v_sl (v_sl (v_sl S 62 (p * 10 + d) (lN (a_wn m p d))) 63 (p * 10 + d) (lN (a_ow m p d))) 64 (p * 10 + d) (lI (a_gain m p d))) 65 (p * 10 + d) (lI (a_loss m p d))) 66 p (S.1 66 p ||| (if a_can m p d = true then 1 <<< (nI d &&& 31) else 0))
theorem cellN (p d : Nat) : nI p * 10 + nI d = nI (p * 10 + d) := by
  rw [show (10 : Int32) = nI 10 from rfl, pk_mul, nI_add]
theorem x_part {m : Nat → Int32} {d : Nat} (ok : a_ok m) (hd : d < a_D m) : (m (58 + d) * m 5) / 16 = nI (a_part m d) := by
  obtain ⟨e1, -, h1⟩ := ok_f1 ok hd
  obtain ⟨e2, h2⟩ := ok_H1 ok
  have h3 : a_f m d * a_H m ≤ 999 * 16 := Nat.mul_le_mul h1 h2
  rw [e1, e2, pk_mul, show (16 : Int32) = nI 16 from rfl, pk_div (by omega) (by omega) (by omega)]
  rfl
theorem gain_64 {m : Nat → Int32} {p d : Nat} (ok : a_ok m) (hd : d < a_D m) : lN (a_wn m p d) * (nI (a_part m d)).toInt64 - lN (a_ow m p d) * (m 4).toInt64 = lI (a_gain m p d) := by
  have h1 := part_le ok hd
  have h2 := (ok_f1 ok hd).2.2
  have h3 := (ok_L1 ok).2
  rw [(ok_L1 ok).1, nI_lI (by omega), nI_lI (by omega), lI_N, lI_N, lI_mul, lI_mul, lI_sub]
  rfl
theorem loss_64 {m : Nat → Int32} {p d : Nat} (ok : a_ok m) (hd : d < a_D m) : lN (a_wn m p d) * (m (58 + d)).toInt64 = lI (a_loss m p d) := by
  have h2 := (ok_f1 ok hd).2.2
  rw [(ok_f1 ok hd).1, nI_lI (by omega), lI_N, lI_mul]
  rfl
theorem x_seeCharge {S : vSt} {m : Nat → Int32} {p d : Nat} {K : vSt → Prop} (ok : a_ok m) (R : a_R S 10 m) (hp : p < a_P m) (hd : d < a_D m) (t : ∀ c, c < 17 → S.2 60 c = lN (a_win c (a_J m)) ∧ S.2 61 c = lN (a_owe c (a_J m) (a_F m))) (h : K (a_see1 S m p d)) : p_X3_seeCharge S (nI p) (nI d) K := by
  have h8 := ok_P8 ok
  have h10 := ok_D10 ok
  have hc := a_c16 m p d
  obtain ⟨t1, t2⟩ := t (a_c m p d) (by omega)
  simp only [p_X3_seeCharge, p_X3_cellOf, cellN]
  rw [x_chanceOf ok R hp hd, e_atl (show a_c m p d < 17 by omega) (by omega), e_atl (show a_c m p d < 17 by omega) (by omega), t1, t2, e_at (show d < 10 by omega) (by omega), R_58 (b := 10) R hd h10, e_putl (show p * 10 + d < 80 by omega) (by omega), e_putl (show p * 10 + d < 80 by omega) (by omega)]
  have R2 : a_R (v_sl (v_sl S 62 (p * 10 + d) (lN (a_win (a_c m p d) (a_J m)))) 63 (p * 10 + d) (lN (a_owe (a_c m p d) (a_J m) (a_F m)))) 10 m := R
  rw [x_rule3 R2]
  simp only [p_X0_partOf, x_part ok hd]
  rw [x_rule2 R2, e_putl (show p * 10 + d < 80 by omega) (by omega), e_putl (show p * 10 + d < 80 by omega) (by omega)]
  rw [show a_win (a_c m p d) (a_J m) = a_wn m p d from rfl, show a_owe (a_c m p d) (a_J m) (a_F m) = a_ow m p d from rfl, gain_64 ok hd, loss_64 ok hd]
  have R4 : a_R (v_sl (v_sl (v_sl (v_sl S 62 (p * 10 + d) (lN (a_wn m p d))) 63 (p * 10 + d) (lN (a_ow m p d))) 64 (p * 10 + d) (lI (a_gain m p d))) 65 (p * 10 + d) (lI (a_loss m p d))) 10 m := R
  rw [x_mayCharge ok R4 hp hd]
  unfold a_see1 at h
  cases c : a_can m p d
  · rw [c] at h
    simp only [eq_self, reduceCtorEq, true_implies, false_implies, and_true, true_and, not_true_eq_false, not_false_eq_true]
    simp only [Bool.false_eq_true, if_false, Int32.or_zero] at h
    have e : ∀ T : vSt, T.1 66 p = S.1 66 p → v_si T 66 p (S.1 66 p) = T := fun T q => by rw [← q]; exact si_self
    exact Eq.mp (congrArg K (e _ (by rfl))) h
  · rw [c] at h
    simp only [eq_self, reduceCtorEq, true_implies, false_implies, and_true, true_and, not_true_eq_false, not_false_eq_true]
    rw [e_at (show p < 8 by omega) (by omega), e_put (show p < 8 by omega) (by omega)]
    exact h
def a_cell (S : vSt) (m : Nat → Int32) (p d : Nat) : Prop := S.2 62 (p * 10 + d) = lN (a_wn m p d) ∧ S.2 63 (p * 10 + d) = lN (a_ow m p d) ∧ S.2 64 (p * 10 + d) = lI (a_gain m p d) ∧ S.2 65 (p * 10 + d) = lI (a_loss m p d)
def a_seen (S : vSt) (m : Nat → Int32) : Prop := (∀ p d, p < a_P m → d < a_D m → a_cell S m p d) ∧ ∀ p, p < a_P m → S.1 66 p = v_set (a_can m p) (a_D m)
theorem see1_fr {S0 S : vSt} {m : Nat → Int32} {p d : Nat} (f : a_fr a_sx S0 S) : a_fr a_sx S0 (a_see1 S m p d) := fr_i (fr_l (fr_l (fr_l (fr_l f rfl) rfl) rfl) rfl) rfl
theorem see1_cell {S : vSt} {m : Nat → Int32} {p d : Nat} : a_cell (a_see1 S m p d) m p d := by
  unfold a_cell a_see1
  simp [si2, sl2]
theorem see1_other {S : vSt} {m : Nat → Int32} {p d q e : Nat} (hd : d < 10) (he : e < 10) (n : q ≠ p ∨ e ≠ d) (h : a_cell S m q e) : a_cell (a_see1 S m p d) m q e := by
  have n2 : ¬ q * 10 + e = p * 10 + d := by omega
  unfold a_cell a_see1
  simp only [si2, sl2, n2, and_false, if_false]
  exact h
theorem x_see {S : vSt} {m : Nat → Int32} {K : vSt → Prop} (ok : a_ok m) (R : a_R S 10 m) (h : ∀ S', a_fr a_sx S S' → a_seen S' m → K S') : p_X3_see S K := by
  have h8 := ok_P8 ok
  have h10 := ok_D10 ok
  unfold p_X3_see
  refine v_loop (fun fu i (s : vSt) => p_X3_see_2 K fu s (nI i)) (fun i s => a_fr a_sx S s ∧ ∀ c, c < i → s.2 60 c = lN (a_win c (a_J m)) ∧ s.2 61 c = lN (a_owe c (a_J m) (a_F m))) 17 (fun fu i s hi hI hk => ?_) (fun fu s hI => ?_) S ⟨fr_r, fun c hc => absurd hc (by omega)⟩
  · have h1 : ¬ 17 ≤ nI i := nI_ge (b := 17) hi (by omega)
    have R1 := R_x R hI.1
    simp only [e_X3_see_2, h1, eq_self, reduceCtorEq, true_implies, false_implies, and_true, true_and, not_true_eq_false, not_false_eq_true]
    refine x_weigh ok R1 (by omega) (fun S1 f1 w1 => ?_)
    have R2 := R_x R1 (fr_w f1 (ro_sx (by omega)))
    refine x_waysToWin ok R2 w1 ?_
    rw [e_putl (show i < 17 by omega) (by omega)]
    have R3 : a_R (v_sl S1 60 i (lN (a_win i (a_J m)))) 10 m := R2
    have w3 : a_wr (v_sl S1 60 i (lN (a_win i (a_J m)))) 59 i (a_J m) := fun k hk => by
      rw [sl2, if_neg (by omega)]; exact w1 k hk
    refine x_waysToOwe ok R3 w3 ?_
    rw [e_putl (show i < 17 by omega) (by omega)]
    simp only [forall_eq, nIs]
    refine hk _ ⟨fr_l (fr_l (fr_t hI.1 (fr_w f1 (ro_sx (by omega)))) rfl) rfl, fun c hc => ?_⟩
    simp only [sl2]
    by_cases e : c = i
    · subst e; simp
    · have q := hI.2 c (by omega)
      rw [← (f1 60 c rfl).2, ← (f1 61 c rfl).2] at q
      simp only [e, and_false, if_false]
      exact q
  · simp only [e_X3_see_2, show (17 : Int32) ≤ nI 17 from by decide, eq_self, reduceCtorEq, true_implies, false_implies, and_true, true_and, not_true_eq_false, not_false_eq_true]
    obtain ⟨f, t⟩ := hI
    refine v_loop (fun fu i (s : vSt) => p_X3_see_45 K fu s (nI i)) (fun i s => a_fr a_sx S s ∧ (∀ c, c < 17 → s.2 60 c = lN (a_win c (a_J m)) ∧ s.2 61 c = lN (a_owe c (a_J m) (a_F m))) ∧ (∀ p d, p < i → d < a_D m → a_cell s m p d) ∧ ∀ p, p < i → s.1 66 p = v_set (a_can m p) (a_D m)) (a_P m) (fun fu i s hi hI hk => ?_) (fun fu s hI => ?_) s ⟨f, t, fun p d hp => absurd hp (by omega), fun p hp => absurd hp (by omega)⟩
    · obtain ⟨f, t, I1, I2⟩ := hI
      have h1 : ¬ nI (a_P m) ≤ nI i := nI_ge hi (by omega)
      have R1 := R_x R f
      simp only [e_X3_see_45, R_0 R1, ok_m0 ok, h1, eq_self, reduceCtorEq, true_implies, false_implies, and_true, true_and, not_true_eq_false, not_false_eq_true, e_put (show i < 8 by omega) (show 8 < 2 ^ 31 by omega)]
      refine v_loop (fun fu j (s : vSt) => p_X3_see_67 (p_X3_see_45 K _) K fu s (nI i) (nI j)) (fun j s => a_fr a_sx S s ∧ (∀ c, c < 17 → s.2 60 c = lN (a_win c (a_J m)) ∧ s.2 61 c = lN (a_owe c (a_J m) (a_F m))) ∧ (∀ p d, p < i → d < a_D m → a_cell s m p d) ∧ (∀ p, p < i → s.1 66 p = v_set (a_can m p) (a_D m)) ∧ (∀ d, d < j → a_cell s m i d) ∧ s.1 66 i = v_set (a_can m i) j) (a_D m) (fun fu j s hj hI hk => ?_) (fun fu s hI => ?_) _ ⟨fr_i f rfl, t, I1, fun p hp => ?_, fun d hd => absurd hd (by omega), si_at⟩
      · obtain ⟨f, t, I1, I2, I3, I4⟩ := hI
        have h1 : ¬ nI (a_D m) ≤ nI j := nI_ge hj (by omega)
        have R1 := R_x R f
        simp only [e_X3_see_67, R_1 R1, ok_m1 ok, h1, eq_self, reduceCtorEq, true_implies, false_implies, and_true, true_and, not_true_eq_false, not_false_eq_true]
        refine x_seeCharge ok R1 hi hj t ?_
        simp only [forall_eq, nIs]
        refine hk _ ⟨see1_fr f, fun c hc => ?_, fun p d hp hd => see1_other (by omega) (by omega) (Or.inl (by omega)) (I1 p d hp hd), fun p hp => ?_, fun d hd => ?_, ?_⟩
        · exact t c hc
        · show (a_see1 s m i j).1 66 p = _
          unfold a_see1
          rw [si1, if_neg (fun w => by omega)]
          exact I2 p hp
        · by_cases e : d = j
          · rw [e]; exact see1_cell
          · exact see1_other (by omega) (by omega) (Or.inr e) (I3 d (by omega))
        · unfold a_see1
          rw [si_at, I4]
          rfl
      · obtain ⟨f, t, I1, I2, I3, I4⟩ := hI
        have R1 := R_x R f
        simp only [e_X3_see_67, R_1 R1, ok_m1 ok, Int32.le_refl, eq_self, reduceCtorEq, true_implies, false_implies, and_true, true_and, not_true_eq_false, not_false_eq_true, forall_eq, nIs]
        refine hk _ ⟨f, t, fun p d hp hd => ?_, fun p hp => ?_⟩
        · by_cases e : p = i
          · rw [e]; exact I3 d hd
          · exact I1 p d (by omega) hd
        · by_cases e : p = i
          · rw [e]; exact I4
          · exact I2 p (by omega)
      · rw [si1, if_neg (fun w => by omega)]
        exact I2 p hp
    · obtain ⟨f, t, I1, I2⟩ := hI
      have R1 := R_x R f
      simp only [e_X3_see_45, R_0 R1, ok_m0 ok, Int32.le_refl, eq_self, reduceCtorEq, true_implies, false_implies, and_true, true_and, not_true_eq_false, not_false_eq_true]
      exact h s f ⟨I1, I2⟩
/-! what is asked behind it -/
theorem x_gainOf {S : vSt} {m : Nat → Int32} {p d : Nat} {K : Int64 → vSt → Prop} (ok : a_ok m) (s : a_seen S m) (hp : p < a_P m) (hd : d < a_D m) : p_X3_gainOf S (nI p) (nI d) K = K (lI (a_gain m p d)) S := by
  have h8 := ok_P8 ok
  have h10 := ok_D10 ok
  simp only [p_X3_gainOf, p_X3_cellOf, cellN]
  rw [e_atl (show p * 10 + d < 80 by omega) (by omega), (s.1 p d hp hd).2.2.1]
theorem x_lossOf {S : vSt} {m : Nat → Int32} {p d : Nat} {K : Int64 → vSt → Prop} (ok : a_ok m) (s : a_seen S m) (hp : p < a_P m) (hd : d < a_D m) : p_X3_lossOf S (nI p) (nI d) K = K (lI (a_loss m p d)) S := by
  have h8 := ok_P8 ok
  have h10 := ok_D10 ok
  simp only [p_X3_lossOf, p_X3_cellOf, cellN]
  rw [e_atl (show p * 10 + d < 80 by omega) (by omega), (s.1 p d hp hd).2.2.2]
theorem x_isWithin {S : vSt} {m : Nat → Int32} {p d : Nat} {K : Bool → vSt → Prop} (ok : a_ok m) (s : a_seen S m) (hp : p < a_P m) (hd : d < a_D m) : p_X3_isWithin S (nI p) (nI d) K = K (a_can m p d) S := by
  have h8 := ok_P8 ok
  have h10 := ok_D10 ok
  unfold p_X3_isWithin
  rw [e_at (show p < 8 by omega) (by omega), e_xisIn (show d < 31 by omega), s.2 p hp, set_bit h10 hd]
