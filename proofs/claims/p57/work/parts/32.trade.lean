/-! quiet, gladBy -/
def a_gs (m : Nat → Int32) (sh pe : Nat) : Int32 := v_set (fun d => a_gl m d (a_f m d * sh / 16) pe) (a_D m)
theorem x_gladSet {S : vSt} {m : Nat → Int32} {sh pe : Nat} {K : Int32 → vSt → Prop} (ok : a_ok m) (R : a_R S 10 m) (s : a_seen S m) (h1 : sh ≤ 16) (h2 : pe ≤ 999) (h : K (a_gs m sh pe) S) : p_X3_gladSet S (nI sh) (nI pe) K := by
  have h10 := ok_D10 ok
  unfold p_X3_gladSet
  refine v_loop (fun fu i (z : Int32) => p_X3_gladSet_5 (nI sh) (nI pe) K fu S z (nI i)) (fun i z => z = v_set (fun d => a_gl m d (a_f m d * sh / 16) pe) i) (a_D m) (fun fu i z hi hI hk => ?_) (fun fu z hI => ?_) 0 rfl
  · subst hI
    have g1 : ¬ nI (a_D m) ≤ nI i := nI_ge hi (by omega)
    obtain ⟨ef, f1, f9⟩ := ok_f1 ok hi
    obtain ⟨e1, e2⟩ := part_n (a := a_f m i) (b := sh) f9 h1
    simp only [e_X3_gladSet_5, R_1 R, ok_m1 ok, g1, eq_self, reduceCtorEq, true_implies, false_implies, and_true, true_and, not_true_eq_false, not_false_eq_true, e_at (show i < 10 by omega) (show 10 < 2 ^ 31 by omega), R_58 (b := 10) R hi h10, ef, p_X0_partOf, e1]
    refine x_isAnyGlad ok R s hi e2 h2 ?_
    unfold p_X3_gladSet_50
    cases c : a_gl m i (a_f m i * sh / 16) pe
    · simp only [eq_self, reduceCtorEq, true_implies, false_implies, and_true, true_and, not_true_eq_false, not_false_eq_true, forall_eq, nIs]
      refine hk _ ?_
      show _ = v_set (fun d => a_gl m d (a_f m d * sh / 16) pe) i ||| (if a_gl m i (a_f m i * sh / 16) pe = true then 1 <<< (nI i &&& 31) else 0)
      rw [c]
      simp only [Bool.false_eq_true, if_false, Int32.or_zero]
    · simp only [eq_self, reduceCtorEq, true_implies, false_implies, and_true, true_and, not_true_eq_false, not_false_eq_true, forall_eq, nIs]
      refine hk _ ?_
      show _ = v_set (fun d => a_gl m d (a_f m d * sh / 16) pe) i ||| (if a_gl m i (a_f m i * sh / 16) pe = true then 1 <<< (nI i &&& 31) else 0)
      rw [c]
      simp only [if_true]
  · subst hI
    simp only [e_X3_gladSet_5, R_1 R, ok_m1 ok, Int32.le_refl, eq_self, reduceCtorEq, true_implies, false_implies, and_true, true_and, not_true_eq_false, not_false_eq_true]
    exact h
def o_quiet (m : Nat → Int32) : Int32 × Int32 × Option (Int64 × Int64) := (v_set (fun d => decide (m (78 + d) = 0) && !decide (a_dread m d ≠ 0)) (a_D m), 0, none)
theorem x_quiet {S : vSt} {m : Nat → Int32} {K : Int32 → vSt → Prop} (ok : a_ok m) (R : a_R S 10 m) (h : a_XK S K (o_quiet m)) : p_X10_quiet S K := by
  have h10 := ok_D10 ok
  unfold p_X10_quiet p_X0_openDeeds p_X10_seen
  rw [x_deedsThat ok R]
  refine x_see ok R (fun S1 f1 s1 => ?_)
  have R1 := R_x R f1
  simp only [x_rule3 R1, x_rule2 R1, (ok_H1 ok).1, (ok_L1 ok).1]
  refine x_gladSet ok R1 s1 (ok_H1 ok).2 (ok_L1 ok).2 ?_
  have e : a_gs m (a_H m) (a_L m) = v_set (fun d => decide (a_dread m d ≠ 0)) (a_D m) := v_set_congr (fun d hd => gl_dread ok hd)
  rw [e, set_minus _ _ (by omega)]
  exact x_told f1 h
def o_gladBy (m : Nat → Int32) (x y : Int32) : Int32 × Int32 × Option (Int64 × Int64) := if a_in 0 16 x = true then (if a_in 0 999 y = true then (a_gs m (a_n x) (a_n y), 0, none) else (-1, 5, none)) else (-1, 5, none)
theorem x_gladBy {S : vSt} {m : Nat → Int32} {x y : Int32} {K : Int32 → vSt → Prop} (ok : a_ok m) (R : a_R S 10 m) (h : a_XK S K (o_gladBy m x y)) : p_X10_gladBy S x y K := by
  simp only [p_X10_gladBy, p_X10_gladBy_21, p_X10_seen]
  unfold o_gladBy at h
  rw [gd2 (x := y) (lo := 0) (hi := 999), gd3 (x := x) (lo := 0) (hi := 16)]
  by_cases g : a_in 0 16 x = true
  · obtain ⟨k, hk, rfl, e⟩ := a_in_t (n := 16) rfl (by omega) g
    rw [if_pos g, e] at h
    rw [if_pos g]
    by_cases g2 : a_in 0 999 y = true
    · obtain ⟨kq, hkq, rfl, e2⟩ := a_in_t (n := 999) rfl (by omega) g2
      rw [if_pos g2, e2] at h
      rw [if_pos g2]
      refine x_see ok R (fun S1 f1 s1 => ?_)
      refine x_gladSet ok (R_x R f1) s1 hk hkq ?_
      exact x_told f1 h
    · rw [if_neg g2] at h ⊢
      exact x_refused fr_r h
  · rw [if_neg g] at h ⊢
    exact x_refused fr_r h
theorem backq {S S1 : vSt} {x y : Int32} (f : a_fr (a_ro 151) (v_si (v_si S 148 5 x) 148 4 y) S1) : a_fr (a_ro 151) S (v_si (v_si S1 148 5 (S.1 148 5)) 148 4 (S.1 148 4)) := by
  intro k j q
  have h := f k j q
  refine ⟨?_, h.2⟩
  rw [si1, si1]
  by_cases e4 : k = 148 ∧ j = 4
  · rw [if_pos e4, e4.1, e4.2]
  · rw [if_neg e4]
    by_cases e5 : k = 148 ∧ j = 5
    · rw [if_pos e5, e5.1, e5.2]
    · rw [if_neg e5, h.1, si1, if_neg e4, si1, if_neg e5]
/-! trade -/
def a_gn (m : Nat → Int32) (p d : Nat) : Nat := (max 0 (a_gain m p d)).toNat
def a_lo (m : Nat → Int32) (p d : Nat) : Nat := (a_gn m p d + a_all m - 1) / a_all m
def a_hi (m : Nat → Int32) (p d : Nat) : Nat := a_loss m p d / a_all m
def o_trade (m : Nat → Int32) (x y z : Int32) : Int32 × Int32 × Option (Int64 × Int64) := if (a_one m x && a_two m y) = true then (if a_in 0 1 z = true then (if a_can m (a_n x) (a_n y) = true then (if a_lo m (a_n x) (a_n y) ≤ a_hi m (a_n x) (a_n y) then (nI (if z = 0 then a_lo m (a_n x) (a_n y) else a_hi m (a_n x) (a_n y)), 0, none) else (-1, 8, none)) else (-1, 9, none)) else (-1, 5, none)) else (-1, 2, none)
theorem gn_eq {m : Nat → Int32} {p d : Nat} (ok : a_ok m) (hd : d < a_D m) : v_maxl 0 (lI (a_gain m p d)) = lN (a_gn m p d) := by
  rw [lI_0, lI_max fit_0 (fit_gain ok hd), lI_N]
  congr 1
  unfold a_gn
  omega
theorem gn_le {m : Nat → Int32} {p d : Nat} (ok : a_ok m) (hd : d < a_D m) : a_gn m p d ≤ a_all m * 999 := by
  have h1 := gain_le (p := p) ok hd
  have h2 := loss_le (p := p) ok hd
  unfold a_gn
  omega
theorem lo_le {m : Nat → Int32} {p d : Nat} (ok : a_ok m) (hd : d < a_D m) : a_lo m p d ≤ 1000 := by
  have h1 := gn_le (p := p) ok hd
  have h2 := all_pos m
  unfold a_lo
  refine Nat.le_of_lt_succ ((Nat.div_lt_iff_lt_mul h2).mpr ?_)
  have : (1000 + 1) * a_all m = a_all m * 999 + 2 * a_all m := by omega
  omega
theorem hi_le {m : Nat → Int32} {p d : Nat} (ok : a_ok m) (hd : d < a_D m) : a_hi m p d ≤ 1000 := by
  have h1 := loss_le (p := p) ok hd
  have h2 := all_pos m
  unfold a_hi
  refine Nat.le_of_lt_succ ((Nat.div_lt_iff_lt_mul h2).mpr ?_)
  have : (1000 + 1) * a_all m = a_all m * 999 + 2 * a_all m := by omega
  omega
theorem sh_J : ∀ J, J < 10 → (((Int32.toInt64 ((4 : Int32) * nI J)) &&& 63).toBitVec.smod 64).toNat = 4 * J := by decide +kernel
theorem sh_div {m : Nat → Int32} {a : Nat} (ok : a_ok m) (ha : a < 2 ^ 62) : lN a >>> ((Int32.toInt64 ((4 : Int32) * m 2)) &&& 63) = lN (a / a_all m) := by
  obtain ⟨eJ, -, J9⟩ := ok_J1 ok
  rw [eJ, pf_shr (sh_J (a_J m) (by omega)) ha, Nat.pow_mul]
  rfl
theorem x_fewestCoins {S : vSt} {m : Nat → Int32} {p d : Nat} {K : Int32 → vSt → Prop} (ok : a_ok m) (R : a_R S 10 m) (s : a_seen S m) (hp : p < a_P m) (hd : d < a_D m) (h : K (nI (a_lo m p d)) S) : p_X3_fewestCoins S (nI p) (nI d) K := by
  have h1 := gn_le (p := p) ok hd
  have h2 := all_pos m
  have h3 := all_le ok
  unfold p_X3_fewestCoins
  rw [x_gainOf ok s hp hd]
  rintro _ rfl
  rw [x_whole ok R, x_rule0 R, gn_eq ok hd, lN_add, show (1 : Int64) = lN 1 from rfl, lN_sub (by omega), sh_div ok (by omega), lN_i]
  exact h
theorem x_mostCoins {S : vSt} {m : Nat → Int32} {p d : Nat} {K : Int32 → vSt → Prop} (ok : a_ok m) (R : a_R S 10 m) (s : a_seen S m) (hp : p < a_P m) (hd : d < a_D m) (h : K (nI (a_hi m p d)) S) : p_X3_mostCoins S (nI p) (nI d) K := by
  have h1 := loss_le (p := p) ok hd
  have h3 := all_le ok
  unfold p_X3_mostCoins
  rw [x_lossOf ok s hp hd, x_rule0 R, ← lI_N, sh_div ok (by omega), lN_i]
  exact h
theorem x_trade {S : vSt} {m : Nat → Int32} {x y z : Int32} {K : Int32 → vSt → Prop} (ok : a_ok m) (R : a_R S 10 m) (h : a_XK S K (o_trade m x y z)) : p_X10_trade S x y z K := by
  unfold p_X10_trade p_X10_trade_24 p_X10_trade_97 p_X10_seen
  rw [e_areThere R]
  unfold o_trade at h
  by_cases g : (a_one m x && a_two m y) = true
  · obtain ⟨p, d, hp, hd, rfl, rfl, e1, e2⟩ := a_both_t ok g
    rw [if_pos g, e1, e2] at h
    rw [g]
    simp only [eq_self, reduceCtorEq, true_implies, false_implies, and_true, true_and, not_true_eq_false, not_false_eq_true]
    rw [gd2]
    by_cases g2 : a_in 0 1 z = true
    · rw [if_pos g2] at h ⊢
      rw [x_mayCharge ok R hp hd]
      cases c : a_can m p d
      · rw [c] at h
        simp only [eq_self, reduceCtorEq, true_implies, false_implies, and_true, true_and, not_true_eq_false, not_false_eq_true]
        exact x_refused fr_r h
      · rw [c, if_pos rfl] at h
        simp only [eq_self, reduceCtorEq, true_implies, false_implies, and_true, true_and, not_true_eq_false, not_false_eq_true]
        refine x_see ok R (fun S1 f1 s1 => ?_)
        have R1 := R_x R f1
        refine x_fewestCoins ok R1 s1 hp hd ?_
        refine x_mostCoins ok R1 s1 hp hd ?_
        have b1 := lo_le (p := p) ok hd
        have b2 := hi_le (p := p) ok hd
        by_cases q : a_lo m p d ≤ a_hi m p d
        · rw [if_pos q] at h
          have q2 : nI (a_lo m p d) ≤ nI (a_hi m p d) := nI_le q (by omega)
          simp only [q2, eq_self, reduceCtorEq, true_implies, false_implies, and_true, true_and, not_true_eq_false, not_false_eq_true]
          by_cases c2 : z = 0
          · rw [if_pos c2] at h
            simp only [c2, eq_self, reduceCtorEq, true_implies, false_implies, and_true, true_and, not_true_eq_false, not_false_eq_true]
            exact x_told f1 h
          · rw [if_neg c2] at h
            simp only [c2, eq_self, reduceCtorEq, true_implies, false_implies, and_true, true_and, not_true_eq_false, not_false_eq_true]
            exact x_told f1 h
        · rw [if_neg q] at h
          have q2 : ¬ nI (a_lo m p d) ≤ nI (a_hi m p d) := nI_ge (by omega) (by omega)
          simp only [q2, eq_self, reduceCtorEq, true_implies, false_implies, and_true, true_and, not_true_eq_false, not_false_eq_true]
          exact x_refused f1 h
    · rw [if_neg g2] at h ⊢
      exact x_refused fr_r h
  · rw [if_neg g] at h
    rw [Bool.not_eq_true] at g
    rw [g]
    simp only [eq_self, reduceCtorEq, true_implies, false_implies, and_true, true_and, not_true_eq_false, not_false_eq_true]
    exact x_refused fr_r h