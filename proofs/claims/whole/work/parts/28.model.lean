/-! the model's hopes -/
theorem m_laysVotes_in {S : vSt} {c n : Nat} {K : vSt → Int32 → Int32 → Prop} {post : vSt → Prop} {a1 a2 : Int32} (hc : c ≤ 16) (hn : n + 1 < 10) (h0 : a_wr S 151 c n) (h : ∀ S', a_fr (a_ro 151) S S' → a_wr S' 151 c (n + 1) → K S' (nI c) (nI (n + 1))) : ∃ fu, p_X11_laysVotes_58 a1 a2 K post fu S (nI c) (nI n) 9 := by
  have e16 : (16 : Int32) - nI c = nI (16 - c) := pk_sub (a := 16) hc
  have key : p_X11_laysVotes_58 a1 a2 K post (10 + 1) S (nI c) (nI n) (nI 10 - 1) := by
    refine pk_loopD (fun fu e (s : vSt) => p_X11_laysVotes_58 a1 a2 K post fu s (nI c) (nI n) (nI e - 1)) (fun e s => a_fr (a_ro 151) S s ∧ e ≤ 10 ∧ ∀ k, k < 10 → s.2 151 k = lN (if e ≤ k then a_W c (n + 1) k else a_W c n k)) ?_ ?_ 10 S ⟨fr_r, Nat.le_refl _, ?_⟩
    · intro fu s hI
      have h1 : nI 0 - 1 < 0 := by decide
      simp only [e_X11_laysVotes_58, h1, eq_self, reduceCtorEq, true_implies, false_implies, and_true, true_and, not_true_eq_false, not_false_eq_true, forall_eq, nIs]
      exact h s hI.1 (fun k hk => by rw [hI.2.2 k hk, if_pos (Nat.zero_le _)])
    · rintro fu i s ⟨f, hi, hI⟩ hk
      have h1 : ¬ nI i < 0 := nI_pos (by omega)
      have step : ∀ z : Int64, z = lN ((if i = 0 then 0 else a_W c n (i - 1)) * c) → p_X11_laysVotes_103 a1 a2 K (p_X11_laysVotes_58 a1 a2 K post fu) post s (nI c) (nI n) (nI i) z (lN (a_W c n i) * ((16 : Int32) - nI c).toInt64) (nI i) := by
        rintro _ rfl
        unfold p_X11_laysVotes_103
        rw [e16, nI_l (by omega), lN_mul, lN_add]
        simp (disch := omega) only [ia8, ia16, ia24, ia32, ia40, ia48, ia58, ia68, ia78, ia88, ia98, ncl, vpt, c0, c1, c2, c3, c4, c5, c6, c7, k0, k1, k2, k3, k4, k5, k6, k7]
        rintro _ rfl _ rfl
        rw [← Int32.sub_eq_add_neg]
        refine hk _ ⟨fr_l f ro_at, by omega, fun k hk => ?_⟩
        rw [sl2]
        by_cases e : k = i
        · subst e
          rw [if_pos ⟨rfl, rfl⟩, if_pos (Nat.le_refl _)]
          rfl
        · rw [if_neg (fun w => e w.2), hI k hk]
          by_cases q : i ≤ k
          · rw [if_pos q, if_pos (by omega)]
          · rw [if_neg q, if_neg (by omega)]
      simp (disch := omega) only [e_X11_laysVotes_58, nI_pred, h1, eq_self, reduceCtorEq, true_implies, false_implies, and_true, true_and, not_true_eq_false, not_false_eq_true, ia8, ia16, ia24, ia32, ia40, ia48, ia58, ia68, ia78, ia88, ia98, ncl, vpt, c0, c1, c2, c3, c4, c5, c6, c7, k0, k1, k2, k3, k4, k5, k6, k7]
      rw [hI i (by omega), if_neg (by omega)]
      match i, hi, hI, step with
      | 0, hi, hI, step =>
        have q : nI 0 = 0 := rfl
        simp only [q, eq_self, reduceCtorEq, true_implies, false_implies, and_true, true_and, not_true_eq_false, not_false_eq_true]
        exact step 0 (by rw [if_pos rfl, Nat.zero_mul]; rfl)
      | j + 1, hi, hI, step =>
        have q : ¬ nI (j + 1) = 0 := nI_ne0 (by omega) (by omega)
        simp (disch := omega) only [q, eq_self, reduceCtorEq, true_implies, false_implies, and_true, true_and, not_true_eq_false, not_false_eq_true, nI_pred, ia8, ia16, ia24, ia32, ia40, ia48, ia58, ia68, ia78, ia88, ia98, ncl, vpt, c0, c1, c2, c3, c4, c5, c6, c7, k0, k1, k2, k3, k4, k5, k6, k7]
        refine step _ ?_
        rw [hI j (by omega), if_neg (by omega), if_neg (by omega), show j + 1 - 1 = j by omega, nI_l (by omega), lN_mul]
    · intro k hk
      rw [h0 k hk, if_neg (by omega)]
  exact ⟨_, key⟩
theorem m_laysVotes {S : vSt} {m : Nat → Int32} {p d : Nat} {K : vSt → Prop} (ok : a_ok m) (M : a_M S 0 m) (hp : p < a_P m) (hd : d < a_D m) (h : ∀ S', a_fr (a_ro 151) S S' → a_wr S' 151 (a_c m p d) (a_J m) → K S') : p_X11_laysVotes S (nI p) (nI d) K := by
  obtain ⟨eJ, J1, J9⟩ := ok_J1 ok
  have hc := a_c16 m p d
  have Mf : ∀ s, a_fr (a_ro 151) S s → a_M s 0 m := fun s f => M_m M (fr_w f (ro_sm (by omega)))
  unfold p_X11_laysVotes
  rw [m_chanceOf ok M hp hd]
  refine v_loop (fun fu i (s : vSt) => p_X11_laysVotes_10 (nI p) (nI d) K fu s (nI (a_c m p d)) (nI i)) (fun i s => a_fr (a_ro 151) S s ∧ ∀ k, k < i → s.2 151 k = lN (a_W (a_c m p d) 0 k)) 10 (fun fu i s hi hI hk => ?_) (fun fu s hI => ?_) S ⟨fr_r, fun k hk => absurd hk (by omega)⟩
  · have h1 : ¬ 9 < nI i := nI_nlt (a := 9) (b := i) (by omega) (by omega)
    have step : ∀ z : Int64, z = lN (a_W (a_c m p d) 0 i) → p_X11_laysVotes_33 (nI p) (nI d) (p_X11_laysVotes_10 (nI p) (nI d) K fu) K s (nI (a_c m p d)) (nI i) z (nI i) := by
      rintro _ rfl
      unfold p_X11_laysVotes_33
      simp (disch := omega) only [ia8, ia16, ia24, ia32, ia40, ia48, ia58, ia68, ia78, ia88, ia98, ncl, vpt, c0, c1, c2, c3, c4, c5, c6, c7, k0, k1, k2, k3, k4, k5, k6, k7, forall_eq, nIs]
      refine hk _ ⟨fr_l hI.1 ro_at, fun k hk => ?_⟩
      rw [sl2]
      by_cases e : k = i
      · subst e; rw [if_pos ⟨rfl, rfl⟩]
      · rw [if_neg (fun w => e w.2)]; exact hI.2 k (by omega)
    simp only [e_X11_laysVotes_10, h1, eq_self, reduceCtorEq, true_implies, false_implies, and_true, true_and, not_true_eq_false, not_false_eq_true]
    by_cases e : i = 0
    · subst e
      have q : nI 0 = 0 := rfl
      simp only [q, eq_self, reduceCtorEq, true_implies, false_implies, and_true, true_and, not_true_eq_false, not_false_eq_true]
      exact step 1 rfl
    · have q : ¬ nI i = 0 := nI_ne0 (by omega) (by omega)
      simp only [q, eq_self, reduceCtorEq, true_implies, false_implies, and_true, true_and, not_true_eq_false, not_false_eq_true]
      exact step 0 (by show _ = lN (if i = 0 then 1 else 0); rw [if_neg e]; rfl)
  · have h1 : 9 < nI 10 := by decide
    simp only [e_X11_laysVotes_10, h1, eq_self, reduceCtorEq, true_implies, false_implies, and_true, true_and, not_true_eq_false, not_false_eq_true]
    refine v_loop (fun fu i (s : vSt) => p_X11_laysVotes_43 (nI p) (nI d) K fu s (nI (a_c m p d)) (nI i)) (fun i s => a_fr (a_ro 151) S s ∧ a_wr s 151 (a_c m p d) i) (a_J m) (fun fu i s hi hI hk => ?_) (fun fu s hI => ?_) s ⟨hI.1, hI.2⟩
    · have h1 : ¬ nI (a_J m) ≤ nI i := nI_ge hi (by omega)
      simp (disch := omega) only [e_X11_laysVotes_43, ia8, ia16, ia24, ia32, ia40, ia48, ia58, ia68, ia78, ia88, ia98, ncl, vpt, c0, c1, c2, c3, c4, c5, c6, c7, k0, k1, k2, k3, k4, k5, k6, k7, M_0 (Mf _ hI.1), eJ, h1, eq_self, reduceCtorEq, true_implies, false_implies, and_true, true_and, not_true_eq_false, not_false_eq_true]
      exact m_laysVotes_in hc (by omega) hI.2 (fun S' f' w' => hk S' ⟨fr_t hI.1 f', w'⟩)
    · simp (disch := omega) only [e_X11_laysVotes_43, ia8, ia16, ia24, ia32, ia40, ia48, ia58, ia68, ia78, ia88, ia98, ncl, vpt, c0, c1, c2, c3, c4, c5, c6, c7, k0, k1, k2, k3, k4, k5, k6, k7, M_0 (Mf _ hI.1), eJ, Int32.le_refl, eq_self, reduceCtorEq, true_implies, false_implies, and_true, true_and, not_true_eq_false, not_false_eq_true]
      exact h s hI.1 hI.2
theorem m_winning {S : vSt} {m : Nat → Int32} {p d : Nat} {K : Int64 → vSt → Prop} (ok : a_ok m) (M : a_M S 0 m) (hp : p < a_P m) (hd : d < a_D m) (h : ∀ S', a_fr (a_ro 151) S S' → K (lN (a_wn m p d)) S') : p_X11_winning S (nI p) (nI d) K := by
  obtain ⟨eJ, J1, J9⟩ := ok_J1 ok
  unfold p_X11_winning
  refine m_laysVotes ok M hp hd (fun S1 f1 w => ?_)
  have M1 : a_M S1 0 m := M_m M (fr_w f1 (ro_sm (by omega)))
  refine v_loop (fun fu i (z : Int64) => p_X11_winning_11 (nI p) (nI d) K fu S1 z (nI i)) (fun i z => z = lN (a_sum (fun k => if a_J m < 2 * k then a_W (a_c m p d) (a_J m) k else 0) i)) (a_J m + 1) (fun fu i z hi hI hk => ?_) (fun fu z hI => ?_) 0 rfl
  · have h1 : ¬ nI (a_J m) < nI i := nI_nlt (by omega) (by omega)
    subst hI
    simp (disch := omega) only [e_X11_winning_11, ia8, ia16, ia24, ia32, ia40, ia48, ia58, ia68, ia78, ia88, ia98, ncl, vpt, c0, c1, c2, c3, c4, c5, c6, c7, k0, k1, k2, k3, k4, k5, k6, k7, M_0 M1, eJ, h1, eq_self, reduceCtorEq, true_implies, false_implies, and_true, true_and, not_true_eq_false, not_false_eq_true, two_mul, p_X11_winning_47, forall_eq, nIs]
    by_cases q : a_J m < 2 * i
    · have h2 : ¬ nI (2 * i) ≤ nI (a_J m) := nI_ge q (by omega)
      simp (disch := omega) only [h2, eq_self, reduceCtorEq, true_implies, false_implies, and_true, true_and, not_true_eq_false, not_false_eq_true, ia8, ia16, ia24, ia32, ia40, ia48, ia58, ia68, ia78, ia88, ia98, ncl, vpt, c0, c1, c2, c3, c4, c5, c6, c7, k0, k1, k2, k3, k4, k5, k6, k7, w i (by omega), lN_add]
      exact hk _ (by simp only [a_sum, if_pos q])
    · have h2 : nI (2 * i) ≤ nI (a_J m) := nI_le (by omega) (by omega)
      simp only [h2, eq_self, reduceCtorEq, true_implies, false_implies, and_true, true_and, not_true_eq_false, not_false_eq_true]
      refine hk _ ?_
      simp only [a_sum, if_neg q, Nat.add_zero, Int64.add_zero]
  · have h1 : nI (a_J m) < nI (a_J m + 1) := nI_lt (by omega) (by omega)
    subst hI
    simp (disch := omega) only [e_X11_winning_11, ia8, ia16, ia24, ia32, ia40, ia48, ia58, ia68, ia78, ia88, ia98, ncl, vpt, c0, c1, c2, c3, c4, c5, c6, c7, k0, k1, k2, k3, k4, k5, k6, k7, M_0 M1, eJ, h1, eq_self, reduceCtorEq, true_implies, false_implies, and_true, true_and, not_true_eq_false, not_false_eq_true]
    exact h S1 f1
theorem m_owing {S : vSt} {m : Nat → Int32} {p d : Nat} {K : Int64 → vSt → Prop} (ok : a_ok m) (M : a_M S 0 m) (hp : p < a_P m) (hd : d < a_D m) (h : ∀ S', a_fr (a_ro 151) S S' → K (lN (a_ow m p d)) S') : p_X11_owing S (nI p) (nI d) K := by
  obtain ⟨eJ, J1, J9⟩ := ok_J1 ok
  obtain ⟨eF, F9⟩ := ok_F1 ok
  unfold p_X11_owing
  refine m_laysVotes ok M hp hd (fun S1 f1 w => ?_)
  have M1 : a_M S1 0 m := M_m M (fr_w f1 (ro_sm (by omega)))
  refine v_loop (fun fu i (z : Int64) => p_X11_owing_11 (nI p) (nI d) K fu S1 z (nI i)) (fun i z => z = lN (a_sum (fun k => if 2 * k ≤ a_J m ∧ k < a_F m then a_W (a_c m p d) (a_J m) k else 0) i)) (a_J m + 1) (fun fu i z hi hI hk => ?_) (fun fu z hI => ?_) 0 rfl
  · have h1 : ¬ nI (a_J m) < nI i := nI_nlt (by omega) (by omega)
    subst hI
    simp (disch := omega) only [e_X11_owing_11, ia8, ia16, ia24, ia32, ia40, ia48, ia58, ia68, ia78, ia88, ia98, ncl, vpt, c0, c1, c2, c3, c4, c5, c6, c7, k0, k1, k2, k3, k4, k5, k6, k7, M_0 M1, eJ, eF, h1, eq_self, reduceCtorEq, true_implies, false_implies, and_true, true_and, not_true_eq_false, not_false_eq_true, two_mul, p_X11_owing_57, p_X11_owing_58, forall_eq, nIs]
    by_cases q : a_J m < 2 * i
    · have h2 : nI (a_J m) < nI (2 * i) := nI_lt q (by omega)
      simp only [h2, eq_self, reduceCtorEq, true_implies, false_implies, and_true, true_and, not_true_eq_false, not_false_eq_true]
      refine hk _ ?_
      simp only [a_sum]
      rw [if_neg (by omega), Nat.add_zero, Int64.add_zero]
    · have h2 : ¬ nI (a_J m) < nI (2 * i) := nI_nlt (by omega) (by omega)
      simp only [h2, eq_self, reduceCtorEq, true_implies, false_implies, and_true, true_and, not_true_eq_false, not_false_eq_true]
      by_cases q2 : a_F m ≤ i
      · have h3 : nI (a_F m) ≤ nI i := nI_le q2 (by omega)
        simp only [h3, eq_self, reduceCtorEq, true_implies, false_implies, and_true, true_and, not_true_eq_false, not_false_eq_true]
        refine hk _ ?_
        simp only [a_sum]
        rw [if_neg (by omega), Nat.add_zero, Int64.add_zero]
      · have h3 : ¬ nI (a_F m) ≤ nI i := nI_ge (by omega) (by omega)
        simp (disch := omega) only [h3, eq_self, reduceCtorEq, true_implies, false_implies, and_true, true_and, not_true_eq_false, not_false_eq_true, ia8, ia16, ia24, ia32, ia40, ia48, ia58, ia68, ia78, ia88, ia98, ncl, vpt, c0, c1, c2, c3, c4, c5, c6, c7, k0, k1, k2, k3, k4, k5, k6, k7, w i (by omega), lN_add]
        refine hk _ ?_
        simp only [a_sum]
        rw [if_pos ⟨by omega, by omega⟩]
  · have h1 : nI (a_J m) < nI (a_J m + 1) := nI_lt (by omega) (by omega)
    subst hI
    simp (disch := omega) only [e_X11_owing_11, ia8, ia16, ia24, ia32, ia40, ia48, ia58, ia68, ia78, ia88, ia98, ncl, vpt, c0, c1, c2, c3, c4, c5, c6, c7, k0, k1, k2, k3, k4, k5, k6, k7, M_0 M1, eJ, h1, eq_self, reduceCtorEq, true_implies, false_implies, and_true, true_and, not_true_eq_false, not_false_eq_true]
    exact h S1 f1
theorem m_part {S : vSt} {m : Nat → Int32} {d : Nat} {K : Int32 → vSt → Prop} (ok : a_ok m) (M : a_M S 0 m) (hd : d < a_D m) : p_X11_part S (nI d) K = K (nI (a_part m d)) S := by
  have h10 := ok_D10 ok
  unfold p_X11_part
  simp (disch := omega) only [ia8, ia16, ia24, ia32, ia40, ia48, ia58, ia68, ia78, ia88, ia98, ncl, vpt, c0, c1, c2, c3, c4, c5, c6, c7, k0, k1, k2, k3, k4, k5, k6, k7, M_0 M, x_part ok hd]
theorem m_gainOf {S : vSt} {m : Nat → Int32} {p d : Nat} {K : Int64 → vSt → Prop} (ok : a_ok m) (M : a_M S 0 m) (hp : p < a_P m) (hd : d < a_D m) (h : ∀ S', a_fr (a_ro 151) S S' → K (lI (a_gain m p d)) S') : p_X11_gainOf S (nI p) (nI d) K := by
  unfold p_X11_gainOf
  refine m_winning ok M hp hd (fun S1 f1 => ?_)
  have M1 : a_M S1 0 m := M_m M (fr_w f1 (ro_sm (by omega)))
  rw [m_part ok M1 hd]
  refine m_owing ok M1 hp hd (fun S2 f2 => ?_)
  have M2 : a_M S2 0 m := M_m M1 (fr_w f2 (ro_sm (by omega)))
  simp (disch := omega) only [ia8, ia16, ia24, ia32, ia40, ia48, ia58, ia68, ia78, ia88, ia98, ncl, vpt, c0, c1, c2, c3, c4, c5, c6, c7, k0, k1, k2, k3, k4, k5, k6, k7, M_0 M2]
  rw [gain_64 ok hd]
  exact h S2 (fr_t f1 f2)
theorem m_lossOf {S : vSt} {m : Nat → Int32} {p d : Nat} {K : Int64 → vSt → Prop} (ok : a_ok m) (M : a_M S 0 m) (hp : p < a_P m) (hd : d < a_D m) (h : ∀ S', a_fr (a_ro 151) S S' → K (lI (a_loss m p d)) S') : p_X11_lossOf S (nI p) (nI d) K := by
  have h10 := ok_D10 ok
  unfold p_X11_lossOf
  refine m_winning ok M hp hd (fun S1 f1 => ?_)
  have M1 : a_M S1 0 m := M_m M (fr_w f1 (ro_sm (by omega)))
  simp (disch := omega) only [ia8, ia16, ia24, ia32, ia40, ia48, ia58, ia68, ia78, ia88, ia98, ncl, vpt, c0, c1, c2, c3, c4, c5, c6, c7, k0, k1, k2, k3, k4, k5, k6, k7, M_0 M1]
  rw [loss_64 ok hd]
  exact h S1 f1
theorem m_allVotes {S : vSt} {m : Nat → Int32} {K : Int64 → vSt → Prop} (ok : a_ok m) (M : a_M S 0 m) (h : K (lN (a_all m)) S) : p_X11_allVotes S K := by
  obtain ⟨eJ, J1, J9⟩ := ok_J1 ok
  unfold p_X11_allVotes
  refine v_loop (fun fu i (z : Int64) => p_X11_allVotes_4 K fu S z (nI i)) (fun i z => z = lN (16 ^ i)) (a_J m) (fun fu i z hi hI hk => ?_) (fun fu z hI => ?_) 1 rfl
  · have h1 : ¬ nI (a_J m) ≤ nI i := nI_ge hi (by omega)
    subst hI
    simp (disch := omega) only [e_X11_allVotes_4, ia8, ia16, ia24, ia32, ia40, ia48, ia58, ia68, ia78, ia88, ia98, ncl, vpt, c0, c1, c2, c3, c4, c5, c6, c7, k0, k1, k2, k3, k4, k5, k6, k7, M_0 M, eJ, h1, eq_self, reduceCtorEq, true_implies, false_implies, and_true, true_and, not_true_eq_false, not_false_eq_true, forall_eq, nIs]
    refine hk _ ?_
    rw [show (16 : Int64) = lN 16 from rfl, lN_mul, Nat.pow_succ]
  · subst hI
    simp (disch := omega) only [e_X11_allVotes_4, ia8, ia16, ia24, ia32, ia40, ia48, ia58, ia68, ia78, ia88, ia98, ncl, vpt, c0, c1, c2, c3, c4, c5, c6, c7, k0, k1, k2, k3, k4, k5, k6, k7, M_0 M, eJ, Int32.le_refl, eq_self, reduceCtorEq, true_implies, false_implies, and_true, true_and, not_true_eq_false, not_false_eq_true]
    exact h
/-! fractions -/
def a_frac (z : Int) (u : Nat) : Option (Int64 × Int64) := some (lI z / lN (Nat.gcd z.natAbs u), lN u / lN (Nat.gcd z.natAbs u))
theorem gcd_half {x y j : Nat} (h : x * y < 2 ^ (j + 1)) (hy : 0 < y) (hyx : y ≤ x) : y * (x % y) < 2 ^ j := by
  have h1 : x % y < y := Nat.mod_lt _ hy
  have h2 : x % y + y ≤ x := by
    have := Nat.div_add_mod x y
    have q : 1 ≤ x / y := (Nat.le_div_iff_mul_le hy).mpr (by omega)
    have : y * 1 ≤ y * (x / y) := Nat.mul_le_mul_left _ q
    omega
  have h3 : 2 * (x % y) ≤ x := by omega
  have h4 : y * (2 * (x % y)) ≤ y * x := Nat.mul_le_mul_left _ h3
  rw [Nat.pow_succ] at h
  rw [Nat.mul_comm x y] at h
  have h5 : y * (2 * (x % y)) = 2 * (y * (x % y)) := by rw [Nat.mul_left_comm]
  omega
theorem x_gcd_go {S : vSt} {a b : Int64} {K : Int64 → vSt → Prop} : ∀ (j x y i : Nat), x < 2 ^ 63 → y < 2 ^ 63 → x * y < 2 ^ j → y ≤ x → i + j < 200 → K (lN (Nat.gcd x y)) S → p_X10_commonDivisor_9 a b K (j + 1) S (lN x) (lN y) (nI i)
  | j, x, y, i, hx, hy, hp, hyx, hi, h => by
    have h1 : ¬ 200 ≤ nI i := nI_ge (b := 200) (by omega) (by omega)
    simp only [e_X10_commonDivisor_9, h1, eq_self, reduceCtorEq, true_implies, false_implies, and_true, true_and, not_true_eq_false, not_false_eq_true]
    by_cases c : y = 0
    · subst c
      have e : lN 0 = 0 := rfl
      rw [Nat.gcd_zero_right] at h
      simp only [e, eq_self, reduceCtorEq, true_implies, false_implies, and_true, true_and, not_true_eq_false, not_false_eq_true]
      exact h
    · have e : ¬ lN y = 0 := fun w => c ((pk_lEQ (b := 0) hy (by omega)).mp w)
      simp only [e, eq_self, reduceCtorEq, true_implies, false_implies, and_true, true_and, not_true_eq_false, not_false_eq_true, pk_lRem hx (by omega) hy, forall_eq, nIs]
      match j, hp, hi with
      | 0, hp, hi =>
        exfalso
        have : x * y = 0 := by omega
        rcases Nat.mul_eq_zero.mp this with q | q <;> omega
      | j + 1, hp, hi =>
        have hm : x % y < y := Nat.mod_lt _ (by omega)
        refine x_gcd_go j y (x % y) (i + 1) hy (by omega) (gcd_half hp (by omega) hyx) (by omega) (by omega) ?_
        rw [Nat.gcd_comm x y, Nat.gcd_rec] at h
        rw [Nat.gcd_comm]
        exact h
theorem x_gcd {S : vSt} {x u : Nat} {K : Int64 → vSt → Prop} (hx : x < 2 ^ 63) (h0 : 0 < u) (hu : u < 2 ^ 40) (h : K (lN (Nat.gcd x u)) S) : p_X10_commonDivisor S (lN x) (lN u) K := by
  unfold p_X10_commonDivisor
  have hm : x % u < u := Nat.mod_lt _ h0
  have key : p_X10_commonDivisor_9 (lN x) (lN u) K (80 + 1) S (lN u) (lN (x % u)) (nI 1) := by
    refine x_gcd_go 80 u (x % u) 1 (by omega) (by omega) ?_ (by omega) (by omega) ?_
    · have q1 : u * (x % u) ≤ u * u := Nat.mul_le_mul_left _ (by omega)
      have q2 : u * u ≤ 2 ^ 40 * u := Nat.mul_le_mul_right _ (by omega)
      have q3 : 2 ^ 40 * u < 2 ^ 40 * 2 ^ 40 := Nat.mul_lt_mul_of_pos_left hu (by omega)
      have q4 : (2 : Nat) ^ 40 * 2 ^ 40 = 2 ^ 80 := by decide
      omega
    · rw [Nat.gcd_comm x u, Nat.gcd_rec] at h
      rw [Nat.gcd_comm]
      exact h
  generalize 80 + 1 = n at key
  refine ⟨n + 1, ?_⟩
  have h1 : ¬ (200 : Int32) ≤ 0 := by decide
  have e : ¬ lN u = 0 := fun w => (by omega : u ≠ 0) ((pk_lEQ (b := 0) (by omega) (by omega)).mp w)
  simp only [e_X10_commonDivisor_9, h1, eq_self, reduceCtorEq, true_implies, false_implies, and_true, true_and, not_true_eq_false, not_false_eq_true, e, pk_lRem hx h0 (show u < 2 ^ 63 by omega), forall_eq]
  exact key
theorem gcd_ok {z : Int} {u : Nat} (hz : a_fit z) (h0 : 0 < u) (hu : u < 2 ^ 40) : 0 < Nat.gcd z.natAbs u ∧ Nat.gcd z.natAbs u < 2 ^ 63 := by
  have h1 : Nat.gcd z.natAbs u ≤ u := Nat.le_of_dvd h0 (Nat.gcd_dvd_right _ _)
  exact ⟨Nat.gcd_pos_of_pos_right _ h0, by omega⟩
theorem x_tell {S S1 : vSt} {z : Int} {u : Nat} {K : Bool → vSt → Prop} (f : a_fr a_sx S S1) (hz : a_fit z) (h0 : 0 < u) (hu : u < 2 ^ 40) (h : a_XK S K (true, 0, a_frac z u)) : p_X10_tell S1 (lI z) (lN u) K := by
  obtain ⟨g0, g1⟩ := gcd_ok hz h0 hu
  unfold p_X10_tell p_X10_tell_33
  rw [lI_abs hz, ← lI_N]
  refine x_gcd (by unfold a_fit at hz; omega) h0 hu ?_
  have n0 : ¬ lN (Nat.gcd z.natAbs u) ≤ 0 := by
    rw [show (0 : Int64) = lN 0 from rfl, pk_lLE g1 (by omega)]
    omega
  have n1 : ¬ lN (Nat.gcd z.natAbs u) = 0 := fun w => by
    have := (pk_lEQ (b := 0) g1 (by omega)).mp w
    omega
  simp only [n0, n1, eq_self, reduceCtorEq, true_implies, false_implies, and_true, true_and, not_true_eq_false, not_false_eq_true, forall_eq, e_settled]
  refine h _ (fr_i (fr_l (fr_l (fr_w f sx_w) rfl) rfl) rfl) si_at ?_ ?_
  · simp [si2, sl2, a_frac, a_ft]
  · simp [si2, sl2, a_frac, a_fb]
theorem m_gcd {S : vSt} {a b : Int64} {K : Bool → vSt → Prop} (g : Nat) (hg : 0 < g ∧ g < 2 ^ 63) (h : K true (v_sl (v_sl S 143 2 (a / lN g)) 143 3 (b / lN g))) : ∀ (y x : Nat), x < 2 ^ 63 → y < 2 ^ 63 → Nat.gcd x y = g → ∃ fu, p_X11_fraction_9 a b K fu S (lN x) (lN y) := by
  intro y
  induction y using Nat.strongRecOn with
  | _ y ih =>
    intro x hx hy e
    by_cases c : y = 0
    · subst c
      rw [Nat.gcd_zero_right] at e
      subst e
      refine ⟨1, ?_⟩
      have e0 : lN 0 = 0 := rfl
      have n1 : ¬ lN x = 0 := fun w => by
        have := (pk_lEQ (b := 0) hg.2 (by omega)).mp w
        omega
      simp only [e_X11_fraction_9, e0, n1, eq_self, reduceCtorEq, true_implies, false_implies, and_true, true_and, not_true_eq_false, not_false_eq_true, forall_eq]
      exact h
    · have hm : x % y < y := Nat.mod_lt _ (by omega)
      obtain ⟨fu, w⟩ := ih (x % y) hm y hy (by omega) (by rw [← e, Nat.gcd_comm x y, Nat.gcd_rec y x, Nat.gcd_comm])
      refine ⟨fu + 1, ?_⟩
      have n1 : ¬ lN y = 0 := fun w => c ((pk_lEQ (b := 0) hy (by omega)).mp w)
      simp only [e_X11_fraction_9, n1, eq_self, reduceCtorEq, true_implies, false_implies, and_true, true_and, not_true_eq_false, not_false_eq_true, pk_lRem hx (by omega) hy, forall_eq]
      exact w
theorem m_fraction {S S1 : vSt} {z : Int} {u : Nat} {st : Int32} {K : Bool → vSt → Prop} (g : a_g S S1 st) (hz : a_fit z) (h0 : 0 < u) (hu : u < 2 ^ 40) (h : a_MK S K (true, st, a_frac z u)) : p_X11_fraction S1 (lI z) (lN u) K := by
  unfold p_X11_fraction
  rintro _ rfl
  rw [lI_abs hz, ← lI_N]
  refine m_gcd _ (gcd_ok hz h0 hu) ?_ u z.natAbs (by unfold a_fit at hz; omega) (by omega) rfl
  refine h _ (fr_l (fr_l g.1 rfl) rfl) g.2.1 ?_ ?_
  · simp [sl2, a_frac, a_ft]
  · simp [sl2, a_frac, a_fb]
theorem m_wrap {S : vSt} {K : Bool → vSt → Prop} {st : Int32} {q : Option (Int64 × Int64)} (h : a_MK S K (true, st, q)) : a_MK S (fun r S' => (r = false → K false S') ∧ (r = true → K true S')) (true, st, q) := fun S' a b c d => ⟨fun e => Bool.noConfusion e, fun _ => h S' a b c d⟩
