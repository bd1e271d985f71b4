/-! pour -/
def a_cpl (f : Nat → Int64) (i j n : Nat) : Nat → Int64 := fun q => if j ≤ q ∧ q < j + n then f (i + (q - j)) else f q
/-- a run of numbers is within a tray -/
def a_run (T : aT) (t : Nat) (y z : Int32) : Bool := decide (¬ y < 0 ∧ ¬ z < 0 ∧ a_n y + a_n z ≤ a_n (T.2.1 t))
def o_pour (T : aT) (x1 x2 x3 x4 x5 : Int32) : Int32 × aT :=
  if a_in 0 3 x1 = true ∧ a_in 0 3 x3 = true then
    (if T.2.1 (a_n x1) = -1 ∨ T.2.1 (a_n x3) = -1 then (3, T)
     else if T.1 (a_n x1) = T.1 (a_n x3) then
       (if 0 ≤ x5 then
          (if a_run T (a_n x1) x2 x5 = true ∧ a_run T (a_n x3) x4 x5 = true then (0, (T.1, T.2.1, a_cpl T.2.2 (60 * a_n x1 + a_n x2) (60 * a_n x3 + a_n x4) (a_n x5))) else (4, T))
        else (6, T))
     else (11, T))
  else (1, T)
theorem nn_i {y : Int32} (h : ¬ y < 0) : ∃ i, i < 2 ^ 31 ∧ y = nI i ∧ a_n y = i := by
  have h0 : 0 ≤ y.toInt := by
    have := Int32.not_lt.mp h
    rw [Int32.le_iff_toInt_le] at this
    exact this
  have h1 := Int32.toInt_lt y
  refine ⟨y.toInt.toNat, by omega, ?_, ?_⟩
  · apply Int32.toInt_inj.mp
    rw [nI_toInt (by omega)]
    omega
  · have e : y = nI y.toInt.toNat := by
      apply Int32.toInt_inj.mp
      rw [nI_toInt (by omega)]
      omega
    have q := congrArg a_n e
    rw [a_n_nI (by omega)] at q
    exact q
theorem x_hasRun {S : vSt} {T : aT} {t n : Nat} {y z : Int32} {K : Bool → vSt → Prop} (h0 : a_TX S T) (ht : t < 4) (hn : n ≤ 60) (e : T.2.1 t = nI n) (h : K (a_run T t y z) S) : p_X7_hasRun S (nI t) y z K := by
  have e4 : S.1 4 t = nI n := (h0.1 t ht).2.trans e
  have i3 : a_in 0 3 (nI t) = true := decide_eq_true ⟨nI_le (a := 0) (by omega) (by omega), nI_le (b := 3) (by omega) (by omega)⟩
  unfold p_X7_hasRun
  rw [e_at ht (by omega), e4, e_isTray, i3]
  have en : a_n (T.2.1 t) = n := by rw [e, a_n_nI (by omega)]
  unfold a_run at h
  rw [en] at h
  simp only [eq_self, reduceCtorEq, true_implies, false_implies, and_true, true_and, not_true_eq_false, not_false_eq_true]
  by_cases c1 : z < 0
  · rw [decide_eq_false (fun w => w.2.1 c1)] at h
    exact ⟨fun _ => h, fun w => absurd c1 w⟩
  · by_cases c2 : y < 0
    · rw [decide_eq_false (fun w => w.1 c2)] at h
      exact ⟨fun w => absurd w c1, fun _ => ⟨fun _ => h, fun w => absurd c2 w⟩⟩
    · obtain ⟨i, hi, rfl, ei⟩ := nn_i c2
      obtain ⟨c, hc, rfl, ec⟩ := nn_i c1
      rw [ei, ec] at h
      have l1 : nI n < nI i ↔ n < i := nI_ltI (by omega) hi
      simp only [c1, c2, eq_self, reduceCtorEq, true_implies, false_implies, and_true, true_and, not_true_eq_false, not_false_eq_true, l1]
      by_cases c3 : n < i
      · rw [decide_eq_false (fun w => by omega)] at h
        simp only [c3, eq_self, reduceCtorEq, true_implies, false_implies, and_true, true_and, not_true_eq_false, not_false_eq_true]
        exact h
      · simp only [c3, eq_self, reduceCtorEq, true_implies, false_implies, and_true, true_and, not_true_eq_false, not_false_eq_true]
        rw [pk_sub (by omega)]
        have l2 : nI (n - i) < nI c ↔ n - i < c := nI_ltI (by omega) hc
        rw [l2]
        by_cases c4 : n - i < c
        · rw [decide_eq_false (fun w => by omega)] at h
          exact ⟨fun _ => h, fun w => absurd c4 w⟩
        · rw [decide_eq_true ⟨c2, c1, by omega⟩] at h
          exact ⟨fun w => absurd w c4, fun _ => h⟩
theorem x_pour {S : vSt} {T : aT} {x1 x2 x3 x4 x5 : Int32} {K : Bool → vSt → Prop} (tok : a_tok T) (h0 : a_TX S T) (h : a_XT S K (decide ((o_pour T x1 x2 x3 x4 x5).1 = 0), o_pour T x1 x2 x3 x4 x5)) : p_X10_pour S x1 x2 x3 x4 x5 K := by
  unfold p_X10_pour p_X10_pour_35
  -- a status is told
  have st : ∀ x, x ≠ 0 → o_pour T x1 x2 x3 x4 x5 = (x, T) → ((¬ x = 0 → p_X10_settled S x (fun r9 S8 => K r9 S8)) ∧ (x = 0 → p_X7_move S x1 x2 x3 x4 x5 (fun S8 => p_X10_settled S8 x (fun r9 S8 => K r9 S8)))) := by
    intro x hx e
    rw [e] at h
    exact ⟨fun _ => t_settled fr_r h0 h, fun w => absurd w hx⟩
  unfold p_X7_pourStatus
  rw [e_isTray]
  unfold o_pour at h st
  cases g1 : a_in 0 3 x1
  · rw [g1] at st
    simp only [eq_self, reduceCtorEq, true_implies, false_implies, and_true, true_and, not_true_eq_false, not_false_eq_true]
    exact st 1 (by decide) (by rw [if_neg (fun w => by cases w.1)])
  · simp only [eq_self, reduceCtorEq, true_implies, false_implies, and_true, true_and, not_true_eq_false, not_false_eq_true]
    rw [e_isTray]
    cases g3 : a_in 0 3 x3
    · rw [g3] at st
      simp only [eq_self, reduceCtorEq, true_implies, false_implies, and_true, true_and, not_true_eq_false, not_false_eq_true]
      exact st 1 (by decide) (by rw [if_neg (fun w => by cases w.2)])
    · simp only [eq_self, reduceCtorEq, true_implies, false_implies, and_true, true_and, not_true_eq_false, not_false_eq_true]
      obtain ⟨t1, ht1, rfl, e1⟩ := tray_t g1
      obtain ⟨t3, ht3, rfl, e3⟩ := tray_t g3
      rw [g1, g3, if_pos ⟨rfl, rfl⟩, e1, e3] at h st
      rw [e_at ht1 (by omega), (h0.1 t1 ht1).2]
      by_cases c1 : T.2.1 t1 = -1
      · simp only [c1, eq_self, reduceCtorEq, true_implies, false_implies, and_true, true_and, not_true_eq_false, not_false_eq_true]
        exact st 3 (by decide) (by rw [if_pos (Or.inl c1)])
      · simp only [c1, eq_self, reduceCtorEq, true_implies, false_implies, and_true, true_and, not_true_eq_false, not_false_eq_true]
        rw [e_at ht3 (by omega), (h0.1 t3 ht3).2]
        by_cases c3 : T.2.1 t3 = -1
        · simp only [c3, eq_self, reduceCtorEq, true_implies, false_implies, and_true, true_and, not_true_eq_false, not_false_eq_true]
          exact st 3 (by decide) (by rw [if_pos (Or.inr c3)])
        · simp only [c3, eq_self, reduceCtorEq, true_implies, false_implies, and_true, true_and, not_true_eq_false, not_false_eq_true]
          rw [if_neg (fun w => w.elim c1 c3)] at h st
          rw [e_at ht1 (by omega), (h0.1 t1 ht1).1, e_at ht3 (by omega), (h0.1 t3 ht3).1]
          by_cases cs : T.1 t1 = T.1 t3
          · rw [if_pos cs] at h st
            simp only [cs, eq_self, reduceCtorEq, true_implies, false_implies, and_true, true_and, not_true_eq_false, not_false_eq_true]
            by_cases c5 : 0 ≤ x5
            · rw [if_pos c5] at h st
              simp only [c5, eq_self, reduceCtorEq, true_implies, false_implies, and_true, true_and, not_true_eq_false, not_false_eq_true]
              obtain ⟨n1, hn1, en1⟩ : ∃ n, n ≤ 60 ∧ T.2.1 t1 = nI n := (tok t1 ht1).resolve_left c1
              obtain ⟨n3, hn3, en3⟩ : ∃ n, n ≤ 60 ∧ T.2.1 t3 = nI n := (tok t3 ht3).resolve_left c3
              refine x_hasRun h0 ht1 hn1 en1 ?_
              cases r1 : a_run T t1 x2 x5
              · rw [r1] at st
                simp only [eq_self, reduceCtorEq, true_implies, false_implies, and_true, true_and, not_true_eq_false, not_false_eq_true]
                exact st 4 (by decide) (by rw [if_neg (fun w => by cases w.1)])
              · simp only [eq_self, reduceCtorEq, true_implies, false_implies, and_true, true_and, not_true_eq_false, not_false_eq_true]
                refine x_hasRun h0 ht3 hn3 en3 ?_
                cases r3 : a_run T t3 x4 x5
                · rw [r3] at st
                  simp only [eq_self, reduceCtorEq, true_implies, false_implies, and_true, true_and, not_true_eq_false, not_false_eq_true]
                  exact st 4 (by decide) (by rw [if_neg (fun w => by cases w.2)])
                · rw [r1, r3, if_pos ⟨rfl, rfl⟩] at h
                  simp only [eq_self, reduceCtorEq, true_implies, false_implies, and_true, true_and, not_true_eq_false, not_false_eq_true]
                  unfold p_X7_move
                  refine x_hasRun h0 ht1 hn1 en1 ?_
                  rw [r1]
                  simp only [eq_self, reduceCtorEq, true_implies, false_implies, and_true, true_and, not_true_eq_false, not_false_eq_true]
                  refine x_hasRun h0 ht3 hn3 en3 ?_
                  rw [r3]
                  simp only [eq_self, reduceCtorEq, true_implies, false_implies, and_true, true_and, not_true_eq_false, not_false_eq_true]
                  have q1 := of_decide_eq_true r1
                  have q3 := of_decide_eq_true r3
                  obtain ⟨i, hi, rfl, ei⟩ := nn_i q1.1
                  obtain ⟨j, hj, rfl, ej⟩ := nn_i q3.1
                  obtain ⟨c, hc, rfl, ec⟩ := nn_i q1.2.1
                  rw [ei, ej, ec] at h
                  have b1 := q1.2.2
                  have b3 := q3.2.2
                  rw [ei, ec, en1, a_n_nI (by omega)] at b1
                  rw [ej, ec, en3, a_n_nI (by omega)] at b3
                  have ea : ∀ t i, nI t * 60 + nI i = nI (60 * t + i) := fun t i => by rw [show (60 : Int32) = nI 60 from rfl, pk_mul, nI_add, Nat.mul_comm t 60]
                  rw [ea, ea, ncl (by omega), ncl (by omega), ncl hc]
                  refine ⟨?_, ?_⟩
                  · unfold v_cpo
                    rw [ncl (show 60 * t1 + i < 2 ^ 31 by omega), ncl (show 60 * t3 + j < 2 ^ 31 by omega), ncl hc]
                    exact ⟨nI_pos (by omega), nI_pos (by omega), q1.2.1, by omega, by omega⟩
                  · rintro _ rfl
                    refine t_settled (S := S) ?_ ?_ h
                    · intro k l w
                      have w := of_decide_eq_false w
                      refine ⟨rfl, ?_⟩
                      show (if k = 2 then _ else S.2 k l) = _
                      rw [if_neg (by omega)]
                    · refine ⟨h0.1, fun k hk => ?_⟩
                      have ev : (v_cl S 2 2 (60 * t1 + i) (60 * t3 + j) c).2 2 k = va_cpy (S.2 2) (S.2 2) (60 * t1 + i) (60 * t3 + j) c k := rfl
                      refine ev.trans ?_
                      unfold va_cpy
                      show _ = a_cpl T.2.2 _ _ _ k
                      unfold a_cpl
                      by_cases w : 60 * t3 + j ≤ k ∧ k < 60 * t3 + j + c
                      · rw [if_pos w, if_pos w]
                        exact h0.2 _ (by omega)
                      · rw [if_neg w, if_neg w]
                        exact h0.2 k hk
            · rw [if_neg c5] at st
              simp only [c5, eq_self, reduceCtorEq, true_implies, false_implies, and_true, true_and, not_true_eq_false, not_false_eq_true]
              exact st 6 (by decide) rfl
          · rw [if_neg cs] at st
            simp only [cs, eq_self, reduceCtorEq, true_implies, false_implies, and_true, true_and, not_true_eq_false, not_false_eq_true]
            exact st 11 (by decide) rfl
theorem m_poured {S : vSt} {T : aT} {x1 x2 x3 x4 : Int32} {i j c t1 t2 t3 t4 : Nat} {u : Bool} {K : Bool → vSt → Prop} (h0 : a_TM S T) (e1 : x1 = nI t1) (e2 : x2 = nI t2) (e3 : x3 = nI t3) (e4 : x4 = nI t4) (hi : i = 60 * t1 + t2) (hj : j = 60 * t3 + t4) (b1 : i + c ≤ 240) (b2 : j + c ≤ 240) (hu : if u = true then (i ≤ j ∨ i + c ≤ j ∨ j + c ≤ i) else (j ≤ i ∨ i + c ≤ j ∨ j + c ≤ i)) (h : ∀ S', a_fr a_tm S S' → a_TM S' (T.1, T.2.1, a_cpl T.2.2 i j c) → S'.1 143 0 = S.1 143 0 → K true S') : p_X11_pour_153 x1 x2 x3 x4 (nI c) K S u := by
  subst e1 e2 e3 e4
  have ea : ∀ t y k, (60 : Int32) * nI t + nI y + nI k = nI (60 * t + y + k) := fun t y k => by rw [show (60 : Int32) = nI 60 from rfl, pk_mul, nI_add, nI_add]
  -- so far
  unfold p_X11_pour_153
  show ∃ fu158, p_X11_pour_158 (nI t1) (nI t2) (nI t3) (nI t4) (nI c) K fu158 S u (nI 0)
  refine v_loop (fun fu k (s : vSt) => p_X11_pour_158 (nI t1) (nI t2) (nI t3) (nI t4) (nI c) K fu s u (nI k)) (fun k s => a_fr a_tm S s ∧ s.1 = S.1 ∧ ∀ q, q < 240 → s.2 146 q = if (if u = true then j + c - k ≤ q ∧ q < j + c else j ≤ q ∧ q < j + k) then T.2.2 (i + (q - j)) else T.2.2 q) c (fun fu k s hk I hs => ?_) (fun fu s I => ?_) S ⟨fr_r, rfl, fun q hq => ?_⟩
  · obtain ⟨f, s1, sq⟩ := I
    have n1 : ¬ nI c ≤ nI k := nI_ge hk (by omega)
    have stp : ∀ k', k' < c → (u = true → k' = c - 1 - k) → (u = false → k' = k) → p_X11_pour_182 (nI t1) (nI t2) (nI t3) (nI t4) (nI c) (p_X11_pour_158 (nI t1) (nI t2) (nI t3) (nI t4) (nI c) K fu) K s u (nI k) (nI k') := by
      intro k' hk' u1 u0
      unfold p_X11_pour_182
      rw [ea, ea, ncl (by omega), ncl (by omega)]
      refine ⟨vpin ⟨by omega, by omega⟩, vpin ⟨by omega, by omega⟩, ?_⟩
      rintro _ rfl _ rfl
      rw [nIs]
      refine hs _ ⟨fr_l f rfl, s1, fun q hq => ?_⟩
      cases u
      · have u0 := u0 rfl
        simp only [Bool.false_eq_true, if_false] at hu sq ⊢
        rw [sl2]
        by_cases w : q = j + k
        · rw [if_pos ⟨rfl, by omega⟩, if_pos (by omega), sq _ (by omega), if_neg (by omega)]
          rw [show i + (q - j) = 60 * t1 + t2 + k' by omega]
        · rw [if_neg (by omega), sq q hq]
          by_cases w2 : j ≤ q ∧ q < j + k
          · rw [if_pos w2, if_pos (by omega)]
          · rw [if_neg w2, if_neg (by omega)]
      · have u1 := u1 rfl
        simp only [if_true] at hu sq ⊢
        rw [sl2]
        by_cases w : q = j + k'
        · rw [if_pos ⟨rfl, by omega⟩, if_pos (by omega), sq _ (by omega), if_neg (by omega)]
          rw [show i + (q - j) = 60 * t1 + t2 + k' by omega]
        · rw [if_neg (by omega), sq q hq]
          by_cases w2 : j + c - k ≤ q ∧ q < j + c
          · rw [if_pos w2, if_pos (by omega)]
          · rw [if_neg w2, if_neg (by omega)]
    rw [e_X11_pour_158]
    simp only [n1, eq_self, reduceCtorEq, true_implies, false_implies, and_true, true_and, not_true_eq_false, not_false_eq_true]
    refine ⟨fun w => stp k hk (fun w2 => by rw [w] at w2; cases w2) (fun _ => rfl), fun w => ?_⟩
    have e : nI c - 1 - nI k = nI (c - 1 - k) := by rw [show (1 : Int32) = nI 1 from rfl, pk_sub (by omega), pk_sub (by omega)]
    rw [e]
    exact stp _ (by omega) (fun _ => rfl) (fun w2 => by rw [w] at w2; cases w2)
  · obtain ⟨f, s1, sq⟩ := I
    rw [e_X11_pour_158]
    simp only [Int32.le_refl, eq_self, reduceCtorEq, true_implies, false_implies, and_true, true_and, not_true_eq_false, not_false_eq_true]
    refine h s f ⟨fun t ht => by rw [s1]; exact h0.1 t ht, fun q hq => ?_⟩ (by rw [s1])
    rw [sq q hq]
    show _ = a_cpl T.2.2 i j c q
    unfold a_cpl
    have e : (if u = true then j + c - c ≤ q ∧ q < j + c else j ≤ q ∧ q < j + c) ↔ (j ≤ q ∧ q < j + c) := by
      cases u
      · simp
      · simp
    simp only [e]
  · rw [if_neg]
    · exact h0.2 q hq
    · cases u
      · simp only [Bool.false_eq_true, if_false]; omega
      · simp only [if_true]; omega
