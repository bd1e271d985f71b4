/-! dreaded -/
def o_dreaded (m : Nat → Int32) (x : Int32) : Int32 × Int32 × Option (Int64 × Int64) := if a_one m x = true then o_any (a_bst (fun i => (a_own m (a_n x) i : Int)) (a_D m)).1 else (-1, 2, none)
theorem own_fit {m : Nat → Int32} (ok : a_ok m) {p d : Nat} (hd : d < a_D m) : a_fit (a_own m p d : Int) := by
  have h1 := own_le (p := p) ok hd
  have h2 := all_le ok
  have h3 : a_all m * 999 ≤ 2 ^ 36 * 999 := Nat.mul_le_mul_right _ h2
  unfold a_fit; omega
theorem x_worstDeed {S : vSt} {m : Nat → Int32} {p : Nat} {K : Int32 → vSt → Prop} (ok : a_ok m) (R : a_R S 10 m) (s : a_seen S m) (h : K (a_bst (fun i => (a_own m p i : Int)) (a_D m)).1 S) : p_X3_worstDeed S (nI p) K := by
  have h10 := ok_D10 ok
  unfold p_X3_worstDeed
  refine v_loop (fun fu i (z : Int32 × Int64) => p_X3_worstDeed_7 (nI p) K fu S z.1 z.2 (nI i)) (fun i z => z.1 = (a_bst (fun i => (a_own m p i : Int)) i).1 ∧ z.2 = lI (a_bst (fun i => (a_own m p i : Int)) i).2) (a_D m) (fun fu i z hi hI hk => ?_) (fun fu z hI => ?_) (-1, 0) ⟨rfl, rfl⟩
  · obtain ⟨z1, z2⟩ := z
    obtain ⟨e1, e2⟩ := hI
    simp only at e1 e2
    subst e1 e2
    have n1 : ¬ nI (a_D m) ≤ nI i := nI_ge hi (by omega)
    have hf := (bst_ok (fun i => (a_own m p i : Int)) i (fun j hj => own_fit ok (by omega))).1
    have step : p_X3_worstDeed_42 (nI p) (p_X3_worstDeed_7 (nI p) K fu) K S (a_bst (fun i => (a_own m p i : Int)) i).1 (lI (a_bst (fun i => (a_own m p i : Int)) i).2) (nI i) (lI (a_own m p i)) := by
      unfold p_X3_worstDeed_42 p_X3_worstDeed_57
      simp only [lI_le (own_fit ok hi) hf, forall_eq, nIs]
      by_cases q : (a_bst (fun i => (a_own m p i : Int)) i).2 < (a_own m p i : Int)
      · simp only [show ¬ (a_own m p i : Int) ≤ (a_bst (fun i => (a_own m p i : Int)) i).2 by omega, eq_self, reduceCtorEq, true_implies, false_implies, and_true, true_and, not_true_eq_false, not_false_eq_true]
        have e : a_bst (fun i => (a_own m p i : Int)) (i + 1) = (nI i, (a_own m p i : Int)) := by rw [bst_s, if_pos q]
        exact hk (nI i, lI (a_own m p i : Int)) ⟨by rw [e], by rw [e]⟩
      · simp only [show (a_own m p i : Int) ≤ (a_bst (fun i => (a_own m p i : Int)) i).2 by omega, eq_self, reduceCtorEq, true_implies, false_implies, and_true, true_and, not_true_eq_false, not_false_eq_true]
        have e : a_bst (fun i => (a_own m p i : Int)) (i + 1) = a_bst (fun i => (a_own m p i : Int)) i := by rw [bst_s, if_neg q]
        exact hk ((a_bst (fun i => (a_own m p i : Int)) i).1, lI (a_bst (fun i => (a_own m p i : Int)) i).2) ⟨by rw [e], by rw [e]⟩
    simp only [e_X3_worstDeed_7, R_1 R, ok_m1 ok, n1, eq_self, reduceCtorEq, true_implies, false_implies, and_true, true_and, not_true_eq_false, not_false_eq_true, e_isOwn (show i < 10 by omega), R_48 (b := 10) R hi h10]
    by_cases c : m (48 + i) = nI p
    · simp only [c, decide_true, eq_self, reduceCtorEq, true_implies, false_implies, and_true, true_and, not_true_eq_false, not_false_eq_true]
      refine x_worstLoss ok R s hi ?_
      have e : a_own m p i = a_dread m i := if_pos c
      rw [← e]
      exact step
    · simp only [c, decide_false, eq_self, reduceCtorEq, true_implies, false_implies, and_true, true_and, not_true_eq_false, not_false_eq_true]
      have e : a_own m p i = 0 := if_neg c
      rw [e] at step
      exact step
  · obtain ⟨z1, z2⟩ := z
    obtain ⟨e1, e2⟩ := hI
    simp only at e1 e2
    subst e1 e2
    simp only [e_X3_worstDeed_7, R_1 R, ok_m1 ok, Int32.le_refl, eq_self, reduceCtorEq, true_implies, false_implies, and_true, true_and, not_true_eq_false, not_false_eq_true]
    exact h
theorem x_dreaded {S : vSt} {m : Nat → Int32} {x : Int32} {K : Int32 → vSt → Prop} (ok : a_ok m) (R : a_R S 10 m) (h : a_XK S K (o_dreaded m x)) : p_X10_dreaded S x K := by
  unfold p_X10_dreaded p_X10_seen
  rw [e_hasPerson R]
  unfold o_dreaded at h
  by_cases g : a_one m x = true
  · obtain ⟨p, hp, rfl, e⟩ := a_one_t ok g
    rw [if_pos g, e] at h
    rw [g]
    simp only [eq_self, reduceCtorEq, true_implies, false_implies, and_true, true_and, not_true_eq_false, not_false_eq_true]
    refine x_see ok R (fun S1 f1 s1 => ?_)
    refine x_worstDeed ok (R_x R f1) s1 ?_
    exact x_toldIfAny f1 h
  · rw [if_neg g] at h
    rw [Bool.not_eq_true] at g
    rw [g]
    simp only [eq_self, reduceCtorEq, true_implies, false_implies, and_true, true_and, not_true_eq_false, not_false_eq_true]
    exact x_refused fr_r h
def a_mz (z : Int) : Int := if z = 0 then -1 else z
theorem m_dreaded {S : vSt} {m : Nat → Int32} {x : Int32} {K : Int32 → vSt → Prop} (ok : a_ok m) (M : a_M S 0 m) (h : a_MK S K (o_dreaded m x)) : p_X11_dreaded S x K := by
  have h10 := ok_D10 ok
  unfold p_X11_dreaded
  refine g_go (fun S1 g1 => ?_)
  have M1 := M_g M g1
  rw [e_isOne ok M1]
  unfold o_dreaded at h
  by_cases g : a_one m x = true
  · obtain ⟨p, hp, rfl, e⟩ := a_one_t ok g
    rw [if_pos g, e] at h
    rw [g]
    simp only [eq_self, reduceCtorEq, true_implies, false_implies, and_true, true_and, not_true_eq_false, not_false_eq_true]
    refine v_loop (fun fu i (z : vSt × Int32 × Int64) => p_X11_dreaded_33 (nI p) K fu z.1 z.2.1 z.2.2 (nI i)) (fun i z => a_fr (a_ro 151) S1 z.1 ∧ z.2.1 = (a_bst (fun i => (a_own m p i : Int)) i).1 ∧ z.2.2 = lI (a_mz (a_bst (fun i => (a_own m p i : Int)) i).2)) (a_D m) (fun fu i z hi hI hk => ?_) (fun fu z hI => ?_) (S1, -1, -1) ⟨fr_r, rfl, rfl⟩
    · obtain ⟨S2, z1, z2⟩ := z
      obtain ⟨f2, e1, e2⟩ := hI
      simp only at f2 e1 e2
      subst e1 e2
      have M2 := M_m M1 (fr_w f2 (ro_sm (by omega)))
      have n1 : ¬ nI (a_D m) ≤ nI i := nI_ge hi (by omega)
      obtain ⟨hf, h0, -⟩ := bst_ok (fun i => (a_own m p i : Int)) i (fun j hj => own_fit ok (by omega))
      have hfz : a_fit (a_mz (a_bst (fun i => (a_own m p i : Int)) i).2) := by
        unfold a_mz a_fit at *; split <;> omega
      have hfn := mn_fit (own_fit (p := p) ok hi)
      have step : ∀ S3, a_fr (a_ro 151) S1 S3 → p_X11_dreaded_79 (nI p) (p_X11_dreaded_33 (nI p) K fu) K S3 (a_bst (fun i => (a_own m p i : Int)) i).1 (lI (a_mz (a_bst (fun i => (a_own m p i : Int)) i).2)) (nI i) (lI (a_mn (a_own m p i))) := by
        intro S3 f3
        unfold p_X11_dreaded_79 p_X11_dreaded_97
        simp only [lI_lt hfz hfn, forall_eq, nIs]
        by_cases q : (a_bst (fun i => (a_own m p i : Int)) i).2 < (a_own m p i : Int)
        · have q2 : a_mz (a_bst (fun i => (a_own m p i : Int)) i).2 < a_mn (a_own m p i) := by
            unfold a_mz a_mn
            rw [if_neg (show ¬ a_own m p i = 0 by omega)]
            split <;> omega
          simp only [q2, eq_self, reduceCtorEq, true_implies, false_implies, and_true, true_and, not_true_eq_false, not_false_eq_true]
          have e : a_bst (fun i => (a_own m p i : Int)) (i + 1) = (nI i, (a_own m p i : Int)) := by rw [bst_s, if_pos q]
          have ez : a_mn (a_own m p i) = a_mz (a_own m p i : Int) := by
            unfold a_mz a_mn
            rw [if_neg (show ¬ a_own m p i = 0 by omega), if_neg (by omega)]
          exact hk (S3, nI i, lI (a_mn (a_own m p i))) ⟨f3, by rw [e], by rw [e, ez]⟩
        · have q2 : ¬ a_mz (a_bst (fun i => (a_own m p i : Int)) i).2 < a_mn (a_own m p i) := by
            unfold a_mz a_mn
            by_cases z : a_own m p i = 0
            · rw [if_pos z]; split <;> omega
            · rw [if_neg z]; split <;> omega
          simp only [q2, eq_self, reduceCtorEq, true_implies, false_implies, and_true, true_and, not_true_eq_false, not_false_eq_true]
          have e : a_bst (fun i => (a_own m p i : Int)) (i + 1) = a_bst (fun i => (a_own m p i : Int)) i := by rw [bst_s, if_neg q]
          exact hk (S3, (a_bst (fun i => (a_own m p i : Int)) i).1, lI (a_mz (a_bst (fun i => (a_own m p i : Int)) i).2)) ⟨f3, by rw [e], by rw [e]⟩
      simp (disch := omega) only [e_X11_dreaded_33, ia8, ia16, ia24, ia32, ia40, ia48, ia58, ia68, ia78, ia88, ia98, ncl, vpt, c0, c1, c2, c3, c4, c5, c6, c7, k0, k1, k2, k3, k4, k5, k6, k7, M_0 M2, ok_m1 ok, n1, eq_self, reduceCtorEq, true_implies, false_implies, and_true, true_and, not_true_eq_false, not_false_eq_true, p_X11_dreaded_76, e_mOpen (show i < 10 by omega)]
      have no : a_own m p i = 0 → p_X11_dreaded_79 (nI p) (p_X11_dreaded_33 (nI p) K fu) K S2 (a_bst (fun i => (a_own m p i : Int)) i).1 (lI (a_mz (a_bst (fun i => (a_own m p i : Int)) i).2)) (nI i) (-1) := by
        intro e
        have := step S2 f2
        rw [e] at this
        exact this
      by_cases c : m (48 + i) = nI p
      · simp only [c, eq_self, reduceCtorEq, true_implies, false_implies, and_true, true_and, not_true_eq_false, not_false_eq_true]
        by_cases c2 : m (78 + i) = 0
        · simp only [c2, decide_true, eq_self, reduceCtorEq, true_implies, false_implies, and_true, true_and, not_true_eq_false, not_false_eq_true]
          refine m_dreadOf ok M2 hi (fun S3 f3 => ?_)
          have e : a_own m p i = a_dread m i := if_pos c
          rw [← e]
          exact step S3 (fr_t f2 f3)
        · simp only [c2, decide_false, eq_self, reduceCtorEq, true_implies, false_implies, and_true, true_and, not_true_eq_false, not_false_eq_true]
          refine no ?_
          unfold a_own
          rw [if_pos c]
          exact Decidable.byContradiction (fun w => c2 (dr_open _ w))
      · simp only [c, eq_self, reduceCtorEq, true_implies, false_implies, and_true, true_and, not_true_eq_false, not_false_eq_true]
        exact no (if_neg c)
    · obtain ⟨S2, z1, z2⟩ := z
      obtain ⟨f2, e1, e2⟩ := hI
      simp only at f2 e1 e2
      subst e1 e2
      have M2 := M_m M1 (fr_w f2 (ro_sm (by omega)))
      obtain ⟨-, -, h3⟩ := bst_ok (fun i => (a_own m p i : Int)) (a_D m) (fun j hj => own_fit ok (by omega))
      simp (disch := omega) only [e_X11_dreaded_33, ia8, ia16, ia24, ia32, ia40, ia48, ia58, ia68, ia78, ia88, ia98, ncl, vpt, c0, c1, c2, c3, c4, c5, c6, c7, k0, k1, k2, k3, k4, k5, k6, k7, M_0 M2, ok_m1 ok, Int32.le_refl, eq_self, reduceCtorEq, true_implies, false_implies, and_true, true_and, not_true_eq_false, not_false_eq_true]
      refine m_any (g_fr g1 (fr_w f2 (ro_sm (by omega)))) ?_ h
      rcases h3 with q | ⟨⟨j, hj, q⟩, -⟩
      · exact Or.inl q.1
      · exact Or.inr ⟨j, by omega, q⟩
  · rw [if_neg g] at h
    rw [Bool.not_eq_true] at g
    rw [g]
    simp only [eq_self, reduceCtorEq, true_implies, false_implies, and_true, true_and, not_true_eq_false, not_false_eq_true]
    exact m_refuse g1 h
/-! friend -/
def a_mild (m : Nat → Int32) (d n : Nat) : Int32 × Int := v_it (fun p s => if a_can m p d = true ∧ (s.1 = -1 ∨ (a_loss m p d : Int) < s.2) then (nI p, (a_loss m p d : Int)) else s) n (-1, 0)
theorem mild_s (m : Nat → Int32) (d n : Nat) : a_mild m d (n + 1) = if a_can m n d = true ∧ ((a_mild m d n).1 = -1 ∨ (a_loss m n d : Int) < (a_mild m d n).2) then (nI n, (a_loss m n d : Int)) else a_mild m d n := rfl
theorem mild_ok {m : Nat → Int32} (ok : a_ok m) {d : Nat} (hd : d < a_D m) : ∀ n, a_fit (a_mild m d n).2 ∧ ((a_mild m d n).1 = -1 ∨ ∃ p, p < n ∧ (a_mild m d n).1 = nI p)
  | 0 => ⟨fit_0, Or.inl rfl⟩
  | n + 1 => by
    obtain ⟨h1, h2⟩ := mild_ok ok hd n
    rw [mild_s]
    split
    · exact ⟨fit_loss ok hd, Or.inr ⟨n, by omega, rfl⟩⟩
    · refine ⟨h1, ?_⟩
      rcases h2 with q | ⟨p, hp, q⟩
      · exact Or.inl q
      · exact Or.inr ⟨p, by omega, q⟩
theorem nI_nm1 {p : Nat} (hp : p < 2 ^ 31) : ¬ nI p = -1 ∧ ¬ nI p < 0 := by
  have q := nI_pos hp
  refine ⟨fun w => ?_, q⟩
  rw [w] at q
  exact q (by decide)
def o_friend (m : Nat → Int32) (x : Int32) : Int32 × Int32 × Option (Int64 × Int64) := if a_two m x = true then o_any (a_mild m (a_n x) (a_P m)).1 else (-1, 2, none)
theorem x_mildestAccuser {S : vSt} {m : Nat → Int32} {d : Nat} {K : Int32 → vSt → Prop} (ok : a_ok m) (R : a_R S 10 m) (s : a_seen S m) (hd : d < a_D m) (h : K (a_mild m d (a_P m)).1 S) : p_X3_mildestAccuser S (nI d) K := by
  have h8 := ok_P8 ok
  unfold p_X3_mildestAccuser
  refine v_loop (fun fu i (z : Int32 × Int64) => p_X3_mildestAccuser_7 (nI d) K fu S z.1 z.2 (nI i)) (fun i z => z.1 = (a_mild m d i).1 ∧ z.2 = lI (a_mild m d i).2) (a_P m) (fun fu i z hi hI hk => ?_) (fun fu z hI => ?_) (-1, 0) ⟨rfl, rfl⟩
  · obtain ⟨z1, z2⟩ := z
    obtain ⟨e1, e2⟩ := hI
    simp only at e1 e2
    subst e1 e2
    have n1 : ¬ nI (a_P m) ≤ nI i := nI_ge hi (by omega)
    obtain ⟨hf, -⟩ := mild_ok ok hd i
    have take : (a_can m i d = true ∧ ((a_mild m d i).1 = -1 ∨ (a_loss m i d : Int) < (a_mild m d i).2)) → p_X3_mildestAccuser_46 (nI d) (p_X3_mildestAccuser_7 (nI d) K fu) K S (nI i) := by
      intro q
      unfold p_X3_mildestAccuser_46 p_X3_mildestAccuser_57
      rw [x_lossOf ok s hi hd]
      simp only [forall_eq, nIs]
      have e : a_mild m d (i + 1) = (nI i, (a_loss m i d : Int)) := by rw [mild_s, if_pos q]
      exact hk (nI i, lI (a_loss m i d : Int)) ⟨by rw [e], by rw [e]⟩
    have leave : ¬ (a_can m i d = true ∧ ((a_mild m d i).1 = -1 ∨ (a_loss m i d : Int) < (a_mild m d i).2)) → p_X3_mildestAccuser_57 (nI d) (p_X3_mildestAccuser_7 (nI d) K fu) K S (a_mild m d i).1 (lI (a_mild m d i).2) (nI i) := by
      intro q
      unfold p_X3_mildestAccuser_57
      simp only [forall_eq, nIs]
      have e : a_mild m d (i + 1) = a_mild m d i := by rw [mild_s, if_neg q]
      exact hk ((a_mild m d i).1, lI (a_mild m d i).2) ⟨by rw [e], by rw [e]⟩
    simp only [e_X3_mildestAccuser_7, R_0 R, ok_m0 ok, n1, eq_self, reduceCtorEq, true_implies, false_implies, and_true, true_and, not_true_eq_false, not_false_eq_true, x_isWithin ok s hi hd]
    cases c : a_can m i d
    · simp only [eq_self, reduceCtorEq, true_implies, false_implies, and_true, true_and, not_true_eq_false, not_false_eq_true]
      exact leave (fun w => by rw [c] at w; exact Bool.noConfusion w.1)
    · simp only [eq_self, reduceCtorEq, true_implies, false_implies, and_true, true_and, not_true_eq_false, not_false_eq_true]
      by_cases c2 : (a_mild m d i).1 = -1
      · simp only [c2, eq_self, reduceCtorEq, true_implies, false_implies, and_true, true_and, not_true_eq_false, not_false_eq_true]
        exact take ⟨c, Or.inl c2⟩
      · simp only [c2, eq_self, reduceCtorEq, true_implies, false_implies, and_true, true_and, not_true_eq_false, not_false_eq_true, x_lossOf ok s hi hd, lI_le hf (fit_loss (p := i) ok hd)]
        by_cases q : (a_loss m i d : Int) < (a_mild m d i).2
        · simp only [show ¬ (a_mild m d i).2 ≤ (a_loss m i d : Int) by omega, eq_self, reduceCtorEq, true_implies, false_implies, and_true, true_and, not_true_eq_false, not_false_eq_true]
          exact take ⟨c, Or.inr q⟩
        · simp only [show (a_mild m d i).2 ≤ (a_loss m i d : Int) by omega, eq_self, reduceCtorEq, true_implies, false_implies, and_true, true_and, not_true_eq_false, not_false_eq_true]
          exact leave (fun w => w.2.elim c2 q)
  · obtain ⟨z1, z2⟩ := z
    obtain ⟨e1, e2⟩ := hI
    simp only at e1 e2
    subst e1 e2
    simp only [e_X3_mildestAccuser_7, R_0 R, ok_m0 ok, Int32.le_refl, eq_self, reduceCtorEq, true_implies, false_implies, and_true, true_and, not_true_eq_false, not_false_eq_true]
    exact h
theorem x_friend {S : vSt} {m : Nat → Int32} {x : Int32} {K : Int32 → vSt → Prop} (ok : a_ok m) (R : a_R S 10 m) (h : a_XK S K (o_friend m x)) : p_X10_friend S x K := by
  unfold p_X10_friend p_X10_seen
  rw [e_hasDeed R]
  unfold o_friend at h
  by_cases g : a_two m x = true
  · obtain ⟨d, hd, rfl, e⟩ := a_two_t ok g
    rw [if_pos g, e] at h
    rw [g]
    simp only [eq_self, reduceCtorEq, true_implies, false_implies, and_true, true_and, not_true_eq_false, not_false_eq_true]
    refine x_see ok R (fun S1 f1 s1 => ?_)
    refine x_mildestAccuser ok (R_x R f1) s1 hd ?_
    exact x_toldIfAny f1 h
  · rw [if_neg g] at h
    rw [Bool.not_eq_true] at g
    rw [g]
    simp only [eq_self, reduceCtorEq, true_implies, false_implies, and_true, true_and, not_true_eq_false, not_false_eq_true]
    exact x_refused fr_r h
theorem m_friend {S : vSt} {m : Nat → Int32} {x : Int32} {K : Int32 → vSt → Prop} (ok : a_ok m) (M : a_M S 0 m) (h : a_MK S K (o_friend m x)) : p_X11_friend S x K := by
  have h8 := ok_P8 ok
  unfold p_X11_friend
  refine g_go (fun S1 g1 => ?_)
  have M1 := M_g M g1
  rw [e_isDeedAt ok M1]
  unfold o_friend at h
  by_cases g : a_two m x = true
  · obtain ⟨d, hd, rfl, e⟩ := a_two_t ok g
    rw [if_pos g, e] at h
    rw [g]
    simp only [eq_self, reduceCtorEq, true_implies, false_implies, and_true, true_and, not_true_eq_false, not_false_eq_true]
    refine v_loop (fun fu i (z : vSt × Int32 × Int64) => p_X11_friend_31 (nI d) K fu z.1 z.2.1 z.2.2 (nI i)) (fun i z => a_fr (a_ro 151) S1 z.1 ∧ z.2.1 = (a_mild m d i).1 ∧ z.2.2 = lI (a_mild m d i).2) (a_P m) (fun fu i z hi hI hk => ?_) (fun fu z hI => ?_) (S1, -1, 0) ⟨fr_r, rfl, rfl⟩
    · obtain ⟨S2, z1, z2⟩ := z
      obtain ⟨f2, e1, e2⟩ := hI
      simp only at f2 e1 e2
      subst e1 e2
      have M2 := M_m M1 (fr_w f2 (ro_sm (by omega)))
      have n1 : ¬ nI (a_P m) ≤ nI i := nI_ge hi (by omega)
      obtain ⟨hf, hs⟩ := mild_ok ok hd i
      have take : ∀ S3, a_fr (a_ro 151) S1 S3 → (a_can m i d = true ∧ ((a_mild m d i).1 = -1 ∨ (a_loss m i d : Int) < (a_mild m d i).2)) → p_X11_friend_71 (nI d) (p_X11_friend_31 (nI d) K fu) K S3 (nI i) := by
        intro S3 f3 q
        have M3 := M_m M1 (fr_w f3 (ro_sm (by omega)))
        unfold p_X11_friend_71 p_X11_friend_82
        refine m_lossOf ok M3 hi hd (fun S4 f4 => ?_)
        simp only [forall_eq, nIs]
        have e : a_mild m d (i + 1) = (nI i, (a_loss m i d : Int)) := by rw [mild_s, if_pos q]
        exact hk (S4, nI i, lI (a_loss m i d : Int)) ⟨fr_t f3 f4, by rw [e], by rw [e]⟩
      have leave : ∀ S3, a_fr (a_ro 151) S1 S3 → ¬ (a_can m i d = true ∧ ((a_mild m d i).1 = -1 ∨ (a_loss m i d : Int) < (a_mild m d i).2)) → p_X11_friend_82 (nI d) (p_X11_friend_31 (nI d) K fu) K S3 (a_mild m d i).1 (lI (a_mild m d i).2) (nI i) := by
        intro S3 f3 q
        unfold p_X11_friend_82
        simp only [forall_eq, nIs]
        have e : a_mild m d (i + 1) = a_mild m d i := by rw [mild_s, if_neg q]
        exact hk (S3, (a_mild m d i).1, lI (a_mild m d i).2) ⟨f3, by rw [e], by rw [e]⟩
      simp (disch := omega) only [e_X11_friend_31, ia8, ia16, ia24, ia32, ia40, ia48, ia58, ia68, ia78, ia88, ia98, ncl, vpt, c0, c1, c2, c3, c4, c5, c6, c7, k0, k1, k2, k3, k4, k5, k6, k7, M_0 M2, ok_m0 ok, n1, eq_self, reduceCtorEq, true_implies, false_implies, and_true, true_and, not_true_eq_false, not_false_eq_true, m_canCharge ok M2 hi hd]
      cases c : a_can m i d
      · simp only [eq_self, reduceCtorEq, true_implies, false_implies, and_true, true_and, not_true_eq_false, not_false_eq_true]
        exact leave S2 f2 (fun w => by rw [c] at w; exact Bool.noConfusion w.1)
      · simp only [eq_self, reduceCtorEq, true_implies, false_implies, and_true, true_and, not_true_eq_false, not_false_eq_true]
        rcases hs with q1 | ⟨p, hp, q1⟩
        · have n2 : (a_mild m d i).1 < 0 := by rw [q1]; decide
          simp only [n2, eq_self, reduceCtorEq, true_implies, false_implies, and_true, true_and, not_true_eq_false, not_false_eq_true]
          exact take S2 f2 ⟨c, Or.inl q1⟩
        · obtain ⟨n3, n2⟩ := nI_nm1 (p := p) (by omega)
          rw [← q1] at n2 n3
          simp only [n2, eq_self, reduceCtorEq, true_implies, false_implies, and_true, true_and, not_true_eq_false, not_false_eq_true]
          refine m_lossOf ok M2 hi hd (fun S3 f3 => ?_)
          simp only [lI_lt (fit_loss (p := i) ok hd) hf]
          by_cases q : (a_loss m i d : Int) < (a_mild m d i).2
          · simp only [q, eq_self, reduceCtorEq, true_implies, false_implies, and_true, true_and, not_true_eq_false, not_false_eq_true]
            exact take S3 (fr_t f2 f3) ⟨c, Or.inr q⟩
          · simp only [q, eq_self, reduceCtorEq, true_implies, false_implies, and_true, true_and, not_true_eq_false, not_false_eq_true]
            exact leave S3 (fr_t f2 f3) (fun w => w.2.elim n3 q)
    · obtain ⟨S2, z1, z2⟩ := z
      obtain ⟨f2, e1, e2⟩ := hI
      simp only at f2 e1 e2
      subst e1 e2
      have M2 := M_m M1 (fr_w f2 (ro_sm (by omega)))
      obtain ⟨-, h3⟩ := mild_ok ok hd (a_P m)
      simp (disch := omega) only [e_X11_friend_31, ia8, ia16, ia24, ia32, ia40, ia48, ia58, ia68, ia78, ia88, ia98, ncl, vpt, c0, c1, c2, c3, c4, c5, c6, c7, k0, k1, k2, k3, k4, k5, k6, k7, M_0 M2, ok_m0 ok, Int32.le_refl, eq_self, reduceCtorEq, true_implies, false_implies, and_true, true_and, not_true_eq_false, not_false_eq_true]
      refine m_any (g_fr g1 (fr_w f2 (ro_sm (by omega)))) ?_ h
      rcases h3 with q | ⟨j, hj, q⟩
      · exact Or.inl q
      · exact Or.inr ⟨j, by omega, q⟩
  · rw [if_neg g] at h
    rw [Bool.not_eq_true] at g
    rw [g]
    simp only [eq_self, reduceCtorEq, true_implies, false_implies, and_true, true_and, not_true_eq_false, not_false_eq_true]
    exact m_refuse g1 h
