/-! plan: the greatest of some, by sorting and by taking -/
def a_up (f : Nat → Int) (k : Nat) (v : Int) : Nat → Int := fun j => if j = k then v else f j
theorem sum_up {F : Int → Nat} {f : Nat → Int} {k : Nat} {v : Int} : ∀ n, k < n → a_sum (fun j => F (a_up f k v j)) n + F (f k) = a_sum (fun j => F (f j)) n + F v
  | 0, h => absurd h (by omega)
  | n + 1, h => by
    show a_sum (fun j => F (a_up f k v j)) n + F (a_up f k v n) + F (f k) = a_sum (fun j => F (f j)) n + F (f n) + F v
    by_cases e : k = n
    · subst e
      have h1 : a_sum (fun j => F (a_up f k v j)) k = a_sum (fun j => F (f j)) k := sum_congr k (fun j hj => by unfold a_up; rw [if_neg (by omega)])
      have h2 : a_up f k v k = v := if_pos rfl
      rw [h1, h2]
      omega
    · have h1 := sum_up (F := F) (f := f) (v := v) n (show k < n by omega)
      have h2 : a_up f k v n = f n := if_neg (by omega)
      rw [h2]
      omega
theorem sum_sh {g : Nat → Nat} : ∀ n, a_sum (fun i => g (i + 1)) n + g 0 = a_sum g n + g n
  | 0 => by simp [a_sum]
  | n + 1 => by
    have h := sum_sh (g := g) n
    show a_sum (fun i => g (i + 1)) n + g (n + 1) + g 0 = a_sum g n + g n + g (n + 1)
    omega
theorem sum_pt {f : Nat → Nat} {k : Nat} : ∀ n, k < n → f k ≤ a_sum f n
  | 0, h => absurd h (by omega)
  | n + 1, h => by
    show _ ≤ a_sum f n + f n
    by_cases e : k = n
    · subst e; omega
    · have := sum_pt (f := f) n (show k < n by omega); omega
theorem sum_ex {f : Nat → Nat} : ∀ n, 0 < a_sum f n → ∃ k, k < n ∧ 0 < f k
  | 0, h => absurd h (by simp [a_sum])
  | n + 1, h => by
    by_cases e : 0 < f n
    · exact ⟨n, by omega, e⟩
    · have h' : 0 < a_sum f n + f n := h
      obtain ⟨k, hk, q⟩ := sum_ex (f := f) n (by omega)
      exact ⟨k, by omega, q⟩
/-- the place of the greatest of ten -/
def a_amx (a : Nat → Int) (n : Nat) : Nat := v_it (fun d b => if a b < a (d + 1) then d + 1 else b) n 0
theorem amx_s (a : Nat → Int) (n : Nat) : a_amx a (n + 1) = if a (a_amx a n) < a (n + 1) then n + 1 else a_amx a n := rfl
theorem amx_ok (a : Nat → Int) : ∀ n, a_amx a n ≤ n ∧ ∀ j, j ≤ n → a j ≤ a (a_amx a n)
  | 0 => ⟨Nat.le_refl _, fun j hj => by
    have e : j = 0 := by omega
    subst e; exact Int.le_refl _⟩
  | n + 1 => by
    obtain ⟨h1, h2⟩ := amx_ok a n
    rw [amx_s]
    split
    · next q =>
      refine ⟨Nat.le_refl _, fun j hj => ?_⟩
      by_cases e : j = n + 1
      · subst e; exact Int.le_refl _
      · have := h2 j (by omega); omega
    · next q =>
      refine ⟨by omega, fun j hj => ?_⟩
      by_cases e : j = n + 1
      · subst e; omega
      · exact h2 j (by omega)
def a_top : Nat → (Nat → Int) → Int
  | 0, _ => 0
  | n + 1, a => max 0 (a (a_amx a 9)) + a_top n (a_up a (a_amx a 9) 0)
def a_si (f : Nat → Int) : Nat → Int
  | 0 => 0
  | n + 1 => a_si f n + f n
theorem si_sh {f : Nat → Int} : ∀ n, a_si f (n + 1) = f 0 + a_si (fun i => f (i + 1)) n
  | 0 => by simp [a_si]
  | n + 1 => by
    show a_si f (n + 1) + f (n + 1) = f 0 + (a_si (fun i => f (i + 1)) n + f (n + 1))
    rw [si_sh n]
    omega
theorem top_sorted : ∀ n (a s : Nat → Int), (∀ i, 0 ≤ s i) → (∀ i j, i ≤ j → s j ≤ s i) → s 10 = 0 → (∀ F : Int → Nat, a_sum (fun j => F (max 0 (a j))) 10 = a_sum (fun j => F (s j)) 10) → a_si s n = a_top n a
  | 0, _, _, _, _, _, _ => rfl
  | n + 1, a, s, h0, hs, hz, hF => by
    obtain ⟨b9, bm⟩ := amx_ok a 9
    have e : max 0 (a (a_amx a 9)) = s 0 := by
      have q1 : max 0 (a (a_amx a 9)) ≤ s 0 := by
        have h1 : 0 < a_sum (fun j => if s j = max 0 (a (a_amx a 9)) then 1 else 0) 10 := by
          rw [← hF (fun v => if v = max 0 (a (a_amx a 9)) then 1 else 0)]
          have := sum_pt (f := fun j => if max 0 (a j) = max 0 (a (a_amx a 9)) then 1 else 0) (k := a_amx a 9) 10 (by omega)
          simp only [if_true] at this
          omega
        obtain ⟨k, hk, q⟩ := sum_ex _ h1
        have q2 : s k = max 0 (a (a_amx a 9)) := by
          by_cases c : s k = max 0 (a (a_amx a 9))
          · exact c
          · simp only [c, if_false] at q; omega
        rw [← q2]
        exact hs 0 k (by omega)
      have q2 : s 0 ≤ max 0 (a (a_amx a 9)) := by
        have h1 : 0 < a_sum (fun j => if max 0 (a j) = s 0 then 1 else 0) 10 := by
          rw [hF (fun v => if v = s 0 then 1 else 0)]
          have := sum_pt (f := fun j => if s j = s 0 then 1 else 0) (k := 0) 10 (by omega)
          simp only [if_true] at this
          omega
        obtain ⟨k, hk, q⟩ := sum_ex _ h1
        have q2 : max 0 (a k) = s 0 := by
          by_cases c : max 0 (a k) = s 0
          · exact c
          · simp only [c, if_false] at q; omega
        have q3 := bm k (by omega)
        omega
      omega
    rw [si_sh]
    show _ = max 0 (a (a_amx a 9)) + a_top n (a_up a (a_amx a 9) 0)
    rw [e]
    congr 1
    refine top_sorted n (a_up a (a_amx a 9) 0) (fun i => s (i + 1)) (fun i => h0 _) (fun i j hij => hs _ _ (by omega)) ?_ (fun F => ?_)
    · have := hs 10 11 (by omega); have := h0 11; show s 11 = 0; omega
    · have h1 := sum_up (F := fun v => F (max 0 v)) (f := a) (k := a_amx a 9) (v := 0) 10 (by omega)
      have h2 := sum_sh (g := fun i => F (s i)) 10
      rw [hF F] at h1
      rw [hz] at h2
      rw [e] at h1
      have e0 : max (0 : Int) 0 = 0 := rfl
      rw [e0] at h1
      show a_sum (fun j => F (max 0 (a_up a (a_amx a 9) 0 j))) 10 = a_sum (fun j => F (s (j + 1))) 10
      omega
/-- row r of S is A -/
def a_rw (S : vSt) (r : Nat) (A : Nat → Int) : Prop := ∀ i, i < 10 → S.2 r i = lI (A i)
def a_ins (A : Nat → Int) (k d : Nat) (g : Int) : Nat → Int := fun i => if i < k then A i else if i = k then g else if i ≤ d then A (i - 1) else A i
theorem ins_sum {A : Nat → Int} {k : Nat} {g : Int} {F : Int → Nat} : ∀ d, k ≤ d → a_sum (fun j => F (a_ins A k d g j)) (d + 1) = a_sum (fun j => F (A j)) d + F g := by
  intro d hd
  have key : ∀ n, n ≤ d - k → a_sum (fun j => F (a_ins A k d g j)) (k + 1 + n) = a_sum (fun j => F (A j)) (k + n) + F g := by
    intro n
    induction n with
    | zero =>
      intro _
      show a_sum (fun j => F (a_ins A k d g j)) k + F (a_ins A k d g k) = _
      have h1 : a_sum (fun j => F (a_ins A k d g j)) k = a_sum (fun j => F (A j)) k := sum_congr k (fun j hj => by unfold a_ins; rw [if_pos hj])
      have h2 : a_ins A k d g k = g := by unfold a_ins; rw [if_neg (by omega), if_pos rfl]
      rw [h1, h2]
      rfl
    | succ n ih =>
      intro hn
      show a_sum (fun j => F (a_ins A k d g j)) (k + 1 + n) + F (a_ins A k d g (k + 1 + n)) = (a_sum (fun j => F (A j)) (k + n) + F (A (k + n))) + F g
      rw [ih (by omega)]
      have h2 : a_ins A k d g (k + 1 + n) = A (k + n) := by
        unfold a_ins
        rw [if_neg (by omega), if_neg (by omega), if_pos (by omega)]
        congr 1
        omega
      rw [h2]
      omega
  have := key (d - k) (Nat.le_refl _)
  rw [show k + 1 + (d - k) = d + 1 by omega, show k + (d - k) = d by omega] at this
  exact this
theorem x_sortIn {S : vSt} {A : Nat → Int} {g : Int} {d : Nat} {K : vSt → Prop} (hd : d < 10) (hA : a_rw S 67 A) (fA : ∀ i, a_fit (A i)) (fg : a_fit g) (h : ∀ S' k, a_fr (a_ro 67) S S' → k ≤ d → (k = 0 ∨ g ≤ A (k - 1)) → (∀ j, k ≤ j → j < d → A j < g) → a_rw S' 67 (a_ins A k d g) → K S') : p_X3_sortIn S (lI g) (nI d) K := by
  unfold p_X3_sortIn
  have fin : ∀ s k, a_fr (a_ro 67) S s → k ≤ d → (k = 0 ∨ g ≤ A (k - 1)) → (∀ j, k ≤ j → j < d → A j < g) → (∀ i, i < 10 → s.2 67 i = lI (if i ≤ k then A i else if i ≤ d then A (i - 1) else A i)) → p_X3_sortIn_50 (lI g) (nI d) K s (nI k) := by
    intro s k f hk h1 h2 h3
    unfold p_X3_sortIn_50
    rw [e_putl (show k < 10 by omega) (by omega)]
    refine h _ k (fr_l f ro_at) hk h1 h2 (fun i hi => ?_)
    rw [sl2]
    unfold a_ins
    by_cases e : i = k
    · subst e
      rw [if_pos ⟨rfl, rfl⟩, if_neg (by omega), if_pos rfl]
    · rw [if_neg (fun w => e w.2), h3 i hi]
      by_cases e2 : i < k
      · rw [if_pos (by omega), if_pos e2]
      · rw [if_neg (by omega), if_neg e2, if_neg e]
  have key := pk_loopD (fun fu e (s : vSt) => p_X3_sortIn_3 (lI g) (nI d) K fu s (nI e)) (fun e s => a_fr (a_ro 67) S s ∧ e ≤ d ∧ (∀ j, e ≤ j → j < d → A j < g) ∧ ∀ i, i < 10 → s.2 67 i = lI (if i ≤ e then A i else if i ≤ d then A (i - 1) else A i)) (fun fu s hI => ?_) (fun fu e s hI hk => ?_) d S ⟨fr_r, Nat.le_refl _, fun j h1 h2 => by omega, fun i hi => ?_⟩
  · exact ⟨_, key⟩
  · obtain ⟨f, h1, h2, h3⟩ := hI
    have n1 : nI 0 ≤ 0 := by decide
    simp only [e_X3_sortIn_3, n1, eq_self, reduceCtorEq, true_implies, false_implies, and_true, true_and, not_true_eq_false, not_false_eq_true]
    exact fin s 0 f h1 (Or.inl rfl) h2 h3
  · obtain ⟨f, h1, h2, h3⟩ := hI
    have n1 : ¬ nI (e + 1) ≤ 0 := nI_nle (by omega) (by omega)
    have v : s.2 67 e = lI (A e) := by rw [h3 e (by omega), if_pos (by omega)]
    simp only [e_X3_sortIn_3, n1, eq_self, reduceCtorEq, true_implies, false_implies, and_true, true_and, not_true_eq_false, not_false_eq_true, nI_pred, e_atl (show e < 10 by omega) (show 10 < 2 ^ 31 by omega), v, lI_le fg (fA e)]
    by_cases q : g ≤ A e
    · simp only [q, eq_self, reduceCtorEq, true_implies, false_implies, and_true, true_and, not_true_eq_false, not_false_eq_true]
      exact fin s (e + 1) f h1 (Or.inr q) h2 h3
    · simp only [q, eq_self, reduceCtorEq, true_implies, false_implies, and_true, true_and, not_true_eq_false, not_false_eq_true, e_putl (show e + 1 < 10 by omega) (show 10 < 2 ^ 31 by omega), forall_eq, pk_m1]
      refine hk _ ⟨fr_l f ro_at, by omega, fun j q1 q2 => ?_, fun i hi => ?_⟩
      · by_cases c : j = e
        · subst c; omega
        · exact h2 j (by omega) q2
      · rw [sl2]
        by_cases c : i = e + 1
        · subst c
          rw [if_pos ⟨rfl, rfl⟩, if_neg (by omega), if_pos (by omega)]
          rfl
        · rw [if_neg (fun w => c w.2), h3 i hi]
          by_cases c2 : i ≤ e
          · rw [if_pos (by omega), if_pos c2]
          · rw [if_neg (by omega), if_neg c2]
  · rw [hA i hi]
    by_cases c : i ≤ d
    · rw [if_pos c]
    · rw [if_neg c, if_neg c]
def a_pg (m : Nat → Int32) (p d : Nat) : Int := if d < a_D m ∧ a_can m p d = true then a_gain m p d else 0
def a_plan (m : Nat → Int32) (p n : Nat) : Int := a_top n (a_pg m p)
theorem pg_gh {m : Nat → Int32} {p d : Nat} (hd : d < a_D m) : max 0 (a_pg m p d) = a_gh m p d := by
  unfold a_pg a_gh
  by_cases c : a_can m p d = true
  · rw [if_pos ⟨hd, c⟩, if_pos c]
  · rw [if_neg (fun w => c w.2), if_neg c]; rfl
theorem si_fit {A : Nat → Int} {c : Nat} (hc : c ≤ 2 ^ 50) : ∀ n, n ≤ 10 → (∀ i, 0 ≤ A i ∧ A i ≤ c) → 0 ≤ a_si A n ∧ a_si A n ≤ n * c
  | 0, _, _ => by simp [a_si]
  | n + 1, hn, h => by
    obtain ⟨h1, h2⟩ := si_fit hc n (by omega) h
    obtain ⟨h3, h4⟩ := h n
    show 0 ≤ a_si A n + A n ∧ a_si A n + A n ≤ ((n + 1 : Nat) : Int) * c
    have e : ((n + 1 : Nat) : Int) * c = n * c + c := by rw [Int.natCast_add, Int.add_mul]; simp
    omega
theorem gh_bd {m : Nat → Int32} (ok : a_ok m) {p d : Nat} (hd : d < a_D m) : 0 ≤ a_gh m p d ∧ a_gh m p d ≤ ((a_all m * 999 : Nat) : Int) := by
  have h1 := gain_le (p := p) ok hd
  have h2 := loss_le (p := p) ok hd
  unfold a_gh
  split <;> omega
theorem x_bestSum {S : vSt} {m : Nat → Int32} {p n : Nat} {K : Int64 → vSt → Prop} (ok : a_ok m) (R : a_R S 10 m) (s : a_seen S m) (hp : p < a_P m) (hn : n ≤ 10) (h : ∀ S', a_fr (a_ro 67) S S' → a_fit (a_plan m p n) → K (lI (a_plan m p n)) S') : p_X3_bestSum S (nI p) (nI n) K := by
  have h10 := ok_D10 ok
  have hall := all_le ok
  have hc : a_all m * 999 ≤ 2 ^ 36 * 999 := Nat.mul_le_mul_right _ hall
  have sf : ∀ s', a_fr (a_ro 67) S s' → a_seen s' m := fun s' f => ⟨fun p d hp hd => by
    obtain ⟨q1, q2, q3, q4⟩ := s.1 p d hp hd
    exact ⟨((f 62 _ rfl).2).trans q1, ((f 63 _ rfl).2).trans q2, ((f 64 _ rfl).2).trans q3, ((f 65 _ rfl).2).trans q4⟩, fun p hp => ((f 66 _ rfl).1).trans (s.2 p hp)⟩
  unfold p_X3_bestSum
  refine h_fill (by omega) (fun S1 f1 z1 => ?_)
  refine v_loop (fun fu i (s : vSt) => p_X3_bestSum_10 (nI p) (nI n) K fu s (nI i)) (fun i s => a_fr (a_ro 67) S s ∧ ∃ A : Nat → Int, a_rw s 67 A ∧ (∀ j, i ≤ j → A j = 0) ∧ (∀ j, 0 ≤ A j ∧ A j ≤ ((a_all m * 999 : Nat) : Int)) ∧ (∀ j k, j ≤ k → A k ≤ A j) ∧ ∀ F : Int → Nat, a_sum (fun j => F (A j)) i = a_sum (fun j => F (a_gh m p j)) i) (a_D m) (fun fu i s hi hI hk => ?_) (fun fu s hI => ?_) S1 ⟨f1, fun _ => 0, z1, fun j _ => rfl, fun j => ⟨Int.le_refl _, Int.natCast_nonneg _⟩, fun j k _ => Int.le_refl _, fun F => rfl⟩
  · obtain ⟨f, A, hA, hz, hb, hs, hF⟩ := hI
    have Rs := R_x R (fr_w f (ro_sx (by omega)))
    have n1 : ¬ nI (a_D m) ≤ nI i := nI_ge hi (by omega)
    have gb := gh_bd (p := p) ok hi
    simp only [e_X3_bestSum_10, R_1 Rs, ok_m1 ok, n1, eq_self, reduceCtorEq, true_implies, false_implies, and_true, true_and, not_true_eq_false, not_false_eq_true, x_gainToHave ok (sf s f) hp hi]
    refine x_sortIn (by omega) hA (fun j => by have := hb j; unfold a_fit; omega) (gh_fit ok hi) (fun S2 k f2 hk1 hk2 hk3 hA2 => ?_)
    simp only [forall_eq, nIs]
    refine hk S2 ⟨fr_t f f2, a_ins A k i (a_gh m p i), hA2, fun j hj => ?_, fun j => ?_, fun j l hjl => ?_, fun F => ?_⟩
    · unfold a_ins
      rw [if_neg (by omega), if_neg (by omega), if_neg (by omega)]
      exact hz j (by omega)
    · unfold a_ins
      split
      · exact hb j
      · split
        · exact gb
        · split
          · exact hb (j - 1)
          · exact hb j
    · unfold a_ins
      by_cases a1 : j < k
      · rw [if_pos a1]
        have b1 : A (k - 1) ≤ A j := hs j (k - 1) (by omega)
        by_cases a2 : l < k
        · rw [if_pos a2]; exact hs j l hjl
        · rw [if_neg a2]
          by_cases a3 : l = k
          · rw [if_pos a3]
            rcases hk2 with q | q <;> omega
          · rw [if_neg a3]
            split
            · exact hs j (l - 1) (by omega)
            · exact hs j l hjl
      · rw [if_neg a1, if_neg (show ¬ l < k by omega)]
        by_cases a2 : j = k
        · rw [if_pos a2]
          by_cases a3 : l = k
          · rw [if_pos a3]; exact Int.le_refl _
          · rw [if_neg a3]
            by_cases a4 : l ≤ i
            · rw [if_pos a4]
              have := hk3 (l - 1) (by omega) (by omega)
              omega
            · rw [if_neg a4, hz l (by omega)]
              exact gb.1
        · rw [if_neg a2, if_neg (show ¬ l = k by omega)]
          by_cases a4 : l ≤ i
          · rw [if_pos a4, if_pos (by omega)]; exact hs (j - 1) (l - 1) (by omega)
          · rw [if_neg a4, hz l (by omega)]
            split
            · exact (hb (j - 1)).1
            · exact (hb j).1
    · rw [ins_sum i hk1, hF F]
      rfl
  · obtain ⟨f, A, hA, hz, hb, hs, hF⟩ := hI
    have Rs := R_x R (fr_w f (ro_sx (by omega)))
    have et : a_si A n = a_plan m p n := by
      refine top_sorted n (a_pg m p) A (fun i => (hb i).1) hs (hz 10 h10) (fun F => ?_)
      have e1 : a_sum (fun j => F (A j)) 10 = a_sum (fun j => if j < a_D m then F (a_gh m p j) else F 0) 10 := by
        have c1 : ∀ r, a_sum (fun j => F (A j)) (a_D m + r) = a_sum (fun j => if j < a_D m then F (a_gh m p j) else F 0) (a_D m + r) := by
          intro r
          induction r with
          | zero =>
            show a_sum (fun j => F (A j)) (a_D m) = a_sum (fun j => if j < a_D m then F (a_gh m p j) else F 0) (a_D m)
            rw [hF F]
            exact sum_congr _ (fun j hj => by rw [if_pos hj])
          | succ r ih =>
            show a_sum (fun j => F (A j)) (a_D m + r) + F (A (a_D m + r)) = a_sum (fun j => if j < a_D m then F (a_gh m p j) else F 0) (a_D m + r) + (if a_D m + r < a_D m then F (a_gh m p (a_D m + r)) else F 0)
            rw [ih, hz _ (by omega), if_neg (by omega)]
        have c2 := c1 (10 - a_D m)
        rw [show a_D m + (10 - a_D m) = 10 by omega] at c2
        exact c2
      rw [e1]
      refine sum_congr 10 (fun j hj => ?_)
      by_cases c : j < a_D m
      · rw [if_pos c, pg_gh c]
      · rw [if_neg c]
        unfold a_pg
        rw [if_neg (fun w => c w.1)]
        rfl
    have hbd := si_fit (c := a_all m * 999) (by omega) n hn hb
    have hnc : ((n : Nat) : Int) * ((a_all m * 999 : Nat) : Int) ≤ 10 * ((a_all m * 999 : Nat) : Int) := Int.mul_le_mul_of_nonneg_right (by omega) (by omega)
    have hfit : a_fit (a_plan m p n) := by
      rw [← et]
      unfold a_fit
      omega
    simp only [e_X3_bestSum_10, R_1 Rs, ok_m1 ok, Int32.le_refl, eq_self, reduceCtorEq, true_implies, false_implies, and_true, true_and, not_true_eq_false, not_false_eq_true]
    refine v_loop (fun fu i (z : Int64) => p_X3_bestSum_43 (nI p) (nI n) K fu s z (nI i)) (fun i z => z = lI (a_si A i)) n (fun fu i z hi hI hk => ?_) (fun fu z hI => ?_) 0 rfl
    · subst hI
      have n1 : ¬ nI n ≤ nI i := nI_ge hi (by omega)
      simp only [e_X3_bestSum_43, n1, eq_self, reduceCtorEq, true_implies, false_implies, and_true, true_and, not_true_eq_false, not_false_eq_true, e_atl (show i < 10 by omega) (show 10 < 2 ^ 31 by omega), hA i (by omega), lI_add, forall_eq, nIs]
      exact hk _ rfl
    · subst hI
      simp only [e_X3_bestSum_43, Int32.le_refl, eq_self, reduceCtorEq, true_implies, false_implies, and_true, true_and, not_true_eq_false, not_false_eq_true, et]
      exact h s f hfit
def o_plan (m : Nat → Int32) (x y : Int32) : Bool × Int32 × Option (Int64 × Int64) := if a_one m x = true then (if a_in 0 10 y = true then (true, 0, a_frac (a_plan m (a_n x) (a_n y)) (a_all m)) else (false, 5, none)) else (false, 2, none)
theorem x_plan {S : vSt} {m : Nat → Int32} {x y : Int32} {K : Bool → vSt → Prop} (ok : a_ok m) (R : a_R S 10 m) (h : a_XK S K (o_plan m x y)) : p_X10_plan S x y K := by
  unfold p_X10_plan p_X10_plan_27 p_X10_seen
  rw [e_hasPerson R]
  unfold o_plan at h
  by_cases g : a_one m x = true
  · obtain ⟨p, hp, rfl, e⟩ := a_one_t ok g
    rw [if_pos g, e] at h
    rw [g]
    simp only [eq_self, reduceCtorEq, true_implies, false_implies, and_true, true_and, not_true_eq_false, not_false_eq_true]
    rw [gd2]
    by_cases g2 : a_in 0 10 y = true
    · obtain ⟨n, hn, rfl, e2⟩ := a_in_t (n := 10) rfl (by omega) g2
      rw [if_pos g2, e2] at h
      rw [if_pos g2]
      refine x_see ok R (fun S1 f1 s1 => ?_)
      refine x_bestSum ok (R_x R f1) s1 hp hn (fun S2 f2 hf => ?_)
      have f2' := fr_t f1 (fr_w f2 (ro_sx (by omega)))
      rw [x_whole ok (R_x R f2')]
      exact x_tell f2' hf (all_pos m) (all_40 ok) h
    · rw [if_neg g2] at h ⊢
      exact x_settled fr_r h
  · rw [if_neg g] at h
    rw [Bool.not_eq_true] at g
    rw [g]
    simp only [eq_self, reduceCtorEq, true_implies, false_implies, and_true, true_and, not_true_eq_false, not_false_eq_true]
    exact x_settled fr_r h
theorem pg_fit {m : Nat → Int32} (ok : a_ok m) (p d : Nat) : a_fit (a_pg m p d) := by
  unfold a_pg
  split
  · next q => exact fit_gain ok q.1
  · exact fit_0
theorem pg_up {m : Nat → Int32} (ok : a_ok m) {p b : Nat} {a : Nat → Int} (h : ∀ j, a_fit (a j) ∧ a j ≤ ((a_all m * 999 : Nat) : Int)) : ∀ j, a_fit (a_up a b 0 j) ∧ a_up a b 0 j ≤ ((a_all m * 999 : Nat) : Int) := by
  intro j
  unfold a_up
  split
  · exact ⟨fit_0, Int.natCast_nonneg _⟩
  · exact h j