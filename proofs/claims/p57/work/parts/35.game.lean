/-! two who charge each other -/
def a_mm (f : Bool) (a b : Int) : Int := if f = true then max a b else min a b
def a_fd (f : Bool) (c : Nat → Bool) (v : Nat → Int) (v0 : Int) : Nat → Int
  | 0 => v0
  | n + 1 => if c n = true then a_mm f (a_fd f c v v0 n) (v n) else a_fd f c v v0 n
/-- a is no better than b -/
def a_nbt (f : Bool) (a b : Int) : Prop := if f = true then a ≤ b else b ≤ a
theorem nbt_r (f : Bool) (a : Int) : a_nbt f a a := by
  unfold a_nbt; split <;> exact Int.le_refl _
theorem nbt_t {f : Bool} {a b c : Int} (h : a_nbt f a b) (h2 : a_nbt f b c) : a_nbt f a c := by
  cases f <;> simp only [a_nbt, eq_self, reduceCtorEq, true_implies, false_implies, and_true, true_and, not_true_eq_false, not_false_eq_true, Bool.false_eq_true, if_true, if_false] at h h2 ⊢ <;> omega
theorem nbt_a {f : Bool} {a b : Int} (h : a_nbt f a b) (h2 : a_nbt f b a) : a = b := by
  cases f <;> simp only [a_nbt, eq_self, reduceCtorEq, true_implies, false_implies, and_true, true_and, not_true_eq_false, not_false_eq_true, Bool.false_eq_true, if_true, if_false] at h h2 <;> omega
theorem mm_l (f : Bool) (a b : Int) : a_nbt f a (a_mm f a b) := by
  cases f <;> simp only [a_nbt, a_mm, eq_self, reduceCtorEq, true_implies, false_implies, and_true, true_and, not_true_eq_false, not_false_eq_true, Bool.false_eq_true, if_true, if_false] <;> omega
theorem mm_r (f : Bool) (a b : Int) : a_nbt f b (a_mm f a b) := by
  cases f <;> simp only [a_nbt, a_mm, eq_self, reduceCtorEq, true_implies, false_implies, and_true, true_and, not_true_eq_false, not_false_eq_true, Bool.false_eq_true, if_true, if_false] <;> omega
theorem mm_at (f : Bool) (a b : Int) : a_mm f a b = a ∨ a_mm f a b = b := by
  cases f <;> simp only [a_mm, eq_self, reduceCtorEq, true_implies, false_implies, and_true, true_and, not_true_eq_false, not_false_eq_true, Bool.false_eq_true, if_true, if_false] <;> omega
theorem fd_s {f : Bool} {c : Nat → Bool} {v : Nat → Int} {v0 : Int} (n : Nat) : a_fd f c v v0 (n + 1) = if c n = true then a_mm f (a_fd f c v v0 n) (v n) else a_fd f c v v0 n := rfl
theorem fd_ub {f : Bool} {c : Nat → Bool} {v : Nat → Int} {v0 : Int} : ∀ n, a_nbt f v0 (a_fd f c v v0 n) ∧ ∀ i, i < n → c i = true → a_nbt f (v i) (a_fd f c v v0 n)
  | 0 => ⟨nbt_r _ _, fun i hi => absurd hi (by omega)⟩
  | n + 1 => by
    obtain ⟨h1, h2⟩ := fd_ub (f := f) (c := c) (v := v) (v0 := v0) n
    have key : ∀ x, a_nbt f x (a_fd f c v v0 n) → a_nbt f x (a_fd f c v v0 (n + 1)) := by
      intro x hx
      rw [fd_s]
      split
      · exact nbt_t hx (mm_l _ _ _)
      · exact hx
    refine ⟨key _ h1, fun i hi hc => ?_⟩
    by_cases e : i = n
    · subst e
      rw [fd_s, if_pos hc]
      exact mm_r _ _ _
    · exact key _ (h2 i (by omega) hc)
theorem fd_at {f : Bool} {c : Nat → Bool} {v : Nat → Int} {v0 : Int} : ∀ n, a_fd f c v v0 n = v0 ∨ ∃ i, i < n ∧ c i = true ∧ v i = a_fd f c v v0 n
  | 0 => Or.inl rfl
  | n + 1 => by
    have h := fd_at (f := f) (c := c) (v := v) (v0 := v0) n
    have old : a_fd f c v v0 (n + 1) = a_fd f c v v0 n → a_fd f c v v0 (n + 1) = v0 ∨ ∃ i, i < n + 1 ∧ c i = true ∧ v i = a_fd f c v v0 (n + 1) := by
      intro e
      rw [e]
      rcases h with q | ⟨i, hi, q⟩
      · exact Or.inl q
      · exact Or.inr ⟨i, by omega, q⟩
    by_cases e : c n = true
    · rcases mm_at f (a_fd f c v v0 n) (v n) with q | q
      · exact old (by rw [fd_s, if_pos e, q])
      · refine Or.inr ⟨n, by omega, e, ?_⟩
        rw [fd_s, if_pos e, q]
    · exact old (by rw [fd_s, if_neg e])
theorem fd_bd {f : Bool} {c : Nat → Bool} {v : Nat → Int} {v0 lo hi : Int} (n : Nat) (h0 : lo ≤ v0 ∧ v0 ≤ hi) (h : ∀ i, i < n → lo ≤ v i ∧ v i ≤ hi) : lo ≤ a_fd f c v v0 n ∧ a_fd f c v v0 n ≤ hi := by
  rcases fd_at (f := f) (c := c) (v := v) (v0 := v0) n with q | ⟨i, hi', -, q⟩
  · rw [q]; exact h0
  · rw [← q]; exact h i hi'
theorem fd_no {f : Bool} {c : Nat → Bool} {v : Nat → Int} {v0 : Int} {n : Nat} (h : ∀ i, i < n → c i = false) : a_fd f c v v0 n = v0 := by
  rcases fd_at (f := f) (c := c) (v := v) (v0 := v0) n with q | ⟨i, hi, q, -⟩
  · exact q
  · rw [h i hi] at q; exact Bool.noConfusion q
/-- j is the first of the best -/
def a_jb (f : Bool) (c : Nat → Bool) (v : Nat → Int) (n j : Nat) : Prop := j < n ∧ c j = true ∧ (∀ l, l < n → c l = true → a_nbt f (v l) (v j)) ∧ ∀ l, l < j → c l = true → v l ≠ v j
theorem jb_v0 {f : Bool} {c : Nat → Bool} {v : Nat → Int} {v0 : Int} {n j : Nat} (h : a_jb f c v n j) (q : ¬ a_nbt f v0 (v j)) : a_fd f c v v0 n = v0 ∧ ∀ l, l < n → c l = true → v l ≠ v0 := by
  obtain ⟨h1, h2, h3, h4⟩ := h
  refine ⟨?_, fun l hl hc e => q (by rw [← e]; exact h3 l hl hc)⟩
  rcases fd_at (f := f) (c := c) (v := v) (v0 := v0) n with w | ⟨i, hi, w, w2⟩
  · exact w
  · have u := (fd_ub (f := f) (c := c) (v := v) (v0 := v0) n).1
    rw [← w2] at u
    exact absurd (nbt_t u (h3 i hi w)) q
theorem jb_vj {f : Bool} {c : Nat → Bool} {v : Nat → Int} {v0 : Int} {n j : Nat} (h : a_jb f c v n j) (q : a_nbt f v0 (v j)) : a_fd f c v v0 n = v j := by
  obtain ⟨h1, h2, h3, h4⟩ := h
  have u := (fd_ub (f := f) (c := c) (v := v) (v0 := v0) n).2 j h1 h2
  rcases fd_at (f := f) (c := c) (v := v) (v0 := v0) n with w | ⟨i, hi, w, w2⟩
  · rw [w] at u ⊢
    exact nbt_a q u
  · rw [← w2] at u ⊢
    exact nbt_a (h3 i hi w) u
theorem jb_keep {f : Bool} {c : Nat → Bool} {v : Nat → Int} {n j : Nat} (h : a_jb f c v n j) (q : c n = true → a_nbt f (v n) (v j)) : a_jb f c v (n + 1) j := by
  obtain ⟨h1, h2, h3, h4⟩ := h
  refine ⟨by omega, h2, fun l hl hc => ?_, h4⟩
  by_cases e : l = n
  · subst e; exact q hc
  · exact h3 l (by omega) hc
theorem nbt_n {f : Bool} {a b : Int} (h : ¬ a_nbt f a b) : a_nbt f b a ∧ a ≠ b := by
  cases f <;> simp only [a_nbt, eq_self, reduceCtorEq, true_implies, false_implies, and_true, true_and, not_true_eq_false, not_false_eq_true, Bool.false_eq_true, if_true, if_false] at h ⊢ <;> omega
theorem jb_take {f : Bool} {c : Nat → Bool} {v : Nat → Int} {n j : Nat} (h : a_jb f c v n j) (hc : c n = true) (q : ¬ a_nbt f (v n) (v j)) : a_jb f c v (n + 1) n := by
  obtain ⟨h1, h2, h3, h4⟩ := h
  obtain ⟨q1, q2⟩ := nbt_n q
  refine ⟨by omega, hc, fun l hl hc' => ?_, fun l hl hc' e => ?_⟩
  · by_cases e : l = n
    · subst e; exact nbt_r _ _
    · exact nbt_t (h3 l (by omega) hc') q1
  · exact q (by rw [← e]; exact h3 l hl hc')
theorem jb_one {f : Bool} {c : Nat → Bool} {v : Nat → Int} {n : Nat} (h : ∀ i, i < n → c i = false) (hc : c n = true) : a_jb f c v (n + 1) n := by
  refine ⟨by omega, hc, fun l hl hc' => ?_, fun l hl hc' => ?_⟩
  · by_cases e : l = n
    · subst e; exact nbt_r _ _
    · rw [h l (by omega)] at hc'; exact Bool.noConfusion hc'
  · rw [h l hl] at hc'; exact Bool.noConfusion hc'
/-! the game -/
def a_mv (m : Nat → Int32) (p o d : Nat) : Nat := if m (48 + d) = nI o ∧ a_can m p d = true then 1 else if m (48 + d) = nI p ∧ a_can m o d = true then 2 else 0
theorem mv_le (m : Nat → Int32) (p o d : Nat) : a_mv m p o d ≤ 2 := by
  unfold a_mv; split
  · omega
  · split <;> omega
def a_wo (m : Nat → Int32) (p o d : Nat) : Int := if a_mv m p o d = 1 then a_gain m p d + a_loss m p d else -a_gain m o d - a_loss m o d
def a_cd (m : Nat → Int32) (p o : Nat) (f : Bool) (c d : Nat) : Bool := decide (a_mv m p o d = if f = true then 1 else 2) && !c.testBit d
def a_pl (m : Nat → Int32) (p o : Nat) : Nat → Bool → Nat → Int
  | 0, _, _ => 0
  | k + 1, f, c => a_fd f (a_cd m p o f c) (fun d => a_wo m p o d + a_pl m p o k (!f) (c ||| 2 ^ d)) (a_pl m p o k (!f) c) (a_D m)
/-- the value of a charge -/
def a_pv (m : Nat → Int32) (p o k : Nat) (f : Bool) (c d : Nat) : Int := a_wo m p o d + a_pl m p o k (!f) (c ||| 2 ^ d)
theorem pl_s (m : Nat → Int32) (p o k : Nat) (f : Bool) (c : Nat) : a_pl m p o (k + 1) f c = a_fd f (a_cd m p o f c) (a_pv m p o k f c) (a_pl m p o k (!f) c) (a_D m) := rfl
def a_B (m : Nat → Int32) : Int := 2 * ((a_all m * 999 : Nat) : Int)
def a_kB (m : Nat → Int32) : Nat → Int
  | 0 => 0
  | k + 1 => a_kB m k + a_B m
theorem B_le {m : Nat → Int32} (ok : a_ok m) : 0 ≤ a_B m ∧ a_B m ≤ 2 ^ 50 := by
  have h := all_le ok
  have h3 : a_all m * 999 ≤ 2 ^ 36 * 999 := Nat.mul_le_mul_right _ h
  unfold a_B
  omega
theorem kB_le {m : Nat → Int32} (ok : a_ok m) {k : Nat} (hk : k ≤ 4) : 0 ≤ a_kB m k ∧ a_kB m k ≤ 2 ^ 52 := by
  have h := B_le ok
  match k, hk with
  | 0, _ => exact ⟨Int.le_refl _, show (0 : Int) ≤ 2 ^ 52 by omega⟩
  | 1, _ => show 0 ≤ 0 + a_B m ∧ 0 + a_B m ≤ 2 ^ 52; omega
  | 2, _ => show 0 ≤ 0 + a_B m + a_B m ∧ 0 + a_B m + a_B m ≤ 2 ^ 52; omega
  | 3, _ => show 0 ≤ 0 + a_B m + a_B m + a_B m ∧ 0 + a_B m + a_B m + a_B m ≤ 2 ^ 52; omega
  | 4, _ => show 0 ≤ 0 + a_B m + a_B m + a_B m + a_B m ∧ 0 + a_B m + a_B m + a_B m + a_B m ≤ 2 ^ 52; omega
  | k + 5, h => exact absurd h (by omega)
theorem wo_bd {m : Nat → Int32} (ok : a_ok m) {p o d : Nat} (hd : d < a_D m) : -a_B m ≤ a_wo m p o d ∧ a_wo m p o d ≤ a_B m := by
  have h1 := gain_le (p := p) ok hd
  have h2 := loss_le (p := p) ok hd
  have h3 := gain_le (p := o) ok hd
  have h4 := loss_le (p := o) ok hd
  unfold a_wo a_B
  split <;> omega
theorem pl_bd {m : Nat → Int32} (ok : a_ok m) (p o : Nat) : ∀ k f c, -a_kB m k ≤ a_pl m p o k f c ∧ a_pl m p o k f c ≤ a_kB m k
  | 0, _, _ => ⟨Int.le_refl _, Int.le_refl _⟩
  | k + 1, f, c => by
    have hB := (B_le ok).1
    have e : a_kB m (k + 1) = a_kB m k + a_B m := rfl
    rw [pl_s]
    refine fd_bd _ ?_ (fun i hi => ?_)
    · have := pl_bd ok p o k (!f) c
      omega
    · have h1 := pl_bd ok p o k (!f) (c ||| 2 ^ i)
      have h2 := wo_bd (p := p) (o := o) ok hi
      unfold a_pv
      omega
theorem pl_fit {m : Nat → Int32} (ok : a_ok m) (p o : Nat) {k : Nat} (hk : k ≤ 4) (f : Bool) (c : Nat) : a_fit (a_pl m p o k f c) := by
  have h1 := pl_bd ok p o k f c
  have h2 := kB_le ok hk
  unfold a_fit; omega
theorem pv_bd {m : Nat → Int32} (ok : a_ok m) (p o : Nat) {k : Nat} (f : Bool) (c : Nat) {d : Nat} (hd : d < a_D m) : -a_kB m (k + 1) ≤ a_pv m p o k f c d ∧ a_pv m p o k f c d ≤ a_kB m (k + 1) := by
  have h1 := pl_bd ok p o k (!f) (c ||| 2 ^ d)
  have h3 := wo_bd (p := p) (o := o) ok hd
  have e : a_kB m (k + 1) = a_kB m k + a_B m := rfl
  unfold a_pv; omega
theorem pv_fit {m : Nat → Int32} (ok : a_ok m) (p o : Nat) {k : Nat} (hk : k ≤ 3) (f : Bool) (c : Nat) {d : Nat} (hd : d < a_D m) : a_fit (a_pv m p o k f c d) := by
  have h1 := pv_bd ok p o (k := k) f c hd
  have h2 := kB_le ok (k := k + 1) (by omega)
  unfold a_fit; omega
theorem fdp_fit {m : Nat → Int32} (ok : a_ok m) (p o : Nat) {k : Nat} (hk : k ≤ 3) (f : Bool) (c : Nat) {n : Nat} (hn : n ≤ a_D m) : a_fit (a_fd f (a_cd m p o f c) (a_pv m p o k f c) (a_pl m p o k (!f) c) n) := by
  have h2 := kB_le ok (k := k + 1) (by omega)
  have hB := (B_le ok).1
  have e : a_kB m (k + 1) = a_kB m k + a_B m := rfl
  have h1 := fd_bd (f := f) (c := a_cd m p o f c) (v := a_pv m p o k f c) (v0 := a_pl m p o k (!f) c) (lo := -a_kB m (k + 1)) (hi := a_kB m (k + 1)) n (by have := pl_bd ok p o k (!f) c; omega) (fun i hi => pv_bd ok p o f c (by omega))
  unfold a_fit; omega
/-! the class's -/
def a_gr (k _j : Nat) : Bool := decide (k = 68 ∨ k = 69 ∨ k = 70)
theorem gr_sx : ∀ k j, a_sx k j = false → a_gr k j = false := by
  intro k j q
  unfold a_sx at q
  unfold a_gr
  rw [decide_eq_false_iff_not] at q ⊢
  omega
theorem seen_fr {S S' : vSt} {m : Nat → Int32} {c : Nat → Nat → Bool} (s : a_seen S m) (f : a_fr c S S') (hc : ∀ k j, 62 ≤ k → k ≤ 66 → c k j = false) : a_seen S' m := ⟨fun p d hp hd => by
    obtain ⟨q1, q2, q3, q4⟩ := s.1 p d hp hd
    exact ⟨((f 62 _ (hc _ _ (by omega) (by omega))).2).trans q1, ((f 63 _ (hc _ _ (by omega) (by omega))).2).trans q2, ((f 64 _ (hc _ _ (by omega) (by omega))).2).trans q3, ((f 65 _ (hc _ _ (by omega) (by omega))).2).trans q4⟩, fun p hp => ((f 66 _ (hc _ _ (by omega) (by omega))).1).trans (s.2 p hp)⟩
def a_g1 (S : vSt) (m : Nat → Int32) (p o d : Nat) : Prop := S.1 69 d = nI (a_mv m p o d) ∧ (a_mv m p o d ≠ 0 → S.2 70 d = lI (a_wo m p o d))
def a_gms (S : vSt) (m : Nat → Int32) (p o : Nat) : Prop := ∀ d, d < a_D m → a_g1 S m p o d
theorem x_setGame {S : vSt} {m : Nat → Int32} {p o : Nat} {T : Int32} {K : vSt → Prop} (ok : a_ok m) (R : a_R S 10 m) (s : a_seen S m) (hp : p < a_P m) (ho : o < a_P m) (n : p ≠ o) (h : ∀ S', a_fr a_gr S S' → a_gms S' m p o → S'.1 68 5 = T → K S') : p_X2_setGame S (nI p) (nI o) T K := by
  have h8 := ok_P8 ok
  have h10 := ok_D10 ok
  have npo : ¬ nI o = nI p := fun w => n ((nI_eq (by omega) (by omega)).mp w.symm)
  have rs : ∀ s', a_fr a_gr S s' → a_R s' 10 m ∧ a_seen s' m := fun s' f => ⟨R_x R (fr_w f gr_sx), seen_fr s f (fun k j h1 h2 => decide_eq_false (by omega))⟩
  unfold p_X2_setGame
  rintro _ rfl
  refine v_loop (fun fu i (s : vSt) => p_X2_setGame_8 (nI p) (nI o) T K fu s (nI i)) (fun i s => a_fr a_gr S s ∧ s.1 68 5 = T ∧ ∀ d, d < i → a_g1 s m p o d) (a_D m) (fun fu i s hi hI hk => ?_) (fun fu s hI => ?_) _ ⟨fr_i fr_r rfl, si_at, fun d hd => absurd hd (by omega)⟩
  · obtain ⟨f, hT, hg⟩ := hI
    have h1 : ¬ nI (a_D m) ≤ nI i := nI_ge hi (by omega)
    have R1 := (rs s f).1
    have nx : ∀ s', a_fr a_gr S s' → s'.1 68 5 = T → (∀ d, d < i → a_g1 s' m p o d) → a_g1 s' m p o i → p_X2_setGame_163 (nI p) (nI o) T (p_X2_setGame_8 (nI p) (nI o) T K fu) K s' (nI i) := by
      intro s' f' t' g' gi
      unfold p_X2_setGame_163
      simp only [forall_eq, nIs]
      refine hk s' ⟨f', t', fun d hd => ?_⟩
      by_cases e : d = i
      · rw [e]; exact gi
      · exact g' d (by omega)
    have st : ∀ s', a_fr a_gr S s' → s'.1 68 5 = T → (∀ d, d < i → a_g1 s' m p o d) → ((a_mv m p o i = 1 ∧ a_g1 s' m p o i) ∨ (a_mv m p o i ≠ 1 ∧ s'.1 69 i = 0)) → p_X2_setGame_96 (nI p) (nI o) T (p_X2_setGame_8 (nI p) (nI o) T K fu) K s' (nI i) := by
      intro s' f' t' g' q
      obtain ⟨R', s2'⟩ := rs s' f'
      have zero : a_mv m p o i = 0 → a_g1 s' m p o i := by
        intro e0
        rcases q with q | q
        · exact q.2
        · exact ⟨by rw [q.2, e0]; rfl, fun w => absurd e0 w⟩
      unfold p_X2_setGame_96
      rw [e_isOwn (show i < 10 by omega), R_48 R' hi h10]
      by_cases c1 : m (48 + i) = nI p
      · have n1 : ¬ (m (48 + i) = nI o ∧ a_can m p i = true) := fun w => npo (w.1.symm.trans c1)
        simp only [c1, decide_true, eq_self, reduceCtorEq, true_implies, false_implies, and_true, true_and, not_true_eq_false, not_false_eq_true]
        rw [x_mayCharge ok R' ho hi]
        cases c2 : a_can m o i
        · simp only [eq_self, reduceCtorEq, true_implies, false_implies, and_true, true_and, not_true_eq_false, not_false_eq_true]
          refine nx s' f' t' g' (zero ?_)
          unfold a_mv
          rw [if_neg n1, if_neg (fun w => by rw [c2] at w; exact Bool.noConfusion w.2)]
        · simp only [eq_self, reduceCtorEq, true_implies, false_implies, and_true, true_and, not_true_eq_false, not_false_eq_true]
          have e2 : a_mv m p o i = 2 := by
            unfold a_mv
            rw [if_neg n1, if_pos ⟨c1, c2⟩]
          have ew : a_wo m p o i = -a_gain m o i - a_loss m o i := by
            unfold a_wo
            rw [e2, if_neg (by omega)]
          have f3 : a_fr a_gr S (v_si s' 69 i 2) := fr_i f' rfl
          have s3 := (rs _ f3).2
          rw [e_put (show i < 10 by omega) (by omega), x_gainOf ok s3 ho hi, x_lossOf ok s3 ho hi, e_putl (show i < 10 by omega) (by omega), lI_neg, lI_sub]
          refine nx _ (fr_l f3 rfl) t' (fun d hd => ?_) ⟨?_, fun _ => ?_⟩
          · have nd : ¬ d = i := by omega
            have := g' d hd
            unfold a_g1 at this ⊢
            simp only [sl1, sl2, si1, si2, nd, and_false, if_false]
            exact this
          · show (v_si s' 69 i 2).1 69 i = _
            rw [si_at, e2]; rfl
          · rw [sl_at, ew]
      · simp only [c1, decide_false, eq_self, reduceCtorEq, true_implies, false_implies, and_true, true_and, not_true_eq_false, not_false_eq_true]
        refine nx s' f' t' g' ?_
        rcases q with q | q
        · exact q.2
        · refine zero ?_
          unfold a_mv at q ⊢
          split
          · next w => rw [if_pos w] at q; exact absurd rfl q.1
          · rw [if_neg (fun w => c1 w.1)]
    have f2 : a_fr a_gr S (v_si s 69 i 0) := fr_i f rfl
    have R2 := (rs _ f2).1
    have g2 : ∀ d, d < i → a_g1 (v_si s 69 i 0) m p o d := fun d hd => by
      have nd : ¬ d = i := by omega
      have := hg d hd
      unfold a_g1 at this ⊢
      simp only [si1, si2, nd, and_false, if_false]
      exact this
    simp only [e_X2_setGame_8, R_1 R1, ok_m1 ok, h1, eq_self, reduceCtorEq, true_implies, false_implies, and_true, true_and, not_true_eq_false, not_false_eq_true]
    rw [e_put (show i < 10 by omega) (by omega), e_isOwn (show i < 10 by omega), R_48 R2 hi h10]
    by_cases c1 : m (48 + i) = nI o
    · simp only [c1, decide_true, eq_self, reduceCtorEq, true_implies, false_implies, and_true, true_and, not_true_eq_false, not_false_eq_true]
      rw [x_mayCharge ok R2 hp hi]
      cases c2 : a_can m p i
      · simp only [eq_self, reduceCtorEq, true_implies, false_implies, and_true, true_and, not_true_eq_false, not_false_eq_true]
        refine st _ f2 hT g2 (Or.inr ⟨?_, si_at⟩)
        unfold a_mv
        rw [if_neg (fun w => by rw [c2] at w; exact Bool.noConfusion w.2)]
        split <;> omega
      · simp only [eq_self, reduceCtorEq, true_implies, false_implies, and_true, true_and, not_true_eq_false, not_false_eq_true]
        have e1 : a_mv m p o i = 1 := by unfold a_mv; rw [if_pos ⟨c1, c2⟩]
        have f3 : a_fr a_gr S (v_si (v_si s 69 i 0) 69 i 1) := fr_i f2 rfl
        have s3 := (rs _ f3).2
        rw [e_put (show i < 10 by omega) (by omega), x_gainOf ok s3 hp hi, x_lossOf ok s3 hp hi, e_putl (show i < 10 by omega) (by omega), lI_add]
        refine st _ (fr_l f3 rfl) hT (fun d hd => ?_) (Or.inl ⟨e1, ?_, fun _ => ?_⟩)
        · have nd : ¬ d = i := by omega
          have := g2 d hd
          unfold a_g1 at this ⊢
          simp only [sl1, sl2, si1, si2, nd, and_false, if_false] at this ⊢
          exact this
        · show (v_si (v_si s 69 i 0) 69 i 1).1 69 i = _
          rw [si_at, e1]; rfl
        · rw [sl_at]
          unfold a_wo
          rw [if_pos e1]
    · simp only [c1, decide_false, eq_self, reduceCtorEq, true_implies, false_implies, and_true, true_and, not_true_eq_false, not_false_eq_true]
      refine st _ f2 hT g2 (Or.inr ⟨?_, si_at⟩)
      unfold a_mv
      rw [if_neg (fun w => c1 w.1)]
      split <;> omega
  · obtain ⟨f, hT, hg⟩ := hI
    simp only [e_X2_setGame_8, R_1 (rs s f).1, ok_m1 ok, Int32.le_refl, eq_self, reduceCtorEq, true_implies, false_implies, and_true, true_and, not_true_eq_false, not_false_eq_true]
    exact h s f hg hT
theorem par_n {t : Nat} {f : Bool} (h : f = decide (t % 2 = 0)) : (!f) = decide ((t + 1) % 2 = 0) := by
  rw [h, ← decide_not, decide_eq_decide]
  omega
theorem or_10 {c i : Nat} (hc : c < 1024) (hi : i < 10) : c ||| 2 ^ i < 1024 := Nat.or_lt_two_pow (n := 10) hc (Nat.pow_lt_pow_right (by omega) hi)
theorem x_play {S : vSt} {m : Nat → Int32} {p o : Nat} (ok : a_ok m) (R : a_R S 10 m) (g : a_gms S m p o) : ∀ (k fu t c : Nat) (f : Bool) (K : Int64 → vSt → Prop), t + k ≤ 3 → S.1 68 5 = nI (t + k) → f = decide (t % 2 = 0) → c < 1024 → K (lI (a_pl m p o k f c)) S → p_X2_play (k + 1 + fu) S (nI t) (nI c) K
  | 0, fu, t, c, f, K, hk, hT, hf, hc, h => by
    rw [show 0 + 1 + fu = fu + 1 by omega]
    show pb_X2_play (p_X2_play fu) S (nI t) (nI c) K
    unfold pb_X2_play
    have h1 : nI (t + 0) ≤ nI t := Int32.le_refl _
    simp only [hT, h1, eq_self, reduceCtorEq, true_implies, false_implies, and_true, true_and, not_true_eq_false, not_false_eq_true]
    exact h
  | k + 1, fu, t, c, f, K, hk, hT, hf, hc, h => by
    have h10 := ok_D10 ok
    rw [show k + 1 + 1 + fu = (k + 1 + fu) + 1 by omega]
    show pb_X2_play (p_X2_play (k + 1 + fu)) S (nI t) (nI c) K
    have h1 : ¬ nI (t + (k + 1)) ≤ nI t := nI_ge (by omega) (by omega)
    have h2 : nI t < 3 := nI_lt (b := 3) (by omega) (by omega)
    have e2 : nI t - nI t / 2 * 2 = nI (t % 2) := pk_rem (d := 2) (by omega) (by omega) (by omega)
    have hT2 : S.1 68 5 = nI (t + 1 + k) := by rw [hT]; congr 1; omega
    have hf2 := par_n hf
    have ih := x_play ok R g k fu
    have key : p_X2_play_26 (nI t) (nI c) (p_X2_play (k + 1 + fu)) K S f := by
      unfold p_X2_play_26
      rw [nIs]
      refine ih (t + 1) c (!f) _ (by omega) hT2 hf2 hc ?_
      refine v_loop (fun fu2 i (z : Int64) => p_X2_play_40 (nI t) (nI c) (p_X2_play (k + 1 + fu)) K fu2 S f z (nI i)) (fun i z => z = lI (a_fd f (a_cd m p o f c) (a_pv m p o k f c) (a_pl m p o k (!f) c) i)) (a_D m) (fun fu2 i z hi hz hk2 => ?_) (fun fu2 z hz => ?_) _ rfl
      · subst hz
        have h3 : ¬ nI (a_D m) ≤ nI i := nI_ge hi (by omega)
        obtain ⟨g1, g2⟩ := g i hi
        have nxt : ∀ z, z = lI (a_fd f (a_cd m p o f c) (a_pv m p o k f c) (a_pl m p o k (!f) c) (i + 1)) → p_X2_play_130 (nI t) (nI c) (p_X2_play (k + 1 + fu)) (p_X2_play_40 (nI t) (nI c) (p_X2_play (k + 1 + fu)) K fu2) K S f z (nI i) := by
          intro z hz
          unfold p_X2_play_130
          simp only [forall_eq, nIs]
          exact hk2 _ hz
        have skip : a_cd m p o f c i = false → p_X2_play_130 (nI t) (nI c) (p_X2_play (k + 1 + fu)) (p_X2_play_40 (nI t) (nI c) (p_X2_play (k + 1 + fu)) K fu2) K S f (lI (a_fd f (a_cd m p o f c) (a_pv m p o k f c) (a_pl m p o k (!f) c) i)) (nI i) := by
          intro e
          refine nxt _ ?_
          rw [fd_s, e, if_neg (by decide)]
        have st : p_X2_play_70 (nI t) (nI c) (p_X2_play (k + 1 + fu)) (p_X2_play_40 (nI t) (nI c) (p_X2_play (k + 1 + fu)) K fu2) K S f (lI (a_fd f (a_cd m p o f c) (a_pv m p o k f c) (a_pl m p o k (!f) c) i)) (nI i) (nI (if f = true then 1 else 2)) (nI (a_mv m p o i)) := by
          unfold p_X2_play_70
          have ev : nI (a_mv m p o i) = nI (if f = true then 1 else 2) ↔ a_mv m p o i = (if f = true then 1 else 2) := nI_eq (by have := mv_le m p o i; omega) (by split <;> omega)
          by_cases q : a_mv m p o i = (if f = true then 1 else 2)
          · simp only [ev.mpr q, eq_self, reduceCtorEq, true_implies, false_implies, and_true, true_and, not_true_eq_false, not_false_eq_true, e_xisIn (show i < 31 by omega), bit_at c hc i (show i < 10 by omega)]
            cases b : c.testBit i
            · simp only [eq_self, reduceCtorEq, true_implies, false_implies, and_true, true_and, not_true_eq_false, not_false_eq_true]
              have nz : a_mv m p o i ≠ 0 := by rw [q]; split <;> omega
              rw [e_atl (show i < 10 by omega) (by omega), g2 nz, bit_1 i (by omega), bit_or c hc i (by omega), nIs]
              refine ih (t + 1) (c ||| 2 ^ i) (!f) _ (by omega) hT2 hf2 (or_10 hc (by omega)) ?_
              have e : a_cd m p o f c i = true := by unfold a_cd; rw [decide_eq_true q, b]; rfl
              have efd : a_fd f (a_cd m p o f c) (a_pv m p o k f c) (a_pl m p o k (!f) c) (i + 1) = a_mm f (a_fd f (a_cd m p o f c) (a_pv m p o k f c) (a_pl m p o k (!f) c) i) (a_pv m p o k f c i) := by rw [fd_s, if_pos e]
              have ep : lI (a_wo m p o i) + lI (a_pl m p o k (!f) (c ||| 2 ^ i)) = lI (a_pv m p o k f c i) := lI_add _ _
              have ff := fdp_fit ok p o (show k ≤ 3 by omega) f c (show i ≤ a_D m by omega)
              have fp := pv_fit ok p o (show k ≤ 3 by omega) f c hi
              simp only [forall_eq, ep]
              unfold p_X2_play_128
              rw [lI_min ff fp, lI_max ff fp]
              refine ⟨fun ef => nxt _ ?_, fun ef => nxt _ ?_⟩
              · rw [efd]; unfold a_mm; rw [if_neg (by rw [ef]; decide)]
              · rw [efd]; unfold a_mm; rw [if_pos ef]
            · simp only [eq_self, reduceCtorEq, true_implies, false_implies, and_true, true_and, not_true_eq_false, not_false_eq_true]
              refine skip ?_
              unfold a_cd; rw [b]; simp
          · have q' : ¬ nI (a_mv m p o i) = nI (if f = true then 1 else 2) := fun w => q (ev.mp w)
            simp only [q', eq_self, reduceCtorEq, true_implies, false_implies, and_true, true_and, not_true_eq_false, not_false_eq_true]
            refine skip ?_
            unfold a_cd; rw [decide_eq_false q]; rfl
        simp only [e_X2_play_40, R_1 R, ok_m1 ok, h3, eq_self, reduceCtorEq, true_implies, false_implies, and_true, true_and, not_true_eq_false, not_false_eq_true, e_at (show i < 10 by omega) (show 10 < 2 ^ 31 by omega), g1]
        refine ⟨fun ef => ?_, fun ef => ?_⟩
        · rw [if_neg (by rw [ef]; decide)] at st; exact st
        · rw [if_pos ef] at st; exact st
      · subst hz
        simp only [e_X2_play_40, R_1 R, ok_m1 ok, Int32.le_refl, eq_self, reduceCtorEq, true_implies, false_implies, and_true, true_and, not_true_eq_false, not_false_eq_true]
        exact h
    unfold pb_X2_play
    simp only [hT, h1, h2, e2, eq_self, reduceCtorEq, true_implies, false_implies, and_true, true_and, not_true_eq_false, not_false_eq_true]
    by_cases q : t % 2 = 0
    · have e3 : nI (t % 2) = 0 := by rw [q]; rfl
      rw [decide_eq_true q] at hf
      rw [hf] at key
      simp only [e3, eq_self, reduceCtorEq, true_implies, false_implies, and_true, true_and, not_true_eq_false, not_false_eq_true]
      exact key
    · have e3 : ¬ nI (t % 2) = 0 := nI_ne0 (by omega) (by omega)
      rw [decide_eq_false q] at hf
      rw [hf] at key
      simp only [e3, eq_self, reduceCtorEq, true_implies, false_implies, and_true, true_and, not_true_eq_false, not_false_eq_true]
      exact key
theorem x_outcome {S : vSt} {m : Nat → Int32} {p o k : Nat} {K : Int64 → vSt → Prop} (ok : a_ok m) (R : a_R S 10 m) (g : a_gms S m p o) (hk : k ≤ 3) (hT : S.1 68 5 = nI k) (h : K (lI (a_pl m p o k true 0)) S) : p_X2_outcome S K := by
  unfold p_X2_outcome
  have c1 := x_play ok R g k (5 - k) 0 0 true
  rw [show k + 1 + (5 - k) = 6 by omega] at c1
  exact c1 _ (by omega) (by rw [hT, Nat.zero_add]) rfl (by omega) h
/-- the first move -/
def a_fc (m : Nat → Int32) (p o k d : Nat) : Bool := a_cd m p o true 0 d && decide (a_pv m p o k true 0 d = a_pl m p o (k + 1) true 0)
def a_first (m : Nat → Int32) (p o k : Nat) : Int32 := a_fg (a_fc m p o k) nI (a_D m)
theorem x_firstMove {S : vSt} {m : Nat → Int32} {p o k : Nat} {K : Int32 → vSt → Prop} (ok : a_ok m) (R : a_R S 10 m) (g : a_gms S m p o) (hk : k ≤ 2) (hT : S.1 68 5 = nI (k + 1)) (h : K (a_first m p o k) S) : p_X2_firstMove S K := by
  have h10 := ok_D10 ok
  unfold p_X2_firstMove
  refine x_outcome ok R g (by omega) hT ?_
  refine v_loop (fun fu i (z : Unit) => p_X2_firstMove_7 K fu S (lI (a_pl m p o (k + 1) true 0)) (nI i)) (fun i z => ∀ j, j < i → a_fc m p o k j = false) (a_D m) (fun fu i z hi hz hk2 => ?_) (fun fu z hz => ?_) () (fun j hj => absurd hj (by omega))
  · have h3 : ¬ nI (a_D m) ≤ nI i := nI_ge hi (by omega)
    obtain ⟨g1, g2⟩ := g i hi
    have nxt : a_fc m p o k i = false → p_X2_firstMove_54 (p_X2_firstMove_7 K fu) K S (lI (a_pl m p o (k + 1) true 0)) (nI i) := by
      intro e
      unfold p_X2_firstMove_54
      simp only [forall_eq, nIs]
      refine hk2 () (fun j hj => ?_)
      by_cases q : j = i
      · rw [q]; exact e
      · exact hz j (by omega)
    simp only [e_X2_firstMove_7, R_1 R, ok_m1 ok, h3, eq_self, reduceCtorEq, true_implies, false_implies, and_true, true_and, not_true_eq_false, not_false_eq_true, e_at (show i < 10 by omega) (show 10 < 2 ^ 31 by omega), g1]
    have ev : nI (a_mv m p o i) = 1 ↔ a_mv m p o i = 1 := nI_eq (b := 1) (by have := mv_le m p o i; omega) (by omega)
    by_cases q : a_mv m p o i = 1
    · have e0 : a_cd m p o true 0 i = true := by
        unfold a_cd
        rw [decide_eq_true (show a_mv m p o i = if true = true then 1 else 2 by rw [if_pos rfl]; exact q), Nat.zero_testBit]
        rfl
      simp only [ev.mpr q, eq_self, reduceCtorEq, true_implies, false_implies, and_true, true_and, not_true_eq_false, not_false_eq_true, e_atl (show i < 10 by omega) (show 10 < 2 ^ 31 by omega), g2 (by omega), bit_1 i (show i < 31 by omega)]
      have c2 := x_play ok R g k (5 - k) 1 (2 ^ i) false
      rw [show k + 1 + (5 - k) = 6 by omega] at c2
      have hi2 : 2 ^ i < 1024 := Nat.pow_lt_pow_right (n := 10) (by omega) (by omega)
      refine c2 _ (by omega) (by rw [hT, Nat.add_comm 1 k]) rfl hi2 ?_
      have ep : lI (a_wo m p o i) + lI (a_pl m p o k false (2 ^ i)) = lI (a_pv m p o k true 0 i) := by
        rw [lI_add]
        unfold a_pv
        rw [Nat.zero_or]
        rfl
      have fp := pv_fit ok p o (show k ≤ 3 by omega) true 0 hi
      have fl := pl_fit ok p o (show k + 1 ≤ 4 by omega) true 0
      simp only [ep, lI_eq fp fl]
      by_cases w : a_pv m p o k true 0 i = a_pl m p o (k + 1) true 0
      · simp only [w, eq_self, reduceCtorEq, true_implies, false_implies, and_true, true_and, not_true_eq_false, not_false_eq_true]
        have e : a_first m p o k = nI i := fg_some hz (by unfold a_fc; rw [e0, decide_eq_true w]; rfl) hi
        rw [e] at h
        exact h
      · simp only [w, eq_self, reduceCtorEq, true_implies, false_implies, and_true, true_and, not_true_eq_false, not_false_eq_true]
        exact nxt (by unfold a_fc; rw [decide_eq_false w, Bool.and_false])
    · have q' : ¬ nI (a_mv m p o i) = 1 := fun w => q (ev.mp w)
      simp only [q', eq_self, reduceCtorEq, true_implies, false_implies, and_true, true_and, not_true_eq_false, not_false_eq_true]
      refine nxt ?_
      unfold a_fc a_cd
      rw [decide_eq_false (show ¬ a_mv m p o i = if true = true then 1 else 2 by rw [if_pos rfl]; exact q)]
      rfl
  · simp only [e_X2_firstMove_7, R_1 R, ok_m1 ok, Int32.le_refl, eq_self, reduceCtorEq, true_implies, false_implies, and_true, true_and, not_true_eq_false, not_false_eq_true]
    have e : a_first m p o k = -1 := fg_none hz
    rw [e] at h
    exact h
