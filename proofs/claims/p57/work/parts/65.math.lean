/-! what the answers are worth: pure facts -/
theorem bst_c (f : Nat → Int) : ∀ n, ((a_bst f n).1 = -1 ∧ (a_bst f n).2 = 0 ∧ ∀ i, i < n → f i ≤ 0) ∨ ∃ d, d < n ∧ (a_bst f n).1 = nI d ∧ (a_bst f n).2 = f d ∧ 0 < f d ∧ ∀ i, i < n → f i ≤ f d
  | 0 => Or.inl ⟨rfl, rfl, fun i hi => absurd hi (by omega)⟩
  | n + 1 => by
    rw [bst_s]
    rcases bst_c f n with ⟨h1, h2, h3⟩ | ⟨d, hd, h1, h2, h3, h4⟩
    · split
      · next q =>
        rw [h2] at q
        refine Or.inr ⟨n, by omega, rfl, rfl, q, fun i hi => ?_⟩
        rcases (show i < n ∨ i = n by omega) with c | rfl
        · have := h3 i c; omega
        · exact Int.le_refl _
      · next q =>
        rw [h2] at q
        refine Or.inl ⟨h1, h2, fun i hi => ?_⟩
        rcases (show i < n ∨ i = n by omega) with c | rfl
        · exact h3 i c
        · omega
    · split
      · next q =>
        rw [h2] at q
        refine Or.inr ⟨n, by omega, rfl, rfl, by omega, fun i hi => ?_⟩
        rcases (show i < n ∨ i = n by omega) with c | rfl
        · have := h4 i c; omega
        · exact Int.le_refl _
      · next q =>
        rw [h2] at q
        refine Or.inr ⟨d, by omega, h1, h2, h3, fun i hi => ?_⟩
        rcases (show i < n ∨ i = n by omega) with c | rfl
        · exact h4 i c
        · omega
theorem mild_c (m : Nat → Int32) (d : Nat) : ∀ n, n ≤ 8 → ((a_mild m d n).1 = -1 ∧ ∀ i, i < n → a_can m i d = false) ∨ ∃ p, p < n ∧ (a_mild m d n).1 = nI p ∧ (a_mild m d n).2 = (a_loss m p d : Int) ∧ a_can m p d = true ∧ ∀ i, i < n → a_can m i d = true → a_loss m p d ≤ a_loss m i d
  | 0, _ => Or.inl ⟨rfl, fun i hi => absurd hi (by omega)⟩
  | n + 1, hn => by
    rw [mild_s]
    rcases mild_c m d n (by omega) with ⟨h1, h3⟩ | ⟨p, hp, h1, h2, h3, h4⟩
    · by_cases c : a_can m n d = true
      · rw [if_pos ⟨c, Or.inl h1⟩]
        refine Or.inr ⟨n, by omega, rfl, rfl, c, fun i hi w => ?_⟩
        rcases (show i < n ∨ i = n by omega) with q | rfl
        · rw [h3 i q] at w; cases w
        · exact Nat.le_refl _
      · rw [if_neg (fun w => c w.1)]
        refine Or.inl ⟨h1, fun i hi => ?_⟩
        rcases (show i < n ∨ i = n by omega) with q | rfl
        · exact h3 i q
        · rw [Bool.not_eq_true] at c; exact c
    · have nm := (nI_nm1 (p := p) (by omega)).1
      by_cases c : a_can m n d = true ∧ a_loss m n d < a_loss m p d
      · rw [if_pos ⟨c.1, Or.inr (by rw [h2]; omega)⟩]
        refine Or.inr ⟨n, by omega, rfl, rfl, c.1, fun i hi w => ?_⟩
        rcases (show i < n ∨ i = n by omega) with q | rfl
        · have := h4 i q w; omega
        · exact Nat.le_refl _
      · rw [if_neg (fun w => by
          rcases w.2 with q | q
          · rw [h1] at q; exact nm q
          · rw [h2] at q; exact c ⟨w.1, by omega⟩)]
        refine Or.inr ⟨p, by omega, h1, h2, h3, fun i hi w => ?_⟩
        rcases (show i < n ∨ i = n by omega) with q | rfl
        · exact h4 i q w
        · exact Nat.le_of_not_lt (fun r => c ⟨w, r⟩)
theorem dr_ex {m : Nat → Int32} {d : Nat} (ok : a_ok m) (hd : d < a_D m) : ∀ n, a_dr m d n ≠ 0 ↔ ∃ p, p < n ∧ a_can m p d = true ∧ 0 < a_gain m p d
  | 0 => ⟨fun h => absurd rfl h, fun ⟨p, h, _⟩ => absurd h (by omega)⟩
  | n + 1 => by
    have ih := dr_ex ok hd n
    by_cases c : a_can m n d = true ∧ 0 < a_gain m n d
    · have e : a_dr m d (n + 1) = max (a_dr m d n) (a_loss m n d) := if_pos c
      have l := glad_loss (p := n) ok hd c.2
      refine ⟨fun _ => ⟨n, by omega, c.1, c.2⟩, fun _ => ?_⟩
      rw [e]; omega
    · have e : a_dr m d (n + 1) = a_dr m d n := if_neg c
      rw [e, ih]
      constructor
      · rintro ⟨p, h, w⟩; exact ⟨p, by omega, w⟩
      · rintro ⟨p, h, w⟩
        rcases (show p < n ∨ p = n by omega) with q | rfl
        · exact ⟨p, q, w⟩
        · exact absurd w c
theorem gh_pos {m : Nat → Int32} {p d : Nat} : 0 < a_gh m p d ↔ a_can m p d = true ∧ 0 < a_gain m p d := by
  unfold a_gh
  by_cases c : a_can m p d = true
  · rw [if_pos c]
    exact ⟨fun h => ⟨c, by omega⟩, fun h => by omega⟩
  · rw [if_neg c]
    exact ⟨fun h => absurd h (by omega), fun h => absurd h.1 c⟩
theorem gh_max {m : Nat → Int32} {p d : Nat} (c : a_can m p d = true) : a_gh m p d = max 0 (a_gain m p d) := if_pos c
/-- the accuser by whom one is glad -/
theorem acc_c {m : Nat → Int32} {d : Nat} (ok : a_ok m) (hd : d < a_D m) : ((a_bst (fun i => a_gh m i d) (a_P m)).1 = -1 ∧ a_dread m d = 0 ∧ ∀ i, i < a_P m → a_can m i d = true → a_gain m i d ≤ 0) ∨ ∃ p, p < a_P m ∧ (a_bst (fun i => a_gh m i d) (a_P m)).1 = nI p ∧ a_dread m d ≠ 0 ∧ a_can m p d = true ∧ ∀ i, i < a_P m → a_can m i d = true → a_gain m i d ≤ a_gain m p d := by
  have ex := dr_ex ok hd (a_P m)
  rcases bst_c (fun i => a_gh m i d) (a_P m) with ⟨h1, -, h3⟩ | ⟨p, hp, h1, -, h3, h4⟩
  · have h3 : ∀ i, i < a_P m → a_can m i d = true → a_gain m i d ≤ 0 := fun i hi w => by
      have q : a_gh m i d ≤ 0 := h3 i hi
      rw [gh_max w] at q; omega
    refine Or.inl ⟨h1, ?_, h3⟩
    by_cases q : a_dread m d = 0
    · exact q
    · obtain ⟨p, hp, c, g⟩ := ex.mp q
      have := h3 p hp c; omega
  · have h3 : 0 < a_gh m p d := h3
    obtain ⟨c, g⟩ := gh_pos.mp h3
    refine Or.inr ⟨p, hp, h1, ex.mpr ⟨p, hp, c, g⟩, c, fun i hi w => ?_⟩
    have q : a_gh m i d ≤ a_gh m p d := h4 i hi
    rw [gh_max w, gh_max c] at q; omega
/-- the best charge is the plan of one -/
theorem plan_1 {m : Nat → Int32} {p : Nat} : a_plan m p 1 = max 0 (a_pg m p (a_amx (a_pg m p) 9)) := by
  show max 0 (a_pg m p (a_amx (a_pg m p) 9)) + 0 = _
  omega
theorem pg_at {m : Nat → Int32} {p d : Nat} : (d < a_D m ∧ max 0 (a_pg m p d) = a_gh m p d) ∨ (¬ d < a_D m ∧ a_pg m p d = 0) := by
  by_cases h : d < a_D m
  · exact Or.inl ⟨h, pg_gh h⟩
  · refine Or.inr ⟨h, ?_⟩
    unfold a_pg
    rw [if_neg (fun w => h w.1)]
theorem best_c {m : Nat → Int32} (ok : a_ok m) (p : Nat) : ((a_bst (fun i => a_gh m p i) (a_D m)).1 = -1 ∧ a_plan m p 1 = 0) ∨ ∃ d, d < a_D m ∧ (a_bst (fun i => a_gh m p i) (a_D m)).1 = nI d ∧ a_can m p d = true ∧ 0 < a_gain m p d ∧ a_plan m p 1 = a_gain m p d := by
  have h10 := ok_D10 ok
  obtain ⟨-, hm⟩ := amx_ok (a_pg m p) 9
  rw [plan_1]
  rcases bst_c (fun i => a_gh m p i) (a_D m) with ⟨h1, -, h3⟩ | ⟨d, hd, h1, -, h3, h4⟩
  · refine Or.inl ⟨h1, ?_⟩
    rcases pg_at (m := m) (p := p) (d := a_amx (a_pg m p) 9) with ⟨q, e⟩ | ⟨q, e⟩
    · have : a_gh m p (a_amx (a_pg m p) 9) ≤ 0 := h3 _ q
      omega
    · omega
  · have h3 : 0 < a_gh m p d := h3
    obtain ⟨c, g⟩ := gh_pos.mp h3
    have hmd := hm d (by omega)
    have ed := pg_gh (p := p) hd
    have eg := gh_max c
    refine Or.inr ⟨d, hd, h1, c, g, ?_⟩
    rcases pg_at (m := m) (p := p) (d := a_amx (a_pg m p) 9) with ⟨q, e⟩ | ⟨q, e⟩
    · have : a_gh m p (a_amx (a_pg m p) 9) ≤ a_gh m p d := h4 _ q
      omega
    · omega
theorem plan_10 {m : Nat → Int32} (ok : a_ok m) (p : Nat) : a_plan m p 1 ≤ a_plan m p 10 := by
  have h := (top_bd (c := ((a_all m * 999 : Nat) : Int)) (by omega) 9 (a_up (a_pg m p) (a_amx (a_pg m p) 9) 0) (fun j => by unfold a_up; split; omega; exact pg_le ok p j)).1
  rw [plan_1]
  show _ ≤ max 0 (a_pg m p (a_amx (a_pg m p) 9)) + a_top 9 (a_up (a_pg m p) (a_amx (a_pg m p) 9) 0)
  omega
/-- TRADE -/
theorem lo_ok {m : Nat → Int32} {p d : Nat} : a_gain m p d ≤ ((a_lo m p d * a_all m : Nat) : Int) := by
  have h0 := all_pos m
  have h1 : a_gain m p d ≤ (a_gn m p d : Int) := by unfold a_gn; omega
  have h2 : a_gn m p d ≤ a_lo m p d * a_all m := by
    unfold a_lo
    have e := Nat.div_add_mod (a_gn m p d + a_all m - 1) (a_all m)
    have r := Nat.mod_lt (a_gn m p d + a_all m - 1) h0
    rw [Nat.mul_comm] at e
    omega
  omega
/-! sets -/
theorem set_and0 {a b : Nat → Bool} {n : Nat} (hn : n ≤ 31) (h : ∀ d, d < n → a d = true → b d = false) : v_set a n &&& v_set b n = 0 := by
  refine b_ext (fun i hi => ?_)
  rw [b_and, bt_set a n i hn hi, bt_set b n i hn hi, b_0]
  by_cases c : i < n
  · cases e : a i
    · simp
    · simp [h i c e]
  · simp [c]
theorem set_sub0 {a b : Nat → Bool} {n : Nat} (hn : n ≤ 31) (h : ∀ d, d < n → a d = true → b d = true) : v_set a n &&& (v_set b n ^^^ (-1)) = 0 := by
  refine b_ext (fun i hi => ?_)
  rw [b_and, b_xor, b_m1 i hi, bt_set a n i hn hi, bt_set b n i hn hi, b_0]
  by_cases c : i < n
  · cases e : a i
    · simp
    · simp [h i c e, c]
  · simp [c]
theorem set_or {a b c : Nat → Bool} {n : Nat} (hn : n ≤ 31) (h : ∀ d, d < n → (a d || b d) = c d) : v_set a n ||| v_set b n = v_set c n := by
  refine b_ext (fun i hi => ?_)
  rw [b_or, bt_set a n i hn hi, bt_set b n i hn hi, bt_set c n i hn hi]
  by_cases q : i < n
  · rw [← h i q]; simp [q]
  · simp [q]
theorem and_one (y : Int32) : y &&& 1 = 0 ∨ y &&& 1 = 1 := by
  rw [pk_and y 1 (by decide)]
  rcases (show y.toBitVec.toNat % 2 ^ 1 = 0 ∨ y.toBitVec.toNat % 2 ^ 1 = 1 by omega) with e | e
  · rw [e]; exact Or.inl rfl
  · rw [e]; exact Or.inr rfl
theorem set_sh {c : Nat → Bool} {n d : Nat} (hn : n ≤ 10) (hd : d < n) : ((v_set c n >>> (nI d &&& 31)) &&& 1 = 1 ↔ c d = true) ∧ ((v_set c n >>> (nI d &&& 31)) &&& 1 = 0 ↔ c d = false) := by
  have h := set_bit (c := c) hn hd
  unfold v_bit at h
  rcases and_one (v_set c n >>> (nI d &&& 31)) with e | e
  · rw [e] at h ⊢
    have h : false = c d := h
    rw [← h]
    decide
  · rw [e] at h ⊢
    have h : true = c d := h
    rw [← h]
    decide
theorem nat_sh {q d : Nat} (hq : q < 1024) (hd : d < 10) : ((nI q >>> (nI d &&& 31)) &&& 1 = 1 ↔ q.testBit d = true) := by
  have h := bit_at q hq d hd
  unfold v_bit at h
  rw [← h, decide_eq_true_iff]
/-! the first that has it -/
theorem fg_le {c : Nat → Bool} {val : Nat → Int32} {n i : Nat} (hc : c i = true) (hi : i < n) : ∃ k, k ≤ i ∧ c k = true ∧ a_fg c val n = val k := by
  obtain ⟨k, hk, h⟩ := pk_least (fun k => c k = true) ⟨i, hc⟩
  have hki : k ≤ i := Nat.le_of_not_lt (fun w => h i w hc)
  exact ⟨k, hki, hk, fg_some (fun j hj => by have := h j hj; rw [Bool.not_eq_true] at this; exact this) hk (by omega)⟩
theorem fg_any {c : Nat → Bool} {val : Nat → Int32} (n : Nat) : (a_fg c val n = -1 ∧ ∀ i, i < n → c i = false) ∨ ∃ k, k < n ∧ c k = true ∧ a_fg c val n = val k := by
  by_cases h : ∃ i, i < n ∧ c i = true
  · obtain ⟨i, hi, hc⟩ := h
    obtain ⟨k, hk, e1, e2⟩ := fg_le (val := val) hc hi
    exact Or.inr ⟨k, by omega, e1, e2⟩
  · have h : ∀ i, i < n → c i = false := fun i hi => by
      cases e : c i
      · rfl
      · exact absurd ⟨i, hi, e⟩ h
    exact Or.inl ⟨fg_none h, h⟩
theorem share_le {m : Nat → Int32} {d : Nat} (ok : a_ok m) (hd : d < a_D m) (g : a_dread m d ≠ 0) : ∃ k, k ≤ a_H m ∧ a_fg (a_gS m d) nI 17 = nI k := by
  have hH := (ok_H1 ok).2
  have e : a_gS m d (a_H m) = true := by
    rw [gS_gl ok hd hH]
    have := gl_dread ok hd
    rw [decide_eq_true g] at this
    exact this
  obtain ⟨k, hk, -, e2⟩ := fg_le (val := nI) e (show a_H m < 17 by omega)
  exact ⟨k, hk, e2⟩
theorem fine_le {m : Nat → Int32} {d : Nat} (ok : a_ok m) (hd : d < a_D m) (g : a_dread m d ≠ 0) : ∃ k, k < a_f m d ∧ a_fg (a_gF m d) (fun i => nI (1 + i)) 999 = nI (1 + k) := by
  have hf := (ok_f1 ok hd).2
  have e : a_gF m d (a_f m d - 1) = true := by
    rw [gF_gl ok hd (by omega), show 1 + (a_f m d - 1) = a_f m d by omega]
    have := gl_dread ok hd
    rw [decide_eq_true g] at this
    exact this
  obtain ⟨k, hk, -, e2⟩ := fg_le (val := fun i => nI (1 + i)) e (show a_f m d - 1 < 999 by omega)
  exact ⟨k, by omega, e2⟩
theorem pen_ge {m : Nat → Int32} {d : Nat} (ok : a_ok m) (hd : d < a_D m) (g : a_dread m d ≠ 0) : ∃ k, a_L m ≤ k ∧ k ≤ 999 ∧ a_fg (a_gP m d) (fun i => nI (999 - i)) 1000 = nI k := by
  have hL := (ok_L1 ok).2
  have e : a_gP m d (999 - a_L m) = true := by
    rw [gP_gl ok hd (by omega), show 999 - (999 - a_L m) = a_L m by omega]
    have := gl_dread ok hd
    rw [decide_eq_true g] at this
    exact this
  obtain ⟨k, hk, -, e2⟩ := fg_le (val := fun i => nI (999 - i)) e (show 999 - a_L m < 1000 by omega)
  exact ⟨999 - k, by omega, by omega, e2⟩
/-! what was gained -/
theorem pay_1 (L : Nat) : ∀ r, 1 ≤ a_pay L 0 r
  | 0 => by unfold a_pay; rw [if_pos rfl]; omega
  | r + 1 => by
    have := pay_1 L r
    show 1 ≤ a_pay L 0 r + a_pay L (0 - L) r
    omega
theorem G_none (m : Nat → Int32) : ∀ l r, 1 ≤ (a_G m l 0 r 0).1 ∧ (a_G m l 0 r 0).2 = 0
  | [], r => by
    have h := pay_1 (a_L m) r
    show 1 ≤ a_pay (a_L m) 0 r ∧ (if a_pay (a_L m) 0 r = 0 then 1023 else 0) = 0
    refine ⟨h, ?_⟩
    rw [if_neg (by omega)]
  | d :: l, r => by
    obtain ⟨h1, h2⟩ := G_none m l (r + 1)
    show 1 ≤ (a_G m l 0 (r + 1) 0).1 + _ ∧ (a_G m l 0 (r + 1) 0).2 &&& _ = 0
    rw [h2, Nat.zero_and]
    exact ⟨by omega, rfl⟩
theorem G_all (m : Nat → Int32) : ∀ l w, 1 ≤ (a_G m l ((a_ls m l : Nat) : Int) 0 w).1
  | [], w => by
    show 1 ≤ a_pay (a_L m) 0 0
    exact pay_1 _ 0
  | d :: l, w => by
    have h := G_all m l (w ||| 2 ^ d)
    have e : ((a_ls m (d :: l) : Nat) : Int) - (a_part m d : Int) = ((a_ls m l : Nat) : Int) := by
      show ((a_part m d + a_ls m l : Nat) : Int) - (a_part m d : Int) = _
      omega
    show 1 ≤ _ + (a_G m l (((a_ls m (d :: l) : Nat) : Int) - (a_part m d : Int)) 0 (w ||| 2 ^ d)).1
    rw [e]
    omega
theorem ls_le {m : Nat → Int32} (ok : a_ok m) : ∀ l : List Nat, (∀ d, d ∈ l → d < a_D m) → a_ls m l ≤ l.length * 999
  | [], _ => Nat.zero_le _
  | d :: l, h => by
    have h1 := ls_le ok l (fun e he => h e (List.mem_cons_of_mem _ he))
    have h2 := sum_part ok (h d List.mem_cons_self)
    show a_part m d + a_ls m l ≤ (l.length + 1) * 999
    omega
/-! CLUB -/
theorem stay_at {m : Nat → Int32} (q p : Nat) : (a_stay m q).testBit p = (decide (p < a_P m) && (q.testBit p && !a_go m q p)) := ns_bit _ _ _
theorem cl_sub {m : Nat → Int32} : ∀ r q, q < 2 ^ a_P m → a_cl m r q < 2 ^ a_P m ∧ ∀ j, (a_cl m r q).testBit j = true → q.testBit j = true
  | 0, q, hq => ⟨hq, fun _ h => h⟩
  | r + 1, q, hq => by
    have e : a_cl m (r + 1) q = if a_stay m q = q then q else a_cl m r (a_stay m q) := rfl
    by_cases c : a_stay m q = q
    · rw [e, if_pos c]; exact ⟨hq, fun _ h => h⟩
    · rw [e, if_neg c]
      obtain ⟨h1, h2⟩ := cl_sub r (a_stay m q) (stay_2P q)
      refine ⟨h1, fun j hj => ?_⟩
      have := h2 j hj
      rw [stay_at, Bool.and_eq_true, Bool.and_eq_true] at this
      exact this.2.1
theorem cl_stay {m : Nat → Int32} (ok : a_ok m) : ∀ r q, q < 2 ^ a_P m → a_cnt q 10 < r → a_stay m (a_cl m r q) = a_cl m r q
  | 0, _, _, h => absurd h (by omega)
  | r + 1, q, hq, h => by
    have hP := pow_P ok
    have hs := stay_2P (m := m) q
    have e : a_cl m (r + 1) q = if a_stay m q = q then q else a_cl m r (a_stay m q) := rfl
    by_cases c : a_stay m q = q
    · rw [e, if_pos c]; exact c
    · rw [e, if_neg c]
      have := cnt_lt (a := a_stay m q) (b := q) (by omega) (by omega) (fun j w => by rw [stay_bit hq, Bool.and_eq_true] at w; exact w.1) c
      exact cl_stay ok r _ hs (by omega)
theorem cnt_cut {m : Nat → Int32} (ok : a_ok m) {q : Nat} (hq : q < 2 ^ a_P m) : a_cnt q 10 = a_cnt q (a_P m) := by
  have h8 := ok_P8 ok
  have h := sum_cut (f := fun j => if q.testBit j = true then 1 else 0) (e := a_P m) (10 - a_P m) (fun j h1 _ => by rw [q_bit hq (j := j) (by omega)]; rfl)
  rw [show a_P m + (10 - a_P m) = 10 by omega] at h
  exact h
theorem some_bit {q : Nat} (h : q ≠ 0) : ∃ j, q.testBit j = true := by
  refine Classical.byContradiction (fun w => h ?_)
  refine Nat.eq_of_testBit_eq (fun j => ?_)
  rw [Nat.zero_testBit]
  cases e : q.testBit j
  · rfl
  · exact absurd ⟨j, e⟩ w
theorem stay_pos {m : Nat → Int32} (ok : a_ok m) {q : Nat} (hq : q < 2 ^ a_P m) (h0 : q ≠ 0) : a_stay m q ≠ 0 := by
  have hP := pow_P ok
  intro w
  have go : ∀ p, q.testBit p = true → a_da m p * a_cnt q 10 < a_ds m q (a_P m) := fun p hp => by
    have hp8 : p < a_P m := Classical.byContradiction (fun c => by rw [q_bit hq c] at hp; cases hp)
    have e := stay_at (m := m) q p
    rw [w, Nat.zero_testBit, decide_eq_true hp8, hp] at e
    cases g : a_go m q p
    · rw [g] at e; cases e
    · exact of_decide_eq_true g
  obtain ⟨j, hj⟩ := some_bit h0
  have hs := go j hj
  have hc := cnt_0 (q := q) (by omega) h0
  have e1 : a_sum (fun p => (if q.testBit p = true then a_da m p else 0) * a_cnt q 10) (a_P m) = a_ds m q (a_P m) * a_cnt q 10 := sum_mul _
  have e2 : a_sum (fun p => (if q.testBit p = true then 1 else 0) * (a_ds m q (a_P m) - 1)) (a_P m) = a_cnt q (a_P m) * (a_ds m q (a_P m) - 1) := sum_mul _
  have le := sum_le (f := fun p => (if q.testBit p = true then a_da m p else 0) * a_cnt q 10) (g := fun p => (if q.testBit p = true then 1 else 0) * (a_ds m q (a_P m) - 1)) (a_P m) (fun p _ => by
    show (if q.testBit p = true then a_da m p else 0) * a_cnt q 10 ≤ (if q.testBit p = true then 1 else 0) * (a_ds m q (a_P m) - 1)
    by_cases c : q.testBit p = true
    · rw [if_pos c, if_pos c]
      have := go p c
      omega
    · rw [if_neg c, if_neg c]
      omega)
  rw [e1, e2, ← cnt_cut ok hq, Nat.mul_comm (a_ds m q (a_P m))] at le
  have l2 : a_cnt q 10 * (a_ds m q (a_P m) - 1) < a_cnt q 10 * a_ds m q (a_P m) := Nat.mul_lt_mul_of_pos_left (by omega) hc
  omega
theorem cl_pos {m : Nat → Int32} (ok : a_ok m) : ∀ r q, q < 2 ^ a_P m → q ≠ 0 → a_cl m r q ≠ 0
  | 0, q, _, h => h
  | r + 1, q, hq, h => by
    have e : a_cl m (r + 1) q = if a_stay m q = q then q else a_cl m r (a_stay m q) := rfl
    by_cases c : a_stay m q = q
    · rw [e, if_pos c]; exact h
    · rw [e, if_neg c]; exact cl_pos ok r _ (stay_2P q) (stay_pos ok hq h)
theorem cl_0 {m : Nat → Int32} : ∀ r, a_cl m r 0 = 0
  | 0 => rfl
  | r + 1 => by
    have e0 : a_stay m 0 = 0 := Nat.eq_of_testBit_eq (fun j => by rw [stay_at, Nat.zero_testBit]; simp)
    show (if a_stay m 0 = 0 then 0 else a_cl m r (a_stay m 0)) = 0
    rw [if_pos e0]
/-- who stays fears at least the even part -/
theorem stay_fear {m : Nat → Int32} {q p : Nat} (e : a_stay m q = q) (hp : p < a_P m) (hb : q.testBit p = true) : a_ds m q (a_P m) ≤ a_da m p * a_cnt q 10 := by
  have h := stay_at (m := m) q p
  rw [e, hb, decide_eq_true hp] at h
  cases g : a_go m q p
  · have := of_decide_eq_false g
    omega
  · rw [g] at h; cases h
/-! GAME -/
theorem fd_mono {c : Nat → Bool} {v v' : Nat → Int} {v0 v0' : Int} (h0 : v0 ≤ v0') : ∀ n, (∀ i, i < n → v i ≤ v' i) → a_fd true c v v0 n ≤ a_fd true c v' v0' n
  | 0, _ => h0
  | n + 1, h => by
    have ih := fd_mono h0 (c := c) n (fun i hi => h i (by omega))
    have hn := h n (by omega)
    rw [fd_s, fd_s]
    cases c n
    · exact ih
    · show max (a_fd true c v v0 n) (v n) ≤ max (a_fd true c v' v0' n) (v' n)
      omega
theorem fd_up {c : Nat → Bool} {v : Nat → Int} {v0 : Int} (n : Nat) : v0 ≤ a_fd true c v v0 n := by
  have h := (fd_ub (f := true) (c := c) (v := v) (v0 := v0) n).1
  exact h
theorem fd_dn {c : Nat → Bool} {v : Nat → Int} {v0 : Int} (n : Nat) : a_fd false c v v0 n ≤ v0 := by
  have h := (fd_ub (f := false) (c := c) (v := v) (v0 := v0) n).1
  exact h
theorem pl_0 {m : Nat → Int32} {p o : Nat} : 0 ≤ a_pl m p o 1 true 0 := by
  rw [pl_s]
  exact fd_up _
theorem pl_21 {m : Nat → Int32} {p o : Nat} : a_pl m p o 2 true 0 ≤ a_pl m p o 1 true 0 := by
  have hn : ∀ c, a_pl m p o 1 false c ≤ 0 := fun c => by
    rw [pl_s]
    exact fd_dn _
  rw [pl_s m p o 1, pl_s m p o 0]
  refine fd_mono (hn _) _ (fun i _ => ?_)
  show a_wo m p o i + a_pl m p o 1 false (0 ||| 2 ^ i) ≤ a_wo m p o i + 0
  have := hn (0 ||| 2 ^ i)
  omega
/-- a move there is, if there is something to be had; and it is a deed of the other one that can be charged -/
theorem first_c {m : Nat → Int32} {p o : Nat} : (a_first m p o 0 = -1 ∧ a_pl m p o 1 true 0 ≤ 0) ∨ ∃ d, d < a_D m ∧ a_first m p o 0 = nI d ∧ m (48 + d) = nI o ∧ a_can m p d = true := by
  rcases fg_any (c := a_fc m p o 0) (val := nI) (a_D m) with ⟨h1, h2⟩ | ⟨k, hk, h1, h2⟩
  · refine Or.inl ⟨h1, ?_⟩
    rcases fd_at (f := true) (c := a_cd m p o true 0) (v := a_pv m p o 0 true 0) (v0 := a_pl m p o 0 (!true) 0) (a_D m) with e | ⟨i, hi, c, e⟩
    · rw [pl_s, e]; exact Int.le_refl _
    · have h := h2 i hi
      unfold a_fc at h
      rw [c, pl_s, decide_eq_true e] at h
      cases h
  · refine Or.inr ⟨k, hk, h2, ?_⟩
    unfold a_fc at h1
    rw [Bool.and_eq_true] at h1
    have c := h1.1
    unfold a_cd at c
    rw [Bool.and_eq_true] at c
    exact mv_1.mp (of_decide_eq_true c.1)
