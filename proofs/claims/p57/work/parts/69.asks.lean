/-! the answers at what the law asks -/
theorem e_top {S : vSt} {K : Int64 → vSt → Prop} : p_X10_top S K = K (S.2 0 17) S := rfl
theorem e_bot {S : vSt} {K : Int64 → vSt → Prop} : p_X10_bottom S K = K (S.2 0 18) S := rfl
theorem b_vb (a b : Bool) : (v_b a = v_b b) = (a = b) := by cases a <;> cases b <;> simp [v_b]
theorem any_1 (x : Int32) : (o_any x).1 = x := by
  unfold o_any
  by_cases c : x = -1
  · rw [if_pos c, c]
  · rw [if_neg c]
theorem z0 : Int32.toNatClampNeg 0 = 0 := by decide
theorem v29 : vp_in 0 29 := vpin (n := 0) ⟨by omega, by omega⟩
theorem and0 (x : Int32) : (0 : Int32) &&& x = 0 := b_ext (fun i hi => by rw [b_and, b_0]; rfl)
def b_op (m : Nat → Int32) : Int32 := v_set (fun d => decide (m (78 + d) = 0)) (a_D m)
def b_gl (m : Nat → Int32) : Int32 := v_set (fun d => decide (a_dread m d ≠ 0)) (a_D m)
theorem op_bit {m : Nat → Int32} {d : Nat} (ok : a_ok m) (hd : d < a_D m) : ((b_op m >>> (nI d &&& 31)) &&& 1 = 1 ↔ m (78 + d) = 0) := by
  have := (set_sh (c := fun d => decide (m (78 + d) = 0)) (ok_D10 ok) hd).1
  rw [decide_eq_true_iff] at this
  exact this
theorem gl_bit {m : Nat → Int32} {d : Nat} (ok : a_ok m) (hd : d < a_D m) : ((b_gl m >>> (nI d &&& 31)) &&& 1 = 1 ↔ a_dread m d ≠ 0) ∧ ((b_gl m >>> (nI d &&& 31)) &&& 1 = 0 ↔ a_dread m d = 0) := by
  obtain ⟨h1, h2⟩ := set_sh (c := fun d => decide (a_dread m d ≠ 0)) (ok_D10 ok) hd
  rw [decide_eq_true_iff] at h1
  rw [decide_eq_false_iff_not, Decidable.not_not] at h2
  exact ⟨h1, h2⟩
section BA
variable {S : vSt} {m m0 : Nat → Int32}
theorem I_ok (I : b_I S m) : a_ok m ∧ a_R S 10 m ∧ a_P m ≤ 4 ∧ a_D m ≤ 10 ∧ a_J m ≤ 5 := ⟨I.1, I.2.1, I.2.2.2.2.2.2, ok_D10 I.1, I.2.2.2.2.2.1⟩
theorem b_many {k : Nat} {K : Int32 → vSt → Prop} (I : b_I S m) (hk : k ≤ 10) (h : ∀ S', b_I S' m → K (a_fact m k) S') : p_X10_many S (nI k) K := by
  refine x_many I.1 I.2.1 ?_
  unfold o_many
  rw [if_pos (show a_in 0 10 (nI k) = true from in_t (lo := 0) (hi := 10) (by omega) hk (by omega)), a_n_nI (by omega)]
  exact K_q I h
theorem b_manyM {k : Nat} {K : Int32 → vSt → Prop} (M : b_M S m0 m) (hk : k ≤ 10) (h : ∀ S', b_M S' m0 m → K (a_fact m k) S') : p_X10_many S (nI k) K := by
  refine x_many M.1 M.2.1 ?_
  unfold o_many
  rw [if_pos (show a_in 0 10 (nI k) = true from in_t (lo := 0) (hi := 10) (by omega) hk (by omega)), a_n_nI (by omega)]
  exact N_q M h
theorem deed_o {d k : Nat} (ok : a_ok m) (hd : d < a_D m) (hk : k ≤ 5) : o_deed m (nI d) (nI k) = if k < 4 ∨ m (78 + d) ≠ 0 then (m (48 + 10 * k + d), 0, none) else (-1, 8, none) := by
  have h10 := ok_D10 ok
  unfold o_deed
  rw [if_pos (two_t ok hd), if_pos (show a_in 0 5 (nI k) = true from in_t (lo := 0) (hi := 5) (by omega) hk (by omega)), a_n_nI (by omega), a_n_nI (by omega)]
theorem b_deed {d k : Nat} {K : Int32 → vSt → Prop} (I : b_I S m) (hd : d < a_D m) (hk : k < 4) (h : ∀ S', b_I S' m → K (m (48 + 10 * k + d)) S') : p_X10_deed S (nI d) (nI k) K := by
  refine x_deed I.1 I.2.1 ?_
  rw [deed_o I.1 hd (by omega), if_pos (Or.inl hk)]
  exact K_q I h
theorem b_deedM {d k : Nat} {K : Int32 → vSt → Prop} (M : b_M S m0 m) (hd : d < a_D m) (hk : k ≤ 5) (h : (k < 4 ∨ m (78 + d) ≠ 0) → ∀ S', b_M S' m0 m → K (m (48 + 10 * k + d)) S') (h2 : ¬ (k < 4 ∨ m (78 + d) ≠ 0) → ∀ S', b_M S' m0 m → K (-1) S') : p_X10_deed S (nI d) (nI k) K := by
  refine x_deed M.1 M.2.1 ?_
  rw [deed_o M.1 hd hk]
  by_cases c : k < 4 ∨ m (78 + d) ≠ 0
  · rw [if_pos c]; exact N_q M (h c)
  · rw [if_neg c]; exact N_q M (h2 c)
theorem b_can {p d : Nat} {K : Int32 → vSt → Prop} (I : b_I S m) (hp : p < a_P m) (hd : d < a_D m) (h : ∀ S', b_I S' m → K (v_b (a_can m p d)) S') : p_X10_can S (nI p) (nI d) K := by
  have h8 := ok_P8 I.1
  have h10 := ok_D10 I.1
  refine x_can I.1 I.2.1 ?_
  unfold o_can
  rw [one_t I.1 hp, two_t I.1 hd, if_pos (by rfl), a_n_nI (by omega), a_n_nI (by omega)]
  exact K_q I h
theorem b_person {p k : Nat} {K : Int32 → vSt → Prop} (I : b_I S m) (hp : p < a_P m) (hk : k ≤ 5) (h : ∀ S', b_I S' m → K (a_pf m p k) S') : p_X10_person S (nI p) (nI k) K := by
  have h8 := ok_P8 I.1
  refine x_person I.1 I.2.1 ?_
  unfold o_person
  rw [if_pos (one_t I.1 hp), if_pos (show a_in 0 5 (nI k) = true from in_t (lo := 0) (hi := 5) (by omega) hk (by omega)), a_n_nI (by omega), a_n_nI (by omega)]
  exact K_q I h
/-! fractions -/
theorem can_why {p d : Nat} (ok : a_ok m) (hp : p < a_P m) (hd : d < a_D m) (c : a_can m p d = true) : a_why m (nI p) (nI d) = 0 ∧ a_mean m (nI p) (nI d) = 0 := by
  have h8 := ok_P8 ok
  have h10 := ok_D10 ok
  unfold a_can at c
  simp only [Bool.and_eq_true, decide_eq_true_eq, Bool.not_eq_true', decide_eq_false_iff_not] at c
  have w : a_why m (nI p) (nI d) = 0 := by
    unfold a_why
    rw [one_t ok hp, two_t ok hd, if_pos (by rfl), a_n_nI (by omega), if_neg c.1.1.2]
  refine ⟨w, ?_⟩
  unfold a_mean
  rw [if_pos w, a_n_nI (by omega), if_neg c.2]
theorem b_wins {p d : Nat} {K : Bool → vSt → Prop} (I : b_I S m) (hp : p < a_P m) (hd : d < a_D m) (c : a_can m p d = true) (h : ∀ S', b_I S' m → b_fr (S'.2 0 17) (S'.2 0 18) (a_wn m p d : Int) (a_all m) → K true S') : p_X10_wins S (nI p) (nI d) K := by
  have h8 := ok_P8 I.1
  have h10 := ok_D10 I.1
  refine x_wins I.1 I.2.1 ?_
  unfold o_wins
  rw [if_pos (can_why I.1 hp hd c).1, a_n_nI (by omega), a_n_nI (by omega)]
  exact K_f I h
theorem b_owes {p d : Nat} {K : Bool → vSt → Prop} (I : b_I S m) (hp : p < a_P m) (hd : d < a_D m) (c : a_can m p d = true) (h : ∀ S', b_I S' m → b_fr (S'.2 0 17) (S'.2 0 18) (a_ow m p d : Int) (a_all m) → K true S') : p_X10_owes S (nI p) (nI d) K := by
  have h8 := ok_P8 I.1
  have h10 := ok_D10 I.1
  refine x_owes I.1 I.2.1 ?_
  unfold o_owes
  rw [if_pos (can_why I.1 hp hd c).1, a_n_nI (by omega), a_n_nI (by omega)]
  exact K_f I h
theorem b_gain {p d : Nat} {K : Bool → vSt → Prop} (I : b_I S m) (hp : p < a_P m) (hd : d < a_D m) (c : a_can m p d = true) (h : ∀ S', b_I S' m → b_fr (S'.2 0 17) (S'.2 0 18) (a_gain m p d) (a_all m) → K true S') : p_X10_gain S (nI p) (nI d) K := by
  have h8 := ok_P8 I.1
  have h10 := ok_D10 I.1
  refine x_gain I.1 I.2.1 ?_
  unfold o_gain
  rw [if_pos (can_why I.1 hp hd c).2, a_n_nI (by omega), a_n_nI (by omega)]
  exact K_f I h
theorem b_loss {p d : Nat} {K : Bool → vSt → Prop} (I : b_I S m) (hp : p < a_P m) (hd : d < a_D m) (c : a_can m p d = true) (h : ∀ S', b_I S' m → b_fr (S'.2 0 17) (S'.2 0 18) (a_loss m p d : Int) (a_all m) → K true S') : p_X10_loss S (nI p) (nI d) K := by
  have h8 := ok_P8 I.1
  have h10 := ok_D10 I.1
  refine x_loss I.1 I.2.1 ?_
  unfold o_loss
  rw [if_pos (can_why I.1 hp hd c).2, a_n_nI (by omega), a_n_nI (by omega)]
  exact K_f I h
theorem b_plan {p n : Nat} {K : Bool → vSt → Prop} (I : b_I S m) (hp : p < a_P m) (hn : n ≤ 10) (h : ∀ S', b_I S' m → b_fr (S'.2 0 17) (S'.2 0 18) (a_plan m p n) (a_all m) → K true S') : p_X10_plan S (nI p) (nI n) K := by
  have h8 := ok_P8 I.1
  refine x_plan I.1 I.2.1 ?_
  unfold o_plan
  rw [if_pos (one_t I.1 hp), if_pos (show a_in 0 10 (nI n) = true from in_t (lo := 0) (hi := 10) (by omega) hn (by omega)), a_n_nI (by omega), a_n_nI (by omega)]
  exact K_f I h
theorem b_dread {p : Nat} {K : Bool → vSt → Prop} (I : b_I S m) (hp : p < a_P m) (h : ∀ S', b_I S' m → b_fr (S'.2 0 17) (S'.2 0 18) (a_da m p : Int) (a_all m) → K true S') : p_X10_dread S (nI p) K := by
  have h8 := ok_P8 I.1
  refine x_dread I.1 I.2.1 ?_
  unfold o_dread
  rw [if_pos (one_t I.1 hp), a_n_nI (by omega)]
  exact K_f I h
theorem gst_01 {k l : Nat} (ok : a_ok m) (hP : 1 < a_P m) (hl : l ≤ k) (hk : k ≤ 3) : a_gst m (nI 0) (nI 1) (nI k) (nI l) = 0 := by
  unfold a_gst
  rw [one_t ok (show 0 < a_P m by omega), one_t ok hP, if_pos (by rfl), if_neg (by decide), if_pos (show a_in (nI l) 3 (nI k) = true from in_t (hi := 3) hl hk (by omega))]
theorem b_game {k : Nat} {K : Bool → vSt → Prop} (I : b_I S m) (hP : 1 < a_P m) (hk : k ≤ 3) (h : ∀ S', b_I S' m → b_fr (S'.2 0 17) (S'.2 0 18) (a_pl m 0 1 k true 0) (a_all m) → K true S') : p_X10_game S (nI 0) (nI 1) (nI k) K := by
  refine x_game I.1 I.2.1 ?_
  unfold o_game
  rw [if_pos (show a_gst m (nI 0) (nI 1) (nI k) 0 = 0 from gst_01 (l := 0) I.1 hP (by omega) hk), a_n_nI (by omega), a_n_nI (by omega), a_n_nI (by omega)]
  exact K_f I h
theorem b_move {K : Int32 → vSt → Prop} (I : b_I S m) (hP : 1 < a_P m) (h : ∀ S', b_I S' m → K (a_first m 0 1 0) S') : p_X10_moveOf S (nI 0) (nI 1) (nI 1) K := by
  refine x_moveOf I.1 I.2.1 ?_
  unfold o_move
  rw [if_pos (show a_gst m (nI 0) (nI 1) (nI 1) 1 = 0 from gst_01 (l := 1) (k := 1) I.1 hP (by omega) (by omega)), a_n_nI (by omega), a_n_nI (by omega)]
  exact K_q I (fun S' I' => by rw [any_1]; exact h S' I')
theorem isS_n {q : Nat} (ok : a_ok m) (hq : q < 2 ^ a_P m) : a_isS m (nI q) = true := by
  have := pow_P ok
  exact decide_eq_true ⟨nI_pos (by omega), nI_ge hq (by omega)⟩
theorem b_club {q : Nat} {K : Int32 → vSt → Prop} (I : b_I S m) (hq : q < 2 ^ a_P m) (h : ∀ S', b_I S' m → K (nI (a_cl m 9 q)) S') : p_X10_club S (nI q) K := by
  have := pow_P I.1
  refine x_club I.1 I.2.1 ?_
  unfold o_club
  rw [if_pos (isS_n I.1 hq), a_n_nI (by omega)]
  exact K_q I h
theorem b_part {q : Nat} {K : Bool → vSt → Prop} (I : b_I S m) (hq : q < 2 ^ a_P m) (h0 : q ≠ 0) (h : ∀ S', b_I S' m → b_fr (S'.2 0 17) (S'.2 0 18) (a_ds m q (a_P m) : Int) (a_all m * a_cnt q 10) → K true S') : p_X10_clubPart S (nI q) K := by
  have := pow_P I.1
  refine x_clubPart I.1 I.2.1 ?_
  unfold o_part
  rw [if_pos ⟨isS_n I.1 hq, fun w => h0 ((nI_eq (b := 0) (by omega) (by omega)).mp w)⟩, a_n_nI (by omega)]
  exact K_f I h
/-! whole numbers -/
theorem b_best {p : Nat} {K : Int32 → vSt → Prop} (I : b_I S m) (hp : p < a_P m) (h : ∀ S', b_I S' m → K (a_bst (fun i => a_gh m p i) (a_D m)).1 S') : p_X10_best S (nI p) K := by
  have h8 := ok_P8 I.1
  refine x_best I.1 I.2.1 ?_
  unfold o_best
  rw [if_pos (one_t I.1 hp), a_n_nI (by omega)]
  exact K_q I (fun S' I' => by rw [any_1]; exact h S' I')
theorem b_accuser {d : Nat} {K : Int32 → vSt → Prop} (I : b_I S m) (hd : d < a_D m) (h : ∀ S', b_I S' m → K (a_bst (fun i => a_gh m i d) (a_P m)).1 S') : p_X10_accuser S (nI d) K := by
  have h8 := ok_D10 I.1
  refine x_accuser I.1 I.2.1 ?_
  unfold o_accuser
  rw [if_pos (two_t I.1 hd), a_n_nI (by omega)]
  exact K_q I (fun S' I' => by rw [any_1]; exact h S' I')
theorem b_dreaded {p : Nat} {K : Int32 → vSt → Prop} (I : b_I S m) (hp : p < a_P m) (h : ∀ S', b_I S' m → K (a_bst (fun i => (a_own m p i : Int)) (a_D m)).1 S') : p_X10_dreaded S (nI p) K := by
  have h8 := ok_P8 I.1
  refine x_dreaded I.1 I.2.1 ?_
  unfold o_dreaded
  rw [if_pos (one_t I.1 hp), a_n_nI (by omega)]
  exact K_q I (fun S' I' => by rw [any_1]; exact h S' I')
theorem b_friend {d : Nat} {K : Int32 → vSt → Prop} (I : b_I S m) (hd : d < a_D m) (h : ∀ S', b_I S' m → K (a_mild m d (a_P m)).1 S') : p_X10_friend S (nI d) K := by
  have h8 := ok_D10 I.1
  refine x_friend I.1 I.2.1 ?_
  unfold o_friend
  rw [if_pos (two_t I.1 hd), a_n_nI (by omega)]
  exact K_q I (fun S' I' => by rw [any_1]; exact h S' I')
theorem b_share {d : Nat} {K : Int32 → vSt → Prop} (I : b_I S m) (hd : d < a_D m) (h : ∀ S', b_I S' m → K (a_fg (a_gS m d) nI 17) S') : p_X10_leastShare S (nI d) K := by
  have h8 := ok_D10 I.1
  refine x_leastShare I.1 I.2.1 ?_
  unfold o_leastShare
  rw [if_pos (two_t I.1 hd), a_n_nI (by omega)]
  exact K_q I (fun S' I' => by rw [any_1]; exact h S' I')
theorem b_fine {d : Nat} {K : Int32 → vSt → Prop} (I : b_I S m) (hd : d < a_D m) (h : ∀ S', b_I S' m → K (a_fg (a_gF m d) (fun i => nI (1 + i)) 999) S') : p_X10_leastFine S (nI d) K := by
  have h8 := ok_D10 I.1
  refine x_leastFine I.1 I.2.1 ?_
  unfold o_leastFine
  rw [if_pos (two_t I.1 hd), a_n_nI (by omega)]
  exact K_q I (fun S' I' => by rw [any_1]; exact h S' I')
theorem b_pen {d : Nat} {K : Int32 → vSt → Prop} (I : b_I S m) (hd : d < a_D m) (h : ∀ S', b_I S' m → K (a_fg (a_gP m d) (fun i => nI (999 - i)) 1000) S') : p_X10_mostPenalty S (nI d) K := by
  have h8 := ok_D10 I.1
  refine x_mostPenalty I.1 I.2.1 ?_
  unfold o_mostPenalty
  rw [if_pos (two_t I.1 hd), a_n_nI (by omega)]
  exact K_q I (fun S' I' => by rw [any_1]; exact h S' I')
theorem b_quiet {K : Int32 → vSt → Prop} (I : b_I S m) (h : ∀ S', b_I S' m → K (v_set (fun d => decide (m (78 + d) = 0) && !decide (a_dread m d ≠ 0)) (a_D m)) S') : p_X10_quiet S K := x_quiet I.1 I.2.1 (K_q I h)
theorem b_gladBy {K : Int32 → vSt → Prop} (I : b_I S m) (h : ∀ S', b_I S' m → K (b_gl m) S') : p_X10_gladBy S (m 5) (m 4) K := by
  obtain ⟨e5, h5⟩ := ok_H1 I.1
  obtain ⟨e4, h4⟩ := ok_L1 I.1
  refine x_gladBy I.1 I.2.1 ?_
  unfold o_gladBy
  rw [e5, e4, if_pos (show a_in 0 16 (nI (a_H m)) = true from in_t (lo := 0) (hi := 16) (by omega) h5 (by omega)), if_pos (show a_in 0 999 (nI (a_L m)) = true from in_t (lo := 0) (hi := 999) (by omega) h4 (by omega)), a_n_nI (by omega), a_n_nI (by omega)]
  have e : a_gs m (a_H m) (a_L m) = b_gl m := v_set_congr (fun d hd => gl_dread I.1 hd)
  rw [e]
  exact K_q I h
theorem trade_o {p d w : Nat} (ok : a_ok m) (hp : p < a_P m) (hd : d < a_D m) (hw : w ≤ 1) (c : a_can m p d = true) : o_trade m (nI p) (nI d) (nI w) = if a_lo m p d ≤ a_hi m p d then (nI (if w = 0 then a_lo m p d else a_hi m p d), 0, none) else (-1, 8, none) := by
  have h8 := ok_P8 ok
  have h10 := ok_D10 ok
  unfold o_trade
  rw [one_t ok hp, two_t ok hd, if_pos (by rfl), if_pos (show a_in 0 1 (nI w) = true from in_t (lo := 0) (hi := 1) (by omega) hw (by omega)), a_n_nI (by omega), a_n_nI (by omega), if_pos c]
  rcases (show w = 0 ∨ w = 1 by omega) with rfl | rfl
  · rfl
  · rfl
theorem b_trade {p d w : Nat} {K : Int32 → vSt → Prop} (I : b_I S m) (hp : p < a_P m) (hd : d < a_D m) (hw : w ≤ 1) (c : a_can m p d = true) (h1 : a_lo m p d ≤ a_hi m p d → ∀ S', b_I S' m → K (nI (if w = 0 then a_lo m p d else a_hi m p d)) S') (h2 : ¬ a_lo m p d ≤ a_hi m p d → ∀ S', b_I S' m → K (-1) S') : p_X10_trade S (nI p) (nI d) (nI w) K := by
  refine x_trade I.1 I.2.1 ?_
  rw [trade_o I.1 hp hd hw c]
  by_cases q : a_lo m p d ≤ a_hi m p d
  · rw [if_pos q]; exact K_q I (h1 q)
  · rw [if_neg q]; exact K_q I (h2 q)
theorem b_bound0 {p : Nat} {K : Int32 → vSt → Prop} (I : b_I S m) (hp : p < a_P m) (h : ∀ S', b_I S' m → K (nI (a_ls m (a_ot m p))) S') : p_X10_bound S (nI p) 0 K := by
  have h8 := ok_P8 I.1
  refine x_bound I.1 I.2.1 ?_
  unfold o_bound
  rw [if_pos (one_t I.1 hp), if_pos (by decide), a_n_nI (by omega)]
  exact K_q I h
theorem b_bound1 {p : Nat} {K : Int32 → vSt → Prop} (I : b_I S m) (hp : p < a_P m) (h : ∀ S', b_I S' m → K (iI (-(((a_ot m p).length * a_L m : Nat) : Int))) S') : p_X10_bound S (nI p) 1 K := by
  have h8 := ok_P8 I.1
  refine x_bound I.1 I.2.1 ?_
  unfold o_bound
  rw [if_pos (one_t I.1 hp), if_pos (by decide), a_n_nI (by omega)]
  exact K_q I h
theorem ot_ls (ok : a_ok m) (p : Nat) : a_ls m (a_ot m p) ≤ 9990 := by
  have h1 := ls_le ok (a_ot m p) (fun d hd => by
    obtain ⟨i, hi⟩ := List.mem_iff_getElem?.mp hd
    exact ot_D hi)
  have h2 := ot_len ok p
  have h3 : (a_ot m p).length * 999 ≤ 10 * 999 := Nat.mul_le_mul_right _ h2
  omega
theorem in_9999 {k : Nat} (hk : k ≤ 9999) : a_in (-9999) 9999 (nI k) = true := by
  refine decide_eq_true ⟨?_, nI_le (b := 9999) hk (by omega)⟩
  rw [Int32.le_iff_toInt_le, nI_toInt (by omega), show (-9999 : Int32).toInt = -9999 from by decide]
  omega
theorem b_gained {p k : Nat} {K : Int32 → vSt → Prop} (I : b_I S m) (hp : p < a_P m) (hk : k ≤ 9999) (h : ∀ S', b_I S' m → K (nI (a_G m (a_ot m p) (k : Int) 0 0).1) S') : p_X10_gained S (nI p) (nI k) K := by
  have h8 := ok_P8 I.1
  refine x_gained I.1 I.2.1 ?_
  have e : a_pst m (nI p) (nI k) = 0 := by
    unfold a_pst
    rw [if_pos (one_t I.1 hp), if_pos (in_9999 hk)]
  unfold o_gained a_GV
  rw [if_pos e, a_n_nI (by omega), nI_toInt (by omega)]
  exact K_q I h
theorem b_sure {p : Nat} {K : Int32 → vSt → Prop} (I : b_I S m) (hp : p < a_P m) (h : ∀ S', b_I S' m → K 0 S') : p_X10_sure S (nI p) (nI 0) K := by
  have h8 := ok_P8 I.1
  obtain ⟨g1, g2⟩ := G_none m (a_ot m p) 0
  refine x_sure I.1 I.2.1 ?_
  have e : a_pst m (nI p) (nI 0) = 0 := by
    unfold a_pst
    rw [if_pos (one_t I.1 hp), if_pos (in_9999 (by omega))]
  unfold o_sure a_GV
  rw [if_pos e, a_n_nI (by omega), nI_toInt (by omega), if_neg (by show ¬ (a_G m (a_ot m p) 0 0 0).1 = 0; omega)]
  refine K_q I (fun S' I' => ?_)
  show K (nI (a_G m (a_ot m p) 0 0 0).2) S'
  rw [g2]
  exact h S' I'
end BA
/-! who is feared -/
theorem drd_c {m : Nat → Int32} (p : Nat) : ((a_bst (fun i => (a_own m p i : Int)) (a_D m)).1 = -1 ∧ a_da m p = 0) ∨ ∃ d, d < a_D m ∧ (a_bst (fun i => (a_own m p i : Int)) (a_D m)).1 = nI d ∧ 0 < a_da m p ∧ m (48 + d) = nI p ∧ a_dread m d ≠ 0 := by
  rcases bst_c (fun i => (a_own m p i : Int)) (a_D m) with ⟨h1, -, h3⟩ | ⟨d, hd, h1, -, h3, -⟩
  · refine Or.inl ⟨h1, ?_⟩
    rcases Nat.eq_zero_or_pos (a_da m p) with q | q
    · exact q
    · obtain ⟨k, hk, w⟩ := sum_ex _ q
      have : (a_own m p k : Int) ≤ 0 := h3 k hk
      omega
  · have h3 : 0 < (a_own m p d : Int) := h3
    have h4 : a_own m p d ≤ a_da m p := sum_pt _ hd
    refine Or.inr ⟨d, hd, h1, by omega, ?_⟩
    unfold a_own at h3
    by_cases c : m (48 + d) = nI p
    · rw [if_pos c] at h3; exact ⟨c, by omega⟩
    · rw [if_neg c] at h3; omega
