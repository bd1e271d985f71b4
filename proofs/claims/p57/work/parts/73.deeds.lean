/-! THE LAW: deed by deed -/
section BD
variable {L : Nat} {xs : Nat → Int32} {K91 : vSt → Int32 → Int32 → Int32 → Prop} {K259 : vSt → Int32 → Int32 → Int32 → Int32 → Int32 → Int32 → Int32 → Int32 → Prop} {K370 : vSt → Int32 → Int32 → Int32 → Int32 → Int32 → Int32 → Int32 → Int32 → Int32 → Int32 → Prop} {S : vSt} {m : Nat → Int32} {x4 x5 x6 x7 x8 x9 : Int32}
/-- who accuses: nobody, or by whom one is glad -/
def b_ac (m : Nat → Int32) (e : Nat) (x : Int32) : Prop := (x = -1 ∧ a_dread m e = 0 ∧ ∀ i, i < a_P m → a_can m i e = true → a_gain m i e ≤ 0) ∨ ∃ p, p < a_P m ∧ x = nI p ∧ a_dread m e ≠ 0 ∧ a_can m p e = true ∧ ∀ i, i < a_P m → a_can m i e = true → a_gain m i e ≤ a_gain m p e
theorem l_672 {x11 x14 : Int32} {e p : Nat} (h : K370 S x4 x5 x6 x7 x8 x9 x11 (nI e) x14 (nI (p + 1))) : p_L_law_672 L xs K91 K259 K370 () S x4 x5 x6 x7 x8 x9 x11 (nI e) x14 (nI p) := by
  unfold p_L_law_672
  rintro _ rfl
  rw [nIs]
  exact h
theorem l_608 {x11 x14 : Int32} {e p : Nat} (I : b_I S m) (hp : p < a_P m) (he : e < a_D m) (cn : a_can m p e = true) (H : ∀ S', b_I S' m → K370 S' x4 x5 x6 x7 x8 x9 x11 (nI e) x14 (nI (p + 1))) : p_L_law_608 L xs K91 K259 K370 () S x4 x5 x6 x7 x8 x9 x11 (nI e) x14 (nI p) := by
  obtain ⟨ok, R, hP, hD, hJ⟩ := I_ok I
  have hA := all_20 hJ
  have hA0 := all_pos m
  unfold p_L_law_608
  refine b_friend I he (fun S1 I1 => ?_)
  rcases mild_c m e (a_P m) (by omega) with ⟨-, no⟩ | ⟨q, hq, e1, -, cq, le⟩
  · rw [no p hp] at cn; cases cn
  rw [e1]
  refine b_loss I1 hp he cn (fun S2 I2 f2 => ⟨fun _ => ?_, fun w => Bool.noConfusion w⟩)
  simp only [e_top, e_bot]
  refine b_loss I2 hq he cq (fun S3 I3 f3 => ⟨fun w => Bool.noConfusion w, fun _ => ?_⟩)
  have hl : ((a_loss m q e : Nat) : Int) ≤ ((a_loss m p e : Nat) : Int) := by have := le p hp cn; omega
  exact ⟨fun _ => l_672 (H S3 I3), fun w => absurd (b_cmp f3 f2 (sm_loss ok hJ he) (sm_loss ok hJ he) hA0 hA0 (by omega) (by omega) (Int.mul_le_mul_of_nonneg_right hl (by omega))) w⟩
theorem l_564 {x11 x14 : Int32} {x20 x22 : Int64} {e p : Nat} (I : b_I S m) (hp : p < a_P m) (he : e < a_D m) (cn : a_can m p e = true) (f : b_fr x20 x22 (a_gain m p e) (a_all m)) (H : ∀ S', b_I S' m → K370 S' x4 x5 x6 x7 x8 x9 x11 (nI e) x14 (nI (p + 1))) : p_L_law_564 L xs K91 K259 K370 () S x4 x5 x6 x7 x8 x9 x11 (nI e) x14 (nI p) x20 x22 := by
  obtain ⟨ok, R, hP, hD, hJ⟩ := I_ok I
  have hA := all_20 hJ
  have hA0 := all_pos m
  have h1 := lo_le (p := p) ok he
  have h2 := hi_le (p := p) ok he
  unfold p_L_law_564
  refine b_trade (w := 0) I hp he (by omega) cn (fun c S1 I1 => ?_) (fun _ S1 I1 => ⟨fun _ => l_608 I1 hp he cn H, fun w => absurd (by decide) w⟩)
  rw [if_pos rfl]
  refine ⟨fun w => absurd w (nI_pos (by omega)), fun _ => ?_⟩
  refine b_trade (w := 1) I1 hp he (by omega) cn (fun _ S2 I2 => ?_) (fun q => absurd c q)
  rw [if_neg (by omega)]
  exact ⟨fun w => absurd w (nI_nlt c (by omega)), fun _ => ⟨fun _ => l_608 I2 hp he cn H, fun w => absurd (b_low f (sm_gain ok hJ he) hA0 (by omega) h1 lo_ok) w⟩⟩
theorem l_488 {x11 x14 : Int32} {x20 x22 : Int64} {e p : Nat} (I : b_I S m) (hp : p < a_P m) (he : e < a_D m) (cn : a_can m p e = true) (ac : b_ac m e x14) (f : b_fr x20 x22 (a_gain m p e) (a_all m)) (H : ∀ S', b_I S' m → K370 S' x4 x5 x6 x7 x8 x9 x11 (nI e) x14 (nI (p + 1))) : p_L_law_488 L xs K91 K259 K370 () S x4 x5 x6 x7 x8 x9 x11 (nI e) x14 (nI p) x20 x22 := by
  obtain ⟨ok, R, hP, hD, hJ⟩ := I_ok I
  have hA := all_20 hJ
  have hA0 := all_pos m
  unfold p_L_law_488
  refine b_loss I hp he cn (fun S1 I1 f1 => ⟨fun w => Bool.noConfusion w, fun _ => ?_⟩)
  simp only [e_top, e_bot]
  obtain ⟨le, lt⟩ := b_le0 f1 (sm_loss ok hJ he) hA0 (by omega)
  refine ⟨fun w => absurd (lt.mp w) (by omega), fun _ => ⟨fun _ => ?_, fun w => absurd (b_cmp f f1 (sm_gain ok hJ he) (sm_loss ok hJ he) hA0 hA0 (by omega) (by omega) (Int.mul_le_mul_of_nonneg_right (gain_le ok he).2 (by omega))) w⟩⟩
  rcases ac with ⟨rfl, -, -⟩ | ⟨a, ha, rfl, -, ca, mx⟩
  · exact ⟨fun _ => l_564 I1 hp he cn f H, fun w => absurd (by decide) w⟩
  · refine ⟨fun w => absurd w (nI_pos (by omega)), fun _ => ?_⟩
    refine b_gain I1 ha he ca (fun S2 I2 f2 => ⟨fun w => Bool.noConfusion w, fun _ => ?_⟩)
    exact ⟨fun _ => l_564 I2 hp he cn f H, fun w => absurd (b_cmp f f2 (sm_gain ok hJ he) (sm_gain ok hJ he) hA0 hA0 (by omega) (by omega) (Int.mul_le_mul_of_nonneg_right (mx p hp cn) (by omega))) w⟩
theorem l_370 {x11 x14 : Int32} {e : Nat} (I : b_I S m) (he : e < a_D m) (ac : b_ac m e x14) (H : ∀ S', b_I S' m → K259 S' x4 x5 x6 x7 x8 x9 x11 (nI (e + 1))) : p_L_law_367 L xs K91 K259 () S x4 x5 x6 x7 x8 x9 x11 (nI e) x14 := by
  obtain ⟨ok, R, hP, hD, hJ⟩ := I_ok I
  have hA := all_20 hJ
  have hA0 := all_pos m
  unfold p_L_law_367
  refine v_loop (fun fu i S => p_L_law_370 L xs K91 K259 () fu S x4 x5 x6 x7 x8 x9 x11 (nI e) x14 (nI i)) (fun _ S => b_I S m) (a_P m) (fun fu p S hp I hk => ?_) (fun fu S I => ?_) S I
  · rw [e_L_law_370, z0, I.2.2.1]
    refine ⟨v29, fun w => absurd w (nI_ge hp (by omega)), fun _ => ?_⟩
    refine b_can I hp he (fun S1 I1 => ?_)
    cases cn : a_can m p e
    · exact ⟨fun w => absurd rfl w, fun _ => l_672 (hk S1 I1)⟩
    refine ⟨fun _ => ?_, fun w => absurd w (by decide)⟩
    refine b_wins I1 hp he cn (fun S2 I2 f2 => ⟨fun _ => ?_, fun w => Bool.noConfusion w⟩)
    simp only [e_top, e_bot]
    refine b_owes I2 hp he cn (fun S3 I3 f3 => ⟨fun w => Bool.noConfusion w, fun _ => ?_⟩)
    refine ⟨fun _ => ?_, fun w => absurd (b_owe f2 f3 hA0 (by omega) (wn_ow p e)) w⟩
    refine b_gain I3 hp he cn (fun S4 I4 f4 => ⟨fun _ => ?_, fun w => Bool.noConfusion w⟩)
    obtain ⟨le, lt⟩ := b_le0 f4 (sm_gain ok hJ he) hA0 (by omega)
    refine ⟨fun _ => l_488 I4 hp he cn ac f4 hk, fun w => ⟨fun w2 => ?_, fun _ => l_488 I4 hp he cn ac f4 hk⟩⟩
    rcases id ac with ⟨-, -, q⟩ | ⟨a, ha, q, -⟩
    · exact w (le.mpr (q p hp cn))
    · rw [q] at w2
      exact absurd w2 (nI_pos (by omega))
  · rw [e_L_law_370, z0, I.2.2.1]
    refine ⟨v29, fun _ => ?_, fun w => absurd (Int32.le_refl _) w⟩
    rintro _ rfl
    rw [nIs]
    exact H S I
theorem l_304 {x11 : Int32} {e : Nat} {b : Bool} (I : b_I S m) (he : e < a_D m) (hb : b = decide (a_dread m e ≠ 0)) (H : ∀ S', b_I S' m → K259 S' x4 x5 x6 x7 x8 x9 x11 (nI (e + 1))) : p_L_law_282 L xs K91 K259 () S x4 x5 x6 x7 x8 x9 x11 (nI e) b := by
  obtain ⟨ok, R, hP, hD, hJ⟩ := I_ok I
  unfold p_L_law_282
  refine b_accuser I he (fun S1 I1 => ?_)
  have ac : b_ac m e (a_bst (fun i => a_gh m i e) (a_P m)).1 := acc_c ok he
  obtain ⟨x, hx⟩ : ∃ x, x = (a_bst (fun i => a_gh m i e) (a_P m)).1 := ⟨_, rfl⟩
  rw [← hx] at ac ⊢
  rcases id ac with ⟨rfl, d0, -⟩ | ⟨a, ha, rfl, d0, ca, -⟩
  · have hb : b = false := by rw [hb]; exact decide_eq_false (fun w => w d0)
    subst hb
    refine ⟨fun _ => ?_, fun w => absurd (by decide) w⟩
    unfold p_L_law_304
    exact ⟨fun w => absurd rfl w, fun _ => ⟨fun _ => l_370 I1 he ac H, fun w => Bool.noConfusion w⟩⟩
  · have hb : b = true := by rw [hb]; exact decide_eq_true d0
    subst hb
    refine ⟨fun w => absurd w (nI_pos (by omega)), fun _ => ?_⟩
    unfold p_L_law_304
    refine ⟨fun w => absurd rfl w, fun _ => ⟨fun w => Bool.noConfusion w, fun _ => ?_⟩⟩
    obtain ⟨e5, h5⟩ := ok_H1 ok
    obtain ⟨e4, h4⟩ := ok_L1 ok
    obtain ⟨ef, f1, f2⟩ := ok_f1 ok he
    obtain ⟨k1, hk1, q1⟩ := share_le ok he d0
    obtain ⟨k2, hk2, hk2', q2⟩ := pen_ge ok he d0
    obtain ⟨k3, hk3, q3⟩ := fine_le ok he d0
    refine b_share I1 he (fun S2 I2 => ?_)
    refine b_many (k := 5) I2 (by omega) (fun S3 I3 => ?_)
    rw [show a_fact m 5 = m 5 from rfl, e5, q1]
    refine ⟨fun w => absurd w (nI_nlt hk1 (by omega)), fun _ => ?_⟩
    refine b_pen I3 he (fun S4 I4 => ?_)
    refine b_many (k := 4) I4 (by omega) (fun S5 I5 => ?_)
    rw [show a_fact m 4 = m 4 from rfl, e4, q2]
    refine ⟨fun w => absurd w (nI_nlt hk2 (by omega)), fun _ => ?_⟩
    refine b_fine I5 he (fun S6 I6 => ?_)
    refine b_deed (k := 1) I6 he (by omega) (fun S7 I7 => ?_)
    rw [show m (48 + 10 * 1 + e) = nI (a_f m e) from ef, q3]
    refine ⟨fun w => absurd w (nI_nlt (by omega) (by omega)), fun _ => ?_⟩
    refine b_friend I7 he (fun S8 I8 => ?_)
    rcases mild_c m e (a_P m) (by omega) with ⟨-, no⟩ | ⟨q, hq, e1, -, cq, -⟩
    · rw [no a ha] at ca; cases ca
    rw [e1]
    exact ⟨fun _ => l_370 I8 he ac H, fun w => absurd (nI_pos' (by omega)) w⟩
theorem l_259 (I : b_I S m) (H : ∀ S', b_I S' m → p_L_law_1276 L xs K91 () S' x4 x5 x6 x7 (nI (a_D m)) x9) : ∃ fu, p_L_law_259 L xs K91 () fu S x4 x5 x6 x7 (nI (a_D m)) x9 (b_gl m) 0 := by
  obtain ⟨ok, R, hP, hD, hJ⟩ := I_ok I
  refine v_loop (fun fu i S => p_L_law_259 L xs K91 () fu S x4 x5 x6 x7 (nI (a_D m)) x9 (b_gl m) (nI i)) (fun _ S => b_I S m) (a_D m) (fun fu e S he I hk => ?_) (fun fu S I => ?_) S I
  · rw [e_L_law_259]
    refine ⟨fun w => absurd w (nI_ge he (by omega)), fun _ => ⟨fun w => ?_, fun w => ?_⟩⟩
    · exact l_304 I he (decide_eq_false (fun q => w ((gl_bit ok he).1.mpr q))).symm hk
    · exact l_304 I he (decide_eq_true ((gl_bit ok he).1.mp w)).symm hk
  · rw [e_L_law_259]
    exact ⟨fun _ => l_687 I H, fun w => absurd (Int32.le_refl _) w⟩
end BD
