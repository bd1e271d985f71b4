/-! THE LAW: person by person -/
section BP
variable {L : Nat} {xs : Nat → Int32} {K91 : vSt → Int32 → Int32 → Int32 → Prop} {K687 : vSt → Int32 → Int32 → Int32 → Int32 → Int32 → Int32 → Int32 → Int32 → Prop} {S : vSt} {m : Nat → Int32} {x4 x5 x6 x7 x8 x9 : Int32}
theorem l_985 {x11 x12 : Int32} (h : K687 S x4 x5 x6 x7 x8 x9 x11 (x12 + 1)) : p_L_law_985 L xs K91 K687 () S x4 x5 x6 x7 x8 x9 x11 x12 := by
  unfold p_L_law_985
  rintro _ rfl
  exact h
theorem l_953 {p : Nat} {x18 : Int32} {s0 s1 : Bool} (I : b_I S m) (hm : (x18 = -1) ∨ ∃ d, d < a_D m ∧ x18 = nI d ∧ m (48 + d) = nI p ∧ a_dread m d ≠ 0) (e : s1 = s0) (H : ∀ S', b_I S' m → K687 S' x4 x5 x6 x7 x8 x9 (b_gl m) (nI p + 1)) : p_L_law_953 L xs K91 K687 () S x4 x5 x6 x7 x8 x9 (b_gl m) (nI p) x18 s0 s1 := by
  obtain ⟨ok, R, hP, hD, hJ⟩ := I_ok I
  subst e
  unfold p_L_law_953
  refine ⟨fun w => absurd rfl w, fun _ => ?_⟩
  rcases hm with rfl | ⟨d, hd, rfl, e, g⟩
  · exact ⟨fun _ => l_985 (H S I), fun w => absurd (by decide) w⟩
  · refine ⟨fun w => absurd w (nI_pos (by omega)), fun _ => ?_⟩
    refine b_deed (k := 0) I hd (by omega) (fun S1 I1 => ⟨fun w => absurd e w, fun _ => ⟨fun _ => l_985 (H S1 I1), fun w => absurd ((gl_bit ok hd).2.mp w) g⟩⟩)
theorem l_939 {p : Nat} {x18 : Int32} {s0 : Bool} (I : b_I S m) (f : b_fr (S.2 0 17) (S.2 0 18) (a_da m p : Int) (a_all m)) (hm : (x18 = -1 ∧ a_da m p = 0 ∧ s0 = false) ∨ ∃ d, d < a_D m ∧ x18 = nI d ∧ 0 < a_da m p ∧ m (48 + d) = nI p ∧ a_dread m d ≠ 0 ∧ s0 = true) (H : ∀ S', b_I S' m → K687 S' x4 x5 x6 x7 x8 x9 (b_gl m) (nI p + 1)) : p_L_law_939 L xs K91 K687 () S x4 x5 x6 x7 x8 x9 (b_gl m) (nI p) x18 s0 := by
  obtain ⟨ok, R, hP, hD, hJ⟩ := I_ok I
  have hA := all_20 hJ
  have hA0 := all_pos m
  obtain ⟨le, lt⟩ := b_le0 f (sm_da ok hJ p) hA0 (by omega)
  unfold p_L_law_939
  simp only [e_top]
  rcases hm with ⟨h1, h2, h3⟩ | ⟨d, hd, h1, h2, h3, h4, h5⟩
  · exact ⟨fun _ => l_953 I (Or.inl h1) h3 H, fun w => absurd (le.mpr (by omega)) w⟩
  · exact ⟨fun w => absurd (le.mp w) (by omega), fun _ => l_953 I (Or.inr ⟨d, hd, h1, h3, h4⟩) h5 H⟩
theorem l_802 {p : Nat} {x14 x16 : Int64} (I : b_I S m) (hp : p < a_P m) (f : b_fr x14 x16 (a_plan m p 1) (a_all m)) (H : ∀ S', b_I S' m → K687 S' x4 x5 x6 x7 x8 x9 (b_gl m) (nI p + 1)) : p_L_law_802 L xs K91 K687 () S x4 x5 x6 x7 x8 x9 (b_gl m) (nI p) x14 x16 := by
  obtain ⟨ok, R, hP, hD, hJ⟩ := I_ok I
  have hA := all_20 hJ
  have hA0 := all_pos m
  have hls := ot_ls ok p
  unfold p_L_law_802
  refine b_plan (n := 10) I hp (by omega) (fun S1 I1 f1 => ⟨fun w => Bool.noConfusion w, fun _ => ?_⟩)
  simp only [e_top, e_bot]
  refine ⟨fun _ => ?_, fun w => absurd (b_cmp f f1 (sm_plan ok hJ p (by omega)).2 (sm_plan ok hJ p (by omega)).2 hA0 hA0 (by omega) (by omega) (Int.mul_le_mul_of_nonneg_right (plan_10 ok p) (by omega))) w⟩
  refine b_bound0 I1 hp (fun S2 I2 => ⟨fun w => absurd w (nI_pos (by omega)), fun _ => ?_⟩)
  refine b_bound1 I2 hp (fun S3 I3 => ⟨fun w => ?_, fun _ => ?_⟩)
  · have hlen := ot_len ok p
    have hL := (ok_L1 ok).2
    have hm : (a_ot m p).length * a_L m ≤ 10 * 999 := Nat.mul_le_mul hlen hL
    rw [iI_0, iI_lt fi_0 (by unfold a_fi; omega)] at w
    omega
  refine b_bound0 I3 hp (fun S4 I4 => ?_)
  refine b_gained I4 hp (by omega) (fun S5 I5 => ?_)
  have g1 := G_all m (a_ot m p) 0
  have b1 := G_31 ok p ((a_ls m (a_ot m p) : Nat) : Int)
  refine ⟨fun w => absurd w (nI_nlt (b := 1) g1 (by omega)), fun _ => ?_⟩
  refine b_gained (k := 0) I5 hp (by omega) (fun S6 I6 => ?_)
  obtain ⟨g2, -⟩ := G_none m (a_ot m p) 0
  have b2 := G_31 ok p ((0 : Nat) : Int)
  refine ⟨fun w => absurd w (nI_nlt (b := 1) g2 (by omega)), fun _ => ?_⟩
  refine b_sure I6 hp (fun S7 I7 => ?_)
  refine b_person (k := 4) I7 hp (by omega) (fun S8 I8 => ?_)
  rw [and0]
  refine ⟨fun _ => ?_, fun w => absurd rfl w⟩
  refine b_dreaded I8 hp (fun S9 I9 => ?_)
  refine b_dread I9 hp (fun S10 I10 f10 => ⟨fun w => Bool.noConfusion w, fun _ => ?_⟩)
  rcases drd_c (m := m) p with ⟨e1, e2⟩ | ⟨d, hd, e1, e2, e3, e4⟩
  · rw [e1]
    exact ⟨fun _ => l_939 I10 f10 (Or.inl ⟨rfl, e2, rfl⟩) H, fun w => absurd (by decide) w⟩
  · rw [e1]
    exact ⟨fun w => absurd w (nI_pos (by omega)), fun _ => l_939 I10 f10 (Or.inr ⟨d, hd, rfl, e2, e3, e4, rfl⟩) H⟩
theorem l_737 {p : Nat} {x14 x16 : Int64} (I : b_I S m) (hp : p < a_P m) (f : b_fr x14 x16 (a_plan m p 1) (a_all m)) (H : ∀ S', b_I S' m → K687 S' x4 x5 x6 x7 x8 x9 (b_gl m) (nI p + 1)) : (((a_bst (fun i => a_gh m p i) (a_D m)).1 < 0 → p_L_law_737 L xs K91 K687 () S x4 x5 x6 x7 x8 x9 (b_gl m) (nI p) (a_bst (fun i => a_gh m p i) (a_D m)).1 x14 x16 false) ∧ (¬ (a_bst (fun i => a_gh m p i) (a_D m)).1 < 0 → p_L_law_737 L xs K91 K687 () S x4 x5 x6 x7 x8 x9 (b_gl m) (nI p) (a_bst (fun i => a_gh m p i) (a_D m)).1 x14 x16 true)) := by
  obtain ⟨ok, R, hP, hD, hJ⟩ := I_ok I
  have hA := all_20 hJ
  have hA0 := all_pos m
  obtain ⟨le, lt⟩ := b_le0 f (sm_plan ok hJ p (by omega)).2 hA0 (by omega)
  rcases best_c ok p with ⟨e1, e2⟩ | ⟨d, hd, e1, cn, g, e2⟩
  · rw [e1]
    refine ⟨fun _ => ?_, fun w => absurd (by decide) w⟩
    unfold p_L_law_737
    refine ⟨fun _ => ?_, fun w => absurd (le.mpr (by omega)) w⟩
    unfold p_L_law_749
    exact ⟨fun w => absurd rfl w, fun _ => ⟨fun _ => l_802 I hp f H, fun w => absurd (by decide) w⟩⟩
  · rw [e1]
    refine ⟨fun w => absurd w (nI_pos (by omega)), fun _ => ?_⟩
    unfold p_L_law_737
    refine ⟨fun w => absurd (le.mp w) (by omega), fun _ => ?_⟩
    unfold p_L_law_749
    refine ⟨fun w => absurd rfl w, fun _ => ⟨fun w => absurd w (nI_pos (by omega)), fun _ => ?_⟩⟩
    refine b_can I hp hd (fun S1 I1 => ?_)
    rw [cn]
    refine ⟨fun w => absurd rfl w, fun _ => ?_⟩
    refine b_gain I1 hp hd cn (fun S2 I2 f2 => ⟨fun w => Bool.noConfusion w, fun _ => ?_⟩)
    rw [← e2] at f2
    simp only [e_top, e_bot]
    exact ⟨fun w => absurd (f2.1.trans f.1.symm) w, fun _ => ⟨fun _ => l_802 I2 hp f H, fun w => absurd (f2.2.trans f.2.symm) w⟩⟩
theorem l_687 (I : b_I S m) (H : ∀ S', b_I S' m → p_L_law_1276 L xs K91 () S' x4 x5 x6 x7 x8 x9) : ∃ fu, p_L_law_687 L xs K91 () fu S x4 x5 x6 x7 x8 x9 (b_gl m) 0 := by
  obtain ⟨ok, R, hP, hD, hJ⟩ := I_ok I
  refine v_loop (fun fu i S => p_L_law_687 L xs K91 () fu S x4 x5 x6 x7 x8 x9 (b_gl m) (nI i)) (fun _ S => b_I S m) (a_P m) (fun fu p S hp I hk => ?_) (fun fu S I => ?_) S I
  · rw [e_L_law_687, z0, I.2.2.1]
    refine ⟨v29, fun w => absurd w (nI_ge hp (by omega)), fun _ => ?_⟩
    refine b_best I hp (fun S1 I1 => ?_)
    refine b_plan (n := 1) I1 hp (by omega) (fun S2 I2 f2 => ⟨fun _ => ?_, fun w => Bool.noConfusion w⟩)
    simp only [e_top, e_bot]
    exact l_737 I2 hp f2 (fun S3 I3 => by rw [nIs]; exact hk S3 I3)
  · rw [e_L_law_687, z0, I.2.2.1]
    refine ⟨v29, fun _ => ⟨v29, ?_⟩, fun w => absurd (Int32.le_refl _) w⟩
    rintro _ rfl
    have h2 := Nat.two_pow_pos (a_P m)
    rw [bit_1 (a_P m) (by omega), show (1 : Int32) = nI 1 from rfl, pk_sub (by omega)]
    exact l_1003 I H
end BP
