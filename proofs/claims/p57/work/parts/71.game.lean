/-! THE LAW: two who charge each other; clubs -/
section BG
variable {L : Nat} {xs : Nat → Int32} {K91 : vSt → Int32 → Int32 → Int32 → Prop} {S : vSt} {m : Nat → Int32} {x4 x5 x6 x7 x8 x9 : Int32}
theorem l_1246 {x13 x15 : Int64} (I : b_I S m) (hg : 1 < a_P m) (c1 : b_fr x13 x15 (a_pl m 0 1 1 true 0) (a_all m)) (H : ∀ S', b_I S' m → p_L_law_1276 L xs K91 () S' x4 x5 x6 x7 x8 x9) : p_L_law_1246 L xs K91 () S x4 x5 x6 x7 x8 x9 x13 x15 := by
  obtain ⟨ok, R, hP, hD, hJ⟩ := I_ok I
  have hA := all_20 hJ
  have hA0 := all_pos m
  unfold p_L_law_1246
  refine b_game (k := 2) I hg (by omega) (fun S1 I1 f1 => ⟨fun w => Bool.noConfusion w, fun _ => ?_⟩)
  simp only [e_top, e_bot]
  refine ⟨fun _ => H S1 I1, fun w => absurd (b_cmp f1 c1 (sm_pl ok hJ 0 1 (by omega)) (sm_pl ok hJ 0 1 (by omega)) hA0 hA0 (by omega) (by omega) ?_) w⟩
  exact Int.mul_le_mul_of_nonneg_right pl_21 (by omega)
theorem l_1217 {x13 x15 : Int64} {x17 : Int32} (I : b_I S m) (hg : 1 < a_P m) (c1 : b_fr x13 x15 (a_pl m 0 1 1 true 0) (a_all m)) (hm : x17 = -1 ∨ ∃ d, d < a_D m ∧ x17 = nI d ∧ m (48 + d) = nI 1 ∧ a_can m 0 d = true) (H : ∀ S', b_I S' m → p_L_law_1276 L xs K91 () S' x4 x5 x6 x7 x8 x9) : p_L_law_1217 L xs K91 () S x4 x5 x6 x7 x8 x9 x13 x15 x17 := by
  obtain ⟨ok, R, hP, hD, hJ⟩ := I_ok I
  unfold p_L_law_1217
  rcases hm with rfl | ⟨d, hd, rfl, e, cn⟩
  · exact ⟨fun _ => l_1246 I hg c1 H, fun w => absurd (by decide) w⟩
  · refine ⟨fun w => absurd w (nI_pos (by omega)), fun _ => ?_⟩
    refine b_deed (k := 0) I hd (by omega) (fun S1 I1 => ⟨fun w => absurd e w, fun _ => ?_⟩)
    refine b_can (p := 0) I1 (by omega) hd (fun S2 I2 => ?_)
    rw [cn]
    exact ⟨fun _ => l_1246 I2 hg c1 H, fun w => absurd rfl w⟩
theorem l_game (I : b_I S m) (H : ∀ S', b_I S' m → p_L_law_1276 L xs K91 () S' x4 x5 x6 x7 x8 x9) : ¬ (S.1 144 (Int32.toNatClampNeg 0)) ≤ 1 → p_X10_game S 0 1 1 (fun r622 S621 => ((r622 = true → p_X10_top S621 (fun r624 S623 => p_X10_bottom S623 (fun r626 S625 => p_X10_moveOf S625 0 1 1 (fun r628 S627 => ((r624 < 0 → False) ∧ (¬ r624 < 0 → ((r624 ≤ 0 → p_L_law_1217 L xs K91 () S627 x4 x5 x6 x7 x8 x9 r624 r626 r628) ∧ (¬ r624 ≤ 0 → ((r628 < 0 → False) ∧ (¬ r628 < 0 → p_L_law_1217 L xs K91 () S627 x4 x5 x6 x7 x8 x9 r624 r626 r628)))))))))) ∧ (r622 = false → False))) := by
  intro w
  obtain ⟨ok, R, hP, hD, hJ⟩ := I_ok I
  have hA := all_20 hJ
  have hA0 := all_pos m
  rw [z0, I.2.2.1] at w
  have hg : 1 < a_P m := Classical.byContradiction (fun q => w (nI_le (b := 1) (by omega) (by omega)))
  refine b_game (k := 1) I hg (by omega) (fun S1 I1 f1 => ⟨fun _ => ?_, fun w => Bool.noConfusion w⟩)
  simp only [e_top, e_bot]
  refine b_move I1 hg (fun S2 I2 => ?_)
  obtain ⟨le, lt⟩ := b_le0 f1 (sm_pl ok hJ 0 1 (by omega)) hA0 (by omega)
  have nn := pl_0 (m := m) (p := 0) (o := 1)
  refine ⟨fun w => absurd (lt.mp w) (by omega), fun _ => ?_⟩
  rcases first_c (m := m) (p := 0) (o := 1) with ⟨e, z⟩ | ⟨d, hd, e, e1, cn⟩
  · rw [e]
    exact ⟨fun _ => l_1217 I2 hg f1 (Or.inl rfl) H, fun w => absurd (le.mpr z) w⟩
  · rw [e]
    exact ⟨fun _ => l_1217 I2 hg f1 (Or.inr ⟨d, hd, rfl, e1, cn⟩) H, fun _ => ⟨fun w => absurd w (nI_pos (by omega)), fun _ => l_1217 I2 hg f1 (Or.inr ⟨d, hd, rfl, e1, cn⟩) H⟩⟩
/-! who stays -/
theorem l_1098 {K1003 : vSt → Int32 → Int32 → Int32 → Int32 → Int32 → Int32 → Int32 → Int32 → Prop} {x12 x13 : Int32} {x15 x17 : Int64} {q : Nat} (I : b_I S m) (hq : q < 2 ^ a_P m) (h0 : q ≠ 0) (fix : a_stay m q = q) (c1 : b_fr x15 x17 (a_ds m q (a_P m) : Int) (a_all m * a_cnt q 10)) (H : ∀ S', b_I S' m → K1003 S' x4 x5 x6 x7 x8 x9 x12 (x13 + 1)) : ∃ fu, p_L_law_1098 L xs K91 K1003 () fu S x4 x5 x6 x7 x8 x9 x12 x13 (nI q) x15 x17 0 := by
  obtain ⟨ok, R, hP, hD, hJ⟩ := I_ok I
  have h2P := pow_P ok
  have hA := all_20 hJ
  have hA0 := all_pos m
  have hc := cnt_0 (q := q) (by omega) h0
  have hc8 := cnt_P ok hq
  have hu : a_all m * a_cnt q 10 ≤ 2 ^ 20 * 8 := Nat.mul_le_mul hA hc8
  have hu0 : 0 < a_all m * a_cnt q 10 := Nat.mul_pos hA0 hc
  refine v_loop (fun fu i S => p_L_law_1098 L xs K91 K1003 () fu S x4 x5 x6 x7 x8 x9 x12 x13 (nI q) x15 x17 (nI i)) (fun _ S => b_I S m) (a_P m) (fun fu i S hi I hk => ?_) (fun fu S I => ?_) S I
  · have next : ∀ S', b_I S' m → p_L_law_1146 L xs K91 K1003 (p_L_law_1098 L xs K91 K1003 () fu) () S' x4 x5 x6 x7 x8 x9 x12 x13 (nI q) x15 x17 (nI i) := fun S' I' => by
      unfold p_L_law_1146
      rintro _ rfl
      rw [nIs]
      exact hk S' I'
    rw [e_L_law_1098, z0, I.2.2.1]
    refine ⟨v29, fun w => absurd w (nI_ge hi (by omega)), fun _ => ?_⟩
    rw [nat_sh (q := q) (d := i) (by omega) (by omega)]
    refine ⟨fun _ => next S I, fun hb => ?_⟩
    refine b_dread I hi (fun S1 I1 f1 => ⟨fun w => Bool.noConfusion w, fun _ => ?_⟩)
    simp only [e_top, e_bot]
    refine ⟨fun _ => next S1 I1, fun w => absurd (b_cmp c1 f1 (sm_ds ok hJ q) (sm_da ok hJ i) hu0 hA0 (by omega) (by omega) ?_) w⟩
    have hf := stay_fear fix hi hb
    have e1 : ((a_ds m q (a_P m) : Nat) : Int) * ((a_all m : Nat) : Int) = ((a_ds m q (a_P m) * a_all m : Nat) : Int) := (Int.natCast_mul _ _).symm
    have e2 : ((a_da m i : Nat) : Int) * ((a_all m * a_cnt q 10 : Nat) : Int) = ((a_da m i * (a_all m * a_cnt q 10) : Nat) : Int) := (Int.natCast_mul _ _).symm
    rw [e1, e2]
    have h3 : a_ds m q (a_P m) * a_all m ≤ a_da m i * a_cnt q 10 * a_all m := Nat.mul_le_mul_right _ hf
    have h4 : a_da m i * a_cnt q 10 * a_all m = a_da m i * (a_all m * a_cnt q 10) := by ac_rfl
    omega
  · rw [e_L_law_1098, z0, I.2.2.1]
    refine ⟨v29, fun _ => ?_, fun w => absurd (Int32.le_refl _) w⟩
    unfold p_L_law_1152
    rintro _ rfl
    exact H S I
theorem l_1003 (I : b_I S m) (H : ∀ S', b_I S' m → p_L_law_1276 L xs K91 () S' x4 x5 x6 x7 x8 x9) : ∃ fu, p_L_law_1003 L xs K91 () fu S x4 x5 x6 x7 x8 x9 (nI (2 ^ a_P m - 1)) 0 := by
  obtain ⟨ok, R, hP, hD, hJ⟩ := I_ok I
  have h2P := pow_P ok
  have h2 := Nat.two_pow_pos (a_P m)
  refine v_loop (fun fu i S => p_L_law_1003 L xs K91 () fu S x4 x5 x6 x7 x8 x9 (nI (2 ^ a_P m - 1)) (nI i)) (fun _ S => b_I S m) (2 ^ a_P m) (fun fu q S hq I hk => ?_) (fun fu S I => ?_) S I
  · rw [e_L_law_1003]
    refine ⟨fun w => absurd w (nI_nlt (by omega) (by omega)), fun _ => ?_⟩
    have next : ∀ S' (x14 : Int32), b_I S' m → p_L_law_1152 L xs K91 (p_L_law_1003 L xs K91 () fu) () S' x4 x5 x6 x7 x8 x9 (nI (2 ^ a_P m - 1)) (nI q) := fun S' _ I' => by
      unfold p_L_law_1152
      rintro _ rfl
      rw [nIs]
      exact hk S' I'
    obtain ⟨sl, sb⟩ := cl_sub (m := m) 9 q hq
    have fix := cl_stay ok 9 q hq (by have := cnt_P ok hq; omega)
    have e1 : nI (a_cl m 9 q) &&& (nI q ^^^ (-1)) = 0 := and_not (c := 0) (by omega) (by omega) (fun j _ => by
      rw [Nat.zero_testBit]
      cases c : (a_cl m 9 q).testBit j
      · rfl
      · rw [sb j c]; rfl)
    have e2 : a_cl m 9 (a_cl m 9 q) = a_cl m 9 q := if_pos fix
    refine b_club I hq (fun S1 I1 => ⟨fun w => absurd e1 w, fun _ => ?_⟩)
    refine b_club I1 sl (fun S2 I2 => ?_)
    rw [e2]
    refine ⟨fun w => absurd rfl w, fun _ => ?_⟩
    rcases Nat.eq_zero_or_pos q with z | z
    · subst z
      rw [cl_0]
      refine ⟨fun w => absurd rfl w, fun _ => ?_⟩
      unfold p_L_law_1049
      refine ⟨fun w => absurd rfl w, fun _ => ?_⟩
      unfold p_L_law_1059
      exact ⟨fun _ => ⟨fun w => absurd rfl w, fun _ => next S2 0 I2⟩, fun w => absurd rfl w⟩
    · have sp := cl_pos ok 9 q hq (by omega)
      have ns : ¬ nI (a_cl m 9 q) = 0 := nI_ne0 (by omega) (by omega)
      refine ⟨fun _ => ?_, fun w => absurd w ns⟩
      unfold p_L_law_1049
      refine ⟨fun _ => ?_, fun w => absurd w (nI_ne0 z (by omega))⟩
      unfold p_L_law_1059
      refine ⟨fun _ => ⟨fun _ => ?_, fun w => absurd w ns⟩, fun w => absurd rfl w⟩
      refine b_part I2 sl sp (fun S3 I3 f3 => ⟨fun _ => ?_, fun w => Bool.noConfusion w⟩)
      simp only [e_top, e_bot]
      refine l_1098 I3 sl sp fix f3 (fun S4 I4 => ?_)
      rw [nIs]
      exact hk S4 I4
  · rw [e_L_law_1003]
    refine ⟨fun _ => ⟨v29, fun _ => H S I, l_game I H⟩, fun w => absurd (nI_lt (by omega) (by omega)) w⟩
end BG
