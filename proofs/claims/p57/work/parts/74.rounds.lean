/-! THE LAW: round by round -/
section BR
variable {L : Nat} {xs : Nat → Int32} {K91 : vSt → Int32 → Int32 → Int32 → Prop} {S : vSt} {m : Nat → Int32} {x4 x5 x6 x7 : Int32} {c t : Int}
theorem l_157 (I : b_I S m) (Z : b_Z m (a_P m) c t x5) (hc : c + 2000 ≤ 99999) (ht : t + 1000 ≤ 99999) (h : ∀ S' m', b_T S' m' (c + 2000) (t + 1000) x5 → a_P m' = a_P m → K91 S' x4 x5 (x6 + 1)) : ∃ fu, p_L_law_157 L xs K91 () fu S x4 x5 x6 x7 (nI (a_D m)) (b_op m) (m 6) 0 := by
  obtain ⟨ok, R, hP, hD, hJ⟩ := I_ok I
  refine v_loop (fun fu i (g : vSt × Int32) => p_L_law_157 L xs K91 () fu g.1 x4 x5 x6 x7 (nI (a_D m)) (b_op m) g.2 (nI i)) (fun i g => b_I g.1 m ∧ g.2 = b_cs m i) (a_P m) (fun fu p g hp hI hk => ?_) (fun fu g hI => ?_) (S, m 6) ⟨I, rfl⟩
  · obtain ⟨I, e⟩ := hI
    show p_L_law_157 L xs K91 () (fu + 1) g.1 x4 x5 x6 x7 (nI (a_D m)) (b_op m) g.2 (nI p)
    rw [e_L_law_157, z0, I.2.2.1]
    refine ⟨v29, fun w => absurd w (nI_ge hp (by omega)), fun _ => ?_⟩
    refine b_person (k := 0) I hp (by omega) (fun S1 I1 => ?_)
    rintro _ rfl _ rfl
    rw [nIs, e]
    exact hk (S1, b_cs m p + a_pf m p 0) ⟨I1, rfl⟩
  · obtain ⟨I, e⟩ := hI
    show p_L_law_157 L xs K91 () (fu + 1) g.1 x4 x5 x6 x7 (nI (a_D m)) (b_op m) g.2 (nI (a_P m))
    rw [e_L_law_157, z0, I.2.2.1]
    refine ⟨v29, fun _ => ?_, fun w => absurd (Int32.le_refl _) w⟩
    refine ⟨fun w => absurd (e.trans Z.2.2) w, fun _ => ?_⟩
    refine b_many (k := 8) I (by omega) (fun S1 I1 => ?_)
    have s1 : b_op m &&& a_fact m 8 = 0 := set_and0 (a := fun d => decide (m (78 + d) = 0)) (b := fun d => decide (m (78 + d) = nI (8 - 7))) (n := a_D m) (by omega) (fun d _ w => decide_eq_false (fun q => by
      rw [of_decide_eq_true w] at q
      exact absurd q (by decide)))
    refine ⟨fun w => absurd s1 w, fun _ => ?_⟩
    refine b_quiet I1 (fun S2 I2 => ?_)
    have s2 : v_set (fun d => decide (m (78 + d) = 0) && !decide (a_dread m d ≠ 0)) (a_D m) &&& (b_op m ^^^ (-1)) = 0 := set_sub0 (by omega) (fun d _ w => ((Bool.and_eq_true _ _).mp w).1)
    refine ⟨fun _ => ?_, fun w => absurd s2 w⟩
    refine b_many (k := 5) I2 (by omega) (fun S3 I3 => ?_)
    refine b_many (k := 4) I3 (by omega) (fun S4 I4 => ?_)
    rw [show a_fact m 5 = m 5 from rfl, show a_fact m 4 = m 4 from rfl]
    refine b_gladBy I4 (fun S5 I5 => ?_)
    refine b_quiet I5 (fun S6 I6 => ?_)
    have s3 : b_gl m &&& v_set (fun d => decide (m (78 + d) = 0) && !decide (a_dread m d ≠ 0)) (a_D m) = 0 := set_and0 (by omega) (fun d _ w => by
      rw [w]
      simp)
    refine ⟨fun w => absurd s3 w, fun _ => ?_⟩
    refine b_quiet I6 (fun S7 I7 => ?_)
    have s4 : b_gl m ||| v_set (fun d => decide (m (78 + d) = 0) && !decide (a_dread m d ≠ 0)) (a_D m) = b_op m := set_or (by omega) (fun d _ => by
      by_cases q : a_dread m d ≠ 0
      · rw [decide_eq_true q, decide_eq_true (dr_open _ q)]
        rfl
      · rw [decide_eq_false q]
        simp)
    refine ⟨fun _ => ?_, fun w => absurd s4 w⟩
    exact l_259 I7 (fun S8 I8 => l_1276 I8 Z hc ht h)
theorem l_129 {s0 : Int32} (T : b_T S m c t x5) (hc : c + 2000 ≤ 99999) (ht : t + 1000 ≤ 99999) (h : ∀ S' m', b_T S' m' (c + 2000) (t + 1000) x5 → a_P m' = a_P m → K91 S' x4 x5 (x6 + 1)) : p_L_law_129 L xs K91 () S x4 x5 x6 s0 := by
  obtain ⟨I, Z⟩ := T
  unfold p_L_law_129
  refine b_many (k := 1) I (by omega) (fun S1 I1 => ?_)
  refine b_many (k := 7) I1 (by omega) (fun S2 I2 => ?_)
  refine b_many (k := 6) I2 (by omega) (fun S3 I3 => ?_)
  rw [show a_fact m 1 = m 1 from rfl, ok_m1 I.1, show a_fact m 7 = b_op m from rfl, show a_fact m 6 = m 6 from rfl]
  exact l_157 I3 Z hc ht h
end BR
theorem l_91 {L : Nat} {xs : Nat → Int32} {S : vSt} {m : Nat → Int32} {x4 x5 : Int32} (hL : L ≤ 260) (T : b_T S m 10000 1000 x5) : ∃ fu, p_L_law_91 L xs () fu S x4 x5 0 := by
  refine v_loop (fun fu i S => p_L_law_91 L xs () fu S x4 x5 (nI i)) (fun i S => ∃ m, b_T S m (10000 + 2000 * i) (1000 + 1000 * i) x5) 7 (fun fu r S hr hI hk => ?_) (fun fu S hI => ?_) S ⟨m, T.1, Z_w T.2 (by omega) (by omega)⟩
  · obtain ⟨m, T⟩ := hI
    rw [e_L_law_91]
    have go : ∀ s0, p_L_law_129 L xs (p_L_law_91 L xs () fu) () S x4 x5 (nI r) s0 := fun s0 => l_129 T (by omega) (by omega) (fun S' m' T' _ => by
      rw [nIs]
      refine hk S' ⟨m', T'.1, Z_w T'.2 ?_ ?_⟩
      · rw [Int.natCast_add]; omega
      · rw [Int.natCast_add]; omega)
    refine ⟨fun _ => trivial, fun _ => ⟨fun _ => go _, fun w => ⟨vpin ⟨?_, by omega⟩, go _⟩⟩⟩
    exact Nat.lt_of_not_le (fun q => w (nI_le q (by omega)))
  · rw [e_L_law_91]
    exact ⟨fun _ => trivial, fun w => absurd (Int32.le_refl _) w⟩
theorem l_62 {L : Nat} {xs : Nat → Int32} {S : vSt} {m : Nat → Int32} {x4 : Int32} (hL : L ≤ 260) (I : b_I S m) (Z : b_Z m (a_P m) 10000 1000 (b_cs m (a_P m))) : ∃ fu, p_L_law_62 L xs () fu S x4 (m 6) 0 := by
  obtain ⟨ok, R, hP, hD, hJ⟩ := I_ok I
  refine v_loop (fun fu i (g : vSt × Int32) => p_L_law_62 L xs () fu g.1 x4 g.2 (nI i)) (fun i g => b_I g.1 m ∧ g.2 = b_cs m i) (a_P m) (fun fu p g hp hI hk => ?_) (fun fu g hI => ?_) (S, m 6) ⟨I, rfl⟩
  · obtain ⟨I, e⟩ := hI
    show p_L_law_62 L xs () (fu + 1) g.1 x4 g.2 (nI p)
    rw [e_L_law_62, z0, I.2.2.1]
    refine ⟨v29, fun w => absurd w (nI_ge hp (by omega)), fun _ => ?_⟩
    refine b_person (k := 0) I hp (by omega) (fun S1 I1 => ?_)
    rintro _ rfl _ rfl
    rw [nIs, e]
    exact hk (S1, b_cs m p + a_pf m p 0) ⟨I1, rfl⟩
  · obtain ⟨I, e⟩ := hI
    show p_L_law_62 L xs () (fu + 1) g.1 x4 g.2 (nI (a_P m))
    rw [e_L_law_62, z0, I.2.2.1]
    refine ⟨v29, fun _ => ?_, fun w => absurd (Int32.le_refl _) w⟩
    rw [e]
    exact l_91 hL ⟨I, Z⟩
