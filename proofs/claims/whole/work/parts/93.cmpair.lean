/-! commit keeps it -/
theorem commit_pair {S : vSt} {x y z : Int32} {Q : vSt → Prop} (inv : a_Inv S) (hQ : ∀ S2, a_Inv S2 → Q S2) : p_X10_commit S x y z (fun r S1 => p_X11_commit S1 x y z (fun r' S2 => (r = r' → Q S2) ∧ (¬ r = r' → False))) := by
  obtain ⟨m, nm, ok, nb, R, nx, M, nM, yc⟩ := inv.2.2.2.2.1
  have h8 := ok_P8 ok
  have h10 := ok_D10 ok
  refine x_commit ok R (fun S1 f1 R1 e14 z1 => ?_)
  have M1 : a_M S1 0 m := M_fr M f1 (fun j => by simp [a_cxx, a_cx, a_sc])
  refine m_commit ok M1 (fun S2 f2 M2 d0 z2 => ⟨fun _ => hQ S2 ?_, fun w => absurd rfl w⟩)
  have F : a_fr (fun k j => a_cxx k j || a_cmx k j) S S2 := fr_t (fr_w f1 (fun k j w => (Bool.or_eq_false_iff.mp w).1)) (fr_w f2 (fun k j w => (Bool.or_eq_false_iff.mp w).2))
  have cl : ∀ k j, ¬ ((k = 10 ∧ 15 ≤ j ∧ j ≤ 18) ∨ (11 ≤ k ∧ k ≤ 24 ∧ k ≠ 12) ∨ (k = 0 ∧ j = 14) ∨ k = 74 ∨ k = 75 ∨ k = 150 ∨ (k = 148 ∧ j < 108) ∨ (k = 143 ∧ (j = 0 ∨ j = 1 ∨ j = 26))) → (a_cxx k j || a_cmx k j) = false := by
    intro k j w
    unfold a_cxx a_cmx a_cx a_cmm a_sc a_cm
    refine Bool.or_eq_false_iff.mpr ⟨Bool.or_eq_false_iff.mpr ⟨Bool.or_eq_false_iff.mpr ⟨decide_eq_false (by omega), decide_eq_false (by omega)⟩, decide_eq_false (by omega)⟩, Bool.or_eq_false_iff.mpr ⟨Bool.or_eq_false_iff.mpr ⟨decide_eq_false (by omega), decide_eq_false (by omega)⟩, decide_eq_false (by omega)⟩⟩
  have e := fun k j w => F k j (cl k j w)
  have c0 : ∀ k j, k < 143 → a_cmx k j = false := fun k j hk => by unfold a_cmx a_cmm a_cm; exact Bool.or_eq_false_iff.mpr ⟨Bool.or_eq_false_iff.mpr ⟨decide_eq_false (by omega), decide_eq_false (by omega)⟩, decide_eq_false (by omega)⟩
  have g0 := fun k j hk => f2 k j (c0 k j hk)
  have n150 : S1.2 150 = S.2 150 := funext fun j => (f1 150 j (by simp [a_cxx, a_cx, a_sc])).2
  have y18 : ∀ j, S2.2 18 j = a_zw (o_commit m x y z).2.2.2 (S.2 18) j := fun j => (g0 18 j (by omega)).2.trans (z1 j)
  have y150 : ∀ j, S2.2 150 j = a_zw ((o_commit m x y z).2.2.2.map (8 + ·)) (S.2 150) j := fun j => by rw [z2 j, n150]
  have key : ∃ nm', a_ok (o_commit m x y z).2.2.1 ∧ a_nmb (o_commit m x y z).2.2.1 nm' ∧ a_nmX S2 10 (o_commit m x y z).2.2.1 nm' ∧ a_nmM S2 0 (o_commit m x y z).2.2.1 nm' ∧ a_P m ≤ a_P (o_commit m x y z).2.2.1 ∧ a_D m ≤ a_D (o_commit m x y z).2.2.1 ∧ (∀ j, 108 ≤ j → (o_commit m x y z).2.2.1 j = m j) ∧ ∀ j, 18 ≤ j → S2.2 150 j = S.2 150 j := by
    have e12 : ∀ p, p < a_P m → S2.2 12 p = lN (nm p) := fun p hp => by rw [(e 12 p (by omega)).2]; exact nx.1 p hp
    rcases commit_c (x := x) (y := y) (z := z) ok with ⟨w, em⟩ | ⟨c, w, ok', eP, eD, hi⟩
    · rw [w] at y18 y150
      rw [em]
      have y150 : ∀ j, S2.2 150 j = S.2 150 j := y150
      refine ⟨nm, ok, nb, ⟨e12, fun d hd => (y18 d).trans (nx.2 d hd)⟩, ⟨fun p hp => (y150 _).trans (nM.1 p hp), fun d hd => (y150 _).trans (nM.2 d hd)⟩, Nat.le_refl _, Nat.le_refl _, fun _ _ => rfl, fun j _ => y150 j⟩
    · rw [w] at y18 y150
      have y18 : ∀ j, S2.2 18 j = if j = a_D m then 0 else S.2 18 j := y18
      have y150 : ∀ j, S2.2 150 j = if j = 8 + a_D m then 0 else S.2 150 j := y150
      have up : ∀ i, a_up2 nm (8 + a_D m) 0 i = if i = 8 + a_D m then 0 else nm i := fun i => rfl
      refine ⟨a_up2 nm (8 + a_D m) 0, ok', ⟨fun p hp => ?_, fun d hd => ?_⟩, ⟨fun p hp => ?_, fun d hd => ?_⟩, ⟨fun p hp => ?_, fun d hd => ?_⟩, by omega, by omega, hi, fun j hj => ?_⟩
      · rw [up, if_neg (by omega)]; exact nb.1 p (by omega)
      · rw [up]
        by_cases q : d = a_D m
        · rw [if_pos (by omega)]; omega
        · rw [if_neg (by omega)]; exact nb.2 d (by omega)
      · rw [up, if_neg (by omega)]; exact e12 p (by omega)
      · rw [up]
        show S2.2 18 d = _
        rw [y18]
        by_cases q : d = a_D m
        · rw [if_pos q, if_pos (by omega)]; rfl
        · rw [if_neg q, if_neg (by omega)]; exact nx.2 d (by omega)
      · rw [up, if_neg (by omega), y150, if_neg (by omega)]; exact nM.1 p (by omega)
      · rw [up, y150]
        by_cases q : d = a_D m
        · rw [if_pos (by omega), if_pos (by omega)]; rfl
        · rw [if_neg (by omega), if_neg (by omega)]; exact nM.2 d (by omega)
      · rw [y150, if_neg (by omega)]
  obtain ⟨nm', ok', nb', nx', nM', hP, hD, hi, h150⟩ := key
  obtain ⟨⟨i14, i17, i18⟩, ⟨i15, i16⟩, -, tp, -, -, lv, lr⟩ := id inv
  refine Inv_gen inv F (fun k j w => cl k j (by unfold a_kp at w; omega)) (fun j h1 _ => h150 j h1) ⟨?_, ?_, ?_⟩ ⟨?_, ?_⟩ (Tp_fr tp F (cl 5 1 (by omega)) (fun j => cl 6 j (by omega)) (cl 143 8 (by omega)) (fun j => cl 147 j (by omega))) ?_ (Lv_fr lv F (cl 0 12 (by omega)) (cl 143 33 (by omega))) (lr_fr lr F (fun j => cl 76 j (by omega)) (fun j => cl 154 j (by omega)))
  · rw [(g0 0 14 (by omega)).1, e14, d0]
  · rw [(e 0 17 (by omega)).2, (e 143 2 (by omega)).2]; exact i17
  · rw [(e 0 18 (by omega)).2, (e 143 3 (by omega)).2]; exact i18
  · rw [(e 0 15 (by omega)).1, (e 143 10 (by omega)).1]; exact i15
  · rw [(e 0 16 (by omega)).1, (e 143 11 (by omega)).1]; exact i16
  · refine ⟨_, nm', ok', nb', R_fr R1 f2 (fun j hj => ?_), nx', M2, nM', Yc_m (Yc_fr yc F (fun k j h1 h2 => cl k j (by omega))) hP hD hi⟩
    have h1 : (a_xr j).1 ≤ 14 := (by decide +kernel : ∀ i, i < 108 → (a_xr i).1 ≤ 14) j hj
    exact c0 _ _ (by omega)
