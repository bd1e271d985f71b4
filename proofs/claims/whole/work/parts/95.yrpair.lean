/-! years keep it -/
theorem ok_lo {m m' : Nat → Int32} (ok : a_ok m) (e : ∀ j, j < 108 → m' j = m j) : a_ok m' := by
  have h8 := ok_P8 ok
  have h10 := ok_D10 ok
  have eP : a_P m' = a_P m := by unfold a_P; rw [e 0 (by omega)]
  have eD : a_D m' = a_D m := by unfold a_D; rw [e 1 (by omega)]
  obtain ⟨a0, a1, a2, a3, a4, a5, a6, ap, ad⟩ := ok
  refine ⟨?_, ?_, ?_, ?_, ?_, ?_, ?_, fun p hp => ?_, fun d hd => ?_⟩
  · rw [e 0 (by omega)]; exact a0
  · rw [e 1 (by omega)]; exact a1
  · rw [e 2 (by omega)]; exact a2
  · rw [e 3 (by omega)]; exact a3
  · rw [e 4 (by omega)]; exact a4
  · rw [e 5 (by omega)]; exact a5
  · rw [e 6 (by omega)]; exact a6
  · have := ap p (by omega)
    unfold a_okP at this ⊢
    rw [e (8 + p) (by omega), e (16 + p) (by omega), e (40 + p) (by omega), eD]; exact this
  · have := ad d (by omega)
    unfold a_okD at this ⊢
    rw [e (48 + d) (by omega), e (58 + d) (by omega), e (68 + d) (by omega), e (78 + d) (by omega), e (88 + d) (by omega), e (98 + d) (by omega), eP]; exact this
theorem R_lo {S : vSt} {b : Nat} {m m' : Nat → Int32} (R : a_R S b m) (e : ∀ j, j < 108 → m' j = m j) : a_R S b m' := by
  intro j hj
  have hl := a_lv_lt hj
  have : a_lv m j := by
    unfold a_lv a_P a_D at hj ⊢
    rw [e 0 (by omega), e 1 (by omega), e (78 + (j - 88) % 10) (by omega)] at hj
    exact hj
  rw [e j hl]; exact R j this
theorem years_pair {S : vSt} {x : Int32} {Q : vSt → Prop} (inv : a_Inv S) (hQ : ∀ S2, a_Inv S2 → Q S2) : p_X10_years S x (fun r S1 => p_X11_years S1 x (fun r' S2 => (r = r' → Q S2) ∧ (¬ r = r' → False))) := by
  obtain ⟨⟨i14, i17, i18⟩, ⟨i15, i16⟩, -, tp, ci, -, lv, lr⟩ := id inv
  obtain ⟨L, by_, px1, pm1⟩ := id tp
  obtain ⟨m, nm, ok, nb, R, nx, M, nM, yc⟩ := id ci
  have h8 := ok_P8 ok
  have h10 := ok_D10 ok
  have hL := px1.1
  refine x_years (y := fun j => S.1 148 (1630 + j)) ⟨ok, nb, R, nx⟩ px1 (fun g => ?_) (fun n hn h3 e => ?_)
  · have pm2 : a_TpM (v_si S 0 14 5) L by_ := ⟨pm1.1, pm1.2.1, pm1.2.2⟩
    have cm : a_CM (v_si S 0 14 5) m nm := ⟨ok, nb, M, nM⟩
    refine m_years (W := fun _ _ => 0) cm pm2 (fun _ => ⟨fun _ => ?_, fun w => absurd rfl w⟩) (fun n hn h3 e => absurd ⟨n, hn, h3, e⟩ g)
    rw [st_s]; exact hQ _ (Inv_st (Inv_1 inv))
  · have wf := toks_wf (by_ := by_) (show n ≤ 900 by omega)
    cases q : a_ryr m nm (a_toks by_ n).length (fun c i => S.1 (48 + c) i, fun j => S.1 148 (1630 + j), 0, 0, []) (a_toks by_ n) with
    | inl er =>
      intro S1 f1 e14 e15 e16 t1
      have pm2 : a_TpM S1 L by_ := ⟨pm1.1, (f1 143 8 rfl).1.trans pm1.2.1, fun j hj => (f1 147 j rfl).1.trans (pm1.2.2 j hj)⟩
      have cm : a_CM S1 m nm := ⟨ok, nb, M_fr M f1 (fun j => rfl), ⟨fun p hp => (f1 150 _ rfl).2.trans (nM.1 p hp), fun d hd => (f1 150 _ rfl).2.trans (nM.2 d hd)⟩⟩
      have ey : (fun j => S1.1 148 (1630 + j)) = fun j => S.1 148 (1630 + j) := funext fun j => (f1 148 _ rfl).1
      refine m_years (W := fun c i => S.1 (48 + c) i) cm pm2 (fun w => absurd ⟨n, hn, h3, e⟩ w) (fun n' hn' h3' e' => ?_)
      have en : n' = n := (nI_eq (by omega) (by omega)).mp (e'.symm.trans e)
      subst en
      rw [ey, q]
      intro S2 f2 d0 d10 d11 t2
      refine ⟨fun _ => hQ S2 ?_, fun w => absurd rfl w⟩
      have F : a_fr (fun k j => a_cy k j || a_myr k j) S S2 := fr_t (fr_w f1 (fun k j w => (Bool.or_eq_false_iff.mp w).1)) (fr_w f2 (fun k j w => (Bool.or_eq_false_iff.mp w).2))
      have cl : ∀ k j, ¬ ((k = 5 ∧ 1 ≤ j ∧ j ≤ 12) ∨ (32 ≤ k ∧ k ≤ 53) ∨ (55 ≤ k ∧ k ≤ 57) ∨ (7 ≤ k ∧ k ≤ 9) ∨ (k = 0 ∧ 14 ≤ j ∧ j ≤ 16) ∨ (k = 143 ∧ (j ≤ 1 ∨ (8 ≤ j ∧ j ≤ 19) ∨ j = 24 ∨ j = 25)) ∨ (k = 148 ∧ 1520 ≤ j) ∨ (k = 150 ∧ 72 ≤ j)) → (a_cy k j || a_myr k j) = false := fun k j w => Bool.or_eq_false_iff.mpr ⟨decide_eq_false (by omega), Bool.or_eq_false_iff.mpr ⟨decide_eq_false (by omega), decide_eq_false (by omega)⟩⟩
      have c0 : ∀ k j, k < 143 → a_myr k j = false := fun k j hk => Bool.or_eq_false_iff.mpr ⟨decide_eq_false (by omega), decide_eq_false (by omega)⟩
      have g0 := fun k j hk => f2 k j (c0 k j hk)
      have e := fun k j w => F k j (cl k j w)
      refine Inv_gen inv F (fun k j w => cl k j (by unfold a_kp at w; omega)) (fun j h1 h2 => (e 150 j (by omega)).2) ⟨?_, ?_, ?_⟩ ⟨?_, ?_⟩ (Tp_0 tp F ((g0 5 1 (by omega)).1.trans t1) (fun j => cl 6 j (by omega)) t2 (fun j => cl 147 j (by omega))) ?_ (Lv_fr lv F (cl 0 12 (by omega)) (cl 143 33 (by omega))) (lr_fr lr F (fun j => cl 76 j (by omega)) (fun j => cl 154 j (by omega)))
      · rw [(g0 0 14 (by omega)).1, e14, d0]
      · rw [(e 0 17 (by omega)).2, (e 143 2 (by omega)).2]; exact i17
      · rw [(e 0 18 (by omega)).2, (e 143 3 (by omega)).2]; exact i18
      · rw [(g0 0 15 (by omega)).1, e15, d10]
      · rw [(g0 0 16 (by omega)).1, e16, d11]
      · exact City_fr ci F (by omega) (fun k j h1 h2 => cl k j (by omega)) (fun j h1 h2 => cl 10 j (by omega)) (fun j h1 h2 => cl 148 j (by omega)) (fun j h1 h2 => cl 150 j (by omega))
    | inr s =>
      have yi := ryr_ok _ _ _ _ YI_0 wf (Nat.le_refl _) q
      have sg := ryr_sg _ _ _ _ YI_0 wf (Nat.le_refl _) sg_0 q
      obtain ⟨⟨y1, y2, -, -⟩, y5⟩ := yi
      rw [y5] at y1
      have y1 : s.2.2.1 + 0 ≤ 2 * s.2.2.2.1 := y1
      intro S1 f1 W1 w6 w7 w8 e14 e15 e16 t1
      have pm2 : a_TpM S1 L by_ := ⟨pm1.1, (f1 143 8 rfl).1.trans pm1.2.1, fun j hj => (f1 147 j rfl).1.trans (pm1.2.2 j hj)⟩
      have cm : a_CM S1 m nm := ⟨ok, nb, M_fr M f1 (fun j => rfl), ⟨fun p hp => (f1 150 _ rfl).2.trans (nM.1 p hp), fun d hd => (f1 150 _ rfl).2.trans (nM.2 d hd)⟩⟩
      have ey : (fun j => S1.1 148 (1630 + j)) = fun j => S.1 148 (1630 + j) := funext fun j => (f1 148 _ rfl).1
      refine m_years (W := fun c i => S.1 (48 + c) i) cm pm2 (fun w => absurd ⟨n, hn, h3, e⟩ w) (fun n' hn' h3' e' => ?_)
      have en : n' = n := (nI_eq (by omega) (by omega)).mp (e'.symm.trans e)
      subst en
      rw [ey, q]
      intro S2 f2 M2 d0 d10 d11 t2
      refine ⟨fun _ => hQ S2 ?_, fun w => absurd rfl w⟩
      have F : a_fr (fun k j => a_cyr k j || a_myy k j) S S2 := fr_t (fr_w f1 (fun k j w => (Bool.or_eq_false_iff.mp w).1)) (fr_w f2 (fun k j w => (Bool.or_eq_false_iff.mp w).2))
      have cl : ∀ k j, ¬ ((k = 5 ∧ 1 ≤ j ∧ j ≤ 12) ∨ (32 ≤ k ∧ k ≤ 53) ∨ (55 ≤ k ∧ k ≤ 57) ∨ (7 ≤ k ∧ k ≤ 9) ∨ (k = 0 ∧ 14 ≤ j ∧ j ≤ 16) ∨ (25 ≤ k ∧ k ≤ 30) ∨ (k = 143 ∧ (j ≤ 1 ∨ (8 ≤ j ∧ j ≤ 19) ∨ j = 24 ∨ j = 25)) ∨ (k = 148 ∧ 1520 ≤ j) ∨ (k = 150 ∧ 72 ≤ j) ∨ (k = 148 ∧ 108 ≤ j ∧ j < 380)) → (a_cyr k j || a_myy k j) = false := fun k j w => Bool.or_eq_false_iff.mpr ⟨Bool.or_eq_false_iff.mpr ⟨decide_eq_false (by omega), decide_eq_false (by omega)⟩, Bool.or_eq_false_iff.mpr ⟨Bool.or_eq_false_iff.mpr ⟨decide_eq_false (by omega), decide_eq_false (by omega)⟩, decide_eq_false (by omega)⟩⟩
      have c0 : ∀ k j, k < 143 → a_myy k j = false := fun k j hk => Bool.or_eq_false_iff.mpr ⟨Bool.or_eq_false_iff.mpr ⟨decide_eq_false (by omega), decide_eq_false (by omega)⟩, decide_eq_false (by omega)⟩
      have g0 := fun k j hk => f2 k j (c0 k j hk)
      have e := fun k j w => F k j (cl k j w)
      have lo : ∀ j, j < 108 → a_ymm m s.2.2.2.1 s.2.1 j = m j := fun j hj => by
        unfold a_ymm
        rw [if_neg (by omega), if_neg (by omega), if_neg (by omega)]
      have eP : a_P (a_ymm m s.2.2.2.1 s.2.1) = a_P m := by unfold a_P; rw [lo 0 (by omega)]
      have eD : a_D (a_ymm m s.2.2.2.1 s.2.1) = a_D m := by unfold a_D; rw [lo 1 (by omega)]
      refine Inv_gen inv F (fun k j w => cl k j (by unfold a_kp at w; omega)) (fun j h1 h2 => (e 150 j (by omega)).2) ⟨?_, ?_, ?_⟩ ⟨?_, ?_⟩ (Tp_0 tp F ((g0 5 1 (by omega)).1.trans t1) (fun j => cl 6 j (by omega)) t2 (fun j => cl 147 j (by omega))) ?_ (Lv_fr lv F (cl 0 12 (by omega)) (cl 143 33 (by omega))) (lr_fr lr F (fun j => cl 76 j (by omega)) (fun j => cl 154 j (by omega)))
      · rw [(g0 0 14 (by omega)).1, e14, d0]
      · rw [(e 0 17 (by omega)).2, (e 143 2 (by omega)).2]; exact i17
      · rw [(e 0 18 (by omega)).2, (e 143 3 (by omega)).2]; exact i18
      · rw [(g0 0 15 (by omega)).1, e15, d10]
      · rw [(g0 0 16 (by omega)).1, e16, d11]
      · refine ⟨_, nm, ok_lo ok lo, ⟨fun p hp => nb.1 p (by omega), fun d hd => nb.2 d (by omega)⟩, R_lo (R_fr R F (fun j hj => ?_)) lo, ⟨fun p hp => ?_, fun d hd => ?_⟩, M2, ⟨fun p hp => ?_, fun d hd => ?_⟩, Or.inr ⟨?_, ?_, s.2.2.1, s.2.2.2.1, ?_, ?_, by omega, y2, ?_, ?_⟩⟩
        · have h1 : (a_xr j).1 ≤ 14 := (by decide +kernel : ∀ i, i < 108 → (a_xr i).1 ≤ 14) j hj
          exact cl _ _ (by omega)
        · rw [(e 12 p (by omega)).2]; exact nx.1 p (by omega)
        · rw [(e 18 d (by omega)).2]; exact nx.2 d (by omega)
        · rw [(e 150 _ (by omega)).2]; exact nM.1 p (by omega)
        · rw [(e 150 _ (by omega)).2]; exact nM.2 d (by omega)
        · rw [(g0 25 8 (by omega)).1]; exact w8
        · unfold a_ymm; rw [if_pos rfl]
        · rw [(g0 25 6 (by omega)).1]; exact w6
        · rw [(g0 25 7 (by omega)).1]; exact w7
        · unfold a_ymm; rw [if_neg (by omega), if_pos rfl]
        · refine sg_eq (sg_mono sg (Nat.le_of_eq eP.symm) (Nat.le_of_eq eD.symm)) (fun c x hc _ hx => ?_) (fun x _ hx => ?_)
          · show S2.1 (10 + 16 + c) x = _
            rw [(g0 _ x (by omega)).1]
            exact W1 c x hc (by omega)
          · show a_ymm m s.2.2.2.1 s.2.1 (110 + x) = _
            unfold a_ymm
            rw [if_neg (by omega), if_neg (by omega), if_pos (by omega), show 110 + x - 110 = x by omega]
