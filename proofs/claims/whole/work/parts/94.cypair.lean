/-! city keeps it -/
theorem in_no {L n : Nat} {x : Int32} (g : a_in 0 (nI L) x = false) (hn : n ≤ L) (hL : L ≤ 900) (e : x = nI n) : False := by
  have : a_in 0 (nI L) x = true := by rw [e]; exact decide_eq_true ⟨nI_le (a := 0) (by omega) (by omega), nI_le (by omega) (by omega)⟩
  rw [this] at g; cases g
theorem city_pair {S : vSt} {x : Int32} {Q : vSt → Prop} (inv : a_Inv S) (hQ : ∀ S2, a_Inv S2 → Q S2) : p_X10_city S x (fun r S1 => p_X11_city S1 x (fun r' S2 => (r = r' → Q S2) ∧ (¬ r = r' → False))) := by
  obtain ⟨⟨i14, i17, i18⟩, ⟨i15, i16⟩, -, tp, ci, -, lv, lr⟩ := id inv
  obtain ⟨L, by_, px1, pm1⟩ := id tp
  have hL := px1.1
  refine x_city (nm := fun _ => 0) px1 (fun g => ?_) (fun n hn e => ?_)
  · have pm2 : a_TpM (v_si S 0 14 5) L by_ := ⟨pm1.1, pm1.2.1, pm1.2.2⟩
    refine m_city (nm := fun _ => 0) pm2 (fun _ => ⟨fun _ => ?_, fun w => absurd rfl w⟩) (fun n hn e => (in_no g hn hL e).elim)
    rw [st_s]; exact hQ _ (Inv_st (Inv_1 inv))
  · cases q : a_rcy (a_toks by_ n).length (a_me, fun _ => 0, 0) (a_toks by_ n) with
    | inl er =>
      intro S1 f1 e14 e15 e16 t1
      have pm2 : a_TpM S1 L by_ := ⟨pm1.1, (f1 143 8 rfl).1.trans pm1.2.1, fun j hj => (f1 147 j rfl).1.trans (pm1.2.2 j hj)⟩
      refine m_city (nm := fun _ => 0) pm2 (fun w => (in_no w hn hL e).elim) (fun n' hn' e' => ?_)
      have en : n' = n := (nI_eq (by omega) (by omega)).mp (e'.symm.trans e)
      subst en
      rw [q]
      intro S2 f2 d0 d10 d11 t2
      refine ⟨fun _ => hQ S2 ?_, fun w => absurd rfl w⟩
      have F : a_fr (fun k j => a_cy k j || a_my k j) S S2 := fr_t (fr_w f1 (fun k j w => (Bool.or_eq_false_iff.mp w).1)) (fr_w f2 (fun k j w => (Bool.or_eq_false_iff.mp w).2))
      have cl : ∀ k j, ¬ ((k = 5 ∧ 1 ≤ j ∧ j ≤ 12) ∨ (32 ≤ k ∧ k ≤ 53) ∨ (55 ≤ k ∧ k ≤ 57) ∨ (7 ≤ k ∧ k ≤ 9) ∨ (k = 0 ∧ 14 ≤ j ∧ j ≤ 16) ∨ (k = 143 ∧ (j ≤ 1 ∨ (8 ≤ j ∧ j ≤ 19) ∨ j = 24)) ∨ (k = 148 ∧ 1520 ≤ j) ∨ (k = 150 ∧ 72 ≤ j)) → (a_cy k j || a_my k j) = false := fun k j w => Bool.or_eq_false_iff.mpr ⟨decide_eq_false (by omega), decide_eq_false (by omega)⟩
      have c0 : ∀ k j, k < 143 → a_my k j = false := fun k j hk => decide_eq_false (by omega)
      have g0 := fun k j hk => f2 k j (c0 k j hk)
      have e := fun k j w => F k j (cl k j w)
      refine Inv_gen inv F (fun k j w => cl k j (by unfold a_kp at w; omega)) (fun j h1 h2 => (e 150 j (by omega)).2) ⟨?_, ?_, ?_⟩ ⟨?_, ?_⟩ (Tp_0 tp F ((g0 5 1 (by omega)).1.trans t1) (fun j => cl 6 j (by omega)) t2 (fun j => cl 147 j (by omega))) ?_ (Lv_fr lv F (cl 0 12 (by omega)) (cl 143 33 (by omega))) (lr_fr lr F (fun j => cl 76 j (by omega)) (fun j => cl 154 j (by omega)))
      · rw [(g0 0 14 (by omega)).1, e14, d0]
      · rw [(e 0 17 (by omega)).2, (e 143 2 (by omega)).2]; exact i17
      · rw [(e 0 18 (by omega)).2, (e 143 3 (by omega)).2]; exact i18
      · rw [(g0 0 15 (by omega)).1, e15, d10]
      · rw [(g0 0 16 (by omega)).1, e16, d11]
      · exact City_fr ci F (by omega) (fun k j h1 h2 => cl k j (by omega)) (fun j h1 h2 => cl 10 j (by omega)) (fun j h1 h2 => cl 148 j (by omega)) (fun j h1 h2 => cl 150 j (by omega))
    | inr s =>
      have wf := toks_wf (by_ := by_) (show n ≤ 900 by omega)
      have pis := rcy_ok _ _ _ (me_PI (fun _ => 0)) wf s q
      have his := rcy_hi _ _ _ (me_PI (fun _ => 0)) wf s q
      have h8 := ok_P8 pis.1
      have h10 := ok_D10 pis.1
      intro S1 f1 R1 nx1 y1 e14 e15 e16 t1
      have pm2 : a_TpM S1 L by_ := ⟨pm1.1, (f1 143 8 rfl).1.trans pm1.2.1, fun j hj => (f1 147 j rfl).1.trans (pm1.2.2 j hj)⟩
      refine m_city (nm := fun _ => 0) pm2 (fun w => (in_no w hn hL e).elim) (fun n' hn' e' => ?_)
      have en : n' = n := (nI_eq (by omega) (by omega)).mp (e'.symm.trans e)
      subst en
      rw [q]
      intro S2 f2 M2 nM2 d0 d10 d11 t2
      refine ⟨fun _ => hQ S2 ?_, fun w => absurd rfl w⟩
      have F : a_fr (fun k j => a_cyc k j || a_myc k j) S S2 := fr_t (fr_w f1 (fun k j w => (Bool.or_eq_false_iff.mp w).1)) (fr_w f2 (fun k j w => (Bool.or_eq_false_iff.mp w).2))
      have cl : ∀ k j, ¬ ((k = 5 ∧ 1 ≤ j ∧ j ≤ 12) ∨ (32 ≤ k ∧ k ≤ 53) ∨ (55 ≤ k ∧ k ≤ 57) ∨ (7 ≤ k ∧ k ≤ 9) ∨ (k = 0 ∧ 14 ≤ j ∧ j ≤ 16) ∨ (10 ≤ k ∧ k ≤ 30) ∨ (k = 143 ∧ (j ≤ 1 ∨ (8 ≤ j ∧ j ≤ 19) ∨ j = 24)) ∨ (k = 148 ∧ 1520 ≤ j) ∨ (k = 150 ∧ 72 ≤ j) ∨ (k = 148 ∧ j < 380) ∨ (k = 150 ∧ j < 18)) → (a_cyc k j || a_myc k j) = false := fun k j w => Bool.or_eq_false_iff.mpr ⟨Bool.or_eq_false_iff.mpr ⟨decide_eq_false (by omega), decide_eq_false (by omega)⟩, Bool.or_eq_false_iff.mpr ⟨decide_eq_false (by omega), decide_eq_false (by omega)⟩⟩
      have c0 : ∀ k j, k < 143 → a_myc k j = false := fun k j hk => Bool.or_eq_false_iff.mpr ⟨decide_eq_false (by omega), decide_eq_false (by omega)⟩
      have g0 := fun k j hk => f2 k j (c0 k j hk)
      have e := fun k j w => F k j (cl k j w)
      refine Inv_gen inv F (fun k j w => cl k j (by unfold a_kp at w; omega)) (fun j h1 h2 => (e 150 j (by omega)).2) ⟨?_, ?_, ?_⟩ ⟨?_, ?_⟩ (Tp_0 tp F ((g0 5 1 (by omega)).1.trans t1) (fun j => cl 6 j (by omega)) t2 (fun j => cl 147 j (by omega))) ?_ (Lv_fr lv F (cl 0 12 (by omega)) (cl 143 33 (by omega))) (lr_fr lr F (fun j => cl 76 j (by omega)) (fun j => cl 154 j (by omega)))
      · rw [(g0 0 14 (by omega)).1, e14, d0]
      · rw [(e 0 17 (by omega)).2, (e 143 2 (by omega)).2]; exact i17
      · rw [(e 0 18 (by omega)).2, (e 143 3 (by omega)).2]; exact i18
      · rw [(g0 0 15 (by omega)).1, e15, d10]
      · rw [(g0 0 16 (by omega)).1, e16, d11]
      · refine ⟨s.1, s.2.1, pis.1, pis.2.2.1, R_fr R1 f2 (fun j hj => ?_), ⟨fun p hp => ?_, fun d hd => ?_⟩, M2, nM2, Or.inl ⟨?_, ?_⟩⟩
        · have h1 : (a_xr j).1 ≤ 14 := (by decide +kernel : ∀ i, i < 108 → (a_xr i).1 ≤ 14) j hj
          exact c0 _ _ (by omega)
        · rw [(g0 12 p (by omega)).2]; exact nx1.1 p hp
        · rw [(g0 18 d (by omega)).2]; exact nx1.2 d hd
        · rw [(g0 25 8 (by omega)).1]; exact y1.2.2
        · rw [his 108 (by omega)]; rfl
