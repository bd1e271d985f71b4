/-! back -/
theorem back_pair {S : vSt} {Q : vSt → Prop} (inv : a_Inv S) (hQ : ∀ S2, a_Inv S2 → Q S2) : p_X10_back S (fun r S1 => p_X11_back S1 (fun r' S2 => (r = r' → Q S2) ∧ (¬ r = r' → False))) := by
  obtain ⟨⟨i14, i17, i18⟩, ⟨i15, i16⟩, ⟨T, tok, tx, tm⟩, ⟨L, by_, px1, pm1⟩, ci, ⟨k, hk3, k13, k23, mk⟩, lv, lr⟩ := id inv
  refine x_back hk3 k13 (fun q hq => ?_) (fun c => ?_) (fun q c S1 f1 t1 e13 e14 => ?_)
  · obtain ⟨m, nm, ok, nb, R, nx, M, nM, yc⟩ := mk q hq
    exact Yc_b yc
  · refine m_back (k := k) hk3 k23 (fun _ => ⟨fun _ => ?_, fun w => absurd rfl w⟩) (fun q w => absurd c (by omega))
    rw [st_s]; exact hQ _ (Inv_st (Inv_1 inv))
  · obtain ⟨m, nm, ok, nb, R, nx, M, nM, yc⟩ := mk q (by omega)
    have h8 := ok_P8 ok
    have h10 := ok_D10 ok
    obtain ⟨R1, nx1, yc1⟩ := t1 m nm ok R nx yc
    have g1 : ∀ a j, ¬ ((10 ≤ a ∧ a ≤ 30) ∨ (a = 0 ∧ (j = 13 ∨ j = 14))) → a_mkx 10 a j = false := fun a j w => Bool.or_eq_false_iff.mpr ⟨decide_eq_false (by omega), decide_eq_false (by omega)⟩
    have e1 := fun a j w => f1 a j (g1 a j w)
    refine m_back (k := k) hk3 ((e1 143 23 (by omega)).1.trans k23) (fun w => absurd w (by omega)) (fun q' c' S2 f2 c2 n2 e23 e0 => ?_)
    have eq : q' = q := by omega
    subst eq
    refine ⟨fun _ => hQ S2 ?_, fun w => absurd rfl w⟩
    have g2 : ∀ a j, ¬ ((a = 148 ∧ j < 380) ∨ (a = 150 ∧ j < 18) ∨ (a = 143 ∧ (j = 0 ∨ j = 1 ∨ j = 23))) → a_mkm 0 a j = false := fun a j w => Bool.or_eq_false_iff.mpr ⟨decide_eq_false (by omega), decide_eq_false (by omega)⟩
    have e2 := fun a j w => f2 a j (g2 a j w)
    have F : a_fr (fun a j => a_mkx 10 a j || a_mkm 0 a j) S S2 := fr_t (fr_w f1 (fun k j w => (Bool.or_eq_false_iff.mp w).1)) (fr_w f2 (fun k j w => (Bool.or_eq_false_iff.mp w).2))
    have cl : ∀ a j, ¬ ((10 ≤ a ∧ a ≤ 30) ∨ (a = 0 ∧ (j = 13 ∨ j = 14)) ∨ (a = 148 ∧ j < 380) ∨ (a = 150 ∧ j < 18) ∨ (a = 143 ∧ (j = 0 ∨ j = 1 ∨ j = 23))) → (a_mkx 10 a j || a_mkm 0 a j) = false := fun a j w => Bool.or_eq_false_iff.mpr ⟨g1 a j (by omega), g2 a j (by omega)⟩
    have g := fun a j w => F a j (cl a j w)
    refine ⟨⟨?_, ?_, ?_⟩, ⟨?_, ?_⟩, ⟨T, tok, ⟨fun t ht => ?_, fun q hq => ?_⟩, ⟨fun t ht => ?_, fun q hq => ?_⟩⟩, ⟨L, by_, ⟨px1.1, ?_, fun j hj => ?_⟩, ⟨pm1.1, ?_, fun j hj => ?_⟩⟩, ?_, ⟨q', by omega, ?_, e23, fun j hj => ?_⟩, ?_, fun i hi => ?_⟩
    · rw [(e2 0 14 (by omega)).1, e14, e0]
    · rw [(g 0 17 (by omega)).2, (g 143 2 (by omega)).2]; exact i17
    · rw [(g 0 18 (by omega)).2, (g 143 3 (by omega)).2]; exact i18
    · rw [(g 0 15 (by omega)).1, (g 143 10 (by omega)).1]; exact i15
    · rw [(g 0 16 (by omega)).1, (g 143 11 (by omega)).1]; exact i16
    · rw [(g 3 t (by omega)).1, (g 4 t (by omega)).1]; exact tx.1 t ht
    · rw [(g 2 q (by omega)).2]; exact tx.2 q hq
    · rw [(g 144 t (by omega)).1, (g 145 t (by omega)).1]; exact tm.1 t ht
    · rw [(g 146 q (by omega)).2]; exact tm.2 q hq
    · rw [(g 5 1 (by omega)).1]; exact px1.2.1
    · rw [(g 6 j (by omega)).1]; exact px1.2.2 j hj
    · rw [(g 143 8 (by omega)).1]; exact pm1.2.1
    · rw [(g 147 j (by omega)).1]; exact pm1.2.2 j hj
    · have f12 : ∀ a q, a ≤ 142 → a_mkm 0 a q = false := fun a q h2 => g2 a q (by omega)
      refine ⟨m, nm, ok, nb, R_fr R1 f2 (fun q hq => ?_), ⟨fun p hp => ?_, fun d hd => ?_⟩, fun q hq => ?_, ⟨fun p hp => ?_, fun d hd => ?_⟩, Yc_fr yc1 f2 (fun a q h1 h2 => f12 a q (by omega))⟩
      · have h1 : (a_xr q).1 ≤ 14 := (by decide +kernel : ∀ i, i < 108 → (a_xr i).1 ≤ 14) q hq
        exact f12 _ _ (by omega)
      · rw [(f2 _ _ (f12 _ _ (by omega))).2]; exact nx1.1 p hp
      · rw [(f2 _ _ (f12 _ _ (by omega))).2]; exact nx1.2 d hd
      · rw [show 380 * 0 + q = q by omega, c2 q hq, (e1 148 _ (by omega)).1]; exact M q hq
      · rw [show 18 * 0 + p = p by omega, n2 p (by omega), (e1 150 _ (by omega)).2]
        exact nM.1 p hp
      · rw [show 18 * 0 + 8 + d = 8 + d by omega, n2 (8 + d) (by omega), (e1 150 _ (by omega)).2]
        have := nM.2 d hd
        rwa [show 18 * (q' + 1) + 8 + d = 18 * (q' + 1) + (8 + d) by omega] at this
    · rw [(e2 0 13 (by omega)).1]; exact e13
    · exact City_fr (mk j (by omega)) F (by omega) (fun a q h1 h2 => cl a q (by omega)) (fun q h1 h2 => cl _ q (by omega)) (fun q h1 h2 => cl 148 q (by omega)) (fun q h1 h2 => cl 150 q (by omega))
    · rw [(g 0 12 (by omega)).1, (g 143 33 (by omega)).1]; exact lv
    · rw [(g 76 i (by omega)).1, (g 154 i (by omega)).1]; exact lr i hi
