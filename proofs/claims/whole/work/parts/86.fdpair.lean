/-! feed -/
theorem feed_pair {S : vSt} {a b c d e : Int32} {Q : vSt → Prop} (inv : a_Inv S) (hQ : ∀ S2, a_Inv S2 → Q S2) : p_X10_feed S a b c d e (fun r S1 => p_X11_feed S1 a b c d e (fun r' S2 => (r = r' → Q S2) ∧ (¬ r = r' → False))) := by
  obtain ⟨st, fl, tr, ⟨L, by_, px1, pm1⟩, ci, ⟨k, hk3, k13, k23, mk⟩, lv, lr⟩ := id inv
  refine x_feed px1 (fun hn => ?_) (fun hL S1 f1 t1 => ?_)
  · refine m_feed pm1 (fun _ => ⟨fun _ => hQ _ ?_, fun w => absurd rfl w⟩) (fun w => absurd w hn)
    exact Inv_fr (c := fun k j => decide (k = 143 ∧ j = 1)) inv (fr_i fr_r rfl) (fun k j w => decide_eq_false (by omega))
  · have pm2 : a_TpM S1 L by_ := ⟨pm1.1, (f1 143 8 rfl).1.trans pm1.2.1, fun j hj => (f1 147 j rfl).1.trans (pm1.2.2 j hj)⟩
    refine m_feed pm2 (fun w => absurd hL w) (fun _ S2 f2 t2 => ⟨fun _ => hQ _ ?_, fun w => absurd rfl w⟩)
    have F : a_fr (fun k j => a_fdx k j || a_fdm k j) S S2 := fr_t (fr_w f1 (fun k j w => (Bool.or_eq_false_iff.mp w).1)) (fr_w f2 (fun k j w => (Bool.or_eq_false_iff.mp w).2))
    have cl : ∀ k j, ¬ ((k = 5 ∧ j = 1) ∨ k = 6 ∨ (k = 143 ∧ (j = 1 ∨ j = 8)) ∨ k = 147) → (a_fdx k j || a_fdm k j) = false := fun k j w => Bool.or_eq_false_iff.mpr ⟨decide_eq_false (by omega), decide_eq_false (by omega)⟩
    have g := fun k j w => F k j (cl k j w)
    obtain ⟨i14, i17, i18⟩ := st
    obtain ⟨T, tok, tx, tm⟩ := tr
    refine ⟨⟨?_, ?_, ?_⟩, ⟨?_, ?_⟩, ⟨T, tok, ⟨fun t ht => ?_, fun q hq => ?_⟩, ⟨fun t ht => ?_, fun q hq => ?_⟩⟩, ⟨L + 20, _, ⟨t1.1, ?_, fun j hj => ?_⟩, t2⟩, ?_, ⟨k, hk3, ?_, ?_, fun j hj => ?_⟩, ?_, fun i hi => ?_⟩
    · rw [(g 0 14 (by omega)).1, (g 143 0 (by omega)).1]; exact i14
    · rw [(g 0 17 (by omega)).2, (g 143 2 (by omega)).2]; exact i17
    · rw [(g 0 18 (by omega)).2, (g 143 3 (by omega)).2]; exact i18
    · rw [(g 0 15 (by omega)).1, (g 143 10 (by omega)).1]; exact fl.1
    · rw [(g 0 16 (by omega)).1, (g 143 11 (by omega)).1]; exact fl.2
    · rw [(g 3 t (by omega)).1, (g 4 t (by omega)).1]; exact tx.1 t ht
    · rw [(g 2 q (by omega)).2]; exact tx.2 q hq
    · rw [(g 144 t (by omega)).1, (g 145 t (by omega)).1]; exact tm.1 t ht
    · rw [(g 146 q (by omega)).2]; exact tm.2 q hq
    · exact (f2 5 1 rfl).1.trans t1.2.1
    · exact (f2 6 j rfl).1.trans (t1.2.2 j hj)
    · exact City_fr ci F (by omega) (fun k j h1 h2 => cl k j (by omega)) (fun j h1 h2 => cl 10 j (by omega)) (fun j h1 h2 => cl 148 j (by omega)) (fun j h1 h2 => cl 150 j (by omega))
    · rw [(g 0 13 (by omega)).1]; exact k13
    · rw [(g 143 23 (by omega)).1]; exact k23
    · exact City_fr (mk j hj) F (by omega) (fun k q h1 h2 => cl k q (by omega)) (fun q h1 h2 => cl _ q (by omega)) (fun q h1 h2 => cl 148 q (by omega)) (fun q h1 h2 => cl 150 q (by omega))
    · rw [(g 0 12 (by omega)).1, (g 143 33 (by omega)).1]; exact lv
    · rw [(g 76 i (by omega)).1, (g 154 i (by omega)).1]; exact lr i hi
