/-! a city that is told has no years -/
theorem rpt_hi {s : aS} {R : List aK} {g : aS × List aK} (pi : a_PI s) (wf : a_wf R) (e : a_rpt s R = .inr g) : ∀ j, 108 ≤ j → g.1.1 j = s.1 j := by
  obtain ⟨ok, fr, nb, ht⟩ := pi
  have h8 := ok_P8 ok
  have h10 := ok_D10 ok
  intro j hj
  unfold a_rpt at e
  split at e
  · next k2 =>
    split at e
    · next w4 =>
      unfold a_rru at e
      split at e
      · cases e
      · obtain ⟨g1, e1, e2⟩ := bi_inr e
        cases e2
        exact a_set_ne (by omega)
    · split at e
      · unfold a_rpe at e
        split at e
        · cases e
        · next hP =>
          obtain ⟨g1, e1, e2⟩ := bi_inr e
          obtain ⟨g2, e3, e4⟩ := bi_inr e2
          obtain ⟨g3, e5, e6⟩ := bi_inr e4
          cases e6
          exact adp_ne (by omega) (by omega) (by omega)
      · split at e
        · unfold a_rde at e
          split at e
          · cases e
          · next hD =>
            obtain ⟨g1, e1, e2⟩ := bi_inr e
            obtain ⟨R2, e3, e4⟩ := bi_inr e2
            obtain ⟨o, e5, e6⟩ := bi_inr e4
            obtain ⟨f, e7, e8⟩ := bi_inr e6
            obtain ⟨d, e9, e0⟩ := bi_inr e8
            cases e0
            exact cm1_ne (by omega) (by omega) (by omega) (by omega)
        · cases e
  · cases e
theorem rcy_hi : ∀ k s R, a_PI s → a_wf R → ∀ g, a_rcy k s R = .inr g → ∀ j, 108 ≤ j → g.1 j = s.1 j
  | 0, s, R, pi, _, g, e, j, hj => by cases e; rfl
  | k + 1, s, R, pi, wf, g, e, j, hj => by
    have es : a_rcy (k + 1) s R = if (a_h0 R).1 = 0 then .inr s else a_bi (a_ps (a_rpt s R)) (fun g => a_rcy k g.1 g.2) := rfl
    rw [es] at e
    split at e
    · cases e; rfl
    · obtain ⟨g1, e1, e2⟩ := bi_inr e
      obtain ⟨p1, w1, -⟩ := ps_ok pi wf e1
      obtain ⟨g0, e3, e4⟩ := bi_inr e1
      obtain ⟨R2, e5, e6⟩ := bi_inr e4
      have eg : g1.1 = g0.1 := by cases e6; rfl
      rw [rcy_hi k g1.1 g1.2 p1 w1 g e2 j hj, eg]
      exact rpt_hi pi wf e3 j hj
