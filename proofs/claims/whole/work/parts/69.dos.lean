def o_ms (ρ : aU) : aU := (ρ.1, ρ.2.1, ρ.2.2.1, a_inc ρ.2.2.2.1 0, ρ.2.2.2.2)
def o_do (ρ : aU) (w : Nat) (g : aL) : aU :=
  if w = 11 then o_acc ρ (a_n g.1) (a_n g.2.1)
  else if w = 12 then (if a_mdr ρ.1 (a_n g.1) (a_n g.2.1) g.2.2 = true then (a_drp ρ.1 (a_n g.1) (a_n g.2.1) g.2.2, ρ.2) else o_ms ρ)
  else if w = 14 then (a_pays ρ.1 (8 + a_n g.1) g.2.2, ρ.2)
  else if a_P ρ.1 = 0 ∨ a_D ρ.1 = 0 then o_ms ρ else o_acc (ρ.1, a_nx (a_nx ρ.2.1), ρ.2.2) (a_dw ρ.2.1 (a_P ρ.1)) (a_dw (a_nx ρ.2.1) (a_D ρ.1))
theorem ok_acc {m0 : Nat → Int32} {ρ : aU} {p d : Nat} (ok : a_oku m0 ρ) (hp : p < a_P ρ.1) (hd : d < a_D ρ.1) : a_oku m0 (o_acc ρ p d) ∧ (o_acc ρ p d).2.2.1 = ρ.2.2.1 ∧ (o_acc ρ p d).2.2.2.2 = ρ.2.2.2.2 := by
  obtain ⟨okm, hs, hn, eP, eD, hj⟩ := ok
  have h8 := ok_P8 okm
  have h10 := ok_D10 okm
  have ho := (ok_o okm hd).2
  unfold o_acc
  split
  · have v9 := jr_lt (c := a_c ρ.1 p d) hs (a_J ρ.1)
    have J9 := (ok_J1 okm).2.2
    obtain ⟨q1, q2⟩ := hear_PD (m := ρ.1) (p := p) (d := d) (v := (a_jr ρ.2.1 (a_c ρ.1 p d) (a_J ρ.1)).2)
    refine ⟨⟨ok_hear okm hp hd (by omega), v9.1, hn, q1.trans eP, q2.trans eD, fun j h => ?_⟩, rfl, rfl⟩
    show a_hear _ _ _ _ j = _
    rw [hear_ne (by omega) (by omega) (by omega) (by omega) (by omega) (by omega) (by omega) (by omega) (by omega)]
    exact hj j h
  · exact ⟨⟨okm, hs, hn, eP, eD, hj⟩, rfl, rfl⟩
theorem ok_do {m0 : Nat → Int32} {ρ : aU} {w : Nat} {g : aL} (ok : a_oku m0 ρ) (hb : a_bgs w = true) (ho : a_ope w = false) (h21 : w ≠ 21) (lo : a_lok m0 w g) : a_oku m0 (o_do ρ w g) ∧ (o_do ρ w g).2.2.1 = ρ.2.2.1 ∧ (o_do ρ w g).2.2.2.2 = ρ.2.2.2.2 := by
  obtain ⟨okm, hs, hn, eP, eD, hj⟩ := id ok
  have h8 := ok_P8 okm
  have h10 := ok_D10 okm
  unfold a_lok at lo
  unfold o_do
  split
  · next c =>
    rw [if_pos c] at lo
    obtain ⟨p, d, hp, hd, rfl⟩ := lo
    have e1 : a_n (nI p) = p := a_n_nI (by omega)
    have e2 : a_n (nI d) = d := a_n_nI (by omega)
    simp only [e1, e2]
    exact ok_acc ok (by omega) (by omega)
  · next c =>
    rw [if_neg c] at lo
    split
    · next c =>
      rw [if_pos c] at lo
      obtain ⟨p, d, z, hp, hd, hz, rfl⟩ := lo
      have e1 : a_n (nI p) = p := a_n_nI (by omega)
      have e2 : a_n (nI d) = d := a_n_nI (by omega)
      simp only [e1, e2]
      have hp' : p < a_P ρ.1 := by omega
      have hd' : d < a_D ρ.1 := by omega
      have hoo := (ok_o okm hd').2
      split
      · obtain ⟨q1, q2⟩ := drp_PD (m := ρ.1) (p := p) (d := d) (z := nI z)
        refine ⟨⟨ok_drp okm hp' hd', hs, hn, q1.trans eP, q2.trans eD, fun j h => ?_⟩, rfl, rfl⟩
        show a_drp _ _ _ _ j = _
        rw [drp_ne (by omega) (by omega) (by omega)]
        exact hj j h
      · exact ⟨ok, rfl, rfl⟩
    · next c =>
      rw [if_neg c] at lo
      split
      · next c =>
        rw [if_pos c] at lo
        obtain ⟨p, z, hp, hz1, hz2, rfl⟩ := lo
        have e1 : a_n (nI p) = p := a_n_nI (by omega)
        simp only [e1]
        refine ⟨⟨ok_coin okm (by omega) _, hs, hn, (pays_P (by omega)).trans eP, (pays_D (by omega)).trans eD, fun j h => ?_⟩, by first | exact ⟨rfl, rfl⟩ | exact ⟨trivial, trivial⟩⟩
        show a_pays _ _ _ j = _
        rw [pays_ne (by omega)]
        exact hj j h
      · split
        · exact ⟨ok, rfl, rfl⟩
        · next z =>
          have hP : 0 < a_P ρ.1 := by omega
          have hD : 0 < a_D ρ.1 := by omega
          have q := ok_acc (ρ := (ρ.1, a_nx (a_nx ρ.2.1), ρ.2.2)) (p := a_dw ρ.2.1 (a_P ρ.1)) (d := a_dw (a_nx ρ.2.1) (a_D ρ.1)) ⟨okm, nx_lt _, hn, eP, eD, hj⟩ (Nat.mod_lt _ hP) (Nat.mod_lt _ hD)
          exact q
/-! the class does it -/
theorem x_do {b N i w : Nat} {W : aW} {S : vSt} {m0 : Nat → Int32} {ρ : aU} {g : aL} {K : Int32 → vSt → Prop} (hb : b + 21 < 74) (hi : i < 60) (ok : a_oku m0 ρ) (hw : a_bgs w = true) (ho : a_ope w = false) (h21 : w ≠ 21) (lo : a_lok m0 w g) (w1 : W 1 i = g.1) (w2 : W 2 i = g.2.1) (w3 : W 3 i = g.2.2) (u : a_UX b N W S ρ) (h : ∀ S', a_fr (a_uf b) S S' → S'.1 (b + 21) = S.1 (b + 21) → a_UX b N W S' (o_do ρ w g) → K (nI (i + 1)) S') : p_X4_doStep b S (nI w) (nI i) K := by
  obtain ⟨okm, hs, hn, eP, eD, hj⟩ := id ok
  have h8 := ok_P8 okm
  have h10 := ok_D10 okm
  have e17 : S.1 (b + 17) i = g.1 := (u.2.2.2.2.2 1 i (by omega) hi).trans w1
  have e18 : S.1 (b + 18) i = g.2.1 := (u.2.2.2.2.2 2 i (by omega) hi).trans w2
  have e19 : S.1 (b + 19) i = g.2.2 := (u.2.2.2.2.2 3 i (by omega) hi).trans w3
  unfold p_X4_doStep
  rw [e_at hi (by omega), e_at hi (by omega), e_at hi (by omega), e17, e18, e19, nIs]
  have hw := of_decide_eq_true hw
  have ho := of_decide_eq_false ho
  unfold a_lok at lo
  have cs : w = 11 ∨ w = 12 ∨ w = 14 ∨ w = 15 := by omega
  rcases cs with rfl | rfl | rfl | rfl
  · refine ⟨?_, ?_, ?_, ?_, ?_, ?_, ?_⟩ <;> intro q <;> first | exact absurd q (by decide) | skip
    obtain ⟨p, d, hp, hd, rfl⟩ := lo
    have e1 : a_n (nI p) = p := a_n_nI (by omega)
    have e2 : a_n (nI d) = d := a_n_nI (by omega)
    have eo : o_do ρ 11 (nI p, nI d, 0) = o_acc ρ p d := by
      show o_acc ρ (a_n (nI p)) (a_n (nI d)) = _
      rw [e1, e2]
    rw [eo] at h
    exact x_acc hb ok (by omega) (by omega) u h
  · refine ⟨?_, ?_, ?_, ?_, ?_, ?_, ?_⟩ <;> intro q <;> first | exact absurd q (by decide) | skip
    obtain ⟨p, d, z, hp, hd, hz, rfl⟩ := lo
    have e1 : a_n (nI p) = p := a_n_nI (by omega)
    have e2 : a_n (nI d) = d := a_n_nI (by omega)
    have eo : o_do ρ 12 (nI p, nI d, nI z) = if a_mdr ρ.1 p d (nI z) = true then (a_drp ρ.1 p d (nI z), ρ.2) else o_ms ρ := by
      show (if a_mdr ρ.1 (a_n (nI p)) (a_n (nI d)) (nI z) = true then (a_drp ρ.1 (a_n (nI p)) (a_n (nI d)) (nI z), ρ.2) else o_ms ρ) = _
      rw [e1, e2]
    rw [eo] at h
    show p_X0_mayDrop b S (nI p) (nI d) (nI z) _
    rw [x_mayDrop okm u.1 (by omega) (by omega)]
    cases c : a_mdr ρ.1 p d (nI z)
    · rw [c, if_neg (by decide)] at h
      simp only [eq_self, reduceCtorEq, true_implies, false_implies, and_true, true_and, not_true_eq_false, not_false_eq_true]
      exact x_cnt (i := 0) hb (by omega) u h
    · rw [c, if_pos rfl] at h
      simp only [eq_self, reduceCtorEq, true_implies, false_implies, and_true, true_and, not_true_eq_false, not_false_eq_true]
      refine x_settle okm u.1 (by omega) (by omega) (fun S2 f2 R2 => h S2 (fr_w f2 sc_uf) ?_ (UX_sc hb u f2 R2))
      funext j
      exact (f2 _ _ (decide_eq_false (by omega))).1
  · refine ⟨?_, ?_, ?_, ?_, ?_, ?_, ?_⟩ <;> intro q <;> first | exact absurd q (by decide) | skip
    obtain ⟨p, z, hp, hz1, hz2, rfl⟩ := lo
    have e1 : a_n (nI p) = p := a_n_nI (by omega)
    have eo : o_do ρ 14 (nI p, -1, nI z) = (a_pays ρ.1 (8 + p) (nI z), ρ.2) := by
      show (a_pays ρ.1 (8 + a_n (nI p)) (nI z), ρ.2) = _
      rw [e1]
    rw [eo] at h
    refine x_give okm u.1 (by omega) (fun S2 f2 R2 => h S2 (fr_w f2 sc_uf) ?_ (UX_sc hb u f2 R2))
    funext j
    exact (f2 _ _ (decide_eq_false (by omega))).1
  · refine ⟨?_, ?_, ?_, ?_, ?_, ?_, ?_⟩ <;> intro q <;> first | exact absurd q (by decide) | skip
    have eo : o_do ρ 15 g = if a_P ρ.1 = 0 ∨ a_D ρ.1 = 0 then o_ms ρ else o_acc (ρ.1, a_nx (a_nx ρ.2.1), ρ.2.2) (a_dw ρ.2.1 (a_P ρ.1)) (a_dw (a_nx ρ.2.1) (a_D ρ.1)) := rfl
    rw [eo] at h
    have eP0 : nI (a_P ρ.1) ≤ 0 ↔ a_P ρ.1 = 0 := (nI_leI (b := 0) (by omega) (by omega)).trans (by omega)
    have eD0 : nI (a_D ρ.1) ≤ 0 ↔ a_D ρ.1 = 0 := (nI_leI (b := 0) (by omega) (by omega)).trans (by omega)
    unfold p_X4_doStep_183
    rw [R_0 u.1, ok_m0 okm, R_1 u.1, ok_m1 okm, eP0, eD0, nIs]
    have ms : o_ms ρ = o_do ρ 15 g → p_X4_count S 0 (fun S38 => K (nI (i + 1)) S38) := by
      intro e
      refine x_cnt (i := 0) hb (by omega) u (fun S' f b1 u' => h S' f b1 ?_)
      rw [← eo, ← e]
      exact u'
    by_cases cP : a_P ρ.1 = 0
    · simp only [cP, eq_self, reduceCtorEq, true_implies, false_implies, and_true, true_and, not_true_eq_false, not_false_eq_true]
      exact ms (by rw [eo, if_pos (Or.inl cP)])
    · simp only [cP, eq_self, reduceCtorEq, true_implies, false_implies, and_true, true_and, not_true_eq_false, not_false_eq_true]
      by_cases cD : a_D ρ.1 = 0
      · simp only [cD, eq_self, reduceCtorEq, true_implies, false_implies, and_true, true_and, not_true_eq_false, not_false_eq_true]
        exact ms (by rw [eo, if_pos (Or.inr cD)])
      · simp only [cD, eq_self, reduceCtorEq, true_implies, false_implies, and_true, true_and, not_true_eq_false, not_false_eq_true]
        rw [if_neg (by omega)] at h
        refine Eq.mpr (x_draw (n := a_P ρ.1) hs u.2.1 (by omega) (by omega)) ?_
        have f1 : a_fr a_fx S (v_si S 74 2 (nI (a_nx ρ.2.1))) := fr_i fr_r rfl
        have u1 := UX_fx hb u f1 si_at
        generalize hS1 : (v_si S 74 2 (nI (a_nx ρ.2.1))) = S1 at f1 u1
        rw [R_1 u1.1, ok_m1 okm]
        refine Eq.mpr (x_draw (n := a_D ρ.1) (nx_lt _) u1.2.1 (by omega) (by omega)) ?_
        have f2 : a_fr a_fx S1 (v_si S1 74 2 (nI (a_nx (a_nx ρ.2.1)))) := fr_i fr_r rfl
        have u2 := UX_fx hb u1 f2 si_at
        have b2 : (v_si S1 74 2 (nI (a_nx (a_nx ρ.2.1)))).1 (b + 21) = S.1 (b + 21) := by
          funext j
          rw [(f2 _ _ (decide_eq_false (by omega))).1]
          exact (f1 _ _ (decide_eq_false (by omega))).1
        exact x_acc hb (m0 := m0) (ρ := (ρ.1, a_nx (a_nx ρ.2.1), ρ.2.2)) ⟨okm, nx_lt _, hn, eP, eD, hj⟩ (Nat.mod_lt _ (by show 0 < a_P ρ.1; omega)) (Nat.mod_lt _ (by show 0 < a_D ρ.1; omega)) u2 (fun S' f' b' u' => h S' (fr_t (fr_w (fr_t f1 f2) fx_uf) f') (b'.trans b2) u')
/-! the model does it -/
theorem UM_sto {S : vSt} {ρ : aU} (u : a_UM S ρ) : S.1 143 36 = ρ.2.2.2.1 0 := u.2.2.2.1 0 (by omega)
theorem m_do {k w : Nat} {S : vSt} {m0 : Nat → Int32} {ρ : aU} {g : aL} {y0 : Nat → Int32} {K : Bool → vSt → Prop} (hk : k < 30) (ok : a_oku m0 ρ) (hw : a_bgs w = true) (ho : a_ope w = false) (h21 : w ≠ 21) (lo : a_lok m0 w g) (hy : ∀ f, f < 8 → m0 (110 + (9 * k + f)) = a_yr y0 k w g (9 * k + f)) (u : a_UM S ρ) (h0 : ∀ S' ρ', a_fr a_um S S' → a_UM S' ρ' → S'.1 143 36 = S.1 143 36 → o_do ρ w g = o_ms ρ' → K false S') (h1 : ∀ S', a_fr a_um S S' → a_UM S' (o_do ρ w g) → S'.1 143 36 = S.1 143 36 → K true S') : p_X11_does S (nI (110 + 9 * k)) K := by
  obtain ⟨okm, hs, hn, eP, eD, hj⟩ := id ok
  have h8 := ok_P8 okm
  have h10 := ok_D10 okm
  have cell : ∀ f, f < 8 → S.1 148 (110 + 9 * k + f) = a_yr y0 k w g (9 * k + f) := by
    intro f hf
    rw [M_0 u.1 (show 110 + 9 * k + f < 380 by omega), hj _ (by omega), show 110 + 9 * k + f = 110 + (9 * k + f) by omega]
    exact hy f hf
  have c0 := cell 0 (by omega)
  have c1 := cell 1 (by omega)
  have c2 := cell 2 (by omega)
  have c3 := cell 3 (by omega)
  rw [Nat.add_zero, Nat.add_zero] at c0
  have ea : ∀ f, nI (110 + 9 * k) + nI f = nI (110 + 9 * k + f) := fun f => nI_add _ _
  unfold p_X11_does
  rw [show (1 : Int32) = nI 1 from rfl, show (2 : Int32) = nI 2 from rfl, show (3 : Int32) = nI 3 from rfl]
  simp only [ea, ncl (show 110 + 9 * k < 2 ^ 31 by omega), ncl (show 110 + 9 * k + 1 < 2 ^ 31 by omega), ncl (show 110 + 9 * k + 2 < 2 ^ 31 by omega), ncl (show 110 + 9 * k + 3 < 2 ^ 31 by omega)]
  refine ⟨vpin ⟨by omega, by omega⟩, ?_⟩
  rintro _ rfl
  refine ⟨vpin ⟨by omega, by omega⟩, ?_⟩
  rintro _ rfl
  rw [c0, c1, c2, c3]
  have hw := of_decide_eq_true hw
  have ho := of_decide_eq_false ho
  unfold a_lok at lo
  have cs : w = 11 ∨ w = 12 ∨ w = 14 ∨ w = 15 := by omega
  have i1 : nI 1 = (1 : Int32) := rfl
  have i3 : nI 3 = (3 : Int32) := rfl
  rcases cs with rfl | rfl | rfl | rfl
  · obtain ⟨p, d, hp, hd, rfl⟩ := lo
    have y0' : a_yr y0 k 11 (nI p, nI d, 0) (9 * k) = 0 := by simp [a_yr, a_set]
    have y1' : a_yr y0 k 11 (nI p, nI d, 0) (9 * k + 1) = nI p := by simp [a_yr, a_set]
    have y2' : a_yr y0 k 11 (nI p, nI d, 0) (9 * k + 2) = nI d := by simp [a_yr, a_set]
    rw [y0', y1', y2']
    simp only [eq_self, reduceCtorEq, true_implies, false_implies, and_true, true_and, not_true_eq_false, not_false_eq_true]
    refine ⟨vpin ⟨by omega, by omega⟩, ?_⟩
    have e1 : a_n (nI p) = p := a_n_nI (by omega)
    have e2 : a_n (nI d) = d := a_n_nI (by omega)
    have eo : o_do ρ 11 (nI p, nI d, 0) = o_acc ρ p d := by
      show o_acc ρ (a_n (nI p)) (a_n (nI d)) = _
      rw [e1, e2]
    rw [eo] at h0 h1
    refine m_acc ok (by omega) (by omega) u (fun c => h0 S ρ fr_r u rfl ?_) (fun _ => h1)
    unfold o_acc
    rw [c]
    rfl
  · obtain ⟨p, d, z, hp, hd, hz, rfl⟩ := lo
    have y0' : a_yr y0 k 12 (nI p, nI d, nI z) (9 * k) = 1 := by simp [a_yr, a_set]
    have y1' : a_yr y0 k 12 (nI p, nI d, nI z) (9 * k + 1) = nI p := by simp [a_yr, a_set]
    have y2' : a_yr y0 k 12 (nI p, nI d, nI z) (9 * k + 2) = nI d := by simp [a_yr, a_set]
    have y3' : a_yr y0 k 12 (nI p, nI d, nI z) (9 * k + 3) = nI z := by simp [a_yr, a_set]
    rw [y0', y1', y2', y3', i1]
    simp only [show ¬ (1 : Int32) = 0 from by decide, eq_self, reduceCtorEq, true_implies, false_implies, and_true, true_and, not_true_eq_false, not_false_eq_true]
    refine ⟨vpin ⟨by omega, by omega⟩, vpin ⟨by omega, by omega⟩, ?_⟩
    have e1 : a_n (nI p) = p := a_n_nI (by omega)
    have e2 : a_n (nI d) = d := a_n_nI (by omega)
    have eo : o_do ρ 12 (nI p, nI d, nI z) = if a_mdr ρ.1 p d (nI z) = true then (a_drp ρ.1 p d (nI z), ρ.2) else o_ms ρ := by
      show (if a_mdr ρ.1 (a_n (nI p)) (a_n (nI d)) (nI z) = true then (a_drp ρ.1 (a_n (nI p)) (a_n (nI d)) (nI z), ρ.2) else o_ms ρ) = _
      rw [e1, e2]
    rw [eo] at h0 h1
    refine m_drops okm u.1 (by omega) (by omega) (fun c => h0 S ρ fr_r u rfl ?_) (fun c S2 f2 M2 => h1 S2 (fr_w f2 cm_um) ?_ (f2 143 36 rfl).1)
    · rw [c, if_neg (by decide)]
    · rw [c, if_pos rfl]
      exact UM_cm u f2 M2
  · obtain ⟨p, z, hp, hz1, hz2, rfl⟩ := lo
    have y0' : a_yr y0 k 14 (nI p, -1, nI z) (9 * k) = 2 := by simp [a_yr, a_set]
    have y1' : a_yr y0 k 14 (nI p, -1, nI z) (9 * k + 1) = nI p := by simp [a_yr, a_set]
    have y3' : a_yr y0 k 14 (nI p, -1, nI z) (9 * k + 3) = nI z := by simp [a_yr, a_set]
    rw [y0', y1', y3', i1, i3]
    simp only [show ¬ (2 : Int32) = 0 from by decide, show ¬ (2 : Int32) = 1 from by decide, show ¬ (2 : Int32) = 3 from by decide, eq_self, reduceCtorEq, true_implies, false_implies, and_true, true_and, not_true_eq_false, not_false_eq_true]
    refine ⟨vpin ⟨by omega, by omega⟩, ?_⟩
    have e1 : a_n (nI p) = p := a_n_nI (by omega)
    have eo : o_do ρ 14 (nI p, -1, nI z) = (a_pays ρ.1 (8 + p) (nI z), ρ.2) := by
      show (a_pays ρ.1 (8 + a_n (nI p)) (nI z), ρ.2) = _
      rw [e1]
    rw [eo] at h1
    rw [show (8 : Int32) + nI p = nI (8 + p) from nI_add 8 p]
    exact m_pays u.1 (by omega) (fun S2 f2 M2 => h1 S2 (fr_w f2 cm_um) (UM_cm u f2 M2) (f2 143 36 rfl).1)
  · have y0' : a_yr y0 k 15 g (9 * k) = 3 := by simp [a_yr, a_set]
    rw [y0', i1, i3]
    simp only [show ¬ (3 : Int32) = 0 from by decide, show ¬ (3 : Int32) = 1 from by decide, eq_self, reduceCtorEq, true_implies, false_implies, and_true, true_and, not_true_eq_false, not_false_eq_true]
    have eo : o_do ρ 15 g = if a_P ρ.1 = 0 ∨ a_D ρ.1 = 0 then o_ms ρ else o_acc (ρ.1, a_nx (a_nx ρ.2.1), ρ.2.2) (a_dw ρ.2.1 (a_P ρ.1)) (a_dw (a_nx ρ.2.1) (a_D ρ.1)) := rfl
    rw [eo] at h0 h1
    have n0 : Int32.toNatClampNeg 0 = 0 := rfl
    have n1 : Int32.toNatClampNeg 1 = 1 := rfl
    have v0 : vp_in 0 1900 := vpin (n := 0) ⟨by omega, by omega⟩
    have v1 : vp_in 1 1900 := vpin (n := 1) ⟨by omega, by omega⟩
    have eP0 : nI (a_P ρ.1) = 0 ↔ a_P ρ.1 = 0 := nI_eq (b := 0) (by omega) (by omega)
    have eD0 : nI (a_D ρ.1) = 0 ↔ a_D ρ.1 = 0 := nI_eq (b := 0) (by omega) (by omega)
    unfold p_X11_isAny
    rw [n0, n1, M_0 u.1 (by omega), M_0 u.1 (by omega), ok_m0 okm, ok_m1 okm, eP0, eD0]
    refine ⟨v0, ?_⟩
    by_cases cP : a_P ρ.1 = 0
    · simp only [cP, eq_self, reduceCtorEq, true_implies, false_implies, and_true, true_and, not_true_eq_false, not_false_eq_true]
      exact h0 S ρ fr_r u rfl (by rw [if_pos (Or.inl cP)])
    · simp only [cP, eq_self, reduceCtorEq, true_implies, false_implies, and_true, true_and, not_true_eq_false, not_false_eq_true]
      refine ⟨v1, ?_⟩
      by_cases cD : a_D ρ.1 = 0
      · simp only [cD, eq_self, reduceCtorEq, true_implies, false_implies, and_true, true_and, not_true_eq_false, not_false_eq_true]
        exact h0 S ρ fr_r u rfl (by rw [if_pos (Or.inr cD)])
      · simp only [cD, eq_self, reduceCtorEq, true_implies, false_implies, and_true, true_and, not_true_eq_false, not_false_eq_true]
        rw [if_neg (by omega)] at h0 h1
        refine ⟨v0, ?_⟩
        refine Eq.mpr (m_draw (n := a_P ρ.1) hs u.2.1 (by omega) (by omega)) ?_
        have f1 : a_fr a_fm2 S (v_si S 143 26 (nI (a_nx ρ.2.1))) := fr_i fr_r rfl
        have u1 := UM_fm2 u f1 si_at
        generalize hS1 : (v_si S 143 26 (nI (a_nx ρ.2.1))) = S1 at f1 u1
        refine ⟨v1, ?_⟩
        rw [M_0 u1.1 (by omega), ok_m1 okm]
        refine Eq.mpr (m_draw (n := a_D ρ.1) (nx_lt _) u1.2.1 (by omega) (by omega)) ?_
        have f2 : a_fr a_fm2 S1 (v_si S1 143 26 (nI (a_nx (a_nx ρ.2.1)))) := fr_i fr_r rfl
        have u2 := UM_fm2 u1 f2 si_at
        have ff := fr_t f1 f2
        have g36 := (ff 143 36 rfl).1
        refine m_acc (m0 := m0) (ρ := (ρ.1, a_nx (a_nx ρ.2.1), ρ.2.2)) ⟨okm, nx_lt _, hn, eP, eD, hj⟩ (Nat.mod_lt _ (by show 0 < a_P ρ.1; omega)) (Nat.mod_lt _ (by show 0 < a_D ρ.1; omega)) u2 (fun c => h0 _ (ρ.1, a_nx (a_nx ρ.2.1), ρ.2.2) (fr_w ff fm2_um) u2 g36 ?_) (fun _ S' f' u' e' => h1 S' (fr_t (fr_w ff fm2_um) f') u' (e'.trans g36))
        unfold o_acc
        rw [c]
        rfl
