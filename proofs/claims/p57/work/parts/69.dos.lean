def o_ms (ρ : aU) : aU := (ρ.1, ρ.2.1, ρ.2.2.1, a_inc ρ.2.2.2.1 0, ρ.2.2.2.2)
def o_do (ρ : aU) (w : Nat) (g : aL) : aU :=
  if w = 11 then o_acc ρ (a_n g.1) (a_n g.2.1)
  else if w = 12 then (if a_mdr ρ.1 (a_n g.1) (a_n g.2.1) g.2.2 = true then (a_drp ρ.1 (a_n g.1) (a_n g.2.1) g.2.2, ρ.2) else o_ms ρ)
  else if w = 14 then (a_pays ρ.1 (8 + a_n g.1) g.2.2, ρ.2)
  else if a_P ρ.1 = 0 ∨ a_D ρ.1 = 0 then o_ms ρ else o_acc (ρ.1, a_nx (a_nx ρ.2.1), ρ.2.2) (a_dw ρ.2.1 (a_P ρ.1)) (a_dw (a_nx ρ.2.1) (a_D ρ.1))
theorem ok_acc {m0 : Nat → Int32} {ρ : aU} {p d : Nat} (ok : a_oku m0 ρ) (hp : p < a_P ρ.1) (hd : d < a_D ρ.1) : a_oku m0 (o_acc ρ p d) ∧ (o_acc ρ p d).2.2.1 = ρ.2.2.1 ∧ (o_acc ρ p d).2.2.2.2 = ρ.2.2.2.2 := by
  obtain ⟨okm, hs, hn, eP, eD, hj⟩ := ok
  have h8 := ok_P8 okm
  have h10 := ok_D10 okm
  have ho := (ok_o okm hd).2
  unfold o_acc
  split
  · have v9 := jr_lt (c := a_c ρ.1 p d) hs (a_J ρ.1)
    have J9 := (ok_J1 okm).2.2
    obtain ⟨q1, q2⟩ := hear_PD (m := ρ.1) (p := p) (d := d) (v := (a_jr ρ.2.1 (a_c ρ.1 p d) (a_J ρ.1)).2)
    refine ⟨⟨ok_hear okm hp hd (by omega), v9.1, hn, q1.trans eP, q2.trans eD, fun j h => ?_⟩, rfl, rfl⟩
    show a_hear _ _ _ _ j = _
    rw [hear_ne (by omega) (by omega) (by omega) (by omega) (by omega) (by omega) (by omega) (by omega) (by omega)]
    exact hj j h
  · exact ⟨⟨okm, hs, hn, eP, eD, hj⟩, rfl, rfl⟩
theorem ok_do {m0 : Nat → Int32} {ρ : aU} {w : Nat} {g : aL} (ok : a_oku m0 ρ) (hb : a_bgs w = true) (ho : a_ope w = false) (h21 : w ≠ 21) (lo : a_lok m0 w g) : a_oku m0 (o_do ρ w g) ∧ (o_do ρ w g).2.2.1 = ρ.2.2.1 ∧ (o_do ρ w g).2.2.2.2 = ρ.2.2.2.2 := by
  obtain ⟨okm, hs, hn, eP, eD, hj⟩ := id ok
  have h8 := ok_P8 okm
  have h10 := ok_D10 okm
  unfold a_lok at lo
  unfold o_do
  split
  · next c =>
    rw [if_pos c] at lo
    obtain ⟨p, d, hp, hd, rfl⟩ := lo
    have e1 : a_n (nI p) = p := a_n_nI (by omega)
    have e2 : a_n (nI d) = d := a_n_nI (by omega)
    simp only [e1, e2]
    exact ok_acc ok (by omega) (by omega)
  · next c =>
    rw [if_neg c] at lo
    split
    · next c =>
      rw [if_pos c] at lo
      obtain ⟨p, d, z, hp, hd, hz, rfl⟩ := lo
      have e1 : a_n (nI p) = p := a_n_nI (by omega)
      have e2 : a_n (nI d) = d := a_n_nI (by omega)
      simp only [e1, e2]
      have hp' : p < a_P ρ.1 := by omega
      have hd' : d < a_D ρ.1 := by omega
      have hoo := (ok_o okm hd').2
      split
      · obtain ⟨q1, q2⟩ := drp_PD (m := ρ.1) (p := p) (d := d) (z := nI z)
        refine ⟨⟨ok_drp okm hp' hd', hs, hn, q1.trans eP, q2.trans eD, fun j h => ?_⟩, rfl, rfl⟩
        show a_drp _ _ _ _ j = _
        rw [drp_ne (by omega) (by omega) (by omega)]
        exact hj j h
      · exact ⟨ok, rfl, rfl⟩
    · next c =>
      rw [if_neg c] at lo
      split
      · next c =>
        rw [if_pos c] at lo
        obtain ⟨p, z, hp, hz1, hz2, rfl⟩ := lo
        have e1 : a_n (nI p) = p := a_n_nI (by omega)
        simp only [e1]
        refine ⟨⟨ok_coin okm (by omega) _, hs, hn, (pays_P (by omega)).trans eP, (pays_D (by omega)).trans eD, fun j h => ?_⟩, by first | exact ⟨rfl, rfl⟩ | exact ⟨trivial, trivial⟩⟩
        show a_pays _ _ _ j = _
        rw [pays_ne (by omega)]
        exact hj j h
      · split
        · exact ⟨ok, rfl, rfl⟩
        · next z =>
          have hP : 0 < a_P ρ.1 := by omega
          have hD : 0 < a_D ρ.1 := by omega
          have q := ok_acc (ρ := (ρ.1, a_nx (a_nx ρ.2.1), ρ.2.2)) (p := a_dw ρ.2.1 (a_P ρ.1)) (d := a_dw (a_nx ρ.2.1) (a_D ρ.1)) ⟨okm, nx_lt _, hn, eP, eD, hj⟩ (Nat.mod_lt _ hP) (Nat.mod_lt _ hD)
          exact q
/-! the class does it -/
/-! the model does it -/
theorem UM_sto {S : vSt} {ρ : aU} (u : a_UM S ρ) : S.1 143 36 = ρ.2.2.2.1 0 := u.2.2.2.1 0 (by omega)