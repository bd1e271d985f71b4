/-! a segment's run, on both sides -/
theorem UM_34 {S : vSt} {ρ : aU} (u : a_UM S ρ) : a_UM (v_si S 143 34 1) (ρ.1, ρ.2.1, ρ.2.2.1, ρ.2.2.2.1, true) := by
  obtain ⟨u1, u2, u3, u4, u5⟩ := u
  refine ⟨fun j hj => ?_, u2, u3, fun q hq => ?_, si_at⟩
  · rw [si1, if_neg (by omega)]; exact u1 j hj
  · rw [si1, if_neg (by omega)]; exact u4 q hq
theorem UM_35 {S : vSt} {ρ : aU} {n : Nat} (u : a_UM S ρ) : a_UM (v_si S 143 35 (nI n)) (ρ.1, ρ.2.1, n, ρ.2.2.2.1, ρ.2.2.2.2) := by
  obtain ⟨u1, u2, u3, u4, u5⟩ := u
  refine ⟨fun j hj => ?_, u2, si_at, fun q hq => ?_, u5⟩
  · rw [si1, if_neg (by omega)]; exact u1 j hj
  · rw [si1, if_neg (by omega)]; exact u4 q hq
theorem UX_741 {b N n : Nat} {W : aW} {S : vSt} {ρ : aU} (hb : b + 21 < 74) (u : a_UX b N W S ρ) : a_UX b N W (v_si S 74 1 (nI n)) (ρ.1, ρ.2.1, n, ρ.2.2.2.1, ρ.2.2.2.2) := by
  obtain ⟨u1, u2, u3, u4, u5, u6⟩ := u
  refine ⟨fun j hj => ?_, u2, si_at, fun q hq => ?_, ?_, fun c q hc hq => ?_⟩
  · have h1 : (a_xr j).1 ≤ 14 := (by decide +kernel : ∀ i, i < 108 → (a_xr i).1 ≤ 14) j (a_lv_lt hj)
    rw [si1, if_neg (fun w => by omega)]
    exact u1 j hj
  · rw [si1, if_neg (fun w => by omega)]; exact u4 q hq
  · rw [si1, if_neg (fun w => by omega)]; exact u5
  · rw [si1, if_neg (fun w => by omega)]; exact u6 c q hc hq
theorem UX_21 {b N l : Nat} {W : aW} {S : vSt} {ρ : aU} {z : Int32} (hb : b + 21 < 74) (u : a_UX b N W S ρ) : a_UX b N W (v_si S (b + 21) l z) ρ := by
  obtain ⟨u1, u2, u3, u4, u5, u6⟩ := u
  refine ⟨fun j hj => ?_, ?_, ?_, fun q hq => ?_, ?_, fun c q hc hq => ?_⟩
  · have h1 : (a_xr j).1 ≤ 14 := (by decide +kernel : ∀ i, i < 108 → (a_xr i).1 ≤ 14) j (a_lv_lt hj)
    rw [si1, if_neg (fun w => by omega)]
    exact u1 j hj
  · rw [si1, if_neg (fun w => by omega)]; exact u2
  · rw [si1, if_neg (fun w => by omega)]; exact u3
  · rw [si1, if_neg (fun w => by omega)]; exact u4 q hq
  · rw [si1, if_neg (fun w => by omega)]; exact u5
  · rw [si1, if_neg (fun w => by omega)]; exact u6 c q hc hq
/-! the model's loop over steps -/
theorem m_nxt {S : vSt} {m0 : Nat → Int32} {ρ : aU} {k e : Nat} {X : Int32 → Prop} (hk : k < 30) (ok : a_oku m0 ρ) (u : a_UM S ρ) (e8 : m0 (110 + (9 * k + 8)) = nI e) (h : X (nI e)) : vp_in (nI (110 + 9 * k + 8)) 1900 ∧ X (S.1 148 (110 + 9 * k + 8)) := by
  refine ⟨vpin ⟨by omega, by omega⟩, ?_⟩
  rw [M_0 u.1 (show 110 + 9 * k + 8 < 380 by omega), ok.2.2.2.2.2 _ (by omega), show 110 + 9 * k + 8 = 110 + (9 * k + 8) by omega, e8]
  exact h
theorem m_nxs {k : Nat} {X : Prop} (hk : k < 30) (h : X) : vp_in (nI (110 + 9 * k + 8)) 1900 ∧ X := ⟨vpin ⟨by omega, by omega⟩, h⟩