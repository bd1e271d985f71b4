/-! all other calls keep it -/
theorem kp_r {m : Nat → Int32} (ok : a_ok m) : a_keep m m := ⟨ok, rfl, rfl, fun _ _ => rfl⟩
theorem kp_one {m : Nat → Int32} {x : Int32} (ok : a_ok m) (g : a_one m x = true) : a_n x < a_P m ∧ x = nI (a_n x) := by
  have h8 := ok_P8 ok
  have g := of_decide_eq_true g
  rw [ok_m0 ok] at g
  obtain ⟨p, hp, e, en⟩ := nI_cut (N := a_P m) (by omega) g.1 g.2
  exact ⟨by omega, by rw [en]; exact e⟩
theorem kp_two {m : Nat → Int32} {x : Int32} (ok : a_ok m) (g : a_two m x = true) : a_n x < a_D m ∧ x = nI (a_n x) := by
  have h10 := ok_D10 ok
  have g := of_decide_eq_true g
  rw [ok_m1 ok] at g
  obtain ⟨p, hp, e, en⟩ := nI_cut (N := a_D m) (by omega) g.1 g.2
  exact ⟨by omega, by rw [en]; exact e⟩
theorem kp_hear {m : Nat → Int32} {p d v : Nat} (ok : a_ok m) (hp : p < a_P m) (hd : d < a_D m) (hv : v < 100) : a_keep m (a_hear m p d v) := by
  have h8 := ok_P8 ok
  have h10 := ok_D10 ok
  have ho := (ok_o ok hd).2
  exact ⟨ok_hear ok hp hd hv, hear_PD.1, hear_PD.2, fun j h => hear_ne (by omega) (by omega) (by omega) (by omega) (by omega) (by omega) (by omega) (by omega) (by omega)⟩
theorem kp_charge {m : Nat → Int32} {x y z : Int32} (ok : a_ok m) : a_keep m (o_charge m x y z).2.2 := by
  unfold o_charge
  split
  · next g =>
    obtain ⟨g1, g2⟩ := (Bool.and_eq_true _ _).mp g
    split
    · next gz =>
      split
      · obtain ⟨J1, J2, J3⟩ := ok_J1 ok
        obtain ⟨v, hv, -, ev⟩ := a_in_t J1 (by omega) gz
        exact kp_hear ok (kp_one ok g1).1 (kp_two ok g2).1 (by omega)
      · exact kp_r ok
    · exact kp_r ok
  · exact kp_r ok
theorem kp_hear2 {m : Nat → Int32} {x y z : Int32} (ok : a_ok m) : a_keep m (o_hear m x y z).2.2 := by
  unfold o_hear
  split
  · next g =>
    obtain ⟨g1, g2⟩ := (Bool.and_eq_true _ _).mp g
    split
    · next gz =>
      split
      · obtain ⟨J1, J2, J3⟩ := ok_J1 ok
        obtain ⟨v, hv, -, ev⟩ := a_in_t (n := 9999) rfl (by omega) gz
        have w := (jr_lt (s := a_n z) (c := a_c m (a_n x) (a_n y)) (by omega) (a_J m)).2
        exact kp_hear ok (kp_one ok g1).1 (kp_two ok g2).1 (by unfold a_vo; omega)
      · exact kp_r ok
    · exact kp_r ok
  · exact kp_r ok
theorem kp_drop {m : Nat → Int32} {x y z : Int32} (ok : a_ok m) : a_keep m (o_drop m x y z).2.2 := by
  have h8 := ok_P8 ok
  unfold o_drop
  split
  · next g =>
    obtain ⟨g1, g2⟩ := (Bool.and_eq_true _ _).mp g
    have hp := (kp_one ok g1).1
    have hd := (kp_two ok g2).1
    have ho := (ok_o ok hd).2
    split
    · split
      · exact ⟨ok_drp ok hp hd, drp_PD.1, drp_PD.2, fun j h => drp_ne (by omega) (by omega) (by omega)⟩
      · exact kp_r ok
    · exact kp_r ok
  · exact kp_r ok
theorem kp_reopen {m : Nat → Int32} {x : Int32} (ok : a_ok m) : a_keep m (o_reopen m x).2.2 := by
  have h10 := ok_D10 ok
  unfold o_reopen
  split
  · next g =>
    have hd := (kp_two ok g).1
    split
    · exact kp_r ok
    · exact ⟨ok_opk ok hd, opk_PD.1, opk_PD.2, fun j h => (opk_hi (by omega) (by omega)).trans (hd3_ne (by omega) (by omega) (by omega))⟩
  · exact kp_r ok
theorem kp_train {m : Nat → Int32} {x y : Int32} (ok : a_ok m) : a_keep m (o_train m x y).2.2 := by
  have h8 := ok_P8 ok
  unfold o_train
  split
  · next g =>
    have hp := (kp_one ok g).1
    split
    · next g2 => exact ⟨ok_train ok hp g2, a_P_set (by omega), a_D_set (by omega), fun j h => a_set_ne (by omega)⟩
    · exact kp_r ok
  · exact kp_r ok
theorem kp_earn {m : Nat → Int32} {x y : Int32} (ok : a_ok m) : a_keep m (o_earn m x y).2.2 := by
  have h8 := ok_P8 ok
  unfold o_earn
  split
  · next g =>
    have hp := (kp_one ok g).1
    split
    · exact ⟨ok_coin ok hp y, a_P_set (by omega), a_D_set (by omega), fun j h => a_set_ne (by omega)⟩
    · exact kp_r ok
  · exact kp_r ok
theorem kp_rule {m : Nat → Int32} {x y : Int32} (ok : a_ok m) : a_keep m (o_rule m x y).2.2 := by
  unfold o_rule
  split
  · next g =>
    obtain ⟨k, hk, -, ek⟩ := a_in_t (n := 3) rfl (by omega) g
    split
    · next g2 => exact ⟨ok_rule ok (by omega) g2, a_P_set (by omega), a_D_set (by omega), fun j h => a_set_ne (by omega)⟩
    · exact kp_r ok
  · exact kp_r ok