/-! all other calls keep it -/
theorem kp_r {m : Nat → Int32} (ok : a_ok m) : a_keep m m := ⟨ok, rfl, rfl, fun _ _ => rfl⟩
theorem kp_one {m : Nat → Int32} {x : Int32} (ok : a_ok m) (g : a_one m x = true) : a_n x < a_P m ∧ x = nI (a_n x) := by
  have h8 := ok_P8 ok
  have g := of_decide_eq_true g
  rw [ok_m0 ok] at g
  obtain ⟨p, hp, e, en⟩ := nI_cut (N := a_P m) (by omega) g.1 g.2
  exact ⟨by omega, by rw [en]; exact e⟩
theorem kp_two {m : Nat → Int32} {x : Int32} (ok : a_ok m) (g : a_two m x = true) : a_n x < a_D m ∧ x = nI (a_n x) := by
  have h10 := ok_D10 ok
  have g := of_decide_eq_true g
  rw [ok_m1 ok] at g
  obtain ⟨p, hp, e, en⟩ := nI_cut (N := a_D m) (by omega) g.1 g.2
  exact ⟨by omega, by rw [en]; exact e⟩
theorem kp_hear {m : Nat → Int32} {p d v : Nat} (ok : a_ok m) (hp : p < a_P m) (hd : d < a_D m) (hv : v < 100) : a_keep m (a_hear m p d v) := by
  have h8 := ok_P8 ok
  have h10 := ok_D10 ok
  have ho := (ok_o ok hd).2
  exact ⟨ok_hear ok hp hd hv, hear_PD.1, hear_PD.2, fun j h => hear_ne (by omega) (by omega) (by omega) (by omega) (by omega) (by omega) (by omega) (by omega) (by omega)⟩
theorem kp_charge {m : Nat → Int32} {x y z : Int32} (ok : a_ok m) : a_keep m (o_charge m x y z).2.2 := by
  unfold o_charge
  split
  · next g =>
    obtain ⟨g1, g2⟩ := (Bool.and_eq_true _ _).mp g
    split
    · next gz =>
      split
      · obtain ⟨J1, J2, J3⟩ := ok_J1 ok
        obtain ⟨v, hv, -, ev⟩ := a_in_t J1 (by omega) gz
        exact kp_hear ok (kp_one ok g1).1 (kp_two ok g2).1 (by omega)
      · exact kp_r ok
    · exact kp_r ok
  · exact kp_r ok
theorem kp_hear2 {m : Nat → Int32} {x y z : Int32} (ok : a_ok m) : a_keep m (o_hear m x y z).2.2 := by
  unfold o_hear
  split
  · next g =>
    obtain ⟨g1, g2⟩ := (Bool.and_eq_true _ _).mp g
    split
    · next gz =>
      split
      · obtain ⟨J1, J2, J3⟩ := ok_J1 ok
        obtain ⟨v, hv, -, ev⟩ := a_in_t (n := 9999) rfl (by omega) gz
        have w := (jr_lt (s := a_n z) (c := a_c m (a_n x) (a_n y)) (by omega) (a_J m)).2
        exact kp_hear ok (kp_one ok g1).1 (kp_two ok g2).1 (by unfold a_vo; omega)
      · exact kp_r ok
    · exact kp_r ok
  · exact kp_r ok
theorem kp_drop {m : Nat → Int32} {x y z : Int32} (ok : a_ok m) : a_keep m (o_drop m x y z).2.2 := by
  have h8 := ok_P8 ok
  unfold o_drop
  split
  · next g =>
    obtain ⟨g1, g2⟩ := (Bool.and_eq_true _ _).mp g
    have hp := (kp_one ok g1).1
    have hd := (kp_two ok g2).1
    have ho := (ok_o ok hd).2
    split
    · split
      · exact ⟨ok_drp ok hp hd, drp_PD.1, drp_PD.2, fun j h => drp_ne (by omega) (by omega) (by omega)⟩
      · exact kp_r ok
    · exact kp_r ok
  · exact kp_r ok
theorem kp_reopen {m : Nat → Int32} {x : Int32} (ok : a_ok m) : a_keep m (o_reopen m x).2.2 := by
  have h10 := ok_D10 ok
  unfold o_reopen
  split
  · next g =>
    have hd := (kp_two ok g).1
    split
    · exact kp_r ok
    · exact ⟨ok_opk ok hd, opk_PD.1, opk_PD.2, fun j h => (opk_hi (by omega) (by omega)).trans (hd3_ne (by omega) (by omega) (by omega))⟩
  · exact kp_r ok
theorem kp_train {m : Nat → Int32} {x y : Int32} (ok : a_ok m) : a_keep m (o_train m x y).2.2 := by
  have h8 := ok_P8 ok
  unfold o_train
  split
  · next g =>
    have hp := (kp_one ok g).1
    split
    · next g2 => exact ⟨ok_train ok hp g2, a_P_set (by omega), a_D_set (by omega), fun j h => a_set_ne (by omega)⟩
    · exact kp_r ok
  · exact kp_r ok
theorem kp_earn {m : Nat → Int32} {x y : Int32} (ok : a_ok m) : a_keep m (o_earn m x y).2.2 := by
  have h8 := ok_P8 ok
  unfold o_earn
  split
  · next g =>
    have hp := (kp_one ok g).1
    split
    · exact ⟨ok_coin ok hp y, a_P_set (by omega), a_D_set (by omega), fun j h => a_set_ne (by omega)⟩
    · exact kp_r ok
  · exact kp_r ok
theorem kp_rule {m : Nat → Int32} {x y : Int32} (ok : a_ok m) : a_keep m (o_rule m x y).2.2 := by
  unfold o_rule
  split
  · next g =>
    obtain ⟨k, hk, -, ek⟩ := a_in_t (n := 3) rfl (by omega) g
    split
    · next g2 => exact ⟨ok_rule ok (by omega) g2, a_P_set (by omega), a_D_set (by omega), fun j h => a_set_ne (by omega)⟩
    · exact kp_r ok
  · exact kp_r ok
theorem tok_write {T : aT} {x y : Int32} {v : Int64} (h : a_tok T) : a_tok (o_write T x y v).2.2 := by
  unfold o_write
  split
  · exact h
  · exact h
theorem tok_read {T : aT} {x y : Int32} (h : a_tok T) : a_tok (o_read T x y).2.2 := by
  unfold o_read
  split
  · exact h
  · exact h
theorem tok_pour {T : aT} {x1 x2 x3 x4 x5 : Int32} (h : a_tok T) : a_tok (o_pour T x1 x2 x3 x4 x5).2 := by
  unfold o_pour
  split
  · split
    · exact h
    · split
      · split
        · split
          · exact h
          · exact h
        · exact h
      · exact h
  · exact h
theorem tok_eq {T T' : aT} (h : a_tok T) (e : T'.2.1 = T.2.1) : a_tok T' := by unfold a_tok; rw [e]; exact h
theorem tok_copy {T : aT} {m : Nat → Int32} {x : Int32} (h : a_tok T) : a_tok (o_copy T m x).2.2 := by
  unfold o_copy
  split
  · split
    · exact tok_eq h (cc_1 (a_P m)).2
    · exact h
  · exact h

theorem many_pair {S : vSt} {x1 : Int32} {Q : vSt → Prop} (inv : a_Inv S) (hQ : ∀ S2, a_Inv S2 → Q S2) : p_X10_many S x1 (fun r S1 => p_X11_many S1 x1 (fun r' S2 => (r = r' → Q S2) ∧ (¬ r = r' → False))) := q_pair (o := fun m => o_many m x1) (px := fun K => p_X10_many S x1 K) (pm := fun S1 K => p_X11_many S1 x1 K) inv (fun _ _ ok R h => x_many ok R h) (fun _ _ _ ok M h => m_many ok M h) hQ
theorem person_pair {S : vSt} {x1 x2 : Int32} {Q : vSt → Prop} (inv : a_Inv S) (hQ : ∀ S2, a_Inv S2 → Q S2) : p_X10_person S x1 x2 (fun r S1 => p_X11_person S1 x1 x2 (fun r' S2 => (r = r' → Q S2) ∧ (¬ r = r' → False))) := q_pair (o := fun m => o_person m x1 x2) (px := fun K => p_X10_person S x1 x2 K) (pm := fun S1 K => p_X11_person S1 x1 x2 K) inv (fun _ _ ok R h => x_person ok R h) (fun _ _ _ ok M h => m_person ok M h) hQ
theorem deed_pair {S : vSt} {x1 x2 : Int32} {Q : vSt → Prop} (inv : a_Inv S) (hQ : ∀ S2, a_Inv S2 → Q S2) : p_X10_deed S x1 x2 (fun r S1 => p_X11_deed S1 x1 x2 (fun r' S2 => (r = r' → Q S2) ∧ (¬ r = r' → False))) := q_pair (o := fun m => o_deed m x1 x2) (px := fun K => p_X10_deed S x1 x2 K) (pm := fun S1 K => p_X11_deed S1 x1 x2 K) inv (fun _ _ ok R h => x_deed ok R h) (fun _ _ _ ok M h => m_deed ok M h) hQ
theorem can_pair {S : vSt} {x1 x2 : Int32} {Q : vSt → Prop} (inv : a_Inv S) (hQ : ∀ S2, a_Inv S2 → Q S2) : p_X10_can S x1 x2 (fun r S1 => p_X11_can S1 x1 x2 (fun r' S2 => (r = r' → Q S2) ∧ (¬ r = r' → False))) := q_pair (o := fun m => o_can m x1 x2) (px := fun K => p_X10_can S x1 x2 K) (pm := fun S1 K => p_X11_can S1 x1 x2 K) inv (fun _ _ ok R h => x_can ok R h) (fun _ _ _ ok M h => m_can ok M h) hQ
theorem chance_pair {S : vSt} {x1 x2 : Int32} {Q : vSt → Prop} (inv : a_Inv S) (hQ : ∀ S2, a_Inv S2 → Q S2) : p_X10_chance S x1 x2 (fun r S1 => p_X11_chance S1 x1 x2 (fun r' S2 => (r = r' → Q S2) ∧ (¬ r = r' → False))) := q_pair (o := fun m => o_chance m x1 x2) (px := fun K => p_X10_chance S x1 x2 K) (pm := fun S1 K => p_X11_chance S1 x1 x2 K) inv (fun _ _ ok R h => x_chance ok R h) (fun _ _ _ ok M h => m_chance ok M h) hQ
theorem votes_pair {S : vSt} {x1 x2 x3 : Int32} {Q : vSt → Prop} (inv : a_Inv S) (hQ : ∀ S2, a_Inv S2 → Q S2) : p_X10_votes S x1 x2 x3 (fun r S1 => p_X11_votes S1 x1 x2 x3 (fun r' S2 => (r = r' → Q S2) ∧ (¬ r = r' → False))) := q_pair (o := fun m => o_votes m x1 x2 x3) (px := fun K => p_X10_votes S x1 x2 x3 K) (pm := fun S1 K => p_X11_votes S1 x1 x2 x3 K) inv (fun _ _ ok R h => x_votes ok R h) (fun _ _ _ ok M h => m_votes ok M h) hQ
theorem wins_pair {S : vSt} {x1 x2 : Int32} {Q : vSt → Prop} (inv : a_Inv S) (hQ : ∀ S2, a_Inv S2 → Q S2) : p_X10_wins S x1 x2 (fun r S1 => p_X11_wins S1 x1 x2 (fun r' S2 => (r = r' → Q S2) ∧ (¬ r = r' → False))) := q_pair (o := fun m => o_wins m x1 x2) (px := fun K => p_X10_wins S x1 x2 K) (pm := fun S1 K => p_X11_wins S1 x1 x2 K) inv (fun _ _ ok R h => x_wins ok R h) (fun _ _ _ ok M h => m_wins ok M h) hQ
theorem owes_pair {S : vSt} {x1 x2 : Int32} {Q : vSt → Prop} (inv : a_Inv S) (hQ : ∀ S2, a_Inv S2 → Q S2) : p_X10_owes S x1 x2 (fun r S1 => p_X11_owes S1 x1 x2 (fun r' S2 => (r = r' → Q S2) ∧ (¬ r = r' → False))) := q_pair (o := fun m => o_owes m x1 x2) (px := fun K => p_X10_owes S x1 x2 K) (pm := fun S1 K => p_X11_owes S1 x1 x2 K) inv (fun _ _ ok R h => x_owes ok R h) (fun _ _ _ ok M h => m_owes ok M h) hQ
theorem gain_pair {S : vSt} {x1 x2 : Int32} {Q : vSt → Prop} (inv : a_Inv S) (hQ : ∀ S2, a_Inv S2 → Q S2) : p_X10_gain S x1 x2 (fun r S1 => p_X11_gain S1 x1 x2 (fun r' S2 => (r = r' → Q S2) ∧ (¬ r = r' → False))) := q_pair (o := fun m => o_gain m x1 x2) (px := fun K => p_X10_gain S x1 x2 K) (pm := fun S1 K => p_X11_gain S1 x1 x2 K) inv (fun _ _ ok R h => x_gain ok R h) (fun _ _ _ ok M h => m_gain ok M h) hQ
theorem loss_pair {S : vSt} {x1 x2 : Int32} {Q : vSt → Prop} (inv : a_Inv S) (hQ : ∀ S2, a_Inv S2 → Q S2) : p_X10_loss S x1 x2 (fun r S1 => p_X11_loss S1 x1 x2 (fun r' S2 => (r = r' → Q S2) ∧ (¬ r = r' → False))) := q_pair (o := fun m => o_loss m x1 x2) (px := fun K => p_X10_loss S x1 x2 K) (pm := fun S1 K => p_X11_loss S1 x1 x2 K) inv (fun _ _ ok R h => x_loss ok R h) (fun _ _ _ ok M h => m_loss ok M h) hQ
theorem best_pair {S : vSt} {x1 : Int32} {Q : vSt → Prop} (inv : a_Inv S) (hQ : ∀ S2, a_Inv S2 → Q S2) : p_X10_best S x1 (fun r S1 => p_X11_best S1 x1 (fun r' S2 => (r = r' → Q S2) ∧ (¬ r = r' → False))) := q_pair (o := fun m => o_best m x1) (px := fun K => p_X10_best S x1 K) (pm := fun S1 K => p_X11_best S1 x1 K) inv (fun _ _ ok R h => x_best ok R h) (fun _ _ _ ok M h => m_best ok M h) hQ
theorem plan_pair {S : vSt} {x1 x2 : Int32} {Q : vSt → Prop} (inv : a_Inv S) (hQ : ∀ S2, a_Inv S2 → Q S2) : p_X10_plan S x1 x2 (fun r S1 => p_X11_plan S1 x1 x2 (fun r' S2 => (r = r' → Q S2) ∧ (¬ r = r' → False))) := q_pair (o := fun m => o_plan m x1 x2) (px := fun K => p_X10_plan S x1 x2 K) (pm := fun S1 K => p_X11_plan S1 x1 x2 K) inv (fun _ _ ok R h => x_plan ok R h) (fun _ _ _ ok M h => m_plan ok M h) hQ
theorem accuser_pair {S : vSt} {x1 : Int32} {Q : vSt → Prop} (inv : a_Inv S) (hQ : ∀ S2, a_Inv S2 → Q S2) : p_X10_accuser S x1 (fun r S1 => p_X11_accuser S1 x1 (fun r' S2 => (r = r' → Q S2) ∧ (¬ r = r' → False))) := q_pair (o := fun m => o_accuser m x1) (px := fun K => p_X10_accuser S x1 K) (pm := fun S1 K => p_X11_accuser S1 x1 K) inv (fun _ _ ok R h => x_accuser ok R h) (fun _ _ _ ok M h => m_accuser ok M h) hQ
theorem dreaded_pair {S : vSt} {x1 : Int32} {Q : vSt → Prop} (inv : a_Inv S) (hQ : ∀ S2, a_Inv S2 → Q S2) : p_X10_dreaded S x1 (fun r S1 => p_X11_dreaded S1 x1 (fun r' S2 => (r = r' → Q S2) ∧ (¬ r = r' → False))) := q_pair (o := fun m => o_dreaded m x1) (px := fun K => p_X10_dreaded S x1 K) (pm := fun S1 K => p_X11_dreaded S1 x1 K) inv (fun _ _ ok R h => x_dreaded ok R h) (fun _ _ _ ok M h => m_dreaded ok M h) hQ
theorem dread_pair {S : vSt} {x1 : Int32} {Q : vSt → Prop} (inv : a_Inv S) (hQ : ∀ S2, a_Inv S2 → Q S2) : p_X10_dread S x1 (fun r S1 => p_X11_dread S1 x1 (fun r' S2 => (r = r' → Q S2) ∧ (¬ r = r' → False))) := q_pair (o := fun m => o_dread m x1) (px := fun K => p_X10_dread S x1 K) (pm := fun S1 K => p_X11_dread S1 x1 K) inv (fun _ _ ok R h => x_dread ok R h) (fun _ _ _ ok M h => m_dread ok M h) hQ
theorem friend_pair {S : vSt} {x1 : Int32} {Q : vSt → Prop} (inv : a_Inv S) (hQ : ∀ S2, a_Inv S2 → Q S2) : p_X10_friend S x1 (fun r S1 => p_X11_friend S1 x1 (fun r' S2 => (r = r' → Q S2) ∧ (¬ r = r' → False))) := q_pair (o := fun m => o_friend m x1) (px := fun K => p_X10_friend S x1 K) (pm := fun S1 K => p_X11_friend S1 x1 K) inv (fun _ _ ok R h => x_friend ok R h) (fun _ _ _ ok M h => m_friend ok M h) hQ
theorem quiet_pair {S : vSt} {Q : vSt → Prop} (inv : a_Inv S) (hQ : ∀ S2, a_Inv S2 → Q S2) : p_X10_quiet S (fun r S1 => p_X11_quiet S1 (fun r' S2 => (r = r' → Q S2) ∧ (¬ r = r' → False))) := q_pair (o := fun m => o_quiet m) (px := fun K => p_X10_quiet S K) (pm := fun S1 K => p_X11_quiet S1 K) inv (fun _ _ ok R h => x_quiet ok R h) (fun _ _ _ ok M h => m_quiet ok M h) hQ
theorem trade_pair {S : vSt} {x1 x2 x3 : Int32} {Q : vSt → Prop} (inv : a_Inv S) (hQ : ∀ S2, a_Inv S2 → Q S2) : p_X10_trade S x1 x2 x3 (fun r S1 => p_X11_trade S1 x1 x2 x3 (fun r' S2 => (r = r' → Q S2) ∧ (¬ r = r' → False))) := q_pair (o := fun m => o_trade m x1 x2 x3) (px := fun K => p_X10_trade S x1 x2 x3 K) (pm := fun S1 K => p_X11_trade S1 x1 x2 x3 K) inv (fun _ _ ok R h => x_trade ok R h) (fun _ _ _ ok M h => m_trade ok M h) hQ
theorem leastShare_pair {S : vSt} {x1 : Int32} {Q : vSt → Prop} (inv : a_Inv S) (hQ : ∀ S2, a_Inv S2 → Q S2) : p_X10_leastShare S x1 (fun r S1 => p_X11_leastShare S1 x1 (fun r' S2 => (r = r' → Q S2) ∧ (¬ r = r' → False))) := q_pair (o := fun m => o_leastShare m x1) (px := fun K => p_X10_leastShare S x1 K) (pm := fun S1 K => p_X11_leastShare S1 x1 K) inv (fun _ _ ok R h => x_leastShare ok R h) (fun _ _ _ ok M h => m_leastShare ok M h) hQ
theorem leastFine_pair {S : vSt} {x1 : Int32} {Q : vSt → Prop} (inv : a_Inv S) (hQ : ∀ S2, a_Inv S2 → Q S2) : p_X10_leastFine S x1 (fun r S1 => p_X11_leastFine S1 x1 (fun r' S2 => (r = r' → Q S2) ∧ (¬ r = r' → False))) := q_pair (o := fun m => o_leastFine m x1) (px := fun K => p_X10_leastFine S x1 K) (pm := fun S1 K => p_X11_leastFine S1 x1 K) inv (fun _ _ ok R h => x_leastFine ok R h) (fun _ _ _ ok M h => m_leastFine ok M h) hQ
theorem mostPenalty_pair {S : vSt} {x1 : Int32} {Q : vSt → Prop} (inv : a_Inv S) (hQ : ∀ S2, a_Inv S2 → Q S2) : p_X10_mostPenalty S x1 (fun r S1 => p_X11_mostPenalty S1 x1 (fun r' S2 => (r = r' → Q S2) ∧ (¬ r = r' → False))) := q_pair (o := fun m => o_mostPenalty m x1) (px := fun K => p_X10_mostPenalty S x1 K) (pm := fun S1 K => p_X11_mostPenalty S1 x1 K) inv (fun _ _ ok R h => x_mostPenalty ok R h) (fun _ _ _ ok M h => m_mostPenalty ok M h) hQ
theorem gladBy_pair {S : vSt} {x1 x2 : Int32} {Q : vSt → Prop} (inv : a_Inv S) (hQ : ∀ S2, a_Inv S2 → Q S2) : p_X10_gladBy S x1 x2 (fun r S1 => p_X11_gladBy S1 x1 x2 (fun r' S2 => (r = r' → Q S2) ∧ (¬ r = r' → False))) := q_pair (o := fun m => o_gladBy m x1 x2) (px := fun K => p_X10_gladBy S x1 x2 K) (pm := fun S1 K => p_X11_gladBy S1 x1 x2 K) inv (fun _ _ ok R h => x_gladBy ok R h) (fun _ _ _ ok M h => m_gladBy ok M h) hQ
theorem game_pair {S : vSt} {x1 x2 x3 : Int32} {Q : vSt → Prop} (inv : a_Inv S) (hQ : ∀ S2, a_Inv S2 → Q S2) : p_X10_game S x1 x2 x3 (fun r S1 => p_X11_game S1 x1 x2 x3 (fun r' S2 => (r = r' → Q S2) ∧ (¬ r = r' → False))) := q_pair (o := fun m => o_game m x1 x2 x3) (px := fun K => p_X10_game S x1 x2 x3 K) (pm := fun S1 K => p_X11_game S1 x1 x2 x3 K) inv (fun _ _ ok R h => x_game ok R h) (fun _ _ _ ok M h => m_game ok M h) hQ
theorem moveOf_pair {S : vSt} {x1 x2 x3 : Int32} {Q : vSt → Prop} (inv : a_Inv S) (hQ : ∀ S2, a_Inv S2 → Q S2) : p_X10_moveOf S x1 x2 x3 (fun r S1 => p_X11_moveOf S1 x1 x2 x3 (fun r' S2 => (r = r' → Q S2) ∧ (¬ r = r' → False))) := q_pair (o := fun m => o_move m x1 x2 x3) (px := fun K => p_X10_moveOf S x1 x2 x3 K) (pm := fun S1 K => p_X11_moveOf S1 x1 x2 x3 K) inv (fun _ _ ok R h => x_moveOf ok R h) (fun _ _ _ ok M h => m_moveOf ok M h) hQ
theorem club_pair {S : vSt} {x1 : Int32} {Q : vSt → Prop} (inv : a_Inv S) (hQ : ∀ S2, a_Inv S2 → Q S2) : p_X10_club S x1 (fun r S1 => p_X11_club S1 x1 (fun r' S2 => (r = r' → Q S2) ∧ (¬ r = r' → False))) := q_pair (o := fun m => o_club m x1) (px := fun K => p_X10_club S x1 K) (pm := fun S1 K => p_X11_club S1 x1 K) inv (fun _ _ ok R h => x_club ok R h) (fun _ _ _ ok M h => m_club ok M h) hQ
theorem clubPart_pair {S : vSt} {x1 : Int32} {Q : vSt → Prop} (inv : a_Inv S) (hQ : ∀ S2, a_Inv S2 → Q S2) : p_X10_clubPart S x1 (fun r S1 => p_X11_clubPart S1 x1 (fun r' S2 => (r = r' → Q S2) ∧ (¬ r = r' → False))) := q_pair (o := fun m => o_part m x1) (px := fun K => p_X10_clubPart S x1 K) (pm := fun S1 K => p_X11_clubPart S1 x1 K) inv (fun _ _ ok R h => x_clubPart ok R h) (fun _ _ _ ok M h => m_clubPart ok M h) hQ
theorem gained_pair {S : vSt} {x1 x2 : Int32} {Q : vSt → Prop} (inv : a_Inv S) (hQ : ∀ S2, a_Inv S2 → Q S2) : p_X10_gained S x1 x2 (fun r S1 => p_X11_gained S1 x1 x2 (fun r' S2 => (r = r' → Q S2) ∧ (¬ r = r' → False))) := q_pair (o := fun m => o_gained m x1 x2) (px := fun K => p_X10_gained S x1 x2 K) (pm := fun S1 K => p_X11_gained S1 x1 x2 K) inv (fun _ _ ok R h => x_gained ok R h) (fun _ _ _ ok M h => m_gained ok M h) hQ
theorem sure_pair {S : vSt} {x1 x2 : Int32} {Q : vSt → Prop} (inv : a_Inv S) (hQ : ∀ S2, a_Inv S2 → Q S2) : p_X10_sure S x1 x2 (fun r S1 => p_X11_sure S1 x1 x2 (fun r' S2 => (r = r' → Q S2) ∧ (¬ r = r' → False))) := q_pair (o := fun m => o_sure m x1 x2) (px := fun K => p_X10_sure S x1 x2 K) (pm := fun S1 K => p_X11_sure S1 x1 x2 K) inv (fun _ _ ok R h => x_sure ok R h) (fun _ _ _ ok M h => m_sure ok M h) hQ
theorem bound_pair {S : vSt} {x1 x2 : Int32} {Q : vSt → Prop} (inv : a_Inv S) (hQ : ∀ S2, a_Inv S2 → Q S2) : p_X10_bound S x1 x2 (fun r S1 => p_X11_bound S1 x1 x2 (fun r' S2 => (r = r' → Q S2) ∧ (¬ r = r' → False))) := q_pair (o := fun m => o_bound m x1 x2) (px := fun K => p_X10_bound S x1 x2 K) (pm := fun S1 K => p_X11_bound S1 x1 x2 K) inv (fun _ _ ok R h => x_bound ok R h) (fun _ _ _ ok M h => m_bound ok M h) hQ
theorem charge_pair {S : vSt} {x1 x2 x3 : Int32} {Q : vSt → Prop} (inv : a_Inv S) (hQ : ∀ S2, a_Inv S2 → Q S2) : p_X10_charge S x1 x2 x3 (fun r S1 => p_X11_charge S1 x1 x2 x3 (fun r' S2 => (r = r' → Q S2) ∧ (¬ r = r' → False))) := u_pair (o := fun m => o_charge m x1 x2 x3) (px := fun K => p_X10_charge S x1 x2 x3 K) (pm := fun S1 K => p_X11_charge S1 x1 x2 x3 K) inv (fun _ ok => kp_charge ok) (fun _ _ ok R h => x_charge ok R h) (fun _ _ _ ok M h => m_charge ok M h) hQ
theorem hear_pair {S : vSt} {x1 x2 x3 : Int32} {Q : vSt → Prop} (inv : a_Inv S) (hQ : ∀ S2, a_Inv S2 → Q S2) : p_X10_hear S x1 x2 x3 (fun r S1 => p_X11_hear S1 x1 x2 x3 (fun r' S2 => (r = r' → Q S2) ∧ (¬ r = r' → False))) := u_pair (o := fun m => o_hear m x1 x2 x3) (px := fun K => p_X10_hear S x1 x2 x3 K) (pm := fun S1 K => p_X11_hear S1 x1 x2 x3 K) inv (fun _ ok => kp_hear2 ok) (fun _ _ ok R h => x_hear ok R h) (fun _ _ _ ok M h => m_hear ok M h) hQ
theorem drop_pair {S : vSt} {x1 x2 x3 : Int32} {Q : vSt → Prop} (inv : a_Inv S) (hQ : ∀ S2, a_Inv S2 → Q S2) : p_X10_drop S x1 x2 x3 (fun r S1 => p_X11_drop S1 x1 x2 x3 (fun r' S2 => (r = r' → Q S2) ∧ (¬ r = r' → False))) := u_pair (o := fun m => o_drop m x1 x2 x3) (px := fun K => p_X10_drop S x1 x2 x3 K) (pm := fun S1 K => p_X11_drop S1 x1 x2 x3 K) inv (fun _ ok => kp_drop ok) (fun _ _ ok R h => x_drop ok R h) (fun _ _ _ ok M h => m_drop ok M h) hQ
theorem reopen_pair {S : vSt} {x1 : Int32} {Q : vSt → Prop} (inv : a_Inv S) (hQ : ∀ S2, a_Inv S2 → Q S2) : p_X10_reopen S x1 (fun r S1 => p_X11_reopen S1 x1 (fun r' S2 => (r = r' → Q S2) ∧ (¬ r = r' → False))) := u_pair (o := fun m => o_reopen m x1) (px := fun K => p_X10_reopen S x1 K) (pm := fun S1 K => p_X11_reopen S1 x1 K) inv (fun _ ok => kp_reopen ok) (fun _ _ ok R h => x_reopen ok R h) (fun _ _ _ ok M h => m_reopen ok M h) hQ
theorem train_pair {S : vSt} {x1 x2 : Int32} {Q : vSt → Prop} (inv : a_Inv S) (hQ : ∀ S2, a_Inv S2 → Q S2) : p_X10_train S x1 x2 (fun r S1 => p_X11_train S1 x1 x2 (fun r' S2 => (r = r' → Q S2) ∧ (¬ r = r' → False))) := u_pair (o := fun m => o_train m x1 x2) (px := fun K => p_X10_train S x1 x2 K) (pm := fun S1 K => p_X11_train S1 x1 x2 K) inv (fun _ ok => kp_train ok) (fun _ _ ok R h => x_train ok R h) (fun _ _ _ ok M h => m_train ok M h) hQ
theorem earn_pair {S : vSt} {x1 x2 : Int32} {Q : vSt → Prop} (inv : a_Inv S) (hQ : ∀ S2, a_Inv S2 → Q S2) : p_X10_earn S x1 x2 (fun r S1 => p_X11_earn S1 x1 x2 (fun r' S2 => (r = r' → Q S2) ∧ (¬ r = r' → False))) := u_pair (o := fun m => o_earn m x1 x2) (px := fun K => p_X10_earn S x1 x2 K) (pm := fun S1 K => p_X11_earn S1 x1 x2 K) inv (fun _ ok => kp_earn ok) (fun _ _ ok R h => x_earn ok R h) (fun _ _ _ ok M h => m_earn ok M h) hQ
theorem rule_pair {S : vSt} {x1 x2 : Int32} {Q : vSt → Prop} (inv : a_Inv S) (hQ : ∀ S2, a_Inv S2 → Q S2) : p_X10_rule S x1 x2 (fun r S1 => p_X11_rule S1 x1 x2 (fun r' S2 => (r = r' → Q S2) ∧ (¬ r = r' → False))) := u_pair (o := fun m => o_rule m x1 x2) (px := fun K => p_X10_rule S x1 x2 K) (pm := fun S1 K => p_X11_rule S1 x1 x2 K) inv (fun _ ok => kp_rule ok) (fun _ _ ok R h => x_rule R h) (fun _ _ _ ok M h => m_rule M h) hQ
theorem tray_pair {S : vSt} {x1 x2 x3 : Int32} {Q : vSt → Prop} (inv : a_Inv S) (hQ : ∀ S2, a_Inv S2 → Q S2) : p_X10_tray S x1 x2 x3 (fun r S1 => p_X11_tray S1 x1 x2 x3 (fun r' S2 => (r = r' → Q S2) ∧ (¬ r = r' → False))) := t_pair (o := fun m T => o_tray T x1 x2 x3) (px := fun K => p_X10_tray S x1 x2 x3 K) (pm := fun S1 K => p_X11_tray S1 x1 x2 x3 K) inv (fun _ _ ok tok => tok_tray tok) (fun _ _ _ ok R tok h0 h => x_tray h0 h) (fun _ _ _ _ ok M tok h0 h => m_tray h0 h) hQ
theorem write_pair {S : vSt} {x1 x2 : Int32} {v : Int64} {Q : vSt → Prop} (inv : a_Inv S) (hQ : ∀ S2, a_Inv S2 → Q S2) : p_X10_write S x1 x2 v (fun r S1 => p_X11_write S1 x1 x2 v (fun r' S2 => (r = r' → Q S2) ∧ (¬ r = r' → False))) := t_pair (o := fun m T => o_write T x1 x2 v) (px := fun K => p_X10_write S x1 x2 v K) (pm := fun S1 K => p_X11_write S1 x1 x2 v K) inv (fun _ _ ok tok => tok_write tok) (fun _ _ _ ok R tok h0 h => x_write tok h0 h) (fun _ _ _ _ ok M tok h0 h => m_write tok h0 h) hQ
theorem read_pair {S : vSt} {x1 x2 : Int32} {Q : vSt → Prop} (inv : a_Inv S) (hQ : ∀ S2, a_Inv S2 → Q S2) : p_X10_read S x1 x2 (fun r S1 => p_X11_read S1 x1 x2 (fun r' S2 => (r = r' → Q S2) ∧ (¬ r = r' → False))) := t_pair (o := fun m T => o_read T x1 x2) (px := fun K => p_X10_read S x1 x2 K) (pm := fun S1 K => p_X11_read S1 x1 x2 K) inv (fun _ _ ok tok => tok_read tok) (fun _ _ _ ok R tok h0 h => x_read tok h0 h) (fun _ _ _ _ ok M tok h0 h => m_read tok h0 h) hQ
theorem pour_pair {S : vSt} {x1 x2 x3 x4 x5 : Int32} {Q : vSt → Prop} (inv : a_Inv S) (hQ : ∀ S2, a_Inv S2 → Q S2) : p_X10_pour S x1 x2 x3 x4 x5 (fun r S1 => p_X11_pour S1 x1 x2 x3 x4 x5 (fun r' S2 => (r = r' → Q S2) ∧ (¬ r = r' → False))) := t_pair (o := fun m T => (decide ((o_pour T x1 x2 x3 x4 x5).1 = 0), o_pour T x1 x2 x3 x4 x5)) (px := fun K => p_X10_pour S x1 x2 x3 x4 x5 K) (pm := fun S1 K => p_X11_pour S1 x1 x2 x3 x4 x5 K) inv (fun _ _ ok tok => tok_pour tok) (fun _ _ _ ok R tok h0 h => x_pour tok h0 h) (fun _ _ _ _ ok M tok h0 h => m_pour tok h0 h) hQ
theorem copyCoins_pair {S : vSt} {x1 : Int32} {Q : vSt → Prop} (inv : a_Inv S) (hQ : ∀ S2, a_Inv S2 → Q S2) : p_X10_copyCoins S x1 (fun r S1 => p_X11_copyCoins S1 x1 (fun r' S2 => (r = r' → Q S2) ∧ (¬ r = r' → False))) := t_pair (o := fun m T => o_copy T m x1) (px := fun K => p_X10_copyCoins S x1 K) (pm := fun S1 K => p_X11_copyCoins S1 x1 K) inv (fun _ _ ok tok => tok_copy tok) (fun _ _ _ ok R tok h0 h => x_copyCoins ok tok R h0 h) (fun _ _ _ _ ok M tok h0 h => m_copyCoins ok tok M h0 h) hQ
