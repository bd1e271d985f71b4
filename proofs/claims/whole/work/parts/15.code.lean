/-! HalfAccuserModel.gain(II)Z -/
theorem dX11_gain_0 : decode cX11_gain 0 = .ok ((.aload_n 0), 1) := by decide +kernel
theorem dX11_gain_1 : decode cX11_gain 1 = .ok ((.iconst 0), 1) := by decide +kernel
theorem dX11_gain_2 : decode cX11_gain 2 = .ok ((.putfield 60), 3) := by decide +kernel
theorem dX11_gain_5 : decode cX11_gain 5 = .ok ((.aload_n 0), 1) := by decide +kernel
theorem dX11_gain_6 : decode cX11_gain 6 = .ok ((.aload_n 0), 1) := by decide +kernel
theorem dX11_gain_7 : decode cX11_gain 7 = .ok ((.iload_n 1), 1) := by decide +kernel
theorem dX11_gain_8 : decode cX11_gain 8 = .ok ((.iload_n 2), 1) := by decide +kernel
theorem dX11_gain_9 : decode cX11_gain 9 = .ok ((.invokevirtual 392), 3) := by decide +kernel
theorem dX11_gain_12 : decode cX11_gain 12 = .ok ((.putfield 63), 3) := by decide +kernel
theorem dX11_gain_15 : decode cX11_gain 15 = .ok ((.aload_n 0), 1) := by decide +kernel
theorem dX11_gain_16 : decode cX11_gain 16 = .ok ((.getfield 63), 3) := by decide +kernel
theorem dX11_gain_19 : decode cX11_gain 19 = .ok ((.ifCond .ne 17), 3) := by decide +kernel
theorem dX11_gain_22 : decode cX11_gain 22 = .ok ((.aload_n 0), 1) := by decide +kernel
theorem dX11_gain_23 : decode cX11_gain 23 = .ok ((.iload_n 1), 1) := by decide +kernel
theorem dX11_gain_24 : decode cX11_gain 24 = .ok ((.invokevirtual 298), 3) := by decide +kernel
theorem dX11_gain_27 : decode cX11_gain 27 = .ok ((.ifCond .eq 9), 3) := by decide +kernel
theorem dX11_gain_30 : decode cX11_gain 30 = .ok ((.aload_n 0), 1) := by decide +kernel
theorem dX11_gain_31 : decode cX11_gain 31 = .ok ((.bipush 9), 2) := by decide +kernel
theorem dX11_gain_33 : decode cX11_gain 33 = .ok ((.putfield 63), 3) := by decide +kernel
theorem dX11_gain_36 : decode cX11_gain 36 = .ok ((.aload_n 0), 1) := by decide +kernel
theorem dX11_gain_37 : decode cX11_gain 37 = .ok ((.getfield 63), 3) := by decide +kernel
theorem dX11_gain_40 : decode cX11_gain 40 = .ok ((.ifCond .ne 24), 3) := by decide +kernel
theorem dX11_gain_43 : decode cX11_gain 43 = .ok ((.aload_n 0), 1) := by decide +kernel
theorem dX11_gain_44 : decode cX11_gain 44 = .ok ((.aload_n 0), 1) := by decide +kernel
theorem dX11_gain_45 : decode cX11_gain 45 = .ok ((.iload_n 1), 1) := by decide +kernel
theorem dX11_gain_46 : decode cX11_gain 46 = .ok ((.iload_n 2), 1) := by decide +kernel
theorem dX11_gain_47 : decode cX11_gain 47 = .ok ((.invokevirtual 395), 3) := by decide +kernel
theorem dX11_gain_50 : decode cX11_gain 50 = .ok ((.aload_n 0), 1) := by decide +kernel
theorem dX11_gain_51 : decode cX11_gain 51 = .ok ((.invokevirtual 384), 3) := by decide +kernel
theorem dX11_gain_54 : decode cX11_gain 54 = .ok ((.invokevirtual 388), 3) := by decide +kernel
theorem dX11_gain_57 : decode cX11_gain 57 = .ok ((.ifCond .eq 7), 3) := by decide +kernel
theorem dX11_gain_60 : decode cX11_gain 60 = .ok ((.iconst 1), 1) := by decide +kernel
theorem dX11_gain_61 : decode cX11_gain 61 = .ok ((.goto 4), 3) := by decide +kernel
theorem dX11_gain_64 : decode cX11_gain 64 = .ok ((.iconst 0), 1) := by decide +kernel
theorem dX11_gain_65 : decode cX11_gain 65 = .ok (.ireturn, 1) := by decide +kernel
def p_X11_gain_36  (a1 : Int32) (a2 : Int32)   (post : Bool → vSt → Prop) (S : vSt)  : Prop := ((¬ (S.1 143 0) = 0 → post false S) ∧ ((S.1 143 0) = 0 → p_X11_gainOf  S a1 a2 (fun r19 S18 => p_X11_allVotes  S18  (fun r21 S20 => p_X11_fraction  S20 r19 r21 (fun r23 S22 => ((r23 = false → post false S22) ∧ (r23 = true → post true S22)))))))
def p_X11_gain   (S : vSt) (a1 : Int32) (a2 : Int32) (post : Bool → vSt → Prop) : Prop := ∀ S14, S14 = v_si S 143 1 0 → p_X11_whyNot  S14 a1 a2 (fun r16 S15 => ∀ S17, S17 = v_si S15 143 0 r16 → ((¬ (S17.1 143 0) = 0 → p_X11_gain_36 a1 a2 post S17 ) ∧ ((S17.1 143 0) = 0 → p_X11_isRuined  S17 a1 (fun r19 S18 => ((r19 = false → p_X11_gain_36 a1 a2 post S18 ) ∧ (r19 = true → ∀ S20, S20 = v_si S18 143 0 9 → p_X11_gain_36 a1 a2 post S20 ))))))
set_option maxHeartbeats 4000000 in
set_option maxRecDepth 100000 in
theorem q_X11_gain_36 {X : vX} {G : vG}  {post : Bool → vSt → Prop} (C : v_Cx X G cX11_gain RX11 3 (v_rm 5 154)) (D : v_Rx X G (v_Qz G post) (some .boolean))  {a1 : Int32} {a2 : Int32}   : ∀ (S : vSt), p_X11_gain_36 a1 a2 post S  → VJ X G S 36 [(0, .ref (G.1 143)), (1, .int a1), (2, .int a2)] [] := by
  intro S  h
  refine V_aload_n C 0 dX11_gain_36 rfl rfl ?_
  refine V_gi C 143 (by decide) (by decide) F_11_0 k_RX11_63 dX11_gain_37 ?_
  refine V_if_ne (tgt := 64) C dX11_gain_40 (by decide) (fun c => ?_) (fun c => ?_)
  · have h := h.1 c
    refine V_iconst (v := 0) C dX11_gain_64 (by decide) ?_
    exact V_zret0 C D dX11_gain_65 h
  · have h := h.2 c
    refine V_aload_n C 0 dX11_gain_43 rfl rfl ?_
    refine V_aload_n C 0 dX11_gain_44 rfl rfl ?_
    refine V_iload_n C 1 dX11_gain_45 rfl rfl ?_
    refine V_iload_n C 2 dX11_gain_46 rfl rfl ?_
    refine V_callVl (As := [.int a1, .int a2]) (rest := [.ref (G.1 143)]) C (c_X11_gainOf (v_l X) G  _ _ _ h) 143 11 (by decide) (by decide) (by decide) rfl KV_X11_gainOf k_RX11_395 rfl rfl rfl (Nat.le_of_ble_eq_true rfl) ⟨Nat.le_of_ble_eq_true rfl, Nat.le_of_ble_eq_true rfl⟩ dX11_gain_47 (fun r19 S18 h => ?_)
    refine V_aload_n C 0 dX11_gain_50 rfl rfl ?_
    refine V_callVl (As := []) (rest := [.long r19, .ref (G.1 143)]) C (c_X11_allVotes (v_l X) G  _ h) 143 11 (by decide) (by decide) (by decide) rfl KV_X11_allVotes k_RX11_384 rfl rfl rfl (Nat.le_of_ble_eq_true rfl) ⟨Nat.le_of_ble_eq_true rfl, Nat.le_of_ble_eq_true rfl⟩ dX11_gain_51 (fun r21 S20 h => ?_)
    refine V_callVz (As := [.long r19, .long r21]) (rest := []) C (c_X11_fraction (v_l X) G  _ _ _ h) 143 11 (by decide) (by decide) (by decide) rfl KV_X11_fraction k_RX11_388 rfl rfl rfl (Nat.le_of_ble_eq_true rfl) ⟨Nat.le_of_ble_eq_true rfl, Nat.le_of_ble_eq_true rfl⟩ dX11_gain_54 (fun r23 S22 h => ?_)
    refine V_ifb_eq (tgt := 64) C dX11_gain_57 (by decide) (fun c => ?_) (fun c => ?_)
    · have h := h.1 c
      refine V_iconst (v := 0) C dX11_gain_64 (by decide) ?_
      exact V_zret0 C D dX11_gain_65 h
    · have h := h.2 c
      refine V_iconst (v := 1) C dX11_gain_60 (by decide) ?_
      refine V_goto (tgt := 65) C dX11_gain_61 (by decide) ?_
      exact V_zret1 C D dX11_gain_65 h
set_option maxHeartbeats 4000000 in
set_option maxRecDepth 100000 in
theorem c_X11_gain (l : Launch) (G : vG)    {S : vSt} (a1 : Int32) (a2 : Int32) (post : Bool → vSt → Prop) (h : p_X11_gain   S a1 a2 post) : Met l yX11_gain (v_ws yX11_gain cX11_gain 3 (some .boolean)) (v_rm 5 154) (v_Pc G [.ref (G.1 143), .int a1, .int a2] S) (v_Qz G post) 0 0 (v_A G) := by
  refine v_start (by decide +kernel) (Nat.le_of_ble_eq_true rfl) (fun X hl C D => ?_)
  subst hl
  have C : v_Cx X G cX11_gain RX11 3 (v_rm 5 154) := C
  show VJ X G S 0 [(0, .ref (G.1 143)), (1, .int a1), (2, .int a2)] []
  refine V_aload_n C 0 dX11_gain_0 rfl rfl ?_
  refine V_iconst (v := 0) C dX11_gain_1 (by decide) ?_
  refine V_pi C 143 (by decide) (by decide) P_11_1 k_RX11_60 dX11_gain_2 ?_
  refine V_topS (fun S14 eS14 => ?_)
  have h := h S14 eS14
  refine V_aload_n C 0 dX11_gain_5 rfl rfl ?_
  refine V_aload_n C 0 dX11_gain_6 rfl rfl ?_
  refine V_iload_n C 1 dX11_gain_7 rfl rfl ?_
  refine V_iload_n C 2 dX11_gain_8 rfl rfl ?_
  refine V_callVi (As := [.int a1, .int a2]) (rest := [.ref (G.1 143)]) C (c_X11_whyNot (v_l X) G  _ _ _ h) 143 11 (by decide) (by decide) (by decide) rfl KV_X11_whyNot k_RX11_392 rfl rfl rfl (Nat.le_of_ble_eq_true rfl) ⟨Nat.le_of_ble_eq_true rfl, Nat.le_of_ble_eq_true rfl⟩ dX11_gain_9 (fun r16 S15 h => ?_)
  refine V_pi C 143 (by decide) (by decide) P_11_0 k_RX11_63 dX11_gain_12 ?_
  refine V_topS (fun S17 eS17 => ?_)
  have h := h S17 eS17
  refine V_aload_n C 0 dX11_gain_15 rfl rfl ?_
  refine V_gi C 143 (by decide) (by decide) F_11_0 k_RX11_63 dX11_gain_16 ?_
  refine V_if_ne (tgt := 36) C dX11_gain_19 (by decide) (fun c => ?_) (fun c => ?_)
  · have h := h.1 c
    exact q_X11_gain_36 C D  _ h
  · have h := h.2 c
    refine V_aload_n C 0 dX11_gain_22 rfl rfl ?_
    refine V_iload_n C 1 dX11_gain_23 rfl rfl ?_
    refine V_callVz (As := [.int a1]) (rest := []) C (c_X11_isRuined (v_l X) G  _ _ h) 143 11 (by decide) (by decide) (by decide) rfl KV_X11_isRuined k_RX11_298 rfl rfl rfl (Nat.le_of_ble_eq_true rfl) ⟨Nat.le_of_ble_eq_true rfl, Nat.le_of_ble_eq_true rfl⟩ dX11_gain_24 (fun r19 S18 h => ?_)
    refine V_ifb_eq (tgt := 36) C dX11_gain_27 (by decide) (fun c => ?_) (fun c => ?_)
    · have h := h.1 c
      exact q_X11_gain_36 C D  _ h
    · have h := h.2 c
      refine V_aload_n C 0 dX11_gain_30 rfl rfl ?_
      refine V_bipush (v := 9) C dX11_gain_31 (by decide) ?_
      refine V_pi C 143 (by decide) (by decide) P_11_0 k_RX11_63 dX11_gain_33 ?_
      refine V_topS (fun S20 eS20 => ?_)
      have h := h S20 eS20
      exact q_X11_gain_36 C D  _ h
/-! HalfAccuserModel.loss(II)Z -/
theorem dX11_loss_0 : decode cX11_loss 0 = .ok ((.aload_n 0), 1) := by decide +kernel
theorem dX11_loss_1 : decode cX11_loss 1 = .ok ((.iconst 0), 1) := by decide +kernel
theorem dX11_loss_2 : decode cX11_loss 2 = .ok ((.putfield 60), 3) := by decide +kernel
theorem dX11_loss_5 : decode cX11_loss 5 = .ok ((.aload_n 0), 1) := by decide +kernel
theorem dX11_loss_6 : decode cX11_loss 6 = .ok ((.aload_n 0), 1) := by decide +kernel
theorem dX11_loss_7 : decode cX11_loss 7 = .ok ((.iload_n 1), 1) := by decide +kernel
theorem dX11_loss_8 : decode cX11_loss 8 = .ok ((.iload_n 2), 1) := by decide +kernel
theorem dX11_loss_9 : decode cX11_loss 9 = .ok ((.invokevirtual 392), 3) := by decide +kernel
theorem dX11_loss_12 : decode cX11_loss 12 = .ok ((.putfield 63), 3) := by decide +kernel
theorem dX11_loss_15 : decode cX11_loss 15 = .ok ((.aload_n 0), 1) := by decide +kernel
theorem dX11_loss_16 : decode cX11_loss 16 = .ok ((.getfield 63), 3) := by decide +kernel
theorem dX11_loss_19 : decode cX11_loss 19 = .ok ((.ifCond .ne 17), 3) := by decide +kernel
theorem dX11_loss_22 : decode cX11_loss 22 = .ok ((.aload_n 0), 1) := by decide +kernel
theorem dX11_loss_23 : decode cX11_loss 23 = .ok ((.iload_n 1), 1) := by decide +kernel
theorem dX11_loss_24 : decode cX11_loss 24 = .ok ((.invokevirtual 298), 3) := by decide +kernel
theorem dX11_loss_27 : decode cX11_loss 27 = .ok ((.ifCond .eq 9), 3) := by decide +kernel
theorem dX11_loss_30 : decode cX11_loss 30 = .ok ((.aload_n 0), 1) := by decide +kernel
theorem dX11_loss_31 : decode cX11_loss 31 = .ok ((.bipush 9), 2) := by decide +kernel
theorem dX11_loss_33 : decode cX11_loss 33 = .ok ((.putfield 63), 3) := by decide +kernel
theorem dX11_loss_36 : decode cX11_loss 36 = .ok ((.aload_n 0), 1) := by decide +kernel
theorem dX11_loss_37 : decode cX11_loss 37 = .ok ((.getfield 63), 3) := by decide +kernel
theorem dX11_loss_40 : decode cX11_loss 40 = .ok ((.ifCond .ne 24), 3) := by decide +kernel
theorem dX11_loss_43 : decode cX11_loss 43 = .ok ((.aload_n 0), 1) := by decide +kernel
theorem dX11_loss_44 : decode cX11_loss 44 = .ok ((.aload_n 0), 1) := by decide +kernel
theorem dX11_loss_45 : decode cX11_loss 45 = .ok ((.iload_n 1), 1) := by decide +kernel
theorem dX11_loss_46 : decode cX11_loss 46 = .ok ((.iload_n 2), 1) := by decide +kernel
theorem dX11_loss_47 : decode cX11_loss 47 = .ok ((.invokevirtual 398), 3) := by decide +kernel
theorem dX11_loss_50 : decode cX11_loss 50 = .ok ((.aload_n 0), 1) := by decide +kernel
theorem dX11_loss_51 : decode cX11_loss 51 = .ok ((.invokevirtual 384), 3) := by decide +kernel
theorem dX11_loss_54 : decode cX11_loss 54 = .ok ((.invokevirtual 388), 3) := by decide +kernel
theorem dX11_loss_57 : decode cX11_loss 57 = .ok ((.ifCond .eq 7), 3) := by decide +kernel
theorem dX11_loss_60 : decode cX11_loss 60 = .ok ((.iconst 1), 1) := by decide +kernel
theorem dX11_loss_61 : decode cX11_loss 61 = .ok ((.goto 4), 3) := by decide +kernel
theorem dX11_loss_64 : decode cX11_loss 64 = .ok ((.iconst 0), 1) := by decide +kernel
theorem dX11_loss_65 : decode cX11_loss 65 = .ok (.ireturn, 1) := by decide +kernel
def p_X11_loss_36  (a1 : Int32) (a2 : Int32)   (post : Bool → vSt → Prop) (S : vSt)  : Prop := ((¬ (S.1 143 0) = 0 → post false S) ∧ ((S.1 143 0) = 0 → p_X11_lossOf  S a1 a2 (fun r19 S18 => p_X11_allVotes  S18  (fun r21 S20 => p_X11_fraction  S20 r19 r21 (fun r23 S22 => ((r23 = false → post false S22) ∧ (r23 = true → post true S22)))))))
def p_X11_loss   (S : vSt) (a1 : Int32) (a2 : Int32) (post : Bool → vSt → Prop) : Prop := ∀ S14, S14 = v_si S 143 1 0 → p_X11_whyNot  S14 a1 a2 (fun r16 S15 => ∀ S17, S17 = v_si S15 143 0 r16 → ((¬ (S17.1 143 0) = 0 → p_X11_loss_36 a1 a2 post S17 ) ∧ ((S17.1 143 0) = 0 → p_X11_isRuined  S17 a1 (fun r19 S18 => ((r19 = false → p_X11_loss_36 a1 a2 post S18 ) ∧ (r19 = true → ∀ S20, S20 = v_si S18 143 0 9 → p_X11_loss_36 a1 a2 post S20 ))))))
set_option maxHeartbeats 4000000 in
set_option maxRecDepth 100000 in
theorem q_X11_loss_36 {X : vX} {G : vG}  {post : Bool → vSt → Prop} (C : v_Cx X G cX11_loss RX11 3 (v_rm 5 154)) (D : v_Rx X G (v_Qz G post) (some .boolean))  {a1 : Int32} {a2 : Int32}   : ∀ (S : vSt), p_X11_loss_36 a1 a2 post S  → VJ X G S 36 [(0, .ref (G.1 143)), (1, .int a1), (2, .int a2)] [] := by
  intro S  h
  refine V_aload_n C 0 dX11_loss_36 rfl rfl ?_
  refine V_gi C 143 (by decide) (by decide) F_11_0 k_RX11_63 dX11_loss_37 ?_
  refine V_if_ne (tgt := 64) C dX11_loss_40 (by decide) (fun c => ?_) (fun c => ?_)
  · have h := h.1 c
    refine V_iconst (v := 0) C dX11_loss_64 (by decide) ?_
    exact V_zret0 C D dX11_loss_65 h
  · have h := h.2 c
    refine V_aload_n C 0 dX11_loss_43 rfl rfl ?_
    refine V_aload_n C 0 dX11_loss_44 rfl rfl ?_
    refine V_iload_n C 1 dX11_loss_45 rfl rfl ?_
    refine V_iload_n C 2 dX11_loss_46 rfl rfl ?_
    refine V_callVl (As := [.int a1, .int a2]) (rest := [.ref (G.1 143)]) C (c_X11_lossOf (v_l X) G  _ _ _ h) 143 11 (by decide) (by decide) (by decide) rfl KV_X11_lossOf k_RX11_398 rfl rfl rfl (Nat.le_of_ble_eq_true rfl) ⟨Nat.le_of_ble_eq_true rfl, Nat.le_of_ble_eq_true rfl⟩ dX11_loss_47 (fun r19 S18 h => ?_)
    refine V_aload_n C 0 dX11_loss_50 rfl rfl ?_
    refine V_callVl (As := []) (rest := [.long r19, .ref (G.1 143)]) C (c_X11_allVotes (v_l X) G  _ h) 143 11 (by decide) (by decide) (by decide) rfl KV_X11_allVotes k_RX11_384 rfl rfl rfl (Nat.le_of_ble_eq_true rfl) ⟨Nat.le_of_ble_eq_true rfl, Nat.le_of_ble_eq_true rfl⟩ dX11_loss_51 (fun r21 S20 h => ?_)
    refine V_callVz (As := [.long r19, .long r21]) (rest := []) C (c_X11_fraction (v_l X) G  _ _ _ h) 143 11 (by decide) (by decide) (by decide) rfl KV_X11_fraction k_RX11_388 rfl rfl rfl (Nat.le_of_ble_eq_true rfl) ⟨Nat.le_of_ble_eq_true rfl, Nat.le_of_ble_eq_true rfl⟩ dX11_loss_54 (fun r23 S22 h => ?_)
    refine V_ifb_eq (tgt := 64) C dX11_loss_57 (by decide) (fun c => ?_) (fun c => ?_)
    · have h := h.1 c
      refine V_iconst (v := 0) C dX11_loss_64 (by decide) ?_
      exact V_zret0 C D dX11_loss_65 h
    · have h := h.2 c
      refine V_iconst (v := 1) C dX11_loss_60 (by decide) ?_
      refine V_goto (tgt := 65) C dX11_loss_61 (by decide) ?_
      exact V_zret1 C D dX11_loss_65 h
set_option maxHeartbeats 4000000 in
set_option maxRecDepth 100000 in
theorem c_X11_loss (l : Launch) (G : vG)    {S : vSt} (a1 : Int32) (a2 : Int32) (post : Bool → vSt → Prop) (h : p_X11_loss   S a1 a2 post) : Met l yX11_loss (v_ws yX11_loss cX11_loss 3 (some .boolean)) (v_rm 5 154) (v_Pc G [.ref (G.1 143), .int a1, .int a2] S) (v_Qz G post) 0 0 (v_A G) := by
  refine v_start (by decide +kernel) (Nat.le_of_ble_eq_true rfl) (fun X hl C D => ?_)
  subst hl
  have C : v_Cx X G cX11_loss RX11 3 (v_rm 5 154) := C
  show VJ X G S 0 [(0, .ref (G.1 143)), (1, .int a1), (2, .int a2)] []
  refine V_aload_n C 0 dX11_loss_0 rfl rfl ?_
  refine V_iconst (v := 0) C dX11_loss_1 (by decide) ?_
  refine V_pi C 143 (by decide) (by decide) P_11_1 k_RX11_60 dX11_loss_2 ?_
  refine V_topS (fun S14 eS14 => ?_)
  have h := h S14 eS14
  refine V_aload_n C 0 dX11_loss_5 rfl rfl ?_
  refine V_aload_n C 0 dX11_loss_6 rfl rfl ?_
  refine V_iload_n C 1 dX11_loss_7 rfl rfl ?_
  refine V_iload_n C 2 dX11_loss_8 rfl rfl ?_
  refine V_callVi (As := [.int a1, .int a2]) (rest := [.ref (G.1 143)]) C (c_X11_whyNot (v_l X) G  _ _ _ h) 143 11 (by decide) (by decide) (by decide) rfl KV_X11_whyNot k_RX11_392 rfl rfl rfl (Nat.le_of_ble_eq_true rfl) ⟨Nat.le_of_ble_eq_true rfl, Nat.le_of_ble_eq_true rfl⟩ dX11_loss_9 (fun r16 S15 h => ?_)
  refine V_pi C 143 (by decide) (by decide) P_11_0 k_RX11_63 dX11_loss_12 ?_
  refine V_topS (fun S17 eS17 => ?_)
  have h := h S17 eS17
  refine V_aload_n C 0 dX11_loss_15 rfl rfl ?_
  refine V_gi C 143 (by decide) (by decide) F_11_0 k_RX11_63 dX11_loss_16 ?_
  refine V_if_ne (tgt := 36) C dX11_loss_19 (by decide) (fun c => ?_) (fun c => ?_)
  · have h := h.1 c
    exact q_X11_loss_36 C D  _ h
  · have h := h.2 c
    refine V_aload_n C 0 dX11_loss_22 rfl rfl ?_
    refine V_iload_n C 1 dX11_loss_23 rfl rfl ?_
    refine V_callVz (As := [.int a1]) (rest := []) C (c_X11_isRuined (v_l X) G  _ _ h) 143 11 (by decide) (by decide) (by decide) rfl KV_X11_isRuined k_RX11_298 rfl rfl rfl (Nat.le_of_ble_eq_true rfl) ⟨Nat.le_of_ble_eq_true rfl, Nat.le_of_ble_eq_true rfl⟩ dX11_loss_24 (fun r19 S18 h => ?_)
    refine V_ifb_eq (tgt := 36) C dX11_loss_27 (by decide) (fun c => ?_) (fun c => ?_)
    · have h := h.1 c
      exact q_X11_loss_36 C D  _ h
    · have h := h.2 c
      refine V_aload_n C 0 dX11_loss_30 rfl rfl ?_
      refine V_bipush (v := 9) C dX11_loss_31 (by decide) ?_
      refine V_pi C 143 (by decide) (by decide) P_11_0 k_RX11_63 dX11_loss_33 ?_
      refine V_topS (fun S20 eS20 => ?_)
      have h := h S20 eS20
      exact q_X11_loss_36 C D  _ h
/-! HalfAccuserModel.best(I)I -/
theorem dX11_best_0 : decode cX11_best 0 = .ok ((.aload_n 0), 1) := by decide +kernel
theorem dX11_best_1 : decode cX11_best 1 = .ok ((.iconst 0), 1) := by decide +kernel
theorem dX11_best_2 : decode cX11_best 2 = .ok ((.putfield 60), 3) := by decide +kernel
theorem dX11_best_5 : decode cX11_best 5 = .ok ((.aload_n 0), 1) := by decide +kernel
theorem dX11_best_6 : decode cX11_best 6 = .ok ((.iconst 0), 1) := by decide +kernel
theorem dX11_best_7 : decode cX11_best 7 = .ok ((.putfield 63), 3) := by decide +kernel
theorem dX11_best_10 : decode cX11_best 10 = .ok ((.aload_n 0), 1) := by decide +kernel
theorem dX11_best_11 : decode cX11_best 11 = .ok ((.iload_n 1), 1) := by decide +kernel
theorem dX11_best_12 : decode cX11_best 12 = .ok ((.invokevirtual 289), 3) := by decide +kernel
theorem dX11_best_15 : decode cX11_best 15 = .ok ((.ifCond .ne 9), 3) := by decide +kernel
theorem dX11_best_18 : decode cX11_best 18 = .ok ((.aload_n 0), 1) := by decide +kernel
theorem dX11_best_19 : decode cX11_best 19 = .ok ((.iconst 2), 1) := by decide +kernel
theorem dX11_best_20 : decode cX11_best 20 = .ok ((.invokevirtual 303), 3) := by decide +kernel
theorem dX11_best_23 : decode cX11_best 23 = .ok (.ireturn, 1) := by decide +kernel
theorem dX11_best_24 : decode cX11_best 24 = .ok ((.iconst (-1)), 1) := by decide +kernel
theorem dX11_best_25 : decode cX11_best 25 = .ok ((.istore_n 2), 1) := by decide +kernel
theorem dX11_best_26 : decode cX11_best 26 = .ok ((.lconst 0), 1) := by decide +kernel
theorem dX11_best_27 : decode cX11_best 27 = .ok ((.lstore_n 3), 1) := by decide +kernel
theorem dX11_best_28 : decode cX11_best 28 = .ok ((.iconst 0), 1) := by decide +kernel
theorem dX11_best_29 : decode cX11_best 29 = .ok ((.istore 5), 2) := by decide +kernel
theorem dX11_best_31 : decode cX11_best 31 = .ok ((.iload 5), 2) := by decide +kernel
theorem dX11_best_33 : decode cX11_best 33 = .ok ((.aload_n 0), 1) := by decide +kernel
theorem dX11_best_34 : decode cX11_best 34 = .ok ((.getfield 35), 3) := by decide +kernel
theorem dX11_best_37 : decode cX11_best 37 = .ok ((.iconst 1), 1) := by decide +kernel
theorem dX11_best_38 : decode cX11_best 38 = .ok (.iaload, 1) := by decide +kernel
theorem dX11_best_39 : decode cX11_best 39 = .ok ((.if_icmp .ge 48), 3) := by decide +kernel
theorem dX11_best_42 : decode cX11_best 42 = .ok ((.aload_n 0), 1) := by decide +kernel
theorem dX11_best_43 : decode cX11_best 43 = .ok ((.iload_n 1), 1) := by decide +kernel
theorem dX11_best_44 : decode cX11_best 44 = .ok ((.iload 5), 2) := by decide +kernel
theorem dX11_best_46 : decode cX11_best 46 = .ok ((.invokevirtual 338), 3) := by decide +kernel
theorem dX11_best_49 : decode cX11_best 49 = .ok ((.ifCond .eq 13), 3) := by decide +kernel
theorem dX11_best_52 : decode cX11_best 52 = .ok ((.aload_n 0), 1) := by decide +kernel
theorem dX11_best_53 : decode cX11_best 53 = .ok ((.iload_n 1), 1) := by decide +kernel
theorem dX11_best_54 : decode cX11_best 54 = .ok ((.iload 5), 2) := by decide +kernel
theorem dX11_best_56 : decode cX11_best 56 = .ok ((.invokevirtual 395), 3) := by decide +kernel
theorem dX11_best_59 : decode cX11_best 59 = .ok ((.goto 4), 3) := by decide +kernel
theorem dX11_best_62 : decode cX11_best 62 = .ok ((.lconst 0), 1) := by decide +kernel
theorem dX11_best_63 : decode cX11_best 63 = .ok ((.lstore 6), 2) := by decide +kernel
theorem dX11_best_65 : decode cX11_best 65 = .ok ((.lload 6), 2) := by decide +kernel
theorem dX11_best_67 : decode cX11_best 67 = .ok ((.lload_n 3), 1) := by decide +kernel
theorem dX11_best_68 : decode cX11_best 68 = .ok (.lcmp, 1) := by decide +kernel
theorem dX11_best_69 : decode cX11_best 69 = .ok ((.ifCond .gt 6), 3) := by decide +kernel
theorem dX11_best_72 : decode cX11_best 72 = .ok ((.goto 9), 3) := by decide +kernel
theorem dX11_best_75 : decode cX11_best 75 = .ok ((.lload 6), 2) := by decide +kernel
theorem dX11_best_77 : decode cX11_best 77 = .ok ((.lstore_n 3), 1) := by decide +kernel
theorem dX11_best_78 : decode cX11_best 78 = .ok ((.iload 5), 2) := by decide +kernel
theorem dX11_best_80 : decode cX11_best 80 = .ok ((.istore_n 2), 1) := by decide +kernel
theorem dX11_best_81 : decode cX11_best 81 = .ok ((.iinc 5 1), 3) := by decide +kernel
theorem dX11_best_84 : decode cX11_best 84 = .ok ((.goto (-53)), 3) := by decide +kernel
theorem dX11_best_87 : decode cX11_best 87 = .ok ((.iload_n 2), 1) := by decide +kernel
theorem dX11_best_88 : decode cX11_best 88 = .ok ((.ifCond .ge 12), 3) := by decide +kernel
theorem dX11_best_91 : decode cX11_best 91 = .ok ((.aload_n 0), 1) := by decide +kernel
theorem dX11_best_92 : decode cX11_best 92 = .ok ((.bipush 8), 2) := by decide +kernel
theorem dX11_best_94 : decode cX11_best 94 = .ok ((.invokevirtual 303), 3) := by decide +kernel
theorem dX11_best_97 : decode cX11_best 97 = .ok ((.goto 4), 3) := by decide +kernel
theorem dX11_best_100 : decode cX11_best 100 = .ok ((.iload_n 2), 1) := by decide +kernel
theorem dX11_best_101 : decode cX11_best 101 = .ok (.ireturn, 1) := by decide +kernel
def p_X11_best_81  (a1 : Int32)  (K31 : vSt → Int32 → Int64 → Int32 → Prop) (post : Int32 → vSt → Prop) (S : vSt) (x2 : Int32) (x3 : Int64) (x5 : Int32) : Prop := ∀ y29 : Int32, y29 = x5 + 1 → K31 S x2 x3 y29
def p_X11_best_63  (a1 : Int32)  (K31 : vSt → Int32 → Int64 → Int32 → Prop) (post : Int32 → vSt → Prop) (S : vSt) (x2 : Int32) (x3 : Int64) (x5 : Int32) (s0 : Int64) : Prop := ((x3 < s0 → p_X11_best_81 a1 K31 post S x5 s0 x5) ∧ (¬ x3 < s0 → p_X11_best_81 a1 K31 post S x2 x3 x5))
def p_X11_best_31  (a1 : Int32)   (post : Int32 → vSt → Prop) : Nat → vSt → Int32 → Int64 → Int32 → Prop
  | 0 => fun _ _ _ _ => False
  | fu31 + 1 => fun S x2 x3 x5 => (vp_in 1 1900 ∧ (((S.1 148 (Int32.toNatClampNeg 1)) ≤ x5 → ((0 ≤ x2 → post x2 S) ∧ (¬ 0 ≤ x2 → p_X11_refuse  S 8 (fun r26 S25 => post r26 S25)))) ∧ (¬ (S.1 148 (Int32.toNatClampNeg 1)) ≤ x5 → p_X11_canCharge  S a1 x5 (fun r28 S27 => ((r28 = false → p_X11_best_63 a1 (p_X11_best_31 a1 post fu31) post S27 x2 x3 x5 0) ∧ (r28 = true → p_X11_gainOf  S27 a1 x5 (fun r30 S29 => p_X11_best_63 a1 (p_X11_best_31 a1 post fu31) post S29 x2 x3 x5 r30)))))))
theorem e_X11_best_31  (a1 : Int32)   (post : Int32 → vSt → Prop) (fu31 : Nat) (S : vSt) (x2 : Int32) (x3 : Int64) (x5 : Int32) : p_X11_best_31 a1 post (fu31 + 1) S x2 x3 x5 = ((vp_in 1 1900 ∧ (((S.1 148 (Int32.toNatClampNeg 1)) ≤ x5 → ((0 ≤ x2 → post x2 S) ∧ (¬ 0 ≤ x2 → p_X11_refuse  S 8 (fun r26 S25 => post r26 S25)))) ∧ (¬ (S.1 148 (Int32.toNatClampNeg 1)) ≤ x5 → p_X11_canCharge  S a1 x5 (fun r28 S27 => ((r28 = false → p_X11_best_63 a1 (p_X11_best_31 a1 post fu31) post S27 x2 x3 x5 0) ∧ (r28 = true → p_X11_gainOf  S27 a1 x5 (fun r30 S29 => p_X11_best_63 a1 (p_X11_best_31 a1 post fu31) post S29 x2 x3 x5 r30)))))))) := rfl
def p_X11_best   (S : vSt) (a1 : Int32) (post : Int32 → vSt → Prop) : Prop := ∀ S21, S21 = v_si S 143 1 0 → ∀ S22, S22 = v_si S21 143 0 0 → p_X11_isOne  S22 a1 (fun r24 S23 => ((r24 = true → ∃ fu31, p_X11_best_31 a1 post fu31 S23 (-1) 0 0) ∧ (r24 = false → p_X11_refuse  S23 2 (fun r26 S25 => post r26 S25))))
set_option maxHeartbeats 4000000 in
set_option maxRecDepth 100000 in
theorem q_X11_best_81 {X : vX} {G : vG}  {post : Int32 → vSt → Prop} (C : v_Cx X G cX11_best RX11 8 (v_rm 5 154)) (D : v_Rx X G (v_Qi G post) (some .int))  {a1 : Int32}  {K31 : vSt → Int32 → Int64 → Int32 → Prop} (hK31 : ∀ S x2 x3 x5, K31 S x2 x3 x5 → VJ X G S 31 [(0, .ref (G.1 143)), (1, .int a1), (2, .int x2), (3, .long x3), (5, .int x5)] []) : ∀ (S : vSt) (x2 : Int32) (x3 : Int64) (x5 : Int32), p_X11_best_81 a1 K31 post S x2 x3 x5 → VJ X G S 81 [(0, .ref (G.1 143)), (1, .int a1), (2, .int x2), (3, .long x3), (5, .int x5)] [] := by
  intro S x2 x3 x5 h
  obtain ⟨y29, ey29⟩ : ∃ z : Int32, z = x5 + 1 := ⟨_, rfl⟩
  have h := h y29 ey29
  refine V_iinc (lv' := [(0, .ref (G.1 143)), (1, .int a1), (2, .int x2), (3, .long x3), (5, .int y29)]) C 4 [1, 2, 3, 4, 0] y29 dX11_best_81 rfl (by rw [ey29]; rfl) (by decide) rfl ?_
  refine V_goto (tgt := 31) C dX11_best_84 (by decide) ?_
  exact hK31 _ _ _ _ h
set_option maxHeartbeats 4000000 in
set_option maxRecDepth 100000 in
theorem q_X11_best_63 {X : vX} {G : vG}  {post : Int32 → vSt → Prop} (C : v_Cx X G cX11_best RX11 8 (v_rm 5 154)) (D : v_Rx X G (v_Qi G post) (some .int))  {a1 : Int32}  {K31 : vSt → Int32 → Int64 → Int32 → Prop} (hK31 : ∀ S x2 x3 x5, K31 S x2 x3 x5 → VJ X G S 31 [(0, .ref (G.1 143)), (1, .int a1), (2, .int x2), (3, .long x3), (5, .int x5)] []) : ∀ (S : vSt) (x2 : Int32) (x3 : Int64) (x5 : Int32) (s0 : Int64), p_X11_best_63 a1 K31 post S x2 x3 x5 s0 → VJ X G S 63 [(0, .ref (G.1 143)), (1, .int a1), (2, .int x2), (3, .long x3), (5, .int x5)] [.long s0] := by
  intro S x2 x3 x5 s0 h
  refine V_lstore (lv' := [(0, .ref (G.1 143)), (1, .int a1), (2, .int x2), (3, .long x3), (5, .int x5), (6, .long s0)]) C [1, 2, 3, 4, 5, 0] dX11_best_63 (by decide) rfl ?_
  refine V_lload C 5 dX11_best_65 rfl ?_
  refine V_lload_n C 3 dX11_best_67 rfl rfl ?_
  refine V_lcmp_gt (tgt := 75) C dX11_best_68 dX11_best_69 (by decide) (fun c => ?_) (fun c => ?_)
  · have h := h.1 c
    refine V_lload C 5 dX11_best_75 rfl ?_
    refine V_lstore_n (lv' := [(0, .ref (G.1 143)), (1, .int a1), (2, .int x2), (3, .long s0), (5, .int x5), (6, .long s0)]) C [1, 2, 3, 0, 4, 5] dX11_best_77 rfl (by decide) rfl ?_
    refine V_iload C 4 dX11_best_78 rfl ?_
    refine V_istore_n (lv' := [(0, .ref (G.1 143)), (1, .int a1), (2, .int x5), (3, .long s0), (5, .int x5), (6, .long s0)]) C [1, 2, 0, 3, 4, 5] dX11_best_80 rfl (by decide) rfl ?_
    refine V_loc (lv' := [(0, .ref (G.1 143)), (1, .int a1), (2, .int x5), (3, .long s0), (5, .int x5)]) [0, 1, 2, 3, 4] rfl ?_
    exact q_X11_best_81 C D hK31 _ _ _ _ h
  · have h := h.2 c
    refine V_goto (tgt := 81) C dX11_best_72 (by decide) ?_
    refine V_loc (lv' := [(0, .ref (G.1 143)), (1, .int a1), (2, .int x2), (3, .long x3), (5, .int x5)]) [0, 1, 2, 3, 4] rfl ?_
    exact q_X11_best_81 C D hK31 _ _ _ _ h
set_option maxHeartbeats 4000000 in
set_option maxRecDepth 100000 in
theorem q_X11_best_31 {X : vX} {G : vG}  {post : Int32 → vSt → Prop} (C : v_Cx X G cX11_best RX11 8 (v_rm 5 154)) (D : v_Rx X G (v_Qi G post) (some .int))  {a1 : Int32}   : ∀ (fu : Nat) (S : vSt) (x2 : Int32) (x3 : Int64) (x5 : Int32), p_X11_best_31 a1 post fu S x2 x3 x5 → VJ X G S 31 [(0, .ref (G.1 143)), (1, .int a1), (2, .int x2), (3, .long x3), (5, .int x5)] [] := by
  intro fu
  induction fu with
  | zero => intro S x2 x3 x5 h; exact absurd h id
  | succ fu ih =>
    intro S x2 x3 x5 h
    have hK31 := ih
    rw [e_X11_best_31] at h
    refine V_iload C 4 dX11_best_31 rfl ?_
    refine V_aload_n C 0 dX11_best_33 rfl rfl ?_
    refine V_ga C 143 (by decide) (by decide) F_11_20 k_RX11_35 dX11_best_34 ?_
    refine V_iconst (v := 1) C dX11_best_37 (by decide) ?_
    obtain ⟨hi, h⟩ := h
    refine V_iald C 148 1900 (by decide) (by decide) hi dX11_best_38 ?_
    refine V_icmp_ge (tgt := 87) C dX11_best_39 (by decide) (fun c => ?_) (fun c => ?_)
    · have h := h.1 c
      refine V_iload_n C 2 dX11_best_87 rfl rfl ?_
      refine V_if_ge (tgt := 100) C dX11_best_88 (by decide) (fun c => ?_) (fun c => ?_)
      · have h := h.1 c
        refine V_iload_n C 2 dX11_best_100 rfl rfl ?_
        exact V_iret C D dX11_best_101 h
      · have h := h.2 c
        refine V_aload_n C 0 dX11_best_91 rfl rfl ?_
        refine V_bipush (v := 8) C dX11_best_92 (by decide) ?_
        refine V_callVi (As := [.int 8]) (rest := []) C (c_X11_refuse (v_l X) G  _ _ h) 143 11 (by decide) (by decide) (by decide) rfl KV_X11_refuse k_RX11_303 rfl rfl rfl (Nat.le_of_ble_eq_true rfl) ⟨Nat.le_of_ble_eq_true rfl, Nat.le_of_ble_eq_true rfl⟩ dX11_best_94 (fun r26 S25 h => ?_)
        refine V_goto (tgt := 101) C dX11_best_97 (by decide) ?_
        exact V_iret C D dX11_best_101 h
    · have h := h.2 c
      refine V_aload_n C 0 dX11_best_42 rfl rfl ?_
      refine V_iload_n C 1 dX11_best_43 rfl rfl ?_
      refine V_iload C 4 dX11_best_44 rfl ?_
      refine V_callVz (As := [.int a1, .int x5]) (rest := []) C (c_X11_canCharge (v_l X) G  _ _ _ h) 143 11 (by decide) (by decide) (by decide) rfl KV_X11_canCharge k_RX11_338 rfl rfl rfl (Nat.le_of_ble_eq_true rfl) ⟨Nat.le_of_ble_eq_true rfl, Nat.le_of_ble_eq_true rfl⟩ dX11_best_46 (fun r28 S27 h => ?_)
      refine V_ifb_eq (tgt := 62) C dX11_best_49 (by decide) (fun c => ?_) (fun c => ?_)
      · have h := h.1 c
        refine V_lconst (v := 0) C dX11_best_62 (by decide) ?_
        exact q_X11_best_63 C D hK31 _ _ _ _ _ h
      · have h := h.2 c
        refine V_aload_n C 0 dX11_best_52 rfl rfl ?_
        refine V_iload_n C 1 dX11_best_53 rfl rfl ?_
        refine V_iload C 4 dX11_best_54 rfl ?_
        refine V_callVl (As := [.int a1, .int x5]) (rest := []) C (c_X11_gainOf (v_l X) G  _ _ _ h) 143 11 (by decide) (by decide) (by decide) rfl KV_X11_gainOf k_RX11_395 rfl rfl rfl (Nat.le_of_ble_eq_true rfl) ⟨Nat.le_of_ble_eq_true rfl, Nat.le_of_ble_eq_true rfl⟩ dX11_best_56 (fun r30 S29 h => ?_)
        refine V_goto (tgt := 63) C dX11_best_59 (by decide) ?_
        exact q_X11_best_63 C D hK31 _ _ _ _ _ h
set_option maxHeartbeats 4000000 in
set_option maxRecDepth 100000 in
theorem c_X11_best (l : Launch) (G : vG)    {S : vSt} (a1 : Int32) (post : Int32 → vSt → Prop) (h : p_X11_best   S a1 post) : Met l yX11_best (v_ws yX11_best cX11_best 8 (some .int)) (v_rm 5 154) (v_Pc G [.ref (G.1 143), .int a1] S) (v_Qi G post) 0 0 (v_A G) := by
  refine v_start (by decide +kernel) (Nat.le_of_ble_eq_true rfl) (fun X hl C D => ?_)
  subst hl
  have C : v_Cx X G cX11_best RX11 8 (v_rm 5 154) := C
  show VJ X G S 0 [(0, .ref (G.1 143)), (1, .int a1)] []
  refine V_aload_n C 0 dX11_best_0 rfl rfl ?_
  refine V_iconst (v := 0) C dX11_best_1 (by decide) ?_
  refine V_pi C 143 (by decide) (by decide) P_11_1 k_RX11_60 dX11_best_2 ?_
  refine V_topS (fun S21 eS21 => ?_)
  have h := h S21 eS21
  refine V_aload_n C 0 dX11_best_5 rfl rfl ?_
  refine V_iconst (v := 0) C dX11_best_6 (by decide) ?_
  refine V_pi C 143 (by decide) (by decide) P_11_0 k_RX11_63 dX11_best_7 ?_
  refine V_topS (fun S22 eS22 => ?_)
  have h := h S22 eS22
  refine V_aload_n C 0 dX11_best_10 rfl rfl ?_
  refine V_iload_n C 1 dX11_best_11 rfl rfl ?_
  refine V_callVz (As := [.int a1]) (rest := []) C (c_X11_isOne (v_l X) G  _ _ h) 143 11 (by decide) (by decide) (by decide) rfl KV_X11_isOne k_RX11_289 rfl rfl rfl (Nat.le_of_ble_eq_true rfl) ⟨Nat.le_of_ble_eq_true rfl, Nat.le_of_ble_eq_true rfl⟩ dX11_best_12 (fun r24 S23 h => ?_)
  refine V_ifb_ne (tgt := 24) C dX11_best_15 (by decide) (fun c => ?_) (fun c => ?_)
  · have h := h.1 c
    refine V_iconst (v := (-1)) C dX11_best_24 (by decide) ?_
    refine V_istore_n (lv' := [(0, .ref (G.1 143)), (1, .int a1), (2, .int (-1))]) C [1, 2, 0] dX11_best_25 rfl (by decide) rfl ?_
    refine V_lconst (v := 0) C dX11_best_26 (by decide) ?_
    refine V_lstore_n (lv' := [(0, .ref (G.1 143)), (1, .int a1), (2, .int (-1)), (3, .long 0)]) C [1, 2, 3, 0] dX11_best_27 rfl (by decide) rfl ?_
    refine V_iconst (v := 0) C dX11_best_28 (by decide) ?_
    refine V_istore (lv' := [(0, .ref (G.1 143)), (1, .int a1), (2, .int (-1)), (3, .long 0), (5, .int 0)]) C [1, 2, 3, 4, 0] dX11_best_29 (by decide) rfl ?_
    obtain ⟨fu31, h⟩ := h
    exact q_X11_best_31 C D  fu31 _ _ _ _ h
  · have h := h.2 c
    refine V_aload_n C 0 dX11_best_18 rfl rfl ?_
    refine V_iconst (v := 2) C dX11_best_19 (by decide) ?_
    refine V_callVi (As := [.int 2]) (rest := []) C (c_X11_refuse (v_l X) G  _ _ h) 143 11 (by decide) (by decide) (by decide) rfl KV_X11_refuse k_RX11_303 rfl rfl rfl (Nat.le_of_ble_eq_true rfl) ⟨Nat.le_of_ble_eq_true rfl, Nat.le_of_ble_eq_true rfl⟩ dX11_best_20 (fun r26 S25 h => ?_)
    exact V_iret C D dX11_best_23 h
/-! HalfAccuserModel.plan(II)Z -/
theorem dX11_plan_0 : decode cX11_plan 0 = .ok ((.aload_n 0), 1) := by decide +kernel
theorem dX11_plan_1 : decode cX11_plan 1 = .ok ((.iconst 0), 1) := by decide +kernel
theorem dX11_plan_2 : decode cX11_plan 2 = .ok ((.putfield 60), 3) := by decide +kernel
theorem dX11_plan_5 : decode cX11_plan 5 = .ok ((.aload_n 0), 1) := by decide +kernel
theorem dX11_plan_6 : decode cX11_plan 6 = .ok ((.iconst 0), 1) := by decide +kernel
theorem dX11_plan_7 : decode cX11_plan 7 = .ok ((.putfield 63), 3) := by decide +kernel
theorem dX11_plan_10 : decode cX11_plan 10 = .ok ((.aload_n 0), 1) := by decide +kernel
theorem dX11_plan_11 : decode cX11_plan 11 = .ok ((.iload_n 1), 1) := by decide +kernel
theorem dX11_plan_12 : decode cX11_plan 12 = .ok ((.invokevirtual 289), 3) := by decide +kernel
theorem dX11_plan_15 : decode cX11_plan 15 = .ok ((.ifCond .ne 9), 3) := by decide +kernel
theorem dX11_plan_18 : decode cX11_plan 18 = .ok ((.aload_n 0), 1) := by decide +kernel
theorem dX11_plan_19 : decode cX11_plan 19 = .ok ((.iconst 2), 1) := by decide +kernel
theorem dX11_plan_20 : decode cX11_plan 20 = .ok ((.invokevirtual 75), 3) := by decide +kernel
theorem dX11_plan_23 : decode cX11_plan 23 = .ok (.ireturn, 1) := by decide +kernel
theorem dX11_plan_24 : decode cX11_plan 24 = .ok ((.iload_n 2), 1) := by decide +kernel
theorem dX11_plan_25 : decode cX11_plan 25 = .ok (.i2l, 1) := by decide +kernel
theorem dX11_plan_26 : decode cX11_plan 26 = .ok ((.lconst 0), 1) := by decide +kernel
theorem dX11_plan_27 : decode cX11_plan 27 = .ok ((.ldc2_w 301), 3) := by decide +kernel
theorem dX11_plan_30 : decode cX11_plan 30 = .ok ((.invokestatic 95), 3) := by decide +kernel
theorem dX11_plan_33 : decode cX11_plan 33 = .ok ((.ifCond .ne 9), 3) := by decide +kernel
theorem dX11_plan_36 : decode cX11_plan 36 = .ok ((.aload_n 0), 1) := by decide +kernel
theorem dX11_plan_37 : decode cX11_plan 37 = .ok ((.iconst 5), 1) := by decide +kernel
theorem dX11_plan_38 : decode cX11_plan 38 = .ok ((.invokevirtual 75), 3) := by decide +kernel
theorem dX11_plan_41 : decode cX11_plan 41 = .ok (.ireturn, 1) := by decide +kernel
theorem dX11_plan_42 : decode cX11_plan 42 = .ok ((.iconst 0), 1) := by decide +kernel
theorem dX11_plan_43 : decode cX11_plan 43 = .ok ((.istore_n 3), 1) := by decide +kernel
theorem dX11_plan_44 : decode cX11_plan 44 = .ok ((.iload_n 3), 1) := by decide +kernel
theorem dX11_plan_45 : decode cX11_plan 45 = .ok ((.bipush 10), 2) := by decide +kernel
theorem dX11_plan_47 : decode cX11_plan 47 = .ok ((.if_icmp .ge 44), 3) := by decide +kernel
theorem dX11_plan_50 : decode cX11_plan 50 = .ok ((.aload_n 0), 1) := by decide +kernel
theorem dX11_plan_51 : decode cX11_plan 51 = .ok ((.getfield 47), 3) := by decide +kernel
theorem dX11_plan_54 : decode cX11_plan 54 = .ok ((.iload_n 3), 1) := by decide +kernel
theorem dX11_plan_55 : decode cX11_plan 55 = .ok ((.iload_n 3), 1) := by decide +kernel
theorem dX11_plan_56 : decode cX11_plan 56 = .ok ((.aload_n 0), 1) := by decide +kernel
theorem dX11_plan_57 : decode cX11_plan 57 = .ok ((.getfield 35), 3) := by decide +kernel
theorem dX11_plan_60 : decode cX11_plan 60 = .ok ((.iconst 1), 1) := by decide +kernel
theorem dX11_plan_61 : decode cX11_plan 61 = .ok (.iaload, 1) := by decide +kernel
theorem dX11_plan_62 : decode cX11_plan 62 = .ok ((.if_icmp .ge 21), 3) := by decide +kernel
theorem dX11_plan_65 : decode cX11_plan 65 = .ok ((.aload_n 0), 1) := by decide +kernel
theorem dX11_plan_66 : decode cX11_plan 66 = .ok ((.iload_n 1), 1) := by decide +kernel
theorem dX11_plan_67 : decode cX11_plan 67 = .ok ((.iload_n 3), 1) := by decide +kernel
theorem dX11_plan_68 : decode cX11_plan 68 = .ok ((.invokevirtual 338), 3) := by decide +kernel
theorem dX11_plan_71 : decode cX11_plan 71 = .ok ((.ifCond .eq 12), 3) := by decide +kernel
theorem dX11_plan_74 : decode cX11_plan 74 = .ok ((.aload_n 0), 1) := by decide +kernel
theorem dX11_plan_75 : decode cX11_plan 75 = .ok ((.iload_n 1), 1) := by decide +kernel
theorem dX11_plan_76 : decode cX11_plan 76 = .ok ((.iload_n 3), 1) := by decide +kernel
theorem dX11_plan_77 : decode cX11_plan 77 = .ok ((.invokevirtual 395), 3) := by decide +kernel
theorem dX11_plan_80 : decode cX11_plan 80 = .ok ((.goto 4), 3) := by decide +kernel
theorem dX11_plan_83 : decode cX11_plan 83 = .ok ((.lconst 0), 1) := by decide +kernel
theorem dX11_plan_84 : decode cX11_plan 84 = .ok (.lastore, 1) := by decide +kernel
theorem dX11_plan_85 : decode cX11_plan 85 = .ok ((.iinc 3 1), 3) := by decide +kernel
theorem dX11_plan_88 : decode cX11_plan 88 = .ok ((.goto (-44)), 3) := by decide +kernel
theorem dX11_plan_91 : decode cX11_plan 91 = .ok ((.lconst 0), 1) := by decide +kernel
theorem dX11_plan_92 : decode cX11_plan 92 = .ok ((.lstore_n 3), 1) := by decide +kernel
theorem dX11_plan_93 : decode cX11_plan 93 = .ok ((.iconst 0), 1) := by decide +kernel
theorem dX11_plan_94 : decode cX11_plan 94 = .ok ((.istore 5), 2) := by decide +kernel
theorem dX11_plan_96 : decode cX11_plan 96 = .ok ((.iload 5), 2) := by decide +kernel
theorem dX11_plan_98 : decode cX11_plan 98 = .ok ((.iload_n 2), 1) := by decide +kernel
theorem dX11_plan_99 : decode cX11_plan 99 = .ok ((.if_icmp .ge 72), 3) := by decide +kernel
theorem dX11_plan_102 : decode cX11_plan 102 = .ok ((.iconst 0), 1) := by decide +kernel
theorem dX11_plan_103 : decode cX11_plan 103 = .ok ((.istore 6), 2) := by decide +kernel
theorem dX11_plan_105 : decode cX11_plan 105 = .ok ((.iconst 1), 1) := by decide +kernel
theorem dX11_plan_106 : decode cX11_plan 106 = .ok ((.istore 7), 2) := by decide +kernel
theorem dX11_plan_108 : decode cX11_plan 108 = .ok ((.iload 7), 2) := by decide +kernel
theorem dX11_plan_110 : decode cX11_plan 110 = .ok ((.bipush 10), 2) := by decide +kernel
theorem dX11_plan_112 : decode cX11_plan 112 = .ok ((.if_icmp .ge 31), 3) := by decide +kernel
theorem dX11_plan_115 : decode cX11_plan 115 = .ok ((.aload_n 0), 1) := by decide +kernel
theorem dX11_plan_116 : decode cX11_plan 116 = .ok ((.getfield 47), 3) := by decide +kernel
theorem dX11_plan_119 : decode cX11_plan 119 = .ok ((.iload 7), 2) := by decide +kernel
theorem dX11_plan_121 : decode cX11_plan 121 = .ok (.laload, 1) := by decide +kernel
theorem dX11_plan_122 : decode cX11_plan 122 = .ok ((.aload_n 0), 1) := by decide +kernel
theorem dX11_plan_123 : decode cX11_plan 123 = .ok ((.getfield 47), 3) := by decide +kernel
theorem dX11_plan_126 : decode cX11_plan 126 = .ok ((.iload 6), 2) := by decide +kernel
theorem dX11_plan_128 : decode cX11_plan 128 = .ok (.laload, 1) := by decide +kernel
theorem dX11_plan_129 : decode cX11_plan 129 = .ok (.lcmp, 1) := by decide +kernel
theorem dX11_plan_130 : decode cX11_plan 130 = .ok ((.ifCond .le 7), 3) := by decide +kernel
theorem dX11_plan_133 : decode cX11_plan 133 = .ok ((.iload 7), 2) := by decide +kernel
theorem dX11_plan_135 : decode cX11_plan 135 = .ok ((.istore 6), 2) := by decide +kernel
theorem dX11_plan_137 : decode cX11_plan 137 = .ok ((.iinc 7 1), 3) := by decide +kernel
theorem dX11_plan_140 : decode cX11_plan 140 = .ok ((.goto (-32)), 3) := by decide +kernel
theorem dX11_plan_143 : decode cX11_plan 143 = .ok ((.lload_n 3), 1) := by decide +kernel
theorem dX11_plan_144 : decode cX11_plan 144 = .ok ((.lconst 0), 1) := by decide +kernel
theorem dX11_plan_145 : decode cX11_plan 145 = .ok ((.aload_n 0), 1) := by decide +kernel
theorem dX11_plan_146 : decode cX11_plan 146 = .ok ((.getfield 47), 3) := by decide +kernel
theorem dX11_plan_149 : decode cX11_plan 149 = .ok ((.iload 6), 2) := by decide +kernel
theorem dX11_plan_151 : decode cX11_plan 151 = .ok (.laload, 1) := by decide +kernel
theorem dX11_plan_152 : decode cX11_plan 152 = .ok ((.invokestatic 401), 3) := by decide +kernel
theorem dX11_plan_155 : decode cX11_plan 155 = .ok (.ladd, 1) := by decide +kernel
theorem dX11_plan_156 : decode cX11_plan 156 = .ok ((.lstore_n 3), 1) := by decide +kernel
theorem dX11_plan_157 : decode cX11_plan 157 = .ok ((.aload_n 0), 1) := by decide +kernel
theorem dX11_plan_158 : decode cX11_plan 158 = .ok ((.getfield 47), 3) := by decide +kernel
theorem dX11_plan_161 : decode cX11_plan 161 = .ok ((.iload 6), 2) := by decide +kernel
theorem dX11_plan_163 : decode cX11_plan 163 = .ok ((.lconst 0), 1) := by decide +kernel
theorem dX11_plan_164 : decode cX11_plan 164 = .ok (.lastore, 1) := by decide +kernel
theorem dX11_plan_165 : decode cX11_plan 165 = .ok ((.iinc 5 1), 3) := by decide +kernel
theorem dX11_plan_168 : decode cX11_plan 168 = .ok ((.goto (-72)), 3) := by decide +kernel
theorem dX11_plan_171 : decode cX11_plan 171 = .ok ((.aload_n 0), 1) := by decide +kernel
theorem dX11_plan_172 : decode cX11_plan 172 = .ok ((.lload_n 3), 1) := by decide +kernel
theorem dX11_plan_173 : decode cX11_plan 173 = .ok ((.aload_n 0), 1) := by decide +kernel
theorem dX11_plan_174 : decode cX11_plan 174 = .ok ((.invokevirtual 384), 3) := by decide +kernel
theorem dX11_plan_177 : decode cX11_plan 177 = .ok ((.invokevirtual 388), 3) := by decide +kernel
theorem dX11_plan_180 : decode cX11_plan 180 = .ok (.ireturn, 1) := by decide +kernel
def p_X11_plan_137  (a1 : Int32) (a2 : Int32)  (K96 : vSt → Int64 → Int32 → Prop) (K108 : vSt → Int64 → Int32 → Int32 → Int32 → Prop) (post : Bool → vSt → Prop) (S : vSt) (x3 : Int64) (x5 : Int32) (x6 : Int32) (x7 : Int32) : Prop := ∀ y55 : Int32, y55 = x7 + 1 → K108 S x3 x5 x6 y55
def p_X11_plan_108  (a1 : Int32) (a2 : Int32)  (K96 : vSt → Int64 → Int32 → Prop) (post : Bool → vSt → Prop) : Nat → vSt → Int64 → Int32 → Int32 → Int32 → Prop
  | 0 => fun _ _ _ _ _ => False
  | fu108 + 1 => fun S x3 x5 x6 x7 => ((10 ≤ x7 → (vp_in x6 10 ∧ ∀ y52 : Int64, y52 = (x3 + (v_maxl 0 (S.2 152 (Int32.toNatClampNeg x6)))) → (vp_in x6 10 ∧ ∀ S53, S53 = v_sl S 152 (Int32.toNatClampNeg x6) 0 → ∀ y54 : Int32, y54 = x5 + 1 → K96 S53 y52 y54))) ∧ (¬ 10 ≤ x7 → (vp_in x7 10 ∧ (vp_in x6 10 ∧ (((S.2 152 (Int32.toNatClampNeg x7)) ≤ (S.2 152 (Int32.toNatClampNeg x6)) → p_X11_plan_137 a1 a2 K96 (p_X11_plan_108 a1 a2 K96 post fu108) post S x3 x5 x6 x7) ∧ (¬ (S.2 152 (Int32.toNatClampNeg x7)) ≤ (S.2 152 (Int32.toNatClampNeg x6)) → p_X11_plan_137 a1 a2 K96 (p_X11_plan_108 a1 a2 K96 post fu108) post S x3 x5 x7 x7))))))
theorem e_X11_plan_108  (a1 : Int32) (a2 : Int32)  (K96 : vSt → Int64 → Int32 → Prop) (post : Bool → vSt → Prop) (fu108 : Nat) (S : vSt) (x3 : Int64) (x5 : Int32) (x6 : Int32) (x7 : Int32) : p_X11_plan_108 a1 a2 K96 post (fu108 + 1) S x3 x5 x6 x7 = (((10 ≤ x7 → (vp_in x6 10 ∧ ∀ y52 : Int64, y52 = (x3 + (v_maxl 0 (S.2 152 (Int32.toNatClampNeg x6)))) → (vp_in x6 10 ∧ ∀ S53, S53 = v_sl S 152 (Int32.toNatClampNeg x6) 0 → ∀ y54 : Int32, y54 = x5 + 1 → K96 S53 y52 y54))) ∧ (¬ 10 ≤ x7 → (vp_in x7 10 ∧ (vp_in x6 10 ∧ (((S.2 152 (Int32.toNatClampNeg x7)) ≤ (S.2 152 (Int32.toNatClampNeg x6)) → p_X11_plan_137 a1 a2 K96 (p_X11_plan_108 a1 a2 K96 post fu108) post S x3 x5 x6 x7) ∧ (¬ (S.2 152 (Int32.toNatClampNeg x7)) ≤ (S.2 152 (Int32.toNatClampNeg x6)) → p_X11_plan_137 a1 a2 K96 (p_X11_plan_108 a1 a2 K96 post fu108) post S x3 x5 x7 x7))))))) := rfl
def p_X11_plan_96  (a1 : Int32) (a2 : Int32)   (post : Bool → vSt → Prop) : Nat → vSt → Int64 → Int32 → Prop
  | 0 => fun _ _ _ => False
  | fu96 + 1 => fun S x3 x5 => ((a2 ≤ x5 → p_X11_allVotes  S  (fun r49 S48 => p_X11_fraction  S48 x3 r49 (fun r51 S50 => post r51 S50))) ∧ (¬ a2 ≤ x5 → ∃ fu108, p_X11_plan_108 a1 a2 (p_X11_plan_96 a1 a2 post fu96) post fu108 S x3 x5 0 1))
theorem e_X11_plan_96  (a1 : Int32) (a2 : Int32)   (post : Bool → vSt → Prop) (fu96 : Nat) (S : vSt) (x3 : Int64) (x5 : Int32) : p_X11_plan_96 a1 a2 post (fu96 + 1) S x3 x5 = (((a2 ≤ x5 → p_X11_allVotes  S  (fun r49 S48 => p_X11_fraction  S48 x3 r49 (fun r51 S50 => post r51 S50))) ∧ (¬ a2 ≤ x5 → ∃ fu108, p_X11_plan_108 a1 a2 (p_X11_plan_96 a1 a2 post fu96) post fu108 S x3 x5 0 1))) := rfl
def p_X11_plan_84  (a1 : Int32) (a2 : Int32)  (K44 : vSt → Int32 → Prop) (post : Bool → vSt → Prop) (S : vSt) (x3 : Int32) (s0 : Int64) (s1 : Int32) : Prop := (vp_in s1 10 ∧ ∀ S48, S48 = v_sl S 152 (Int32.toNatClampNeg s1) s0 → ∀ y49 : Int32, y49 = x3 + 1 → K44 S48 y49)
def p_X11_plan_83  (a1 : Int32) (a2 : Int32)  (K44 : vSt → Int32 → Prop) (post : Bool → vSt → Prop) (S : vSt) (x3 : Int32) (s0 : Int32) : Prop := p_X11_plan_84 a1 a2 K44 post S x3 0 s0
def p_X11_plan_44  (a1 : Int32) (a2 : Int32)   (post : Bool → vSt → Prop) : Nat → vSt → Int32 → Prop
  | 0 => fun _ _ => False
  | fu44 + 1 => fun S x3 => ((10 ≤ x3 → ∃ fu96, p_X11_plan_96 a1 a2 post fu96 S 0 0) ∧ (¬ 10 ≤ x3 → (vp_in 1 1900 ∧ (((S.1 148 (Int32.toNatClampNeg 1)) ≤ x3 → p_X11_plan_83 a1 a2 (p_X11_plan_44 a1 a2 post fu44) post S x3 x3) ∧ (¬ (S.1 148 (Int32.toNatClampNeg 1)) ≤ x3 → p_X11_canCharge  S a1 x3 (fun r49 S48 => ((r49 = false → p_X11_plan_83 a1 a2 (p_X11_plan_44 a1 a2 post fu44) post S48 x3 x3) ∧ (r49 = true → p_X11_gainOf  S48 a1 x3 (fun r51 S50 => p_X11_plan_84 a1 a2 (p_X11_plan_44 a1 a2 post fu44) post S50 x3 r51 x3)))))))))
theorem e_X11_plan_44  (a1 : Int32) (a2 : Int32)   (post : Bool → vSt → Prop) (fu44 : Nat) (S : vSt) (x3 : Int32) : p_X11_plan_44 a1 a2 post (fu44 + 1) S x3 = (((10 ≤ x3 → ∃ fu96, p_X11_plan_96 a1 a2 post fu96 S 0 0) ∧ (¬ 10 ≤ x3 → (vp_in 1 1900 ∧ (((S.1 148 (Int32.toNatClampNeg 1)) ≤ x3 → p_X11_plan_83 a1 a2 (p_X11_plan_44 a1 a2 post fu44) post S x3 x3) ∧ (¬ (S.1 148 (Int32.toNatClampNeg 1)) ≤ x3 → p_X11_canCharge  S a1 x3 (fun r49 S48 => ((r49 = false → p_X11_plan_83 a1 a2 (p_X11_plan_44 a1 a2 post fu44) post S48 x3 x3) ∧ (r49 = true → p_X11_gainOf  S48 a1 x3 (fun r51 S50 => p_X11_plan_84 a1 a2 (p_X11_plan_44 a1 a2 post fu44) post S50 x3 r51 x3)))))))))) := rfl
def p_X11_plan   (S : vSt) (a1 : Int32) (a2 : Int32) (post : Bool → vSt → Prop) : Prop := ∀ S42, S42 = v_si S 143 1 0 → ∀ S43, S43 = v_si S42 143 0 0 → p_X11_isOne  S43 a1 (fun r45 S44 => ((r45 = true → p_X11_isIn  S44 (Int32.toInt64 a2) 0 10 (fun r47 S46 => ((r47 = true → ∃ fu44, p_X11_plan_44 a1 a2 post fu44 S46 0) ∧ (r47 = false → p_X11_no  S46 5 (fun r49 S48 => post r49 S48))))) ∧ (r45 = false → p_X11_no  S44 2 (fun r51 S50 => post r51 S50))))
set_option maxHeartbeats 4000000 in
set_option maxRecDepth 100000 in
theorem q_X11_plan_137 {X : vX} {G : vG}  {post : Bool → vSt → Prop} (C : v_Cx X G cX11_plan RX11 8 (v_rm 5 154)) (D : v_Rx X G (v_Qz G post) (some .boolean))  {a1 : Int32} {a2 : Int32}  {K96 : vSt → Int64 → Int32 → Prop} (hK96 : ∀ S x3 x5, K96 S x3 x5 → VJ X G S 96 [(0, .ref (G.1 143)), (2, .int a2), (3, .long x3), (5, .int x5)] []) {K108 : vSt → Int64 → Int32 → Int32 → Int32 → Prop} (hK108 : ∀ S x3 x5 x6 x7, K108 S x3 x5 x6 x7 → VJ X G S 108 [(0, .ref (G.1 143)), (2, .int a2), (3, .long x3), (5, .int x5), (6, .int x6), (7, .int x7)] []) : ∀ (S : vSt) (x3 : Int64) (x5 : Int32) (x6 : Int32) (x7 : Int32), p_X11_plan_137 a1 a2 K96 K108 post S x3 x5 x6 x7 → VJ X G S 137 [(0, .ref (G.1 143)), (2, .int a2), (3, .long x3), (5, .int x5), (6, .int x6), (7, .int x7)] [] := by
  intro S x3 x5 x6 x7 h
  obtain ⟨y55, ey55⟩ : ∃ z : Int32, z = x7 + 1 := ⟨_, rfl⟩
  have h := h y55 ey55
  refine V_iinc (lv' := [(0, .ref (G.1 143)), (2, .int a2), (3, .long x3), (5, .int x5), (6, .int x6), (7, .int y55)]) C 5 [1, 2, 3, 4, 5, 0] y55 dX11_plan_137 rfl (by rw [ey55]; rfl) (by decide) rfl ?_
  refine V_goto (tgt := 108) C dX11_plan_140 (by decide) ?_
  exact hK108 _ _ _ _ _ h
set_option maxHeartbeats 4000000 in
set_option maxRecDepth 100000 in
theorem q_X11_plan_108 {X : vX} {G : vG}  {post : Bool → vSt → Prop} (C : v_Cx X G cX11_plan RX11 8 (v_rm 5 154)) (D : v_Rx X G (v_Qz G post) (some .boolean))  {a1 : Int32} {a2 : Int32}  {K96 : vSt → Int64 → Int32 → Prop} (hK96 : ∀ S x3 x5, K96 S x3 x5 → VJ X G S 96 [(0, .ref (G.1 143)), (2, .int a2), (3, .long x3), (5, .int x5)] []) : ∀ (fu : Nat) (S : vSt) (x3 : Int64) (x5 : Int32) (x6 : Int32) (x7 : Int32), p_X11_plan_108 a1 a2 K96 post fu S x3 x5 x6 x7 → VJ X G S 108 [(0, .ref (G.1 143)), (2, .int a2), (3, .long x3), (5, .int x5), (6, .int x6), (7, .int x7)] [] := by
  intro fu
  induction fu with
  | zero => intro S x3 x5 x6 x7 h; exact absurd h id
  | succ fu ih =>
    intro S x3 x5 x6 x7 h
    have hK108 := ih
    rw [e_X11_plan_108] at h
    refine V_iload C 5 dX11_plan_108 rfl ?_
    refine V_bipush (v := 10) C dX11_plan_110 (by decide) ?_
    refine V_icmp_ge (tgt := 143) C dX11_plan_112 (by decide) (fun c => ?_) (fun c => ?_)
    · have h := h.1 c
      refine V_lload_n C 2 dX11_plan_143 rfl rfl ?_
      refine V_lconst (v := 0) C dX11_plan_144 (by decide) ?_
      refine V_aload_n C 0 dX11_plan_145 rfl rfl ?_
      refine V_ga C 143 (by decide) (by decide) F_11_28 k_RX11_47 dX11_plan_146 ?_
      refine V_iload C 4 dX11_plan_149 rfl ?_
      obtain ⟨hi, h⟩ := h
      refine V_lald C 152 10 (by decide) (by decide) hi dX11_plan_151 ?_
      refine V_maxl C k_RX11_401 (Nat.le_of_ble_eq_true rfl) ⟨Nat.le_of_ble_eq_true rfl, Nat.le_of_ble_eq_true rfl⟩ dX11_plan_152 ?_
      refine V_ladd C dX11_plan_155 ?_
      refine V_topl (fun y52 ey52 => ?_)
      have h := h y52 ey52
      refine V_lstore_n (lv' := [(0, .ref (G.1 143)), (2, .int a2), (3, .long y52), (5, .int x5), (6, .int x6), (7, .int x7)]) C [1, 2, 0, 3, 4, 5] dX11_plan_156 rfl (by decide) rfl ?_
      refine V_aload_n C 0 dX11_plan_157 rfl rfl ?_
      refine V_ga C 143 (by decide) (by decide) F_11_28 k_RX11_47 dX11_plan_158 ?_
      refine V_iload C 4 dX11_plan_161 rfl ?_
      refine V_lconst (v := 0) C dX11_plan_163 (by decide) ?_
      obtain ⟨hi, h⟩ := h
      refine V_last C 152 10 (by decide) (by decide) hi dX11_plan_164 ?_
      refine V_topS (fun S53 eS53 => ?_)
      have h := h S53 eS53
      obtain ⟨y54, ey54⟩ : ∃ z : Int32, z = x5 + 1 := ⟨_, rfl⟩
      have h := h y54 ey54
      refine V_iinc (lv' := [(0, .ref (G.1 143)), (2, .int a2), (3, .long y52), (5, .int y54), (6, .int x6), (7, .int x7)]) C 3 [1, 2, 3, 0, 4, 5] y54 dX11_plan_165 rfl (by rw [ey54]; rfl) (by decide) rfl ?_
      refine V_goto (tgt := 96) C dX11_plan_168 (by decide) ?_
      refine V_loc (lv' := [(0, .ref (G.1 143)), (2, .int a2), (3, .long y52), (5, .int y54)]) [0, 1, 2, 3] rfl ?_
      exact hK96 _ _ _ h
    · have h := h.2 c
      refine V_aload_n C 0 dX11_plan_115 rfl rfl ?_
      refine V_ga C 143 (by decide) (by decide) F_11_28 k_RX11_47 dX11_plan_116 ?_
      refine V_iload C 5 dX11_plan_119 rfl ?_
      obtain ⟨hi, h⟩ := h
      refine V_lald C 152 10 (by decide) (by decide) hi dX11_plan_121 ?_
      refine V_aload_n C 0 dX11_plan_122 rfl rfl ?_
      refine V_ga C 143 (by decide) (by decide) F_11_28 k_RX11_47 dX11_plan_123 ?_
      refine V_iload C 4 dX11_plan_126 rfl ?_
      obtain ⟨hi, h⟩ := h
      refine V_lald C 152 10 (by decide) (by decide) hi dX11_plan_128 ?_
      refine V_lcmp_le (tgt := 137) C dX11_plan_129 dX11_plan_130 (by decide) (fun c => ?_) (fun c => ?_)
      · have h := h.1 c
        exact q_X11_plan_137 C D hK96 hK108 _ _ _ _ _ h
      · have h := h.2 c
        refine V_iload C 5 dX11_plan_133 rfl ?_
        refine V_istore (lv' := [(0, .ref (G.1 143)), (2, .int a2), (3, .long x3), (5, .int x5), (6, .int x7), (7, .int x7)]) C [1, 2, 3, 4, 0, 5] dX11_plan_135 (by decide) rfl ?_
        exact q_X11_plan_137 C D hK96 hK108 _ _ _ _ _ h
set_option maxHeartbeats 4000000 in
set_option maxRecDepth 100000 in
theorem q_X11_plan_96 {X : vX} {G : vG}  {post : Bool → vSt → Prop} (C : v_Cx X G cX11_plan RX11 8 (v_rm 5 154)) (D : v_Rx X G (v_Qz G post) (some .boolean))  {a1 : Int32} {a2 : Int32}   : ∀ (fu : Nat) (S : vSt) (x3 : Int64) (x5 : Int32), p_X11_plan_96 a1 a2 post fu S x3 x5 → VJ X G S 96 [(0, .ref (G.1 143)), (2, .int a2), (3, .long x3), (5, .int x5)] [] := by
  intro fu
  induction fu with
  | zero => intro S x3 x5 h; exact absurd h id
  | succ fu ih =>
    intro S x3 x5 h
    have hK96 := ih
    rw [e_X11_plan_96] at h
    refine V_iload C 3 dX11_plan_96 rfl ?_
    refine V_iload_n C 1 dX11_plan_98 rfl rfl ?_
    refine V_icmp_ge (tgt := 171) C dX11_plan_99 (by decide) (fun c => ?_) (fun c => ?_)
    · have h := h.1 c
      refine V_aload_n C 0 dX11_plan_171 rfl rfl ?_
      refine V_lload_n C 2 dX11_plan_172 rfl rfl ?_
      refine V_aload_n C 0 dX11_plan_173 rfl rfl ?_
      refine V_callVl (As := []) (rest := [.long x3, .ref (G.1 143)]) C (c_X11_allVotes (v_l X) G  _ h) 143 11 (by decide) (by decide) (by decide) rfl KV_X11_allVotes k_RX11_384 rfl rfl rfl (Nat.le_of_ble_eq_true rfl) ⟨Nat.le_of_ble_eq_true rfl, Nat.le_of_ble_eq_true rfl⟩ dX11_plan_174 (fun r49 S48 h => ?_)
      refine V_callVz (As := [.long x3, .long r49]) (rest := []) C (c_X11_fraction (v_l X) G  _ _ _ h) 143 11 (by decide) (by decide) (by decide) rfl KV_X11_fraction k_RX11_388 rfl rfl rfl (Nat.le_of_ble_eq_true rfl) ⟨Nat.le_of_ble_eq_true rfl, Nat.le_of_ble_eq_true rfl⟩ dX11_plan_177 (fun r51 S50 h => ?_)
      exact V_zret C D dX11_plan_180 h
    · have h := h.2 c
      refine V_iconst (v := 0) C dX11_plan_102 (by decide) ?_
      refine V_istore (lv' := [(0, .ref (G.1 143)), (2, .int a2), (3, .long x3), (5, .int x5), (6, .int 0)]) C [1, 2, 3, 4, 0] dX11_plan_103 (by decide) rfl ?_
      refine V_iconst (v := 1) C dX11_plan_105 (by decide) ?_
      refine V_istore (lv' := [(0, .ref (G.1 143)), (2, .int a2), (3, .long x3), (5, .int x5), (6, .int 0), (7, .int 1)]) C [1, 2, 3, 4, 5, 0] dX11_plan_106 (by decide) rfl ?_
      obtain ⟨fu108, h⟩ := h
      exact q_X11_plan_108 C D hK96 fu108 _ _ _ _ _ h
set_option maxHeartbeats 4000000 in
set_option maxRecDepth 100000 in
theorem q_X11_plan_84 {X : vX} {G : vG}  {post : Bool → vSt → Prop} (C : v_Cx X G cX11_plan RX11 8 (v_rm 5 154)) (D : v_Rx X G (v_Qz G post) (some .boolean))  {a1 : Int32} {a2 : Int32}  {K44 : vSt → Int32 → Prop} (hK44 : ∀ S x3, K44 S x3 → VJ X G S 44 [(0, .ref (G.1 143)), (1, .int a1), (2, .int a2), (3, .int x3)] []) : ∀ (S : vSt) (x3 : Int32) (s0 : Int64) (s1 : Int32), p_X11_plan_84 a1 a2 K44 post S x3 s0 s1 → VJ X G S 84 [(0, .ref (G.1 143)), (1, .int a1), (2, .int a2), (3, .int x3)] [.long s0, .int s1, .ref (G.1 152)] := by
  intro S x3 s0 s1 h
  obtain ⟨hi, h⟩ := h
  refine V_last C 152 10 (by decide) (by decide) hi dX11_plan_84 ?_
  refine V_topS (fun S48 eS48 => ?_)
  have h := h S48 eS48
  obtain ⟨y49, ey49⟩ : ∃ z : Int32, z = x3 + 1 := ⟨_, rfl⟩
  have h := h y49 ey49
  refine V_iinc (lv' := [(0, .ref (G.1 143)), (1, .int a1), (2, .int a2), (3, .int y49)]) C 3 [1, 2, 3, 0] y49 dX11_plan_85 rfl (by rw [ey49]; rfl) (by decide) rfl ?_
  refine V_goto (tgt := 44) C dX11_plan_88 (by decide) ?_
  exact hK44 _ _ h
set_option maxHeartbeats 4000000 in
set_option maxRecDepth 100000 in
theorem q_X11_plan_83 {X : vX} {G : vG}  {post : Bool → vSt → Prop} (C : v_Cx X G cX11_plan RX11 8 (v_rm 5 154)) (D : v_Rx X G (v_Qz G post) (some .boolean))  {a1 : Int32} {a2 : Int32}  {K44 : vSt → Int32 → Prop} (hK44 : ∀ S x3, K44 S x3 → VJ X G S 44 [(0, .ref (G.1 143)), (1, .int a1), (2, .int a2), (3, .int x3)] []) : ∀ (S : vSt) (x3 : Int32) (s0 : Int32), p_X11_plan_83 a1 a2 K44 post S x3 s0 → VJ X G S 83 [(0, .ref (G.1 143)), (1, .int a1), (2, .int a2), (3, .int x3)] [.int s0, .ref (G.1 152)] := by
  intro S x3 s0 h
  refine V_lconst (v := 0) C dX11_plan_83 (by decide) ?_
  exact q_X11_plan_84 C D hK44 _ _ _ _ h
set_option maxHeartbeats 4000000 in
set_option maxRecDepth 100000 in
theorem q_X11_plan_44 {X : vX} {G : vG}  {post : Bool → vSt → Prop} (C : v_Cx X G cX11_plan RX11 8 (v_rm 5 154)) (D : v_Rx X G (v_Qz G post) (some .boolean))  {a1 : Int32} {a2 : Int32}   : ∀ (fu : Nat) (S : vSt) (x3 : Int32), p_X11_plan_44 a1 a2 post fu S x3 → VJ X G S 44 [(0, .ref (G.1 143)), (1, .int a1), (2, .int a2), (3, .int x3)] [] := by
  intro fu
  induction fu with
  | zero => intro S x3 h; exact absurd h id
  | succ fu ih =>
    intro S x3 h
    have hK44 := ih
    rw [e_X11_plan_44] at h
    refine V_iload_n C 3 dX11_plan_44 rfl rfl ?_
    refine V_bipush (v := 10) C dX11_plan_45 (by decide) ?_
    refine V_icmp_ge (tgt := 91) C dX11_plan_47 (by decide) (fun c => ?_) (fun c => ?_)
    · have h := h.1 c
      refine V_lconst (v := 0) C dX11_plan_91 (by decide) ?_
      refine V_lstore_n (lv' := [(0, .ref (G.1 143)), (1, .int a1), (2, .int a2), (3, .long 0)]) C [1, 2, 3, 0] dX11_plan_92 rfl (by decide) rfl ?_
      refine V_iconst (v := 0) C dX11_plan_93 (by decide) ?_
      refine V_istore (lv' := [(0, .ref (G.1 143)), (1, .int a1), (2, .int a2), (3, .long 0), (5, .int 0)]) C [1, 2, 3, 4, 0] dX11_plan_94 (by decide) rfl ?_
      refine V_loc (lv' := [(0, .ref (G.1 143)), (2, .int a2), (3, .long 0), (5, .int 0)]) [0, 2, 3, 4] rfl ?_
      obtain ⟨fu96, h⟩ := h
      exact q_X11_plan_96 C D  fu96 _ _ _ h
    · have h := h.2 c
      refine V_aload_n C 0 dX11_plan_50 rfl rfl ?_
      refine V_ga C 143 (by decide) (by decide) F_11_28 k_RX11_47 dX11_plan_51 ?_
      refine V_iload_n C 3 dX11_plan_54 rfl rfl ?_
      refine V_iload_n C 3 dX11_plan_55 rfl rfl ?_
      refine V_aload_n C 0 dX11_plan_56 rfl rfl ?_
      refine V_ga C 143 (by decide) (by decide) F_11_20 k_RX11_35 dX11_plan_57 ?_
      refine V_iconst (v := 1) C dX11_plan_60 (by decide) ?_
      obtain ⟨hi, h⟩ := h
      refine V_iald C 148 1900 (by decide) (by decide) hi dX11_plan_61 ?_
      refine V_icmp_ge (tgt := 83) C dX11_plan_62 (by decide) (fun c => ?_) (fun c => ?_)
      · have h := h.1 c
        exact q_X11_plan_83 C D hK44 _ _ _ h
      · have h := h.2 c
        refine V_aload_n C 0 dX11_plan_65 rfl rfl ?_
        refine V_iload_n C 1 dX11_plan_66 rfl rfl ?_
        refine V_iload_n C 3 dX11_plan_67 rfl rfl ?_
        refine V_callVz (As := [.int a1, .int x3]) (rest := [.int x3, .ref (G.1 152)]) C (c_X11_canCharge (v_l X) G  _ _ _ h) 143 11 (by decide) (by decide) (by decide) rfl KV_X11_canCharge k_RX11_338 rfl rfl rfl (Nat.le_of_ble_eq_true rfl) ⟨Nat.le_of_ble_eq_true rfl, Nat.le_of_ble_eq_true rfl⟩ dX11_plan_68 (fun r49 S48 h => ?_)
        refine V_ifb_eq (tgt := 83) C dX11_plan_71 (by decide) (fun c => ?_) (fun c => ?_)
        · have h := h.1 c
          exact q_X11_plan_83 C D hK44 _ _ _ h
        · have h := h.2 c
          refine V_aload_n C 0 dX11_plan_74 rfl rfl ?_
          refine V_iload_n C 1 dX11_plan_75 rfl rfl ?_
          refine V_iload_n C 3 dX11_plan_76 rfl rfl ?_
          refine V_callVl (As := [.int a1, .int x3]) (rest := [.int x3, .ref (G.1 152)]) C (c_X11_gainOf (v_l X) G  _ _ _ h) 143 11 (by decide) (by decide) (by decide) rfl KV_X11_gainOf k_RX11_395 rfl rfl rfl (Nat.le_of_ble_eq_true rfl) ⟨Nat.le_of_ble_eq_true rfl, Nat.le_of_ble_eq_true rfl⟩ dX11_plan_77 (fun r51 S50 h => ?_)
          refine V_goto (tgt := 84) C dX11_plan_80 (by decide) ?_
          exact q_X11_plan_84 C D hK44 _ _ _ _ h
set_option maxHeartbeats 4000000 in
set_option maxRecDepth 100000 in
theorem c_X11_plan (l : Launch) (G : vG)    {S : vSt} (a1 : Int32) (a2 : Int32) (post : Bool → vSt → Prop) (h : p_X11_plan   S a1 a2 post) : Met l yX11_plan (v_ws yX11_plan cX11_plan 8 (some .boolean)) (v_rm 5 154) (v_Pc G [.ref (G.1 143), .int a1, .int a2] S) (v_Qz G post) 0 0 (v_A G) := by
  refine v_start (by decide +kernel) (Nat.le_of_ble_eq_true rfl) (fun X hl C D => ?_)
  subst hl
  have C : v_Cx X G cX11_plan RX11 8 (v_rm 5 154) := C
  show VJ X G S 0 [(0, .ref (G.1 143)), (1, .int a1), (2, .int a2)] []
  refine V_aload_n C 0 dX11_plan_0 rfl rfl ?_
  refine V_iconst (v := 0) C dX11_plan_1 (by decide) ?_
  refine V_pi C 143 (by decide) (by decide) P_11_1 k_RX11_60 dX11_plan_2 ?_
  refine V_topS (fun S42 eS42 => ?_)
  have h := h S42 eS42
  refine V_aload_n C 0 dX11_plan_5 rfl rfl ?_
  refine V_iconst (v := 0) C dX11_plan_6 (by decide) ?_
  refine V_pi C 143 (by decide) (by decide) P_11_0 k_RX11_63 dX11_plan_7 ?_
  refine V_topS (fun S43 eS43 => ?_)
  have h := h S43 eS43
  refine V_aload_n C 0 dX11_plan_10 rfl rfl ?_
  refine V_iload_n C 1 dX11_plan_11 rfl rfl ?_
  refine V_callVz (As := [.int a1]) (rest := []) C (c_X11_isOne (v_l X) G  _ _ h) 143 11 (by decide) (by decide) (by decide) rfl KV_X11_isOne k_RX11_289 rfl rfl rfl (Nat.le_of_ble_eq_true rfl) ⟨Nat.le_of_ble_eq_true rfl, Nat.le_of_ble_eq_true rfl⟩ dX11_plan_12 (fun r45 S44 h => ?_)
  refine V_ifb_ne (tgt := 24) C dX11_plan_15 (by decide) (fun c => ?_) (fun c => ?_)
  · have h := h.1 c
    refine V_iload_n C 2 dX11_plan_24 rfl rfl ?_
    refine V_i2l C dX11_plan_25 ?_
    refine V_lconst (v := 0) C dX11_plan_26 (by decide) ?_
    refine V_ldc2 (v := 10) C k_RX11_301 dX11_plan_27 ?_
    refine V_callSz (As := [.long (Int32.toInt64 a2), .long 0, .long 10]) (rest := []) C (c_X11_isIn (v_l X) G  _ _ _ _ h) KV_X11_isIn k_RX11_95 rfl rfl rfl (Nat.le_of_ble_eq_true rfl) ⟨Nat.le_of_ble_eq_true rfl, Nat.le_of_ble_eq_true rfl⟩ dX11_plan_30 (fun r47 S46 h => ?_)
    refine V_ifb_ne (tgt := 42) C dX11_plan_33 (by decide) (fun c => ?_) (fun c => ?_)
    · have h := h.1 c
      refine V_iconst (v := 0) C dX11_plan_42 (by decide) ?_
      refine V_istore_n (lv' := [(0, .ref (G.1 143)), (1, .int a1), (2, .int a2), (3, .int 0)]) C [1, 2, 3, 0] dX11_plan_43 rfl (by decide) rfl ?_
      obtain ⟨fu44, h⟩ := h
      exact q_X11_plan_44 C D  fu44 _ _ h
    · have h := h.2 c
      refine V_aload_n C 0 dX11_plan_36 rfl rfl ?_
      refine V_iconst (v := 5) C dX11_plan_37 (by decide) ?_
      refine V_callVz (As := [.int 5]) (rest := []) C (c_X11_no (v_l X) G  _ _ h) 143 11 (by decide) (by decide) (by decide) rfl KV_X11_no k_RX11_75 rfl rfl rfl (Nat.le_of_ble_eq_true rfl) ⟨Nat.le_of_ble_eq_true rfl, Nat.le_of_ble_eq_true rfl⟩ dX11_plan_38 (fun r49 S48 h => ?_)
      exact V_zret C D dX11_plan_41 h
  · have h := h.2 c
    refine V_aload_n C 0 dX11_plan_18 rfl rfl ?_
    refine V_iconst (v := 2) C dX11_plan_19 (by decide) ?_
    refine V_callVz (As := [.int 2]) (rest := []) C (c_X11_no (v_l X) G  _ _ h) 143 11 (by decide) (by decide) (by decide) rfl KV_X11_no k_RX11_75 rfl rfl rfl (Nat.le_of_ble_eq_true rfl) ⟨Nat.le_of_ble_eq_true rfl, Nat.le_of_ble_eq_true rfl⟩ dX11_plan_20 (fun r51 S50 h => ?_)
    exact V_zret C D dX11_plan_23 h
/-! HalfAccuserModel.accuser(I)I -/
theorem dX11_accuser_0 : decode cX11_accuser 0 = .ok ((.aload_n 0), 1) := by decide +kernel
theorem dX11_accuser_1 : decode cX11_accuser 1 = .ok ((.iconst 0), 1) := by decide +kernel
theorem dX11_accuser_2 : decode cX11_accuser 2 = .ok ((.putfield 60), 3) := by decide +kernel
theorem dX11_accuser_5 : decode cX11_accuser 5 = .ok ((.aload_n 0), 1) := by decide +kernel
theorem dX11_accuser_6 : decode cX11_accuser 6 = .ok ((.iconst 0), 1) := by decide +kernel
theorem dX11_accuser_7 : decode cX11_accuser 7 = .ok ((.putfield 63), 3) := by decide +kernel
theorem dX11_accuser_10 : decode cX11_accuser 10 = .ok ((.aload_n 0), 1) := by decide +kernel
theorem dX11_accuser_11 : decode cX11_accuser 11 = .ok ((.iload_n 1), 1) := by decide +kernel
theorem dX11_accuser_12 : decode cX11_accuser 12 = .ok ((.invokevirtual 292), 3) := by decide +kernel
theorem dX11_accuser_15 : decode cX11_accuser 15 = .ok ((.ifCond .ne 9), 3) := by decide +kernel
theorem dX11_accuser_18 : decode cX11_accuser 18 = .ok ((.aload_n 0), 1) := by decide +kernel
theorem dX11_accuser_19 : decode cX11_accuser 19 = .ok ((.iconst 2), 1) := by decide +kernel
theorem dX11_accuser_20 : decode cX11_accuser 20 = .ok ((.invokevirtual 303), 3) := by decide +kernel
theorem dX11_accuser_23 : decode cX11_accuser 23 = .ok (.ireturn, 1) := by decide +kernel
theorem dX11_accuser_24 : decode cX11_accuser 24 = .ok ((.iconst (-1)), 1) := by decide +kernel
theorem dX11_accuser_25 : decode cX11_accuser 25 = .ok ((.istore_n 2), 1) := by decide +kernel
theorem dX11_accuser_26 : decode cX11_accuser 26 = .ok ((.lconst 0), 1) := by decide +kernel
theorem dX11_accuser_27 : decode cX11_accuser 27 = .ok ((.lstore_n 3), 1) := by decide +kernel
theorem dX11_accuser_28 : decode cX11_accuser 28 = .ok ((.iconst 0), 1) := by decide +kernel
theorem dX11_accuser_29 : decode cX11_accuser 29 = .ok ((.istore 5), 2) := by decide +kernel
theorem dX11_accuser_31 : decode cX11_accuser 31 = .ok ((.iload 5), 2) := by decide +kernel
theorem dX11_accuser_33 : decode cX11_accuser 33 = .ok ((.aload_n 0), 1) := by decide +kernel
theorem dX11_accuser_34 : decode cX11_accuser 34 = .ok ((.getfield 35), 3) := by decide +kernel
theorem dX11_accuser_37 : decode cX11_accuser 37 = .ok ((.iconst 0), 1) := by decide +kernel
theorem dX11_accuser_38 : decode cX11_accuser 38 = .ok (.iaload, 1) := by decide +kernel
theorem dX11_accuser_39 : decode cX11_accuser 39 = .ok ((.if_icmp .ge 48), 3) := by decide +kernel
theorem dX11_accuser_42 : decode cX11_accuser 42 = .ok ((.aload_n 0), 1) := by decide +kernel
theorem dX11_accuser_43 : decode cX11_accuser 43 = .ok ((.iload 5), 2) := by decide +kernel
theorem dX11_accuser_45 : decode cX11_accuser 45 = .ok ((.iload_n 1), 1) := by decide +kernel
theorem dX11_accuser_46 : decode cX11_accuser 46 = .ok ((.invokevirtual 338), 3) := by decide +kernel
theorem dX11_accuser_49 : decode cX11_accuser 49 = .ok ((.ifCond .eq 13), 3) := by decide +kernel
theorem dX11_accuser_52 : decode cX11_accuser 52 = .ok ((.aload_n 0), 1) := by decide +kernel
theorem dX11_accuser_53 : decode cX11_accuser 53 = .ok ((.iload 5), 2) := by decide +kernel
theorem dX11_accuser_55 : decode cX11_accuser 55 = .ok ((.iload_n 1), 1) := by decide +kernel
theorem dX11_accuser_56 : decode cX11_accuser 56 = .ok ((.invokevirtual 395), 3) := by decide +kernel
theorem dX11_accuser_59 : decode cX11_accuser 59 = .ok ((.goto 4), 3) := by decide +kernel
theorem dX11_accuser_62 : decode cX11_accuser 62 = .ok ((.lconst 0), 1) := by decide +kernel
theorem dX11_accuser_63 : decode cX11_accuser 63 = .ok ((.lstore 6), 2) := by decide +kernel
theorem dX11_accuser_65 : decode cX11_accuser 65 = .ok ((.lload 6), 2) := by decide +kernel
theorem dX11_accuser_67 : decode cX11_accuser 67 = .ok ((.lload_n 3), 1) := by decide +kernel
theorem dX11_accuser_68 : decode cX11_accuser 68 = .ok (.lcmp, 1) := by decide +kernel
theorem dX11_accuser_69 : decode cX11_accuser 69 = .ok ((.ifCond .gt 6), 3) := by decide +kernel
theorem dX11_accuser_72 : decode cX11_accuser 72 = .ok ((.goto 9), 3) := by decide +kernel
theorem dX11_accuser_75 : decode cX11_accuser 75 = .ok ((.lload 6), 2) := by decide +kernel
theorem dX11_accuser_77 : decode cX11_accuser 77 = .ok ((.lstore_n 3), 1) := by decide +kernel
theorem dX11_accuser_78 : decode cX11_accuser 78 = .ok ((.iload 5), 2) := by decide +kernel
theorem dX11_accuser_80 : decode cX11_accuser 80 = .ok ((.istore_n 2), 1) := by decide +kernel
theorem dX11_accuser_81 : decode cX11_accuser 81 = .ok ((.iinc 5 1), 3) := by decide +kernel
theorem dX11_accuser_84 : decode cX11_accuser 84 = .ok ((.goto (-53)), 3) := by decide +kernel
theorem dX11_accuser_87 : decode cX11_accuser 87 = .ok ((.iload_n 2), 1) := by decide +kernel
theorem dX11_accuser_88 : decode cX11_accuser 88 = .ok ((.ifCond .ge 12), 3) := by decide +kernel
theorem dX11_accuser_91 : decode cX11_accuser 91 = .ok ((.aload_n 0), 1) := by decide +kernel
theorem dX11_accuser_92 : decode cX11_accuser 92 = .ok ((.bipush 8), 2) := by decide +kernel
theorem dX11_accuser_94 : decode cX11_accuser 94 = .ok ((.invokevirtual 303), 3) := by decide +kernel
theorem dX11_accuser_97 : decode cX11_accuser 97 = .ok ((.goto 4), 3) := by decide +kernel
theorem dX11_accuser_100 : decode cX11_accuser 100 = .ok ((.iload_n 2), 1) := by decide +kernel
theorem dX11_accuser_101 : decode cX11_accuser 101 = .ok (.ireturn, 1) := by decide +kernel
def p_X11_accuser_81  (a1 : Int32)  (K31 : vSt → Int32 → Int64 → Int32 → Prop) (post : Int32 → vSt → Prop) (S : vSt) (x2 : Int32) (x3 : Int64) (x5 : Int32) : Prop := ∀ y29 : Int32, y29 = x5 + 1 → K31 S x2 x3 y29
def p_X11_accuser_63  (a1 : Int32)  (K31 : vSt → Int32 → Int64 → Int32 → Prop) (post : Int32 → vSt → Prop) (S : vSt) (x2 : Int32) (x3 : Int64) (x5 : Int32) (s0 : Int64) : Prop := ((x3 < s0 → p_X11_accuser_81 a1 K31 post S x5 s0 x5) ∧ (¬ x3 < s0 → p_X11_accuser_81 a1 K31 post S x2 x3 x5))
def p_X11_accuser_31  (a1 : Int32)   (post : Int32 → vSt → Prop) : Nat → vSt → Int32 → Int64 → Int32 → Prop
  | 0 => fun _ _ _ _ => False
  | fu31 + 1 => fun S x2 x3 x5 => (vp_in 0 1900 ∧ (((S.1 148 (Int32.toNatClampNeg 0)) ≤ x5 → ((0 ≤ x2 → post x2 S) ∧ (¬ 0 ≤ x2 → p_X11_refuse  S 8 (fun r26 S25 => post r26 S25)))) ∧ (¬ (S.1 148 (Int32.toNatClampNeg 0)) ≤ x5 → p_X11_canCharge  S x5 a1 (fun r28 S27 => ((r28 = false → p_X11_accuser_63 a1 (p_X11_accuser_31 a1 post fu31) post S27 x2 x3 x5 0) ∧ (r28 = true → p_X11_gainOf  S27 x5 a1 (fun r30 S29 => p_X11_accuser_63 a1 (p_X11_accuser_31 a1 post fu31) post S29 x2 x3 x5 r30)))))))
theorem e_X11_accuser_31  (a1 : Int32)   (post : Int32 → vSt → Prop) (fu31 : Nat) (S : vSt) (x2 : Int32) (x3 : Int64) (x5 : Int32) : p_X11_accuser_31 a1 post (fu31 + 1) S x2 x3 x5 = ((vp_in 0 1900 ∧ (((S.1 148 (Int32.toNatClampNeg 0)) ≤ x5 → ((0 ≤ x2 → post x2 S) ∧ (¬ 0 ≤ x2 → p_X11_refuse  S 8 (fun r26 S25 => post r26 S25)))) ∧ (¬ (S.1 148 (Int32.toNatClampNeg 0)) ≤ x5 → p_X11_canCharge  S x5 a1 (fun r28 S27 => ((r28 = false → p_X11_accuser_63 a1 (p_X11_accuser_31 a1 post fu31) post S27 x2 x3 x5 0) ∧ (r28 = true → p_X11_gainOf  S27 x5 a1 (fun r30 S29 => p_X11_accuser_63 a1 (p_X11_accuser_31 a1 post fu31) post S29 x2 x3 x5 r30)))))))) := rfl
def p_X11_accuser   (S : vSt) (a1 : Int32) (post : Int32 → vSt → Prop) : Prop := ∀ S21, S21 = v_si S 143 1 0 → ∀ S22, S22 = v_si S21 143 0 0 → p_X11_isDeedAt  S22 a1 (fun r24 S23 => ((r24 = true → ∃ fu31, p_X11_accuser_31 a1 post fu31 S23 (-1) 0 0) ∧ (r24 = false → p_X11_refuse  S23 2 (fun r26 S25 => post r26 S25))))
set_option maxHeartbeats 4000000 in
set_option maxRecDepth 100000 in
theorem q_X11_accuser_81 {X : vX} {G : vG}  {post : Int32 → vSt → Prop} (C : v_Cx X G cX11_accuser RX11 8 (v_rm 5 154)) (D : v_Rx X G (v_Qi G post) (some .int))  {a1 : Int32}  {K31 : vSt → Int32 → Int64 → Int32 → Prop} (hK31 : ∀ S x2 x3 x5, K31 S x2 x3 x5 → VJ X G S 31 [(0, .ref (G.1 143)), (1, .int a1), (2, .int x2), (3, .long x3), (5, .int x5)] []) : ∀ (S : vSt) (x2 : Int32) (x3 : Int64) (x5 : Int32), p_X11_accuser_81 a1 K31 post S x2 x3 x5 → VJ X G S 81 [(0, .ref (G.1 143)), (1, .int a1), (2, .int x2), (3, .long x3), (5, .int x5)] [] := by
  intro S x2 x3 x5 h
  obtain ⟨y29, ey29⟩ : ∃ z : Int32, z = x5 + 1 := ⟨_, rfl⟩
  have h := h y29 ey29
  refine V_iinc (lv' := [(0, .ref (G.1 143)), (1, .int a1), (2, .int x2), (3, .long x3), (5, .int y29)]) C 4 [1, 2, 3, 4, 0] y29 dX11_accuser_81 rfl (by rw [ey29]; rfl) (by decide) rfl ?_
  refine V_goto (tgt := 31) C dX11_accuser_84 (by decide) ?_
  exact hK31 _ _ _ _ h
set_option maxHeartbeats 4000000 in
set_option maxRecDepth 100000 in
theorem q_X11_accuser_63 {X : vX} {G : vG}  {post : Int32 → vSt → Prop} (C : v_Cx X G cX11_accuser RX11 8 (v_rm 5 154)) (D : v_Rx X G (v_Qi G post) (some .int))  {a1 : Int32}  {K31 : vSt → Int32 → Int64 → Int32 → Prop} (hK31 : ∀ S x2 x3 x5, K31 S x2 x3 x5 → VJ X G S 31 [(0, .ref (G.1 143)), (1, .int a1), (2, .int x2), (3, .long x3), (5, .int x5)] []) : ∀ (S : vSt) (x2 : Int32) (x3 : Int64) (x5 : Int32) (s0 : Int64), p_X11_accuser_63 a1 K31 post S x2 x3 x5 s0 → VJ X G S 63 [(0, .ref (G.1 143)), (1, .int a1), (2, .int x2), (3, .long x3), (5, .int x5)] [.long s0] := by
  intro S x2 x3 x5 s0 h
  refine V_lstore (lv' := [(0, .ref (G.1 143)), (1, .int a1), (2, .int x2), (3, .long x3), (5, .int x5), (6, .long s0)]) C [1, 2, 3, 4, 5, 0] dX11_accuser_63 (by decide) rfl ?_
  refine V_lload C 5 dX11_accuser_65 rfl ?_
  refine V_lload_n C 3 dX11_accuser_67 rfl rfl ?_
  refine V_lcmp_gt (tgt := 75) C dX11_accuser_68 dX11_accuser_69 (by decide) (fun c => ?_) (fun c => ?_)
  · have h := h.1 c
    refine V_lload C 5 dX11_accuser_75 rfl ?_
    refine V_lstore_n (lv' := [(0, .ref (G.1 143)), (1, .int a1), (2, .int x2), (3, .long s0), (5, .int x5), (6, .long s0)]) C [1, 2, 3, 0, 4, 5] dX11_accuser_77 rfl (by decide) rfl ?_
    refine V_iload C 4 dX11_accuser_78 rfl ?_
    refine V_istore_n (lv' := [(0, .ref (G.1 143)), (1, .int a1), (2, .int x5), (3, .long s0), (5, .int x5), (6, .long s0)]) C [1, 2, 0, 3, 4, 5] dX11_accuser_80 rfl (by decide) rfl ?_
    refine V_loc (lv' := [(0, .ref (G.1 143)), (1, .int a1), (2, .int x5), (3, .long s0), (5, .int x5)]) [0, 1, 2, 3, 4] rfl ?_
    exact q_X11_accuser_81 C D hK31 _ _ _ _ h
  · have h := h.2 c
    refine V_goto (tgt := 81) C dX11_accuser_72 (by decide) ?_
    refine V_loc (lv' := [(0, .ref (G.1 143)), (1, .int a1), (2, .int x2), (3, .long x3), (5, .int x5)]) [0, 1, 2, 3, 4] rfl ?_
    exact q_X11_accuser_81 C D hK31 _ _ _ _ h
set_option maxHeartbeats 4000000 in
set_option maxRecDepth 100000 in
theorem q_X11_accuser_31 {X : vX} {G : vG}  {post : Int32 → vSt → Prop} (C : v_Cx X G cX11_accuser RX11 8 (v_rm 5 154)) (D : v_Rx X G (v_Qi G post) (some .int))  {a1 : Int32}   : ∀ (fu : Nat) (S : vSt) (x2 : Int32) (x3 : Int64) (x5 : Int32), p_X11_accuser_31 a1 post fu S x2 x3 x5 → VJ X G S 31 [(0, .ref (G.1 143)), (1, .int a1), (2, .int x2), (3, .long x3), (5, .int x5)] [] := by
  intro fu
  induction fu with
  | zero => intro S x2 x3 x5 h; exact absurd h id
  | succ fu ih =>
    intro S x2 x3 x5 h
    have hK31 := ih
    rw [e_X11_accuser_31] at h
    refine V_iload C 4 dX11_accuser_31 rfl ?_
    refine V_aload_n C 0 dX11_accuser_33 rfl rfl ?_
    refine V_ga C 143 (by decide) (by decide) F_11_20 k_RX11_35 dX11_accuser_34 ?_
    refine V_iconst (v := 0) C dX11_accuser_37 (by decide) ?_
    obtain ⟨hi, h⟩ := h
    refine V_iald C 148 1900 (by decide) (by decide) hi dX11_accuser_38 ?_
    refine V_icmp_ge (tgt := 87) C dX11_accuser_39 (by decide) (fun c => ?_) (fun c => ?_)
    · have h := h.1 c
      refine V_iload_n C 2 dX11_accuser_87 rfl rfl ?_
      refine V_if_ge (tgt := 100) C dX11_accuser_88 (by decide) (fun c => ?_) (fun c => ?_)
      · have h := h.1 c
        refine V_iload_n C 2 dX11_accuser_100 rfl rfl ?_
        exact V_iret C D dX11_accuser_101 h
      · have h := h.2 c
        refine V_aload_n C 0 dX11_accuser_91 rfl rfl ?_
        refine V_bipush (v := 8) C dX11_accuser_92 (by decide) ?_
        refine V_callVi (As := [.int 8]) (rest := []) C (c_X11_refuse (v_l X) G  _ _ h) 143 11 (by decide) (by decide) (by decide) rfl KV_X11_refuse k_RX11_303 rfl rfl rfl (Nat.le_of_ble_eq_true rfl) ⟨Nat.le_of_ble_eq_true rfl, Nat.le_of_ble_eq_true rfl⟩ dX11_accuser_94 (fun r26 S25 h => ?_)
        refine V_goto (tgt := 101) C dX11_accuser_97 (by decide) ?_
        exact V_iret C D dX11_accuser_101 h
    · have h := h.2 c
      refine V_aload_n C 0 dX11_accuser_42 rfl rfl ?_
      refine V_iload C 4 dX11_accuser_43 rfl ?_
      refine V_iload_n C 1 dX11_accuser_45 rfl rfl ?_
      refine V_callVz (As := [.int x5, .int a1]) (rest := []) C (c_X11_canCharge (v_l X) G  _ _ _ h) 143 11 (by decide) (by decide) (by decide) rfl KV_X11_canCharge k_RX11_338 rfl rfl rfl (Nat.le_of_ble_eq_true rfl) ⟨Nat.le_of_ble_eq_true rfl, Nat.le_of_ble_eq_true rfl⟩ dX11_accuser_46 (fun r28 S27 h => ?_)
      refine V_ifb_eq (tgt := 62) C dX11_accuser_49 (by decide) (fun c => ?_) (fun c => ?_)
      · have h := h.1 c
        refine V_lconst (v := 0) C dX11_accuser_62 (by decide) ?_
        exact q_X11_accuser_63 C D hK31 _ _ _ _ _ h
      · have h := h.2 c
        refine V_aload_n C 0 dX11_accuser_52 rfl rfl ?_
        refine V_iload C 4 dX11_accuser_53 rfl ?_
        refine V_iload_n C 1 dX11_accuser_55 rfl rfl ?_
        refine V_callVl (As := [.int x5, .int a1]) (rest := []) C (c_X11_gainOf (v_l X) G  _ _ _ h) 143 11 (by decide) (by decide) (by decide) rfl KV_X11_gainOf k_RX11_395 rfl rfl rfl (Nat.le_of_ble_eq_true rfl) ⟨Nat.le_of_ble_eq_true rfl, Nat.le_of_ble_eq_true rfl⟩ dX11_accuser_56 (fun r30 S29 h => ?_)
        refine V_goto (tgt := 63) C dX11_accuser_59 (by decide) ?_
        exact q_X11_accuser_63 C D hK31 _ _ _ _ _ h
set_option maxHeartbeats 4000000 in
set_option maxRecDepth 100000 in
theorem c_X11_accuser (l : Launch) (G : vG)    {S : vSt} (a1 : Int32) (post : Int32 → vSt → Prop) (h : p_X11_accuser   S a1 post) : Met l yX11_accuser (v_ws yX11_accuser cX11_accuser 8 (some .int)) (v_rm 5 154) (v_Pc G [.ref (G.1 143), .int a1] S) (v_Qi G post) 0 0 (v_A G) := by
  refine v_start (by decide +kernel) (Nat.le_of_ble_eq_true rfl) (fun X hl C D => ?_)
  subst hl
  have C : v_Cx X G cX11_accuser RX11 8 (v_rm 5 154) := C
  show VJ X G S 0 [(0, .ref (G.1 143)), (1, .int a1)] []
  refine V_aload_n C 0 dX11_accuser_0 rfl rfl ?_
  refine V_iconst (v := 0) C dX11_accuser_1 (by decide) ?_
  refine V_pi C 143 (by decide) (by decide) P_11_1 k_RX11_60 dX11_accuser_2 ?_
  refine V_topS (fun S21 eS21 => ?_)
  have h := h S21 eS21
  refine V_aload_n C 0 dX11_accuser_5 rfl rfl ?_
  refine V_iconst (v := 0) C dX11_accuser_6 (by decide) ?_
  refine V_pi C 143 (by decide) (by decide) P_11_0 k_RX11_63 dX11_accuser_7 ?_
  refine V_topS (fun S22 eS22 => ?_)
  have h := h S22 eS22
  refine V_aload_n C 0 dX11_accuser_10 rfl rfl ?_
  refine V_iload_n C 1 dX11_accuser_11 rfl rfl ?_
  refine V_callVz (As := [.int a1]) (rest := []) C (c_X11_isDeedAt (v_l X) G  _ _ h) 143 11 (by decide) (by decide) (by decide) rfl KV_X11_isDeedAt k_RX11_292 rfl rfl rfl (Nat.le_of_ble_eq_true rfl) ⟨Nat.le_of_ble_eq_true rfl, Nat.le_of_ble_eq_true rfl⟩ dX11_accuser_12 (fun r24 S23 h => ?_)
  refine V_ifb_ne (tgt := 24) C dX11_accuser_15 (by decide) (fun c => ?_) (fun c => ?_)
  · have h := h.1 c
    refine V_iconst (v := (-1)) C dX11_accuser_24 (by decide) ?_
    refine V_istore_n (lv' := [(0, .ref (G.1 143)), (1, .int a1), (2, .int (-1))]) C [1, 2, 0] dX11_accuser_25 rfl (by decide) rfl ?_
    refine V_lconst (v := 0) C dX11_accuser_26 (by decide) ?_
    refine V_lstore_n (lv' := [(0, .ref (G.1 143)), (1, .int a1), (2, .int (-1)), (3, .long 0)]) C [1, 2, 3, 0] dX11_accuser_27 rfl (by decide) rfl ?_
    refine V_iconst (v := 0) C dX11_accuser_28 (by decide) ?_
    refine V_istore (lv' := [(0, .ref (G.1 143)), (1, .int a1), (2, .int (-1)), (3, .long 0), (5, .int 0)]) C [1, 2, 3, 4, 0] dX11_accuser_29 (by decide) rfl ?_
    obtain ⟨fu31, h⟩ := h
    exact q_X11_accuser_31 C D  fu31 _ _ _ _ h
  · have h := h.2 c
    refine V_aload_n C 0 dX11_accuser_18 rfl rfl ?_
    refine V_iconst (v := 2) C dX11_accuser_19 (by decide) ?_
    refine V_callVi (As := [.int 2]) (rest := []) C (c_X11_refuse (v_l X) G  _ _ h) 143 11 (by decide) (by decide) (by decide) rfl KV_X11_refuse k_RX11_303 rfl rfl rfl (Nat.le_of_ble_eq_true rfl) ⟨Nat.le_of_ble_eq_true rfl, Nat.le_of_ble_eq_true rfl⟩ dX11_accuser_20 (fun r26 S25 h => ?_)
    exact V_iret C D dX11_accuser_23 h
/-! HalfAccuserModel.dreadOf(I)J -/
theorem dX11_dreadOf_0 : decode cX11_dreadOf 0 = .ok ((.ldc2_w 91), 3) := by decide +kernel
theorem dX11_dreadOf_3 : decode cX11_dreadOf 3 = .ok ((.lstore_n 2), 1) := by decide +kernel
theorem dX11_dreadOf_4 : decode cX11_dreadOf 4 = .ok ((.iconst 0), 1) := by decide +kernel
theorem dX11_dreadOf_5 : decode cX11_dreadOf 5 = .ok ((.istore 4), 2) := by decide +kernel
theorem dX11_dreadOf_7 : decode cX11_dreadOf 7 = .ok ((.iload 4), 2) := by decide +kernel
theorem dX11_dreadOf_9 : decode cX11_dreadOf 9 = .ok ((.aload_n 0), 1) := by decide +kernel
theorem dX11_dreadOf_10 : decode cX11_dreadOf 10 = .ok ((.getfield 35), 3) := by decide +kernel
theorem dX11_dreadOf_13 : decode cX11_dreadOf 13 = .ok ((.iconst 0), 1) := by decide +kernel
theorem dX11_dreadOf_14 : decode cX11_dreadOf 14 = .ok (.iaload, 1) := by decide +kernel
theorem dX11_dreadOf_15 : decode cX11_dreadOf 15 = .ok ((.if_icmp .ge 43), 3) := by decide +kernel
theorem dX11_dreadOf_18 : decode cX11_dreadOf 18 = .ok ((.aload_n 0), 1) := by decide +kernel
theorem dX11_dreadOf_19 : decode cX11_dreadOf 19 = .ok ((.iload 4), 2) := by decide +kernel
theorem dX11_dreadOf_21 : decode cX11_dreadOf 21 = .ok ((.iload_n 1), 1) := by decide +kernel
theorem dX11_dreadOf_22 : decode cX11_dreadOf 22 = .ok ((.invokevirtual 338), 3) := by decide +kernel
theorem dX11_dreadOf_25 : decode cX11_dreadOf 25 = .ok ((.ifCond .eq 27), 3) := by decide +kernel
theorem dX11_dreadOf_28 : decode cX11_dreadOf 28 = .ok ((.aload_n 0), 1) := by decide +kernel
theorem dX11_dreadOf_29 : decode cX11_dreadOf 29 = .ok ((.iload 4), 2) := by decide +kernel
theorem dX11_dreadOf_31 : decode cX11_dreadOf 31 = .ok ((.iload_n 1), 1) := by decide +kernel
theorem dX11_dreadOf_32 : decode cX11_dreadOf 32 = .ok ((.invokevirtual 395), 3) := by decide +kernel
theorem dX11_dreadOf_35 : decode cX11_dreadOf 35 = .ok ((.lconst 0), 1) := by decide +kernel
theorem dX11_dreadOf_36 : decode cX11_dreadOf 36 = .ok (.lcmp, 1) := by decide +kernel
theorem dX11_dreadOf_37 : decode cX11_dreadOf 37 = .ok ((.ifCond .le 15), 3) := by decide +kernel
theorem dX11_dreadOf_40 : decode cX11_dreadOf 40 = .ok ((.lload_n 2), 1) := by decide +kernel
theorem dX11_dreadOf_41 : decode cX11_dreadOf 41 = .ok ((.aload_n 0), 1) := by decide +kernel
theorem dX11_dreadOf_42 : decode cX11_dreadOf 42 = .ok ((.iload 4), 2) := by decide +kernel
theorem dX11_dreadOf_44 : decode cX11_dreadOf 44 = .ok ((.iload_n 1), 1) := by decide +kernel
theorem dX11_dreadOf_45 : decode cX11_dreadOf 45 = .ok ((.invokevirtual 398), 3) := by decide +kernel
theorem dX11_dreadOf_48 : decode cX11_dreadOf 48 = .ok ((.invokestatic 401), 3) := by decide +kernel
theorem dX11_dreadOf_51 : decode cX11_dreadOf 51 = .ok ((.lstore_n 2), 1) := by decide +kernel
theorem dX11_dreadOf_52 : decode cX11_dreadOf 52 = .ok ((.iinc 4 1), 3) := by decide +kernel
theorem dX11_dreadOf_55 : decode cX11_dreadOf 55 = .ok ((.goto (-48)), 3) := by decide +kernel
theorem dX11_dreadOf_58 : decode cX11_dreadOf 58 = .ok ((.lload_n 2), 1) := by decide +kernel
theorem dX11_dreadOf_59 : decode cX11_dreadOf 59 = .ok (.lreturn, 1) := by decide +kernel
def p_X11_dreadOf_52  (a1 : Int32)  (K7 : vSt → Int64 → Int32 → Prop) (post : Int64 → vSt → Prop) (S : vSt) (x2 : Int64) (x4 : Int32) : Prop := ∀ y19 : Int32, y19 = x4 + 1 → K7 S x2 y19
def p_X11_dreadOf_7  (a1 : Int32)   (post : Int64 → vSt → Prop) : Nat → vSt → Int64 → Int32 → Prop
  | 0 => fun _ _ _ => False
  | fu7 + 1 => fun S x2 x4 => (vp_in 0 1900 ∧ (((S.1 148 (Int32.toNatClampNeg 0)) ≤ x4 → post x2 S) ∧ (¬ (S.1 148 (Int32.toNatClampNeg 0)) ≤ x4 → p_X11_canCharge  S x4 a1 (fun r18 S17 => ((r18 = false → p_X11_dreadOf_52 a1 (p_X11_dreadOf_7 a1 post fu7) post S17 x2 x4) ∧ (r18 = true → p_X11_gainOf  S17 x4 a1 (fun r20 S19 => ((r20 ≤ 0 → p_X11_dreadOf_52 a1 (p_X11_dreadOf_7 a1 post fu7) post S19 x2 x4) ∧ (¬ r20 ≤ 0 → p_X11_lossOf  S19 x4 a1 (fun r22 S21 => ∀ y23 : Int64, y23 = (v_maxl x2 r22) → p_X11_dreadOf_52 a1 (p_X11_dreadOf_7 a1 post fu7) post S21 y23 x4))))))))))
theorem e_X11_dreadOf_7  (a1 : Int32)   (post : Int64 → vSt → Prop) (fu7 : Nat) (S : vSt) (x2 : Int64) (x4 : Int32) : p_X11_dreadOf_7 a1 post (fu7 + 1) S x2 x4 = ((vp_in 0 1900 ∧ (((S.1 148 (Int32.toNatClampNeg 0)) ≤ x4 → post x2 S) ∧ (¬ (S.1 148 (Int32.toNatClampNeg 0)) ≤ x4 → p_X11_canCharge  S x4 a1 (fun r18 S17 => ((r18 = false → p_X11_dreadOf_52 a1 (p_X11_dreadOf_7 a1 post fu7) post S17 x2 x4) ∧ (r18 = true → p_X11_gainOf  S17 x4 a1 (fun r20 S19 => ((r20 ≤ 0 → p_X11_dreadOf_52 a1 (p_X11_dreadOf_7 a1 post fu7) post S19 x2 x4) ∧ (¬ r20 ≤ 0 → p_X11_lossOf  S19 x4 a1 (fun r22 S21 => ∀ y23 : Int64, y23 = (v_maxl x2 r22) → p_X11_dreadOf_52 a1 (p_X11_dreadOf_7 a1 post fu7) post S21 y23 x4))))))))))) := rfl
def p_X11_dreadOf   (S : vSt) (a1 : Int32) (post : Int64 → vSt → Prop) : Prop := ∃ fu7, p_X11_dreadOf_7 a1 post fu7 S (-1) 0
set_option maxHeartbeats 4000000 in
set_option maxRecDepth 100000 in
theorem q_X11_dreadOf_52 {X : vX} {G : vG}  {post : Int64 → vSt → Prop} (C : v_Cx X G cX11_dreadOf RX11 5 (v_rm 5 154)) (D : v_Rx X G (v_Ql G post) (some .long))  {a1 : Int32}  {K7 : vSt → Int64 → Int32 → Prop} (hK7 : ∀ S x2 x4, K7 S x2 x4 → VJ X G S 7 [(0, .ref (G.1 143)), (1, .int a1), (2, .long x2), (4, .int x4)] []) : ∀ (S : vSt) (x2 : Int64) (x4 : Int32), p_X11_dreadOf_52 a1 K7 post S x2 x4 → VJ X G S 52 [(0, .ref (G.1 143)), (1, .int a1), (2, .long x2), (4, .int x4)] [] := by
  intro S x2 x4 h
  obtain ⟨y19, ey19⟩ : ∃ z : Int32, z = x4 + 1 := ⟨_, rfl⟩
  have h := h y19 ey19
  refine V_iinc (lv' := [(0, .ref (G.1 143)), (1, .int a1), (2, .long x2), (4, .int y19)]) C 3 [1, 2, 3, 0] y19 dX11_dreadOf_52 rfl (by rw [ey19]; rfl) (by decide) rfl ?_
  refine V_goto (tgt := 7) C dX11_dreadOf_55 (by decide) ?_
  exact hK7 _ _ _ h
set_option maxHeartbeats 4000000 in
set_option maxRecDepth 100000 in
theorem q_X11_dreadOf_7 {X : vX} {G : vG}  {post : Int64 → vSt → Prop} (C : v_Cx X G cX11_dreadOf RX11 5 (v_rm 5 154)) (D : v_Rx X G (v_Ql G post) (some .long))  {a1 : Int32}   : ∀ (fu : Nat) (S : vSt) (x2 : Int64) (x4 : Int32), p_X11_dreadOf_7 a1 post fu S x2 x4 → VJ X G S 7 [(0, .ref (G.1 143)), (1, .int a1), (2, .long x2), (4, .int x4)] [] := by
  intro fu
  induction fu with
  | zero => intro S x2 x4 h; exact absurd h id
  | succ fu ih =>
    intro S x2 x4 h
    have hK7 := ih
    rw [e_X11_dreadOf_7] at h
    refine V_iload C 3 dX11_dreadOf_7 rfl ?_
    refine V_aload_n C 0 dX11_dreadOf_9 rfl rfl ?_
    refine V_ga C 143 (by decide) (by decide) F_11_20 k_RX11_35 dX11_dreadOf_10 ?_
    refine V_iconst (v := 0) C dX11_dreadOf_13 (by decide) ?_
    obtain ⟨hi, h⟩ := h
    refine V_iald C 148 1900 (by decide) (by decide) hi dX11_dreadOf_14 ?_
    refine V_icmp_ge (tgt := 58) C dX11_dreadOf_15 (by decide) (fun c => ?_) (fun c => ?_)
    · have h := h.1 c
      refine V_lload_n C 2 dX11_dreadOf_58 rfl rfl ?_
      exact V_lret C D dX11_dreadOf_59 h
    · have h := h.2 c
      refine V_aload_n C 0 dX11_dreadOf_18 rfl rfl ?_
      refine V_iload C 3 dX11_dreadOf_19 rfl ?_
      refine V_iload_n C 1 dX11_dreadOf_21 rfl rfl ?_
      refine V_callVz (As := [.int x4, .int a1]) (rest := []) C (c_X11_canCharge (v_l X) G  _ _ _ h) 143 11 (by decide) (by decide) (by decide) rfl KV_X11_canCharge k_RX11_338 rfl rfl rfl (Nat.le_of_ble_eq_true rfl) ⟨Nat.le_of_ble_eq_true rfl, Nat.le_of_ble_eq_true rfl⟩ dX11_dreadOf_22 (fun r18 S17 h => ?_)
      refine V_ifb_eq (tgt := 52) C dX11_dreadOf_25 (by decide) (fun c => ?_) (fun c => ?_)
      · have h := h.1 c
        exact q_X11_dreadOf_52 C D hK7 _ _ _ h
      · have h := h.2 c
        refine V_aload_n C 0 dX11_dreadOf_28 rfl rfl ?_
        refine V_iload C 3 dX11_dreadOf_29 rfl ?_
        refine V_iload_n C 1 dX11_dreadOf_31 rfl rfl ?_
        refine V_callVl (As := [.int x4, .int a1]) (rest := []) C (c_X11_gainOf (v_l X) G  _ _ _ h) 143 11 (by decide) (by decide) (by decide) rfl KV_X11_gainOf k_RX11_395 rfl rfl rfl (Nat.le_of_ble_eq_true rfl) ⟨Nat.le_of_ble_eq_true rfl, Nat.le_of_ble_eq_true rfl⟩ dX11_dreadOf_32 (fun r20 S19 h => ?_)
        refine V_lconst (v := 0) C dX11_dreadOf_35 (by decide) ?_
        refine V_lcmp_le (tgt := 52) C dX11_dreadOf_36 dX11_dreadOf_37 (by decide) (fun c => ?_) (fun c => ?_)
        · have h := h.1 c
          exact q_X11_dreadOf_52 C D hK7 _ _ _ h
        · have h := h.2 c
          refine V_lload_n C 2 dX11_dreadOf_40 rfl rfl ?_
          refine V_aload_n C 0 dX11_dreadOf_41 rfl rfl ?_
          refine V_iload C 3 dX11_dreadOf_42 rfl ?_
          refine V_iload_n C 1 dX11_dreadOf_44 rfl rfl ?_
          refine V_callVl (As := [.int x4, .int a1]) (rest := [.long x2]) C (c_X11_lossOf (v_l X) G  _ _ _ h) 143 11 (by decide) (by decide) (by decide) rfl KV_X11_lossOf k_RX11_398 rfl rfl rfl (Nat.le_of_ble_eq_true rfl) ⟨Nat.le_of_ble_eq_true rfl, Nat.le_of_ble_eq_true rfl⟩ dX11_dreadOf_45 (fun r22 S21 h => ?_)
          refine V_maxl C k_RX11_401 (Nat.le_of_ble_eq_true rfl) ⟨Nat.le_of_ble_eq_true rfl, Nat.le_of_ble_eq_true rfl⟩ dX11_dreadOf_48 ?_
          refine V_topl (fun y23 ey23 => ?_)
          have h := h y23 ey23
          refine V_lstore_n (lv' := [(0, .ref (G.1 143)), (1, .int a1), (2, .long y23), (4, .int x4)]) C [1, 2, 0, 3] dX11_dreadOf_51 rfl (by decide) rfl ?_
          exact q_X11_dreadOf_52 C D hK7 _ _ _ h
set_option maxHeartbeats 4000000 in
set_option maxRecDepth 100000 in
theorem c_X11_dreadOf (l : Launch) (G : vG)    {S : vSt} (a1 : Int32) (post : Int64 → vSt → Prop) (h : p_X11_dreadOf   S a1 post) : Met l yX11_dreadOf (v_ws yX11_dreadOf cX11_dreadOf 5 (some .long)) (v_rm 5 154) (v_Pc G [.ref (G.1 143), .int a1] S) (v_Ql G post) 0 0 (v_A G) := by
  refine v_start (by decide +kernel) (Nat.le_of_ble_eq_true rfl) (fun X hl C D => ?_)
  subst hl
  have C : v_Cx X G cX11_dreadOf RX11 5 (v_rm 5 154) := C
  show VJ X G S 0 [(0, .ref (G.1 143)), (1, .int a1)] []
  refine V_ldc2 (v := (-1)) C k_RX11_91 dX11_dreadOf_0 ?_
  refine V_lstore_n (lv' := [(0, .ref (G.1 143)), (1, .int a1), (2, .long (-1))]) C [1, 2, 0] dX11_dreadOf_3 rfl (by decide) rfl ?_
  refine V_iconst (v := 0) C dX11_dreadOf_4 (by decide) ?_
  refine V_istore (lv' := [(0, .ref (G.1 143)), (1, .int a1), (2, .long (-1)), (4, .int 0)]) C [1, 2, 3, 0] dX11_dreadOf_5 (by decide) rfl ?_
  obtain ⟨fu7, h⟩ := h
  exact q_X11_dreadOf_7 C D  fu7 _ _ _ h
/-! HalfAccuserModel.dreaded(I)I -/
theorem dX11_dreaded_0 : decode cX11_dreaded 0 = .ok ((.aload_n 0), 1) := by decide +kernel
theorem dX11_dreaded_1 : decode cX11_dreaded 1 = .ok ((.iconst 0), 1) := by decide +kernel
theorem dX11_dreaded_2 : decode cX11_dreaded 2 = .ok ((.putfield 60), 3) := by decide +kernel
theorem dX11_dreaded_5 : decode cX11_dreaded 5 = .ok ((.aload_n 0), 1) := by decide +kernel
theorem dX11_dreaded_6 : decode cX11_dreaded 6 = .ok ((.iconst 0), 1) := by decide +kernel
theorem dX11_dreaded_7 : decode cX11_dreaded 7 = .ok ((.putfield 63), 3) := by decide +kernel
theorem dX11_dreaded_10 : decode cX11_dreaded 10 = .ok ((.aload_n 0), 1) := by decide +kernel
theorem dX11_dreaded_11 : decode cX11_dreaded 11 = .ok ((.iload_n 1), 1) := by decide +kernel
theorem dX11_dreaded_12 : decode cX11_dreaded 12 = .ok ((.invokevirtual 289), 3) := by decide +kernel
theorem dX11_dreaded_15 : decode cX11_dreaded 15 = .ok ((.ifCond .ne 9), 3) := by decide +kernel
theorem dX11_dreaded_18 : decode cX11_dreaded 18 = .ok ((.aload_n 0), 1) := by decide +kernel
theorem dX11_dreaded_19 : decode cX11_dreaded 19 = .ok ((.iconst 2), 1) := by decide +kernel
theorem dX11_dreaded_20 : decode cX11_dreaded 20 = .ok ((.invokevirtual 303), 3) := by decide +kernel
theorem dX11_dreaded_23 : decode cX11_dreaded 23 = .ok (.ireturn, 1) := by decide +kernel
theorem dX11_dreaded_24 : decode cX11_dreaded 24 = .ok ((.iconst (-1)), 1) := by decide +kernel
theorem dX11_dreaded_25 : decode cX11_dreaded 25 = .ok ((.istore_n 2), 1) := by decide +kernel
theorem dX11_dreaded_26 : decode cX11_dreaded 26 = .ok ((.ldc2_w 91), 3) := by decide +kernel
theorem dX11_dreaded_29 : decode cX11_dreaded 29 = .ok ((.lstore_n 3), 1) := by decide +kernel
theorem dX11_dreaded_30 : decode cX11_dreaded 30 = .ok ((.iconst 0), 1) := by decide +kernel
theorem dX11_dreaded_31 : decode cX11_dreaded 31 = .ok ((.istore 5), 2) := by decide +kernel
theorem dX11_dreaded_33 : decode cX11_dreaded 33 = .ok ((.iload 5), 2) := by decide +kernel
theorem dX11_dreaded_35 : decode cX11_dreaded 35 = .ok ((.aload_n 0), 1) := by decide +kernel
theorem dX11_dreaded_36 : decode cX11_dreaded 36 = .ok ((.getfield 35), 3) := by decide +kernel
theorem dX11_dreaded_39 : decode cX11_dreaded 39 = .ok ((.iconst 1), 1) := by decide +kernel
theorem dX11_dreaded_40 : decode cX11_dreaded 40 = .ok (.iaload, 1) := by decide +kernel
theorem dX11_dreaded_41 : decode cX11_dreaded 41 = .ok ((.if_icmp .ge 62), 3) := by decide +kernel
theorem dX11_dreaded_44 : decode cX11_dreaded 44 = .ok ((.aload_n 0), 1) := by decide +kernel
theorem dX11_dreaded_45 : decode cX11_dreaded 45 = .ok ((.getfield 35), 3) := by decide +kernel
theorem dX11_dreaded_48 : decode cX11_dreaded 48 = .ok ((.bipush 48), 2) := by decide +kernel
theorem dX11_dreaded_50 : decode cX11_dreaded 50 = .ok ((.iload 5), 2) := by decide +kernel
theorem dX11_dreaded_52 : decode cX11_dreaded 52 = .ok (.iadd, 1) := by decide +kernel
theorem dX11_dreaded_53 : decode cX11_dreaded 53 = .ok (.iaload, 1) := by decide +kernel
theorem dX11_dreaded_54 : decode cX11_dreaded 54 = .ok ((.iload_n 1), 1) := by decide +kernel
theorem dX11_dreaded_55 : decode cX11_dreaded 55 = .ok ((.if_icmp .ne 21), 3) := by decide +kernel
theorem dX11_dreaded_58 : decode cX11_dreaded 58 = .ok ((.aload_n 0), 1) := by decide +kernel
theorem dX11_dreaded_59 : decode cX11_dreaded 59 = .ok ((.iload 5), 2) := by decide +kernel
theorem dX11_dreaded_61 : decode cX11_dreaded 61 = .ok ((.invokevirtual 295), 3) := by decide +kernel
theorem dX11_dreaded_64 : decode cX11_dreaded 64 = .ok ((.ifCond .eq 12), 3) := by decide +kernel
theorem dX11_dreaded_67 : decode cX11_dreaded 67 = .ok ((.aload_n 0), 1) := by decide +kernel
theorem dX11_dreaded_68 : decode cX11_dreaded 68 = .ok ((.iload 5), 2) := by decide +kernel
theorem dX11_dreaded_70 : decode cX11_dreaded 70 = .ok ((.invokevirtual 404), 3) := by decide +kernel
theorem dX11_dreaded_73 : decode cX11_dreaded 73 = .ok ((.goto 6), 3) := by decide +kernel
theorem dX11_dreaded_76 : decode cX11_dreaded 76 = .ok ((.ldc2_w 91), 3) := by decide +kernel
theorem dX11_dreaded_79 : decode cX11_dreaded 79 = .ok ((.lstore 6), 2) := by decide +kernel
theorem dX11_dreaded_81 : decode cX11_dreaded 81 = .ok ((.lload 6), 2) := by decide +kernel
theorem dX11_dreaded_83 : decode cX11_dreaded 83 = .ok ((.lload_n 3), 1) := by decide +kernel
theorem dX11_dreaded_84 : decode cX11_dreaded 84 = .ok (.lcmp, 1) := by decide +kernel
theorem dX11_dreaded_85 : decode cX11_dreaded 85 = .ok ((.ifCond .gt 6), 3) := by decide +kernel
theorem dX11_dreaded_88 : decode cX11_dreaded 88 = .ok ((.goto 9), 3) := by decide +kernel
theorem dX11_dreaded_91 : decode cX11_dreaded 91 = .ok ((.lload 6), 2) := by decide +kernel
theorem dX11_dreaded_93 : decode cX11_dreaded 93 = .ok ((.lstore_n 3), 1) := by decide +kernel
theorem dX11_dreaded_94 : decode cX11_dreaded 94 = .ok ((.iload 5), 2) := by decide +kernel
theorem dX11_dreaded_96 : decode cX11_dreaded 96 = .ok ((.istore_n 2), 1) := by decide +kernel
theorem dX11_dreaded_97 : decode cX11_dreaded 97 = .ok ((.iinc 5 1), 3) := by decide +kernel
theorem dX11_dreaded_100 : decode cX11_dreaded 100 = .ok ((.goto (-67)), 3) := by decide +kernel
theorem dX11_dreaded_103 : decode cX11_dreaded 103 = .ok ((.iload_n 2), 1) := by decide +kernel
theorem dX11_dreaded_104 : decode cX11_dreaded 104 = .ok ((.ifCond .ge 12), 3) := by decide +kernel
theorem dX11_dreaded_107 : decode cX11_dreaded 107 = .ok ((.aload_n 0), 1) := by decide +kernel
theorem dX11_dreaded_108 : decode cX11_dreaded 108 = .ok ((.bipush 8), 2) := by decide +kernel
theorem dX11_dreaded_110 : decode cX11_dreaded 110 = .ok ((.invokevirtual 303), 3) := by decide +kernel
theorem dX11_dreaded_113 : decode cX11_dreaded 113 = .ok ((.goto 4), 3) := by decide +kernel
theorem dX11_dreaded_116 : decode cX11_dreaded 116 = .ok ((.iload_n 2), 1) := by decide +kernel
theorem dX11_dreaded_117 : decode cX11_dreaded 117 = .ok (.ireturn, 1) := by decide +kernel
def p_X11_dreaded_97  (a1 : Int32)  (K33 : vSt → Int32 → Int64 → Int32 → Prop) (post : Int32 → vSt → Prop) (S : vSt) (x2 : Int32) (x3 : Int64) (x5 : Int32) : Prop := ∀ y27 : Int32, y27 = x5 + 1 → K33 S x2 x3 y27
def p_X11_dreaded_79  (a1 : Int32)  (K33 : vSt → Int32 → Int64 → Int32 → Prop) (post : Int32 → vSt → Prop) (S : vSt) (x2 : Int32) (x3 : Int64) (x5 : Int32) (s0 : Int64) : Prop := ((x3 < s0 → p_X11_dreaded_97 a1 K33 post S x5 s0 x5) ∧ (¬ x3 < s0 → p_X11_dreaded_97 a1 K33 post S x2 x3 x5))
def p_X11_dreaded_76  (a1 : Int32)  (K33 : vSt → Int32 → Int64 → Int32 → Prop) (post : Int32 → vSt → Prop) (S : vSt) (x2 : Int32) (x3 : Int64) (x5 : Int32) : Prop := p_X11_dreaded_79 a1 K33 post S x2 x3 x5 (-1)
def p_X11_dreaded_33  (a1 : Int32)   (post : Int32 → vSt → Prop) : Nat → vSt → Int32 → Int64 → Int32 → Prop
  | 0 => fun _ _ _ _ => False
  | fu33 + 1 => fun S x2 x3 x5 => (vp_in 1 1900 ∧ (((S.1 148 (Int32.toNatClampNeg 1)) ≤ x5 → ((0 ≤ x2 → post x2 S) ∧ (¬ 0 ≤ x2 → p_X11_refuse  S 8 (fun r26 S25 => post r26 S25)))) ∧ (¬ (S.1 148 (Int32.toNatClampNeg 1)) ≤ x5 → (vp_in (48 + x5) 1900 ∧ ((¬ (S.1 148 (Int32.toNatClampNeg (48 + x5))) = a1 → p_X11_dreaded_76 a1 (p_X11_dreaded_33 a1 post fu33) post S x2 x3 x5) ∧ ((S.1 148 (Int32.toNatClampNeg (48 + x5))) = a1 → p_X11_isOpen  S x5 (fun r28 S27 => ((r28 = false → p_X11_dreaded_76 a1 (p_X11_dreaded_33 a1 post fu33) post S27 x2 x3 x5) ∧ (r28 = true → p_X11_dreadOf  S27 x5 (fun r30 S29 => p_X11_dreaded_79 a1 (p_X11_dreaded_33 a1 post fu33) post S29 x2 x3 x5 r30))))))))))
theorem e_X11_dreaded_33  (a1 : Int32)   (post : Int32 → vSt → Prop) (fu33 : Nat) (S : vSt) (x2 : Int32) (x3 : Int64) (x5 : Int32) : p_X11_dreaded_33 a1 post (fu33 + 1) S x2 x3 x5 = ((vp_in 1 1900 ∧ (((S.1 148 (Int32.toNatClampNeg 1)) ≤ x5 → ((0 ≤ x2 → post x2 S) ∧ (¬ 0 ≤ x2 → p_X11_refuse  S 8 (fun r26 S25 => post r26 S25)))) ∧ (¬ (S.1 148 (Int32.toNatClampNeg 1)) ≤ x5 → (vp_in (48 + x5) 1900 ∧ ((¬ (S.1 148 (Int32.toNatClampNeg (48 + x5))) = a1 → p_X11_dreaded_76 a1 (p_X11_dreaded_33 a1 post fu33) post S x2 x3 x5) ∧ ((S.1 148 (Int32.toNatClampNeg (48 + x5))) = a1 → p_X11_isOpen  S x5 (fun r28 S27 => ((r28 = false → p_X11_dreaded_76 a1 (p_X11_dreaded_33 a1 post fu33) post S27 x2 x3 x5) ∧ (r28 = true → p_X11_dreadOf  S27 x5 (fun r30 S29 => p_X11_dreaded_79 a1 (p_X11_dreaded_33 a1 post fu33) post S29 x2 x3 x5 r30))))))))))) := rfl
def p_X11_dreaded   (S : vSt) (a1 : Int32) (post : Int32 → vSt → Prop) : Prop := ∀ S21, S21 = v_si S 143 1 0 → ∀ S22, S22 = v_si S21 143 0 0 → p_X11_isOne  S22 a1 (fun r24 S23 => ((r24 = true → ∃ fu33, p_X11_dreaded_33 a1 post fu33 S23 (-1) (-1) 0) ∧ (r24 = false → p_X11_refuse  S23 2 (fun r26 S25 => post r26 S25))))
set_option maxHeartbeats 4000000 in
set_option maxRecDepth 100000 in
theorem q_X11_dreaded_97 {X : vX} {G : vG}  {post : Int32 → vSt → Prop} (C : v_Cx X G cX11_dreaded RX11 8 (v_rm 6 178)) (D : v_Rx X G (v_Qi G post) (some .int))  {a1 : Int32}  {K33 : vSt → Int32 → Int64 → Int32 → Prop} (hK33 : ∀ S x2 x3 x5, K33 S x2 x3 x5 → VJ X G S 33 [(0, .ref (G.1 143)), (1, .int a1), (2, .int x2), (3, .long x3), (5, .int x5)] []) : ∀ (S : vSt) (x2 : Int32) (x3 : Int64) (x5 : Int32), p_X11_dreaded_97 a1 K33 post S x2 x3 x5 → VJ X G S 97 [(0, .ref (G.1 143)), (1, .int a1), (2, .int x2), (3, .long x3), (5, .int x5)] [] := by
  intro S x2 x3 x5 h
  obtain ⟨y27, ey27⟩ : ∃ z : Int32, z = x5 + 1 := ⟨_, rfl⟩
  have h := h y27 ey27
  refine V_iinc (lv' := [(0, .ref (G.1 143)), (1, .int a1), (2, .int x2), (3, .long x3), (5, .int y27)]) C 4 [1, 2, 3, 4, 0] y27 dX11_dreaded_97 rfl (by rw [ey27]; rfl) (by decide) rfl ?_
  refine V_goto (tgt := 33) C dX11_dreaded_100 (by decide) ?_
  exact hK33 _ _ _ _ h
set_option maxHeartbeats 4000000 in
set_option maxRecDepth 100000 in
theorem q_X11_dreaded_79 {X : vX} {G : vG}  {post : Int32 → vSt → Prop} (C : v_Cx X G cX11_dreaded RX11 8 (v_rm 6 178)) (D : v_Rx X G (v_Qi G post) (some .int))  {a1 : Int32}  {K33 : vSt → Int32 → Int64 → Int32 → Prop} (hK33 : ∀ S x2 x3 x5, K33 S x2 x3 x5 → VJ X G S 33 [(0, .ref (G.1 143)), (1, .int a1), (2, .int x2), (3, .long x3), (5, .int x5)] []) : ∀ (S : vSt) (x2 : Int32) (x3 : Int64) (x5 : Int32) (s0 : Int64), p_X11_dreaded_79 a1 K33 post S x2 x3 x5 s0 → VJ X G S 79 [(0, .ref (G.1 143)), (1, .int a1), (2, .int x2), (3, .long x3), (5, .int x5)] [.long s0] := by
  intro S x2 x3 x5 s0 h
  refine V_lstore (lv' := [(0, .ref (G.1 143)), (1, .int a1), (2, .int x2), (3, .long x3), (5, .int x5), (6, .long s0)]) C [1, 2, 3, 4, 5, 0] dX11_dreaded_79 (by decide) rfl ?_
  refine V_lload C 5 dX11_dreaded_81 rfl ?_
  refine V_lload_n C 3 dX11_dreaded_83 rfl rfl ?_
  refine V_lcmp_gt (tgt := 91) C dX11_dreaded_84 dX11_dreaded_85 (by decide) (fun c => ?_) (fun c => ?_)
  · have h := h.1 c
    refine V_lload C 5 dX11_dreaded_91 rfl ?_
    refine V_lstore_n (lv' := [(0, .ref (G.1 143)), (1, .int a1), (2, .int x2), (3, .long s0), (5, .int x5), (6, .long s0)]) C [1, 2, 3, 0, 4, 5] dX11_dreaded_93 rfl (by decide) rfl ?_
    refine V_iload C 4 dX11_dreaded_94 rfl ?_
    refine V_istore_n (lv' := [(0, .ref (G.1 143)), (1, .int a1), (2, .int x5), (3, .long s0), (5, .int x5), (6, .long s0)]) C [1, 2, 0, 3, 4, 5] dX11_dreaded_96 rfl (by decide) rfl ?_
    refine V_loc (lv' := [(0, .ref (G.1 143)), (1, .int a1), (2, .int x5), (3, .long s0), (5, .int x5)]) [0, 1, 2, 3, 4] rfl ?_
    exact q_X11_dreaded_97 C D hK33 _ _ _ _ h
  · have h := h.2 c
    refine V_goto (tgt := 97) C dX11_dreaded_88 (by decide) ?_
    refine V_loc (lv' := [(0, .ref (G.1 143)), (1, .int a1), (2, .int x2), (3, .long x3), (5, .int x5)]) [0, 1, 2, 3, 4] rfl ?_
    exact q_X11_dreaded_97 C D hK33 _ _ _ _ h
set_option maxHeartbeats 4000000 in
set_option maxRecDepth 100000 in
theorem q_X11_dreaded_76 {X : vX} {G : vG}  {post : Int32 → vSt → Prop} (C : v_Cx X G cX11_dreaded RX11 8 (v_rm 6 178)) (D : v_Rx X G (v_Qi G post) (some .int))  {a1 : Int32}  {K33 : vSt → Int32 → Int64 → Int32 → Prop} (hK33 : ∀ S x2 x3 x5, K33 S x2 x3 x5 → VJ X G S 33 [(0, .ref (G.1 143)), (1, .int a1), (2, .int x2), (3, .long x3), (5, .int x5)] []) : ∀ (S : vSt) (x2 : Int32) (x3 : Int64) (x5 : Int32), p_X11_dreaded_76 a1 K33 post S x2 x3 x5 → VJ X G S 76 [(0, .ref (G.1 143)), (1, .int a1), (2, .int x2), (3, .long x3), (5, .int x5)] [] := by
  intro S x2 x3 x5 h
  refine V_ldc2 (v := (-1)) C k_RX11_91 dX11_dreaded_76 ?_
  exact q_X11_dreaded_79 C D hK33 _ _ _ _ _ h
set_option maxHeartbeats 4000000 in
set_option maxRecDepth 100000 in
theorem q_X11_dreaded_33 {X : vX} {G : vG}  {post : Int32 → vSt → Prop} (C : v_Cx X G cX11_dreaded RX11 8 (v_rm 6 178)) (D : v_Rx X G (v_Qi G post) (some .int))  {a1 : Int32}   : ∀ (fu : Nat) (S : vSt) (x2 : Int32) (x3 : Int64) (x5 : Int32), p_X11_dreaded_33 a1 post fu S x2 x3 x5 → VJ X G S 33 [(0, .ref (G.1 143)), (1, .int a1), (2, .int x2), (3, .long x3), (5, .int x5)] [] := by
  intro fu
  induction fu with
  | zero => intro S x2 x3 x5 h; exact absurd h id
  | succ fu ih =>
    intro S x2 x3 x5 h
    have hK33 := ih
    rw [e_X11_dreaded_33] at h
    refine V_iload C 4 dX11_dreaded_33 rfl ?_
    refine V_aload_n C 0 dX11_dreaded_35 rfl rfl ?_
    refine V_ga C 143 (by decide) (by decide) F_11_20 k_RX11_35 dX11_dreaded_36 ?_
    refine V_iconst (v := 1) C dX11_dreaded_39 (by decide) ?_
    obtain ⟨hi, h⟩ := h
    refine V_iald C 148 1900 (by decide) (by decide) hi dX11_dreaded_40 ?_
    refine V_icmp_ge (tgt := 103) C dX11_dreaded_41 (by decide) (fun c => ?_) (fun c => ?_)
    · have h := h.1 c
      refine V_iload_n C 2 dX11_dreaded_103 rfl rfl ?_
      refine V_if_ge (tgt := 116) C dX11_dreaded_104 (by decide) (fun c => ?_) (fun c => ?_)
      · have h := h.1 c
        refine V_iload_n C 2 dX11_dreaded_116 rfl rfl ?_
        exact V_iret C D dX11_dreaded_117 h
      · have h := h.2 c
        refine V_aload_n C 0 dX11_dreaded_107 rfl rfl ?_
        refine V_bipush (v := 8) C dX11_dreaded_108 (by decide) ?_
        refine V_callVi (As := [.int 8]) (rest := []) C (c_X11_refuse (v_l X) G  _ _ h) 143 11 (by decide) (by decide) (by decide) rfl KV_X11_refuse k_RX11_303 rfl rfl rfl (Nat.le_of_ble_eq_true rfl) ⟨Nat.le_of_ble_eq_true rfl, Nat.le_of_ble_eq_true rfl⟩ dX11_dreaded_110 (fun r26 S25 h => ?_)
        refine V_goto (tgt := 117) C dX11_dreaded_113 (by decide) ?_
        exact V_iret C D dX11_dreaded_117 h
    · have h := h.2 c
      refine V_aload_n C 0 dX11_dreaded_44 rfl rfl ?_
      refine V_ga C 143 (by decide) (by decide) F_11_20 k_RX11_35 dX11_dreaded_45 ?_
      refine V_bipush (v := 48) C dX11_dreaded_48 (by decide) ?_
      refine V_iload C 4 dX11_dreaded_50 rfl ?_
      refine V_iadd C dX11_dreaded_52 ?_
      obtain ⟨hi, h⟩ := h
      refine V_iald C 148 1900 (by decide) (by decide) hi dX11_dreaded_53 ?_
      refine V_iload_n C 1 dX11_dreaded_54 rfl rfl ?_
      refine V_icmp_ne (tgt := 76) C dX11_dreaded_55 (by decide) (fun c => ?_) (fun c => ?_)
      · have h := h.1 c
        exact q_X11_dreaded_76 C D hK33 _ _ _ _ h
      · have h := h.2 c
        refine V_aload_n C 0 dX11_dreaded_58 rfl rfl ?_
        refine V_iload C 4 dX11_dreaded_59 rfl ?_
        refine V_callVz (As := [.int x5]) (rest := []) C (c_X11_isOpen (v_l X) G  _ _ h) 143 11 (by decide) (by decide) (by decide) rfl KV_X11_isOpen k_RX11_295 rfl rfl rfl (Nat.le_of_ble_eq_true rfl) ⟨Nat.le_of_ble_eq_true rfl, Nat.le_of_ble_eq_true rfl⟩ dX11_dreaded_61 (fun r28 S27 h => ?_)
        refine V_ifb_eq (tgt := 76) C dX11_dreaded_64 (by decide) (fun c => ?_) (fun c => ?_)
        · have h := h.1 c
          exact q_X11_dreaded_76 C D hK33 _ _ _ _ h
        · have h := h.2 c
          refine V_aload_n C 0 dX11_dreaded_67 rfl rfl ?_
          refine V_iload C 4 dX11_dreaded_68 rfl ?_
          refine V_callVl (As := [.int x5]) (rest := []) C (c_X11_dreadOf (v_l X) G  _ _ h) 143 11 (by decide) (by decide) (by decide) rfl KV_X11_dreadOf k_RX11_404 rfl rfl rfl (Nat.le_of_ble_eq_true rfl) ⟨Nat.le_of_ble_eq_true rfl, Nat.le_of_ble_eq_true rfl⟩ dX11_dreaded_70 (fun r30 S29 h => ?_)
          refine V_goto (tgt := 79) C dX11_dreaded_73 (by decide) ?_
          exact q_X11_dreaded_79 C D hK33 _ _ _ _ _ h
set_option maxHeartbeats 4000000 in
set_option maxRecDepth 100000 in
theorem c_X11_dreaded (l : Launch) (G : vG)    {S : vSt} (a1 : Int32) (post : Int32 → vSt → Prop) (h : p_X11_dreaded   S a1 post) : Met l yX11_dreaded (v_ws yX11_dreaded cX11_dreaded 8 (some .int)) (v_rm 6 178) (v_Pc G [.ref (G.1 143), .int a1] S) (v_Qi G post) 0 0 (v_A G) := by
  refine v_start (by decide +kernel) (Nat.le_of_ble_eq_true rfl) (fun X hl C D => ?_)
  subst hl
  have C : v_Cx X G cX11_dreaded RX11 8 (v_rm 6 178) := C
  show VJ X G S 0 [(0, .ref (G.1 143)), (1, .int a1)] []
  refine V_aload_n C 0 dX11_dreaded_0 rfl rfl ?_
  refine V_iconst (v := 0) C dX11_dreaded_1 (by decide) ?_
  refine V_pi C 143 (by decide) (by decide) P_11_1 k_RX11_60 dX11_dreaded_2 ?_
  refine V_topS (fun S21 eS21 => ?_)
  have h := h S21 eS21
  refine V_aload_n C 0 dX11_dreaded_5 rfl rfl ?_
  refine V_iconst (v := 0) C dX11_dreaded_6 (by decide) ?_
  refine V_pi C 143 (by decide) (by decide) P_11_0 k_RX11_63 dX11_dreaded_7 ?_
  refine V_topS (fun S22 eS22 => ?_)
  have h := h S22 eS22
  refine V_aload_n C 0 dX11_dreaded_10 rfl rfl ?_
  refine V_iload_n C 1 dX11_dreaded_11 rfl rfl ?_
  refine V_callVz (As := [.int a1]) (rest := []) C (c_X11_isOne (v_l X) G  _ _ h) 143 11 (by decide) (by decide) (by decide) rfl KV_X11_isOne k_RX11_289 rfl rfl rfl (Nat.le_of_ble_eq_true rfl) ⟨Nat.le_of_ble_eq_true rfl, Nat.le_of_ble_eq_true rfl⟩ dX11_dreaded_12 (fun r24 S23 h => ?_)
  refine V_ifb_ne (tgt := 24) C dX11_dreaded_15 (by decide) (fun c => ?_) (fun c => ?_)
  · have h := h.1 c
    refine V_iconst (v := (-1)) C dX11_dreaded_24 (by decide) ?_
    refine V_istore_n (lv' := [(0, .ref (G.1 143)), (1, .int a1), (2, .int (-1))]) C [1, 2, 0] dX11_dreaded_25 rfl (by decide) rfl ?_
    refine V_ldc2 (v := (-1)) C k_RX11_91 dX11_dreaded_26 ?_
    refine V_lstore_n (lv' := [(0, .ref (G.1 143)), (1, .int a1), (2, .int (-1)), (3, .long (-1))]) C [1, 2, 3, 0] dX11_dreaded_29 rfl (by decide) rfl ?_
    refine V_iconst (v := 0) C dX11_dreaded_30 (by decide) ?_
    refine V_istore (lv' := [(0, .ref (G.1 143)), (1, .int a1), (2, .int (-1)), (3, .long (-1)), (5, .int 0)]) C [1, 2, 3, 4, 0] dX11_dreaded_31 (by decide) rfl ?_
    obtain ⟨fu33, h⟩ := h
    exact q_X11_dreaded_33 C D  fu33 _ _ _ _ h
  · have h := h.2 c
    refine V_aload_n C 0 dX11_dreaded_18 rfl rfl ?_
    refine V_iconst (v := 2) C dX11_dreaded_19 (by decide) ?_
    refine V_callVi (As := [.int 2]) (rest := []) C (c_X11_refuse (v_l X) G  _ _ h) 143 11 (by decide) (by decide) (by decide) rfl KV_X11_refuse k_RX11_303 rfl rfl rfl (Nat.le_of_ble_eq_true rfl) ⟨Nat.le_of_ble_eq_true rfl, Nat.le_of_ble_eq_true rfl⟩ dX11_dreaded_20 (fun r26 S25 h => ?_)
    exact V_iret C D dX11_dreaded_23 h
/-! HalfAccuserModel.dreadOfAll(I)J -/
theorem dX11_dreadOfAll_0 : decode cX11_dreadOfAll 0 = .ok ((.lconst 0), 1) := by decide +kernel
theorem dX11_dreadOfAll_1 : decode cX11_dreadOfAll 1 = .ok ((.lstore_n 2), 1) := by decide +kernel
theorem dX11_dreadOfAll_2 : decode cX11_dreadOfAll 2 = .ok ((.iconst 0), 1) := by decide +kernel
theorem dX11_dreadOfAll_3 : decode cX11_dreadOfAll 3 = .ok ((.istore 4), 2) := by decide +kernel
theorem dX11_dreadOfAll_5 : decode cX11_dreadOfAll 5 = .ok ((.iload 4), 2) := by decide +kernel
theorem dX11_dreadOfAll_7 : decode cX11_dreadOfAll 7 = .ok ((.aload_n 0), 1) := by decide +kernel
theorem dX11_dreadOfAll_8 : decode cX11_dreadOfAll 8 = .ok ((.getfield 35), 3) := by decide +kernel
theorem dX11_dreadOfAll_11 : decode cX11_dreadOfAll 11 = .ok ((.iconst 1), 1) := by decide +kernel
theorem dX11_dreadOfAll_12 : decode cX11_dreadOfAll 12 = .ok (.iaload, 1) := by decide +kernel
theorem dX11_dreadOfAll_13 : decode cX11_dreadOfAll 13 = .ok ((.if_icmp .ge 49), 3) := by decide +kernel
theorem dX11_dreadOfAll_16 : decode cX11_dreadOfAll 16 = .ok ((.lload_n 2), 1) := by decide +kernel
theorem dX11_dreadOfAll_17 : decode cX11_dreadOfAll 17 = .ok ((.aload_n 0), 1) := by decide +kernel
theorem dX11_dreadOfAll_18 : decode cX11_dreadOfAll 18 = .ok ((.getfield 35), 3) := by decide +kernel
theorem dX11_dreadOfAll_21 : decode cX11_dreadOfAll 21 = .ok ((.bipush 48), 2) := by decide +kernel
theorem dX11_dreadOfAll_23 : decode cX11_dreadOfAll 23 = .ok ((.iload 4), 2) := by decide +kernel
theorem dX11_dreadOfAll_25 : decode cX11_dreadOfAll 25 = .ok (.iadd, 1) := by decide +kernel
theorem dX11_dreadOfAll_26 : decode cX11_dreadOfAll 26 = .ok (.iaload, 1) := by decide +kernel
theorem dX11_dreadOfAll_27 : decode cX11_dreadOfAll 27 = .ok ((.iload_n 1), 1) := by decide +kernel
theorem dX11_dreadOfAll_28 : decode cX11_dreadOfAll 28 = .ok ((.if_icmp .ne 25), 3) := by decide +kernel
theorem dX11_dreadOfAll_31 : decode cX11_dreadOfAll 31 = .ok ((.aload_n 0), 1) := by decide +kernel
theorem dX11_dreadOfAll_32 : decode cX11_dreadOfAll 32 = .ok ((.iload 4), 2) := by decide +kernel
theorem dX11_dreadOfAll_34 : decode cX11_dreadOfAll 34 = .ok ((.invokevirtual 295), 3) := by decide +kernel
theorem dX11_dreadOfAll_37 : decode cX11_dreadOfAll 37 = .ok ((.ifCond .eq 16), 3) := by decide +kernel
theorem dX11_dreadOfAll_40 : decode cX11_dreadOfAll 40 = .ok ((.lconst 0), 1) := by decide +kernel
theorem dX11_dreadOfAll_41 : decode cX11_dreadOfAll 41 = .ok ((.aload_n 0), 1) := by decide +kernel
theorem dX11_dreadOfAll_42 : decode cX11_dreadOfAll 42 = .ok ((.iload 4), 2) := by decide +kernel
theorem dX11_dreadOfAll_44 : decode cX11_dreadOfAll 44 = .ok ((.invokevirtual 404), 3) := by decide +kernel
theorem dX11_dreadOfAll_47 : decode cX11_dreadOfAll 47 = .ok ((.invokestatic 401), 3) := by decide +kernel
theorem dX11_dreadOfAll_50 : decode cX11_dreadOfAll 50 = .ok ((.goto 4), 3) := by decide +kernel
theorem dX11_dreadOfAll_53 : decode cX11_dreadOfAll 53 = .ok ((.lconst 0), 1) := by decide +kernel
theorem dX11_dreadOfAll_54 : decode cX11_dreadOfAll 54 = .ok (.ladd, 1) := by decide +kernel
theorem dX11_dreadOfAll_55 : decode cX11_dreadOfAll 55 = .ok ((.lstore_n 2), 1) := by decide +kernel
theorem dX11_dreadOfAll_56 : decode cX11_dreadOfAll 56 = .ok ((.iinc 4 1), 3) := by decide +kernel
theorem dX11_dreadOfAll_59 : decode cX11_dreadOfAll 59 = .ok ((.goto (-54)), 3) := by decide +kernel
theorem dX11_dreadOfAll_62 : decode cX11_dreadOfAll 62 = .ok ((.lload_n 2), 1) := by decide +kernel
theorem dX11_dreadOfAll_63 : decode cX11_dreadOfAll 63 = .ok (.lreturn, 1) := by decide +kernel
def p_X11_dreadOfAll_54  (a1 : Int32)  (K5 : vSt → Int64 → Int32 → Prop) (post : Int64 → vSt → Prop) (S : vSt) (x4 : Int32) (s0 : Int64) (s1 : Int64) : Prop := ∀ y13 : Int64, y13 = (s1 + s0) → ∀ y14 : Int32, y14 = x4 + 1 → K5 S y13 y14
def p_X11_dreadOfAll_53  (a1 : Int32)  (K5 : vSt → Int64 → Int32 → Prop) (post : Int64 → vSt → Prop) (S : vSt) (x4 : Int32) (s0 : Int64) : Prop := p_X11_dreadOfAll_54 a1 K5 post S x4 0 s0
def p_X11_dreadOfAll_5  (a1 : Int32)   (post : Int64 → vSt → Prop) : Nat → vSt → Int64 → Int32 → Prop
  | 0 => fun _ _ _ => False
  | fu5 + 1 => fun S x2 x4 => (vp_in 1 1900 ∧ (((S.1 148 (Int32.toNatClampNeg 1)) ≤ x4 → post x2 S) ∧ (¬ (S.1 148 (Int32.toNatClampNeg 1)) ≤ x4 → (vp_in (48 + x4) 1900 ∧ ((¬ (S.1 148 (Int32.toNatClampNeg (48 + x4))) = a1 → p_X11_dreadOfAll_53 a1 (p_X11_dreadOfAll_5 a1 post fu5) post S x4 x2) ∧ ((S.1 148 (Int32.toNatClampNeg (48 + x4))) = a1 → p_X11_isOpen  S x4 (fun r14 S13 => ((r14 = false → p_X11_dreadOfAll_53 a1 (p_X11_dreadOfAll_5 a1 post fu5) post S13 x4 x2) ∧ (r14 = true → p_X11_dreadOf  S13 x4 (fun r16 S15 => p_X11_dreadOfAll_54 a1 (p_X11_dreadOfAll_5 a1 post fu5) post S15 x4 (v_maxl 0 r16) x2))))))))))
theorem e_X11_dreadOfAll_5  (a1 : Int32)   (post : Int64 → vSt → Prop) (fu5 : Nat) (S : vSt) (x2 : Int64) (x4 : Int32) : p_X11_dreadOfAll_5 a1 post (fu5 + 1) S x2 x4 = ((vp_in 1 1900 ∧ (((S.1 148 (Int32.toNatClampNeg 1)) ≤ x4 → post x2 S) ∧ (¬ (S.1 148 (Int32.toNatClampNeg 1)) ≤ x4 → (vp_in (48 + x4) 1900 ∧ ((¬ (S.1 148 (Int32.toNatClampNeg (48 + x4))) = a1 → p_X11_dreadOfAll_53 a1 (p_X11_dreadOfAll_5 a1 post fu5) post S x4 x2) ∧ ((S.1 148 (Int32.toNatClampNeg (48 + x4))) = a1 → p_X11_isOpen  S x4 (fun r14 S13 => ((r14 = false → p_X11_dreadOfAll_53 a1 (p_X11_dreadOfAll_5 a1 post fu5) post S13 x4 x2) ∧ (r14 = true → p_X11_dreadOf  S13 x4 (fun r16 S15 => p_X11_dreadOfAll_54 a1 (p_X11_dreadOfAll_5 a1 post fu5) post S15 x4 (v_maxl 0 r16) x2))))))))))) := rfl
def p_X11_dreadOfAll   (S : vSt) (a1 : Int32) (post : Int64 → vSt → Prop) : Prop := ∃ fu5, p_X11_dreadOfAll_5 a1 post fu5 S 0 0
set_option maxHeartbeats 4000000 in
set_option maxRecDepth 100000 in
theorem q_X11_dreadOfAll_54 {X : vX} {G : vG}  {post : Int64 → vSt → Prop} (C : v_Cx X G cX11_dreadOfAll RX11 5 (v_rm 6 178)) (D : v_Rx X G (v_Ql G post) (some .long))  {a1 : Int32}  {K5 : vSt → Int64 → Int32 → Prop} (hK5 : ∀ S x2 x4, K5 S x2 x4 → VJ X G S 5 [(0, .ref (G.1 143)), (1, .int a1), (2, .long x2), (4, .int x4)] []) : ∀ (S : vSt) (x4 : Int32) (s0 : Int64) (s1 : Int64), p_X11_dreadOfAll_54 a1 K5 post S x4 s0 s1 → VJ X G S 54 [(0, .ref (G.1 143)), (1, .int a1), (4, .int x4)] [.long s0, .long s1] := by
  intro S x4 s0 s1 h
  refine V_ladd C dX11_dreadOfAll_54 ?_
  refine V_topl (fun y13 ey13 => ?_)
  have h := h y13 ey13
  refine V_lstore_n (lv' := [(0, .ref (G.1 143)), (1, .int a1), (2, .long y13), (4, .int x4)]) C [1, 2, 0, 3] dX11_dreadOfAll_55 rfl (by decide) rfl ?_
  obtain ⟨y14, ey14⟩ : ∃ z : Int32, z = x4 + 1 := ⟨_, rfl⟩
  have h := h y14 ey14
  refine V_iinc (lv' := [(0, .ref (G.1 143)), (1, .int a1), (2, .long y13), (4, .int y14)]) C 3 [1, 2, 3, 0] y14 dX11_dreadOfAll_56 rfl (by rw [ey14]; rfl) (by decide) rfl ?_
  refine V_goto (tgt := 5) C dX11_dreadOfAll_59 (by decide) ?_
  exact hK5 _ _ _ h
set_option maxHeartbeats 4000000 in
set_option maxRecDepth 100000 in
theorem q_X11_dreadOfAll_53 {X : vX} {G : vG}  {post : Int64 → vSt → Prop} (C : v_Cx X G cX11_dreadOfAll RX11 5 (v_rm 6 178)) (D : v_Rx X G (v_Ql G post) (some .long))  {a1 : Int32}  {K5 : vSt → Int64 → Int32 → Prop} (hK5 : ∀ S x2 x4, K5 S x2 x4 → VJ X G S 5 [(0, .ref (G.1 143)), (1, .int a1), (2, .long x2), (4, .int x4)] []) : ∀ (S : vSt) (x4 : Int32) (s0 : Int64), p_X11_dreadOfAll_53 a1 K5 post S x4 s0 → VJ X G S 53 [(0, .ref (G.1 143)), (1, .int a1), (4, .int x4)] [.long s0] := by
  intro S x4 s0 h
  refine V_lconst (v := 0) C dX11_dreadOfAll_53 (by decide) ?_
  exact q_X11_dreadOfAll_54 C D hK5 _ _ _ _ h
set_option maxHeartbeats 4000000 in
set_option maxRecDepth 100000 in
theorem q_X11_dreadOfAll_5 {X : vX} {G : vG}  {post : Int64 → vSt → Prop} (C : v_Cx X G cX11_dreadOfAll RX11 5 (v_rm 6 178)) (D : v_Rx X G (v_Ql G post) (some .long))  {a1 : Int32}   : ∀ (fu : Nat) (S : vSt) (x2 : Int64) (x4 : Int32), p_X11_dreadOfAll_5 a1 post fu S x2 x4 → VJ X G S 5 [(0, .ref (G.1 143)), (1, .int a1), (2, .long x2), (4, .int x4)] [] := by
  intro fu
  induction fu with
  | zero => intro S x2 x4 h; exact absurd h id
  | succ fu ih =>
    intro S x2 x4 h
    have hK5 := ih
    rw [e_X11_dreadOfAll_5] at h
    refine V_iload C 3 dX11_dreadOfAll_5 rfl ?_
    refine V_aload_n C 0 dX11_dreadOfAll_7 rfl rfl ?_
    refine V_ga C 143 (by decide) (by decide) F_11_20 k_RX11_35 dX11_dreadOfAll_8 ?_
    refine V_iconst (v := 1) C dX11_dreadOfAll_11 (by decide) ?_
    obtain ⟨hi, h⟩ := h
    refine V_iald C 148 1900 (by decide) (by decide) hi dX11_dreadOfAll_12 ?_
    refine V_icmp_ge (tgt := 62) C dX11_dreadOfAll_13 (by decide) (fun c => ?_) (fun c => ?_)
    · have h := h.1 c
      refine V_lload_n C 2 dX11_dreadOfAll_62 rfl rfl ?_
      exact V_lret C D dX11_dreadOfAll_63 h
    · have h := h.2 c
      refine V_lload_n C 2 dX11_dreadOfAll_16 rfl rfl ?_
      refine V_aload_n C 0 dX11_dreadOfAll_17 rfl rfl ?_
      refine V_ga C 143 (by decide) (by decide) F_11_20 k_RX11_35 dX11_dreadOfAll_18 ?_
      refine V_bipush (v := 48) C dX11_dreadOfAll_21 (by decide) ?_
      refine V_iload C 3 dX11_dreadOfAll_23 rfl ?_
      refine V_iadd C dX11_dreadOfAll_25 ?_
      obtain ⟨hi, h⟩ := h
      refine V_iald C 148 1900 (by decide) (by decide) hi dX11_dreadOfAll_26 ?_
      refine V_iload_n C 1 dX11_dreadOfAll_27 rfl rfl ?_
      refine V_icmp_ne (tgt := 53) C dX11_dreadOfAll_28 (by decide) (fun c => ?_) (fun c => ?_)
      · have h := h.1 c
        refine V_loc (lv' := [(0, .ref (G.1 143)), (1, .int a1), (4, .int x4)]) [0, 1, 3] rfl ?_
        exact q_X11_dreadOfAll_53 C D hK5 _ _ _ h
      · have h := h.2 c
        refine V_aload_n C 0 dX11_dreadOfAll_31 rfl rfl ?_
        refine V_iload C 3 dX11_dreadOfAll_32 rfl ?_
        refine V_callVz (As := [.int x4]) (rest := [.long x2]) C (c_X11_isOpen (v_l X) G  _ _ h) 143 11 (by decide) (by decide) (by decide) rfl KV_X11_isOpen k_RX11_295 rfl rfl rfl (Nat.le_of_ble_eq_true rfl) ⟨Nat.le_of_ble_eq_true rfl, Nat.le_of_ble_eq_true rfl⟩ dX11_dreadOfAll_34 (fun r14 S13 h => ?_)
        refine V_ifb_eq (tgt := 53) C dX11_dreadOfAll_37 (by decide) (fun c => ?_) (fun c => ?_)
        · have h := h.1 c
          refine V_loc (lv' := [(0, .ref (G.1 143)), (1, .int a1), (4, .int x4)]) [0, 1, 3] rfl ?_
          exact q_X11_dreadOfAll_53 C D hK5 _ _ _ h
        · have h := h.2 c
          refine V_lconst (v := 0) C dX11_dreadOfAll_40 (by decide) ?_
          refine V_aload_n C 0 dX11_dreadOfAll_41 rfl rfl ?_
          refine V_iload C 3 dX11_dreadOfAll_42 rfl ?_
          refine V_callVl (As := [.int x4]) (rest := [.long 0, .long x2]) C (c_X11_dreadOf (v_l X) G  _ _ h) 143 11 (by decide) (by decide) (by decide) rfl KV_X11_dreadOf k_RX11_404 rfl rfl rfl (Nat.le_of_ble_eq_true rfl) ⟨Nat.le_of_ble_eq_true rfl, Nat.le_of_ble_eq_true rfl⟩ dX11_dreadOfAll_44 (fun r16 S15 h => ?_)
          refine V_maxl C k_RX11_401 (Nat.le_of_ble_eq_true rfl) ⟨Nat.le_of_ble_eq_true rfl, Nat.le_of_ble_eq_true rfl⟩ dX11_dreadOfAll_47 ?_
          refine V_goto (tgt := 54) C dX11_dreadOfAll_50 (by decide) ?_
          refine V_loc (lv' := [(0, .ref (G.1 143)), (1, .int a1), (4, .int x4)]) [0, 1, 3] rfl ?_
          exact q_X11_dreadOfAll_54 C D hK5 _ _ _ _ h
set_option maxHeartbeats 4000000 in
set_option maxRecDepth 100000 in
theorem c_X11_dreadOfAll (l : Launch) (G : vG)    {S : vSt} (a1 : Int32) (post : Int64 → vSt → Prop) (h : p_X11_dreadOfAll   S a1 post) : Met l yX11_dreadOfAll (v_ws yX11_dreadOfAll cX11_dreadOfAll 5 (some .long)) (v_rm 6 178) (v_Pc G [.ref (G.1 143), .int a1] S) (v_Ql G post) 0 0 (v_A G) := by
  refine v_start (by decide +kernel) (Nat.le_of_ble_eq_true rfl) (fun X hl C D => ?_)
  subst hl
  have C : v_Cx X G cX11_dreadOfAll RX11 5 (v_rm 6 178) := C
  show VJ X G S 0 [(0, .ref (G.1 143)), (1, .int a1)] []
  refine V_lconst (v := 0) C dX11_dreadOfAll_0 (by decide) ?_
  refine V_lstore_n (lv' := [(0, .ref (G.1 143)), (1, .int a1), (2, .long 0)]) C [1, 2, 0] dX11_dreadOfAll_1 rfl (by decide) rfl ?_
  refine V_iconst (v := 0) C dX11_dreadOfAll_2 (by decide) ?_
  refine V_istore (lv' := [(0, .ref (G.1 143)), (1, .int a1), (2, .long 0), (4, .int 0)]) C [1, 2, 3, 0] dX11_dreadOfAll_3 (by decide) rfl ?_
  obtain ⟨fu5, h⟩ := h
  exact q_X11_dreadOfAll_5 C D  fu5 _ _ _ h
/-! HalfAccuserModel.dread(I)Z -/
theorem dX11_dread_0 : decode cX11_dread 0 = .ok ((.aload_n 0), 1) := by decide +kernel
theorem dX11_dread_1 : decode cX11_dread 1 = .ok ((.iconst 0), 1) := by decide +kernel
theorem dX11_dread_2 : decode cX11_dread 2 = .ok ((.putfield 60), 3) := by decide +kernel
theorem dX11_dread_5 : decode cX11_dread 5 = .ok ((.aload_n 0), 1) := by decide +kernel
theorem dX11_dread_6 : decode cX11_dread 6 = .ok ((.iconst 0), 1) := by decide +kernel
theorem dX11_dread_7 : decode cX11_dread 7 = .ok ((.putfield 63), 3) := by decide +kernel
theorem dX11_dread_10 : decode cX11_dread 10 = .ok ((.aload_n 0), 1) := by decide +kernel
theorem dX11_dread_11 : decode cX11_dread 11 = .ok ((.iload_n 1), 1) := by decide +kernel
theorem dX11_dread_12 : decode cX11_dread 12 = .ok ((.invokevirtual 289), 3) := by decide +kernel
theorem dX11_dread_15 : decode cX11_dread 15 = .ok ((.ifCond .ne 9), 3) := by decide +kernel
theorem dX11_dread_18 : decode cX11_dread 18 = .ok ((.aload_n 0), 1) := by decide +kernel
theorem dX11_dread_19 : decode cX11_dread 19 = .ok ((.iconst 2), 1) := by decide +kernel
theorem dX11_dread_20 : decode cX11_dread 20 = .ok ((.invokevirtual 75), 3) := by decide +kernel
theorem dX11_dread_23 : decode cX11_dread 23 = .ok (.ireturn, 1) := by decide +kernel
theorem dX11_dread_24 : decode cX11_dread 24 = .ok ((.aload_n 0), 1) := by decide +kernel
theorem dX11_dread_25 : decode cX11_dread 25 = .ok ((.aload_n 0), 1) := by decide +kernel
theorem dX11_dread_26 : decode cX11_dread 26 = .ok ((.iload_n 1), 1) := by decide +kernel
theorem dX11_dread_27 : decode cX11_dread 27 = .ok ((.invokevirtual 408), 3) := by decide +kernel
theorem dX11_dread_30 : decode cX11_dread 30 = .ok ((.aload_n 0), 1) := by decide +kernel
theorem dX11_dread_31 : decode cX11_dread 31 = .ok ((.invokevirtual 384), 3) := by decide +kernel
theorem dX11_dread_34 : decode cX11_dread 34 = .ok ((.invokevirtual 388), 3) := by decide +kernel
theorem dX11_dread_37 : decode cX11_dread 37 = .ok (.ireturn, 1) := by decide +kernel
def p_X11_dread   (S : vSt) (a1 : Int32) (post : Bool → vSt → Prop) : Prop := ∀ S13, S13 = v_si S 143 1 0 → ∀ S14, S14 = v_si S13 143 0 0 → p_X11_isOne  S14 a1 (fun r16 S15 => ((r16 = true → p_X11_dreadOfAll  S15 a1 (fun r18 S17 => p_X11_allVotes  S17  (fun r20 S19 => p_X11_fraction  S19 r18 r20 (fun r22 S21 => post r22 S21)))) ∧ (r16 = false → p_X11_no  S15 2 (fun r24 S23 => post r24 S23))))
set_option maxHeartbeats 4000000 in
set_option maxRecDepth 100000 in
theorem c_X11_dread (l : Launch) (G : vG)    {S : vSt} (a1 : Int32) (post : Bool → vSt → Prop) (h : p_X11_dread   S a1 post) : Met l yX11_dread (v_ws yX11_dread cX11_dread 2 (some .boolean)) (v_rm 7 202) (v_Pc G [.ref (G.1 143), .int a1] S) (v_Qz G post) 0 0 (v_A G) := by
  refine v_start (by decide +kernel) (Nat.le_of_ble_eq_true rfl) (fun X hl C D => ?_)
  subst hl
  have C : v_Cx X G cX11_dread RX11 2 (v_rm 7 202) := C
  show VJ X G S 0 [(0, .ref (G.1 143)), (1, .int a1)] []
  refine V_aload_n C 0 dX11_dread_0 rfl rfl ?_
  refine V_iconst (v := 0) C dX11_dread_1 (by decide) ?_
  refine V_pi C 143 (by decide) (by decide) P_11_1 k_RX11_60 dX11_dread_2 ?_
  refine V_topS (fun S13 eS13 => ?_)
  have h := h S13 eS13
  refine V_aload_n C 0 dX11_dread_5 rfl rfl ?_
  refine V_iconst (v := 0) C dX11_dread_6 (by decide) ?_
  refine V_pi C 143 (by decide) (by decide) P_11_0 k_RX11_63 dX11_dread_7 ?_
  refine V_topS (fun S14 eS14 => ?_)
  have h := h S14 eS14
  refine V_aload_n C 0 dX11_dread_10 rfl rfl ?_
  refine V_iload_n C 1 dX11_dread_11 rfl rfl ?_
  refine V_callVz (As := [.int a1]) (rest := []) C (c_X11_isOne (v_l X) G  _ _ h) 143 11 (by decide) (by decide) (by decide) rfl KV_X11_isOne k_RX11_289 rfl rfl rfl (Nat.le_of_ble_eq_true rfl) ⟨Nat.le_of_ble_eq_true rfl, Nat.le_of_ble_eq_true rfl⟩ dX11_dread_12 (fun r16 S15 h => ?_)
  refine V_ifb_ne (tgt := 24) C dX11_dread_15 (by decide) (fun c => ?_) (fun c => ?_)
  · have h := h.1 c
    refine V_aload_n C 0 dX11_dread_24 rfl rfl ?_
    refine V_aload_n C 0 dX11_dread_25 rfl rfl ?_
    refine V_iload_n C 1 dX11_dread_26 rfl rfl ?_
    refine V_callVl (As := [.int a1]) (rest := [.ref (G.1 143)]) C (c_X11_dreadOfAll (v_l X) G  _ _ h) 143 11 (by decide) (by decide) (by decide) rfl KV_X11_dreadOfAll k_RX11_408 rfl rfl rfl (Nat.le_of_ble_eq_true rfl) ⟨Nat.le_of_ble_eq_true rfl, Nat.le_of_ble_eq_true rfl⟩ dX11_dread_27 (fun r18 S17 h => ?_)
    refine V_aload_n C 0 dX11_dread_30 rfl rfl ?_
    refine V_callVl (As := []) (rest := [.long r18, .ref (G.1 143)]) C (c_X11_allVotes (v_l X) G  _ h) 143 11 (by decide) (by decide) (by decide) rfl KV_X11_allVotes k_RX11_384 rfl rfl rfl (Nat.le_of_ble_eq_true rfl) ⟨Nat.le_of_ble_eq_true rfl, Nat.le_of_ble_eq_true rfl⟩ dX11_dread_31 (fun r20 S19 h => ?_)
    refine V_callVz (As := [.long r18, .long r20]) (rest := []) C (c_X11_fraction (v_l X) G  _ _ _ h) 143 11 (by decide) (by decide) (by decide) rfl KV_X11_fraction k_RX11_388 rfl rfl rfl (Nat.le_of_ble_eq_true rfl) ⟨Nat.le_of_ble_eq_true rfl, Nat.le_of_ble_eq_true rfl⟩ dX11_dread_34 (fun r22 S21 h => ?_)
    exact V_zret C D dX11_dread_37 h
  · have h := h.2 c
    refine V_aload_n C 0 dX11_dread_18 rfl rfl ?_
    refine V_iconst (v := 2) C dX11_dread_19 (by decide) ?_
    refine V_callVz (As := [.int 2]) (rest := []) C (c_X11_no (v_l X) G  _ _ h) 143 11 (by decide) (by decide) (by decide) rfl KV_X11_no k_RX11_75 rfl rfl rfl (Nat.le_of_ble_eq_true rfl) ⟨Nat.le_of_ble_eq_true rfl, Nat.le_of_ble_eq_true rfl⟩ dX11_dread_20 (fun r24 S23 h => ?_)
    exact V_zret C D dX11_dread_23 h
/-! HalfAccuserModel.friend(I)I -/
theorem dX11_friend_0 : decode cX11_friend 0 = .ok ((.aload_n 0), 1) := by decide +kernel
theorem dX11_friend_1 : decode cX11_friend 1 = .ok ((.iconst 0), 1) := by decide +kernel
theorem dX11_friend_2 : decode cX11_friend 2 = .ok ((.putfield 60), 3) := by decide +kernel
theorem dX11_friend_5 : decode cX11_friend 5 = .ok ((.aload_n 0), 1) := by decide +kernel
theorem dX11_friend_6 : decode cX11_friend 6 = .ok ((.iconst 0), 1) := by decide +kernel
theorem dX11_friend_7 : decode cX11_friend 7 = .ok ((.putfield 63), 3) := by decide +kernel
theorem dX11_friend_10 : decode cX11_friend 10 = .ok ((.aload_n 0), 1) := by decide +kernel
theorem dX11_friend_11 : decode cX11_friend 11 = .ok ((.iload_n 1), 1) := by decide +kernel
theorem dX11_friend_12 : decode cX11_friend 12 = .ok ((.invokevirtual 292), 3) := by decide +kernel
theorem dX11_friend_15 : decode cX11_friend 15 = .ok ((.ifCond .ne 9), 3) := by decide +kernel
theorem dX11_friend_18 : decode cX11_friend 18 = .ok ((.aload_n 0), 1) := by decide +kernel
theorem dX11_friend_19 : decode cX11_friend 19 = .ok ((.iconst 2), 1) := by decide +kernel
theorem dX11_friend_20 : decode cX11_friend 20 = .ok ((.invokevirtual 303), 3) := by decide +kernel
theorem dX11_friend_23 : decode cX11_friend 23 = .ok (.ireturn, 1) := by decide +kernel
theorem dX11_friend_24 : decode cX11_friend 24 = .ok ((.iconst (-1)), 1) := by decide +kernel
theorem dX11_friend_25 : decode cX11_friend 25 = .ok ((.istore_n 2), 1) := by decide +kernel
theorem dX11_friend_26 : decode cX11_friend 26 = .ok ((.lconst 0), 1) := by decide +kernel
theorem dX11_friend_27 : decode cX11_friend 27 = .ok ((.lstore_n 3), 1) := by decide +kernel
theorem dX11_friend_28 : decode cX11_friend 28 = .ok ((.iconst 0), 1) := by decide +kernel
theorem dX11_friend_29 : decode cX11_friend 29 = .ok ((.istore 5), 2) := by decide +kernel
theorem dX11_friend_31 : decode cX11_friend 31 = .ok ((.iload 5), 2) := by decide +kernel
theorem dX11_friend_33 : decode cX11_friend 33 = .ok ((.aload_n 0), 1) := by decide +kernel
theorem dX11_friend_34 : decode cX11_friend 34 = .ok ((.getfield 35), 3) := by decide +kernel
theorem dX11_friend_37 : decode cX11_friend 37 = .ok ((.iconst 0), 1) := by decide +kernel
theorem dX11_friend_38 : decode cX11_friend 38 = .ok (.iaload, 1) := by decide +kernel
theorem dX11_friend_39 : decode cX11_friend 39 = .ok ((.if_icmp .ge 49), 3) := by decide +kernel
theorem dX11_friend_42 : decode cX11_friend 42 = .ok ((.aload_n 0), 1) := by decide +kernel
theorem dX11_friend_43 : decode cX11_friend 43 = .ok ((.iload 5), 2) := by decide +kernel
theorem dX11_friend_45 : decode cX11_friend 45 = .ok ((.iload_n 1), 1) := by decide +kernel
theorem dX11_friend_46 : decode cX11_friend 46 = .ok ((.invokevirtual 338), 3) := by decide +kernel
theorem dX11_friend_49 : decode cX11_friend 49 = .ok ((.ifCond .eq 33), 3) := by decide +kernel
theorem dX11_friend_52 : decode cX11_friend 52 = .ok ((.iload_n 2), 1) := by decide +kernel
theorem dX11_friend_53 : decode cX11_friend 53 = .ok ((.ifCond .lt 18), 3) := by decide +kernel
theorem dX11_friend_56 : decode cX11_friend 56 = .ok ((.aload_n 0), 1) := by decide +kernel
theorem dX11_friend_57 : decode cX11_friend 57 = .ok ((.iload 5), 2) := by decide +kernel
theorem dX11_friend_59 : decode cX11_friend 59 = .ok ((.iload_n 1), 1) := by decide +kernel
theorem dX11_friend_60 : decode cX11_friend 60 = .ok ((.invokevirtual 398), 3) := by decide +kernel
theorem dX11_friend_63 : decode cX11_friend 63 = .ok ((.lload_n 3), 1) := by decide +kernel
theorem dX11_friend_64 : decode cX11_friend 64 = .ok (.lcmp, 1) := by decide +kernel
theorem dX11_friend_65 : decode cX11_friend 65 = .ok ((.ifCond .lt 6), 3) := by decide +kernel
theorem dX11_friend_68 : decode cX11_friend 68 = .ok ((.goto 14), 3) := by decide +kernel
theorem dX11_friend_71 : decode cX11_friend 71 = .ok ((.aload_n 0), 1) := by decide +kernel
theorem dX11_friend_72 : decode cX11_friend 72 = .ok ((.iload 5), 2) := by decide +kernel
theorem dX11_friend_74 : decode cX11_friend 74 = .ok ((.iload_n 1), 1) := by decide +kernel
theorem dX11_friend_75 : decode cX11_friend 75 = .ok ((.invokevirtual 398), 3) := by decide +kernel
theorem dX11_friend_78 : decode cX11_friend 78 = .ok ((.lstore_n 3), 1) := by decide +kernel
theorem dX11_friend_79 : decode cX11_friend 79 = .ok ((.iload 5), 2) := by decide +kernel
theorem dX11_friend_81 : decode cX11_friend 81 = .ok ((.istore_n 2), 1) := by decide +kernel
theorem dX11_friend_82 : decode cX11_friend 82 = .ok ((.iinc 5 1), 3) := by decide +kernel
theorem dX11_friend_85 : decode cX11_friend 85 = .ok ((.goto (-54)), 3) := by decide +kernel
theorem dX11_friend_88 : decode cX11_friend 88 = .ok ((.iload_n 2), 1) := by decide +kernel
theorem dX11_friend_89 : decode cX11_friend 89 = .ok ((.ifCond .ge 12), 3) := by decide +kernel
theorem dX11_friend_92 : decode cX11_friend 92 = .ok ((.aload_n 0), 1) := by decide +kernel
theorem dX11_friend_93 : decode cX11_friend 93 = .ok ((.bipush 8), 2) := by decide +kernel
theorem dX11_friend_95 : decode cX11_friend 95 = .ok ((.invokevirtual 303), 3) := by decide +kernel
theorem dX11_friend_98 : decode cX11_friend 98 = .ok ((.goto 4), 3) := by decide +kernel
theorem dX11_friend_101 : decode cX11_friend 101 = .ok ((.iload_n 2), 1) := by decide +kernel
theorem dX11_friend_102 : decode cX11_friend 102 = .ok (.ireturn, 1) := by decide +kernel
def p_X11_friend_82  (a1 : Int32)  (K31 : vSt → Int32 → Int64 → Int32 → Prop) (post : Int32 → vSt → Prop) (S : vSt) (x2 : Int32) (x3 : Int64) (x5 : Int32) : Prop := ∀ y39 : Int32, y39 = x5 + 1 → K31 S x2 x3 y39
def p_X11_friend_71  (a1 : Int32)  (K31 : vSt → Int32 → Int64 → Int32 → Prop) (post : Int32 → vSt → Prop) (S : vSt) (x5 : Int32) : Prop := p_X11_lossOf  S x5 a1 (fun r40 S39 => p_X11_friend_82 a1 K31 post S39 x5 r40 x5)
def p_X11_friend_31  (a1 : Int32)   (post : Int32 → vSt → Prop) : Nat → vSt → Int32 → Int64 → Int32 → Prop
  | 0 => fun _ _ _ _ => False
  | fu31 + 1 => fun S x2 x3 x5 => (vp_in 0 1900 ∧ (((S.1 148 (Int32.toNatClampNeg 0)) ≤ x5 → ((0 ≤ x2 → post x2 S) ∧ (¬ 0 ≤ x2 → p_X11_refuse  S 8 (fun r36 S35 => post r36 S35)))) ∧ (¬ (S.1 148 (Int32.toNatClampNeg 0)) ≤ x5 → p_X11_canCharge  S x5 a1 (fun r38 S37 => ((r38 = false → p_X11_friend_82 a1 (p_X11_friend_31 a1 post fu31) post S37 x2 x3 x5) ∧ (r38 = true → ((x2 < 0 → p_X11_friend_71 a1 (p_X11_friend_31 a1 post fu31) post S37 x5) ∧ (¬ x2 < 0 → p_X11_lossOf  S37 x5 a1 (fun r40 S39 => ((r40 < x3 → p_X11_friend_71 a1 (p_X11_friend_31 a1 post fu31) post S39 x5) ∧ (¬ r40 < x3 → p_X11_friend_82 a1 (p_X11_friend_31 a1 post fu31) post S39 x2 x3 x5)))))))))))
theorem e_X11_friend_31  (a1 : Int32)   (post : Int32 → vSt → Prop) (fu31 : Nat) (S : vSt) (x2 : Int32) (x3 : Int64) (x5 : Int32) : p_X11_friend_31 a1 post (fu31 + 1) S x2 x3 x5 = ((vp_in 0 1900 ∧ (((S.1 148 (Int32.toNatClampNeg 0)) ≤ x5 → ((0 ≤ x2 → post x2 S) ∧ (¬ 0 ≤ x2 → p_X11_refuse  S 8 (fun r36 S35 => post r36 S35)))) ∧ (¬ (S.1 148 (Int32.toNatClampNeg 0)) ≤ x5 → p_X11_canCharge  S x5 a1 (fun r38 S37 => ((r38 = false → p_X11_friend_82 a1 (p_X11_friend_31 a1 post fu31) post S37 x2 x3 x5) ∧ (r38 = true → ((x2 < 0 → p_X11_friend_71 a1 (p_X11_friend_31 a1 post fu31) post S37 x5) ∧ (¬ x2 < 0 → p_X11_lossOf  S37 x5 a1 (fun r40 S39 => ((r40 < x3 → p_X11_friend_71 a1 (p_X11_friend_31 a1 post fu31) post S39 x5) ∧ (¬ r40 < x3 → p_X11_friend_82 a1 (p_X11_friend_31 a1 post fu31) post S39 x2 x3 x5)))))))))))) := rfl
def p_X11_friend   (S : vSt) (a1 : Int32) (post : Int32 → vSt → Prop) : Prop := ∀ S31, S31 = v_si S 143 1 0 → ∀ S32, S32 = v_si S31 143 0 0 → p_X11_isDeedAt  S32 a1 (fun r34 S33 => ((r34 = true → ∃ fu31, p_X11_friend_31 a1 post fu31 S33 (-1) 0 0) ∧ (r34 = false → p_X11_refuse  S33 2 (fun r36 S35 => post r36 S35))))
set_option maxHeartbeats 4000000 in
set_option maxRecDepth 100000 in
theorem q_X11_friend_82 {X : vX} {G : vG}  {post : Int32 → vSt → Prop} (C : v_Cx X G cX11_friend RX11 6 (v_rm 5 154)) (D : v_Rx X G (v_Qi G post) (some .int))  {a1 : Int32}  {K31 : vSt → Int32 → Int64 → Int32 → Prop} (hK31 : ∀ S x2 x3 x5, K31 S x2 x3 x5 → VJ X G S 31 [(0, .ref (G.1 143)), (1, .int a1), (2, .int x2), (3, .long x3), (5, .int x5)] []) : ∀ (S : vSt) (x2 : Int32) (x3 : Int64) (x5 : Int32), p_X11_friend_82 a1 K31 post S x2 x3 x5 → VJ X G S 82 [(0, .ref (G.1 143)), (1, .int a1), (2, .int x2), (3, .long x3), (5, .int x5)] [] := by
  intro S x2 x3 x5 h
  obtain ⟨y39, ey39⟩ : ∃ z : Int32, z = x5 + 1 := ⟨_, rfl⟩
  have h := h y39 ey39
  refine V_iinc (lv' := [(0, .ref (G.1 143)), (1, .int a1), (2, .int x2), (3, .long x3), (5, .int y39)]) C 4 [1, 2, 3, 4, 0] y39 dX11_friend_82 rfl (by rw [ey39]; rfl) (by decide) rfl ?_
  refine V_goto (tgt := 31) C dX11_friend_85 (by decide) ?_
  exact hK31 _ _ _ _ h
set_option maxHeartbeats 4000000 in
set_option maxRecDepth 100000 in
theorem q_X11_friend_71 {X : vX} {G : vG}  {post : Int32 → vSt → Prop} (C : v_Cx X G cX11_friend RX11 6 (v_rm 5 154)) (D : v_Rx X G (v_Qi G post) (some .int))  {a1 : Int32}  {K31 : vSt → Int32 → Int64 → Int32 → Prop} (hK31 : ∀ S x2 x3 x5, K31 S x2 x3 x5 → VJ X G S 31 [(0, .ref (G.1 143)), (1, .int a1), (2, .int x2), (3, .long x3), (5, .int x5)] []) : ∀ (S : vSt) (x5 : Int32), p_X11_friend_71 a1 K31 post S x5 → VJ X G S 71 [(0, .ref (G.1 143)), (1, .int a1), (5, .int x5)] [] := by
  intro S x5 h
  refine V_aload_n C 0 dX11_friend_71 rfl rfl ?_
  refine V_iload C 2 dX11_friend_72 rfl ?_
  refine V_iload_n C 1 dX11_friend_74 rfl rfl ?_
  refine V_callVl (As := [.int x5, .int a1]) (rest := []) C (c_X11_lossOf (v_l X) G  _ _ _ h) 143 11 (by decide) (by decide) (by decide) rfl KV_X11_lossOf k_RX11_398 rfl rfl rfl (Nat.le_of_ble_eq_true rfl) ⟨Nat.le_of_ble_eq_true rfl, Nat.le_of_ble_eq_true rfl⟩ dX11_friend_75 (fun r40 S39 h => ?_)
  refine V_lstore_n (lv' := [(0, .ref (G.1 143)), (1, .int a1), (3, .long r40), (5, .int x5)]) C [1, 2, 0, 3] dX11_friend_78 rfl (by decide) rfl ?_
  refine V_iload C 3 dX11_friend_79 rfl ?_
  refine V_istore_n (lv' := [(0, .ref (G.1 143)), (1, .int a1), (2, .int x5), (3, .long r40), (5, .int x5)]) C [1, 2, 0, 3, 4] dX11_friend_81 rfl (by decide) rfl ?_
  exact q_X11_friend_82 C D hK31 _ _ _ _ h
set_option maxHeartbeats 4000000 in
set_option maxRecDepth 100000 in
theorem q_X11_friend_31 {X : vX} {G : vG}  {post : Int32 → vSt → Prop} (C : v_Cx X G cX11_friend RX11 6 (v_rm 5 154)) (D : v_Rx X G (v_Qi G post) (some .int))  {a1 : Int32}   : ∀ (fu : Nat) (S : vSt) (x2 : Int32) (x3 : Int64) (x5 : Int32), p_X11_friend_31 a1 post fu S x2 x3 x5 → VJ X G S 31 [(0, .ref (G.1 143)), (1, .int a1), (2, .int x2), (3, .long x3), (5, .int x5)] [] := by
  intro fu
  induction fu with
  | zero => intro S x2 x3 x5 h; exact absurd h id
  | succ fu ih =>
    intro S x2 x3 x5 h
    have hK31 := ih
    rw [e_X11_friend_31] at h
    refine V_iload C 4 dX11_friend_31 rfl ?_
    refine V_aload_n C 0 dX11_friend_33 rfl rfl ?_
    refine V_ga C 143 (by decide) (by decide) F_11_20 k_RX11_35 dX11_friend_34 ?_
    refine V_iconst (v := 0) C dX11_friend_37 (by decide) ?_
    obtain ⟨hi, h⟩ := h
    refine V_iald C 148 1900 (by decide) (by decide) hi dX11_friend_38 ?_
    refine V_icmp_ge (tgt := 88) C dX11_friend_39 (by decide) (fun c => ?_) (fun c => ?_)
    · have h := h.1 c
      refine V_iload_n C 2 dX11_friend_88 rfl rfl ?_
      refine V_if_ge (tgt := 101) C dX11_friend_89 (by decide) (fun c => ?_) (fun c => ?_)
      · have h := h.1 c
        refine V_iload_n C 2 dX11_friend_101 rfl rfl ?_
        exact V_iret C D dX11_friend_102 h
      · have h := h.2 c
        refine V_aload_n C 0 dX11_friend_92 rfl rfl ?_
        refine V_bipush (v := 8) C dX11_friend_93 (by decide) ?_
        refine V_callVi (As := [.int 8]) (rest := []) C (c_X11_refuse (v_l X) G  _ _ h) 143 11 (by decide) (by decide) (by decide) rfl KV_X11_refuse k_RX11_303 rfl rfl rfl (Nat.le_of_ble_eq_true rfl) ⟨Nat.le_of_ble_eq_true rfl, Nat.le_of_ble_eq_true rfl⟩ dX11_friend_95 (fun r36 S35 h => ?_)
        refine V_goto (tgt := 102) C dX11_friend_98 (by decide) ?_
        exact V_iret C D dX11_friend_102 h
    · have h := h.2 c
      refine V_aload_n C 0 dX11_friend_42 rfl rfl ?_
      refine V_iload C 4 dX11_friend_43 rfl ?_
      refine V_iload_n C 1 dX11_friend_45 rfl rfl ?_
      refine V_callVz (As := [.int x5, .int a1]) (rest := []) C (c_X11_canCharge (v_l X) G  _ _ _ h) 143 11 (by decide) (by decide) (by decide) rfl KV_X11_canCharge k_RX11_338 rfl rfl rfl (Nat.le_of_ble_eq_true rfl) ⟨Nat.le_of_ble_eq_true rfl, Nat.le_of_ble_eq_true rfl⟩ dX11_friend_46 (fun r38 S37 h => ?_)
      refine V_ifb_eq (tgt := 82) C dX11_friend_49 (by decide) (fun c => ?_) (fun c => ?_)
      · have h := h.1 c
        exact q_X11_friend_82 C D hK31 _ _ _ _ h
      · have h := h.2 c
        refine V_iload_n C 2 dX11_friend_52 rfl rfl ?_
        refine V_if_lt (tgt := 71) C dX11_friend_53 (by decide) (fun c => ?_) (fun c => ?_)
        · have h := h.1 c
          refine V_loc (lv' := [(0, .ref (G.1 143)), (1, .int a1), (5, .int x5)]) [0, 1, 4] rfl ?_
          exact q_X11_friend_71 C D hK31 _ _ h
        · have h := h.2 c
          refine V_aload_n C 0 dX11_friend_56 rfl rfl ?_
          refine V_iload C 4 dX11_friend_57 rfl ?_
          refine V_iload_n C 1 dX11_friend_59 rfl rfl ?_
          refine V_callVl (As := [.int x5, .int a1]) (rest := []) C (c_X11_lossOf (v_l X) G  _ _ _ h) 143 11 (by decide) (by decide) (by decide) rfl KV_X11_lossOf k_RX11_398 rfl rfl rfl (Nat.le_of_ble_eq_true rfl) ⟨Nat.le_of_ble_eq_true rfl, Nat.le_of_ble_eq_true rfl⟩ dX11_friend_60 (fun r40 S39 h => ?_)
          refine V_lload_n C 3 dX11_friend_63 rfl rfl ?_
          refine V_lcmp_lt (tgt := 71) C dX11_friend_64 dX11_friend_65 (by decide) (fun c => ?_) (fun c => ?_)
          · have h := h.1 c
            refine V_loc (lv' := [(0, .ref (G.1 143)), (1, .int a1), (5, .int x5)]) [0, 1, 4] rfl ?_
            exact q_X11_friend_71 C D hK31 _ _ h
          · have h := h.2 c
            refine V_goto (tgt := 82) C dX11_friend_68 (by decide) ?_
            exact q_X11_friend_82 C D hK31 _ _ _ _ h
set_option maxHeartbeats 4000000 in
set_option maxRecDepth 100000 in
theorem c_X11_friend (l : Launch) (G : vG)    {S : vSt} (a1 : Int32) (post : Int32 → vSt → Prop) (h : p_X11_friend   S a1 post) : Met l yX11_friend (v_ws yX11_friend cX11_friend 6 (some .int)) (v_rm 5 154) (v_Pc G [.ref (G.1 143), .int a1] S) (v_Qi G post) 0 0 (v_A G) := by
  refine v_start (by decide +kernel) (Nat.le_of_ble_eq_true rfl) (fun X hl C D => ?_)
  subst hl
  have C : v_Cx X G cX11_friend RX11 6 (v_rm 5 154) := C
  show VJ X G S 0 [(0, .ref (G.1 143)), (1, .int a1)] []
  refine V_aload_n C 0 dX11_friend_0 rfl rfl ?_
  refine V_iconst (v := 0) C dX11_friend_1 (by decide) ?_
  refine V_pi C 143 (by decide) (by decide) P_11_1 k_RX11_60 dX11_friend_2 ?_
  refine V_topS (fun S31 eS31 => ?_)
  have h := h S31 eS31
  refine V_aload_n C 0 dX11_friend_5 rfl rfl ?_
  refine V_iconst (v := 0) C dX11_friend_6 (by decide) ?_
  refine V_pi C 143 (by decide) (by decide) P_11_0 k_RX11_63 dX11_friend_7 ?_
  refine V_topS (fun S32 eS32 => ?_)
  have h := h S32 eS32
  refine V_aload_n C 0 dX11_friend_10 rfl rfl ?_
  refine V_iload_n C 1 dX11_friend_11 rfl rfl ?_
  refine V_callVz (As := [.int a1]) (rest := []) C (c_X11_isDeedAt (v_l X) G  _ _ h) 143 11 (by decide) (by decide) (by decide) rfl KV_X11_isDeedAt k_RX11_292 rfl rfl rfl (Nat.le_of_ble_eq_true rfl) ⟨Nat.le_of_ble_eq_true rfl, Nat.le_of_ble_eq_true rfl⟩ dX11_friend_12 (fun r34 S33 h => ?_)
  refine V_ifb_ne (tgt := 24) C dX11_friend_15 (by decide) (fun c => ?_) (fun c => ?_)
  · have h := h.1 c
    refine V_iconst (v := (-1)) C dX11_friend_24 (by decide) ?_
    refine V_istore_n (lv' := [(0, .ref (G.1 143)), (1, .int a1), (2, .int (-1))]) C [1, 2, 0] dX11_friend_25 rfl (by decide) rfl ?_
    refine V_lconst (v := 0) C dX11_friend_26 (by decide) ?_
    refine V_lstore_n (lv' := [(0, .ref (G.1 143)), (1, .int a1), (2, .int (-1)), (3, .long 0)]) C [1, 2, 3, 0] dX11_friend_27 rfl (by decide) rfl ?_
    refine V_iconst (v := 0) C dX11_friend_28 (by decide) ?_
    refine V_istore (lv' := [(0, .ref (G.1 143)), (1, .int a1), (2, .int (-1)), (3, .long 0), (5, .int 0)]) C [1, 2, 3, 4, 0] dX11_friend_29 (by decide) rfl ?_
    obtain ⟨fu31, h⟩ := h
    exact q_X11_friend_31 C D  fu31 _ _ _ _ h
  · have h := h.2 c
    refine V_aload_n C 0 dX11_friend_18 rfl rfl ?_
    refine V_iconst (v := 2) C dX11_friend_19 (by decide) ?_
    refine V_callVi (As := [.int 2]) (rest := []) C (c_X11_refuse (v_l X) G  _ _ h) 143 11 (by decide) (by decide) (by decide) rfl KV_X11_refuse k_RX11_303 rfl rfl rfl (Nat.le_of_ble_eq_true rfl) ⟨Nat.le_of_ble_eq_true rfl, Nat.le_of_ble_eq_true rfl⟩ dX11_friend_20 (fun r36 S35 h => ?_)
    exact V_iret C D dX11_friend_23 h
/-! HalfAccuserModel.isGladly(I)Z -/
theorem dX11_isGladly_0 : decode cX11_isGladly 0 = .ok ((.aload_n 0), 1) := by decide +kernel
theorem dX11_isGladly_1 : decode cX11_isGladly 1 = .ok ((.iload_n 1), 1) := by decide +kernel
theorem dX11_isGladly_2 : decode cX11_isGladly 2 = .ok ((.invokevirtual 295), 3) := by decide +kernel
theorem dX11_isGladly_5 : decode cX11_isGladly 5 = .ok ((.ifCond .eq 17), 3) := by decide +kernel
theorem dX11_isGladly_8 : decode cX11_isGladly 8 = .ok ((.aload_n 0), 1) := by decide +kernel
theorem dX11_isGladly_9 : decode cX11_isGladly 9 = .ok ((.iload_n 1), 1) := by decide +kernel
theorem dX11_isGladly_10 : decode cX11_isGladly 10 = .ok ((.invokevirtual 404), 3) := by decide +kernel
theorem dX11_isGladly_13 : decode cX11_isGladly 13 = .ok ((.lconst 0), 1) := by decide +kernel
theorem dX11_isGladly_14 : decode cX11_isGladly 14 = .ok (.lcmp, 1) := by decide +kernel
theorem dX11_isGladly_15 : decode cX11_isGladly 15 = .ok ((.ifCond .lt 7), 3) := by decide +kernel
theorem dX11_isGladly_18 : decode cX11_isGladly 18 = .ok ((.iconst 1), 1) := by decide +kernel
theorem dX11_isGladly_19 : decode cX11_isGladly 19 = .ok ((.goto 4), 3) := by decide +kernel
theorem dX11_isGladly_22 : decode cX11_isGladly 22 = .ok ((.iconst 0), 1) := by decide +kernel
theorem dX11_isGladly_23 : decode cX11_isGladly 23 = .ok (.ireturn, 1) := by decide +kernel
def p_X11_isGladly   (S : vSt) (a1 : Int32) (post : Bool → vSt → Prop) : Prop := p_X11_isOpen  S a1 (fun r6 S5 => ((r6 = false → post false S5) ∧ (r6 = true → p_X11_dreadOf  S5 a1 (fun r8 S7 => ((r8 < 0 → post false S7) ∧ (¬ r8 < 0 → post true S7))))))
set_option maxHeartbeats 4000000 in
set_option maxRecDepth 100000 in
theorem c_X11_isGladly (l : Launch) (G : vG)    {S : vSt} (a1 : Int32) (post : Bool → vSt → Prop) (h : p_X11_isGladly   S a1 post) : Met l yX11_isGladly (v_ws yX11_isGladly cX11_isGladly 2 (some .boolean)) (v_rm 6 178) (v_Pc G [.ref (G.1 143), .int a1] S) (v_Qz G post) 0 0 (v_A G) := by
  refine v_start (by decide +kernel) (Nat.le_of_ble_eq_true rfl) (fun X hl C D => ?_)
  subst hl
  have C : v_Cx X G cX11_isGladly RX11 2 (v_rm 6 178) := C
  show VJ X G S 0 [(0, .ref (G.1 143)), (1, .int a1)] []
  refine V_aload_n C 0 dX11_isGladly_0 rfl rfl ?_
  refine V_iload_n C 1 dX11_isGladly_1 rfl rfl ?_
  refine V_callVz (As := [.int a1]) (rest := []) C (c_X11_isOpen (v_l X) G  _ _ h) 143 11 (by decide) (by decide) (by decide) rfl KV_X11_isOpen k_RX11_295 rfl rfl rfl (Nat.le_of_ble_eq_true rfl) ⟨Nat.le_of_ble_eq_true rfl, Nat.le_of_ble_eq_true rfl⟩ dX11_isGladly_2 (fun r6 S5 h => ?_)
  refine V_ifb_eq (tgt := 22) C dX11_isGladly_5 (by decide) (fun c => ?_) (fun c => ?_)
  · have h := h.1 c
    refine V_iconst (v := 0) C dX11_isGladly_22 (by decide) ?_
    exact V_zret0 C D dX11_isGladly_23 h
  · have h := h.2 c
    refine V_aload_n C 0 dX11_isGladly_8 rfl rfl ?_
    refine V_iload_n C 1 dX11_isGladly_9 rfl rfl ?_
    refine V_callVl (As := [.int a1]) (rest := []) C (c_X11_dreadOf (v_l X) G  _ _ h) 143 11 (by decide) (by decide) (by decide) rfl KV_X11_dreadOf k_RX11_404 rfl rfl rfl (Nat.le_of_ble_eq_true rfl) ⟨Nat.le_of_ble_eq_true rfl, Nat.le_of_ble_eq_true rfl⟩ dX11_isGladly_10 (fun r8 S7 h => ?_)
    refine V_lconst (v := 0) C dX11_isGladly_13 (by decide) ?_
    refine V_lcmp_lt (tgt := 22) C dX11_isGladly_14 dX11_isGladly_15 (by decide) (fun c => ?_) (fun c => ?_)
    · have h := h.1 c
      refine V_iconst (v := 0) C dX11_isGladly_22 (by decide) ?_
      exact V_zret0 C D dX11_isGladly_23 h
    · have h := h.2 c
      refine V_iconst (v := 1) C dX11_isGladly_18 (by decide) ?_
      refine V_goto (tgt := 23) C dX11_isGladly_19 (by decide) ?_
      exact V_zret1 C D dX11_isGladly_23 h
/-! HalfAccuserModel.quiet()I -/
theorem dX11_quiet_0 : decode cX11_quiet 0 = .ok ((.aload_n 0), 1) := by decide +kernel
theorem dX11_quiet_1 : decode cX11_quiet 1 = .ok ((.iconst 0), 1) := by decide +kernel
theorem dX11_quiet_2 : decode cX11_quiet 2 = .ok ((.putfield 60), 3) := by decide +kernel
theorem dX11_quiet_5 : decode cX11_quiet 5 = .ok ((.aload_n 0), 1) := by decide +kernel
theorem dX11_quiet_6 : decode cX11_quiet 6 = .ok ((.iconst 0), 1) := by decide +kernel
theorem dX11_quiet_7 : decode cX11_quiet 7 = .ok ((.putfield 63), 3) := by decide +kernel
theorem dX11_quiet_10 : decode cX11_quiet 10 = .ok ((.iconst 0), 1) := by decide +kernel
theorem dX11_quiet_11 : decode cX11_quiet 11 = .ok ((.istore_n 1), 1) := by decide +kernel
theorem dX11_quiet_12 : decode cX11_quiet 12 = .ok ((.iconst 0), 1) := by decide +kernel
theorem dX11_quiet_13 : decode cX11_quiet 13 = .ok ((.istore_n 2), 1) := by decide +kernel
theorem dX11_quiet_14 : decode cX11_quiet 14 = .ok ((.iload_n 2), 1) := by decide +kernel
theorem dX11_quiet_15 : decode cX11_quiet 15 = .ok ((.aload_n 0), 1) := by decide +kernel
theorem dX11_quiet_16 : decode cX11_quiet 16 = .ok ((.getfield 35), 3) := by decide +kernel
theorem dX11_quiet_19 : decode cX11_quiet 19 = .ok ((.iconst 1), 1) := by decide +kernel
theorem dX11_quiet_20 : decode cX11_quiet 20 = .ok (.iaload, 1) := by decide +kernel
theorem dX11_quiet_21 : decode cX11_quiet 21 = .ok ((.if_icmp .ge 35), 3) := by decide +kernel
theorem dX11_quiet_24 : decode cX11_quiet 24 = .ok ((.iload_n 1), 1) := by decide +kernel
theorem dX11_quiet_25 : decode cX11_quiet 25 = .ok ((.aload_n 0), 1) := by decide +kernel
theorem dX11_quiet_26 : decode cX11_quiet 26 = .ok ((.iload_n 2), 1) := by decide +kernel
theorem dX11_quiet_27 : decode cX11_quiet 27 = .ok ((.invokevirtual 295), 3) := by decide +kernel
theorem dX11_quiet_30 : decode cX11_quiet 30 = .ok ((.ifCond .eq 17), 3) := by decide +kernel
theorem dX11_quiet_33 : decode cX11_quiet 33 = .ok ((.aload_n 0), 1) := by decide +kernel
theorem dX11_quiet_34 : decode cX11_quiet 34 = .ok ((.iload_n 2), 1) := by decide +kernel
theorem dX11_quiet_35 : decode cX11_quiet 35 = .ok ((.invokevirtual 411), 3) := by decide +kernel
theorem dX11_quiet_38 : decode cX11_quiet 38 = .ok ((.ifCond .ne 9), 3) := by decide +kernel
theorem dX11_quiet_41 : decode cX11_quiet 41 = .ok ((.iconst 1), 1) := by decide +kernel
theorem dX11_quiet_42 : decode cX11_quiet 42 = .ok ((.iload_n 2), 1) := by decide +kernel
theorem dX11_quiet_43 : decode cX11_quiet 43 = .ok (.ishl, 1) := by decide +kernel
theorem dX11_quiet_44 : decode cX11_quiet 44 = .ok ((.goto 4), 3) := by decide +kernel
theorem dX11_quiet_47 : decode cX11_quiet 47 = .ok ((.iconst 0), 1) := by decide +kernel
theorem dX11_quiet_48 : decode cX11_quiet 48 = .ok (.ior, 1) := by decide +kernel
theorem dX11_quiet_49 : decode cX11_quiet 49 = .ok ((.istore_n 1), 1) := by decide +kernel
theorem dX11_quiet_50 : decode cX11_quiet 50 = .ok ((.iinc 2 1), 3) := by decide +kernel
theorem dX11_quiet_53 : decode cX11_quiet 53 = .ok ((.goto (-39)), 3) := by decide +kernel
theorem dX11_quiet_56 : decode cX11_quiet 56 = .ok ((.iload_n 1), 1) := by decide +kernel
theorem dX11_quiet_57 : decode cX11_quiet 57 = .ok (.ireturn, 1) := by decide +kernel
def p_X11_quiet_48    (K14 : vSt → Int32 → Int32 → Prop) (post : Int32 → vSt → Prop) (S : vSt) (x2 : Int32) (s0 : Int32) (s1 : Int32) : Prop := ∀ y19 : Int32, y19 = (s1 ||| s0) → ∀ y20 : Int32, y20 = x2 + 1 → K14 S y19 y20
def p_X11_quiet_47    (K14 : vSt → Int32 → Int32 → Prop) (post : Int32 → vSt → Prop) (S : vSt) (x2 : Int32) (s0 : Int32) : Prop := p_X11_quiet_48 K14 post S x2 0 s0
def p_X11_quiet_14     (post : Int32 → vSt → Prop) : Nat → vSt → Int32 → Int32 → Prop
  | 0 => fun _ _ _ => False
  | fu14 + 1 => fun S x1 x2 => (vp_in 1 1900 ∧ (((S.1 148 (Int32.toNatClampNeg 1)) ≤ x2 → post x1 S) ∧ (¬ (S.1 148 (Int32.toNatClampNeg 1)) ≤ x2 → p_X11_isOpen  S x2 (fun r18 S17 => ((r18 = false → p_X11_quiet_47 (p_X11_quiet_14  post fu14) post S17 x2 x1) ∧ (r18 = true → p_X11_isGladly  S17 x2 (fun r20 S19 => ((r20 = true → p_X11_quiet_47 (p_X11_quiet_14  post fu14) post S19 x2 x1) ∧ (r20 = false → p_X11_quiet_48 (p_X11_quiet_14  post fu14) post S19 x2 (1 <<< (x2 &&& 31)) x1)))))))))
theorem e_X11_quiet_14     (post : Int32 → vSt → Prop) (fu14 : Nat) (S : vSt) (x1 : Int32) (x2 : Int32) : p_X11_quiet_14  post (fu14 + 1) S x1 x2 = ((vp_in 1 1900 ∧ (((S.1 148 (Int32.toNatClampNeg 1)) ≤ x2 → post x1 S) ∧ (¬ (S.1 148 (Int32.toNatClampNeg 1)) ≤ x2 → p_X11_isOpen  S x2 (fun r18 S17 => ((r18 = false → p_X11_quiet_47 (p_X11_quiet_14  post fu14) post S17 x2 x1) ∧ (r18 = true → p_X11_isGladly  S17 x2 (fun r20 S19 => ((r20 = true → p_X11_quiet_47 (p_X11_quiet_14  post fu14) post S19 x2 x1) ∧ (r20 = false → p_X11_quiet_48 (p_X11_quiet_14  post fu14) post S19 x2 (1 <<< (x2 &&& 31)) x1)))))))))) := rfl
def p_X11_quiet   (S : vSt)  (post : Int32 → vSt → Prop) : Prop := ∀ S15, S15 = v_si S 143 1 0 → ∀ S16, S16 = v_si S15 143 0 0 → ∃ fu14, p_X11_quiet_14  post fu14 S16 0 0
set_option maxHeartbeats 4000000 in
set_option maxRecDepth 100000 in
theorem q_X11_quiet_48 {X : vX} {G : vG}  {post : Int32 → vSt → Prop} (C : v_Cx X G cX11_quiet RX11 3 (v_rm 7 199)) (D : v_Rx X G (v_Qi G post) (some .int))    {K14 : vSt → Int32 → Int32 → Prop} (hK14 : ∀ S x1 x2, K14 S x1 x2 → VJ X G S 14 [(0, .ref (G.1 143)), (1, .int x1), (2, .int x2)] []) : ∀ (S : vSt) (x2 : Int32) (s0 : Int32) (s1 : Int32), p_X11_quiet_48 K14 post S x2 s0 s1 → VJ X G S 48 [(0, .ref (G.1 143)), (2, .int x2)] [.int s0, .int s1] := by
  intro S x2 s0 s1 h
  refine V_ior C dX11_quiet_48 ?_
  refine V_topi (fun y19 ey19 => ?_)
  have h := h y19 ey19
  refine V_istore_n (lv' := [(0, .ref (G.1 143)), (1, .int y19), (2, .int x2)]) C [1, 0, 2] dX11_quiet_49 rfl (by decide) rfl ?_
  obtain ⟨y20, ey20⟩ : ∃ z : Int32, z = x2 + 1 := ⟨_, rfl⟩
  have h := h y20 ey20
  refine V_iinc (lv' := [(0, .ref (G.1 143)), (1, .int y19), (2, .int y20)]) C 2 [1, 2, 0] y20 dX11_quiet_50 rfl (by rw [ey20]; rfl) (by decide) rfl ?_
  refine V_goto (tgt := 14) C dX11_quiet_53 (by decide) ?_
  exact hK14 _ _ _ h
set_option maxHeartbeats 4000000 in
set_option maxRecDepth 100000 in
theorem q_X11_quiet_47 {X : vX} {G : vG}  {post : Int32 → vSt → Prop} (C : v_Cx X G cX11_quiet RX11 3 (v_rm 7 199)) (D : v_Rx X G (v_Qi G post) (some .int))    {K14 : vSt → Int32 → Int32 → Prop} (hK14 : ∀ S x1 x2, K14 S x1 x2 → VJ X G S 14 [(0, .ref (G.1 143)), (1, .int x1), (2, .int x2)] []) : ∀ (S : vSt) (x2 : Int32) (s0 : Int32), p_X11_quiet_47 K14 post S x2 s0 → VJ X G S 47 [(0, .ref (G.1 143)), (2, .int x2)] [.int s0] := by
  intro S x2 s0 h
  refine V_iconst (v := 0) C dX11_quiet_47 (by decide) ?_
  exact q_X11_quiet_48 C D hK14 _ _ _ _ h
set_option maxHeartbeats 4000000 in
set_option maxRecDepth 100000 in
theorem q_X11_quiet_14 {X : vX} {G : vG}  {post : Int32 → vSt → Prop} (C : v_Cx X G cX11_quiet RX11 3 (v_rm 7 199)) (D : v_Rx X G (v_Qi G post) (some .int))     : ∀ (fu : Nat) (S : vSt) (x1 : Int32) (x2 : Int32), p_X11_quiet_14  post fu S x1 x2 → VJ X G S 14 [(0, .ref (G.1 143)), (1, .int x1), (2, .int x2)] [] := by
  intro fu
  induction fu with
  | zero => intro S x1 x2 h; exact absurd h id
  | succ fu ih =>
    intro S x1 x2 h
    have hK14 := ih
    rw [e_X11_quiet_14] at h
    refine V_iload_n C 2 dX11_quiet_14 rfl rfl ?_
    refine V_aload_n C 0 dX11_quiet_15 rfl rfl ?_
    refine V_ga C 143 (by decide) (by decide) F_11_20 k_RX11_35 dX11_quiet_16 ?_
    refine V_iconst (v := 1) C dX11_quiet_19 (by decide) ?_
    obtain ⟨hi, h⟩ := h
    refine V_iald C 148 1900 (by decide) (by decide) hi dX11_quiet_20 ?_
    refine V_icmp_ge (tgt := 56) C dX11_quiet_21 (by decide) (fun c => ?_) (fun c => ?_)
    · have h := h.1 c
      refine V_iload_n C 1 dX11_quiet_56 rfl rfl ?_
      exact V_iret C D dX11_quiet_57 h
    · have h := h.2 c
      refine V_iload_n C 1 dX11_quiet_24 rfl rfl ?_
      refine V_aload_n C 0 dX11_quiet_25 rfl rfl ?_
      refine V_iload_n C 2 dX11_quiet_26 rfl rfl ?_
      refine V_callVz (As := [.int x2]) (rest := [.int x1]) C (c_X11_isOpen (v_l X) G  _ _ h) 143 11 (by decide) (by decide) (by decide) rfl KV_X11_isOpen k_RX11_295 rfl rfl rfl (Nat.le_of_ble_eq_true rfl) ⟨Nat.le_of_ble_eq_true rfl, Nat.le_of_ble_eq_true rfl⟩ dX11_quiet_27 (fun r18 S17 h => ?_)
      refine V_ifb_eq (tgt := 47) C dX11_quiet_30 (by decide) (fun c => ?_) (fun c => ?_)
      · have h := h.1 c
        refine V_loc (lv' := [(0, .ref (G.1 143)), (2, .int x2)]) [0, 2] rfl ?_
        exact q_X11_quiet_47 C D hK14 _ _ _ h
      · have h := h.2 c
        refine V_aload_n C 0 dX11_quiet_33 rfl rfl ?_
        refine V_iload_n C 2 dX11_quiet_34 rfl rfl ?_
        refine V_callVz (As := [.int x2]) (rest := [.int x1]) C (c_X11_isGladly (v_l X) G  _ _ h) 143 11 (by decide) (by decide) (by decide) rfl KV_X11_isGladly k_RX11_411 rfl rfl rfl (Nat.le_of_ble_eq_true rfl) ⟨Nat.le_of_ble_eq_true rfl, Nat.le_of_ble_eq_true rfl⟩ dX11_quiet_35 (fun r20 S19 h => ?_)
        refine V_ifb_ne (tgt := 47) C dX11_quiet_38 (by decide) (fun c => ?_) (fun c => ?_)
        · have h := h.1 c
          refine V_loc (lv' := [(0, .ref (G.1 143)), (2, .int x2)]) [0, 2] rfl ?_
          exact q_X11_quiet_47 C D hK14 _ _ _ h
        · have h := h.2 c
          refine V_iconst (v := 1) C dX11_quiet_41 (by decide) ?_
          refine V_iload_n C 2 dX11_quiet_42 rfl rfl ?_
          refine V_ishl C dX11_quiet_43 ?_
          refine V_goto (tgt := 48) C dX11_quiet_44 (by decide) ?_
          refine V_loc (lv' := [(0, .ref (G.1 143)), (2, .int x2)]) [0, 2] rfl ?_
          exact q_X11_quiet_48 C D hK14 _ _ _ _ h
set_option maxHeartbeats 4000000 in
set_option maxRecDepth 100000 in
theorem c_X11_quiet (l : Launch) (G : vG)    {S : vSt}  (post : Int32 → vSt → Prop) (h : p_X11_quiet   S  post) : Met l yX11_quiet (v_ws yX11_quiet cX11_quiet 3 (some .int)) (v_rm 7 199) (v_Pc G [.ref (G.1 143)] S) (v_Qi G post) 0 0 (v_A G) := by
  refine v_start (by decide +kernel) (Nat.le_of_ble_eq_true rfl) (fun X hl C D => ?_)
  subst hl
  have C : v_Cx X G cX11_quiet RX11 3 (v_rm 7 199) := C
  show VJ X G S 0 [(0, .ref (G.1 143))] []
  refine V_aload_n C 0 dX11_quiet_0 rfl rfl ?_
  refine V_iconst (v := 0) C dX11_quiet_1 (by decide) ?_
  refine V_pi C 143 (by decide) (by decide) P_11_1 k_RX11_60 dX11_quiet_2 ?_
  refine V_topS (fun S15 eS15 => ?_)
  have h := h S15 eS15
  refine V_aload_n C 0 dX11_quiet_5 rfl rfl ?_
  refine V_iconst (v := 0) C dX11_quiet_6 (by decide) ?_
  refine V_pi C 143 (by decide) (by decide) P_11_0 k_RX11_63 dX11_quiet_7 ?_
  refine V_topS (fun S16 eS16 => ?_)
  have h := h S16 eS16
  refine V_iconst (v := 0) C dX11_quiet_10 (by decide) ?_
  refine V_istore_n (lv' := [(0, .ref (G.1 143)), (1, .int 0)]) C [1, 0] dX11_quiet_11 rfl (by decide) rfl ?_
  refine V_iconst (v := 0) C dX11_quiet_12 (by decide) ?_
  refine V_istore_n (lv' := [(0, .ref (G.1 143)), (1, .int 0), (2, .int 0)]) C [1, 2, 0] dX11_quiet_13 rfl (by decide) rfl ?_
  obtain ⟨fu14, h⟩ := h
  exact q_X11_quiet_14 C D  fu14 _ _ _ h
/-! HalfAccuserModel.trade(III)I -/
theorem dX11_trade_0 : decode cX11_trade 0 = .ok ((.aload_n 0), 1) := by decide +kernel
theorem dX11_trade_1 : decode cX11_trade 1 = .ok ((.iconst 0), 1) := by decide +kernel
theorem dX11_trade_2 : decode cX11_trade 2 = .ok ((.putfield 60), 3) := by decide +kernel
theorem dX11_trade_5 : decode cX11_trade 5 = .ok ((.aload_n 0), 1) := by decide +kernel
theorem dX11_trade_6 : decode cX11_trade 6 = .ok ((.iconst 0), 1) := by decide +kernel
theorem dX11_trade_7 : decode cX11_trade 7 = .ok ((.putfield 63), 3) := by decide +kernel
theorem dX11_trade_10 : decode cX11_trade 10 = .ok ((.aload_n 0), 1) := by decide +kernel
theorem dX11_trade_11 : decode cX11_trade 11 = .ok ((.iload_n 1), 1) := by decide +kernel
theorem dX11_trade_12 : decode cX11_trade 12 = .ok ((.iload_n 2), 1) := by decide +kernel
theorem dX11_trade_13 : decode cX11_trade 13 = .ok ((.invokevirtual 335), 3) := by decide +kernel
theorem dX11_trade_16 : decode cX11_trade 16 = .ok ((.ifCond .ne 9), 3) := by decide +kernel
theorem dX11_trade_19 : decode cX11_trade 19 = .ok ((.aload_n 0), 1) := by decide +kernel
theorem dX11_trade_20 : decode cX11_trade 20 = .ok ((.iconst 2), 1) := by decide +kernel
theorem dX11_trade_21 : decode cX11_trade 21 = .ok ((.invokevirtual 303), 3) := by decide +kernel
theorem dX11_trade_24 : decode cX11_trade 24 = .ok (.ireturn, 1) := by decide +kernel
theorem dX11_trade_25 : decode cX11_trade 25 = .ok ((.iload_n 3), 1) := by decide +kernel
theorem dX11_trade_26 : decode cX11_trade 26 = .ok (.i2l, 1) := by decide +kernel
theorem dX11_trade_27 : decode cX11_trade 27 = .ok ((.lconst 0), 1) := by decide +kernel
theorem dX11_trade_28 : decode cX11_trade 28 = .ok ((.lconst 1), 1) := by decide +kernel
theorem dX11_trade_29 : decode cX11_trade 29 = .ok ((.invokestatic 95), 3) := by decide +kernel
theorem dX11_trade_32 : decode cX11_trade 32 = .ok ((.ifCond .ne 9), 3) := by decide +kernel
theorem dX11_trade_35 : decode cX11_trade 35 = .ok ((.aload_n 0), 1) := by decide +kernel
theorem dX11_trade_36 : decode cX11_trade 36 = .ok ((.iconst 5), 1) := by decide +kernel
theorem dX11_trade_37 : decode cX11_trade 37 = .ok ((.invokevirtual 303), 3) := by decide +kernel
theorem dX11_trade_40 : decode cX11_trade 40 = .ok (.ireturn, 1) := by decide +kernel
theorem dX11_trade_41 : decode cX11_trade 41 = .ok ((.aload_n 0), 1) := by decide +kernel
theorem dX11_trade_42 : decode cX11_trade 42 = .ok ((.iload_n 1), 1) := by decide +kernel
theorem dX11_trade_43 : decode cX11_trade 43 = .ok ((.iload_n 2), 1) := by decide +kernel
theorem dX11_trade_44 : decode cX11_trade 44 = .ok ((.invokevirtual 338), 3) := by decide +kernel
theorem dX11_trade_47 : decode cX11_trade 47 = .ok ((.ifCond .ne 10), 3) := by decide +kernel
theorem dX11_trade_50 : decode cX11_trade 50 = .ok ((.aload_n 0), 1) := by decide +kernel
theorem dX11_trade_51 : decode cX11_trade 51 = .ok ((.bipush 9), 2) := by decide +kernel
theorem dX11_trade_53 : decode cX11_trade 53 = .ok ((.invokevirtual 303), 3) := by decide +kernel
theorem dX11_trade_56 : decode cX11_trade 56 = .ok (.ireturn, 1) := by decide +kernel
theorem dX11_trade_57 : decode cX11_trade 57 = .ok ((.aload_n 0), 1) := by decide +kernel
theorem dX11_trade_58 : decode cX11_trade 58 = .ok ((.invokevirtual 384), 3) := by decide +kernel
theorem dX11_trade_61 : decode cX11_trade 61 = .ok ((.lstore 4), 2) := by decide +kernel
theorem dX11_trade_63 : decode cX11_trade 63 = .ok ((.lconst 0), 1) := by decide +kernel
theorem dX11_trade_64 : decode cX11_trade 64 = .ok ((.aload_n 0), 1) := by decide +kernel
theorem dX11_trade_65 : decode cX11_trade 65 = .ok ((.iload_n 1), 1) := by decide +kernel
theorem dX11_trade_66 : decode cX11_trade 66 = .ok ((.iload_n 2), 1) := by decide +kernel
theorem dX11_trade_67 : decode cX11_trade 67 = .ok ((.invokevirtual 395), 3) := by decide +kernel
theorem dX11_trade_70 : decode cX11_trade 70 = .ok ((.invokestatic 401), 3) := by decide +kernel
theorem dX11_trade_73 : decode cX11_trade 73 = .ok ((.lload 4), 2) := by decide +kernel
theorem dX11_trade_75 : decode cX11_trade 75 = .ok (.ladd, 1) := by decide +kernel
theorem dX11_trade_76 : decode cX11_trade 76 = .ok ((.lconst 1), 1) := by decide +kernel
theorem dX11_trade_77 : decode cX11_trade 77 = .ok (.lsub, 1) := by decide +kernel
theorem dX11_trade_78 : decode cX11_trade 78 = .ok ((.lload 4), 2) := by decide +kernel
theorem dX11_trade_80 : decode cX11_trade 80 = .ok (.ldiv, 1) := by decide +kernel
theorem dX11_trade_81 : decode cX11_trade 81 = .ok ((.lstore 6), 2) := by decide +kernel
theorem dX11_trade_83 : decode cX11_trade 83 = .ok ((.aload_n 0), 1) := by decide +kernel
theorem dX11_trade_84 : decode cX11_trade 84 = .ok ((.iload_n 1), 1) := by decide +kernel
theorem dX11_trade_85 : decode cX11_trade 85 = .ok ((.iload_n 2), 1) := by decide +kernel
theorem dX11_trade_86 : decode cX11_trade 86 = .ok ((.invokevirtual 398), 3) := by decide +kernel
theorem dX11_trade_89 : decode cX11_trade 89 = .ok ((.lload 4), 2) := by decide +kernel
theorem dX11_trade_91 : decode cX11_trade 91 = .ok (.ldiv, 1) := by decide +kernel
theorem dX11_trade_92 : decode cX11_trade 92 = .ok ((.lstore 8), 2) := by decide +kernel
theorem dX11_trade_94 : decode cX11_trade 94 = .ok ((.lload 6), 2) := by decide +kernel
theorem dX11_trade_96 : decode cX11_trade 96 = .ok ((.lload 8), 2) := by decide +kernel
theorem dX11_trade_98 : decode cX11_trade 98 = .ok (.lcmp, 1) := by decide +kernel
theorem dX11_trade_99 : decode cX11_trade 99 = .ok ((.ifCond .le 12), 3) := by decide +kernel
theorem dX11_trade_102 : decode cX11_trade 102 = .ok ((.aload_n 0), 1) := by decide +kernel
theorem dX11_trade_103 : decode cX11_trade 103 = .ok ((.bipush 8), 2) := by decide +kernel
theorem dX11_trade_105 : decode cX11_trade 105 = .ok ((.invokevirtual 303), 3) := by decide +kernel
theorem dX11_trade_108 : decode cX11_trade 108 = .ok ((.goto 15), 3) := by decide +kernel
theorem dX11_trade_111 : decode cX11_trade 111 = .ok ((.iload_n 3), 1) := by decide +kernel
theorem dX11_trade_112 : decode cX11_trade 112 = .ok ((.ifCond .ne 8), 3) := by decide +kernel
theorem dX11_trade_115 : decode cX11_trade 115 = .ok ((.lload 6), 2) := by decide +kernel
theorem dX11_trade_117 : decode cX11_trade 117 = .ok ((.goto 5), 3) := by decide +kernel
theorem dX11_trade_120 : decode cX11_trade 120 = .ok ((.lload 8), 2) := by decide +kernel
theorem dX11_trade_122 : decode cX11_trade 122 = .ok (.l2i, 1) := by decide +kernel
theorem dX11_trade_123 : decode cX11_trade 123 = .ok (.ireturn, 1) := by decide +kernel
def p_X11_trade   (S : vSt) (a1 : Int32) (a2 : Int32) (a3 : Int32) (post : Int32 → vSt → Prop) : Prop := ∀ S25, S25 = v_si S 143 1 0 → ∀ S26, S26 = v_si S25 143 0 0 → p_X11_areBoth  S26 a1 a2 (fun r28 S27 => ((r28 = true → p_X11_isIn  S27 (Int32.toInt64 a3) 0 1 (fun r30 S29 => ((r30 = true → p_X11_canCharge  S29 a1 a2 (fun r32 S31 => ((r32 = true → p_X11_allVotes  S31  (fun r34 S33 => p_X11_gainOf  S33 a1 a2 (fun r36 S35 => (¬ r34 = 0 ∧ ∀ y37 : Int64, y37 = ((((v_maxl 0 r36) + r34) - 1) / r34) → p_X11_lossOf  S35 a1 a2 (fun r39 S38 => (¬ r34 = 0 ∧ ∀ y40 : Int64, y40 = (r39 / r34) → ((y37 ≤ y40 → ((¬ a3 = 0 → post (Int64.toInt32 y40) S38) ∧ (a3 = 0 → post (Int64.toInt32 y37) S38))) ∧ (¬ y37 ≤ y40 → p_X11_refuse  S38 8 (fun r42 S41 => post r42 S41))))))))) ∧ (r32 = false → p_X11_refuse  S31 9 (fun r44 S43 => post r44 S43))))) ∧ (r30 = false → p_X11_refuse  S29 5 (fun r46 S45 => post r46 S45))))) ∧ (r28 = false → p_X11_refuse  S27 2 (fun r48 S47 => post r48 S47))))
set_option maxHeartbeats 4000000 in
set_option maxRecDepth 100000 in
theorem c_X11_trade (l : Launch) (G : vG)    {S : vSt} (a1 : Int32) (a2 : Int32) (a3 : Int32) (post : Int32 → vSt → Prop) (h : p_X11_trade   S a1 a2 a3 post) : Met l yX11_trade (v_ws yX11_trade cX11_trade 10 (some .int)) (v_rm 5 154) (v_Pc G [.ref (G.1 143), .int a1, .int a2, .int a3] S) (v_Qi G post) 0 0 (v_A G) := by
  refine v_start (by decide +kernel) (Nat.le_of_ble_eq_true rfl) (fun X hl C D => ?_)
  subst hl
  have C : v_Cx X G cX11_trade RX11 10 (v_rm 5 154) := C
  show VJ X G S 0 [(0, .ref (G.1 143)), (1, .int a1), (2, .int a2), (3, .int a3)] []
  refine V_aload_n C 0 dX11_trade_0 rfl rfl ?_
  refine V_iconst (v := 0) C dX11_trade_1 (by decide) ?_
  refine V_pi C 143 (by decide) (by decide) P_11_1 k_RX11_60 dX11_trade_2 ?_
  refine V_topS (fun S25 eS25 => ?_)
  have h := h S25 eS25
  refine V_aload_n C 0 dX11_trade_5 rfl rfl ?_
  refine V_iconst (v := 0) C dX11_trade_6 (by decide) ?_
  refine V_pi C 143 (by decide) (by decide) P_11_0 k_RX11_63 dX11_trade_7 ?_
  refine V_topS (fun S26 eS26 => ?_)
  have h := h S26 eS26
  refine V_aload_n C 0 dX11_trade_10 rfl rfl ?_
  refine V_iload_n C 1 dX11_trade_11 rfl rfl ?_
  refine V_iload_n C 2 dX11_trade_12 rfl rfl ?_
  refine V_callVz (As := [.int a1, .int a2]) (rest := []) C (c_X11_areBoth (v_l X) G  _ _ _ h) 143 11 (by decide) (by decide) (by decide) rfl KV_X11_areBoth k_RX11_335 rfl rfl rfl (Nat.le_of_ble_eq_true rfl) ⟨Nat.le_of_ble_eq_true rfl, Nat.le_of_ble_eq_true rfl⟩ dX11_trade_13 (fun r28 S27 h => ?_)
  refine V_ifb_ne (tgt := 25) C dX11_trade_16 (by decide) (fun c => ?_) (fun c => ?_)
  · have h := h.1 c
    refine V_iload_n C 3 dX11_trade_25 rfl rfl ?_
    refine V_i2l C dX11_trade_26 ?_
    refine V_lconst (v := 0) C dX11_trade_27 (by decide) ?_
    refine V_lconst (v := 1) C dX11_trade_28 (by decide) ?_
    refine V_callSz (As := [.long (Int32.toInt64 a3), .long 0, .long 1]) (rest := []) C (c_X11_isIn (v_l X) G  _ _ _ _ h) KV_X11_isIn k_RX11_95 rfl rfl rfl (Nat.le_of_ble_eq_true rfl) ⟨Nat.le_of_ble_eq_true rfl, Nat.le_of_ble_eq_true rfl⟩ dX11_trade_29 (fun r30 S29 h => ?_)
    refine V_ifb_ne (tgt := 41) C dX11_trade_32 (by decide) (fun c => ?_) (fun c => ?_)
    · have h := h.1 c
      refine V_aload_n C 0 dX11_trade_41 rfl rfl ?_
      refine V_iload_n C 1 dX11_trade_42 rfl rfl ?_
      refine V_iload_n C 2 dX11_trade_43 rfl rfl ?_
      refine V_callVz (As := [.int a1, .int a2]) (rest := []) C (c_X11_canCharge (v_l X) G  _ _ _ h) 143 11 (by decide) (by decide) (by decide) rfl KV_X11_canCharge k_RX11_338 rfl rfl rfl (Nat.le_of_ble_eq_true rfl) ⟨Nat.le_of_ble_eq_true rfl, Nat.le_of_ble_eq_true rfl⟩ dX11_trade_44 (fun r32 S31 h => ?_)
      refine V_ifb_ne (tgt := 57) C dX11_trade_47 (by decide) (fun c => ?_) (fun c => ?_)
      · have h := h.1 c
        refine V_aload_n C 0 dX11_trade_57 rfl rfl ?_
        refine V_callVl (As := []) (rest := []) C (c_X11_allVotes (v_l X) G  _ h) 143 11 (by decide) (by decide) (by decide) rfl KV_X11_allVotes k_RX11_384 rfl rfl rfl (Nat.le_of_ble_eq_true rfl) ⟨Nat.le_of_ble_eq_true rfl, Nat.le_of_ble_eq_true rfl⟩ dX11_trade_58 (fun r34 S33 h => ?_)
        refine V_lstore (lv' := [(0, .ref (G.1 143)), (1, .int a1), (2, .int a2), (3, .int a3), (4, .long r34)]) C [1, 2, 3, 4, 0] dX11_trade_61 (by decide) rfl ?_
        refine V_lconst (v := 0) C dX11_trade_63 (by decide) ?_
        refine V_aload_n C 0 dX11_trade_64 rfl rfl ?_
        refine V_iload_n C 1 dX11_trade_65 rfl rfl ?_
        refine V_iload_n C 2 dX11_trade_66 rfl rfl ?_
        refine V_callVl (As := [.int a1, .int a2]) (rest := [.long 0]) C (c_X11_gainOf (v_l X) G  _ _ _ h) 143 11 (by decide) (by decide) (by decide) rfl KV_X11_gainOf k_RX11_395 rfl rfl rfl (Nat.le_of_ble_eq_true rfl) ⟨Nat.le_of_ble_eq_true rfl, Nat.le_of_ble_eq_true rfl⟩ dX11_trade_67 (fun r36 S35 h => ?_)
        refine V_maxl C k_RX11_401 (Nat.le_of_ble_eq_true rfl) ⟨Nat.le_of_ble_eq_true rfl, Nat.le_of_ble_eq_true rfl⟩ dX11_trade_70 ?_
        refine V_lload C 4 dX11_trade_73 rfl ?_
        refine V_ladd C dX11_trade_75 ?_
        refine V_lconst (v := 1) C dX11_trade_76 (by decide) ?_
        refine V_lsub C dX11_trade_77 ?_
        refine V_lload C 4 dX11_trade_78 rfl ?_
        obtain ⟨hz, h⟩ := h
        refine V_ldiv C dX11_trade_80 hz ?_
        refine V_topl (fun y37 ey37 => ?_)
        have h := h y37 ey37
        refine V_lstore (lv' := [(0, .ref (G.1 143)), (1, .int a1), (2, .int a2), (3, .int a3), (4, .long r34), (6, .long y37)]) C [1, 2, 3, 4, 5, 0] dX11_trade_81 (by decide) rfl ?_
        refine V_aload_n C 0 dX11_trade_83 rfl rfl ?_
        refine V_iload_n C 1 dX11_trade_84 rfl rfl ?_
        refine V_iload_n C 2 dX11_trade_85 rfl rfl ?_
        refine V_callVl (As := [.int a1, .int a2]) (rest := []) C (c_X11_lossOf (v_l X) G  _ _ _ h) 143 11 (by decide) (by decide) (by decide) rfl KV_X11_lossOf k_RX11_398 rfl rfl rfl (Nat.le_of_ble_eq_true rfl) ⟨Nat.le_of_ble_eq_true rfl, Nat.le_of_ble_eq_true rfl⟩ dX11_trade_86 (fun r39 S38 h => ?_)
        refine V_lload C 4 dX11_trade_89 rfl ?_
        obtain ⟨hz, h⟩ := h
        refine V_ldiv C dX11_trade_91 hz ?_
        refine V_topl (fun y40 ey40 => ?_)
        have h := h y40 ey40
        refine V_lstore (lv' := [(0, .ref (G.1 143)), (1, .int a1), (2, .int a2), (3, .int a3), (4, .long r34), (6, .long y37), (8, .long y40)]) C [1, 2, 3, 4, 5, 6, 0] dX11_trade_92 (by decide) rfl ?_
        refine V_lload C 5 dX11_trade_94 rfl ?_
        refine V_lload C 6 dX11_trade_96 rfl ?_
        refine V_lcmp_le (tgt := 111) C dX11_trade_98 dX11_trade_99 (by decide) (fun c => ?_) (fun c => ?_)
        · have h := h.1 c
          refine V_iload_n C 3 dX11_trade_111 rfl rfl ?_
          refine V_if_ne (tgt := 120) C dX11_trade_112 (by decide) (fun c => ?_) (fun c => ?_)
          · have h := h.1 c
            refine V_lload C 6 dX11_trade_120 rfl ?_
            refine V_l2i C dX11_trade_122 ?_
            exact V_iret C D dX11_trade_123 h
          · have h := h.2 c
            refine V_lload C 5 dX11_trade_115 rfl ?_
            refine V_goto (tgt := 122) C dX11_trade_117 (by decide) ?_
            refine V_l2i C dX11_trade_122 ?_
            exact V_iret C D dX11_trade_123 h
        · have h := h.2 c
          refine V_aload_n C 0 dX11_trade_102 rfl rfl ?_
          refine V_bipush (v := 8) C dX11_trade_103 (by decide) ?_
          refine V_callVi (As := [.int 8]) (rest := []) C (c_X11_refuse (v_l X) G  _ _ h) 143 11 (by decide) (by decide) (by decide) rfl KV_X11_refuse k_RX11_303 rfl rfl rfl (Nat.le_of_ble_eq_true rfl) ⟨Nat.le_of_ble_eq_true rfl, Nat.le_of_ble_eq_true rfl⟩ dX11_trade_105 (fun r42 S41 h => ?_)
          refine V_goto (tgt := 123) C dX11_trade_108 (by decide) ?_
          exact V_iret C D dX11_trade_123 h
      · have h := h.2 c
        refine V_aload_n C 0 dX11_trade_50 rfl rfl ?_
        refine V_bipush (v := 9) C dX11_trade_51 (by decide) ?_
        refine V_callVi (As := [.int 9]) (rest := []) C (c_X11_refuse (v_l X) G  _ _ h) 143 11 (by decide) (by decide) (by decide) rfl KV_X11_refuse k_RX11_303 rfl rfl rfl (Nat.le_of_ble_eq_true rfl) ⟨Nat.le_of_ble_eq_true rfl, Nat.le_of_ble_eq_true rfl⟩ dX11_trade_53 (fun r44 S43 h => ?_)
        exact V_iret C D dX11_trade_56 h
    · have h := h.2 c
      refine V_aload_n C 0 dX11_trade_35 rfl rfl ?_
      refine V_iconst (v := 5) C dX11_trade_36 (by decide) ?_
      refine V_callVi (As := [.int 5]) (rest := []) C (c_X11_refuse (v_l X) G  _ _ h) 143 11 (by decide) (by decide) (by decide) rfl KV_X11_refuse k_RX11_303 rfl rfl rfl (Nat.le_of_ble_eq_true rfl) ⟨Nat.le_of_ble_eq_true rfl, Nat.le_of_ble_eq_true rfl⟩ dX11_trade_37 (fun r46 S45 h => ?_)
      exact V_iret C D dX11_trade_40 h
  · have h := h.2 c
    refine V_aload_n C 0 dX11_trade_19 rfl rfl ?_
    refine V_iconst (v := 2) C dX11_trade_20 (by decide) ?_
    refine V_callVi (As := [.int 2]) (rest := []) C (c_X11_refuse (v_l X) G  _ _ h) 143 11 (by decide) (by decide) (by decide) rfl KV_X11_refuse k_RX11_303 rfl rfl rfl (Nat.le_of_ble_eq_true rfl) ⟨Nat.le_of_ble_eq_true rfl, Nat.le_of_ble_eq_true rfl⟩ dX11_trade_21 (fun r48 S47 h => ?_)
    exact V_iret C D dX11_trade_24 h
/-! HalfAccuserModel.firstGlad(IIII)I -/
theorem dX11_firstGlad_0 : decode cX11_firstGlad 0 = .ok ((.aload_n 0), 1) := by decide +kernel
theorem dX11_firstGlad_1 : decode cX11_firstGlad 1 = .ok ((.getfield 35), 3) := by decide +kernel
theorem dX11_firstGlad_4 : decode cX11_firstGlad 4 = .ok ((.iload_n 2), 1) := by decide +kernel
theorem dX11_firstGlad_5 : decode cX11_firstGlad 5 = .ok (.iaload, 1) := by decide +kernel
theorem dX11_firstGlad_6 : decode cX11_firstGlad 6 = .ok ((.istore 5), 2) := by decide +kernel
theorem dX11_firstGlad_8 : decode cX11_firstGlad 8 = .ok ((.iload_n 3), 1) := by decide +kernel
theorem dX11_firstGlad_9 : decode cX11_firstGlad 9 = .ok ((.iload 4), 2) := by decide +kernel
theorem dX11_firstGlad_11 : decode cX11_firstGlad 11 = .ok ((.if_icmp .ge 7), 3) := by decide +kernel
theorem dX11_firstGlad_14 : decode cX11_firstGlad 14 = .ok ((.iconst 1), 1) := by decide +kernel
theorem dX11_firstGlad_15 : decode cX11_firstGlad 15 = .ok ((.goto 4), 3) := by decide +kernel
theorem dX11_firstGlad_18 : decode cX11_firstGlad 18 = .ok ((.iconst (-1)), 1) := by decide +kernel
theorem dX11_firstGlad_19 : decode cX11_firstGlad 19 = .ok ((.istore 6), 2) := by decide +kernel
theorem dX11_firstGlad_21 : decode cX11_firstGlad 21 = .ok ((.iconst (-1)), 1) := by decide +kernel
theorem dX11_firstGlad_22 : decode cX11_firstGlad 22 = .ok ((.istore 7), 2) := by decide +kernel
theorem dX11_firstGlad_24 : decode cX11_firstGlad 24 = .ok ((.iload_n 3), 1) := by decide +kernel
theorem dX11_firstGlad_25 : decode cX11_firstGlad 25 = .ok ((.istore 8), 2) := by decide +kernel
theorem dX11_firstGlad_27 : decode cX11_firstGlad 27 = .ok ((.iload 8), 2) := by decide +kernel
theorem dX11_firstGlad_29 : decode cX11_firstGlad 29 = .ok ((.iload 4), 2) := by decide +kernel
theorem dX11_firstGlad_31 : decode cX11_firstGlad 31 = .ok ((.iload 6), 2) := by decide +kernel
theorem dX11_firstGlad_33 : decode cX11_firstGlad 33 = .ok (.iadd, 1) := by decide +kernel
theorem dX11_firstGlad_34 : decode cX11_firstGlad 34 = .ok ((.if_icmp .eq 38), 3) := by decide +kernel
theorem dX11_firstGlad_37 : decode cX11_firstGlad 37 = .ok ((.iload 7), 2) := by decide +kernel
theorem dX11_firstGlad_39 : decode cX11_firstGlad 39 = .ok ((.ifCond .ge 33), 3) := by decide +kernel
theorem dX11_firstGlad_42 : decode cX11_firstGlad 42 = .ok ((.aload_n 0), 1) := by decide +kernel
theorem dX11_firstGlad_43 : decode cX11_firstGlad 43 = .ok ((.getfield 35), 3) := by decide +kernel
theorem dX11_firstGlad_46 : decode cX11_firstGlad 46 = .ok ((.iload_n 2), 1) := by decide +kernel
theorem dX11_firstGlad_47 : decode cX11_firstGlad 47 = .ok ((.iload 8), 2) := by decide +kernel
theorem dX11_firstGlad_49 : decode cX11_firstGlad 49 = .ok (.iastore, 1) := by decide +kernel
theorem dX11_firstGlad_50 : decode cX11_firstGlad 50 = .ok ((.aload_n 0), 1) := by decide +kernel
theorem dX11_firstGlad_51 : decode cX11_firstGlad 51 = .ok ((.iload_n 1), 1) := by decide +kernel
theorem dX11_firstGlad_52 : decode cX11_firstGlad 52 = .ok ((.invokevirtual 411), 3) := by decide +kernel
theorem dX11_firstGlad_55 : decode cX11_firstGlad 55 = .ok ((.ifCond .eq 7), 3) := by decide +kernel
theorem dX11_firstGlad_58 : decode cX11_firstGlad 58 = .ok ((.iload 8), 2) := by decide +kernel
theorem dX11_firstGlad_60 : decode cX11_firstGlad 60 = .ok ((.istore 7), 2) := by decide +kernel
theorem dX11_firstGlad_62 : decode cX11_firstGlad 62 = .ok ((.iload 8), 2) := by decide +kernel
theorem dX11_firstGlad_64 : decode cX11_firstGlad 64 = .ok ((.iload 6), 2) := by decide +kernel
theorem dX11_firstGlad_66 : decode cX11_firstGlad 66 = .ok (.iadd, 1) := by decide +kernel
theorem dX11_firstGlad_67 : decode cX11_firstGlad 67 = .ok ((.istore 8), 2) := by decide +kernel
theorem dX11_firstGlad_69 : decode cX11_firstGlad 69 = .ok ((.goto (-42)), 3) := by decide +kernel
theorem dX11_firstGlad_72 : decode cX11_firstGlad 72 = .ok ((.aload_n 0), 1) := by decide +kernel
theorem dX11_firstGlad_73 : decode cX11_firstGlad 73 = .ok ((.getfield 35), 3) := by decide +kernel
theorem dX11_firstGlad_76 : decode cX11_firstGlad 76 = .ok ((.iload_n 2), 1) := by decide +kernel
theorem dX11_firstGlad_77 : decode cX11_firstGlad 77 = .ok ((.iload 5), 2) := by decide +kernel
theorem dX11_firstGlad_79 : decode cX11_firstGlad 79 = .ok (.iastore, 1) := by decide +kernel
theorem dX11_firstGlad_80 : decode cX11_firstGlad 80 = .ok ((.iload 7), 2) := by decide +kernel
theorem dX11_firstGlad_82 : decode cX11_firstGlad 82 = .ok ((.ifCond .ge 12), 3) := by decide +kernel
theorem dX11_firstGlad_85 : decode cX11_firstGlad 85 = .ok ((.aload_n 0), 1) := by decide +kernel
theorem dX11_firstGlad_86 : decode cX11_firstGlad 86 = .ok ((.bipush 8), 2) := by decide +kernel
theorem dX11_firstGlad_88 : decode cX11_firstGlad 88 = .ok ((.invokevirtual 303), 3) := by decide +kernel
theorem dX11_firstGlad_91 : decode cX11_firstGlad 91 = .ok ((.goto 5), 3) := by decide +kernel
theorem dX11_firstGlad_94 : decode cX11_firstGlad 94 = .ok ((.iload 7), 2) := by decide +kernel
theorem dX11_firstGlad_96 : decode cX11_firstGlad 96 = .ok (.ireturn, 1) := by decide +kernel
def p_X11_firstGlad_72  (a1 : Int32) (a2 : Int32) (a3 : Int32) (a4 : Int32)   (post : Int32 → vSt → Prop) (S : vSt) (x5 : Int32) (x7 : Int32) : Prop := (vp_in a2 1900 ∧ ∀ S17, S17 = v_si S 148 (Int32.toNatClampNeg a2) x5 → ((0 ≤ x7 → post x7 S17) ∧ (¬ 0 ≤ x7 → p_X11_refuse  S17 8 (fun r19 S18 => post r19 S18))))
def p_X11_firstGlad_62  (a1 : Int32) (a2 : Int32) (a3 : Int32) (a4 : Int32)  (K27 : vSt → Int32 → Int32 → Int32 → Int32 → Prop) (post : Int32 → vSt → Prop) (S : vSt) (x5 : Int32) (x6 : Int32) (x7 : Int32) (x8 : Int32) : Prop := ∀ y20 : Int32, y20 = (x8 + x6) → K27 S x5 x6 x7 y20
def p_X11_firstGlad_27  (a1 : Int32) (a2 : Int32) (a3 : Int32) (a4 : Int32)   (post : Int32 → vSt → Prop) : Nat → vSt → Int32 → Int32 → Int32 → Int32 → Prop
  | 0 => fun _ _ _ _ _ => False
  | fu27 + 1 => fun S x5 x6 x7 x8 => ((x8 = (a4 + x6) → p_X11_firstGlad_72 a1 a2 a3 a4 post S x5 x7) ∧ (¬ x8 = (a4 + x6) → ((0 ≤ x7 → p_X11_firstGlad_72 a1 a2 a3 a4 post S x5 x7) ∧ (¬ 0 ≤ x7 → (vp_in a2 1900 ∧ ∀ S17, S17 = v_si S 148 (Int32.toNatClampNeg a2) x8 → p_X11_isGladly  S17 a1 (fun r19 S18 => ((r19 = false → p_X11_firstGlad_62 a1 a2 a3 a4 (p_X11_firstGlad_27 a1 a2 a3 a4 post fu27) post S18 x5 x6 x7 x8) ∧ (r19 = true → p_X11_firstGlad_62 a1 a2 a3 a4 (p_X11_firstGlad_27 a1 a2 a3 a4 post fu27) post S18 x5 x6 x8 x8))))))))
theorem e_X11_firstGlad_27  (a1 : Int32) (a2 : Int32) (a3 : Int32) (a4 : Int32)   (post : Int32 → vSt → Prop) (fu27 : Nat) (S : vSt) (x5 : Int32) (x6 : Int32) (x7 : Int32) (x8 : Int32) : p_X11_firstGlad_27 a1 a2 a3 a4 post (fu27 + 1) S x5 x6 x7 x8 = (((x8 = (a4 + x6) → p_X11_firstGlad_72 a1 a2 a3 a4 post S x5 x7) ∧ (¬ x8 = (a4 + x6) → ((0 ≤ x7 → p_X11_firstGlad_72 a1 a2 a3 a4 post S x5 x7) ∧ (¬ 0 ≤ x7 → (vp_in a2 1900 ∧ ∀ S17, S17 = v_si S 148 (Int32.toNatClampNeg a2) x8 → p_X11_isGladly  S17 a1 (fun r19 S18 => ((r19 = false → p_X11_firstGlad_62 a1 a2 a3 a4 (p_X11_firstGlad_27 a1 a2 a3 a4 post fu27) post S18 x5 x6 x7 x8) ∧ (r19 = true → p_X11_firstGlad_62 a1 a2 a3 a4 (p_X11_firstGlad_27 a1 a2 a3 a4 post fu27) post S18 x5 x6 x8 x8))))))))) := rfl
def p_X11_firstGlad_19  (a1 : Int32) (a2 : Int32) (a3 : Int32) (a4 : Int32)   (post : Int32 → vSt → Prop) (S : vSt) (x5 : Int32) (s0 : Int32) : Prop := ∃ fu27, p_X11_firstGlad_27 a1 a2 a3 a4 post fu27 S x5 s0 (-1) a3
def p_X11_firstGlad   (S : vSt) (a1 : Int32) (a2 : Int32) (a3 : Int32) (a4 : Int32) (post : Int32 → vSt → Prop) : Prop := (vp_in a2 1900 ∧ ∀ y16 : Int32, y16 = (S.1 148 (Int32.toNatClampNeg a2)) → ((a4 ≤ a3 → p_X11_firstGlad_19 a1 a2 a3 a4 post S y16 (-1)) ∧ (¬ a4 ≤ a3 → p_X11_firstGlad_19 a1 a2 a3 a4 post S y16 1)))
set_option maxHeartbeats 4000000 in
set_option maxRecDepth 100000 in
theorem q_X11_firstGlad_72 {X : vX} {G : vG}  {post : Int32 → vSt → Prop} (C : v_Cx X G cX11_firstGlad RX11 9 (v_rm 7 199)) (D : v_Rx X G (v_Qi G post) (some .int))  {a1 : Int32} {a2 : Int32} {a3 : Int32} {a4 : Int32}   : ∀ (S : vSt) (x5 : Int32) (x7 : Int32), p_X11_firstGlad_72 a1 a2 a3 a4 post S x5 x7 → VJ X G S 72 [(0, .ref (G.1 143)), (2, .int a2), (5, .int x5), (7, .int x7)] [] := by
  intro S x5 x7 h
  refine V_aload_n C 0 dX11_firstGlad_72 rfl rfl ?_
  refine V_ga C 143 (by decide) (by decide) F_11_20 k_RX11_35 dX11_firstGlad_73 ?_
  refine V_iload_n C 1 dX11_firstGlad_76 rfl rfl ?_
  refine V_iload C 2 dX11_firstGlad_77 rfl ?_
  obtain ⟨hi, h⟩ := h
  refine V_iast C 148 1900 (by decide) (by decide) hi dX11_firstGlad_79 ?_
  refine V_topS (fun S17 eS17 => ?_)
  have h := h S17 eS17
  refine V_iload C 3 dX11_firstGlad_80 rfl ?_
  refine V_if_ge (tgt := 94) C dX11_firstGlad_82 (by decide) (fun c => ?_) (fun c => ?_)
  · have h := h.1 c
    refine V_iload C 3 dX11_firstGlad_94 rfl ?_
    exact V_iret C D dX11_firstGlad_96 h
  · have h := h.2 c
    refine V_aload_n C 0 dX11_firstGlad_85 rfl rfl ?_
    refine V_bipush (v := 8) C dX11_firstGlad_86 (by decide) ?_
    refine V_callVi (As := [.int 8]) (rest := []) C (c_X11_refuse (v_l X) G  _ _ h) 143 11 (by decide) (by decide) (by decide) rfl KV_X11_refuse k_RX11_303 rfl rfl rfl (Nat.le_of_ble_eq_true rfl) ⟨Nat.le_of_ble_eq_true rfl, Nat.le_of_ble_eq_true rfl⟩ dX11_firstGlad_88 (fun r19 S18 h => ?_)
    refine V_goto (tgt := 96) C dX11_firstGlad_91 (by decide) ?_
    exact V_iret C D dX11_firstGlad_96 h
set_option maxHeartbeats 4000000 in
set_option maxRecDepth 100000 in
theorem q_X11_firstGlad_62 {X : vX} {G : vG}  {post : Int32 → vSt → Prop} (C : v_Cx X G cX11_firstGlad RX11 9 (v_rm 7 199)) (D : v_Rx X G (v_Qi G post) (some .int))  {a1 : Int32} {a2 : Int32} {a3 : Int32} {a4 : Int32}  {K27 : vSt → Int32 → Int32 → Int32 → Int32 → Prop} (hK27 : ∀ S x5 x6 x7 x8, K27 S x5 x6 x7 x8 → VJ X G S 27 [(0, .ref (G.1 143)), (1, .int a1), (2, .int a2), (4, .int a4), (5, .int x5), (6, .int x6), (7, .int x7), (8, .int x8)] []) : ∀ (S : vSt) (x5 : Int32) (x6 : Int32) (x7 : Int32) (x8 : Int32), p_X11_firstGlad_62 a1 a2 a3 a4 K27 post S x5 x6 x7 x8 → VJ X G S 62 [(0, .ref (G.1 143)), (1, .int a1), (2, .int a2), (4, .int a4), (5, .int x5), (6, .int x6), (7, .int x7), (8, .int x8)] [] := by
  intro S x5 x6 x7 x8 h
  refine V_iload C 7 dX11_firstGlad_62 rfl ?_
  refine V_iload C 5 dX11_firstGlad_64 rfl ?_
  refine V_iadd C dX11_firstGlad_66 ?_
  refine V_topi (fun y20 ey20 => ?_)
  have h := h y20 ey20
  refine V_istore (lv' := [(0, .ref (G.1 143)), (1, .int a1), (2, .int a2), (4, .int a4), (5, .int x5), (6, .int x6), (7, .int x7), (8, .int y20)]) C [1, 2, 3, 4, 5, 6, 7, 0] dX11_firstGlad_67 (by decide) rfl ?_
  refine V_goto (tgt := 27) C dX11_firstGlad_69 (by decide) ?_
  exact hK27 _ _ _ _ _ h
set_option maxHeartbeats 4000000 in
set_option maxRecDepth 100000 in
theorem q_X11_firstGlad_27 {X : vX} {G : vG}  {post : Int32 → vSt → Prop} (C : v_Cx X G cX11_firstGlad RX11 9 (v_rm 7 199)) (D : v_Rx X G (v_Qi G post) (some .int))  {a1 : Int32} {a2 : Int32} {a3 : Int32} {a4 : Int32}   : ∀ (fu : Nat) (S : vSt) (x5 : Int32) (x6 : Int32) (x7 : Int32) (x8 : Int32), p_X11_firstGlad_27 a1 a2 a3 a4 post fu S x5 x6 x7 x8 → VJ X G S 27 [(0, .ref (G.1 143)), (1, .int a1), (2, .int a2), (4, .int a4), (5, .int x5), (6, .int x6), (7, .int x7), (8, .int x8)] [] := by
  intro fu
  induction fu with
  | zero => intro S x5 x6 x7 x8 h; exact absurd h id
  | succ fu ih =>
    intro S x5 x6 x7 x8 h
    have hK27 := ih
    rw [e_X11_firstGlad_27] at h
    refine V_iload C 7 dX11_firstGlad_27 rfl ?_
    refine V_iload C 3 dX11_firstGlad_29 rfl ?_
    refine V_iload C 5 dX11_firstGlad_31 rfl ?_
    refine V_iadd C dX11_firstGlad_33 ?_
    refine V_icmp_eq (tgt := 72) C dX11_firstGlad_34 (by decide) (fun c => ?_) (fun c => ?_)
    · have h := h.1 c
      refine V_loc (lv' := [(0, .ref (G.1 143)), (2, .int a2), (5, .int x5), (7, .int x7)]) [0, 2, 4, 6] rfl ?_
      exact q_X11_firstGlad_72 C D  _ _ _ h
    · have h := h.2 c
      refine V_iload C 6 dX11_firstGlad_37 rfl ?_
      refine V_if_ge (tgt := 72) C dX11_firstGlad_39 (by decide) (fun c => ?_) (fun c => ?_)
      · have h := h.1 c
        refine V_loc (lv' := [(0, .ref (G.1 143)), (2, .int a2), (5, .int x5), (7, .int x7)]) [0, 2, 4, 6] rfl ?_
        exact q_X11_firstGlad_72 C D  _ _ _ h
      · have h := h.2 c
        refine V_aload_n C 0 dX11_firstGlad_42 rfl rfl ?_
        refine V_ga C 143 (by decide) (by decide) F_11_20 k_RX11_35 dX11_firstGlad_43 ?_
        refine V_iload_n C 2 dX11_firstGlad_46 rfl rfl ?_
        refine V_iload C 7 dX11_firstGlad_47 rfl ?_
        obtain ⟨hi, h⟩ := h
        refine V_iast C 148 1900 (by decide) (by decide) hi dX11_firstGlad_49 ?_
        refine V_topS (fun S17 eS17 => ?_)
        have h := h S17 eS17
        refine V_aload_n C 0 dX11_firstGlad_50 rfl rfl ?_
        refine V_iload_n C 1 dX11_firstGlad_51 rfl rfl ?_
        refine V_callVz (As := [.int a1]) (rest := []) C (c_X11_isGladly (v_l X) G  _ _ h) 143 11 (by decide) (by decide) (by decide) rfl KV_X11_isGladly k_RX11_411 rfl rfl rfl (Nat.le_of_ble_eq_true rfl) ⟨Nat.le_of_ble_eq_true rfl, Nat.le_of_ble_eq_true rfl⟩ dX11_firstGlad_52 (fun r19 S18 h => ?_)
        refine V_ifb_eq (tgt := 62) C dX11_firstGlad_55 (by decide) (fun c => ?_) (fun c => ?_)
        · have h := h.1 c
          exact q_X11_firstGlad_62 C D hK27 _ _ _ _ _ h
        · have h := h.2 c
          refine V_iload C 7 dX11_firstGlad_58 rfl ?_
          refine V_istore (lv' := [(0, .ref (G.1 143)), (1, .int a1), (2, .int a2), (4, .int a4), (5, .int x5), (6, .int x6), (7, .int x8), (8, .int x8)]) C [1, 2, 3, 4, 5, 6, 0, 7] dX11_firstGlad_60 (by decide) rfl ?_
          exact q_X11_firstGlad_62 C D hK27 _ _ _ _ _ h
set_option maxHeartbeats 4000000 in
set_option maxRecDepth 100000 in
theorem q_X11_firstGlad_19 {X : vX} {G : vG}  {post : Int32 → vSt → Prop} (C : v_Cx X G cX11_firstGlad RX11 9 (v_rm 7 199)) (D : v_Rx X G (v_Qi G post) (some .int))  {a1 : Int32} {a2 : Int32} {a3 : Int32} {a4 : Int32}   : ∀ (S : vSt) (x5 : Int32) (s0 : Int32), p_X11_firstGlad_19 a1 a2 a3 a4 post S x5 s0 → VJ X G S 19 [(0, .ref (G.1 143)), (1, .int a1), (2, .int a2), (3, .int a3), (4, .int a4), (5, .int x5)] [.int s0] := by
  intro S x5 s0 h
  refine V_istore (lv' := [(0, .ref (G.1 143)), (1, .int a1), (2, .int a2), (3, .int a3), (4, .int a4), (5, .int x5), (6, .int s0)]) C [1, 2, 3, 4, 5, 6, 0] dX11_firstGlad_19 (by decide) rfl ?_
  refine V_iconst (v := (-1)) C dX11_firstGlad_21 (by decide) ?_
  refine V_istore (lv' := [(0, .ref (G.1 143)), (1, .int a1), (2, .int a2), (3, .int a3), (4, .int a4), (5, .int x5), (6, .int s0), (7, .int (-1))]) C [1, 2, 3, 4, 5, 6, 7, 0] dX11_firstGlad_22 (by decide) rfl ?_
  refine V_iload_n C 3 dX11_firstGlad_24 rfl rfl ?_
  refine V_istore (lv' := [(0, .ref (G.1 143)), (1, .int a1), (2, .int a2), (3, .int a3), (4, .int a4), (5, .int x5), (6, .int s0), (7, .int (-1)), (8, .int a3)]) C [1, 2, 3, 4, 5, 6, 7, 8, 0] dX11_firstGlad_25 (by decide) rfl ?_
  refine V_loc (lv' := [(0, .ref (G.1 143)), (1, .int a1), (2, .int a2), (4, .int a4), (5, .int x5), (6, .int s0), (7, .int (-1)), (8, .int a3)]) [0, 1, 2, 4, 5, 6, 7, 8] rfl ?_
  obtain ⟨fu27, h⟩ := h
  exact q_X11_firstGlad_27 C D  fu27 _ _ _ _ _ h
set_option maxHeartbeats 4000000 in
set_option maxRecDepth 100000 in
theorem c_X11_firstGlad (l : Launch) (G : vG)    {S : vSt} (a1 : Int32) (a2 : Int32) (a3 : Int32) (a4 : Int32) (post : Int32 → vSt → Prop) (h : p_X11_firstGlad   S a1 a2 a3 a4 post) : Met l yX11_firstGlad (v_ws yX11_firstGlad cX11_firstGlad 9 (some .int)) (v_rm 7 199) (v_Pc G [.ref (G.1 143), .int a1, .int a2, .int a3, .int a4] S) (v_Qi G post) 0 0 (v_A G) := by
  refine v_start (by decide +kernel) (Nat.le_of_ble_eq_true rfl) (fun X hl C D => ?_)
  subst hl
  have C : v_Cx X G cX11_firstGlad RX11 9 (v_rm 7 199) := C
  show VJ X G S 0 [(0, .ref (G.1 143)), (1, .int a1), (2, .int a2), (3, .int a3), (4, .int a4)] []
  refine V_aload_n C 0 dX11_firstGlad_0 rfl rfl ?_
  refine V_ga C 143 (by decide) (by decide) F_11_20 k_RX11_35 dX11_firstGlad_1 ?_
  refine V_iload_n C 2 dX11_firstGlad_4 rfl rfl ?_
  obtain ⟨hi, h⟩ := h
  refine V_iald C 148 1900 (by decide) (by decide) hi dX11_firstGlad_5 ?_
  refine V_topi (fun y16 ey16 => ?_)
  have h := h y16 ey16
  refine V_istore (lv' := [(0, .ref (G.1 143)), (1, .int a1), (2, .int a2), (3, .int a3), (4, .int a4), (5, .int y16)]) C [1, 2, 3, 4, 5, 0] dX11_firstGlad_6 (by decide) rfl ?_
  refine V_iload_n C 3 dX11_firstGlad_8 rfl rfl ?_
  refine V_iload C 4 dX11_firstGlad_9 rfl ?_
  refine V_icmp_ge (tgt := 18) C dX11_firstGlad_11 (by decide) (fun c => ?_) (fun c => ?_)
  · have h := h.1 c
    refine V_iconst (v := (-1)) C dX11_firstGlad_18 (by decide) ?_
    exact q_X11_firstGlad_19 C D  _ _ _ h
  · have h := h.2 c
    refine V_iconst (v := 1) C dX11_firstGlad_14 (by decide) ?_
    refine V_goto (tgt := 19) C dX11_firstGlad_15 (by decide) ?_
    exact q_X11_firstGlad_19 C D  _ _ _ h
/-! HalfAccuserModel.leastShare(I)I -/
theorem dX11_leastShare_0 : decode cX11_leastShare 0 = .ok ((.aload_n 0), 1) := by decide +kernel
theorem dX11_leastShare_1 : decode cX11_leastShare 1 = .ok ((.iconst 0), 1) := by decide +kernel
theorem dX11_leastShare_2 : decode cX11_leastShare 2 = .ok ((.putfield 60), 3) := by decide +kernel
theorem dX11_leastShare_5 : decode cX11_leastShare 5 = .ok ((.aload_n 0), 1) := by decide +kernel
theorem dX11_leastShare_6 : decode cX11_leastShare 6 = .ok ((.iconst 0), 1) := by decide +kernel
theorem dX11_leastShare_7 : decode cX11_leastShare 7 = .ok ((.putfield 63), 3) := by decide +kernel
theorem dX11_leastShare_10 : decode cX11_leastShare 10 = .ok ((.aload_n 0), 1) := by decide +kernel
theorem dX11_leastShare_11 : decode cX11_leastShare 11 = .ok ((.iload_n 1), 1) := by decide +kernel
theorem dX11_leastShare_12 : decode cX11_leastShare 12 = .ok ((.invokevirtual 292), 3) := by decide +kernel
theorem dX11_leastShare_15 : decode cX11_leastShare 15 = .ok ((.ifCond .eq 15), 3) := by decide +kernel
theorem dX11_leastShare_18 : decode cX11_leastShare 18 = .ok ((.aload_n 0), 1) := by decide +kernel
theorem dX11_leastShare_19 : decode cX11_leastShare 19 = .ok ((.iload_n 1), 1) := by decide +kernel
theorem dX11_leastShare_20 : decode cX11_leastShare 20 = .ok ((.iconst 5), 1) := by decide +kernel
theorem dX11_leastShare_21 : decode cX11_leastShare 21 = .ok ((.iconst 0), 1) := by decide +kernel
theorem dX11_leastShare_22 : decode cX11_leastShare 22 = .ok ((.bipush 16), 2) := by decide +kernel
theorem dX11_leastShare_24 : decode cX11_leastShare 24 = .ok ((.invokevirtual 414), 3) := by decide +kernel
theorem dX11_leastShare_27 : decode cX11_leastShare 27 = .ok ((.goto 8), 3) := by decide +kernel
theorem dX11_leastShare_30 : decode cX11_leastShare 30 = .ok ((.aload_n 0), 1) := by decide +kernel
theorem dX11_leastShare_31 : decode cX11_leastShare 31 = .ok ((.iconst 2), 1) := by decide +kernel
theorem dX11_leastShare_32 : decode cX11_leastShare 32 = .ok ((.invokevirtual 303), 3) := by decide +kernel
theorem dX11_leastShare_35 : decode cX11_leastShare 35 = .ok (.ireturn, 1) := by decide +kernel
def p_X11_leastShare   (S : vSt) (a1 : Int32) (post : Int32 → vSt → Prop) : Prop := ∀ S9, S9 = v_si S 143 1 0 → ∀ S10, S10 = v_si S9 143 0 0 → p_X11_isDeedAt  S10 a1 (fun r12 S11 => ((r12 = false → p_X11_refuse  S11 2 (fun r14 S13 => post r14 S13)) ∧ (r12 = true → p_X11_firstGlad  S11 a1 5 0 16 (fun r16 S15 => post r16 S15))))
set_option maxHeartbeats 4000000 in
set_option maxRecDepth 100000 in
theorem c_X11_leastShare (l : Launch) (G : vG)    {S : vSt} (a1 : Int32) (post : Int32 → vSt → Prop) (h : p_X11_leastShare   S a1 post) : Met l yX11_leastShare (v_ws yX11_leastShare cX11_leastShare 2 (some .int)) (v_rm 8 227) (v_Pc G [.ref (G.1 143), .int a1] S) (v_Qi G post) 0 0 (v_A G) := by
  refine v_start (by decide +kernel) (Nat.le_of_ble_eq_true rfl) (fun X hl C D => ?_)
  subst hl
  have C : v_Cx X G cX11_leastShare RX11 2 (v_rm 8 227) := C
  show VJ X G S 0 [(0, .ref (G.1 143)), (1, .int a1)] []
  refine V_aload_n C 0 dX11_leastShare_0 rfl rfl ?_
  refine V_iconst (v := 0) C dX11_leastShare_1 (by decide) ?_
  refine V_pi C 143 (by decide) (by decide) P_11_1 k_RX11_60 dX11_leastShare_2 ?_
  refine V_topS (fun S9 eS9 => ?_)
  have h := h S9 eS9
  refine V_aload_n C 0 dX11_leastShare_5 rfl rfl ?_
  refine V_iconst (v := 0) C dX11_leastShare_6 (by decide) ?_
  refine V_pi C 143 (by decide) (by decide) P_11_0 k_RX11_63 dX11_leastShare_7 ?_
  refine V_topS (fun S10 eS10 => ?_)
  have h := h S10 eS10
  refine V_aload_n C 0 dX11_leastShare_10 rfl rfl ?_
  refine V_iload_n C 1 dX11_leastShare_11 rfl rfl ?_
  refine V_callVz (As := [.int a1]) (rest := []) C (c_X11_isDeedAt (v_l X) G  _ _ h) 143 11 (by decide) (by decide) (by decide) rfl KV_X11_isDeedAt k_RX11_292 rfl rfl rfl (Nat.le_of_ble_eq_true rfl) ⟨Nat.le_of_ble_eq_true rfl, Nat.le_of_ble_eq_true rfl⟩ dX11_leastShare_12 (fun r12 S11 h => ?_)
  refine V_ifb_eq (tgt := 30) C dX11_leastShare_15 (by decide) (fun c => ?_) (fun c => ?_)
  · have h := h.1 c
    refine V_aload_n C 0 dX11_leastShare_30 rfl rfl ?_
    refine V_iconst (v := 2) C dX11_leastShare_31 (by decide) ?_
    refine V_callVi (As := [.int 2]) (rest := []) C (c_X11_refuse (v_l X) G  _ _ h) 143 11 (by decide) (by decide) (by decide) rfl KV_X11_refuse k_RX11_303 rfl rfl rfl (Nat.le_of_ble_eq_true rfl) ⟨Nat.le_of_ble_eq_true rfl, Nat.le_of_ble_eq_true rfl⟩ dX11_leastShare_32 (fun r14 S13 h => ?_)
    exact V_iret C D dX11_leastShare_35 h
  · have h := h.2 c
    refine V_aload_n C 0 dX11_leastShare_18 rfl rfl ?_
    refine V_iload_n C 1 dX11_leastShare_19 rfl rfl ?_
    refine V_iconst (v := 5) C dX11_leastShare_20 (by decide) ?_
    refine V_iconst (v := 0) C dX11_leastShare_21 (by decide) ?_
    refine V_bipush (v := 16) C dX11_leastShare_22 (by decide) ?_
    refine V_callVi (As := [.int a1, .int 5, .int 0, .int 16]) (rest := []) C (c_X11_firstGlad (v_l X) G  _ _ _ _ _ h) 143 11 (by decide) (by decide) (by decide) rfl KV_X11_firstGlad k_RX11_414 rfl rfl rfl (Nat.le_of_ble_eq_true rfl) ⟨Nat.le_of_ble_eq_true rfl, Nat.le_of_ble_eq_true rfl⟩ dX11_leastShare_24 (fun r16 S15 h => ?_)
    refine V_goto (tgt := 35) C dX11_leastShare_27 (by decide) ?_
    exact V_iret C D dX11_leastShare_35 h
/-! HalfAccuserModel.leastFine(I)I -/
theorem dX11_leastFine_0 : decode cX11_leastFine 0 = .ok ((.aload_n 0), 1) := by decide +kernel
theorem dX11_leastFine_1 : decode cX11_leastFine 1 = .ok ((.iconst 0), 1) := by decide +kernel
theorem dX11_leastFine_2 : decode cX11_leastFine 2 = .ok ((.putfield 60), 3) := by decide +kernel
theorem dX11_leastFine_5 : decode cX11_leastFine 5 = .ok ((.aload_n 0), 1) := by decide +kernel
theorem dX11_leastFine_6 : decode cX11_leastFine 6 = .ok ((.iconst 0), 1) := by decide +kernel
theorem dX11_leastFine_7 : decode cX11_leastFine 7 = .ok ((.putfield 63), 3) := by decide +kernel
theorem dX11_leastFine_10 : decode cX11_leastFine 10 = .ok ((.aload_n 0), 1) := by decide +kernel
theorem dX11_leastFine_11 : decode cX11_leastFine 11 = .ok ((.iload_n 1), 1) := by decide +kernel
theorem dX11_leastFine_12 : decode cX11_leastFine 12 = .ok ((.invokevirtual 292), 3) := by decide +kernel
theorem dX11_leastFine_15 : decode cX11_leastFine 15 = .ok ((.ifCond .eq 19), 3) := by decide +kernel
theorem dX11_leastFine_18 : decode cX11_leastFine 18 = .ok ((.aload_n 0), 1) := by decide +kernel
theorem dX11_leastFine_19 : decode cX11_leastFine 19 = .ok ((.iload_n 1), 1) := by decide +kernel
theorem dX11_leastFine_20 : decode cX11_leastFine 20 = .ok ((.bipush 58), 2) := by decide +kernel
theorem dX11_leastFine_22 : decode cX11_leastFine 22 = .ok ((.iload_n 1), 1) := by decide +kernel
theorem dX11_leastFine_23 : decode cX11_leastFine 23 = .ok (.iadd, 1) := by decide +kernel
theorem dX11_leastFine_24 : decode cX11_leastFine 24 = .ok ((.iconst 1), 1) := by decide +kernel
theorem dX11_leastFine_25 : decode cX11_leastFine 25 = .ok ((.sipush 999), 3) := by decide +kernel
theorem dX11_leastFine_28 : decode cX11_leastFine 28 = .ok ((.invokevirtual 414), 3) := by decide +kernel
theorem dX11_leastFine_31 : decode cX11_leastFine 31 = .ok ((.goto 8), 3) := by decide +kernel
theorem dX11_leastFine_34 : decode cX11_leastFine 34 = .ok ((.aload_n 0), 1) := by decide +kernel
theorem dX11_leastFine_35 : decode cX11_leastFine 35 = .ok ((.iconst 2), 1) := by decide +kernel
theorem dX11_leastFine_36 : decode cX11_leastFine 36 = .ok ((.invokevirtual 303), 3) := by decide +kernel
theorem dX11_leastFine_39 : decode cX11_leastFine 39 = .ok (.ireturn, 1) := by decide +kernel
def p_X11_leastFine   (S : vSt) (a1 : Int32) (post : Int32 → vSt → Prop) : Prop := ∀ S9, S9 = v_si S 143 1 0 → ∀ S10, S10 = v_si S9 143 0 0 → p_X11_isDeedAt  S10 a1 (fun r12 S11 => ((r12 = false → p_X11_refuse  S11 2 (fun r14 S13 => post r14 S13)) ∧ (r12 = true → p_X11_firstGlad  S11 a1 (58 + a1) 1 999 (fun r16 S15 => post r16 S15))))
set_option maxHeartbeats 4000000 in
set_option maxRecDepth 100000 in
theorem c_X11_leastFine (l : Launch) (G : vG)    {S : vSt} (a1 : Int32) (post : Int32 → vSt → Prop) (h : p_X11_leastFine   S a1 post) : Met l yX11_leastFine (v_ws yX11_leastFine cX11_leastFine 2 (some .int)) (v_rm 8 227) (v_Pc G [.ref (G.1 143), .int a1] S) (v_Qi G post) 0 0 (v_A G) := by
  refine v_start (by decide +kernel) (Nat.le_of_ble_eq_true rfl) (fun X hl C D => ?_)
  subst hl
  have C : v_Cx X G cX11_leastFine RX11 2 (v_rm 8 227) := C
  show VJ X G S 0 [(0, .ref (G.1 143)), (1, .int a1)] []
  refine V_aload_n C 0 dX11_leastFine_0 rfl rfl ?_
  refine V_iconst (v := 0) C dX11_leastFine_1 (by decide) ?_
  refine V_pi C 143 (by decide) (by decide) P_11_1 k_RX11_60 dX11_leastFine_2 ?_
  refine V_topS (fun S9 eS9 => ?_)
  have h := h S9 eS9
  refine V_aload_n C 0 dX11_leastFine_5 rfl rfl ?_
  refine V_iconst (v := 0) C dX11_leastFine_6 (by decide) ?_
  refine V_pi C 143 (by decide) (by decide) P_11_0 k_RX11_63 dX11_leastFine_7 ?_
  refine V_topS (fun S10 eS10 => ?_)
  have h := h S10 eS10
  refine V_aload_n C 0 dX11_leastFine_10 rfl rfl ?_
  refine V_iload_n C 1 dX11_leastFine_11 rfl rfl ?_
  refine V_callVz (As := [.int a1]) (rest := []) C (c_X11_isDeedAt (v_l X) G  _ _ h) 143 11 (by decide) (by decide) (by decide) rfl KV_X11_isDeedAt k_RX11_292 rfl rfl rfl (Nat.le_of_ble_eq_true rfl) ⟨Nat.le_of_ble_eq_true rfl, Nat.le_of_ble_eq_true rfl⟩ dX11_leastFine_12 (fun r12 S11 h => ?_)
  refine V_ifb_eq (tgt := 34) C dX11_leastFine_15 (by decide) (fun c => ?_) (fun c => ?_)
  · have h := h.1 c
    refine V_aload_n C 0 dX11_leastFine_34 rfl rfl ?_
    refine V_iconst (v := 2) C dX11_leastFine_35 (by decide) ?_
    refine V_callVi (As := [.int 2]) (rest := []) C (c_X11_refuse (v_l X) G  _ _ h) 143 11 (by decide) (by decide) (by decide) rfl KV_X11_refuse k_RX11_303 rfl rfl rfl (Nat.le_of_ble_eq_true rfl) ⟨Nat.le_of_ble_eq_true rfl, Nat.le_of_ble_eq_true rfl⟩ dX11_leastFine_36 (fun r14 S13 h => ?_)
    exact V_iret C D dX11_leastFine_39 h
  · have h := h.2 c
    refine V_aload_n C 0 dX11_leastFine_18 rfl rfl ?_
    refine V_iload_n C 1 dX11_leastFine_19 rfl rfl ?_
    refine V_bipush (v := 58) C dX11_leastFine_20 (by decide) ?_
    refine V_iload_n C 1 dX11_leastFine_22 rfl rfl ?_
    refine V_iadd C dX11_leastFine_23 ?_
    refine V_iconst (v := 1) C dX11_leastFine_24 (by decide) ?_
    refine V_sipush (v := 999) C dX11_leastFine_25 (by decide) ?_
    refine V_callVi (As := [.int a1, .int (58 + a1), .int 1, .int 999]) (rest := []) C (c_X11_firstGlad (v_l X) G  _ _ _ _ _ h) 143 11 (by decide) (by decide) (by decide) rfl KV_X11_firstGlad k_RX11_414 rfl rfl rfl (Nat.le_of_ble_eq_true rfl) ⟨Nat.le_of_ble_eq_true rfl, Nat.le_of_ble_eq_true rfl⟩ dX11_leastFine_28 (fun r16 S15 h => ?_)
    refine V_goto (tgt := 39) C dX11_leastFine_31 (by decide) ?_
    exact V_iret C D dX11_leastFine_39 h
/-! HalfAccuserModel.mostPenalty(I)I -/
theorem dX11_mostPenalty_0 : decode cX11_mostPenalty 0 = .ok ((.aload_n 0), 1) := by decide +kernel
theorem dX11_mostPenalty_1 : decode cX11_mostPenalty 1 = .ok ((.iconst 0), 1) := by decide +kernel
theorem dX11_mostPenalty_2 : decode cX11_mostPenalty 2 = .ok ((.putfield 60), 3) := by decide +kernel
theorem dX11_mostPenalty_5 : decode cX11_mostPenalty 5 = .ok ((.aload_n 0), 1) := by decide +kernel
theorem dX11_mostPenalty_6 : decode cX11_mostPenalty 6 = .ok ((.iconst 0), 1) := by decide +kernel
theorem dX11_mostPenalty_7 : decode cX11_mostPenalty 7 = .ok ((.putfield 63), 3) := by decide +kernel
theorem dX11_mostPenalty_10 : decode cX11_mostPenalty 10 = .ok ((.aload_n 0), 1) := by decide +kernel
theorem dX11_mostPenalty_11 : decode cX11_mostPenalty 11 = .ok ((.iload_n 1), 1) := by decide +kernel
theorem dX11_mostPenalty_12 : decode cX11_mostPenalty 12 = .ok ((.invokevirtual 292), 3) := by decide +kernel
theorem dX11_mostPenalty_15 : decode cX11_mostPenalty 15 = .ok ((.ifCond .eq 16), 3) := by decide +kernel
theorem dX11_mostPenalty_18 : decode cX11_mostPenalty 18 = .ok ((.aload_n 0), 1) := by decide +kernel
theorem dX11_mostPenalty_19 : decode cX11_mostPenalty 19 = .ok ((.iload_n 1), 1) := by decide +kernel
theorem dX11_mostPenalty_20 : decode cX11_mostPenalty 20 = .ok ((.iconst 4), 1) := by decide +kernel
theorem dX11_mostPenalty_21 : decode cX11_mostPenalty 21 = .ok ((.sipush 999), 3) := by decide +kernel
theorem dX11_mostPenalty_24 : decode cX11_mostPenalty 24 = .ok ((.iconst 0), 1) := by decide +kernel
theorem dX11_mostPenalty_25 : decode cX11_mostPenalty 25 = .ok ((.invokevirtual 414), 3) := by decide +kernel
theorem dX11_mostPenalty_28 : decode cX11_mostPenalty 28 = .ok ((.goto 8), 3) := by decide +kernel
theorem dX11_mostPenalty_31 : decode cX11_mostPenalty 31 = .ok ((.aload_n 0), 1) := by decide +kernel
theorem dX11_mostPenalty_32 : decode cX11_mostPenalty 32 = .ok ((.iconst 2), 1) := by decide +kernel
theorem dX11_mostPenalty_33 : decode cX11_mostPenalty 33 = .ok ((.invokevirtual 303), 3) := by decide +kernel
theorem dX11_mostPenalty_36 : decode cX11_mostPenalty 36 = .ok (.ireturn, 1) := by decide +kernel
def p_X11_mostPenalty   (S : vSt) (a1 : Int32) (post : Int32 → vSt → Prop) : Prop := ∀ S9, S9 = v_si S 143 1 0 → ∀ S10, S10 = v_si S9 143 0 0 → p_X11_isDeedAt  S10 a1 (fun r12 S11 => ((r12 = false → p_X11_refuse  S11 2 (fun r14 S13 => post r14 S13)) ∧ (r12 = true → p_X11_firstGlad  S11 a1 4 999 0 (fun r16 S15 => post r16 S15))))
set_option maxHeartbeats 4000000 in
set_option maxRecDepth 100000 in
theorem c_X11_mostPenalty (l : Launch) (G : vG)    {S : vSt} (a1 : Int32) (post : Int32 → vSt → Prop) (h : p_X11_mostPenalty   S a1 post) : Met l yX11_mostPenalty (v_ws yX11_mostPenalty cX11_mostPenalty 2 (some .int)) (v_rm 8 227) (v_Pc G [.ref (G.1 143), .int a1] S) (v_Qi G post) 0 0 (v_A G) := by
  refine v_start (by decide +kernel) (Nat.le_of_ble_eq_true rfl) (fun X hl C D => ?_)
  subst hl
  have C : v_Cx X G cX11_mostPenalty RX11 2 (v_rm 8 227) := C
  show VJ X G S 0 [(0, .ref (G.1 143)), (1, .int a1)] []
  refine V_aload_n C 0 dX11_mostPenalty_0 rfl rfl ?_
  refine V_iconst (v := 0) C dX11_mostPenalty_1 (by decide) ?_
  refine V_pi C 143 (by decide) (by decide) P_11_1 k_RX11_60 dX11_mostPenalty_2 ?_
  refine V_topS (fun S9 eS9 => ?_)
  have h := h S9 eS9
  refine V_aload_n C 0 dX11_mostPenalty_5 rfl rfl ?_
  refine V_iconst (v := 0) C dX11_mostPenalty_6 (by decide) ?_
  refine V_pi C 143 (by decide) (by decide) P_11_0 k_RX11_63 dX11_mostPenalty_7 ?_
  refine V_topS (fun S10 eS10 => ?_)
  have h := h S10 eS10
  refine V_aload_n C 0 dX11_mostPenalty_10 rfl rfl ?_
  refine V_iload_n C 1 dX11_mostPenalty_11 rfl rfl ?_
  refine V_callVz (As := [.int a1]) (rest := []) C (c_X11_isDeedAt (v_l X) G  _ _ h) 143 11 (by decide) (by decide) (by decide) rfl KV_X11_isDeedAt k_RX11_292 rfl rfl rfl (Nat.le_of_ble_eq_true rfl) ⟨Nat.le_of_ble_eq_true rfl, Nat.le_of_ble_eq_true rfl⟩ dX11_mostPenalty_12 (fun r12 S11 h => ?_)
  refine V_ifb_eq (tgt := 31) C dX11_mostPenalty_15 (by decide) (fun c => ?_) (fun c => ?_)
  · have h := h.1 c
    refine V_aload_n C 0 dX11_mostPenalty_31 rfl rfl ?_
    refine V_iconst (v := 2) C dX11_mostPenalty_32 (by decide) ?_
    refine V_callVi (As := [.int 2]) (rest := []) C (c_X11_refuse (v_l X) G  _ _ h) 143 11 (by decide) (by decide) (by decide) rfl KV_X11_refuse k_RX11_303 rfl rfl rfl (Nat.le_of_ble_eq_true rfl) ⟨Nat.le_of_ble_eq_true rfl, Nat.le_of_ble_eq_true rfl⟩ dX11_mostPenalty_33 (fun r14 S13 h => ?_)
    exact V_iret C D dX11_mostPenalty_36 h
  · have h := h.2 c
    refine V_aload_n C 0 dX11_mostPenalty_18 rfl rfl ?_
    refine V_iload_n C 1 dX11_mostPenalty_19 rfl rfl ?_
    refine V_iconst (v := 4) C dX11_mostPenalty_20 (by decide) ?_
    refine V_sipush (v := 999) C dX11_mostPenalty_21 (by decide) ?_
    refine V_iconst (v := 0) C dX11_mostPenalty_24 (by decide) ?_
    refine V_callVi (As := [.int a1, .int 4, .int 999, .int 0]) (rest := []) C (c_X11_firstGlad (v_l X) G  _ _ _ _ _ h) 143 11 (by decide) (by decide) (by decide) rfl KV_X11_firstGlad k_RX11_414 rfl rfl rfl (Nat.le_of_ble_eq_true rfl) ⟨Nat.le_of_ble_eq_true rfl, Nat.le_of_ble_eq_true rfl⟩ dX11_mostPenalty_25 (fun r16 S15 h => ?_)
    refine V_goto (tgt := 36) C dX11_mostPenalty_28 (by decide) ?_
    exact V_iret C D dX11_mostPenalty_36 h
/-! HalfAccuserModel.gladBy(II)I -/
theorem dX11_gladBy_0 : decode cX11_gladBy 0 = .ok ((.aload_n 0), 1) := by decide +kernel
theorem dX11_gladBy_1 : decode cX11_gladBy 1 = .ok ((.iconst 0), 1) := by decide +kernel
theorem dX11_gladBy_2 : decode cX11_gladBy 2 = .ok ((.putfield 60), 3) := by decide +kernel
theorem dX11_gladBy_5 : decode cX11_gladBy 5 = .ok ((.aload_n 0), 1) := by decide +kernel
theorem dX11_gladBy_6 : decode cX11_gladBy 6 = .ok ((.iconst 0), 1) := by decide +kernel
theorem dX11_gladBy_7 : decode cX11_gladBy 7 = .ok ((.putfield 63), 3) := by decide +kernel
theorem dX11_gladBy_10 : decode cX11_gladBy 10 = .ok ((.iload_n 1), 1) := by decide +kernel
theorem dX11_gladBy_11 : decode cX11_gladBy 11 = .ok (.i2l, 1) := by decide +kernel
theorem dX11_gladBy_12 : decode cX11_gladBy 12 = .ok ((.lconst 0), 1) := by decide +kernel
theorem dX11_gladBy_13 : decode cX11_gladBy 13 = .ok ((.ldc2_w 365), 3) := by decide +kernel
theorem dX11_gladBy_16 : decode cX11_gladBy 16 = .ok ((.invokestatic 95), 3) := by decide +kernel
theorem dX11_gladBy_19 : decode cX11_gladBy 19 = .ok ((.ifCond .eq 15), 3) := by decide +kernel
theorem dX11_gladBy_22 : decode cX11_gladBy 22 = .ok ((.iload_n 2), 1) := by decide +kernel
theorem dX11_gladBy_23 : decode cX11_gladBy 23 = .ok (.i2l, 1) := by decide +kernel
theorem dX11_gladBy_24 : decode cX11_gladBy 24 = .ok ((.lconst 0), 1) := by decide +kernel
theorem dX11_gladBy_25 : decode cX11_gladBy 25 = .ok ((.ldc2_w 363), 3) := by decide +kernel
theorem dX11_gladBy_28 : decode cX11_gladBy 28 = .ok ((.invokestatic 95), 3) := by decide +kernel
theorem dX11_gladBy_31 : decode cX11_gladBy 31 = .ok ((.ifCond .ne 9), 3) := by decide +kernel
theorem dX11_gladBy_34 : decode cX11_gladBy 34 = .ok ((.aload_n 0), 1) := by decide +kernel
theorem dX11_gladBy_35 : decode cX11_gladBy 35 = .ok ((.iconst 5), 1) := by decide +kernel
theorem dX11_gladBy_36 : decode cX11_gladBy 36 = .ok ((.invokevirtual 303), 3) := by decide +kernel
theorem dX11_gladBy_39 : decode cX11_gladBy 39 = .ok (.ireturn, 1) := by decide +kernel
theorem dX11_gladBy_40 : decode cX11_gladBy 40 = .ok ((.aload_n 0), 1) := by decide +kernel
theorem dX11_gladBy_41 : decode cX11_gladBy 41 = .ok ((.getfield 35), 3) := by decide +kernel
theorem dX11_gladBy_44 : decode cX11_gladBy 44 = .ok ((.iconst 5), 1) := by decide +kernel
theorem dX11_gladBy_45 : decode cX11_gladBy 45 = .ok (.iaload, 1) := by decide +kernel
theorem dX11_gladBy_46 : decode cX11_gladBy 46 = .ok ((.istore_n 3), 1) := by decide +kernel
theorem dX11_gladBy_47 : decode cX11_gladBy 47 = .ok ((.aload_n 0), 1) := by decide +kernel
theorem dX11_gladBy_48 : decode cX11_gladBy 48 = .ok ((.getfield 35), 3) := by decide +kernel
theorem dX11_gladBy_51 : decode cX11_gladBy 51 = .ok ((.iconst 4), 1) := by decide +kernel
theorem dX11_gladBy_52 : decode cX11_gladBy 52 = .ok (.iaload, 1) := by decide +kernel
theorem dX11_gladBy_53 : decode cX11_gladBy 53 = .ok ((.istore 4), 2) := by decide +kernel
theorem dX11_gladBy_55 : decode cX11_gladBy 55 = .ok ((.aload_n 0), 1) := by decide +kernel
theorem dX11_gladBy_56 : decode cX11_gladBy 56 = .ok ((.getfield 35), 3) := by decide +kernel
theorem dX11_gladBy_59 : decode cX11_gladBy 59 = .ok ((.iconst 5), 1) := by decide +kernel
theorem dX11_gladBy_60 : decode cX11_gladBy 60 = .ok ((.iload_n 1), 1) := by decide +kernel
theorem dX11_gladBy_61 : decode cX11_gladBy 61 = .ok (.iastore, 1) := by decide +kernel
theorem dX11_gladBy_62 : decode cX11_gladBy 62 = .ok ((.aload_n 0), 1) := by decide +kernel
theorem dX11_gladBy_63 : decode cX11_gladBy 63 = .ok ((.getfield 35), 3) := by decide +kernel
theorem dX11_gladBy_66 : decode cX11_gladBy 66 = .ok ((.iconst 4), 1) := by decide +kernel
theorem dX11_gladBy_67 : decode cX11_gladBy 67 = .ok ((.iload_n 2), 1) := by decide +kernel
theorem dX11_gladBy_68 : decode cX11_gladBy 68 = .ok (.iastore, 1) := by decide +kernel
theorem dX11_gladBy_69 : decode cX11_gladBy 69 = .ok ((.iconst 0), 1) := by decide +kernel
theorem dX11_gladBy_70 : decode cX11_gladBy 70 = .ok ((.istore 5), 2) := by decide +kernel
theorem dX11_gladBy_72 : decode cX11_gladBy 72 = .ok ((.iconst 0), 1) := by decide +kernel
theorem dX11_gladBy_73 : decode cX11_gladBy 73 = .ok ((.istore 6), 2) := by decide +kernel
theorem dX11_gladBy_75 : decode cX11_gladBy 75 = .ok ((.iload 6), 2) := by decide +kernel
theorem dX11_gladBy_77 : decode cX11_gladBy 77 = .ok ((.aload_n 0), 1) := by decide +kernel
theorem dX11_gladBy_78 : decode cX11_gladBy 78 = .ok ((.getfield 35), 3) := by decide +kernel
theorem dX11_gladBy_81 : decode cX11_gladBy 81 = .ok ((.iconst 1), 1) := by decide +kernel
theorem dX11_gladBy_82 : decode cX11_gladBy 82 = .ok (.iaload, 1) := by decide +kernel
theorem dX11_gladBy_83 : decode cX11_gladBy 83 = .ok ((.if_icmp .ge 31), 3) := by decide +kernel
theorem dX11_gladBy_86 : decode cX11_gladBy 86 = .ok ((.iload 5), 2) := by decide +kernel
theorem dX11_gladBy_88 : decode cX11_gladBy 88 = .ok ((.aload_n 0), 1) := by decide +kernel
theorem dX11_gladBy_89 : decode cX11_gladBy 89 = .ok ((.iload 6), 2) := by decide +kernel
theorem dX11_gladBy_91 : decode cX11_gladBy 91 = .ok ((.invokevirtual 411), 3) := by decide +kernel
theorem dX11_gladBy_94 : decode cX11_gladBy 94 = .ok ((.ifCond .eq 10), 3) := by decide +kernel
theorem dX11_gladBy_97 : decode cX11_gladBy 97 = .ok ((.iconst 1), 1) := by decide +kernel
theorem dX11_gladBy_98 : decode cX11_gladBy 98 = .ok ((.iload 6), 2) := by decide +kernel
theorem dX11_gladBy_100 : decode cX11_gladBy 100 = .ok (.ishl, 1) := by decide +kernel
theorem dX11_gladBy_101 : decode cX11_gladBy 101 = .ok ((.goto 4), 3) := by decide +kernel
theorem dX11_gladBy_104 : decode cX11_gladBy 104 = .ok ((.iconst 0), 1) := by decide +kernel
theorem dX11_gladBy_105 : decode cX11_gladBy 105 = .ok (.ior, 1) := by decide +kernel
theorem dX11_gladBy_106 : decode cX11_gladBy 106 = .ok ((.istore 5), 2) := by decide +kernel
theorem dX11_gladBy_108 : decode cX11_gladBy 108 = .ok ((.iinc 6 1), 3) := by decide +kernel
theorem dX11_gladBy_111 : decode cX11_gladBy 111 = .ok ((.goto (-36)), 3) := by decide +kernel
theorem dX11_gladBy_114 : decode cX11_gladBy 114 = .ok ((.aload_n 0), 1) := by decide +kernel
theorem dX11_gladBy_115 : decode cX11_gladBy 115 = .ok ((.getfield 35), 3) := by decide +kernel
theorem dX11_gladBy_118 : decode cX11_gladBy 118 = .ok ((.iconst 5), 1) := by decide +kernel
theorem dX11_gladBy_119 : decode cX11_gladBy 119 = .ok ((.iload_n 3), 1) := by decide +kernel
theorem dX11_gladBy_120 : decode cX11_gladBy 120 = .ok (.iastore, 1) := by decide +kernel
theorem dX11_gladBy_121 : decode cX11_gladBy 121 = .ok ((.aload_n 0), 1) := by decide +kernel
theorem dX11_gladBy_122 : decode cX11_gladBy 122 = .ok ((.getfield 35), 3) := by decide +kernel
theorem dX11_gladBy_125 : decode cX11_gladBy 125 = .ok ((.iconst 4), 1) := by decide +kernel
theorem dX11_gladBy_126 : decode cX11_gladBy 126 = .ok ((.iload 4), 2) := by decide +kernel
theorem dX11_gladBy_128 : decode cX11_gladBy 128 = .ok (.iastore, 1) := by decide +kernel
theorem dX11_gladBy_129 : decode cX11_gladBy 129 = .ok ((.iload 5), 2) := by decide +kernel
theorem dX11_gladBy_131 : decode cX11_gladBy 131 = .ok (.ireturn, 1) := by decide +kernel
def p_X11_gladBy_34  (a1 : Int32) (a2 : Int32)   (post : Int32 → vSt → Prop) (S : vSt)  : Prop := p_X11_refuse  S 5 (fun r30 S29 => post r30 S29)
def p_X11_gladBy_105  (a1 : Int32) (a2 : Int32)  (K75 : vSt → Int32 → Int32 → Int32 → Int32 → Prop) (post : Int32 → vSt → Prop) (S : vSt) (x3 : Int32) (x4 : Int32) (x6 : Int32) (s0 : Int32) (s1 : Int32) : Prop := ∀ y39 : Int32, y39 = (s1 ||| s0) → ∀ y40 : Int32, y40 = x6 + 1 → K75 S x3 x4 y39 y40
def p_X11_gladBy_75  (a1 : Int32) (a2 : Int32)   (post : Int32 → vSt → Prop) : Nat → vSt → Int32 → Int32 → Int32 → Int32 → Prop
  | 0 => fun _ _ _ _ _ => False
  | fu75 + 1 => fun S x3 x4 x5 x6 => (vp_in 1 1900 ∧ (((S.1 148 (Int32.toNatClampNeg 1)) ≤ x6 → (vp_in 5 1900 ∧ ∀ S35, S35 = v_si S 148 (Int32.toNatClampNeg 5) x3 → (vp_in 4 1900 ∧ ∀ S36, S36 = v_si S35 148 (Int32.toNatClampNeg 4) x4 → post x5 S36))) ∧ (¬ (S.1 148 (Int32.toNatClampNeg 1)) ≤ x6 → p_X11_isGladly  S x6 (fun r38 S37 => ((r38 = false → p_X11_gladBy_105 a1 a2 (p_X11_gladBy_75 a1 a2 post fu75) post S37 x3 x4 x6 0 x5) ∧ (r38 = true → p_X11_gladBy_105 a1 a2 (p_X11_gladBy_75 a1 a2 post fu75) post S37 x3 x4 x6 (1 <<< (x6 &&& 31)) x5))))))
theorem e_X11_gladBy_75  (a1 : Int32) (a2 : Int32)   (post : Int32 → vSt → Prop) (fu75 : Nat) (S : vSt) (x3 : Int32) (x4 : Int32) (x5 : Int32) (x6 : Int32) : p_X11_gladBy_75 a1 a2 post (fu75 + 1) S x3 x4 x5 x6 = ((vp_in 1 1900 ∧ (((S.1 148 (Int32.toNatClampNeg 1)) ≤ x6 → (vp_in 5 1900 ∧ ∀ S35, S35 = v_si S 148 (Int32.toNatClampNeg 5) x3 → (vp_in 4 1900 ∧ ∀ S36, S36 = v_si S35 148 (Int32.toNatClampNeg 4) x4 → post x5 S36))) ∧ (¬ (S.1 148 (Int32.toNatClampNeg 1)) ≤ x6 → p_X11_isGladly  S x6 (fun r38 S37 => ((r38 = false → p_X11_gladBy_105 a1 a2 (p_X11_gladBy_75 a1 a2 post fu75) post S37 x3 x4 x6 0 x5) ∧ (r38 = true → p_X11_gladBy_105 a1 a2 (p_X11_gladBy_75 a1 a2 post fu75) post S37 x3 x4 x6 (1 <<< (x6 &&& 31)) x5))))))) := rfl
def p_X11_gladBy   (S : vSt) (a1 : Int32) (a2 : Int32) (post : Int32 → vSt → Prop) : Prop := ∀ S25, S25 = v_si S 143 1 0 → ∀ S26, S26 = v_si S25 143 0 0 → p_X11_isIn  S26 (Int32.toInt64 a1) 0 16 (fun r28 S27 => ((r28 = false → p_X11_gladBy_34 a1 a2 post S27 ) ∧ (r28 = true → p_X11_isIn  S27 (Int32.toInt64 a2) 0 999 (fun r30 S29 => ((r30 = true → (vp_in 5 1900 ∧ ∀ y31 : Int32, y31 = (S29.1 148 (Int32.toNatClampNeg 5)) → (vp_in 4 1900 ∧ ∀ y32 : Int32, y32 = (S29.1 148 (Int32.toNatClampNeg 4)) → (vp_in 5 1900 ∧ ∀ S33, S33 = v_si S29 148 (Int32.toNatClampNeg 5) a1 → (vp_in 4 1900 ∧ ∀ S34, S34 = v_si S33 148 (Int32.toNatClampNeg 4) a2 → ∃ fu75, p_X11_gladBy_75 a1 a2 post fu75 S34 y31 y32 0 0))))) ∧ (r30 = false → p_X11_gladBy_34 a1 a2 post S29 ))))))
set_option maxHeartbeats 4000000 in
set_option maxRecDepth 100000 in
theorem q_X11_gladBy_34 {X : vX} {G : vG}  {post : Int32 → vSt → Prop} (C : v_Cx X G cX11_gladBy RX11 7 (v_rm 7 199)) (D : v_Rx X G (v_Qi G post) (some .int))  {a1 : Int32} {a2 : Int32}   : ∀ (S : vSt), p_X11_gladBy_34 a1 a2 post S  → VJ X G S 34 [(0, .ref (G.1 143))] [] := by
  intro S  h
  refine V_aload_n C 0 dX11_gladBy_34 rfl rfl ?_
  refine V_iconst (v := 5) C dX11_gladBy_35 (by decide) ?_
  refine V_callVi (As := [.int 5]) (rest := []) C (c_X11_refuse (v_l X) G  _ _ h) 143 11 (by decide) (by decide) (by decide) rfl KV_X11_refuse k_RX11_303 rfl rfl rfl (Nat.le_of_ble_eq_true rfl) ⟨Nat.le_of_ble_eq_true rfl, Nat.le_of_ble_eq_true rfl⟩ dX11_gladBy_36 (fun r30 S29 h => ?_)
  exact V_iret C D dX11_gladBy_39 h
set_option maxHeartbeats 4000000 in
set_option maxRecDepth 100000 in
theorem q_X11_gladBy_105 {X : vX} {G : vG}  {post : Int32 → vSt → Prop} (C : v_Cx X G cX11_gladBy RX11 7 (v_rm 7 199)) (D : v_Rx X G (v_Qi G post) (some .int))  {a1 : Int32} {a2 : Int32}  {K75 : vSt → Int32 → Int32 → Int32 → Int32 → Prop} (hK75 : ∀ S x3 x4 x5 x6, K75 S x3 x4 x5 x6 → VJ X G S 75 [(0, .ref (G.1 143)), (3, .int x3), (4, .int x4), (5, .int x5), (6, .int x6)] []) : ∀ (S : vSt) (x3 : Int32) (x4 : Int32) (x6 : Int32) (s0 : Int32) (s1 : Int32), p_X11_gladBy_105 a1 a2 K75 post S x3 x4 x6 s0 s1 → VJ X G S 105 [(0, .ref (G.1 143)), (3, .int x3), (4, .int x4), (6, .int x6)] [.int s0, .int s1] := by
  intro S x3 x4 x6 s0 s1 h
  refine V_ior C dX11_gladBy_105 ?_
  refine V_topi (fun y39 ey39 => ?_)
  have h := h y39 ey39
  refine V_istore (lv' := [(0, .ref (G.1 143)), (3, .int x3), (4, .int x4), (5, .int y39), (6, .int x6)]) C [1, 2, 3, 0, 4] dX11_gladBy_106 (by decide) rfl ?_
  obtain ⟨y40, ey40⟩ : ∃ z : Int32, z = x6 + 1 := ⟨_, rfl⟩
  have h := h y40 ey40
  refine V_iinc (lv' := [(0, .ref (G.1 143)), (3, .int x3), (4, .int x4), (5, .int y39), (6, .int y40)]) C 4 [1, 2, 3, 4, 0] y40 dX11_gladBy_108 rfl (by rw [ey40]; rfl) (by decide) rfl ?_
  refine V_goto (tgt := 75) C dX11_gladBy_111 (by decide) ?_
  exact hK75 _ _ _ _ _ h
set_option maxHeartbeats 4000000 in
set_option maxRecDepth 100000 in
theorem q_X11_gladBy_75 {X : vX} {G : vG}  {post : Int32 → vSt → Prop} (C : v_Cx X G cX11_gladBy RX11 7 (v_rm 7 199)) (D : v_Rx X G (v_Qi G post) (some .int))  {a1 : Int32} {a2 : Int32}   : ∀ (fu : Nat) (S : vSt) (x3 : Int32) (x4 : Int32) (x5 : Int32) (x6 : Int32), p_X11_gladBy_75 a1 a2 post fu S x3 x4 x5 x6 → VJ X G S 75 [(0, .ref (G.1 143)), (3, .int x3), (4, .int x4), (5, .int x5), (6, .int x6)] [] := by
  intro fu
  induction fu with
  | zero => intro S x3 x4 x5 x6 h; exact absurd h id
  | succ fu ih =>
    intro S x3 x4 x5 x6 h
    have hK75 := ih
    rw [e_X11_gladBy_75] at h
    refine V_iload C 4 dX11_gladBy_75 rfl ?_
    refine V_aload_n C 0 dX11_gladBy_77 rfl rfl ?_
    refine V_ga C 143 (by decide) (by decide) F_11_20 k_RX11_35 dX11_gladBy_78 ?_
    refine V_iconst (v := 1) C dX11_gladBy_81 (by decide) ?_
    obtain ⟨hi, h⟩ := h
    refine V_iald C 148 1900 (by decide) (by decide) hi dX11_gladBy_82 ?_
    refine V_icmp_ge (tgt := 114) C dX11_gladBy_83 (by decide) (fun c => ?_) (fun c => ?_)
    · have h := h.1 c
      refine V_aload_n C 0 dX11_gladBy_114 rfl rfl ?_
      refine V_ga C 143 (by decide) (by decide) F_11_20 k_RX11_35 dX11_gladBy_115 ?_
      refine V_iconst (v := 5) C dX11_gladBy_118 (by decide) ?_
      refine V_iload_n C 1 dX11_gladBy_119 rfl rfl ?_
      obtain ⟨hi, h⟩ := h
      refine V_iast C 148 1900 (by decide) (by decide) hi dX11_gladBy_120 ?_
      refine V_topS (fun S35 eS35 => ?_)
      have h := h S35 eS35
      refine V_aload_n C 0 dX11_gladBy_121 rfl rfl ?_
      refine V_ga C 143 (by decide) (by decide) F_11_20 k_RX11_35 dX11_gladBy_122 ?_
      refine V_iconst (v := 4) C dX11_gladBy_125 (by decide) ?_
      refine V_iload C 2 dX11_gladBy_126 rfl ?_
      obtain ⟨hi, h⟩ := h
      refine V_iast C 148 1900 (by decide) (by decide) hi dX11_gladBy_128 ?_
      refine V_topS (fun S36 eS36 => ?_)
      have h := h S36 eS36
      refine V_iload C 3 dX11_gladBy_129 rfl ?_
      exact V_iret C D dX11_gladBy_131 h
    · have h := h.2 c
      refine V_iload C 3 dX11_gladBy_86 rfl ?_
      refine V_aload_n C 0 dX11_gladBy_88 rfl rfl ?_
      refine V_iload C 4 dX11_gladBy_89 rfl ?_
      refine V_callVz (As := [.int x6]) (rest := [.int x5]) C (c_X11_isGladly (v_l X) G  _ _ h) 143 11 (by decide) (by decide) (by decide) rfl KV_X11_isGladly k_RX11_411 rfl rfl rfl (Nat.le_of_ble_eq_true rfl) ⟨Nat.le_of_ble_eq_true rfl, Nat.le_of_ble_eq_true rfl⟩ dX11_gladBy_91 (fun r38 S37 h => ?_)
      refine V_ifb_eq (tgt := 104) C dX11_gladBy_94 (by decide) (fun c => ?_) (fun c => ?_)
      · have h := h.1 c
        refine V_iconst (v := 0) C dX11_gladBy_104 (by decide) ?_
        refine V_loc (lv' := [(0, .ref (G.1 143)), (3, .int x3), (4, .int x4), (6, .int x6)]) [0, 1, 2, 4] rfl ?_
        exact q_X11_gladBy_105 C D hK75 _ _ _ _ _ _ h
      · have h := h.2 c
        refine V_iconst (v := 1) C dX11_gladBy_97 (by decide) ?_
        refine V_iload C 4 dX11_gladBy_98 rfl ?_
        refine V_ishl C dX11_gladBy_100 ?_
        refine V_goto (tgt := 105) C dX11_gladBy_101 (by decide) ?_
        refine V_loc (lv' := [(0, .ref (G.1 143)), (3, .int x3), (4, .int x4), (6, .int x6)]) [0, 1, 2, 4] rfl ?_
        exact q_X11_gladBy_105 C D hK75 _ _ _ _ _ _ h
set_option maxHeartbeats 4000000 in
set_option maxRecDepth 100000 in
theorem c_X11_gladBy (l : Launch) (G : vG)    {S : vSt} (a1 : Int32) (a2 : Int32) (post : Int32 → vSt → Prop) (h : p_X11_gladBy   S a1 a2 post) : Met l yX11_gladBy (v_ws yX11_gladBy cX11_gladBy 7 (some .int)) (v_rm 7 199) (v_Pc G [.ref (G.1 143), .int a1, .int a2] S) (v_Qi G post) 0 0 (v_A G) := by
  refine v_start (by decide +kernel) (Nat.le_of_ble_eq_true rfl) (fun X hl C D => ?_)
  subst hl
  have C : v_Cx X G cX11_gladBy RX11 7 (v_rm 7 199) := C
  show VJ X G S 0 [(0, .ref (G.1 143)), (1, .int a1), (2, .int a2)] []
  refine V_aload_n C 0 dX11_gladBy_0 rfl rfl ?_
  refine V_iconst (v := 0) C dX11_gladBy_1 (by decide) ?_
  refine V_pi C 143 (by decide) (by decide) P_11_1 k_RX11_60 dX11_gladBy_2 ?_
  refine V_topS (fun S25 eS25 => ?_)
  have h := h S25 eS25
  refine V_aload_n C 0 dX11_gladBy_5 rfl rfl ?_
  refine V_iconst (v := 0) C dX11_gladBy_6 (by decide) ?_
  refine V_pi C 143 (by decide) (by decide) P_11_0 k_RX11_63 dX11_gladBy_7 ?_
  refine V_topS (fun S26 eS26 => ?_)
  have h := h S26 eS26
  refine V_iload_n C 1 dX11_gladBy_10 rfl rfl ?_
  refine V_i2l C dX11_gladBy_11 ?_
  refine V_lconst (v := 0) C dX11_gladBy_12 (by decide) ?_
  refine V_ldc2 (v := 16) C k_RX11_365 dX11_gladBy_13 ?_
  refine V_callSz (As := [.long (Int32.toInt64 a1), .long 0, .long 16]) (rest := []) C (c_X11_isIn (v_l X) G  _ _ _ _ h) KV_X11_isIn k_RX11_95 rfl rfl rfl (Nat.le_of_ble_eq_true rfl) ⟨Nat.le_of_ble_eq_true rfl, Nat.le_of_ble_eq_true rfl⟩ dX11_gladBy_16 (fun r28 S27 h => ?_)
  refine V_ifb_eq (tgt := 34) C dX11_gladBy_19 (by decide) (fun c => ?_) (fun c => ?_)
  · have h := h.1 c
    refine V_loc (lv' := [(0, .ref (G.1 143))]) [0] rfl ?_
    exact q_X11_gladBy_34 C D  _ h
  · have h := h.2 c
    refine V_iload_n C 2 dX11_gladBy_22 rfl rfl ?_
    refine V_i2l C dX11_gladBy_23 ?_
    refine V_lconst (v := 0) C dX11_gladBy_24 (by decide) ?_
    refine V_ldc2 (v := 999) C k_RX11_363 dX11_gladBy_25 ?_
    refine V_callSz (As := [.long (Int32.toInt64 a2), .long 0, .long 999]) (rest := []) C (c_X11_isIn (v_l X) G  _ _ _ _ h) KV_X11_isIn k_RX11_95 rfl rfl rfl (Nat.le_of_ble_eq_true rfl) ⟨Nat.le_of_ble_eq_true rfl, Nat.le_of_ble_eq_true rfl⟩ dX11_gladBy_28 (fun r30 S29 h => ?_)
    refine V_ifb_ne (tgt := 40) C dX11_gladBy_31 (by decide) (fun c => ?_) (fun c => ?_)
    · have h := h.1 c
      refine V_aload_n C 0 dX11_gladBy_40 rfl rfl ?_
      refine V_ga C 143 (by decide) (by decide) F_11_20 k_RX11_35 dX11_gladBy_41 ?_
      refine V_iconst (v := 5) C dX11_gladBy_44 (by decide) ?_
      obtain ⟨hi, h⟩ := h
      refine V_iald C 148 1900 (by decide) (by decide) hi dX11_gladBy_45 ?_
      refine V_topi (fun y31 ey31 => ?_)
      have h := h y31 ey31
      refine V_istore_n (lv' := [(0, .ref (G.1 143)), (1, .int a1), (2, .int a2), (3, .int y31)]) C [1, 2, 3, 0] dX11_gladBy_46 rfl (by decide) rfl ?_
      refine V_aload_n C 0 dX11_gladBy_47 rfl rfl ?_
      refine V_ga C 143 (by decide) (by decide) F_11_20 k_RX11_35 dX11_gladBy_48 ?_
      refine V_iconst (v := 4) C dX11_gladBy_51 (by decide) ?_
      obtain ⟨hi, h⟩ := h
      refine V_iald C 148 1900 (by decide) (by decide) hi dX11_gladBy_52 ?_
      refine V_topi (fun y32 ey32 => ?_)
      have h := h y32 ey32
      refine V_istore (lv' := [(0, .ref (G.1 143)), (1, .int a1), (2, .int a2), (3, .int y31), (4, .int y32)]) C [1, 2, 3, 4, 0] dX11_gladBy_53 (by decide) rfl ?_
      refine V_aload_n C 0 dX11_gladBy_55 rfl rfl ?_
      refine V_ga C 143 (by decide) (by decide) F_11_20 k_RX11_35 dX11_gladBy_56 ?_
      refine V_iconst (v := 5) C dX11_gladBy_59 (by decide) ?_
      refine V_iload_n C 1 dX11_gladBy_60 rfl rfl ?_
      obtain ⟨hi, h⟩ := h
      refine V_iast C 148 1900 (by decide) (by decide) hi dX11_gladBy_61 ?_
      refine V_topS (fun S33 eS33 => ?_)
      have h := h S33 eS33
      refine V_aload_n C 0 dX11_gladBy_62 rfl rfl ?_
      refine V_ga C 143 (by decide) (by decide) F_11_20 k_RX11_35 dX11_gladBy_63 ?_
      refine V_iconst (v := 4) C dX11_gladBy_66 (by decide) ?_
      refine V_iload_n C 2 dX11_gladBy_67 rfl rfl ?_
      obtain ⟨hi, h⟩ := h
      refine V_iast C 148 1900 (by decide) (by decide) hi dX11_gladBy_68 ?_
      refine V_topS (fun S34 eS34 => ?_)
      have h := h S34 eS34
      refine V_iconst (v := 0) C dX11_gladBy_69 (by decide) ?_
      refine V_istore (lv' := [(0, .ref (G.1 143)), (1, .int a1), (2, .int a2), (3, .int y31), (4, .int y32), (5, .int 0)]) C [1, 2, 3, 4, 5, 0] dX11_gladBy_70 (by decide) rfl ?_
      refine V_iconst (v := 0) C dX11_gladBy_72 (by decide) ?_
      refine V_istore (lv' := [(0, .ref (G.1 143)), (1, .int a1), (2, .int a2), (3, .int y31), (4, .int y32), (5, .int 0), (6, .int 0)]) C [1, 2, 3, 4, 5, 6, 0] dX11_gladBy_73 (by decide) rfl ?_
      refine V_loc (lv' := [(0, .ref (G.1 143)), (3, .int y31), (4, .int y32), (5, .int 0), (6, .int 0)]) [0, 3, 4, 5, 6] rfl ?_
      obtain ⟨fu75, h⟩ := h
      exact q_X11_gladBy_75 C D  fu75 _ _ _ _ _ h
    · have h := h.2 c
      refine V_loc (lv' := [(0, .ref (G.1 143))]) [0] rfl ?_
      exact q_X11_gladBy_34 C D  _ h
/-! HalfAccuserModel.whyNoGame(IIII)I -/
theorem dX11_whyNoGame_0 : decode cX11_whyNoGame 0 = .ok ((.aload_n 0), 1) := by decide +kernel
theorem dX11_whyNoGame_1 : decode cX11_whyNoGame 1 = .ok ((.iload_n 1), 1) := by decide +kernel
theorem dX11_whyNoGame_2 : decode cX11_whyNoGame 2 = .ok ((.invokevirtual 289), 3) := by decide +kernel
theorem dX11_whyNoGame_5 : decode cX11_whyNoGame 5 = .ok ((.ifCond .eq 11), 3) := by decide +kernel
theorem dX11_whyNoGame_8 : decode cX11_whyNoGame 8 = .ok ((.aload_n 0), 1) := by decide +kernel
theorem dX11_whyNoGame_9 : decode cX11_whyNoGame 9 = .ok ((.iload_n 2), 1) := by decide +kernel
theorem dX11_whyNoGame_10 : decode cX11_whyNoGame 10 = .ok ((.invokevirtual 289), 3) := by decide +kernel
theorem dX11_whyNoGame_13 : decode cX11_whyNoGame 13 = .ok ((.ifCond .ne 5), 3) := by decide +kernel
theorem dX11_whyNoGame_16 : decode cX11_whyNoGame 16 = .ok ((.iconst 2), 1) := by decide +kernel
theorem dX11_whyNoGame_17 : decode cX11_whyNoGame 17 = .ok (.ireturn, 1) := by decide +kernel
theorem dX11_whyNoGame_18 : decode cX11_whyNoGame 18 = .ok ((.iload_n 1), 1) := by decide +kernel
theorem dX11_whyNoGame_19 : decode cX11_whyNoGame 19 = .ok ((.iload_n 2), 1) := by decide +kernel
theorem dX11_whyNoGame_20 : decode cX11_whyNoGame 20 = .ok ((.if_icmp .eq 21), 3) := by decide +kernel
theorem dX11_whyNoGame_23 : decode cX11_whyNoGame 23 = .ok ((.iload_n 3), 1) := by decide +kernel
theorem dX11_whyNoGame_24 : decode cX11_whyNoGame 24 = .ok (.i2l, 1) := by decide +kernel
theorem dX11_whyNoGame_25 : decode cX11_whyNoGame 25 = .ok ((.iload 4), 2) := by decide +kernel
theorem dX11_whyNoGame_27 : decode cX11_whyNoGame 27 = .ok (.i2l, 1) := by decide +kernel
theorem dX11_whyNoGame_28 : decode cX11_whyNoGame 28 = .ok ((.ldc2_w 93), 3) := by decide +kernel
theorem dX11_whyNoGame_31 : decode cX11_whyNoGame 31 = .ok ((.invokestatic 95), 3) := by decide +kernel
theorem dX11_whyNoGame_34 : decode cX11_whyNoGame 34 = .ok ((.ifCond .eq 7), 3) := by decide +kernel
theorem dX11_whyNoGame_37 : decode cX11_whyNoGame 37 = .ok ((.iconst 0), 1) := by decide +kernel
theorem dX11_whyNoGame_38 : decode cX11_whyNoGame 38 = .ok ((.goto 4), 3) := by decide +kernel
theorem dX11_whyNoGame_41 : decode cX11_whyNoGame 41 = .ok ((.iconst 5), 1) := by decide +kernel
theorem dX11_whyNoGame_42 : decode cX11_whyNoGame 42 = .ok (.ireturn, 1) := by decide +kernel
def p_X11_whyNoGame   (S : vSt) (a1 : Int32) (a2 : Int32) (a3 : Int32) (a4 : Int32) (post : Int32 → vSt → Prop) : Prop := p_X11_isOne  S a1 (fun r8 S7 => ((r8 = false → post 2 S7) ∧ (r8 = true → p_X11_isOne  S7 a2 (fun r10 S9 => ((r10 = true → ((a1 = a2 → post 5 S9) ∧ (¬ a1 = a2 → p_X11_isIn  S9 (Int32.toInt64 a3) (Int32.toInt64 a4) 3 (fun r12 S11 => ((r12 = false → post 5 S11) ∧ (r12 = true → post 0 S11)))))) ∧ (r10 = false → post 2 S9))))))
set_option maxHeartbeats 4000000 in
set_option maxRecDepth 100000 in
theorem c_X11_whyNoGame (l : Launch) (G : vG)    {S : vSt} (a1 : Int32) (a2 : Int32) (a3 : Int32) (a4 : Int32) (post : Int32 → vSt → Prop) (h : p_X11_whyNoGame   S a1 a2 a3 a4 post) : Met l yX11_whyNoGame (v_ws yX11_whyNoGame cX11_whyNoGame 5 (some .int)) (v_rm 2 86) (v_Pc G [.ref (G.1 143), .int a1, .int a2, .int a3, .int a4] S) (v_Qi G post) 0 0 (v_A G) := by
  refine v_start (by decide +kernel) (Nat.le_of_ble_eq_true rfl) (fun X hl C D => ?_)
  subst hl
  have C : v_Cx X G cX11_whyNoGame RX11 5 (v_rm 2 86) := C
  show VJ X G S 0 [(0, .ref (G.1 143)), (1, .int a1), (2, .int a2), (3, .int a3), (4, .int a4)] []
  refine V_aload_n C 0 dX11_whyNoGame_0 rfl rfl ?_
  refine V_iload_n C 1 dX11_whyNoGame_1 rfl rfl ?_
  refine V_callVz (As := [.int a1]) (rest := []) C (c_X11_isOne (v_l X) G  _ _ h) 143 11 (by decide) (by decide) (by decide) rfl KV_X11_isOne k_RX11_289 rfl rfl rfl (Nat.le_of_ble_eq_true rfl) ⟨Nat.le_of_ble_eq_true rfl, Nat.le_of_ble_eq_true rfl⟩ dX11_whyNoGame_2 (fun r8 S7 h => ?_)
  refine V_ifb_eq (tgt := 16) C dX11_whyNoGame_5 (by decide) (fun c => ?_) (fun c => ?_)
  · have h := h.1 c
    refine V_iconst (v := 2) C dX11_whyNoGame_16 (by decide) ?_
    exact V_iret C D dX11_whyNoGame_17 h
  · have h := h.2 c
    refine V_aload_n C 0 dX11_whyNoGame_8 rfl rfl ?_
    refine V_iload_n C 2 dX11_whyNoGame_9 rfl rfl ?_
    refine V_callVz (As := [.int a2]) (rest := []) C (c_X11_isOne (v_l X) G  _ _ h) 143 11 (by decide) (by decide) (by decide) rfl KV_X11_isOne k_RX11_289 rfl rfl rfl (Nat.le_of_ble_eq_true rfl) ⟨Nat.le_of_ble_eq_true rfl, Nat.le_of_ble_eq_true rfl⟩ dX11_whyNoGame_10 (fun r10 S9 h => ?_)
    refine V_ifb_ne (tgt := 18) C dX11_whyNoGame_13 (by decide) (fun c => ?_) (fun c => ?_)
    · have h := h.1 c
      refine V_iload_n C 1 dX11_whyNoGame_18 rfl rfl ?_
      refine V_iload_n C 2 dX11_whyNoGame_19 rfl rfl ?_
      refine V_icmp_eq (tgt := 41) C dX11_whyNoGame_20 (by decide) (fun c => ?_) (fun c => ?_)
      · have h := h.1 c
        refine V_iconst (v := 5) C dX11_whyNoGame_41 (by decide) ?_
        exact V_iret C D dX11_whyNoGame_42 h
      · have h := h.2 c
        refine V_iload_n C 3 dX11_whyNoGame_23 rfl rfl ?_
        refine V_i2l C dX11_whyNoGame_24 ?_
        refine V_iload C 4 dX11_whyNoGame_25 rfl ?_
        refine V_i2l C dX11_whyNoGame_27 ?_
        refine V_ldc2 (v := 3) C k_RX11_93 dX11_whyNoGame_28 ?_
        refine V_callSz (As := [.long (Int32.toInt64 a3), .long (Int32.toInt64 a4), .long 3]) (rest := []) C (c_X11_isIn (v_l X) G  _ _ _ _ h) KV_X11_isIn k_RX11_95 rfl rfl rfl (Nat.le_of_ble_eq_true rfl) ⟨Nat.le_of_ble_eq_true rfl, Nat.le_of_ble_eq_true rfl⟩ dX11_whyNoGame_31 (fun r12 S11 h => ?_)
        refine V_ifb_eq (tgt := 41) C dX11_whyNoGame_34 (by decide) (fun c => ?_) (fun c => ?_)
        · have h := h.1 c
          refine V_iconst (v := 5) C dX11_whyNoGame_41 (by decide) ?_
          exact V_iret C D dX11_whyNoGame_42 h
        · have h := h.2 c
          refine V_iconst (v := 0) C dX11_whyNoGame_37 (by decide) ?_
          refine V_goto (tgt := 42) C dX11_whyNoGame_38 (by decide) ?_
          exact V_iret C D dX11_whyNoGame_42 h
    · have h := h.2 c
      refine V_iconst (v := 2) C dX11_whyNoGame_16 (by decide) ?_
      exact V_iret C D dX11_whyNoGame_17 h
/-! HalfAccuserModel.arePeople(I)Z -/
theorem dX11_arePeople_0 : decode cX11_arePeople 0 = .ok ((.iload_n 1), 1) := by decide +kernel
theorem dX11_arePeople_1 : decode cX11_arePeople 1 = .ok (.i2l, 1) := by decide +kernel
theorem dX11_arePeople_2 : decode cX11_arePeople 2 = .ok ((.lconst 0), 1) := by decide +kernel
theorem dX11_arePeople_3 : decode cX11_arePeople 3 = .ok ((.iconst 1), 1) := by decide +kernel
theorem dX11_arePeople_4 : decode cX11_arePeople 4 = .ok ((.aload_n 0), 1) := by decide +kernel
theorem dX11_arePeople_5 : decode cX11_arePeople 5 = .ok ((.getfield 35), 3) := by decide +kernel
theorem dX11_arePeople_8 : decode cX11_arePeople 8 = .ok ((.iconst 0), 1) := by decide +kernel
theorem dX11_arePeople_9 : decode cX11_arePeople 9 = .ok (.iaload, 1) := by decide +kernel
theorem dX11_arePeople_10 : decode cX11_arePeople 10 = .ok (.ishl, 1) := by decide +kernel
theorem dX11_arePeople_11 : decode cX11_arePeople 11 = .ok ((.iconst 1), 1) := by decide +kernel
theorem dX11_arePeople_12 : decode cX11_arePeople 12 = .ok (.isub, 1) := by decide +kernel
theorem dX11_arePeople_13 : decode cX11_arePeople 13 = .ok (.i2l, 1) := by decide +kernel
theorem dX11_arePeople_14 : decode cX11_arePeople 14 = .ok ((.invokestatic 95), 3) := by decide +kernel
theorem dX11_arePeople_17 : decode cX11_arePeople 17 = .ok (.ireturn, 1) := by decide +kernel
def p_X11_arePeople   (S : vSt) (a1 : Int32) (post : Bool → vSt → Prop) : Prop := (vp_in 0 1900 ∧ p_X11_isIn  S (Int32.toInt64 a1) 0 (Int32.toInt64 ((1 <<< ((S.1 148 (Int32.toNatClampNeg 0)) &&& 31)) - 1)) (fun r4 S3 => post r4 S3))
set_option maxHeartbeats 4000000 in
set_option maxRecDepth 100000 in
theorem c_X11_arePeople (l : Launch) (G : vG)    {S : vSt} (a1 : Int32) (post : Bool → vSt → Prop) (h : p_X11_arePeople   S a1 post) : Met l yX11_arePeople (v_ws yX11_arePeople cX11_arePeople 2 (some .boolean)) (v_rm 1 65) (v_Pc G [.ref (G.1 143), .int a1] S) (v_Qz G post) 0 0 (v_A G) := by
  refine v_start (by decide +kernel) (Nat.le_of_ble_eq_true rfl) (fun X hl C D => ?_)
  subst hl
  have C : v_Cx X G cX11_arePeople RX11 2 (v_rm 1 65) := C
  show VJ X G S 0 [(0, .ref (G.1 143)), (1, .int a1)] []
  refine V_iload_n C 1 dX11_arePeople_0 rfl rfl ?_
  refine V_i2l C dX11_arePeople_1 ?_
  refine V_lconst (v := 0) C dX11_arePeople_2 (by decide) ?_
  refine V_iconst (v := 1) C dX11_arePeople_3 (by decide) ?_
  refine V_aload_n C 0 dX11_arePeople_4 rfl rfl ?_
  refine V_ga C 143 (by decide) (by decide) F_11_20 k_RX11_35 dX11_arePeople_5 ?_
  refine V_iconst (v := 0) C dX11_arePeople_8 (by decide) ?_
  obtain ⟨hi, h⟩ := h
  refine V_iald C 148 1900 (by decide) (by decide) hi dX11_arePeople_9 ?_
  refine V_ishl C dX11_arePeople_10 ?_
  refine V_iconst (v := 1) C dX11_arePeople_11 (by decide) ?_
  refine V_isub C dX11_arePeople_12 ?_
  refine V_i2l C dX11_arePeople_13 ?_
  refine V_callSz (As := [.long (Int32.toInt64 a1), .long 0, .long (Int32.toInt64 ((1 <<< ((S.1 148 (Int32.toNatClampNeg 0)) &&& 31)) - 1))]) (rest := []) C (c_X11_isIn (v_l X) G  _ _ _ _ h) KV_X11_isIn k_RX11_95 rfl rfl rfl (Nat.le_of_ble_eq_true rfl) ⟨Nat.le_of_ble_eq_true rfl, Nat.le_of_ble_eq_true rfl⟩ dX11_arePeople_14 (fun r4 S3 h => ?_)
  exact V_zret C D dX11_arePeople_17 h
/-! HalfAccuserModel.dreadsOf(I)J -/
theorem dX11_dreadsOf_0 : decode cX11_dreadsOf 0 = .ok ((.lconst 0), 1) := by decide +kernel
theorem dX11_dreadsOf_1 : decode cX11_dreadsOf 1 = .ok ((.lstore_n 2), 1) := by decide +kernel
theorem dX11_dreadsOf_2 : decode cX11_dreadsOf 2 = .ok ((.iconst 0), 1) := by decide +kernel
theorem dX11_dreadsOf_3 : decode cX11_dreadsOf 3 = .ok ((.istore 4), 2) := by decide +kernel
theorem dX11_dreadsOf_5 : decode cX11_dreadsOf 5 = .ok ((.iload 4), 2) := by decide +kernel
theorem dX11_dreadsOf_7 : decode cX11_dreadsOf 7 = .ok ((.aload_n 0), 1) := by decide +kernel
theorem dX11_dreadsOf_8 : decode cX11_dreadsOf 8 = .ok ((.getfield 35), 3) := by decide +kernel
theorem dX11_dreadsOf_11 : decode cX11_dreadsOf 11 = .ok ((.iconst 0), 1) := by decide +kernel
theorem dX11_dreadsOf_12 : decode cX11_dreadsOf 12 = .ok (.iaload, 1) := by decide +kernel
theorem dX11_dreadsOf_13 : decode cX11_dreadsOf 13 = .ok ((.if_icmp .ge 32), 3) := by decide +kernel
theorem dX11_dreadsOf_16 : decode cX11_dreadsOf 16 = .ok ((.lload_n 2), 1) := by decide +kernel
theorem dX11_dreadsOf_17 : decode cX11_dreadsOf 17 = .ok ((.iload_n 1), 1) := by decide +kernel
theorem dX11_dreadsOf_18 : decode cX11_dreadsOf 18 = .ok ((.iload 4), 2) := by decide +kernel
theorem dX11_dreadsOf_20 : decode cX11_dreadsOf 20 = .ok ((.invokestatic 99), 3) := by decide +kernel
theorem dX11_dreadsOf_23 : decode cX11_dreadsOf 23 = .ok ((.ifCond .eq 13), 3) := by decide +kernel
theorem dX11_dreadsOf_26 : decode cX11_dreadsOf 26 = .ok ((.aload_n 0), 1) := by decide +kernel
theorem dX11_dreadsOf_27 : decode cX11_dreadsOf 27 = .ok ((.getfield 50), 3) := by decide +kernel
theorem dX11_dreadsOf_30 : decode cX11_dreadsOf 30 = .ok ((.iload 4), 2) := by decide +kernel
theorem dX11_dreadsOf_32 : decode cX11_dreadsOf 32 = .ok (.laload, 1) := by decide +kernel
theorem dX11_dreadsOf_33 : decode cX11_dreadsOf 33 = .ok ((.goto 4), 3) := by decide +kernel
theorem dX11_dreadsOf_36 : decode cX11_dreadsOf 36 = .ok ((.lconst 0), 1) := by decide +kernel
theorem dX11_dreadsOf_37 : decode cX11_dreadsOf 37 = .ok (.ladd, 1) := by decide +kernel
theorem dX11_dreadsOf_38 : decode cX11_dreadsOf 38 = .ok ((.lstore_n 2), 1) := by decide +kernel
theorem dX11_dreadsOf_39 : decode cX11_dreadsOf 39 = .ok ((.iinc 4 1), 3) := by decide +kernel
theorem dX11_dreadsOf_42 : decode cX11_dreadsOf 42 = .ok ((.goto (-37)), 3) := by decide +kernel
theorem dX11_dreadsOf_45 : decode cX11_dreadsOf 45 = .ok ((.lload_n 2), 1) := by decide +kernel
theorem dX11_dreadsOf_46 : decode cX11_dreadsOf 46 = .ok (.lreturn, 1) := by decide +kernel
def p_X11_dreadsOf_37  (a1 : Int32)  (K5 : vSt → Int64 → Int32 → Prop) (post : Int64 → vSt → Prop) (S : vSt) (x4 : Int32) (s0 : Int64) (s1 : Int64) : Prop := ∀ y11 : Int64, y11 = (s1 + s0) → ∀ y12 : Int32, y12 = x4 + 1 → K5 S y11 y12
def p_X11_dreadsOf_5  (a1 : Int32)   (post : Int64 → vSt → Prop) : Nat → vSt → Int64 → Int32 → Prop
  | 0 => fun _ _ _ => False
  | fu5 + 1 => fun S x2 x4 => (vp_in 0 1900 ∧ (((S.1 148 (Int32.toNatClampNeg 0)) ≤ x4 → post x2 S) ∧ (¬ (S.1 148 (Int32.toNatClampNeg 0)) ≤ x4 → p_X11_has  S a1 x4 (fun r10 S9 => ((r10 = false → p_X11_dreadsOf_37 a1 (p_X11_dreadsOf_5 a1 post fu5) post S9 x4 0 x2) ∧ (r10 = true → (vp_in x4 8 ∧ p_X11_dreadsOf_37 a1 (p_X11_dreadsOf_5 a1 post fu5) post S9 x4 (S9.2 153 (Int32.toNatClampNeg x4)) x2)))))))
theorem e_X11_dreadsOf_5  (a1 : Int32)   (post : Int64 → vSt → Prop) (fu5 : Nat) (S : vSt) (x2 : Int64) (x4 : Int32) : p_X11_dreadsOf_5 a1 post (fu5 + 1) S x2 x4 = ((vp_in 0 1900 ∧ (((S.1 148 (Int32.toNatClampNeg 0)) ≤ x4 → post x2 S) ∧ (¬ (S.1 148 (Int32.toNatClampNeg 0)) ≤ x4 → p_X11_has  S a1 x4 (fun r10 S9 => ((r10 = false → p_X11_dreadsOf_37 a1 (p_X11_dreadsOf_5 a1 post fu5) post S9 x4 0 x2) ∧ (r10 = true → (vp_in x4 8 ∧ p_X11_dreadsOf_37 a1 (p_X11_dreadsOf_5 a1 post fu5) post S9 x4 (S9.2 153 (Int32.toNatClampNeg x4)) x2)))))))) := rfl
def p_X11_dreadsOf   (S : vSt) (a1 : Int32) (post : Int64 → vSt → Prop) : Prop := ∃ fu5, p_X11_dreadsOf_5 a1 post fu5 S 0 0
set_option maxHeartbeats 4000000 in
set_option maxRecDepth 100000 in
theorem q_X11_dreadsOf_37 {X : vX} {G : vG}  {post : Int64 → vSt → Prop} (C : v_Cx X G cX11_dreadsOf RX11 5 (v_rm 1 61)) (D : v_Rx X G (v_Ql G post) (some .long))  {a1 : Int32}  {K5 : vSt → Int64 → Int32 → Prop} (hK5 : ∀ S x2 x4, K5 S x2 x4 → VJ X G S 5 [(0, .ref (G.1 143)), (1, .int a1), (2, .long x2), (4, .int x4)] []) : ∀ (S : vSt) (x4 : Int32) (s0 : Int64) (s1 : Int64), p_X11_dreadsOf_37 a1 K5 post S x4 s0 s1 → VJ X G S 37 [(0, .ref (G.1 143)), (1, .int a1), (4, .int x4)] [.long s0, .long s1] := by
  intro S x4 s0 s1 h
  refine V_ladd C dX11_dreadsOf_37 ?_
  refine V_topl (fun y11 ey11 => ?_)
  have h := h y11 ey11
  refine V_lstore_n (lv' := [(0, .ref (G.1 143)), (1, .int a1), (2, .long y11), (4, .int x4)]) C [1, 2, 0, 3] dX11_dreadsOf_38 rfl (by decide) rfl ?_
  obtain ⟨y12, ey12⟩ : ∃ z : Int32, z = x4 + 1 := ⟨_, rfl⟩
  have h := h y12 ey12
  refine V_iinc (lv' := [(0, .ref (G.1 143)), (1, .int a1), (2, .long y11), (4, .int y12)]) C 3 [1, 2, 3, 0] y12 dX11_dreadsOf_39 rfl (by rw [ey12]; rfl) (by decide) rfl ?_
  refine V_goto (tgt := 5) C dX11_dreadsOf_42 (by decide) ?_
  exact hK5 _ _ _ h
set_option maxHeartbeats 4000000 in
set_option maxRecDepth 100000 in
theorem q_X11_dreadsOf_5 {X : vX} {G : vG}  {post : Int64 → vSt → Prop} (C : v_Cx X G cX11_dreadsOf RX11 5 (v_rm 1 61)) (D : v_Rx X G (v_Ql G post) (some .long))  {a1 : Int32}   : ∀ (fu : Nat) (S : vSt) (x2 : Int64) (x4 : Int32), p_X11_dreadsOf_5 a1 post fu S x2 x4 → VJ X G S 5 [(0, .ref (G.1 143)), (1, .int a1), (2, .long x2), (4, .int x4)] [] := by
  intro fu
  induction fu with
  | zero => intro S x2 x4 h; exact absurd h id
  | succ fu ih =>
    intro S x2 x4 h
    have hK5 := ih
    rw [e_X11_dreadsOf_5] at h
    refine V_iload C 3 dX11_dreadsOf_5 rfl ?_
    refine V_aload_n C 0 dX11_dreadsOf_7 rfl rfl ?_
    refine V_ga C 143 (by decide) (by decide) F_11_20 k_RX11_35 dX11_dreadsOf_8 ?_
    refine V_iconst (v := 0) C dX11_dreadsOf_11 (by decide) ?_
    obtain ⟨hi, h⟩ := h
    refine V_iald C 148 1900 (by decide) (by decide) hi dX11_dreadsOf_12 ?_
    refine V_icmp_ge (tgt := 45) C dX11_dreadsOf_13 (by decide) (fun c => ?_) (fun c => ?_)
    · have h := h.1 c
      refine V_lload_n C 2 dX11_dreadsOf_45 rfl rfl ?_
      exact V_lret C D dX11_dreadsOf_46 h
    · have h := h.2 c
      refine V_lload_n C 2 dX11_dreadsOf_16 rfl rfl ?_
      refine V_iload_n C 1 dX11_dreadsOf_17 rfl rfl ?_
      refine V_iload C 3 dX11_dreadsOf_18 rfl ?_
      refine V_callSz (As := [.int a1, .int x4]) (rest := [.long x2]) C (c_X11_has (v_l X) G  _ _ _ h) KV_X11_has k_RX11_99 rfl rfl rfl (Nat.le_of_ble_eq_true rfl) ⟨Nat.le_of_ble_eq_true rfl, Nat.le_of_ble_eq_true rfl⟩ dX11_dreadsOf_20 (fun r10 S9 h => ?_)
      refine V_ifb_eq (tgt := 36) C dX11_dreadsOf_23 (by decide) (fun c => ?_) (fun c => ?_)
      · have h := h.1 c
        refine V_lconst (v := 0) C dX11_dreadsOf_36 (by decide) ?_
        refine V_loc (lv' := [(0, .ref (G.1 143)), (1, .int a1), (4, .int x4)]) [0, 1, 3] rfl ?_
        exact q_X11_dreadsOf_37 C D hK5 _ _ _ _ h
      · have h := h.2 c
        refine V_aload_n C 0 dX11_dreadsOf_26 rfl rfl ?_
        refine V_ga C 143 (by decide) (by decide) F_11_30 k_RX11_50 dX11_dreadsOf_27 ?_
        refine V_iload C 3 dX11_dreadsOf_30 rfl ?_
        obtain ⟨hi, h⟩ := h
        refine V_lald C 153 8 (by decide) (by decide) hi dX11_dreadsOf_32 ?_
        refine V_goto (tgt := 37) C dX11_dreadsOf_33 (by decide) ?_
        refine V_loc (lv' := [(0, .ref (G.1 143)), (1, .int a1), (4, .int x4)]) [0, 1, 3] rfl ?_
        exact q_X11_dreadsOf_37 C D hK5 _ _ _ _ h
set_option maxHeartbeats 4000000 in
set_option maxRecDepth 100000 in
theorem c_X11_dreadsOf (l : Launch) (G : vG)    {S : vSt} (a1 : Int32) (post : Int64 → vSt → Prop) (h : p_X11_dreadsOf   S a1 post) : Met l yX11_dreadsOf (v_ws yX11_dreadsOf cX11_dreadsOf 5 (some .long)) (v_rm 1 61) (v_Pc G [.ref (G.1 143), .int a1] S) (v_Ql G post) 0 0 (v_A G) := by
  refine v_start (by decide +kernel) (Nat.le_of_ble_eq_true rfl) (fun X hl C D => ?_)
  subst hl
  have C : v_Cx X G cX11_dreadsOf RX11 5 (v_rm 1 61) := C
  show VJ X G S 0 [(0, .ref (G.1 143)), (1, .int a1)] []
  refine V_lconst (v := 0) C dX11_dreadsOf_0 (by decide) ?_
  refine V_lstore_n (lv' := [(0, .ref (G.1 143)), (1, .int a1), (2, .long 0)]) C [1, 2, 0] dX11_dreadsOf_1 rfl (by decide) rfl ?_
  refine V_iconst (v := 0) C dX11_dreadsOf_2 (by decide) ?_
  refine V_istore (lv' := [(0, .ref (G.1 143)), (1, .int a1), (2, .long 0), (4, .int 0)]) C [1, 2, 3, 0] dX11_dreadsOf_3 (by decide) rfl ?_
  obtain ⟨fu5, h⟩ := h
  exact q_X11_dreadsOf_5 C D  fu5 _ _ _ h
/-! HalfAccuserModel.laysDreads()V -/
theorem dX11_laysDreads_0 : decode cX11_laysDreads 0 = .ok ((.iconst 0), 1) := by decide +kernel
theorem dX11_laysDreads_1 : decode cX11_laysDreads 1 = .ok ((.istore_n 1), 1) := by decide +kernel
theorem dX11_laysDreads_2 : decode cX11_laysDreads 2 = .ok ((.iload_n 1), 1) := by decide +kernel
theorem dX11_laysDreads_3 : decode cX11_laysDreads 3 = .ok ((.aload_n 0), 1) := by decide +kernel
theorem dX11_laysDreads_4 : decode cX11_laysDreads 4 = .ok ((.getfield 35), 3) := by decide +kernel
theorem dX11_laysDreads_7 : decode cX11_laysDreads 7 = .ok ((.iconst 0), 1) := by decide +kernel
theorem dX11_laysDreads_8 : decode cX11_laysDreads 8 = .ok (.iaload, 1) := by decide +kernel
theorem dX11_laysDreads_9 : decode cX11_laysDreads 9 = .ok ((.if_icmp .ge 20), 3) := by decide +kernel
theorem dX11_laysDreads_12 : decode cX11_laysDreads 12 = .ok ((.aload_n 0), 1) := by decide +kernel
theorem dX11_laysDreads_13 : decode cX11_laysDreads 13 = .ok ((.getfield 50), 3) := by decide +kernel
theorem dX11_laysDreads_16 : decode cX11_laysDreads 16 = .ok ((.iload_n 1), 1) := by decide +kernel
theorem dX11_laysDreads_17 : decode cX11_laysDreads 17 = .ok ((.aload_n 0), 1) := by decide +kernel
theorem dX11_laysDreads_18 : decode cX11_laysDreads 18 = .ok ((.iload_n 1), 1) := by decide +kernel
theorem dX11_laysDreads_19 : decode cX11_laysDreads 19 = .ok ((.invokevirtual 408), 3) := by decide +kernel
theorem dX11_laysDreads_22 : decode cX11_laysDreads 22 = .ok (.lastore, 1) := by decide +kernel
theorem dX11_laysDreads_23 : decode cX11_laysDreads 23 = .ok ((.iinc 1 1), 3) := by decide +kernel
theorem dX11_laysDreads_26 : decode cX11_laysDreads 26 = .ok ((.goto (-24)), 3) := by decide +kernel
theorem dX11_laysDreads_29 : decode cX11_laysDreads 29 = .ok (.return_, 1) := by decide +kernel
def p_X11_laysDreads_2     (post : vSt → Prop) : Nat → vSt → Int32 → Prop
  | 0 => fun _ _ => False
  | fu2 + 1 => fun S x1 => (vp_in 0 1900 ∧ (((S.1 148 (Int32.toNatClampNeg 0)) ≤ x1 → post S) ∧ (¬ (S.1 148 (Int32.toNatClampNeg 0)) ≤ x1 → p_X11_dreadOfAll  S x1 (fun r10 S9 => (vp_in x1 8 ∧ ∀ S11, S11 = v_sl S9 153 (Int32.toNatClampNeg x1) r10 → ∀ y12 : Int32, y12 = x1 + 1 → (p_X11_laysDreads_2  post fu2) S11 y12)))))
theorem e_X11_laysDreads_2     (post : vSt → Prop) (fu2 : Nat) (S : vSt) (x1 : Int32) : p_X11_laysDreads_2  post (fu2 + 1) S x1 = ((vp_in 0 1900 ∧ (((S.1 148 (Int32.toNatClampNeg 0)) ≤ x1 → post S) ∧ (¬ (S.1 148 (Int32.toNatClampNeg 0)) ≤ x1 → p_X11_dreadOfAll  S x1 (fun r10 S9 => (vp_in x1 8 ∧ ∀ S11, S11 = v_sl S9 153 (Int32.toNatClampNeg x1) r10 → ∀ y12 : Int32, y12 = x1 + 1 → (p_X11_laysDreads_2  post fu2) S11 y12)))))) := rfl
def p_X11_laysDreads   (S : vSt)  (post : vSt → Prop) : Prop := ∃ fu2, p_X11_laysDreads_2  post fu2 S 0
set_option maxHeartbeats 4000000 in
set_option maxRecDepth 100000 in
theorem q_X11_laysDreads_2 {X : vX} {G : vG}  {post : vSt → Prop} (C : v_Cx X G cX11_laysDreads RX11 2 (v_rm 7 202)) (D : v_Rx X G (v_Qv G post) none)     : ∀ (fu : Nat) (S : vSt) (x1 : Int32), p_X11_laysDreads_2  post fu S x1 → VJ X G S 2 [(0, .ref (G.1 143)), (1, .int x1)] [] := by
  intro fu
  induction fu with
  | zero => intro S x1 h; exact absurd h id
  | succ fu ih =>
    intro S x1 h
    have hK2 := ih
    rw [e_X11_laysDreads_2] at h
    refine V_iload_n C 1 dX11_laysDreads_2 rfl rfl ?_
    refine V_aload_n C 0 dX11_laysDreads_3 rfl rfl ?_
    refine V_ga C 143 (by decide) (by decide) F_11_20 k_RX11_35 dX11_laysDreads_4 ?_
    refine V_iconst (v := 0) C dX11_laysDreads_7 (by decide) ?_
    obtain ⟨hi, h⟩ := h
    refine V_iald C 148 1900 (by decide) (by decide) hi dX11_laysDreads_8 ?_
    refine V_icmp_ge (tgt := 29) C dX11_laysDreads_9 (by decide) (fun c => ?_) (fun c => ?_)
    · have h := h.1 c
      exact V_vret C D dX11_laysDreads_29 h
    · have h := h.2 c
      refine V_aload_n C 0 dX11_laysDreads_12 rfl rfl ?_
      refine V_ga C 143 (by decide) (by decide) F_11_30 k_RX11_50 dX11_laysDreads_13 ?_
      refine V_iload_n C 1 dX11_laysDreads_16 rfl rfl ?_
      refine V_aload_n C 0 dX11_laysDreads_17 rfl rfl ?_
      refine V_iload_n C 1 dX11_laysDreads_18 rfl rfl ?_
      refine V_callVl (As := [.int x1]) (rest := [.int x1, .ref (G.1 153)]) C (c_X11_dreadOfAll (v_l X) G  _ _ h) 143 11 (by decide) (by decide) (by decide) rfl KV_X11_dreadOfAll k_RX11_408 rfl rfl rfl (Nat.le_of_ble_eq_true rfl) ⟨Nat.le_of_ble_eq_true rfl, Nat.le_of_ble_eq_true rfl⟩ dX11_laysDreads_19 (fun r10 S9 h => ?_)
      obtain ⟨hi, h⟩ := h
      refine V_last C 153 8 (by decide) (by decide) hi dX11_laysDreads_22 ?_
      refine V_topS (fun S11 eS11 => ?_)
      have h := h S11 eS11
      obtain ⟨y12, ey12⟩ : ∃ z : Int32, z = x1 + 1 := ⟨_, rfl⟩
      have h := h y12 ey12
      refine V_iinc (lv' := [(0, .ref (G.1 143)), (1, .int y12)]) C 1 [1, 0] y12 dX11_laysDreads_23 rfl (by rw [ey12]; rfl) (by decide) rfl ?_
      refine V_goto (tgt := 2) C dX11_laysDreads_26 (by decide) ?_
      exact hK2 _ _ h
set_option maxHeartbeats 4000000 in
set_option maxRecDepth 100000 in
theorem c_X11_laysDreads (l : Launch) (G : vG)    {S : vSt}  (post : vSt → Prop) (h : p_X11_laysDreads   S  post) : Met l yX11_laysDreads (v_ws yX11_laysDreads cX11_laysDreads 2 none) (v_rm 7 202) (v_Pc G [.ref (G.1 143)] S) (v_Qv G post) 0 0 (v_A G) := by
  refine v_start (by decide +kernel) (Nat.le_of_ble_eq_true rfl) (fun X hl C D => ?_)
  subst hl
  have C : v_Cx X G cX11_laysDreads RX11 2 (v_rm 7 202) := C
  show VJ X G S 0 [(0, .ref (G.1 143))] []
  refine V_iconst (v := 0) C dX11_laysDreads_0 (by decide) ?_
  refine V_istore_n (lv' := [(0, .ref (G.1 143)), (1, .int 0)]) C [1, 0] dX11_laysDreads_1 rfl (by decide) rfl ?_
  obtain ⟨fu2, h⟩ := h
  exact q_X11_laysDreads_2 C D  fu2 _ _ h
/-! HalfAccuserModel.club(I)I -/
theorem dX11_club_0 : decode cX11_club 0 = .ok ((.aload_n 0), 1) := by decide +kernel
theorem dX11_club_1 : decode cX11_club 1 = .ok ((.iconst 0), 1) := by decide +kernel
theorem dX11_club_2 : decode cX11_club 2 = .ok ((.putfield 60), 3) := by decide +kernel
theorem dX11_club_5 : decode cX11_club 5 = .ok ((.aload_n 0), 1) := by decide +kernel
theorem dX11_club_6 : decode cX11_club 6 = .ok ((.iconst 0), 1) := by decide +kernel
theorem dX11_club_7 : decode cX11_club 7 = .ok ((.putfield 63), 3) := by decide +kernel
theorem dX11_club_10 : decode cX11_club 10 = .ok ((.aload_n 0), 1) := by decide +kernel
theorem dX11_club_11 : decode cX11_club 11 = .ok ((.iload_n 1), 1) := by decide +kernel
theorem dX11_club_12 : decode cX11_club 12 = .ok ((.invokevirtual 428), 3) := by decide +kernel
theorem dX11_club_15 : decode cX11_club 15 = .ok ((.ifCond .ne 9), 3) := by decide +kernel
theorem dX11_club_18 : decode cX11_club 18 = .ok ((.aload_n 0), 1) := by decide +kernel
theorem dX11_club_19 : decode cX11_club 19 = .ok ((.iconst 5), 1) := by decide +kernel
theorem dX11_club_20 : decode cX11_club 20 = .ok ((.invokevirtual 303), 3) := by decide +kernel
theorem dX11_club_23 : decode cX11_club 23 = .ok (.ireturn, 1) := by decide +kernel
theorem dX11_club_24 : decode cX11_club 24 = .ok ((.aload_n 0), 1) := by decide +kernel
theorem dX11_club_25 : decode cX11_club 25 = .ok ((.invokevirtual 431), 3) := by decide +kernel
theorem dX11_club_28 : decode cX11_club 28 = .ok ((.iload_n 1), 1) := by decide +kernel
theorem dX11_club_29 : decode cX11_club 29 = .ok ((.istore_n 2), 1) := by decide +kernel
theorem dX11_club_30 : decode cX11_club 30 = .ok ((.iconst 1), 1) := by decide +kernel
theorem dX11_club_31 : decode cX11_club 31 = .ok ((.istore_n 3), 1) := by decide +kernel
theorem dX11_club_32 : decode cX11_club 32 = .ok ((.iload_n 3), 1) := by decide +kernel
theorem dX11_club_33 : decode cX11_club 33 = .ok ((.ifCond .eq 92), 3) := by decide +kernel
theorem dX11_club_36 : decode cX11_club 36 = .ok ((.aload_n 0), 1) := by decide +kernel
theorem dX11_club_37 : decode cX11_club 37 = .ok ((.iload_n 2), 1) := by decide +kernel
theorem dX11_club_38 : decode cX11_club 38 = .ok ((.invokevirtual 434), 3) := by decide +kernel
theorem dX11_club_41 : decode cX11_club 41 = .ok ((.lstore 4), 2) := by decide +kernel
theorem dX11_club_43 : decode cX11_club 43 = .ok ((.iconst 0), 1) := by decide +kernel
theorem dX11_club_44 : decode cX11_club 44 = .ok ((.istore 6), 2) := by decide +kernel
theorem dX11_club_46 : decode cX11_club 46 = .ok ((.iconst 0), 1) := by decide +kernel
theorem dX11_club_47 : decode cX11_club 47 = .ok ((.istore 7), 2) := by decide +kernel
theorem dX11_club_49 : decode cX11_club 49 = .ok ((.iload 7), 2) := by decide +kernel
theorem dX11_club_51 : decode cX11_club 51 = .ok ((.aload_n 0), 1) := by decide +kernel
theorem dX11_club_52 : decode cX11_club 52 = .ok ((.getfield 35), 3) := by decide +kernel
theorem dX11_club_55 : decode cX11_club 55 = .ok ((.iconst 0), 1) := by decide +kernel
theorem dX11_club_56 : decode cX11_club 56 = .ok (.iaload, 1) := by decide +kernel
theorem dX11_club_57 : decode cX11_club 57 = .ok ((.if_icmp .ge 50), 3) := by decide +kernel
theorem dX11_club_60 : decode cX11_club 60 = .ok ((.iload 6), 2) := by decide +kernel
theorem dX11_club_62 : decode cX11_club 62 = .ok ((.iload_n 2), 1) := by decide +kernel
theorem dX11_club_63 : decode cX11_club 63 = .ok ((.iload 7), 2) := by decide +kernel
theorem dX11_club_65 : decode cX11_club 65 = .ok ((.invokestatic 99), 3) := by decide +kernel
theorem dX11_club_68 : decode cX11_club 68 = .ok ((.ifCond .eq 29), 3) := by decide +kernel
theorem dX11_club_71 : decode cX11_club 71 = .ok ((.aload_n 0), 1) := by decide +kernel
theorem dX11_club_72 : decode cX11_club 72 = .ok ((.getfield 50), 3) := by decide +kernel
theorem dX11_club_75 : decode cX11_club 75 = .ok ((.iload 7), 2) := by decide +kernel
theorem dX11_club_77 : decode cX11_club 77 = .ok (.laload, 1) := by decide +kernel
theorem dX11_club_78 : decode cX11_club 78 = .ok ((.iload_n 2), 1) := by decide +kernel
theorem dX11_club_79 : decode cX11_club 79 = .ok ((.invokestatic 437), 3) := by decide +kernel
theorem dX11_club_82 : decode cX11_club 82 = .ok (.i2l, 1) := by decide +kernel
theorem dX11_club_83 : decode cX11_club 83 = .ok (.lmul, 1) := by decide +kernel
theorem dX11_club_84 : decode cX11_club 84 = .ok ((.lload 4), 2) := by decide +kernel
theorem dX11_club_86 : decode cX11_club 86 = .ok (.lcmp, 1) := by decide +kernel
theorem dX11_club_87 : decode cX11_club 87 = .ok ((.ifCond .lt 10), 3) := by decide +kernel
theorem dX11_club_90 : decode cX11_club 90 = .ok ((.iconst 1), 1) := by decide +kernel
theorem dX11_club_91 : decode cX11_club 91 = .ok ((.iload 7), 2) := by decide +kernel
theorem dX11_club_93 : decode cX11_club 93 = .ok (.ishl, 1) := by decide +kernel
theorem dX11_club_94 : decode cX11_club 94 = .ok ((.goto 4), 3) := by decide +kernel
theorem dX11_club_97 : decode cX11_club 97 = .ok ((.iconst 0), 1) := by decide +kernel
theorem dX11_club_98 : decode cX11_club 98 = .ok (.ior, 1) := by decide +kernel
theorem dX11_club_99 : decode cX11_club 99 = .ok ((.istore 6), 2) := by decide +kernel
theorem dX11_club_101 : decode cX11_club 101 = .ok ((.iinc 7 1), 3) := by decide +kernel
theorem dX11_club_104 : decode cX11_club 104 = .ok ((.goto (-55)), 3) := by decide +kernel
theorem dX11_club_107 : decode cX11_club 107 = .ok ((.iload 6), 2) := by decide +kernel
theorem dX11_club_109 : decode cX11_club 109 = .ok ((.iload_n 2), 1) := by decide +kernel
theorem dX11_club_110 : decode cX11_club 110 = .ok ((.if_icmp .eq 7), 3) := by decide +kernel
theorem dX11_club_113 : decode cX11_club 113 = .ok ((.iconst 1), 1) := by decide +kernel
theorem dX11_club_114 : decode cX11_club 114 = .ok ((.goto 4), 3) := by decide +kernel
theorem dX11_club_117 : decode cX11_club 117 = .ok ((.iconst 0), 1) := by decide +kernel
theorem dX11_club_118 : decode cX11_club 118 = .ok ((.istore_n 3), 1) := by decide +kernel
theorem dX11_club_119 : decode cX11_club 119 = .ok ((.iload 6), 2) := by decide +kernel
theorem dX11_club_121 : decode cX11_club 121 = .ok ((.istore_n 2), 1) := by decide +kernel
theorem dX11_club_122 : decode cX11_club 122 = .ok ((.goto (-90)), 3) := by decide +kernel
theorem dX11_club_125 : decode cX11_club 125 = .ok ((.iload_n 2), 1) := by decide +kernel
theorem dX11_club_126 : decode cX11_club 126 = .ok (.ireturn, 1) := by decide +kernel
def p_X11_club_118  (a1 : Int32)  (K32 : vSt → Int32 → Bool → Prop) (post : Int32 → vSt → Prop) (S : vSt) (x6 : Int32) (s0 : Bool) : Prop := K32 S x6 s0
def p_X11_club_98  (a1 : Int32)  (K32 : vSt → Int32 → Bool → Prop) (K49 : vSt → Int32 → Int64 → Int32 → Int32 → Prop) (post : Int32 → vSt → Prop) (S : vSt) (x2 : Int32) (x4 : Int64) (x7 : Int32) (s0 : Int32) (s1 : Int32) : Prop := ∀ y33 : Int32, y33 = (s1 ||| s0) → ∀ y34 : Int32, y34 = x7 + 1 → K49 S x2 x4 y33 y34
def p_X11_club_97  (a1 : Int32)  (K32 : vSt → Int32 → Bool → Prop) (K49 : vSt → Int32 → Int64 → Int32 → Int32 → Prop) (post : Int32 → vSt → Prop) (S : vSt) (x2 : Int32) (x4 : Int64) (x7 : Int32) (s0 : Int32) : Prop := p_X11_club_98 a1 K32 K49 post S x2 x4 x7 0 s0
def p_X11_club_49  (a1 : Int32)  (K32 : vSt → Int32 → Bool → Prop) (post : Int32 → vSt → Prop) : Nat → vSt → Int32 → Int64 → Int32 → Int32 → Prop
  | 0 => fun _ _ _ _ _ => False
  | fu49 + 1 => fun S x2 x4 x6 x7 => (vp_in 0 1900 ∧ (((S.1 148 (Int32.toNatClampNeg 0)) ≤ x7 → ((x6 = x2 → p_X11_club_118 a1 K32 post S x6 false) ∧ (¬ x6 = x2 → p_X11_club_118 a1 K32 post S x6 true))) ∧ (¬ (S.1 148 (Int32.toNatClampNeg 0)) ≤ x7 → p_X11_has  S x2 x7 (fun r32 S31 => ((r32 = false → p_X11_club_97 a1 K32 (p_X11_club_49 a1 K32 post fu49) post S31 x2 x4 x7 x6) ∧ (r32 = true → (vp_in x7 8 ∧ p_X11_sizeOf  S31 x2 (fun r34 S33 => ((((S31.2 153 (Int32.toNatClampNeg x7)) * (Int32.toInt64 r34)) < x4 → p_X11_club_97 a1 K32 (p_X11_club_49 a1 K32 post fu49) post S33 x2 x4 x7 x6) ∧ (¬ ((S31.2 153 (Int32.toNatClampNeg x7)) * (Int32.toInt64 r34)) < x4 → p_X11_club_98 a1 K32 (p_X11_club_49 a1 K32 post fu49) post S33 x2 x4 x7 (1 <<< (x7 &&& 31)) x6))))))))))
theorem e_X11_club_49  (a1 : Int32)  (K32 : vSt → Int32 → Bool → Prop) (post : Int32 → vSt → Prop) (fu49 : Nat) (S : vSt) (x2 : Int32) (x4 : Int64) (x6 : Int32) (x7 : Int32) : p_X11_club_49 a1 K32 post (fu49 + 1) S x2 x4 x6 x7 = ((vp_in 0 1900 ∧ (((S.1 148 (Int32.toNatClampNeg 0)) ≤ x7 → ((x6 = x2 → p_X11_club_118 a1 K32 post S x6 false) ∧ (¬ x6 = x2 → p_X11_club_118 a1 K32 post S x6 true))) ∧ (¬ (S.1 148 (Int32.toNatClampNeg 0)) ≤ x7 → p_X11_has  S x2 x7 (fun r32 S31 => ((r32 = false → p_X11_club_97 a1 K32 (p_X11_club_49 a1 K32 post fu49) post S31 x2 x4 x7 x6) ∧ (r32 = true → (vp_in x7 8 ∧ p_X11_sizeOf  S31 x2 (fun r34 S33 => ((((S31.2 153 (Int32.toNatClampNeg x7)) * (Int32.toInt64 r34)) < x4 → p_X11_club_97 a1 K32 (p_X11_club_49 a1 K32 post fu49) post S33 x2 x4 x7 x6) ∧ (¬ ((S31.2 153 (Int32.toNatClampNeg x7)) * (Int32.toInt64 r34)) < x4 → p_X11_club_98 a1 K32 (p_X11_club_49 a1 K32 post fu49) post S33 x2 x4 x7 (1 <<< (x7 &&& 31)) x6))))))))))) := rfl
def p_X11_club_32  (a1 : Int32)   (post : Int32 → vSt → Prop) : Nat → vSt → Int32 → Bool → Prop
  | 0 => fun _ _ _ => False
  | fu32 + 1 => fun S x2 x3 => ((x3 = false → post x2 S) ∧ (x3 = true → p_X11_dreadsOf  S x2 (fun r30 S29 => ∃ fu49, p_X11_club_49 a1 (p_X11_club_32 a1 post fu32) post fu49 S29 x2 r30 0 0)))
theorem e_X11_club_32  (a1 : Int32)   (post : Int32 → vSt → Prop) (fu32 : Nat) (S : vSt) (x2 : Int32) (x3 : Bool) : p_X11_club_32 a1 post (fu32 + 1) S x2 x3 = (((x3 = false → post x2 S) ∧ (x3 = true → p_X11_dreadsOf  S x2 (fun r30 S29 => ∃ fu49, p_X11_club_49 a1 (p_X11_club_32 a1 post fu32) post fu49 S29 x2 r30 0 0)))) := rfl
def p_X11_club   (S : vSt) (a1 : Int32) (post : Int32 → vSt → Prop) : Prop := ∀ S24, S24 = v_si S 143 1 0 → ∀ S25, S25 = v_si S24 143 0 0 → p_X11_arePeople  S25 a1 (fun r27 S26 => ((r27 = true → p_X11_laysDreads  S26  (fun S28 => ∃ fu32, p_X11_club_32 a1 post fu32 S28 a1 true)) ∧ (r27 = false → p_X11_refuse  S26 5 (fun r30 S29 => post r30 S29))))
set_option maxHeartbeats 4000000 in
set_option maxRecDepth 100000 in
theorem q_X11_club_118 {X : vX} {G : vG}  {post : Int32 → vSt → Prop} (C : v_Cx X G cX11_club RX11 8 (v_rm 8 223)) (D : v_Rx X G (v_Qi G post) (some .int))  {a1 : Int32}  {K32 : vSt → Int32 → Bool → Prop} (hK32 : ∀ S x2 x3, K32 S x2 x3 → VJ X G S 32 [(0, .ref (G.1 143)), (2, .int x2), (3, .int (v_b x3))] []) : ∀ (S : vSt) (x6 : Int32) (s0 : Bool), p_X11_club_118 a1 K32 post S x6 s0 → VJ X G S 118 [(0, .ref (G.1 143)), (6, .int x6)] [.int (v_b s0)] := by
  intro S x6 s0 h
  refine V_istore_n (lv' := [(0, .ref (G.1 143)), (3, .int (v_b s0)), (6, .int x6)]) C [1, 0, 2] dX11_club_118 rfl (by decide) rfl ?_
  refine V_iload C 2 dX11_club_119 rfl ?_
  refine V_istore_n (lv' := [(0, .ref (G.1 143)), (2, .int x6), (3, .int (v_b s0)), (6, .int x6)]) C [1, 0, 2, 3] dX11_club_121 rfl (by decide) rfl ?_
  refine V_goto (tgt := 32) C dX11_club_122 (by decide) ?_
  refine V_loc (lv' := [(0, .ref (G.1 143)), (2, .int x6), (3, .int (v_b s0))]) [0, 1, 2] rfl ?_
  exact hK32 _ _ _ h
set_option maxHeartbeats 4000000 in
set_option maxRecDepth 100000 in
theorem q_X11_club_98 {X : vX} {G : vG}  {post : Int32 → vSt → Prop} (C : v_Cx X G cX11_club RX11 8 (v_rm 8 223)) (D : v_Rx X G (v_Qi G post) (some .int))  {a1 : Int32}  {K32 : vSt → Int32 → Bool → Prop} (hK32 : ∀ S x2 x3, K32 S x2 x3 → VJ X G S 32 [(0, .ref (G.1 143)), (2, .int x2), (3, .int (v_b x3))] []) {K49 : vSt → Int32 → Int64 → Int32 → Int32 → Prop} (hK49 : ∀ S x2 x4 x6 x7, K49 S x2 x4 x6 x7 → VJ X G S 49 [(0, .ref (G.1 143)), (2, .int x2), (4, .long x4), (6, .int x6), (7, .int x7)] []) : ∀ (S : vSt) (x2 : Int32) (x4 : Int64) (x7 : Int32) (s0 : Int32) (s1 : Int32), p_X11_club_98 a1 K32 K49 post S x2 x4 x7 s0 s1 → VJ X G S 98 [(0, .ref (G.1 143)), (2, .int x2), (4, .long x4), (7, .int x7)] [.int s0, .int s1] := by
  intro S x2 x4 x7 s0 s1 h
  refine V_ior C dX11_club_98 ?_
  refine V_topi (fun y33 ey33 => ?_)
  have h := h y33 ey33
  refine V_istore (lv' := [(0, .ref (G.1 143)), (2, .int x2), (4, .long x4), (6, .int y33), (7, .int x7)]) C [1, 2, 3, 0, 4] dX11_club_99 (by decide) rfl ?_
  obtain ⟨y34, ey34⟩ : ∃ z : Int32, z = x7 + 1 := ⟨_, rfl⟩
  have h := h y34 ey34
  refine V_iinc (lv' := [(0, .ref (G.1 143)), (2, .int x2), (4, .long x4), (6, .int y33), (7, .int y34)]) C 4 [1, 2, 3, 4, 0] y34 dX11_club_101 rfl (by rw [ey34]; rfl) (by decide) rfl ?_
  refine V_goto (tgt := 49) C dX11_club_104 (by decide) ?_
  exact hK49 _ _ _ _ _ h
set_option maxHeartbeats 4000000 in
set_option maxRecDepth 100000 in
theorem q_X11_club_97 {X : vX} {G : vG}  {post : Int32 → vSt → Prop} (C : v_Cx X G cX11_club RX11 8 (v_rm 8 223)) (D : v_Rx X G (v_Qi G post) (some .int))  {a1 : Int32}  {K32 : vSt → Int32 → Bool → Prop} (hK32 : ∀ S x2 x3, K32 S x2 x3 → VJ X G S 32 [(0, .ref (G.1 143)), (2, .int x2), (3, .int (v_b x3))] []) {K49 : vSt → Int32 → Int64 → Int32 → Int32 → Prop} (hK49 : ∀ S x2 x4 x6 x7, K49 S x2 x4 x6 x7 → VJ X G S 49 [(0, .ref (G.1 143)), (2, .int x2), (4, .long x4), (6, .int x6), (7, .int x7)] []) : ∀ (S : vSt) (x2 : Int32) (x4 : Int64) (x7 : Int32) (s0 : Int32), p_X11_club_97 a1 K32 K49 post S x2 x4 x7 s0 → VJ X G S 97 [(0, .ref (G.1 143)), (2, .int x2), (4, .long x4), (7, .int x7)] [.int s0] := by
  intro S x2 x4 x7 s0 h
  refine V_iconst (v := 0) C dX11_club_97 (by decide) ?_
  exact q_X11_club_98 C D hK32 hK49 _ _ _ _ _ _ h
set_option maxHeartbeats 4000000 in
set_option maxRecDepth 100000 in
theorem q_X11_club_49 {X : vX} {G : vG}  {post : Int32 → vSt → Prop} (C : v_Cx X G cX11_club RX11 8 (v_rm 8 223)) (D : v_Rx X G (v_Qi G post) (some .int))  {a1 : Int32}  {K32 : vSt → Int32 → Bool → Prop} (hK32 : ∀ S x2 x3, K32 S x2 x3 → VJ X G S 32 [(0, .ref (G.1 143)), (2, .int x2), (3, .int (v_b x3))] []) : ∀ (fu : Nat) (S : vSt) (x2 : Int32) (x4 : Int64) (x6 : Int32) (x7 : Int32), p_X11_club_49 a1 K32 post fu S x2 x4 x6 x7 → VJ X G S 49 [(0, .ref (G.1 143)), (2, .int x2), (4, .long x4), (6, .int x6), (7, .int x7)] [] := by
  intro fu
  induction fu with
  | zero => intro S x2 x4 x6 x7 h; exact absurd h id
  | succ fu ih =>
    intro S x2 x4 x6 x7 h
    have hK49 := ih
    rw [e_X11_club_49] at h
    refine V_iload C 4 dX11_club_49 rfl ?_
    refine V_aload_n C 0 dX11_club_51 rfl rfl ?_
    refine V_ga C 143 (by decide) (by decide) F_11_20 k_RX11_35 dX11_club_52 ?_
    refine V_iconst (v := 0) C dX11_club_55 (by decide) ?_
    obtain ⟨hi, h⟩ := h
    refine V_iald C 148 1900 (by decide) (by decide) hi dX11_club_56 ?_
    refine V_icmp_ge (tgt := 107) C dX11_club_57 (by decide) (fun c => ?_) (fun c => ?_)
    · have h := h.1 c
      refine V_iload C 3 dX11_club_107 rfl ?_
      refine V_iload_n C 1 dX11_club_109 rfl rfl ?_
      refine V_icmp_eq (tgt := 117) C dX11_club_110 (by decide) (fun c => ?_) (fun c => ?_)
      · have h := h.1 c
        refine V_iconst (v := 0) C dX11_club_117 (by decide) ?_
        refine V_loc (lv' := [(0, .ref (G.1 143)), (6, .int x6)]) [0, 3] rfl ?_
        exact q_X11_club_118 C D hK32 _ _ _ h
      · have h := h.2 c
        refine V_iconst (v := 1) C dX11_club_113 (by decide) ?_
        refine V_goto (tgt := 118) C dX11_club_114 (by decide) ?_
        refine V_loc (lv' := [(0, .ref (G.1 143)), (6, .int x6)]) [0, 3] rfl ?_
        exact q_X11_club_118 C D hK32 _ _ _ h
    · have h := h.2 c
      refine V_iload C 3 dX11_club_60 rfl ?_
      refine V_iload_n C 1 dX11_club_62 rfl rfl ?_
      refine V_iload C 4 dX11_club_63 rfl ?_
      refine V_callSz (As := [.int x2, .int x7]) (rest := [.int x6]) C (c_X11_has (v_l X) G  _ _ _ h) KV_X11_has k_RX11_99 rfl rfl rfl (Nat.le_of_ble_eq_true rfl) ⟨Nat.le_of_ble_eq_true rfl, Nat.le_of_ble_eq_true rfl⟩ dX11_club_65 (fun r32 S31 h => ?_)
      refine V_ifb_eq (tgt := 97) C dX11_club_68 (by decide) (fun c => ?_) (fun c => ?_)
      · have h := h.1 c
        refine V_loc (lv' := [(0, .ref (G.1 143)), (2, .int x2), (4, .long x4), (7, .int x7)]) [0, 1, 2, 4] rfl ?_
        exact q_X11_club_97 C D hK32 hK49 _ _ _ _ _ h
      · have h := h.2 c
        refine V_aload_n C 0 dX11_club_71 rfl rfl ?_
        refine V_ga C 143 (by decide) (by decide) F_11_30 k_RX11_50 dX11_club_72 ?_
        refine V_iload C 4 dX11_club_75 rfl ?_
        obtain ⟨hi, h⟩ := h
        refine V_lald C 153 8 (by decide) (by decide) hi dX11_club_77 ?_
        refine V_iload_n C 1 dX11_club_78 rfl rfl ?_
        refine V_callSi (As := [.int x2]) (rest := [.long (S31.2 153 (Int32.toNatClampNeg x7)), .int x6]) C (c_X11_sizeOf (v_l X) G  _ _ h) KV_X11_sizeOf k_RX11_437 rfl rfl rfl (Nat.le_of_ble_eq_true rfl) ⟨Nat.le_of_ble_eq_true rfl, Nat.le_of_ble_eq_true rfl⟩ dX11_club_79 (fun r34 S33 h => ?_)
        refine V_i2l C dX11_club_82 ?_
        refine V_lmul C dX11_club_83 ?_
        refine V_lload C 2 dX11_club_84 rfl ?_
        refine V_lcmp_lt (tgt := 97) C dX11_club_86 dX11_club_87 (by decide) (fun c => ?_) (fun c => ?_)
        · have h := h.1 c
          refine V_loc (lv' := [(0, .ref (G.1 143)), (2, .int x2), (4, .long x4), (7, .int x7)]) [0, 1, 2, 4] rfl ?_
          exact q_X11_club_97 C D hK32 hK49 _ _ _ _ _ h
        · have h := h.2 c
          refine V_iconst (v := 1) C dX11_club_90 (by decide) ?_
          refine V_iload C 4 dX11_club_91 rfl ?_
          refine V_ishl C dX11_club_93 ?_
          refine V_goto (tgt := 98) C dX11_club_94 (by decide) ?_
          refine V_loc (lv' := [(0, .ref (G.1 143)), (2, .int x2), (4, .long x4), (7, .int x7)]) [0, 1, 2, 4] rfl ?_
          exact q_X11_club_98 C D hK32 hK49 _ _ _ _ _ _ h
set_option maxHeartbeats 4000000 in
set_option maxRecDepth 100000 in
theorem q_X11_club_32 {X : vX} {G : vG}  {post : Int32 → vSt → Prop} (C : v_Cx X G cX11_club RX11 8 (v_rm 8 223)) (D : v_Rx X G (v_Qi G post) (some .int))  {a1 : Int32}   : ∀ (fu : Nat) (S : vSt) (x2 : Int32) (x3 : Bool), p_X11_club_32 a1 post fu S x2 x3 → VJ X G S 32 [(0, .ref (G.1 143)), (2, .int x2), (3, .int (v_b x3))] [] := by
  intro fu
  induction fu with
  | zero => intro S x2 x3 h; exact absurd h id
  | succ fu ih =>
    intro S x2 x3 h
    have hK32 := ih
    rw [e_X11_club_32] at h
    refine V_iload_n C 2 dX11_club_32 rfl rfl ?_
    refine V_ifb_eq (tgt := 125) C dX11_club_33 (by decide) (fun c => ?_) (fun c => ?_)
    · have h := h.1 c
      refine V_iload_n C 1 dX11_club_125 rfl rfl ?_
      exact V_iret C D dX11_club_126 h
    · have h := h.2 c
      refine V_aload_n C 0 dX11_club_36 rfl rfl ?_
      refine V_iload_n C 1 dX11_club_37 rfl rfl ?_
      refine V_callVl (As := [.int x2]) (rest := []) C (c_X11_dreadsOf (v_l X) G  _ _ h) 143 11 (by decide) (by decide) (by decide) rfl KV_X11_dreadsOf k_RX11_434 rfl rfl rfl (Nat.le_of_ble_eq_true rfl) ⟨Nat.le_of_ble_eq_true rfl, Nat.le_of_ble_eq_true rfl⟩ dX11_club_38 (fun r30 S29 h => ?_)
      refine V_lstore (lv' := [(0, .ref (G.1 143)), (2, .int x2), (3, .int (v_b x3)), (4, .long r30)]) C [1, 2, 3, 0] dX11_club_41 (by decide) rfl ?_
      refine V_iconst (v := 0) C dX11_club_43 (by decide) ?_
      refine V_istore (lv' := [(0, .ref (G.1 143)), (2, .int x2), (3, .int (v_b x3)), (4, .long r30), (6, .int 0)]) C [1, 2, 3, 4, 0] dX11_club_44 (by decide) rfl ?_
      refine V_iconst (v := 0) C dX11_club_46 (by decide) ?_
      refine V_istore (lv' := [(0, .ref (G.1 143)), (2, .int x2), (3, .int (v_b x3)), (4, .long r30), (6, .int 0), (7, .int 0)]) C [1, 2, 3, 4, 5, 0] dX11_club_47 (by decide) rfl ?_
      refine V_loc (lv' := [(0, .ref (G.1 143)), (2, .int x2), (4, .long r30), (6, .int 0), (7, .int 0)]) [0, 1, 3, 4, 5] rfl ?_
      obtain ⟨fu49, h⟩ := h
      exact q_X11_club_49 C D hK32 fu49 _ _ _ _ _ h
set_option maxHeartbeats 4000000 in
set_option maxRecDepth 100000 in
theorem c_X11_club (l : Launch) (G : vG)    {S : vSt} (a1 : Int32) (post : Int32 → vSt → Prop) (h : p_X11_club   S a1 post) : Met l yX11_club (v_ws yX11_club cX11_club 8 (some .int)) (v_rm 8 223) (v_Pc G [.ref (G.1 143), .int a1] S) (v_Qi G post) 0 0 (v_A G) := by
  refine v_start (by decide +kernel) (Nat.le_of_ble_eq_true rfl) (fun X hl C D => ?_)
  subst hl
  have C : v_Cx X G cX11_club RX11 8 (v_rm 8 223) := C
  show VJ X G S 0 [(0, .ref (G.1 143)), (1, .int a1)] []
  refine V_aload_n C 0 dX11_club_0 rfl rfl ?_
  refine V_iconst (v := 0) C dX11_club_1 (by decide) ?_
  refine V_pi C 143 (by decide) (by decide) P_11_1 k_RX11_60 dX11_club_2 ?_
  refine V_topS (fun S24 eS24 => ?_)
  have h := h S24 eS24
  refine V_aload_n C 0 dX11_club_5 rfl rfl ?_
  refine V_iconst (v := 0) C dX11_club_6 (by decide) ?_
  refine V_pi C 143 (by decide) (by decide) P_11_0 k_RX11_63 dX11_club_7 ?_
  refine V_topS (fun S25 eS25 => ?_)
  have h := h S25 eS25
  refine V_aload_n C 0 dX11_club_10 rfl rfl ?_
  refine V_iload_n C 1 dX11_club_11 rfl rfl ?_
  refine V_callVz (As := [.int a1]) (rest := []) C (c_X11_arePeople (v_l X) G  _ _ h) 143 11 (by decide) (by decide) (by decide) rfl KV_X11_arePeople k_RX11_428 rfl rfl rfl (Nat.le_of_ble_eq_true rfl) ⟨Nat.le_of_ble_eq_true rfl, Nat.le_of_ble_eq_true rfl⟩ dX11_club_12 (fun r27 S26 h => ?_)
  refine V_ifb_ne (tgt := 24) C dX11_club_15 (by decide) (fun c => ?_) (fun c => ?_)
  · have h := h.1 c
    refine V_aload_n C 0 dX11_club_24 rfl rfl ?_
    refine V_callVv (As := []) (rest := []) C (c_X11_laysDreads (v_l X) G  _ h) 143 11 (by decide) (by decide) (by decide) rfl KV_X11_laysDreads k_RX11_431 rfl rfl rfl (Nat.le_of_ble_eq_true rfl) ⟨Nat.le_of_ble_eq_true rfl, Nat.le_of_ble_eq_true rfl⟩ dX11_club_25 (fun S28 h => ?_)
    refine V_iload_n C 1 dX11_club_28 rfl rfl ?_
    refine V_istore_n (lv' := [(0, .ref (G.1 143)), (1, .int a1), (2, .int a1)]) C [1, 2, 0] dX11_club_29 rfl (by decide) rfl ?_
    refine V_iconst (v := 1) C dX11_club_30 (by decide) ?_
    refine V_istore_n (lv' := [(0, .ref (G.1 143)), (1, .int a1), (2, .int a1), (3, .int 1)]) C [1, 2, 3, 0] dX11_club_31 rfl (by decide) rfl ?_
    refine V_loc (lv' := [(0, .ref (G.1 143)), (2, .int a1), (3, .int 1)]) [0, 2, 3] rfl ?_
    obtain ⟨fu32, h⟩ := h
    exact q_X11_club_32 C D  fu32 _ _ _ h
  · have h := h.2 c
    refine V_aload_n C 0 dX11_club_18 rfl rfl ?_
    refine V_iconst (v := 5) C dX11_club_19 (by decide) ?_
    refine V_callVi (As := [.int 5]) (rest := []) C (c_X11_refuse (v_l X) G  _ _ h) 143 11 (by decide) (by decide) (by decide) rfl KV_X11_refuse k_RX11_303 rfl rfl rfl (Nat.le_of_ble_eq_true rfl) ⟨Nat.le_of_ble_eq_true rfl, Nat.le_of_ble_eq_true rfl⟩ dX11_club_20 (fun r30 S29 h => ?_)
    exact V_iret C D dX11_club_23 h
/-! HalfAccuserModel.clubPart(I)Z -/
theorem dX11_clubPart_0 : decode cX11_clubPart 0 = .ok ((.aload_n 0), 1) := by decide +kernel
theorem dX11_clubPart_1 : decode cX11_clubPart 1 = .ok ((.iconst 0), 1) := by decide +kernel
theorem dX11_clubPart_2 : decode cX11_clubPart 2 = .ok ((.putfield 60), 3) := by decide +kernel
theorem dX11_clubPart_5 : decode cX11_clubPart 5 = .ok ((.aload_n 0), 1) := by decide +kernel
theorem dX11_clubPart_6 : decode cX11_clubPart 6 = .ok ((.iconst 0), 1) := by decide +kernel
theorem dX11_clubPart_7 : decode cX11_clubPart 7 = .ok ((.putfield 63), 3) := by decide +kernel
theorem dX11_clubPart_10 : decode cX11_clubPart 10 = .ok ((.aload_n 0), 1) := by decide +kernel
theorem dX11_clubPart_11 : decode cX11_clubPart 11 = .ok ((.iload_n 1), 1) := by decide +kernel
theorem dX11_clubPart_12 : decode cX11_clubPart 12 = .ok ((.invokevirtual 428), 3) := by decide +kernel
theorem dX11_clubPart_15 : decode cX11_clubPart 15 = .ok ((.ifCond .eq 7), 3) := by decide +kernel
theorem dX11_clubPart_18 : decode cX11_clubPart 18 = .ok ((.iload_n 1), 1) := by decide +kernel
theorem dX11_clubPart_19 : decode cX11_clubPart 19 = .ok ((.ifCond .ne 9), 3) := by decide +kernel
theorem dX11_clubPart_22 : decode cX11_clubPart 22 = .ok ((.aload_n 0), 1) := by decide +kernel
theorem dX11_clubPart_23 : decode cX11_clubPart 23 = .ok ((.iconst 5), 1) := by decide +kernel
theorem dX11_clubPart_24 : decode cX11_clubPart 24 = .ok ((.invokevirtual 75), 3) := by decide +kernel
theorem dX11_clubPart_27 : decode cX11_clubPart 27 = .ok (.ireturn, 1) := by decide +kernel
theorem dX11_clubPart_28 : decode cX11_clubPart 28 = .ok ((.aload_n 0), 1) := by decide +kernel
theorem dX11_clubPart_29 : decode cX11_clubPart 29 = .ok ((.invokevirtual 431), 3) := by decide +kernel
theorem dX11_clubPart_32 : decode cX11_clubPart 32 = .ok ((.aload_n 0), 1) := by decide +kernel
theorem dX11_clubPart_33 : decode cX11_clubPart 33 = .ok ((.aload_n 0), 1) := by decide +kernel
theorem dX11_clubPart_34 : decode cX11_clubPart 34 = .ok ((.iload_n 1), 1) := by decide +kernel
theorem dX11_clubPart_35 : decode cX11_clubPart 35 = .ok ((.invokevirtual 434), 3) := by decide +kernel
theorem dX11_clubPart_38 : decode cX11_clubPart 38 = .ok ((.aload_n 0), 1) := by decide +kernel
theorem dX11_clubPart_39 : decode cX11_clubPart 39 = .ok ((.invokevirtual 384), 3) := by decide +kernel
theorem dX11_clubPart_42 : decode cX11_clubPart 42 = .ok ((.iload_n 1), 1) := by decide +kernel
theorem dX11_clubPart_43 : decode cX11_clubPart 43 = .ok ((.invokestatic 437), 3) := by decide +kernel
theorem dX11_clubPart_46 : decode cX11_clubPart 46 = .ok (.i2l, 1) := by decide +kernel
theorem dX11_clubPart_47 : decode cX11_clubPart 47 = .ok (.lmul, 1) := by decide +kernel
theorem dX11_clubPart_48 : decode cX11_clubPart 48 = .ok ((.invokevirtual 388), 3) := by decide +kernel
theorem dX11_clubPart_51 : decode cX11_clubPart 51 = .ok (.ireturn, 1) := by decide +kernel
def p_X11_clubPart_22  (a1 : Int32)   (post : Bool → vSt → Prop) (S : vSt)  : Prop := p_X11_no  S 5 (fun r21 S20 => post r21 S20)
def p_X11_clubPart   (S : vSt) (a1 : Int32) (post : Bool → vSt → Prop) : Prop := ∀ S16, S16 = v_si S 143 1 0 → ∀ S17, S17 = v_si S16 143 0 0 → p_X11_arePeople  S17 a1 (fun r19 S18 => ((r19 = false → p_X11_clubPart_22 a1 post S18 ) ∧ (r19 = true → ((¬ a1 = 0 → p_X11_laysDreads  S18  (fun S20 => p_X11_dreadsOf  S20 a1 (fun r22 S21 => p_X11_allVotes  S21  (fun r24 S23 => p_X11_sizeOf  S23 a1 (fun r26 S25 => p_X11_fraction  S25 r22 (r24 * (Int32.toInt64 r26)) (fun r28 S27 => post r28 S27)))))) ∧ (a1 = 0 → p_X11_clubPart_22 a1 post S18 )))))
set_option maxHeartbeats 4000000 in
set_option maxRecDepth 100000 in
theorem q_X11_clubPart_22 {X : vX} {G : vG}  {post : Bool → vSt → Prop} (C : v_Cx X G cX11_clubPart RX11 2 (v_rm 8 223)) (D : v_Rx X G (v_Qz G post) (some .boolean))  {a1 : Int32}   : ∀ (S : vSt), p_X11_clubPart_22 a1 post S  → VJ X G S 22 [(0, .ref (G.1 143))] [] := by
  intro S  h
  refine V_aload_n C 0 dX11_clubPart_22 rfl rfl ?_
  refine V_iconst (v := 5) C dX11_clubPart_23 (by decide) ?_
  refine V_callVz (As := [.int 5]) (rest := []) C (c_X11_no (v_l X) G  _ _ h) 143 11 (by decide) (by decide) (by decide) rfl KV_X11_no k_RX11_75 rfl rfl rfl (Nat.le_of_ble_eq_true rfl) ⟨Nat.le_of_ble_eq_true rfl, Nat.le_of_ble_eq_true rfl⟩ dX11_clubPart_24 (fun r21 S20 h => ?_)
  exact V_zret C D dX11_clubPart_27 h
set_option maxHeartbeats 4000000 in
set_option maxRecDepth 100000 in
theorem c_X11_clubPart (l : Launch) (G : vG)    {S : vSt} (a1 : Int32) (post : Bool → vSt → Prop) (h : p_X11_clubPart   S a1 post) : Met l yX11_clubPart (v_ws yX11_clubPart cX11_clubPart 2 (some .boolean)) (v_rm 8 223) (v_Pc G [.ref (G.1 143), .int a1] S) (v_Qz G post) 0 0 (v_A G) := by
  refine v_start (by decide +kernel) (Nat.le_of_ble_eq_true rfl) (fun X hl C D => ?_)
  subst hl
  have C : v_Cx X G cX11_clubPart RX11 2 (v_rm 8 223) := C
  show VJ X G S 0 [(0, .ref (G.1 143)), (1, .int a1)] []
  refine V_aload_n C 0 dX11_clubPart_0 rfl rfl ?_
  refine V_iconst (v := 0) C dX11_clubPart_1 (by decide) ?_
  refine V_pi C 143 (by decide) (by decide) P_11_1 k_RX11_60 dX11_clubPart_2 ?_
  refine V_topS (fun S16 eS16 => ?_)
  have h := h S16 eS16
  refine V_aload_n C 0 dX11_clubPart_5 rfl rfl ?_
  refine V_iconst (v := 0) C dX11_clubPart_6 (by decide) ?_
  refine V_pi C 143 (by decide) (by decide) P_11_0 k_RX11_63 dX11_clubPart_7 ?_
  refine V_topS (fun S17 eS17 => ?_)
  have h := h S17 eS17
  refine V_aload_n C 0 dX11_clubPart_10 rfl rfl ?_
  refine V_iload_n C 1 dX11_clubPart_11 rfl rfl ?_
  refine V_callVz (As := [.int a1]) (rest := []) C (c_X11_arePeople (v_l X) G  _ _ h) 143 11 (by decide) (by decide) (by decide) rfl KV_X11_arePeople k_RX11_428 rfl rfl rfl (Nat.le_of_ble_eq_true rfl) ⟨Nat.le_of_ble_eq_true rfl, Nat.le_of_ble_eq_true rfl⟩ dX11_clubPart_12 (fun r19 S18 h => ?_)
  refine V_ifb_eq (tgt := 22) C dX11_clubPart_15 (by decide) (fun c => ?_) (fun c => ?_)
  · have h := h.1 c
    refine V_loc (lv' := [(0, .ref (G.1 143))]) [0] rfl ?_
    exact q_X11_clubPart_22 C D  _ h
  · have h := h.2 c
    refine V_iload_n C 1 dX11_clubPart_18 rfl rfl ?_
    refine V_if_ne (tgt := 28) C dX11_clubPart_19 (by decide) (fun c => ?_) (fun c => ?_)
    · have h := h.1 c
      refine V_aload_n C 0 dX11_clubPart_28 rfl rfl ?_
      refine V_callVv (As := []) (rest := []) C (c_X11_laysDreads (v_l X) G  _ h) 143 11 (by decide) (by decide) (by decide) rfl KV_X11_laysDreads k_RX11_431 rfl rfl rfl (Nat.le_of_ble_eq_true rfl) ⟨Nat.le_of_ble_eq_true rfl, Nat.le_of_ble_eq_true rfl⟩ dX11_clubPart_29 (fun S20 h => ?_)
      refine V_aload_n C 0 dX11_clubPart_32 rfl rfl ?_
      refine V_aload_n C 0 dX11_clubPart_33 rfl rfl ?_
      refine V_iload_n C 1 dX11_clubPart_34 rfl rfl ?_
      refine V_callVl (As := [.int a1]) (rest := [.ref (G.1 143)]) C (c_X11_dreadsOf (v_l X) G  _ _ h) 143 11 (by decide) (by decide) (by decide) rfl KV_X11_dreadsOf k_RX11_434 rfl rfl rfl (Nat.le_of_ble_eq_true rfl) ⟨Nat.le_of_ble_eq_true rfl, Nat.le_of_ble_eq_true rfl⟩ dX11_clubPart_35 (fun r22 S21 h => ?_)
      refine V_aload_n C 0 dX11_clubPart_38 rfl rfl ?_
      refine V_callVl (As := []) (rest := [.long r22, .ref (G.1 143)]) C (c_X11_allVotes (v_l X) G  _ h) 143 11 (by decide) (by decide) (by decide) rfl KV_X11_allVotes k_RX11_384 rfl rfl rfl (Nat.le_of_ble_eq_true rfl) ⟨Nat.le_of_ble_eq_true rfl, Nat.le_of_ble_eq_true rfl⟩ dX11_clubPart_39 (fun r24 S23 h => ?_)
      refine V_iload_n C 1 dX11_clubPart_42 rfl rfl ?_
      refine V_callSi (As := [.int a1]) (rest := [.long r24, .long r22, .ref (G.1 143)]) C (c_X11_sizeOf (v_l X) G  _ _ h) KV_X11_sizeOf k_RX11_437 rfl rfl rfl (Nat.le_of_ble_eq_true rfl) ⟨Nat.le_of_ble_eq_true rfl, Nat.le_of_ble_eq_true rfl⟩ dX11_clubPart_43 (fun r26 S25 h => ?_)
      refine V_i2l C dX11_clubPart_46 ?_
      refine V_lmul C dX11_clubPart_47 ?_
      refine V_callVz (As := [.long r22, .long (r24 * (Int32.toInt64 r26))]) (rest := []) C (c_X11_fraction (v_l X) G  _ _ _ h) 143 11 (by decide) (by decide) (by decide) rfl KV_X11_fraction k_RX11_388 rfl rfl rfl (Nat.le_of_ble_eq_true rfl) ⟨Nat.le_of_ble_eq_true rfl, Nat.le_of_ble_eq_true rfl⟩ dX11_clubPart_48 (fun r28 S27 h => ?_)
      exact V_zret C D dX11_clubPart_51 h
    · have h := h.2 c
      refine V_loc (lv' := [(0, .ref (G.1 143))]) [0] rfl ?_
      exact q_X11_clubPart_22 C D  _ h
/-! HalfAccuserModel.whyNotGained(II)I -/
theorem dX11_whyNotGained_0 : decode cX11_whyNotGained 0 = .ok ((.aload_n 0), 1) := by decide +kernel
theorem dX11_whyNotGained_1 : decode cX11_whyNotGained 1 = .ok ((.iload_n 1), 1) := by decide +kernel
theorem dX11_whyNotGained_2 : decode cX11_whyNotGained 2 = .ok ((.invokevirtual 289), 3) := by decide +kernel
theorem dX11_whyNotGained_5 : decode cX11_whyNotGained 5 = .ok ((.ifCond .ne 7), 3) := by decide +kernel
theorem dX11_whyNotGained_8 : decode cX11_whyNotGained 8 = .ok ((.iconst 2), 1) := by decide +kernel
theorem dX11_whyNotGained_9 : decode cX11_whyNotGained 9 = .ok ((.goto 22), 3) := by decide +kernel
theorem dX11_whyNotGained_12 : decode cX11_whyNotGained 12 = .ok ((.iload_n 2), 1) := by decide +kernel
theorem dX11_whyNotGained_13 : decode cX11_whyNotGained 13 = .ok (.i2l, 1) := by decide +kernel
theorem dX11_whyNotGained_14 : decode cX11_whyNotGained 14 = .ok ((.ldc2_w 370), 3) := by decide +kernel
theorem dX11_whyNotGained_17 : decode cX11_whyNotGained 17 = .ok ((.ldc2_w 354), 3) := by decide +kernel
theorem dX11_whyNotGained_20 : decode cX11_whyNotGained 20 = .ok ((.invokestatic 95), 3) := by decide +kernel
theorem dX11_whyNotGained_23 : decode cX11_whyNotGained 23 = .ok ((.ifCond .eq 7), 3) := by decide +kernel
theorem dX11_whyNotGained_26 : decode cX11_whyNotGained 26 = .ok ((.iconst 0), 1) := by decide +kernel
theorem dX11_whyNotGained_27 : decode cX11_whyNotGained 27 = .ok ((.goto 4), 3) := by decide +kernel
theorem dX11_whyNotGained_30 : decode cX11_whyNotGained 30 = .ok ((.iconst 5), 1) := by decide +kernel
theorem dX11_whyNotGained_31 : decode cX11_whyNotGained 31 = .ok (.ireturn, 1) := by decide +kernel
def p_X11_whyNotGained   (S : vSt) (a1 : Int32) (a2 : Int32) (post : Int32 → vSt → Prop) : Prop := p_X11_isOne  S a1 (fun r6 S5 => ((r6 = true → p_X11_isIn  S5 (Int32.toInt64 a2) (-9999) 9999 (fun r8 S7 => ((r8 = false → post 5 S7) ∧ (r8 = true → post 0 S7)))) ∧ (r6 = false → post 2 S5)))
set_option maxHeartbeats 4000000 in
set_option maxRecDepth 100000 in
theorem c_X11_whyNotGained (l : Launch) (G : vG)    {S : vSt} (a1 : Int32) (a2 : Int32) (post : Int32 → vSt → Prop) (h : p_X11_whyNotGained   S a1 a2 post) : Met l yX11_whyNotGained (v_ws yX11_whyNotGained cX11_whyNotGained 3 (some .int)) (v_rm 2 86) (v_Pc G [.ref (G.1 143), .int a1, .int a2] S) (v_Qi G post) 0 0 (v_A G) := by
  refine v_start (by decide +kernel) (Nat.le_of_ble_eq_true rfl) (fun X hl C D => ?_)
  subst hl
  have C : v_Cx X G cX11_whyNotGained RX11 3 (v_rm 2 86) := C
  show VJ X G S 0 [(0, .ref (G.1 143)), (1, .int a1), (2, .int a2)] []
  refine V_aload_n C 0 dX11_whyNotGained_0 rfl rfl ?_
  refine V_iload_n C 1 dX11_whyNotGained_1 rfl rfl ?_
  refine V_callVz (As := [.int a1]) (rest := []) C (c_X11_isOne (v_l X) G  _ _ h) 143 11 (by decide) (by decide) (by decide) rfl KV_X11_isOne k_RX11_289 rfl rfl rfl (Nat.le_of_ble_eq_true rfl) ⟨Nat.le_of_ble_eq_true rfl, Nat.le_of_ble_eq_true rfl⟩ dX11_whyNotGained_2 (fun r6 S5 h => ?_)
  refine V_ifb_ne (tgt := 12) C dX11_whyNotGained_5 (by decide) (fun c => ?_) (fun c => ?_)
  · have h := h.1 c
    refine V_iload_n C 2 dX11_whyNotGained_12 rfl rfl ?_
    refine V_i2l C dX11_whyNotGained_13 ?_
    refine V_ldc2 (v := (-9999)) C k_RX11_370 dX11_whyNotGained_14 ?_
    refine V_ldc2 (v := 9999) C k_RX11_354 dX11_whyNotGained_17 ?_
    refine V_callSz (As := [.long (Int32.toInt64 a2), .long (-9999), .long 9999]) (rest := []) C (c_X11_isIn (v_l X) G  _ _ _ _ h) KV_X11_isIn k_RX11_95 rfl rfl rfl (Nat.le_of_ble_eq_true rfl) ⟨Nat.le_of_ble_eq_true rfl, Nat.le_of_ble_eq_true rfl⟩ dX11_whyNotGained_20 (fun r8 S7 h => ?_)
    refine V_ifb_eq (tgt := 30) C dX11_whyNotGained_23 (by decide) (fun c => ?_) (fun c => ?_)
    · have h := h.1 c
      refine V_iconst (v := 5) C dX11_whyNotGained_30 (by decide) ?_
      exact V_iret C D dX11_whyNotGained_31 h
    · have h := h.2 c
      refine V_iconst (v := 0) C dX11_whyNotGained_26 (by decide) ?_
      refine V_goto (tgt := 31) C dX11_whyNotGained_27 (by decide) ?_
      exact V_iret C D dX11_whyNotGained_31 h
  · have h := h.2 c
    refine V_iconst (v := 2) C dX11_whyNotGained_8 (by decide) ?_
    refine V_goto (tgt := 31) C dX11_whyNotGained_9 (by decide) ?_
    exact V_iret C D dX11_whyNotGained_31 h
/-! HalfAccuserModel.bound(II)I -/
theorem dX11_bound_0 : decode cX11_bound 0 = .ok ((.aload_n 0), 1) := by decide +kernel
theorem dX11_bound_1 : decode cX11_bound 1 = .ok ((.iconst 0), 1) := by decide +kernel
theorem dX11_bound_2 : decode cX11_bound 2 = .ok ((.putfield 60), 3) := by decide +kernel
theorem dX11_bound_5 : decode cX11_bound 5 = .ok ((.aload_n 0), 1) := by decide +kernel
theorem dX11_bound_6 : decode cX11_bound 6 = .ok ((.iconst 0), 1) := by decide +kernel
theorem dX11_bound_7 : decode cX11_bound 7 = .ok ((.putfield 63), 3) := by decide +kernel
theorem dX11_bound_10 : decode cX11_bound 10 = .ok ((.aload_n 0), 1) := by decide +kernel
theorem dX11_bound_11 : decode cX11_bound 11 = .ok ((.iload_n 1), 1) := by decide +kernel
theorem dX11_bound_12 : decode cX11_bound 12 = .ok ((.invokevirtual 289), 3) := by decide +kernel
theorem dX11_bound_15 : decode cX11_bound 15 = .ok ((.ifCond .ne 9), 3) := by decide +kernel
theorem dX11_bound_18 : decode cX11_bound 18 = .ok ((.aload_n 0), 1) := by decide +kernel
theorem dX11_bound_19 : decode cX11_bound 19 = .ok ((.iconst 2), 1) := by decide +kernel
theorem dX11_bound_20 : decode cX11_bound 20 = .ok ((.invokevirtual 303), 3) := by decide +kernel
theorem dX11_bound_23 : decode cX11_bound 23 = .ok (.ireturn, 1) := by decide +kernel
theorem dX11_bound_24 : decode cX11_bound 24 = .ok ((.iload_n 2), 1) := by decide +kernel
theorem dX11_bound_25 : decode cX11_bound 25 = .ok (.i2l, 1) := by decide +kernel
theorem dX11_bound_26 : decode cX11_bound 26 = .ok ((.lconst 0), 1) := by decide +kernel
theorem dX11_bound_27 : decode cX11_bound 27 = .ok ((.lconst 1), 1) := by decide +kernel
theorem dX11_bound_28 : decode cX11_bound 28 = .ok ((.invokestatic 95), 3) := by decide +kernel
theorem dX11_bound_31 : decode cX11_bound 31 = .ok ((.ifCond .ne 9), 3) := by decide +kernel
theorem dX11_bound_34 : decode cX11_bound 34 = .ok ((.aload_n 0), 1) := by decide +kernel
theorem dX11_bound_35 : decode cX11_bound 35 = .ok ((.iconst 5), 1) := by decide +kernel
theorem dX11_bound_36 : decode cX11_bound 36 = .ok ((.invokevirtual 303), 3) := by decide +kernel
theorem dX11_bound_39 : decode cX11_bound 39 = .ok (.ireturn, 1) := by decide +kernel
theorem dX11_bound_40 : decode cX11_bound 40 = .ok ((.iconst 0), 1) := by decide +kernel
theorem dX11_bound_41 : decode cX11_bound 41 = .ok ((.istore_n 3), 1) := by decide +kernel
theorem dX11_bound_42 : decode cX11_bound 42 = .ok ((.iconst 0), 1) := by decide +kernel
theorem dX11_bound_43 : decode cX11_bound 43 = .ok ((.istore 4), 2) := by decide +kernel
theorem dX11_bound_45 : decode cX11_bound 45 = .ok ((.iload 4), 2) := by decide +kernel
theorem dX11_bound_47 : decode cX11_bound 47 = .ok ((.aload_n 0), 1) := by decide +kernel
theorem dX11_bound_48 : decode cX11_bound 48 = .ok ((.getfield 35), 3) := by decide +kernel
theorem dX11_bound_51 : decode cX11_bound 51 = .ok ((.iconst 1), 1) := by decide +kernel
theorem dX11_bound_52 : decode cX11_bound 52 = .ok (.iaload, 1) := by decide +kernel
theorem dX11_bound_53 : decode cX11_bound 53 = .ok ((.if_icmp .ge 50), 3) := by decide +kernel
theorem dX11_bound_56 : decode cX11_bound 56 = .ok ((.iload_n 3), 1) := by decide +kernel
theorem dX11_bound_57 : decode cX11_bound 57 = .ok ((.aload_n 0), 1) := by decide +kernel
theorem dX11_bound_58 : decode cX11_bound 58 = .ok ((.getfield 35), 3) := by decide +kernel
theorem dX11_bound_61 : decode cX11_bound 61 = .ok ((.bipush 48), 2) := by decide +kernel
theorem dX11_bound_63 : decode cX11_bound 63 = .ok ((.iload 4), 2) := by decide +kernel
theorem dX11_bound_65 : decode cX11_bound 65 = .ok (.iadd, 1) := by decide +kernel
theorem dX11_bound_66 : decode cX11_bound 66 = .ok (.iaload, 1) := by decide +kernel
theorem dX11_bound_67 : decode cX11_bound 67 = .ok ((.iload_n 1), 1) := by decide +kernel
theorem dX11_bound_68 : decode cX11_bound 68 = .ok ((.if_icmp .ne 7), 3) := by decide +kernel
theorem dX11_bound_71 : decode cX11_bound 71 = .ok ((.iconst 0), 1) := by decide +kernel
theorem dX11_bound_72 : decode cX11_bound 72 = .ok ((.goto 23), 3) := by decide +kernel
theorem dX11_bound_75 : decode cX11_bound 75 = .ok ((.iload_n 2), 1) := by decide +kernel
theorem dX11_bound_76 : decode cX11_bound 76 = .ok ((.ifCond .ne 12), 3) := by decide +kernel
theorem dX11_bound_79 : decode cX11_bound 79 = .ok ((.aload_n 0), 1) := by decide +kernel
theorem dX11_bound_80 : decode cX11_bound 80 = .ok ((.iload 4), 2) := by decide +kernel
theorem dX11_bound_82 : decode cX11_bound 82 = .ok ((.invokevirtual 332), 3) := by decide +kernel
theorem dX11_bound_85 : decode cX11_bound 85 = .ok ((.goto 10), 3) := by decide +kernel
theorem dX11_bound_88 : decode cX11_bound 88 = .ok ((.aload_n 0), 1) := by decide +kernel
theorem dX11_bound_89 : decode cX11_bound 89 = .ok ((.getfield 35), 3) := by decide +kernel
theorem dX11_bound_92 : decode cX11_bound 92 = .ok ((.iconst 4), 1) := by decide +kernel
theorem dX11_bound_93 : decode cX11_bound 93 = .ok (.iaload, 1) := by decide +kernel
theorem dX11_bound_94 : decode cX11_bound 94 = .ok (.ineg, 1) := by decide +kernel
theorem dX11_bound_95 : decode cX11_bound 95 = .ok (.iadd, 1) := by decide +kernel
theorem dX11_bound_96 : decode cX11_bound 96 = .ok ((.istore_n 3), 1) := by decide +kernel
theorem dX11_bound_97 : decode cX11_bound 97 = .ok ((.iinc 4 1), 3) := by decide +kernel
theorem dX11_bound_100 : decode cX11_bound 100 = .ok ((.goto (-55)), 3) := by decide +kernel
theorem dX11_bound_103 : decode cX11_bound 103 = .ok ((.iload_n 3), 1) := by decide +kernel
theorem dX11_bound_104 : decode cX11_bound 104 = .ok (.ireturn, 1) := by decide +kernel
def p_X11_bound_95  (a1 : Int32) (a2 : Int32)  (K45 : vSt → Int32 → Int32 → Prop) (post : Int32 → vSt → Prop) (S : vSt) (x4 : Int32) (s0 : Int32) (s1 : Int32) : Prop := ∀ y25 : Int32, y25 = (s1 + s0) → ∀ y26 : Int32, y26 = x4 + 1 → K45 S y25 y26
def p_X11_bound_45  (a1 : Int32) (a2 : Int32)   (post : Int32 → vSt → Prop) : Nat → vSt → Int32 → Int32 → Prop
  | 0 => fun _ _ _ => False
  | fu45 + 1 => fun S x3 x4 => (vp_in 1 1900 ∧ (((S.1 148 (Int32.toNatClampNeg 1)) ≤ x4 → post x3 S) ∧ (¬ (S.1 148 (Int32.toNatClampNeg 1)) ≤ x4 → (vp_in (48 + x4) 1900 ∧ ((¬ (S.1 148 (Int32.toNatClampNeg (48 + x4))) = a1 → ((¬ a2 = 0 → (vp_in 4 1900 ∧ p_X11_bound_95 a1 a2 (p_X11_bound_45 a1 a2 post fu45) post S x4 (-(S.1 148 (Int32.toNatClampNeg 4))) x3)) ∧ (a2 = 0 → p_X11_part  S x4 (fun r26 S25 => p_X11_bound_95 a1 a2 (p_X11_bound_45 a1 a2 post fu45) post S25 x4 r26 x3)))) ∧ ((S.1 148 (Int32.toNatClampNeg (48 + x4))) = a1 → p_X11_bound_95 a1 a2 (p_X11_bound_45 a1 a2 post fu45) post S x4 0 x3))))))
theorem e_X11_bound_45  (a1 : Int32) (a2 : Int32)   (post : Int32 → vSt → Prop) (fu45 : Nat) (S : vSt) (x3 : Int32) (x4 : Int32) : p_X11_bound_45 a1 a2 post (fu45 + 1) S x3 x4 = ((vp_in 1 1900 ∧ (((S.1 148 (Int32.toNatClampNeg 1)) ≤ x4 → post x3 S) ∧ (¬ (S.1 148 (Int32.toNatClampNeg 1)) ≤ x4 → (vp_in (48 + x4) 1900 ∧ ((¬ (S.1 148 (Int32.toNatClampNeg (48 + x4))) = a1 → ((¬ a2 = 0 → (vp_in 4 1900 ∧ p_X11_bound_95 a1 a2 (p_X11_bound_45 a1 a2 post fu45) post S x4 (-(S.1 148 (Int32.toNatClampNeg 4))) x3)) ∧ (a2 = 0 → p_X11_part  S x4 (fun r26 S25 => p_X11_bound_95 a1 a2 (p_X11_bound_45 a1 a2 post fu45) post S25 x4 r26 x3)))) ∧ ((S.1 148 (Int32.toNatClampNeg (48 + x4))) = a1 → p_X11_bound_95 a1 a2 (p_X11_bound_45 a1 a2 post fu45) post S x4 0 x3))))))) := rfl
def p_X11_bound   (S : vSt) (a1 : Int32) (a2 : Int32) (post : Int32 → vSt → Prop) : Prop := ∀ S19, S19 = v_si S 143 1 0 → ∀ S20, S20 = v_si S19 143 0 0 → p_X11_isOne  S20 a1 (fun r22 S21 => ((r22 = true → p_X11_isIn  S21 (Int32.toInt64 a2) 0 1 (fun r24 S23 => ((r24 = true → ∃ fu45, p_X11_bound_45 a1 a2 post fu45 S23 0 0) ∧ (r24 = false → p_X11_refuse  S23 5 (fun r26 S25 => post r26 S25))))) ∧ (r22 = false → p_X11_refuse  S21 2 (fun r28 S27 => post r28 S27))))
set_option maxHeartbeats 4000000 in
set_option maxRecDepth 100000 in
theorem q_X11_bound_95 {X : vX} {G : vG}  {post : Int32 → vSt → Prop} (C : v_Cx X G cX11_bound RX11 5 (v_rm 2 86)) (D : v_Rx X G (v_Qi G post) (some .int))  {a1 : Int32} {a2 : Int32}  {K45 : vSt → Int32 → Int32 → Prop} (hK45 : ∀ S x3 x4, K45 S x3 x4 → VJ X G S 45 [(0, .ref (G.1 143)), (1, .int a1), (2, .int a2), (3, .int x3), (4, .int x4)] []) : ∀ (S : vSt) (x4 : Int32) (s0 : Int32) (s1 : Int32), p_X11_bound_95 a1 a2 K45 post S x4 s0 s1 → VJ X G S 95 [(0, .ref (G.1 143)), (1, .int a1), (2, .int a2), (4, .int x4)] [.int s0, .int s1] := by
  intro S x4 s0 s1 h
  refine V_iadd C dX11_bound_95 ?_
  refine V_topi (fun y25 ey25 => ?_)
  have h := h y25 ey25
  refine V_istore_n (lv' := [(0, .ref (G.1 143)), (1, .int a1), (2, .int a2), (3, .int y25), (4, .int x4)]) C [1, 2, 3, 0, 4] dX11_bound_96 rfl (by decide) rfl ?_
  obtain ⟨y26, ey26⟩ : ∃ z : Int32, z = x4 + 1 := ⟨_, rfl⟩
  have h := h y26 ey26
  refine V_iinc (lv' := [(0, .ref (G.1 143)), (1, .int a1), (2, .int a2), (3, .int y25), (4, .int y26)]) C 4 [1, 2, 3, 4, 0] y26 dX11_bound_97 rfl (by rw [ey26]; rfl) (by decide) rfl ?_
  refine V_goto (tgt := 45) C dX11_bound_100 (by decide) ?_
  exact hK45 _ _ _ h
set_option maxHeartbeats 4000000 in
set_option maxRecDepth 100000 in
theorem q_X11_bound_45 {X : vX} {G : vG}  {post : Int32 → vSt → Prop} (C : v_Cx X G cX11_bound RX11 5 (v_rm 2 86)) (D : v_Rx X G (v_Qi G post) (some .int))  {a1 : Int32} {a2 : Int32}   : ∀ (fu : Nat) (S : vSt) (x3 : Int32) (x4 : Int32), p_X11_bound_45 a1 a2 post fu S x3 x4 → VJ X G S 45 [(0, .ref (G.1 143)), (1, .int a1), (2, .int a2), (3, .int x3), (4, .int x4)] [] := by
  intro fu
  induction fu with
  | zero => intro S x3 x4 h; exact absurd h id
  | succ fu ih =>
    intro S x3 x4 h
    have hK45 := ih
    rw [e_X11_bound_45] at h
    refine V_iload C 4 dX11_bound_45 rfl ?_
    refine V_aload_n C 0 dX11_bound_47 rfl rfl ?_
    refine V_ga C 143 (by decide) (by decide) F_11_20 k_RX11_35 dX11_bound_48 ?_
    refine V_iconst (v := 1) C dX11_bound_51 (by decide) ?_
    obtain ⟨hi, h⟩ := h
    refine V_iald C 148 1900 (by decide) (by decide) hi dX11_bound_52 ?_
    refine V_icmp_ge (tgt := 103) C dX11_bound_53 (by decide) (fun c => ?_) (fun c => ?_)
    · have h := h.1 c
      refine V_iload_n C 3 dX11_bound_103 rfl rfl ?_
      exact V_iret C D dX11_bound_104 h
    · have h := h.2 c
      refine V_iload_n C 3 dX11_bound_56 rfl rfl ?_
      refine V_aload_n C 0 dX11_bound_57 rfl rfl ?_
      refine V_ga C 143 (by decide) (by decide) F_11_20 k_RX11_35 dX11_bound_58 ?_
      refine V_bipush (v := 48) C dX11_bound_61 (by decide) ?_
      refine V_iload C 4 dX11_bound_63 rfl ?_
      refine V_iadd C dX11_bound_65 ?_
      obtain ⟨hi, h⟩ := h
      refine V_iald C 148 1900 (by decide) (by decide) hi dX11_bound_66 ?_
      refine V_iload_n C 1 dX11_bound_67 rfl rfl ?_
      refine V_icmp_ne (tgt := 75) C dX11_bound_68 (by decide) (fun c => ?_) (fun c => ?_)
      · have h := h.1 c
        refine V_iload_n C 2 dX11_bound_75 rfl rfl ?_
        refine V_if_ne (tgt := 88) C dX11_bound_76 (by decide) (fun c => ?_) (fun c => ?_)
        · have h := h.1 c
          refine V_aload_n C 0 dX11_bound_88 rfl rfl ?_
          refine V_ga C 143 (by decide) (by decide) F_11_20 k_RX11_35 dX11_bound_89 ?_
          refine V_iconst (v := 4) C dX11_bound_92 (by decide) ?_
          obtain ⟨hi, h⟩ := h
          refine V_iald C 148 1900 (by decide) (by decide) hi dX11_bound_93 ?_
          refine V_ineg C dX11_bound_94 ?_
          refine V_loc (lv' := [(0, .ref (G.1 143)), (1, .int a1), (2, .int a2), (4, .int x4)]) [0, 1, 2, 4] rfl ?_
          exact q_X11_bound_95 C D hK45 _ _ _ _ h
        · have h := h.2 c
          refine V_aload_n C 0 dX11_bound_79 rfl rfl ?_
          refine V_iload C 4 dX11_bound_80 rfl ?_
          refine V_callVi (As := [.int x4]) (rest := [.int x3]) C (c_X11_part (v_l X) G  _ _ h) 143 11 (by decide) (by decide) (by decide) rfl KV_X11_part k_RX11_332 rfl rfl rfl (Nat.le_of_ble_eq_true rfl) ⟨Nat.le_of_ble_eq_true rfl, Nat.le_of_ble_eq_true rfl⟩ dX11_bound_82 (fun r26 S25 h => ?_)
          refine V_goto (tgt := 95) C dX11_bound_85 (by decide) ?_
          refine V_loc (lv' := [(0, .ref (G.1 143)), (1, .int a1), (2, .int a2), (4, .int x4)]) [0, 1, 2, 4] rfl ?_
          exact q_X11_bound_95 C D hK45 _ _ _ _ h
      · have h := h.2 c
        refine V_iconst (v := 0) C dX11_bound_71 (by decide) ?_
        refine V_goto (tgt := 95) C dX11_bound_72 (by decide) ?_
        refine V_loc (lv' := [(0, .ref (G.1 143)), (1, .int a1), (2, .int a2), (4, .int x4)]) [0, 1, 2, 4] rfl ?_
        exact q_X11_bound_95 C D hK45 _ _ _ _ h
set_option maxHeartbeats 4000000 in
set_option maxRecDepth 100000 in
theorem c_X11_bound (l : Launch) (G : vG)    {S : vSt} (a1 : Int32) (a2 : Int32) (post : Int32 → vSt → Prop) (h : p_X11_bound   S a1 a2 post) : Met l yX11_bound (v_ws yX11_bound cX11_bound 5 (some .int)) (v_rm 2 86) (v_Pc G [.ref (G.1 143), .int a1, .int a2] S) (v_Qi G post) 0 0 (v_A G) := by
  refine v_start (by decide +kernel) (Nat.le_of_ble_eq_true rfl) (fun X hl C D => ?_)
  subst hl
  have C : v_Cx X G cX11_bound RX11 5 (v_rm 2 86) := C
  show VJ X G S 0 [(0, .ref (G.1 143)), (1, .int a1), (2, .int a2)] []
  refine V_aload_n C 0 dX11_bound_0 rfl rfl ?_
  refine V_iconst (v := 0) C dX11_bound_1 (by decide) ?_
  refine V_pi C 143 (by decide) (by decide) P_11_1 k_RX11_60 dX11_bound_2 ?_
  refine V_topS (fun S19 eS19 => ?_)
  have h := h S19 eS19
  refine V_aload_n C 0 dX11_bound_5 rfl rfl ?_
  refine V_iconst (v := 0) C dX11_bound_6 (by decide) ?_
  refine V_pi C 143 (by decide) (by decide) P_11_0 k_RX11_63 dX11_bound_7 ?_
  refine V_topS (fun S20 eS20 => ?_)
  have h := h S20 eS20
  refine V_aload_n C 0 dX11_bound_10 rfl rfl ?_
  refine V_iload_n C 1 dX11_bound_11 rfl rfl ?_
  refine V_callVz (As := [.int a1]) (rest := []) C (c_X11_isOne (v_l X) G  _ _ h) 143 11 (by decide) (by decide) (by decide) rfl KV_X11_isOne k_RX11_289 rfl rfl rfl (Nat.le_of_ble_eq_true rfl) ⟨Nat.le_of_ble_eq_true rfl, Nat.le_of_ble_eq_true rfl⟩ dX11_bound_12 (fun r22 S21 h => ?_)
  refine V_ifb_ne (tgt := 24) C dX11_bound_15 (by decide) (fun c => ?_) (fun c => ?_)
  · have h := h.1 c
    refine V_iload_n C 2 dX11_bound_24 rfl rfl ?_
    refine V_i2l C dX11_bound_25 ?_
    refine V_lconst (v := 0) C dX11_bound_26 (by decide) ?_
    refine V_lconst (v := 1) C dX11_bound_27 (by decide) ?_
    refine V_callSz (As := [.long (Int32.toInt64 a2), .long 0, .long 1]) (rest := []) C (c_X11_isIn (v_l X) G  _ _ _ _ h) KV_X11_isIn k_RX11_95 rfl rfl rfl (Nat.le_of_ble_eq_true rfl) ⟨Nat.le_of_ble_eq_true rfl, Nat.le_of_ble_eq_true rfl⟩ dX11_bound_28 (fun r24 S23 h => ?_)
    refine V_ifb_ne (tgt := 40) C dX11_bound_31 (by decide) (fun c => ?_) (fun c => ?_)
    · have h := h.1 c
      refine V_iconst (v := 0) C dX11_bound_40 (by decide) ?_
      refine V_istore_n (lv' := [(0, .ref (G.1 143)), (1, .int a1), (2, .int a2), (3, .int 0)]) C [1, 2, 3, 0] dX11_bound_41 rfl (by decide) rfl ?_
      refine V_iconst (v := 0) C dX11_bound_42 (by decide) ?_
      refine V_istore (lv' := [(0, .ref (G.1 143)), (1, .int a1), (2, .int a2), (3, .int 0), (4, .int 0)]) C [1, 2, 3, 4, 0] dX11_bound_43 (by decide) rfl ?_
      obtain ⟨fu45, h⟩ := h
      exact q_X11_bound_45 C D  fu45 _ _ _ h
    · have h := h.2 c
      refine V_aload_n C 0 dX11_bound_34 rfl rfl ?_
      refine V_iconst (v := 5) C dX11_bound_35 (by decide) ?_
      refine V_callVi (As := [.int 5]) (rest := []) C (c_X11_refuse (v_l X) G  _ _ h) 143 11 (by decide) (by decide) (by decide) rfl KV_X11_refuse k_RX11_303 rfl rfl rfl (Nat.le_of_ble_eq_true rfl) ⟨Nat.le_of_ble_eq_true rfl, Nat.le_of_ble_eq_true rfl⟩ dX11_bound_36 (fun r26 S25 h => ?_)
      exact V_iret C D dX11_bound_39 h
  · have h := h.2 c
    refine V_aload_n C 0 dX11_bound_18 rfl rfl ?_
    refine V_iconst (v := 2) C dX11_bound_19 (by decide) ?_
    refine V_callVi (As := [.int 2]) (rest := []) C (c_X11_refuse (v_l X) G  _ _ h) 143 11 (by decide) (by decide) (by decide) rfl KV_X11_refuse k_RX11_303 rfl rfl rfl (Nat.le_of_ble_eq_true rfl) ⟨Nat.le_of_ble_eq_true rfl, Nat.le_of_ble_eq_true rfl⟩ dX11_bound_20 (fun r28 S27 h => ?_)
    exact V_iret C D dX11_bound_23 h
/-! HalfAccuserModel.isCharged(II)Z -/
theorem dX11_isCharged_0 : decode cX11_isCharged 0 = .ok ((.aload_n 0), 1) := by decide +kernel
theorem dX11_isCharged_1 : decode cX11_isCharged 1 = .ok ((.iload_n 1), 1) := by decide +kernel
theorem dX11_isCharged_2 : decode cX11_isCharged 2 = .ok ((.iload_n 2), 1) := by decide +kernel
theorem dX11_isCharged_3 : decode cX11_isCharged 3 = .ok ((.invokevirtual 338), 3) := by decide +kernel
theorem dX11_isCharged_6 : decode cX11_isCharged 6 = .ok ((.ifCond .ne 5), 3) := by decide +kernel
theorem dX11_isCharged_9 : decode cX11_isCharged 9 = .ok ((.iconst 0), 1) := by decide +kernel
theorem dX11_isCharged_10 : decode cX11_isCharged 10 = .ok (.ireturn, 1) := by decide +kernel
theorem dX11_isCharged_11 : decode cX11_isCharged 11 = .ok ((.aload_n 0), 1) := by decide +kernel
theorem dX11_isCharged_12 : decode cX11_isCharged 12 = .ok ((.getfield 35), 3) := by decide +kernel
theorem dX11_isCharged_15 : decode cX11_isCharged 15 = .ok ((.bipush 24), 2) := by decide +kernel
theorem dX11_isCharged_17 : decode cX11_isCharged 17 = .ok ((.iload_n 1), 1) := by decide +kernel
theorem dX11_isCharged_18 : decode cX11_isCharged 18 = .ok (.iadd, 1) := by decide +kernel
theorem dX11_isCharged_19 : decode cX11_isCharged 19 = .ok (.iaload, 1) := by decide +kernel
theorem dX11_isCharged_20 : decode cX11_isCharged 20 = .ok ((.istore_n 3), 1) := by decide +kernel
theorem dX11_isCharged_21 : decode cX11_isCharged 21 = .ok ((.aload_n 0), 1) := by decide +kernel
theorem dX11_isCharged_22 : decode cX11_isCharged 22 = .ok ((.getfield 35), 3) := by decide +kernel
theorem dX11_isCharged_25 : decode cX11_isCharged 25 = .ok ((.bipush 32), 2) := by decide +kernel
theorem dX11_isCharged_27 : decode cX11_isCharged 27 = .ok ((.iload_n 1), 1) := by decide +kernel
theorem dX11_isCharged_28 : decode cX11_isCharged 28 = .ok (.iadd, 1) := by decide +kernel
theorem dX11_isCharged_29 : decode cX11_isCharged 29 = .ok (.iaload, 1) := by decide +kernel
theorem dX11_isCharged_30 : decode cX11_isCharged 30 = .ok ((.istore 4), 2) := by decide +kernel
theorem dX11_isCharged_32 : decode cX11_isCharged 32 = .ok ((.aload_n 0), 1) := by decide +kernel
theorem dX11_isCharged_33 : decode cX11_isCharged 33 = .ok ((.iload_n 1), 1) := by decide +kernel
theorem dX11_isCharged_34 : decode cX11_isCharged 34 = .ok ((.iload_n 2), 1) := by decide +kernel
theorem dX11_isCharged_35 : decode cX11_isCharged 35 = .ok ((.aload_n 0), 1) := by decide +kernel
theorem dX11_isCharged_36 : decode cX11_isCharged 36 = .ok ((.iload_n 1), 1) := by decide +kernel
theorem dX11_isCharged_37 : decode cX11_isCharged 37 = .ok ((.iload_n 2), 1) := by decide +kernel
theorem dX11_isCharged_38 : decode cX11_isCharged 38 = .ok ((.invokevirtual 356), 3) := by decide +kernel
theorem dX11_isCharged_41 : decode cX11_isCharged 41 = .ok ((.invokevirtual 341), 3) := by decide +kernel
theorem dX11_isCharged_44 : decode cX11_isCharged 44 = .ok ((.aload_n 0), 1) := by decide +kernel
theorem dX11_isCharged_45 : decode cX11_isCharged 45 = .ok (.dup, 1) := by decide +kernel
theorem dX11_isCharged_46 : decode cX11_isCharged 46 = .ok ((.getfield 449), 3) := by decide +kernel
theorem dX11_isCharged_49 : decode cX11_isCharged 49 = .ok ((.iconst 1), 1) := by decide +kernel
theorem dX11_isCharged_50 : decode cX11_isCharged 50 = .ok (.iadd, 1) := by decide +kernel
theorem dX11_isCharged_51 : decode cX11_isCharged 51 = .ok ((.putfield 449), 3) := by decide +kernel
theorem dX11_isCharged_54 : decode cX11_isCharged 54 = .ok ((.aload_n 0), 1) := by decide +kernel
theorem dX11_isCharged_55 : decode cX11_isCharged 55 = .ok (.dup, 1) := by decide +kernel
theorem dX11_isCharged_56 : decode cX11_isCharged 56 = .ok ((.getfield 452), 3) := by decide +kernel
theorem dX11_isCharged_59 : decode cX11_isCharged 59 = .ok ((.aload_n 0), 1) := by decide +kernel
theorem dX11_isCharged_60 : decode cX11_isCharged 60 = .ok ((.getfield 35), 3) := by decide +kernel
theorem dX11_isCharged_63 : decode cX11_isCharged 63 = .ok ((.bipush 24), 2) := by decide +kernel
theorem dX11_isCharged_65 : decode cX11_isCharged 65 = .ok ((.iload_n 1), 1) := by decide +kernel
theorem dX11_isCharged_66 : decode cX11_isCharged 66 = .ok (.iadd, 1) := by decide +kernel
theorem dX11_isCharged_67 : decode cX11_isCharged 67 = .ok (.iaload, 1) := by decide +kernel
theorem dX11_isCharged_68 : decode cX11_isCharged 68 = .ok ((.iload_n 3), 1) := by decide +kernel
theorem dX11_isCharged_69 : decode cX11_isCharged 69 = .ok (.isub, 1) := by decide +kernel
theorem dX11_isCharged_70 : decode cX11_isCharged 70 = .ok (.iadd, 1) := by decide +kernel
theorem dX11_isCharged_71 : decode cX11_isCharged 71 = .ok ((.putfield 452), 3) := by decide +kernel
theorem dX11_isCharged_74 : decode cX11_isCharged 74 = .ok ((.aload_n 0), 1) := by decide +kernel
theorem dX11_isCharged_75 : decode cX11_isCharged 75 = .ok (.dup, 1) := by decide +kernel
theorem dX11_isCharged_76 : decode cX11_isCharged 76 = .ok ((.getfield 455), 3) := by decide +kernel
theorem dX11_isCharged_79 : decode cX11_isCharged 79 = .ok ((.aload_n 0), 1) := by decide +kernel
theorem dX11_isCharged_80 : decode cX11_isCharged 80 = .ok ((.getfield 35), 3) := by decide +kernel
theorem dX11_isCharged_83 : decode cX11_isCharged 83 = .ok ((.bipush 32), 2) := by decide +kernel
theorem dX11_isCharged_85 : decode cX11_isCharged 85 = .ok ((.iload_n 1), 1) := by decide +kernel
theorem dX11_isCharged_86 : decode cX11_isCharged 86 = .ok (.iadd, 1) := by decide +kernel
theorem dX11_isCharged_87 : decode cX11_isCharged 87 = .ok (.iaload, 1) := by decide +kernel
theorem dX11_isCharged_88 : decode cX11_isCharged 88 = .ok ((.iload 4), 2) := by decide +kernel
theorem dX11_isCharged_90 : decode cX11_isCharged 90 = .ok (.isub, 1) := by decide +kernel
theorem dX11_isCharged_91 : decode cX11_isCharged 91 = .ok (.iadd, 1) := by decide +kernel
theorem dX11_isCharged_92 : decode cX11_isCharged 92 = .ok ((.putfield 455), 3) := by decide +kernel
theorem dX11_isCharged_95 : decode cX11_isCharged 95 = .ok ((.iconst 1), 1) := by decide +kernel
theorem dX11_isCharged_96 : decode cX11_isCharged 96 = .ok (.ireturn, 1) := by decide +kernel
def p_X11_isCharged   (S : vSt) (a1 : Int32) (a2 : Int32) (post : Bool → vSt → Prop) : Prop := p_X11_canCharge  S a1 a2 (fun r12 S11 => ((r12 = true → (vp_in (24 + a1) 1900 ∧ ∀ y13 : Int32, y13 = (S11.1 148 (Int32.toNatClampNeg (24 + a1))) → (vp_in (32 + a1) 1900 ∧ ∀ y14 : Int32, y14 = (S11.1 148 (Int32.toNatClampNeg (32 + a1))) → p_X11_voted  S11 a1 a2 (fun r16 S15 => p_X11_hears  S15 a1 a2 r16 (fun S17 => ∀ S18, S18 = v_si S17 143 37 ((S17.1 143 37) + 1) → (vp_in (24 + a1) 1900 ∧ ∀ S19, S19 = v_si S18 143 38 ((S18.1 143 38) + ((S18.1 148 (Int32.toNatClampNeg (24 + a1))) - y13)) → (vp_in (32 + a1) 1900 ∧ ∀ S20, S20 = v_si S19 143 39 ((S19.1 143 39) + ((S19.1 148 (Int32.toNatClampNeg (32 + a1))) - y14)) → post true S20))))))) ∧ (r12 = false → post false S11)))
set_option maxHeartbeats 4000000 in
set_option maxRecDepth 100000 in
theorem c_X11_isCharged (l : Launch) (G : vG)    {S : vSt} (a1 : Int32) (a2 : Int32) (post : Bool → vSt → Prop) (h : p_X11_isCharged   S a1 a2 post) : Met l yX11_isCharged (v_ws yX11_isCharged cX11_isCharged 5 (some .boolean)) (v_rm 3 107) (v_Pc G [.ref (G.1 143), .int a1, .int a2] S) (v_Qz G post) 0 0 (v_A G) := by
  refine v_start (by decide +kernel) (Nat.le_of_ble_eq_true rfl) (fun X hl C D => ?_)
  subst hl
  have C : v_Cx X G cX11_isCharged RX11 5 (v_rm 3 107) := C
  show VJ X G S 0 [(0, .ref (G.1 143)), (1, .int a1), (2, .int a2)] []
  refine V_aload_n C 0 dX11_isCharged_0 rfl rfl ?_
  refine V_iload_n C 1 dX11_isCharged_1 rfl rfl ?_
  refine V_iload_n C 2 dX11_isCharged_2 rfl rfl ?_
  refine V_callVz (As := [.int a1, .int a2]) (rest := []) C (c_X11_canCharge (v_l X) G  _ _ _ h) 143 11 (by decide) (by decide) (by decide) rfl KV_X11_canCharge k_RX11_338 rfl rfl rfl (Nat.le_of_ble_eq_true rfl) ⟨Nat.le_of_ble_eq_true rfl, Nat.le_of_ble_eq_true rfl⟩ dX11_isCharged_3 (fun r12 S11 h => ?_)
  refine V_ifb_ne (tgt := 11) C dX11_isCharged_6 (by decide) (fun c => ?_) (fun c => ?_)
  · have h := h.1 c
    refine V_aload_n C 0 dX11_isCharged_11 rfl rfl ?_
    refine V_ga C 143 (by decide) (by decide) F_11_20 k_RX11_35 dX11_isCharged_12 ?_
    refine V_bipush (v := 24) C dX11_isCharged_15 (by decide) ?_
    refine V_iload_n C 1 dX11_isCharged_17 rfl rfl ?_
    refine V_iadd C dX11_isCharged_18 ?_
    obtain ⟨hi, h⟩ := h
    refine V_iald C 148 1900 (by decide) (by decide) hi dX11_isCharged_19 ?_
    refine V_topi (fun y13 ey13 => ?_)
    have h := h y13 ey13
    refine V_istore_n (lv' := [(0, .ref (G.1 143)), (1, .int a1), (2, .int a2), (3, .int y13)]) C [1, 2, 3, 0] dX11_isCharged_20 rfl (by decide) rfl ?_
    refine V_aload_n C 0 dX11_isCharged_21 rfl rfl ?_
    refine V_ga C 143 (by decide) (by decide) F_11_20 k_RX11_35 dX11_isCharged_22 ?_
    refine V_bipush (v := 32) C dX11_isCharged_25 (by decide) ?_
    refine V_iload_n C 1 dX11_isCharged_27 rfl rfl ?_
    refine V_iadd C dX11_isCharged_28 ?_
    obtain ⟨hi, h⟩ := h
    refine V_iald C 148 1900 (by decide) (by decide) hi dX11_isCharged_29 ?_
    refine V_topi (fun y14 ey14 => ?_)
    have h := h y14 ey14
    refine V_istore (lv' := [(0, .ref (G.1 143)), (1, .int a1), (2, .int a2), (3, .int y13), (4, .int y14)]) C [1, 2, 3, 4, 0] dX11_isCharged_30 (by decide) rfl ?_
    refine V_aload_n C 0 dX11_isCharged_32 rfl rfl ?_
    refine V_iload_n C 1 dX11_isCharged_33 rfl rfl ?_
    refine V_iload_n C 2 dX11_isCharged_34 rfl rfl ?_
    refine V_aload_n C 0 dX11_isCharged_35 rfl rfl ?_
    refine V_iload_n C 1 dX11_isCharged_36 rfl rfl ?_
    refine V_iload_n C 2 dX11_isCharged_37 rfl rfl ?_
    refine V_callVi (As := [.int a1, .int a2]) (rest := [.int a2, .int a1, .ref (G.1 143)]) C (c_X11_voted (v_l X) G  _ _ _ h) 143 11 (by decide) (by decide) (by decide) rfl KV_X11_voted k_RX11_356 rfl rfl rfl (Nat.le_of_ble_eq_true rfl) ⟨Nat.le_of_ble_eq_true rfl, Nat.le_of_ble_eq_true rfl⟩ dX11_isCharged_38 (fun r16 S15 h => ?_)
    refine V_callVv (As := [.int a1, .int a2, .int r16]) (rest := []) C (c_X11_hears (v_l X) G  _ _ _ _ h) 143 11 (by decide) (by decide) (by decide) rfl KV_X11_hears k_RX11_341 rfl rfl rfl (Nat.le_of_ble_eq_true rfl) ⟨Nat.le_of_ble_eq_true rfl, Nat.le_of_ble_eq_true rfl⟩ dX11_isCharged_41 (fun S17 h => ?_)
    refine V_aload_n C 0 dX11_isCharged_44 rfl rfl ?_
    refine V_dup C dX11_isCharged_45 rfl ?_
    refine V_gi C 143 (by decide) (by decide) F_11_37 k_RX11_449 dX11_isCharged_46 ?_
    refine V_iconst (v := 1) C dX11_isCharged_49 (by decide) ?_
    refine V_iadd C dX11_isCharged_50 ?_
    refine V_pi C 143 (by decide) (by decide) P_11_37 k_RX11_449 dX11_isCharged_51 ?_
    refine V_topS (fun S18 eS18 => ?_)
    have h := h S18 eS18
    refine V_aload_n C 0 dX11_isCharged_54 rfl rfl ?_
    refine V_dup C dX11_isCharged_55 rfl ?_
    refine V_gi C 143 (by decide) (by decide) F_11_38 k_RX11_452 dX11_isCharged_56 ?_
    refine V_aload_n C 0 dX11_isCharged_59 rfl rfl ?_
    refine V_ga C 143 (by decide) (by decide) F_11_20 k_RX11_35 dX11_isCharged_60 ?_
    refine V_bipush (v := 24) C dX11_isCharged_63 (by decide) ?_
    refine V_iload_n C 1 dX11_isCharged_65 rfl rfl ?_
    refine V_iadd C dX11_isCharged_66 ?_
    obtain ⟨hi, h⟩ := h
    refine V_iald C 148 1900 (by decide) (by decide) hi dX11_isCharged_67 ?_
    refine V_iload_n C 3 dX11_isCharged_68 rfl rfl ?_
    refine V_isub C dX11_isCharged_69 ?_
    refine V_iadd C dX11_isCharged_70 ?_
    refine V_pi C 143 (by decide) (by decide) P_11_38 k_RX11_452 dX11_isCharged_71 ?_
    refine V_topS (fun S19 eS19 => ?_)
    have h := h S19 eS19
    refine V_aload_n C 0 dX11_isCharged_74 rfl rfl ?_
    refine V_dup C dX11_isCharged_75 rfl ?_
    refine V_gi C 143 (by decide) (by decide) F_11_39 k_RX11_455 dX11_isCharged_76 ?_
    refine V_aload_n C 0 dX11_isCharged_79 rfl rfl ?_
    refine V_ga C 143 (by decide) (by decide) F_11_20 k_RX11_35 dX11_isCharged_80 ?_
    refine V_bipush (v := 32) C dX11_isCharged_83 (by decide) ?_
    refine V_iload_n C 1 dX11_isCharged_85 rfl rfl ?_
    refine V_iadd C dX11_isCharged_86 ?_
    obtain ⟨hi, h⟩ := h
    refine V_iald C 148 1900 (by decide) (by decide) hi dX11_isCharged_87 ?_
    refine V_iload C 4 dX11_isCharged_88 rfl ?_
    refine V_isub C dX11_isCharged_90 ?_
    refine V_iadd C dX11_isCharged_91 ?_
    refine V_pi C 143 (by decide) (by decide) P_11_39 k_RX11_455 dX11_isCharged_92 ?_
    refine V_topS (fun S20 eS20 => ?_)
    have h := h S20 eS20
    refine V_iconst (v := 1) C dX11_isCharged_95 (by decide) ?_
    exact V_zret1 C D dX11_isCharged_96 h
  · have h := h.2 c
    refine V_iconst (v := 0) C dX11_isCharged_9 (by decide) ?_
    exact V_zret0 C D dX11_isCharged_10 h
/-! HalfAccuserModel.isAny()Z -/
theorem dX11_isAny_0 : decode cX11_isAny 0 = .ok ((.aload_n 0), 1) := by decide +kernel
theorem dX11_isAny_1 : decode cX11_isAny 1 = .ok ((.getfield 35), 3) := by decide +kernel
theorem dX11_isAny_4 : decode cX11_isAny 4 = .ok ((.iconst 0), 1) := by decide +kernel
theorem dX11_isAny_5 : decode cX11_isAny 5 = .ok (.iaload, 1) := by decide +kernel
theorem dX11_isAny_6 : decode cX11_isAny 6 = .ok ((.ifCond .eq 12), 3) := by decide +kernel
theorem dX11_isAny_9 : decode cX11_isAny 9 = .ok ((.aload_n 0), 1) := by decide +kernel
theorem dX11_isAny_10 : decode cX11_isAny 10 = .ok ((.getfield 35), 3) := by decide +kernel
theorem dX11_isAny_13 : decode cX11_isAny 13 = .ok ((.iconst 1), 1) := by decide +kernel
theorem dX11_isAny_14 : decode cX11_isAny 14 = .ok (.iaload, 1) := by decide +kernel
theorem dX11_isAny_15 : decode cX11_isAny 15 = .ok ((.ifCond .ne 5), 3) := by decide +kernel
theorem dX11_isAny_18 : decode cX11_isAny 18 = .ok ((.iconst 0), 1) := by decide +kernel
theorem dX11_isAny_19 : decode cX11_isAny 19 = .ok (.ireturn, 1) := by decide +kernel
theorem dX11_isAny_20 : decode cX11_isAny 20 = .ok ((.aload_n 0), 1) := by decide +kernel
theorem dX11_isAny_21 : decode cX11_isAny 21 = .ok ((.aload_n 0), 1) := by decide +kernel
theorem dX11_isAny_22 : decode cX11_isAny 22 = .ok ((.getfield 35), 3) := by decide +kernel
theorem dX11_isAny_25 : decode cX11_isAny 25 = .ok ((.iconst 0), 1) := by decide +kernel
theorem dX11_isAny_26 : decode cX11_isAny 26 = .ok (.iaload, 1) := by decide +kernel
theorem dX11_isAny_27 : decode cX11_isAny 27 = .ok ((.invokevirtual 351), 3) := by decide +kernel
theorem dX11_isAny_30 : decode cX11_isAny 30 = .ok ((.istore_n 1), 1) := by decide +kernel
theorem dX11_isAny_31 : decode cX11_isAny 31 = .ok ((.aload_n 0), 1) := by decide +kernel
theorem dX11_isAny_32 : decode cX11_isAny 32 = .ok ((.iload_n 1), 1) := by decide +kernel
theorem dX11_isAny_33 : decode cX11_isAny 33 = .ok ((.aload_n 0), 1) := by decide +kernel
theorem dX11_isAny_34 : decode cX11_isAny 34 = .ok ((.aload_n 0), 1) := by decide +kernel
theorem dX11_isAny_35 : decode cX11_isAny 35 = .ok ((.getfield 35), 3) := by decide +kernel
theorem dX11_isAny_38 : decode cX11_isAny 38 = .ok ((.iconst 1), 1) := by decide +kernel
theorem dX11_isAny_39 : decode cX11_isAny 39 = .ok (.iaload, 1) := by decide +kernel
theorem dX11_isAny_40 : decode cX11_isAny 40 = .ok ((.invokevirtual 351), 3) := by decide +kernel
theorem dX11_isAny_43 : decode cX11_isAny 43 = .ok ((.invokevirtual 458), 3) := by decide +kernel
theorem dX11_isAny_46 : decode cX11_isAny 46 = .ok (.ireturn, 1) := by decide +kernel
def p_X11_isAny   (S : vSt)  (post : Bool → vSt → Prop) : Prop := (vp_in 0 1900 ∧ (((S.1 148 (Int32.toNatClampNeg 0)) = 0 → post false S) ∧ (¬ (S.1 148 (Int32.toNatClampNeg 0)) = 0 → (vp_in 1 1900 ∧ ((¬ (S.1 148 (Int32.toNatClampNeg 1)) = 0 → (vp_in 0 1900 ∧ p_X11_draw  S (S.1 148 (Int32.toNatClampNeg 0)) (fun r8 S7 => (vp_in 1 1900 ∧ p_X11_draw  S7 (S7.1 148 (Int32.toNatClampNeg 1)) (fun r10 S9 => p_X11_isCharged  S9 r8 r10 (fun r12 S11 => post r12 S11)))))) ∧ ((S.1 148 (Int32.toNatClampNeg 1)) = 0 → post false S))))))
set_option maxHeartbeats 4000000 in
set_option maxRecDepth 100000 in
theorem c_X11_isAny (l : Launch) (G : vG)    {S : vSt}  (post : Bool → vSt → Prop) (h : p_X11_isAny   S  post) : Met l yX11_isAny (v_ws yX11_isAny cX11_isAny 2 (some .boolean)) (v_rm 4 131) (v_Pc G [.ref (G.1 143)] S) (v_Qz G post) 0 0 (v_A G) := by
  refine v_start (by decide +kernel) (Nat.le_of_ble_eq_true rfl) (fun X hl C D => ?_)
  subst hl
  have C : v_Cx X G cX11_isAny RX11 2 (v_rm 4 131) := C
  show VJ X G S 0 [(0, .ref (G.1 143))] []
  refine V_aload_n C 0 dX11_isAny_0 rfl rfl ?_
  refine V_ga C 143 (by decide) (by decide) F_11_20 k_RX11_35 dX11_isAny_1 ?_
  refine V_iconst (v := 0) C dX11_isAny_4 (by decide) ?_
  obtain ⟨hi, h⟩ := h
  refine V_iald C 148 1900 (by decide) (by decide) hi dX11_isAny_5 ?_
  refine V_if_eq (tgt := 18) C dX11_isAny_6 (by decide) (fun c => ?_) (fun c => ?_)
  · have h := h.1 c
    refine V_iconst (v := 0) C dX11_isAny_18 (by decide) ?_
    exact V_zret0 C D dX11_isAny_19 h
  · have h := h.2 c
    refine V_aload_n C 0 dX11_isAny_9 rfl rfl ?_
    refine V_ga C 143 (by decide) (by decide) F_11_20 k_RX11_35 dX11_isAny_10 ?_
    refine V_iconst (v := 1) C dX11_isAny_13 (by decide) ?_
    obtain ⟨hi, h⟩ := h
    refine V_iald C 148 1900 (by decide) (by decide) hi dX11_isAny_14 ?_
    refine V_if_ne (tgt := 20) C dX11_isAny_15 (by decide) (fun c => ?_) (fun c => ?_)
    · have h := h.1 c
      refine V_aload_n C 0 dX11_isAny_20 rfl rfl ?_
      refine V_aload_n C 0 dX11_isAny_21 rfl rfl ?_
      refine V_ga C 143 (by decide) (by decide) F_11_20 k_RX11_35 dX11_isAny_22 ?_
      refine V_iconst (v := 0) C dX11_isAny_25 (by decide) ?_
      obtain ⟨hi, h⟩ := h
      refine V_iald C 148 1900 (by decide) (by decide) hi dX11_isAny_26 ?_
      refine V_callVi (As := [.int (S.1 148 (Int32.toNatClampNeg 0))]) (rest := []) C (c_X11_draw (v_l X) G  _ _ h) 143 11 (by decide) (by decide) (by decide) rfl KV_X11_draw k_RX11_351 rfl rfl rfl (Nat.le_of_ble_eq_true rfl) ⟨Nat.le_of_ble_eq_true rfl, Nat.le_of_ble_eq_true rfl⟩ dX11_isAny_27 (fun r8 S7 h => ?_)
      refine V_istore_n (lv' := [(0, .ref (G.1 143)), (1, .int r8)]) C [1, 0] dX11_isAny_30 rfl (by decide) rfl ?_
      refine V_aload_n C 0 dX11_isAny_31 rfl rfl ?_
      refine V_iload_n C 1 dX11_isAny_32 rfl rfl ?_
      refine V_aload_n C 0 dX11_isAny_33 rfl rfl ?_
      refine V_aload_n C 0 dX11_isAny_34 rfl rfl ?_
      refine V_ga C 143 (by decide) (by decide) F_11_20 k_RX11_35 dX11_isAny_35 ?_
      refine V_iconst (v := 1) C dX11_isAny_38 (by decide) ?_
      obtain ⟨hi, h⟩ := h
      refine V_iald C 148 1900 (by decide) (by decide) hi dX11_isAny_39 ?_
      refine V_callVi (As := [.int (S7.1 148 (Int32.toNatClampNeg 1))]) (rest := [.int r8, .ref (G.1 143)]) C (c_X11_draw (v_l X) G  _ _ h) 143 11 (by decide) (by decide) (by decide) rfl KV_X11_draw k_RX11_351 rfl rfl rfl (Nat.le_of_ble_eq_true rfl) ⟨Nat.le_of_ble_eq_true rfl, Nat.le_of_ble_eq_true rfl⟩ dX11_isAny_40 (fun r10 S9 h => ?_)
      refine V_callVz (As := [.int r8, .int r10]) (rest := []) C (c_X11_isCharged (v_l X) G  _ _ _ h) 143 11 (by decide) (by decide) (by decide) rfl KV_X11_isCharged k_RX11_458 rfl rfl rfl (Nat.le_of_ble_eq_true rfl) ⟨Nat.le_of_ble_eq_true rfl, Nat.le_of_ble_eq_true rfl⟩ dX11_isAny_43 (fun r12 S11 h => ?_)
      exact V_zret C D dX11_isAny_46 h
    · have h := h.2 c
      refine V_iconst (v := 0) C dX11_isAny_18 (by decide) ?_
      exact V_zret0 C D dX11_isAny_19 h
/-! HalfAccuserModel.does(I)Z -/
theorem dX11_does_0 : decode cX11_does 0 = .ok ((.aload_n 0), 1) := by decide +kernel
theorem dX11_does_1 : decode cX11_does 1 = .ok ((.getfield 35), 3) := by decide +kernel
theorem dX11_does_4 : decode cX11_does 4 = .ok ((.iload_n 1), 1) := by decide +kernel
theorem dX11_does_5 : decode cX11_does 5 = .ok (.iaload, 1) := by decide +kernel
theorem dX11_does_6 : decode cX11_does 6 = .ok ((.istore_n 2), 1) := by decide +kernel
theorem dX11_does_7 : decode cX11_does 7 = .ok ((.aload_n 0), 1) := by decide +kernel
theorem dX11_does_8 : decode cX11_does 8 = .ok ((.getfield 35), 3) := by decide +kernel
theorem dX11_does_11 : decode cX11_does 11 = .ok ((.iload_n 1), 1) := by decide +kernel
theorem dX11_does_12 : decode cX11_does 12 = .ok ((.iconst 1), 1) := by decide +kernel
theorem dX11_does_13 : decode cX11_does 13 = .ok (.iadd, 1) := by decide +kernel
theorem dX11_does_14 : decode cX11_does 14 = .ok (.iaload, 1) := by decide +kernel
theorem dX11_does_15 : decode cX11_does 15 = .ok ((.istore_n 3), 1) := by decide +kernel
theorem dX11_does_16 : decode cX11_does 16 = .ok ((.iload_n 2), 1) := by decide +kernel
theorem dX11_does_17 : decode cX11_does 17 = .ok ((.ifCond .ne 17), 3) := by decide +kernel
theorem dX11_does_20 : decode cX11_does 20 = .ok ((.aload_n 0), 1) := by decide +kernel
theorem dX11_does_21 : decode cX11_does 21 = .ok ((.iload_n 3), 1) := by decide +kernel
theorem dX11_does_22 : decode cX11_does 22 = .ok ((.aload_n 0), 1) := by decide +kernel
theorem dX11_does_23 : decode cX11_does 23 = .ok ((.getfield 35), 3) := by decide +kernel
theorem dX11_does_26 : decode cX11_does 26 = .ok ((.iload_n 1), 1) := by decide +kernel
theorem dX11_does_27 : decode cX11_does 27 = .ok ((.iconst 2), 1) := by decide +kernel
theorem dX11_does_28 : decode cX11_does 28 = .ok (.iadd, 1) := by decide +kernel
theorem dX11_does_29 : decode cX11_does 29 = .ok (.iaload, 1) := by decide +kernel
theorem dX11_does_30 : decode cX11_does 30 = .ok ((.invokevirtual 458), 3) := by decide +kernel
theorem dX11_does_33 : decode cX11_does 33 = .ok (.ireturn, 1) := by decide +kernel
theorem dX11_does_34 : decode cX11_does 34 = .ok ((.iload_n 2), 1) := by decide +kernel
theorem dX11_does_35 : decode cX11_does 35 = .ok ((.iconst 1), 1) := by decide +kernel
theorem dX11_does_36 : decode cX11_does 36 = .ok ((.if_icmp .ne 25), 3) := by decide +kernel
theorem dX11_does_39 : decode cX11_does 39 = .ok ((.aload_n 0), 1) := by decide +kernel
theorem dX11_does_40 : decode cX11_does 40 = .ok ((.iload_n 3), 1) := by decide +kernel
theorem dX11_does_41 : decode cX11_does 41 = .ok ((.aload_n 0), 1) := by decide +kernel
theorem dX11_does_42 : decode cX11_does 42 = .ok ((.getfield 35), 3) := by decide +kernel
theorem dX11_does_45 : decode cX11_does 45 = .ok ((.iload_n 1), 1) := by decide +kernel
theorem dX11_does_46 : decode cX11_does 46 = .ok ((.iconst 2), 1) := by decide +kernel
theorem dX11_does_47 : decode cX11_does 47 = .ok (.iadd, 1) := by decide +kernel
theorem dX11_does_48 : decode cX11_does 48 = .ok (.iaload, 1) := by decide +kernel
theorem dX11_does_49 : decode cX11_does 49 = .ok ((.aload_n 0), 1) := by decide +kernel
theorem dX11_does_50 : decode cX11_does 50 = .ok ((.getfield 35), 3) := by decide +kernel
theorem dX11_does_53 : decode cX11_does 53 = .ok ((.iload_n 1), 1) := by decide +kernel
theorem dX11_does_54 : decode cX11_does 54 = .ok ((.iconst 3), 1) := by decide +kernel
theorem dX11_does_55 : decode cX11_does 55 = .ok (.iadd, 1) := by decide +kernel
theorem dX11_does_56 : decode cX11_does 56 = .ok (.iaload, 1) := by decide +kernel
theorem dX11_does_57 : decode cX11_does 57 = .ok ((.invokevirtual 359), 3) := by decide +kernel
theorem dX11_does_60 : decode cX11_does 60 = .ok (.ireturn, 1) := by decide +kernel
theorem dX11_does_61 : decode cX11_does 61 = .ok ((.iload_n 2), 1) := by decide +kernel
theorem dX11_does_62 : decode cX11_does 62 = .ok ((.iconst 3), 1) := by decide +kernel
theorem dX11_does_63 : decode cX11_does 63 = .ok ((.if_icmp .ne 8), 3) := by decide +kernel
theorem dX11_does_66 : decode cX11_does 66 = .ok ((.aload_n 0), 1) := by decide +kernel
theorem dX11_does_67 : decode cX11_does 67 = .ok ((.invokevirtual 461), 3) := by decide +kernel
theorem dX11_does_70 : decode cX11_does 70 = .ok (.ireturn, 1) := by decide +kernel
theorem dX11_does_71 : decode cX11_does 71 = .ok ((.aload_n 0), 1) := by decide +kernel
theorem dX11_does_72 : decode cX11_does 72 = .ok ((.bipush 8), 2) := by decide +kernel
theorem dX11_does_74 : decode cX11_does 74 = .ok ((.iload_n 3), 1) := by decide +kernel
theorem dX11_does_75 : decode cX11_does 75 = .ok (.iadd, 1) := by decide +kernel
theorem dX11_does_76 : decode cX11_does 76 = .ok ((.aload_n 0), 1) := by decide +kernel
theorem dX11_does_77 : decode cX11_does 77 = .ok ((.getfield 35), 3) := by decide +kernel
theorem dX11_does_80 : decode cX11_does 80 = .ok ((.iload_n 1), 1) := by decide +kernel
theorem dX11_does_81 : decode cX11_does 81 = .ok ((.iconst 3), 1) := by decide +kernel
theorem dX11_does_82 : decode cX11_does 82 = .ok (.iadd, 1) := by decide +kernel
theorem dX11_does_83 : decode cX11_does 83 = .ok (.iaload, 1) := by decide +kernel
theorem dX11_does_84 : decode cX11_does 84 = .ok ((.invokevirtual 329), 3) := by decide +kernel
theorem dX11_does_87 : decode cX11_does 87 = .ok ((.iconst 1), 1) := by decide +kernel
theorem dX11_does_88 : decode cX11_does 88 = .ok (.ireturn, 1) := by decide +kernel
def p_X11_does   (S : vSt) (a1 : Int32) (post : Bool → vSt → Prop) : Prop := (vp_in a1 1900 ∧ ∀ y10 : Int32, y10 = (S.1 148 (Int32.toNatClampNeg a1)) → (vp_in (a1 + 1) 1900 ∧ ∀ y11 : Int32, y11 = (S.1 148 (Int32.toNatClampNeg (a1 + 1))) → ((¬ y10 = 0 → ((¬ y10 = 1 → ((¬ y10 = 3 → (vp_in (a1 + 3) 1900 ∧ p_X11_pays  S (8 + y11) (S.1 148 (Int32.toNatClampNeg (a1 + 3))) (fun S12 => post true S12))) ∧ (y10 = 3 → p_X11_isAny  S  (fun r14 S13 => post r14 S13)))) ∧ (y10 = 1 → (vp_in (a1 + 2) 1900 ∧ (vp_in (a1 + 3) 1900 ∧ p_X11_drops  S y11 (S.1 148 (Int32.toNatClampNeg (a1 + 2))) (S.1 148 (Int32.toNatClampNeg (a1 + 3))) (fun r16 S15 => post r16 S15)))))) ∧ (y10 = 0 → (vp_in (a1 + 2) 1900 ∧ p_X11_isCharged  S y11 (S.1 148 (Int32.toNatClampNeg (a1 + 2))) (fun r18 S17 => post r18 S17))))))
set_option maxHeartbeats 4000000 in
set_option maxRecDepth 100000 in
theorem c_X11_does (l : Launch) (G : vG)    {S : vSt} (a1 : Int32) (post : Bool → vSt → Prop) (h : p_X11_does   S a1 post) : Met l yX11_does (v_ws yX11_does cX11_does 4 (some .boolean)) (v_rm 5 152) (v_Pc G [.ref (G.1 143), .int a1] S) (v_Qz G post) 0 0 (v_A G) := by
  refine v_start (by decide +kernel) (Nat.le_of_ble_eq_true rfl) (fun X hl C D => ?_)
  subst hl
  have C : v_Cx X G cX11_does RX11 4 (v_rm 5 152) := C
  show VJ X G S 0 [(0, .ref (G.1 143)), (1, .int a1)] []
  refine V_aload_n C 0 dX11_does_0 rfl rfl ?_
  refine V_ga C 143 (by decide) (by decide) F_11_20 k_RX11_35 dX11_does_1 ?_
  refine V_iload_n C 1 dX11_does_4 rfl rfl ?_
  obtain ⟨hi, h⟩ := h
  refine V_iald C 148 1900 (by decide) (by decide) hi dX11_does_5 ?_
  refine V_topi (fun y10 ey10 => ?_)
  have h := h y10 ey10
  refine V_istore_n (lv' := [(0, .ref (G.1 143)), (1, .int a1), (2, .int y10)]) C [1, 2, 0] dX11_does_6 rfl (by decide) rfl ?_
  refine V_aload_n C 0 dX11_does_7 rfl rfl ?_
  refine V_ga C 143 (by decide) (by decide) F_11_20 k_RX11_35 dX11_does_8 ?_
  refine V_iload_n C 1 dX11_does_11 rfl rfl ?_
  refine V_iconst (v := 1) C dX11_does_12 (by decide) ?_
  refine V_iadd C dX11_does_13 ?_
  obtain ⟨hi, h⟩ := h
  refine V_iald C 148 1900 (by decide) (by decide) hi dX11_does_14 ?_
  refine V_topi (fun y11 ey11 => ?_)
  have h := h y11 ey11
  refine V_istore_n (lv' := [(0, .ref (G.1 143)), (1, .int a1), (2, .int y10), (3, .int y11)]) C [1, 2, 3, 0] dX11_does_15 rfl (by decide) rfl ?_
  refine V_iload_n C 2 dX11_does_16 rfl rfl ?_
  refine V_if_ne (tgt := 34) C dX11_does_17 (by decide) (fun c => ?_) (fun c => ?_)
  · have h := h.1 c
    refine V_iload_n C 2 dX11_does_34 rfl rfl ?_
    refine V_iconst (v := 1) C dX11_does_35 (by decide) ?_
    refine V_icmp_ne (tgt := 61) C dX11_does_36 (by decide) (fun c => ?_) (fun c => ?_)
    · have h := h.1 c
      refine V_iload_n C 2 dX11_does_61 rfl rfl ?_
      refine V_iconst (v := 3) C dX11_does_62 (by decide) ?_
      refine V_icmp_ne (tgt := 71) C dX11_does_63 (by decide) (fun c => ?_) (fun c => ?_)
      · have h := h.1 c
        refine V_aload_n C 0 dX11_does_71 rfl rfl ?_
        refine V_bipush (v := 8) C dX11_does_72 (by decide) ?_
        refine V_iload_n C 3 dX11_does_74 rfl rfl ?_
        refine V_iadd C dX11_does_75 ?_
        refine V_aload_n C 0 dX11_does_76 rfl rfl ?_
        refine V_ga C 143 (by decide) (by decide) F_11_20 k_RX11_35 dX11_does_77 ?_
        refine V_iload_n C 1 dX11_does_80 rfl rfl ?_
        refine V_iconst (v := 3) C dX11_does_81 (by decide) ?_
        refine V_iadd C dX11_does_82 ?_
        obtain ⟨hi, h⟩ := h
        refine V_iald C 148 1900 (by decide) (by decide) hi dX11_does_83 ?_
        refine V_callVv (As := [.int (8 + y11), .int (S.1 148 (Int32.toNatClampNeg (a1 + 3)))]) (rest := []) C (c_X11_pays (v_l X) G  _ _ _ h) 143 11 (by decide) (by decide) (by decide) rfl KV_X11_pays k_RX11_329 rfl rfl rfl (Nat.le_of_ble_eq_true rfl) ⟨Nat.le_of_ble_eq_true rfl, Nat.le_of_ble_eq_true rfl⟩ dX11_does_84 (fun S12 h => ?_)
        refine V_iconst (v := 1) C dX11_does_87 (by decide) ?_
        exact V_zret1 C D dX11_does_88 h
      · have h := h.2 c
        refine V_aload_n C 0 dX11_does_66 rfl rfl ?_
        refine V_callVz (As := []) (rest := []) C (c_X11_isAny (v_l X) G  _ h) 143 11 (by decide) (by decide) (by decide) rfl KV_X11_isAny k_RX11_461 rfl rfl rfl (Nat.le_of_ble_eq_true rfl) ⟨Nat.le_of_ble_eq_true rfl, Nat.le_of_ble_eq_true rfl⟩ dX11_does_67 (fun r14 S13 h => ?_)
        exact V_zret C D dX11_does_70 h
    · have h := h.2 c
      refine V_aload_n C 0 dX11_does_39 rfl rfl ?_
      refine V_iload_n C 3 dX11_does_40 rfl rfl ?_
      refine V_aload_n C 0 dX11_does_41 rfl rfl ?_
      refine V_ga C 143 (by decide) (by decide) F_11_20 k_RX11_35 dX11_does_42 ?_
      refine V_iload_n C 1 dX11_does_45 rfl rfl ?_
      refine V_iconst (v := 2) C dX11_does_46 (by decide) ?_
      refine V_iadd C dX11_does_47 ?_
      obtain ⟨hi, h⟩ := h
      refine V_iald C 148 1900 (by decide) (by decide) hi dX11_does_48 ?_
      refine V_aload_n C 0 dX11_does_49 rfl rfl ?_
      refine V_ga C 143 (by decide) (by decide) F_11_20 k_RX11_35 dX11_does_50 ?_
      refine V_iload_n C 1 dX11_does_53 rfl rfl ?_
      refine V_iconst (v := 3) C dX11_does_54 (by decide) ?_
      refine V_iadd C dX11_does_55 ?_
      obtain ⟨hi, h⟩ := h
      refine V_iald C 148 1900 (by decide) (by decide) hi dX11_does_56 ?_
      refine V_callVz (As := [.int y11, .int (S.1 148 (Int32.toNatClampNeg (a1 + 2))), .int (S.1 148 (Int32.toNatClampNeg (a1 + 3)))]) (rest := []) C (c_X11_drops (v_l X) G  _ _ _ _ h) 143 11 (by decide) (by decide) (by decide) rfl KV_X11_drops k_RX11_359 rfl rfl rfl (Nat.le_of_ble_eq_true rfl) ⟨Nat.le_of_ble_eq_true rfl, Nat.le_of_ble_eq_true rfl⟩ dX11_does_57 (fun r16 S15 h => ?_)
      exact V_zret C D dX11_does_60 h
  · have h := h.2 c
    refine V_aload_n C 0 dX11_does_20 rfl rfl ?_
    refine V_iload_n C 3 dX11_does_21 rfl rfl ?_
    refine V_aload_n C 0 dX11_does_22 rfl rfl ?_
    refine V_ga C 143 (by decide) (by decide) F_11_20 k_RX11_35 dX11_does_23 ?_
    refine V_iload_n C 1 dX11_does_26 rfl rfl ?_
    refine V_iconst (v := 2) C dX11_does_27 (by decide) ?_
    refine V_iadd C dX11_does_28 ?_
    obtain ⟨hi, h⟩ := h
    refine V_iald C 148 1900 (by decide) (by decide) hi dX11_does_29 ?_
    refine V_callVz (As := [.int y11, .int (S.1 148 (Int32.toNatClampNeg (a1 + 2)))]) (rest := []) C (c_X11_isCharged (v_l X) G  _ _ _ h) 143 11 (by decide) (by decide) (by decide) rfl KV_X11_isCharged k_RX11_458 rfl rfl rfl (Nat.le_of_ble_eq_true rfl) ⟨Nat.le_of_ble_eq_true rfl, Nat.le_of_ble_eq_true rfl⟩ dX11_does_30 (fun r18 S17 h => ?_)
    exact V_zret C D dX11_does_33 h
/-! HalfAccuserModel.isSo(I)Z -/
theorem dX11_isSo_0 : decode cX11_isSo 0 = .ok ((.aload_n 0), 1) := by decide +kernel
theorem dX11_isSo_1 : decode cX11_isSo 1 = .ok ((.getfield 35), 3) := by decide +kernel
theorem dX11_isSo_4 : decode cX11_isSo 4 = .ok ((.iload_n 1), 1) := by decide +kernel
theorem dX11_isSo_5 : decode cX11_isSo 5 = .ok ((.bipush 6), 2) := by decide +kernel
theorem dX11_isSo_7 : decode cX11_isSo 7 = .ok (.iadd, 1) := by decide +kernel
theorem dX11_isSo_8 : decode cX11_isSo 8 = .ok (.iaload, 1) := by decide +kernel
theorem dX11_isSo_9 : decode cX11_isSo 9 = .ok ((.istore_n 2), 1) := by decide +kernel
theorem dX11_isSo_10 : decode cX11_isSo 10 = .ok ((.aload_n 0), 1) := by decide +kernel
theorem dX11_isSo_11 : decode cX11_isSo 11 = .ok ((.getfield 35), 3) := by decide +kernel
theorem dX11_isSo_14 : decode cX11_isSo 14 = .ok ((.iload_n 1), 1) := by decide +kernel
theorem dX11_isSo_15 : decode cX11_isSo 15 = .ok ((.iconst 1), 1) := by decide +kernel
theorem dX11_isSo_16 : decode cX11_isSo 16 = .ok (.iadd, 1) := by decide +kernel
theorem dX11_isSo_17 : decode cX11_isSo 17 = .ok (.iaload, 1) := by decide +kernel
theorem dX11_isSo_18 : decode cX11_isSo 18 = .ok ((.istore_n 3), 1) := by decide +kernel
theorem dX11_isSo_19 : decode cX11_isSo 19 = .ok ((.iload_n 2), 1) := by decide +kernel
theorem dX11_isSo_20 : decode cX11_isSo 20 = .ok ((.iconst 2), 1) := by decide +kernel
theorem dX11_isSo_21 : decode cX11_isSo 21 = .ok ((.if_icmp .ge 21), 3) := by decide +kernel
theorem dX11_isSo_24 : decode cX11_isSo 24 = .ok ((.iload_n 2), 1) := by decide +kernel
theorem dX11_isSo_25 : decode cX11_isSo 25 = .ok ((.ifCond .ne 11), 3) := by decide +kernel
theorem dX11_isSo_28 : decode cX11_isSo 28 = .ok ((.aload_n 0), 1) := by decide +kernel
theorem dX11_isSo_29 : decode cX11_isSo 29 = .ok ((.iload_n 3), 1) := by decide +kernel
theorem dX11_isSo_30 : decode cX11_isSo 30 = .ok ((.invokevirtual 295), 3) := by decide +kernel
theorem dX11_isSo_33 : decode cX11_isSo 33 = .ok ((.goto 8), 3) := by decide +kernel
theorem dX11_isSo_36 : decode cX11_isSo 36 = .ok ((.aload_n 0), 1) := by decide +kernel
theorem dX11_isSo_37 : decode cX11_isSo 37 = .ok ((.iload_n 3), 1) := by decide +kernel
theorem dX11_isSo_38 : decode cX11_isSo 38 = .ok ((.invokevirtual 298), 3) := by decide +kernel
theorem dX11_isSo_41 : decode cX11_isSo 41 = .ok (.ireturn, 1) := by decide +kernel
theorem dX11_isSo_42 : decode cX11_isSo 42 = .ok ((.aload_n 0), 1) := by decide +kernel
theorem dX11_isSo_43 : decode cX11_isSo 43 = .ok ((.getfield 35), 3) := by decide +kernel
theorem dX11_isSo_46 : decode cX11_isSo 46 = .ok ((.bipush 8), 2) := by decide +kernel
theorem dX11_isSo_48 : decode cX11_isSo 48 = .ok ((.iload_n 3), 1) := by decide +kernel
theorem dX11_isSo_49 : decode cX11_isSo 49 = .ok (.iadd, 1) := by decide +kernel
theorem dX11_isSo_50 : decode cX11_isSo 50 = .ok (.iaload, 1) := by decide +kernel
theorem dX11_isSo_51 : decode cX11_isSo 51 = .ok ((.istore 4), 2) := by decide +kernel
theorem dX11_isSo_53 : decode cX11_isSo 53 = .ok ((.aload_n 0), 1) := by decide +kernel
theorem dX11_isSo_54 : decode cX11_isSo 54 = .ok ((.getfield 35), 3) := by decide +kernel
theorem dX11_isSo_57 : decode cX11_isSo 57 = .ok ((.iload_n 1), 1) := by decide +kernel
theorem dX11_isSo_58 : decode cX11_isSo 58 = .ok ((.bipush 7), 2) := by decide +kernel
theorem dX11_isSo_60 : decode cX11_isSo 60 = .ok (.iadd, 1) := by decide +kernel
theorem dX11_isSo_61 : decode cX11_isSo 61 = .ok (.iaload, 1) := by decide +kernel
theorem dX11_isSo_62 : decode cX11_isSo 62 = .ok ((.bipush 60), 2) := by decide +kernel
theorem dX11_isSo_64 : decode cX11_isSo 64 = .ok ((.if_icmp .ne 24), 3) := by decide +kernel
theorem dX11_isSo_67 : decode cX11_isSo 67 = .ok ((.iload 4), 2) := by decide +kernel
theorem dX11_isSo_69 : decode cX11_isSo 69 = .ok ((.aload_n 0), 1) := by decide +kernel
theorem dX11_isSo_70 : decode cX11_isSo 70 = .ok ((.getfield 35), 3) := by decide +kernel
theorem dX11_isSo_73 : decode cX11_isSo 73 = .ok ((.iload_n 1), 1) := by decide +kernel
theorem dX11_isSo_74 : decode cX11_isSo 74 = .ok ((.iconst 2), 1) := by decide +kernel
theorem dX11_isSo_75 : decode cX11_isSo 75 = .ok (.iadd, 1) := by decide +kernel
theorem dX11_isSo_76 : decode cX11_isSo 76 = .ok (.iaload, 1) := by decide +kernel
theorem dX11_isSo_77 : decode cX11_isSo 77 = .ok ((.if_icmp .ge 7), 3) := by decide +kernel
theorem dX11_isSo_80 : decode cX11_isSo 80 = .ok ((.iconst 1), 1) := by decide +kernel
theorem dX11_isSo_81 : decode cX11_isSo 81 = .ok ((.goto 60), 3) := by decide +kernel
theorem dX11_isSo_84 : decode cX11_isSo 84 = .ok ((.iconst 0), 1) := by decide +kernel
theorem dX11_isSo_85 : decode cX11_isSo 85 = .ok ((.goto 56), 3) := by decide +kernel
theorem dX11_isSo_88 : decode cX11_isSo 88 = .ok ((.aload_n 0), 1) := by decide +kernel
theorem dX11_isSo_89 : decode cX11_isSo 89 = .ok ((.getfield 35), 3) := by decide +kernel
theorem dX11_isSo_92 : decode cX11_isSo 92 = .ok ((.iload_n 1), 1) := by decide +kernel
theorem dX11_isSo_93 : decode cX11_isSo 93 = .ok ((.bipush 7), 2) := by decide +kernel
theorem dX11_isSo_95 : decode cX11_isSo 95 = .ok (.iadd, 1) := by decide +kernel
theorem dX11_isSo_96 : decode cX11_isSo 96 = .ok (.iaload, 1) := by decide +kernel
theorem dX11_isSo_97 : decode cX11_isSo 97 = .ok ((.bipush 62), 2) := by decide +kernel
theorem dX11_isSo_99 : decode cX11_isSo 99 = .ok ((.if_icmp .ne 24), 3) := by decide +kernel
theorem dX11_isSo_102 : decode cX11_isSo 102 = .ok ((.iload 4), 2) := by decide +kernel
theorem dX11_isSo_104 : decode cX11_isSo 104 = .ok ((.aload_n 0), 1) := by decide +kernel
theorem dX11_isSo_105 : decode cX11_isSo 105 = .ok ((.getfield 35), 3) := by decide +kernel
theorem dX11_isSo_108 : decode cX11_isSo 108 = .ok ((.iload_n 1), 1) := by decide +kernel
theorem dX11_isSo_109 : decode cX11_isSo 109 = .ok ((.iconst 2), 1) := by decide +kernel
theorem dX11_isSo_110 : decode cX11_isSo 110 = .ok (.iadd, 1) := by decide +kernel
theorem dX11_isSo_111 : decode cX11_isSo 111 = .ok (.iaload, 1) := by decide +kernel
theorem dX11_isSo_112 : decode cX11_isSo 112 = .ok ((.if_icmp .le 7), 3) := by decide +kernel
theorem dX11_isSo_115 : decode cX11_isSo 115 = .ok ((.iconst 1), 1) := by decide +kernel
theorem dX11_isSo_116 : decode cX11_isSo 116 = .ok ((.goto 25), 3) := by decide +kernel
theorem dX11_isSo_119 : decode cX11_isSo 119 = .ok ((.iconst 0), 1) := by decide +kernel
theorem dX11_isSo_120 : decode cX11_isSo 120 = .ok ((.goto 21), 3) := by decide +kernel
theorem dX11_isSo_123 : decode cX11_isSo 123 = .ok ((.iload 4), 2) := by decide +kernel
theorem dX11_isSo_125 : decode cX11_isSo 125 = .ok ((.aload_n 0), 1) := by decide +kernel
theorem dX11_isSo_126 : decode cX11_isSo 126 = .ok ((.getfield 35), 3) := by decide +kernel
theorem dX11_isSo_129 : decode cX11_isSo 129 = .ok ((.iload_n 1), 1) := by decide +kernel
theorem dX11_isSo_130 : decode cX11_isSo 130 = .ok ((.iconst 2), 1) := by decide +kernel
theorem dX11_isSo_131 : decode cX11_isSo 131 = .ok (.iadd, 1) := by decide +kernel
theorem dX11_isSo_132 : decode cX11_isSo 132 = .ok (.iaload, 1) := by decide +kernel
theorem dX11_isSo_133 : decode cX11_isSo 133 = .ok ((.if_icmp .ne 7), 3) := by decide +kernel
theorem dX11_isSo_136 : decode cX11_isSo 136 = .ok ((.iconst 1), 1) := by decide +kernel
theorem dX11_isSo_137 : decode cX11_isSo 137 = .ok ((.goto 4), 3) := by decide +kernel
theorem dX11_isSo_140 : decode cX11_isSo 140 = .ok ((.iconst 0), 1) := by decide +kernel
theorem dX11_isSo_141 : decode cX11_isSo 141 = .ok (.ireturn, 1) := by decide +kernel
def p_X11_isSo   (S : vSt) (a1 : Int32) (post : Bool → vSt → Prop) : Prop := (vp_in (a1 + 6) 1900 ∧ ∀ y8 : Int32, y8 = (S.1 148 (Int32.toNatClampNeg (a1 + 6))) → (vp_in (a1 + 1) 1900 ∧ ∀ y9 : Int32, y9 = (S.1 148 (Int32.toNatClampNeg (a1 + 1))) → ((2 ≤ y8 → (vp_in (8 + y9) 1900 ∧ ∀ y10 : Int32, y10 = (S.1 148 (Int32.toNatClampNeg (8 + y9))) → (vp_in (a1 + 7) 1900 ∧ ((¬ (S.1 148 (Int32.toNatClampNeg (a1 + 7))) = 60 → (vp_in (a1 + 7) 1900 ∧ ((¬ (S.1 148 (Int32.toNatClampNeg (a1 + 7))) = 62 → (vp_in (a1 + 2) 1900 ∧ ((¬ y10 = (S.1 148 (Int32.toNatClampNeg (a1 + 2))) → post false S) ∧ (y10 = (S.1 148 (Int32.toNatClampNeg (a1 + 2))) → post true S)))) ∧ ((S.1 148 (Int32.toNatClampNeg (a1 + 7))) = 62 → (vp_in (a1 + 2) 1900 ∧ ((y10 ≤ (S.1 148 (Int32.toNatClampNeg (a1 + 2))) → post false S) ∧ (¬ y10 ≤ (S.1 148 (Int32.toNatClampNeg (a1 + 2))) → post true S))))))) ∧ ((S.1 148 (Int32.toNatClampNeg (a1 + 7))) = 60 → (vp_in (a1 + 2) 1900 ∧ (((S.1 148 (Int32.toNatClampNeg (a1 + 2))) ≤ y10 → post false S) ∧ (¬ (S.1 148 (Int32.toNatClampNeg (a1 + 2))) ≤ y10 → post true S)))))))) ∧ (¬ 2 ≤ y8 → ((¬ y8 = 0 → p_X11_isRuined  S y9 (fun r12 S11 => post r12 S11)) ∧ (y8 = 0 → p_X11_isOpen  S y9 (fun r14 S13 => post r14 S13)))))))
set_option maxHeartbeats 4000000 in
set_option maxRecDepth 100000 in
theorem c_X11_isSo (l : Launch) (G : vG)    {S : vSt} (a1 : Int32) (post : Bool → vSt → Prop) (h : p_X11_isSo   S a1 post) : Met l yX11_isSo (v_ws yX11_isSo cX11_isSo 5 (some .boolean)) (v_rm 1 61) (v_Pc G [.ref (G.1 143), .int a1] S) (v_Qz G post) 0 0 (v_A G) := by
  refine v_start (by decide +kernel) (Nat.le_of_ble_eq_true rfl) (fun X hl C D => ?_)
  subst hl
  have C : v_Cx X G cX11_isSo RX11 5 (v_rm 1 61) := C
  show VJ X G S 0 [(0, .ref (G.1 143)), (1, .int a1)] []
  refine V_aload_n C 0 dX11_isSo_0 rfl rfl ?_
  refine V_ga C 143 (by decide) (by decide) F_11_20 k_RX11_35 dX11_isSo_1 ?_
  refine V_iload_n C 1 dX11_isSo_4 rfl rfl ?_
  refine V_bipush (v := 6) C dX11_isSo_5 (by decide) ?_
  refine V_iadd C dX11_isSo_7 ?_
  obtain ⟨hi, h⟩ := h
  refine V_iald C 148 1900 (by decide) (by decide) hi dX11_isSo_8 ?_
  refine V_topi (fun y8 ey8 => ?_)
  have h := h y8 ey8
  refine V_istore_n (lv' := [(0, .ref (G.1 143)), (1, .int a1), (2, .int y8)]) C [1, 2, 0] dX11_isSo_9 rfl (by decide) rfl ?_
  refine V_aload_n C 0 dX11_isSo_10 rfl rfl ?_
  refine V_ga C 143 (by decide) (by decide) F_11_20 k_RX11_35 dX11_isSo_11 ?_
  refine V_iload_n C 1 dX11_isSo_14 rfl rfl ?_
  refine V_iconst (v := 1) C dX11_isSo_15 (by decide) ?_
  refine V_iadd C dX11_isSo_16 ?_
  obtain ⟨hi, h⟩ := h
  refine V_iald C 148 1900 (by decide) (by decide) hi dX11_isSo_17 ?_
  refine V_topi (fun y9 ey9 => ?_)
  have h := h y9 ey9
  refine V_istore_n (lv' := [(0, .ref (G.1 143)), (1, .int a1), (2, .int y8), (3, .int y9)]) C [1, 2, 3, 0] dX11_isSo_18 rfl (by decide) rfl ?_
  refine V_iload_n C 2 dX11_isSo_19 rfl rfl ?_
  refine V_iconst (v := 2) C dX11_isSo_20 (by decide) ?_
  refine V_icmp_ge (tgt := 42) C dX11_isSo_21 (by decide) (fun c => ?_) (fun c => ?_)
  · have h := h.1 c
    refine V_aload_n C 0 dX11_isSo_42 rfl rfl ?_
    refine V_ga C 143 (by decide) (by decide) F_11_20 k_RX11_35 dX11_isSo_43 ?_
    refine V_bipush (v := 8) C dX11_isSo_46 (by decide) ?_
    refine V_iload_n C 3 dX11_isSo_48 rfl rfl ?_
    refine V_iadd C dX11_isSo_49 ?_
    obtain ⟨hi, h⟩ := h
    refine V_iald C 148 1900 (by decide) (by decide) hi dX11_isSo_50 ?_
    refine V_topi (fun y10 ey10 => ?_)
    have h := h y10 ey10
    refine V_istore (lv' := [(0, .ref (G.1 143)), (1, .int a1), (2, .int y8), (3, .int y9), (4, .int y10)]) C [1, 2, 3, 4, 0] dX11_isSo_51 (by decide) rfl ?_
    refine V_aload_n C 0 dX11_isSo_53 rfl rfl ?_
    refine V_ga C 143 (by decide) (by decide) F_11_20 k_RX11_35 dX11_isSo_54 ?_
    refine V_iload_n C 1 dX11_isSo_57 rfl rfl ?_
    refine V_bipush (v := 7) C dX11_isSo_58 (by decide) ?_
    refine V_iadd C dX11_isSo_60 ?_
    obtain ⟨hi, h⟩ := h
    refine V_iald C 148 1900 (by decide) (by decide) hi dX11_isSo_61 ?_
    refine V_bipush (v := 60) C dX11_isSo_62 (by decide) ?_
    refine V_icmp_ne (tgt := 88) C dX11_isSo_64 (by decide) (fun c => ?_) (fun c => ?_)
    · have h := h.1 c
      refine V_aload_n C 0 dX11_isSo_88 rfl rfl ?_
      refine V_ga C 143 (by decide) (by decide) F_11_20 k_RX11_35 dX11_isSo_89 ?_
      refine V_iload_n C 1 dX11_isSo_92 rfl rfl ?_
      refine V_bipush (v := 7) C dX11_isSo_93 (by decide) ?_
      refine V_iadd C dX11_isSo_95 ?_
      obtain ⟨hi, h⟩ := h
      refine V_iald C 148 1900 (by decide) (by decide) hi dX11_isSo_96 ?_
      refine V_bipush (v := 62) C dX11_isSo_97 (by decide) ?_
      refine V_icmp_ne (tgt := 123) C dX11_isSo_99 (by decide) (fun c => ?_) (fun c => ?_)
      · have h := h.1 c
        refine V_iload C 4 dX11_isSo_123 rfl ?_
        refine V_aload_n C 0 dX11_isSo_125 rfl rfl ?_
        refine V_ga C 143 (by decide) (by decide) F_11_20 k_RX11_35 dX11_isSo_126 ?_
        refine V_iload_n C 1 dX11_isSo_129 rfl rfl ?_
        refine V_iconst (v := 2) C dX11_isSo_130 (by decide) ?_
        refine V_iadd C dX11_isSo_131 ?_
        obtain ⟨hi, h⟩ := h
        refine V_iald C 148 1900 (by decide) (by decide) hi dX11_isSo_132 ?_
        refine V_icmp_ne (tgt := 140) C dX11_isSo_133 (by decide) (fun c => ?_) (fun c => ?_)
        · have h := h.1 c
          refine V_iconst (v := 0) C dX11_isSo_140 (by decide) ?_
          exact V_zret0 C D dX11_isSo_141 h
        · have h := h.2 c
          refine V_iconst (v := 1) C dX11_isSo_136 (by decide) ?_
          refine V_goto (tgt := 141) C dX11_isSo_137 (by decide) ?_
          exact V_zret1 C D dX11_isSo_141 h
      · have h := h.2 c
        refine V_iload C 4 dX11_isSo_102 rfl ?_
        refine V_aload_n C 0 dX11_isSo_104 rfl rfl ?_
        refine V_ga C 143 (by decide) (by decide) F_11_20 k_RX11_35 dX11_isSo_105 ?_
        refine V_iload_n C 1 dX11_isSo_108 rfl rfl ?_
        refine V_iconst (v := 2) C dX11_isSo_109 (by decide) ?_
        refine V_iadd C dX11_isSo_110 ?_
        obtain ⟨hi, h⟩ := h
        refine V_iald C 148 1900 (by decide) (by decide) hi dX11_isSo_111 ?_
        refine V_icmp_le (tgt := 119) C dX11_isSo_112 (by decide) (fun c => ?_) (fun c => ?_)
        · have h := h.1 c
          refine V_iconst (v := 0) C dX11_isSo_119 (by decide) ?_
          refine V_goto (tgt := 141) C dX11_isSo_120 (by decide) ?_
          exact V_zret0 C D dX11_isSo_141 h
        · have h := h.2 c
          refine V_iconst (v := 1) C dX11_isSo_115 (by decide) ?_
          refine V_goto (tgt := 141) C dX11_isSo_116 (by decide) ?_
          exact V_zret1 C D dX11_isSo_141 h
    · have h := h.2 c
      refine V_iload C 4 dX11_isSo_67 rfl ?_
      refine V_aload_n C 0 dX11_isSo_69 rfl rfl ?_
      refine V_ga C 143 (by decide) (by decide) F_11_20 k_RX11_35 dX11_isSo_70 ?_
      refine V_iload_n C 1 dX11_isSo_73 rfl rfl ?_
      refine V_iconst (v := 2) C dX11_isSo_74 (by decide) ?_
      refine V_iadd C dX11_isSo_75 ?_
      obtain ⟨hi, h⟩ := h
      refine V_iald C 148 1900 (by decide) (by decide) hi dX11_isSo_76 ?_
      refine V_icmp_ge (tgt := 84) C dX11_isSo_77 (by decide) (fun c => ?_) (fun c => ?_)
      · have h := h.1 c
        refine V_iconst (v := 0) C dX11_isSo_84 (by decide) ?_
        refine V_goto (tgt := 141) C dX11_isSo_85 (by decide) ?_
        exact V_zret0 C D dX11_isSo_141 h
      · have h := h.2 c
        refine V_iconst (v := 1) C dX11_isSo_80 (by decide) ?_
        refine V_goto (tgt := 141) C dX11_isSo_81 (by decide) ?_
        exact V_zret1 C D dX11_isSo_141 h
  · have h := h.2 c
    refine V_iload_n C 2 dX11_isSo_24 rfl rfl ?_
    refine V_if_ne (tgt := 36) C dX11_isSo_25 (by decide) (fun c => ?_) (fun c => ?_)
    · have h := h.1 c
      refine V_aload_n C 0 dX11_isSo_36 rfl rfl ?_
      refine V_iload_n C 3 dX11_isSo_37 rfl rfl ?_
      refine V_callVz (As := [.int y9]) (rest := []) C (c_X11_isRuined (v_l X) G  _ _ h) 143 11 (by decide) (by decide) (by decide) rfl KV_X11_isRuined k_RX11_298 rfl rfl rfl (Nat.le_of_ble_eq_true rfl) ⟨Nat.le_of_ble_eq_true rfl, Nat.le_of_ble_eq_true rfl⟩ dX11_isSo_38 (fun r12 S11 h => ?_)
      exact V_zret C D dX11_isSo_41 h
    · have h := h.2 c
      refine V_aload_n C 0 dX11_isSo_28 rfl rfl ?_
      refine V_iload_n C 3 dX11_isSo_29 rfl rfl ?_
      refine V_callVz (As := [.int y9]) (rest := []) C (c_X11_isOpen (v_l X) G  _ _ h) 143 11 (by decide) (by decide) (by decide) rfl KV_X11_isOpen k_RX11_295 rfl rfl rfl (Nat.le_of_ble_eq_true rfl) ⟨Nat.le_of_ble_eq_true rfl, Nat.le_of_ble_eq_true rfl⟩ dX11_isSo_30 (fun r14 S13 h => ?_)
      refine V_goto (tgt := 41) C dX11_isSo_33 (by decide) ?_
      exact V_zret C D dX11_isSo_41 h
/-! HalfAccuserModel.lived(I)I -/
theorem dX11_lived_0 : decode cX11_lived 0 = .ok ((.aload_n 0), 1) := by decide +kernel
theorem dX11_lived_1 : decode cX11_lived 1 = .ok ((.iconst 0), 1) := by decide +kernel
theorem dX11_lived_2 : decode cX11_lived 2 = .ok ((.putfield 60), 3) := by decide +kernel
theorem dX11_lived_5 : decode cX11_lived 5 = .ok ((.aload_n 0), 1) := by decide +kernel
theorem dX11_lived_6 : decode cX11_lived 6 = .ok ((.iconst 0), 1) := by decide +kernel
theorem dX11_lived_7 : decode cX11_lived 7 = .ok ((.putfield 63), 3) := by decide +kernel
theorem dX11_lived_10 : decode cX11_lived 10 = .ok ((.iload_n 1), 1) := by decide +kernel
theorem dX11_lived_11 : decode cX11_lived 11 = .ok (.i2l, 1) := by decide +kernel
theorem dX11_lived_12 : decode cX11_lived 12 = .ok ((.lconst 0), 1) := by decide +kernel
theorem dX11_lived_13 : decode cX11_lived 13 = .ok ((.ldc2_w 495), 3) := by decide +kernel
theorem dX11_lived_16 : decode cX11_lived 16 = .ok ((.invokestatic 95), 3) := by decide +kernel
theorem dX11_lived_19 : decode cX11_lived 19 = .ok ((.ifCond .ne 9), 3) := by decide +kernel
theorem dX11_lived_22 : decode cX11_lived 22 = .ok ((.aload_n 0), 1) := by decide +kernel
theorem dX11_lived_23 : decode cX11_lived 23 = .ok ((.iconst 5), 1) := by decide +kernel
theorem dX11_lived_24 : decode cX11_lived 24 = .ok ((.invokevirtual 303), 3) := by decide +kernel
theorem dX11_lived_27 : decode cX11_lived 27 = .ok (.ireturn, 1) := by decide +kernel
theorem dX11_lived_28 : decode cX11_lived 28 = .ok ((.aload_n 0), 1) := by decide +kernel
theorem dX11_lived_29 : decode cX11_lived 29 = .ok ((.getfield 492), 3) := by decide +kernel
theorem dX11_lived_32 : decode cX11_lived 32 = .ok ((.ifCond .eq 12), 3) := by decide +kernel
theorem dX11_lived_35 : decode cX11_lived 35 = .ok ((.aload_n 0), 1) := by decide +kernel
theorem dX11_lived_36 : decode cX11_lived 36 = .ok ((.getfield 53), 3) := by decide +kernel
theorem dX11_lived_39 : decode cX11_lived 39 = .ok ((.iload_n 1), 1) := by decide +kernel
theorem dX11_lived_40 : decode cX11_lived 40 = .ok (.iaload, 1) := by decide +kernel
theorem dX11_lived_41 : decode cX11_lived 41 = .ok ((.goto 9), 3) := by decide +kernel
theorem dX11_lived_44 : decode cX11_lived 44 = .ok ((.aload_n 0), 1) := by decide +kernel
theorem dX11_lived_45 : decode cX11_lived 45 = .ok ((.bipush 8), 2) := by decide +kernel
theorem dX11_lived_47 : decode cX11_lived 47 = .ok ((.invokevirtual 303), 3) := by decide +kernel
theorem dX11_lived_50 : decode cX11_lived 50 = .ok (.ireturn, 1) := by decide +kernel
def p_X11_lived   (S : vSt) (a1 : Int32) (post : Int32 → vSt → Prop) : Prop := ∀ S9, S9 = v_si S 143 1 0 → ∀ S10, S10 = v_si S9 143 0 0 → p_X11_isIn  S10 (Int32.toInt64 a1) 0 4 (fun r12 S11 => ((r12 = true → (((S11.1 143 33) = 0 → p_X11_refuse  S11 8 (fun r14 S13 => post r14 S13)) ∧ (¬ (S11.1 143 33) = 0 → (vp_in a1 5 ∧ post (S11.1 154 (Int32.toNatClampNeg a1)) S11)))) ∧ (r12 = false → p_X11_refuse  S11 5 (fun r16 S15 => post r16 S15))))
set_option maxHeartbeats 4000000 in
set_option maxRecDepth 100000 in
theorem c_X11_lived (l : Launch) (G : vG)    {S : vSt} (a1 : Int32) (post : Int32 → vSt → Prop) (h : p_X11_lived   S a1 post) : Met l yX11_lived (v_ws yX11_lived cX11_lived 2 (some .int)) (v_rm 1 65) (v_Pc G [.ref (G.1 143), .int a1] S) (v_Qi G post) 0 0 (v_A G) := by
  refine v_start (by decide +kernel) (Nat.le_of_ble_eq_true rfl) (fun X hl C D => ?_)
  subst hl
  have C : v_Cx X G cX11_lived RX11 2 (v_rm 1 65) := C
  show VJ X G S 0 [(0, .ref (G.1 143)), (1, .int a1)] []
  refine V_aload_n C 0 dX11_lived_0 rfl rfl ?_
  refine V_iconst (v := 0) C dX11_lived_1 (by decide) ?_
  refine V_pi C 143 (by decide) (by decide) P_11_1 k_RX11_60 dX11_lived_2 ?_
  refine V_topS (fun S9 eS9 => ?_)
  have h := h S9 eS9
  refine V_aload_n C 0 dX11_lived_5 rfl rfl ?_
  refine V_iconst (v := 0) C dX11_lived_6 (by decide) ?_
  refine V_pi C 143 (by decide) (by decide) P_11_0 k_RX11_63 dX11_lived_7 ?_
  refine V_topS (fun S10 eS10 => ?_)
  have h := h S10 eS10
  refine V_iload_n C 1 dX11_lived_10 rfl rfl ?_
  refine V_i2l C dX11_lived_11 ?_
  refine V_lconst (v := 0) C dX11_lived_12 (by decide) ?_
  refine V_ldc2 (v := 4) C k_RX11_495 dX11_lived_13 ?_
  refine V_callSz (As := [.long (Int32.toInt64 a1), .long 0, .long 4]) (rest := []) C (c_X11_isIn (v_l X) G  _ _ _ _ h) KV_X11_isIn k_RX11_95 rfl rfl rfl (Nat.le_of_ble_eq_true rfl) ⟨Nat.le_of_ble_eq_true rfl, Nat.le_of_ble_eq_true rfl⟩ dX11_lived_16 (fun r12 S11 h => ?_)
  refine V_ifb_ne (tgt := 28) C dX11_lived_19 (by decide) (fun c => ?_) (fun c => ?_)
  · have h := h.1 c
    refine V_aload_n C 0 dX11_lived_28 rfl rfl ?_
    refine V_gi C 143 (by decide) (by decide) F_11_33 k_RX11_492 dX11_lived_29 ?_
    refine V_if_eq (tgt := 44) C dX11_lived_32 (by decide) (fun c => ?_) (fun c => ?_)
    · have h := h.1 c
      refine V_aload_n C 0 dX11_lived_44 rfl rfl ?_
      refine V_bipush (v := 8) C dX11_lived_45 (by decide) ?_
      refine V_callVi (As := [.int 8]) (rest := []) C (c_X11_refuse (v_l X) G  _ _ h) 143 11 (by decide) (by decide) (by decide) rfl KV_X11_refuse k_RX11_303 rfl rfl rfl (Nat.le_of_ble_eq_true rfl) ⟨Nat.le_of_ble_eq_true rfl, Nat.le_of_ble_eq_true rfl⟩ dX11_lived_47 (fun r14 S13 h => ?_)
      exact V_iret C D dX11_lived_50 h
    · have h := h.2 c
      refine V_aload_n C 0 dX11_lived_35 rfl rfl ?_
      refine V_ga C 143 (by decide) (by decide) F_11_32 k_RX11_53 dX11_lived_36 ?_
      refine V_iload_n C 1 dX11_lived_39 rfl rfl ?_
      obtain ⟨hi, h⟩ := h
      refine V_iald C 154 5 (by decide) (by decide) hi dX11_lived_40 ?_
      refine V_goto (tgt := 50) C dX11_lived_41 (by decide) ?_
      exact V_iret C D dX11_lived_50 h
  · have h := h.2 c
    refine V_aload_n C 0 dX11_lived_22 rfl rfl ?_
    refine V_iconst (v := 5) C dX11_lived_23 (by decide) ?_
    refine V_callVi (As := [.int 5]) (rest := []) C (c_X11_refuse (v_l X) G  _ _ h) 143 11 (by decide) (by decide) (by decide) rfl KV_X11_refuse k_RX11_303 rfl rfl rfl (Nat.le_of_ble_eq_true rfl) ⟨Nat.le_of_ble_eq_true rfl, Nat.le_of_ble_eq_true rfl⟩ dX11_lived_24 (fun r16 S15 h => ?_)
    exact V_iret C D dX11_lived_27 h
/-! HalfAccuserModel.mark()I -/
theorem dX11_mark_0 : decode cX11_mark 0 = .ok ((.aload_n 0), 1) := by decide +kernel
theorem dX11_mark_1 : decode cX11_mark 1 = .ok ((.iconst 0), 1) := by decide +kernel
theorem dX11_mark_2 : decode cX11_mark 2 = .ok ((.putfield 60), 3) := by decide +kernel
theorem dX11_mark_5 : decode cX11_mark 5 = .ok ((.aload_n 0), 1) := by decide +kernel
theorem dX11_mark_6 : decode cX11_mark 6 = .ok ((.iconst 0), 1) := by decide +kernel
theorem dX11_mark_7 : decode cX11_mark 7 = .ok ((.putfield 63), 3) := by decide +kernel
theorem dX11_mark_10 : decode cX11_mark 10 = .ok ((.aload_n 0), 1) := by decide +kernel
theorem dX11_mark_11 : decode cX11_mark 11 = .ok ((.getfield 499), 3) := by decide +kernel
theorem dX11_mark_14 : decode cX11_mark 14 = .ok ((.iconst 3), 1) := by decide +kernel
theorem dX11_mark_15 : decode cX11_mark 15 = .ok ((.if_icmp .ne 10), 3) := by decide +kernel
theorem dX11_mark_18 : decode cX11_mark 18 = .ok ((.aload_n 0), 1) := by decide +kernel
theorem dX11_mark_19 : decode cX11_mark 19 = .ok ((.bipush 7), 2) := by decide +kernel
theorem dX11_mark_21 : decode cX11_mark 21 = .ok ((.invokevirtual 303), 3) := by decide +kernel
theorem dX11_mark_24 : decode cX11_mark 24 = .ok (.ireturn, 1) := by decide +kernel
theorem dX11_mark_25 : decode cX11_mark 25 = .ok ((.aload_n 0), 1) := by decide +kernel
theorem dX11_mark_26 : decode cX11_mark 26 = .ok (.dup, 1) := by decide +kernel
theorem dX11_mark_27 : decode cX11_mark 27 = .ok ((.getfield 499), 3) := by decide +kernel
theorem dX11_mark_30 : decode cX11_mark 30 = .ok ((.iconst 1), 1) := by decide +kernel
theorem dX11_mark_31 : decode cX11_mark 31 = .ok (.iadd, 1) := by decide +kernel
theorem dX11_mark_32 : decode cX11_mark 32 = .ok ((.putfield 499), 3) := by decide +kernel
theorem dX11_mark_35 : decode cX11_mark 35 = .ok ((.aload_n 0), 1) := by decide +kernel
theorem dX11_mark_36 : decode cX11_mark 36 = .ok ((.iconst 0), 1) := by decide +kernel
theorem dX11_mark_37 : decode cX11_mark 37 = .ok ((.aload_n 0), 1) := by decide +kernel
theorem dX11_mark_38 : decode cX11_mark 38 = .ok ((.getfield 499), 3) := by decide +kernel
theorem dX11_mark_41 : decode cX11_mark 41 = .ok ((.invokevirtual 274), 3) := by decide +kernel
theorem dX11_mark_44 : decode cX11_mark 44 = .ok ((.aload_n 0), 1) := by decide +kernel
theorem dX11_mark_45 : decode cX11_mark 45 = .ok ((.getfield 499), 3) := by decide +kernel
theorem dX11_mark_48 : decode cX11_mark 48 = .ok (.ireturn, 1) := by decide +kernel
def p_X11_mark   (S : vSt)  (post : Int32 → vSt → Prop) : Prop := ∀ S7, S7 = v_si S 143 1 0 → ∀ S8, S8 = v_si S7 143 0 0 → ((¬ (S8.1 143 23) = 3 → ∀ S9, S9 = v_si S8 143 23 ((S8.1 143 23) + 1) → p_X11_copy  S9 0 (S9.1 143 23) (fun S10 => post (S10.1 143 23) S10)) ∧ ((S8.1 143 23) = 3 → p_X11_refuse  S8 7 (fun r12 S11 => post r12 S11)))
set_option maxHeartbeats 4000000 in
set_option maxRecDepth 100000 in
theorem c_X11_mark (l : Launch) (G : vG)    {S : vSt}  (post : Int32 → vSt → Prop) (h : p_X11_mark   S  post) : Met l yX11_mark (v_ws yX11_mark cX11_mark 1 (some .int)) (v_rm 1 63) (v_Pc G [.ref (G.1 143)] S) (v_Qi G post) 0 0 (v_A G) := by
  refine v_start (by decide +kernel) (Nat.le_of_ble_eq_true rfl) (fun X hl C D => ?_)
  subst hl
  have C : v_Cx X G cX11_mark RX11 1 (v_rm 1 63) := C
  show VJ X G S 0 [(0, .ref (G.1 143))] []
  refine V_aload_n C 0 dX11_mark_0 rfl rfl ?_
  refine V_iconst (v := 0) C dX11_mark_1 (by decide) ?_
  refine V_pi C 143 (by decide) (by decide) P_11_1 k_RX11_60 dX11_mark_2 ?_
  refine V_topS (fun S7 eS7 => ?_)
  have h := h S7 eS7
  refine V_aload_n C 0 dX11_mark_5 rfl rfl ?_
  refine V_iconst (v := 0) C dX11_mark_6 (by decide) ?_
  refine V_pi C 143 (by decide) (by decide) P_11_0 k_RX11_63 dX11_mark_7 ?_
  refine V_topS (fun S8 eS8 => ?_)
  have h := h S8 eS8
  refine V_aload_n C 0 dX11_mark_10 rfl rfl ?_
  refine V_gi C 143 (by decide) (by decide) F_11_23 k_RX11_499 dX11_mark_11 ?_
  refine V_iconst (v := 3) C dX11_mark_14 (by decide) ?_
  refine V_icmp_ne (tgt := 25) C dX11_mark_15 (by decide) (fun c => ?_) (fun c => ?_)
  · have h := h.1 c
    refine V_aload_n C 0 dX11_mark_25 rfl rfl ?_
    refine V_dup C dX11_mark_26 rfl ?_
    refine V_gi C 143 (by decide) (by decide) F_11_23 k_RX11_499 dX11_mark_27 ?_
    refine V_iconst (v := 1) C dX11_mark_30 (by decide) ?_
    refine V_iadd C dX11_mark_31 ?_
    refine V_pi C 143 (by decide) (by decide) P_11_23 k_RX11_499 dX11_mark_32 ?_
    refine V_topS (fun S9 eS9 => ?_)
    have h := h S9 eS9
    refine V_aload_n C 0 dX11_mark_35 rfl rfl ?_
    refine V_iconst (v := 0) C dX11_mark_36 (by decide) ?_
    refine V_aload_n C 0 dX11_mark_37 rfl rfl ?_
    refine V_gi C 143 (by decide) (by decide) F_11_23 k_RX11_499 dX11_mark_38 ?_
    refine V_callVv (As := [.int 0, .int (S9.1 143 23)]) (rest := []) C (c_X11_copy (v_l X) G  _ _ _ h) 143 11 (by decide) (by decide) (by decide) rfl KV_X11_copy k_RX11_274 rfl rfl rfl (Nat.le_of_ble_eq_true rfl) ⟨Nat.le_of_ble_eq_true rfl, Nat.le_of_ble_eq_true rfl⟩ dX11_mark_41 (fun S10 h => ?_)
    refine V_aload_n C 0 dX11_mark_44 rfl rfl ?_
    refine V_gi C 143 (by decide) (by decide) F_11_23 k_RX11_499 dX11_mark_45 ?_
    exact V_iret C D dX11_mark_48 h
  · have h := h.2 c
    refine V_aload_n C 0 dX11_mark_18 rfl rfl ?_
    refine V_bipush (v := 7) C dX11_mark_19 (by decide) ?_
    refine V_callVi (As := [.int 7]) (rest := []) C (c_X11_refuse (v_l X) G  _ _ h) 143 11 (by decide) (by decide) (by decide) rfl KV_X11_refuse k_RX11_303 rfl rfl rfl (Nat.le_of_ble_eq_true rfl) ⟨Nat.le_of_ble_eq_true rfl, Nat.le_of_ble_eq_true rfl⟩ dX11_mark_21 (fun r12 S11 h => ?_)
    exact V_iret C D dX11_mark_24 h
/-! HalfAccuserModel.back()I -/
theorem dX11_back_0 : decode cX11_back 0 = .ok ((.aload_n 0), 1) := by decide +kernel
theorem dX11_back_1 : decode cX11_back 1 = .ok ((.iconst 0), 1) := by decide +kernel
theorem dX11_back_2 : decode cX11_back 2 = .ok ((.putfield 60), 3) := by decide +kernel
theorem dX11_back_5 : decode cX11_back 5 = .ok ((.aload_n 0), 1) := by decide +kernel
theorem dX11_back_6 : decode cX11_back 6 = .ok ((.iconst 0), 1) := by decide +kernel
theorem dX11_back_7 : decode cX11_back 7 = .ok ((.putfield 63), 3) := by decide +kernel
theorem dX11_back_10 : decode cX11_back 10 = .ok ((.aload_n 0), 1) := by decide +kernel
theorem dX11_back_11 : decode cX11_back 11 = .ok ((.getfield 499), 3) := by decide +kernel
theorem dX11_back_14 : decode cX11_back 14 = .ok ((.ifCond .ne 10), 3) := by decide +kernel
theorem dX11_back_17 : decode cX11_back 17 = .ok ((.aload_n 0), 1) := by decide +kernel
theorem dX11_back_18 : decode cX11_back 18 = .ok ((.bipush 8), 2) := by decide +kernel
theorem dX11_back_20 : decode cX11_back 20 = .ok ((.invokevirtual 303), 3) := by decide +kernel
theorem dX11_back_23 : decode cX11_back 23 = .ok (.ireturn, 1) := by decide +kernel
theorem dX11_back_24 : decode cX11_back 24 = .ok ((.aload_n 0), 1) := by decide +kernel
theorem dX11_back_25 : decode cX11_back 25 = .ok ((.aload_n 0), 1) := by decide +kernel
theorem dX11_back_26 : decode cX11_back 26 = .ok ((.getfield 499), 3) := by decide +kernel
theorem dX11_back_29 : decode cX11_back 29 = .ok ((.iconst 0), 1) := by decide +kernel
theorem dX11_back_30 : decode cX11_back 30 = .ok ((.invokevirtual 274), 3) := by decide +kernel
theorem dX11_back_33 : decode cX11_back 33 = .ok ((.aload_n 0), 1) := by decide +kernel
theorem dX11_back_34 : decode cX11_back 34 = .ok (.dup, 1) := by decide +kernel
theorem dX11_back_35 : decode cX11_back 35 = .ok ((.getfield 499), 3) := by decide +kernel
theorem dX11_back_38 : decode cX11_back 38 = .ok ((.iconst 1), 1) := by decide +kernel
theorem dX11_back_39 : decode cX11_back 39 = .ok (.isub, 1) := by decide +kernel
theorem dX11_back_40 : decode cX11_back 40 = .ok ((.putfield 499), 3) := by decide +kernel
theorem dX11_back_43 : decode cX11_back 43 = .ok ((.aload_n 0), 1) := by decide +kernel
theorem dX11_back_44 : decode cX11_back 44 = .ok ((.getfield 499), 3) := by decide +kernel
theorem dX11_back_47 : decode cX11_back 47 = .ok (.ireturn, 1) := by decide +kernel
def p_X11_back   (S : vSt)  (post : Int32 → vSt → Prop) : Prop := ∀ S7, S7 = v_si S 143 1 0 → ∀ S8, S8 = v_si S7 143 0 0 → ((¬ (S8.1 143 23) = 0 → p_X11_copy  S8 (S8.1 143 23) 0 (fun S9 => ∀ S10, S10 = v_si S9 143 23 ((S9.1 143 23) - 1) → post (S10.1 143 23) S10)) ∧ ((S8.1 143 23) = 0 → p_X11_refuse  S8 8 (fun r12 S11 => post r12 S11)))
set_option maxHeartbeats 4000000 in
set_option maxRecDepth 100000 in
theorem c_X11_back (l : Launch) (G : vG)    {S : vSt}  (post : Int32 → vSt → Prop) (h : p_X11_back   S  post) : Met l yX11_back (v_ws yX11_back cX11_back 1 (some .int)) (v_rm 1 63) (v_Pc G [.ref (G.1 143)] S) (v_Qi G post) 0 0 (v_A G) := by
  refine v_start (by decide +kernel) (Nat.le_of_ble_eq_true rfl) (fun X hl C D => ?_)
  subst hl
  have C : v_Cx X G cX11_back RX11 1 (v_rm 1 63) := C
  show VJ X G S 0 [(0, .ref (G.1 143))] []
  refine V_aload_n C 0 dX11_back_0 rfl rfl ?_
  refine V_iconst (v := 0) C dX11_back_1 (by decide) ?_
  refine V_pi C 143 (by decide) (by decide) P_11_1 k_RX11_60 dX11_back_2 ?_
  refine V_topS (fun S7 eS7 => ?_)
  have h := h S7 eS7
  refine V_aload_n C 0 dX11_back_5 rfl rfl ?_
  refine V_iconst (v := 0) C dX11_back_6 (by decide) ?_
  refine V_pi C 143 (by decide) (by decide) P_11_0 k_RX11_63 dX11_back_7 ?_
  refine V_topS (fun S8 eS8 => ?_)
  have h := h S8 eS8
  refine V_aload_n C 0 dX11_back_10 rfl rfl ?_
  refine V_gi C 143 (by decide) (by decide) F_11_23 k_RX11_499 dX11_back_11 ?_
  refine V_if_ne (tgt := 24) C dX11_back_14 (by decide) (fun c => ?_) (fun c => ?_)
  · have h := h.1 c
    refine V_aload_n C 0 dX11_back_24 rfl rfl ?_
    refine V_aload_n C 0 dX11_back_25 rfl rfl ?_
    refine V_gi C 143 (by decide) (by decide) F_11_23 k_RX11_499 dX11_back_26 ?_
    refine V_iconst (v := 0) C dX11_back_29 (by decide) ?_
    refine V_callVv (As := [.int (S8.1 143 23), .int 0]) (rest := []) C (c_X11_copy (v_l X) G  _ _ _ h) 143 11 (by decide) (by decide) (by decide) rfl KV_X11_copy k_RX11_274 rfl rfl rfl (Nat.le_of_ble_eq_true rfl) ⟨Nat.le_of_ble_eq_true rfl, Nat.le_of_ble_eq_true rfl⟩ dX11_back_30 (fun S9 h => ?_)
    refine V_aload_n C 0 dX11_back_33 rfl rfl ?_
    refine V_dup C dX11_back_34 rfl ?_
    refine V_gi C 143 (by decide) (by decide) F_11_23 k_RX11_499 dX11_back_35 ?_
    refine V_iconst (v := 1) C dX11_back_38 (by decide) ?_
    refine V_isub C dX11_back_39 ?_
    refine V_pi C 143 (by decide) (by decide) P_11_23 k_RX11_499 dX11_back_40 ?_
    refine V_topS (fun S10 eS10 => ?_)
    have h := h S10 eS10
    refine V_aload_n C 0 dX11_back_43 rfl rfl ?_
    refine V_gi C 143 (by decide) (by decide) F_11_23 k_RX11_499 dX11_back_44 ?_
    exact V_iret C D dX11_back_47 h
  · have h := h.2 c
    refine V_aload_n C 0 dX11_back_17 rfl rfl ?_
    refine V_bipush (v := 8) C dX11_back_18 (by decide) ?_
    refine V_callVi (As := [.int 8]) (rest := []) C (c_X11_refuse (v_l X) G  _ _ h) 143 11 (by decide) (by decide) (by decide) rfl KV_X11_refuse k_RX11_303 rfl rfl rfl (Nat.le_of_ble_eq_true rfl) ⟨Nat.le_of_ble_eq_true rfl, Nat.le_of_ble_eq_true rfl⟩ dX11_back_20 (fun r12 S11 h => ?_)
    exact V_iret C D dX11_back_23 h
/-! java/lang/StringUTF16.length([B)I -/
theorem dJ2_length_9d52b_0 : decode cJ2_length_9d52b 0 = .ok ((.aload_n 0), 1) := by decide +kernel
theorem dJ2_length_9d52b_1 : decode cJ2_length_9d52b 1 = .ok (.arraylength, 1) := by decide +kernel
theorem dJ2_length_9d52b_2 : decode cJ2_length_9d52b 2 = .ok ((.iconst 1), 1) := by decide +kernel
theorem dJ2_length_9d52b_3 : decode cJ2_length_9d52b 3 = .ok (.ishr, 1) := by decide +kernel
theorem dJ2_length_9d52b_4 : decode cJ2_length_9d52b 4 = .ok (.ireturn, 1) := by decide +kernel
def p_J2_length_9d52b (k0 n0 : Nat)  (S : vSt)  (post : Int32 → vSt → Prop) : Prop := post ((Int32.ofNat n0) >>> (1 &&& 31)) S
set_option maxHeartbeats 4000000 in
set_option maxRecDepth 100000 in
theorem c_J2_length_9d52b (l : Launch) (G : vG)  {k0 n0 : Nat} (hk0 : k0 < 155) (hs0 : v_sh k0 = (12, n0))  {S : vSt}  (post : Int32 → vSt → Prop) (h : p_J2_length_9d52b k0 n0  S  post) : Met l yJ2_length_9d52b (v_ws yJ2_length_9d52b cJ2_length_9d52b 1 (some .int)) (v_rm 0 40) (v_Pc G [.ref (G.1 k0)] S) (v_Qi G post) 0 0 (v_A G) := by
  refine v_start (by decide +kernel) (Nat.le_of_ble_eq_true rfl) (fun X hl C D => ?_)
  subst hl
  have C : v_Cx X G cJ2_length_9d52b RJ2 1 (v_rm 0 40) := C
  show VJ X G S 0 [(0, .ref (G.1 k0))] []
  refine V_aload_n C 0 dJ2_length_9d52b_0 rfl rfl ?_
  refine V_alen C k0 n0 hk0 (Or.inl hs0) dJ2_length_9d52b_1 ?_
  refine V_iconst (v := 1) C dJ2_length_9d52b_2 (by decide) ?_
  refine V_ishr C dJ2_length_9d52b_3 ?_
  exact V_iret C D dJ2_length_9d52b_4 h
