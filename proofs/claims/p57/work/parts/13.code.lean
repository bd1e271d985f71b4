/-! HalfAccuser.leastShare(I)I -/
theorem dX10_leastShare_0 : decode cX10_leastShare 0 = .ok ((.aload_n 0), 1) := by decide +kernel
theorem dX10_leastShare_1 : decode cX10_leastShare 1 = .ok ((.getfield 26), 3) := by decide +kernel
theorem dX10_leastShare_4 : decode cX10_leastShare 4 = .ok ((.iload_n 1), 1) := by decide +kernel
theorem dX10_leastShare_5 : decode cX10_leastShare 5 = .ok ((.invokevirtual 194), 3) := by decide +kernel
theorem dX10_leastShare_8 : decode cX10_leastShare 8 = .ok ((.ifCond .ne 9), 3) := by decide +kernel
theorem dX10_leastShare_11 : decode cX10_leastShare 11 = .ok ((.aload_n 0), 1) := by decide +kernel
theorem dX10_leastShare_12 : decode cX10_leastShare 12 = .ok ((.iconst 2), 1) := by decide +kernel
theorem dX10_leastShare_13 : decode cX10_leastShare 13 = .ok ((.invokevirtual 153), 3) := by decide +kernel
theorem dX10_leastShare_16 : decode cX10_leastShare 16 = .ok (.ireturn, 1) := by decide +kernel
theorem dX10_leastShare_17 : decode cX10_leastShare 17 = .ok ((.aload_n 0), 1) := by decide +kernel
theorem dX10_leastShare_18 : decode cX10_leastShare 18 = .ok ((.aload_n 0), 1) := by decide +kernel
theorem dX10_leastShare_19 : decode cX10_leastShare 19 = .ok ((.invokevirtual 307), 3) := by decide +kernel
theorem dX10_leastShare_22 : decode cX10_leastShare 22 = .ok ((.iload_n 1), 1) := by decide +kernel
theorem dX10_leastShare_23 : decode cX10_leastShare 23 = .ok ((.invokevirtual 352), 3) := by decide +kernel
theorem dX10_leastShare_26 : decode cX10_leastShare 26 = .ok ((.invokevirtual 320), 3) := by decide +kernel
theorem dX10_leastShare_29 : decode cX10_leastShare 29 = .ok (.ireturn, 1) := by decide +kernel
def p_X10_leastShare   (S : vSt) (a1 : Int32) (post : Int32 → vSt → Prop) : Prop := p_X0_hasDeed 10 S a1 (fun r11 S10 => ((r11 = true → p_X10_seen  S10  (fun S12 => p_X3_leastGladShare  S12 a1 (fun r14 S13 => p_X10_toldIfAny  S13 r14 (fun r16 S15 => post r16 S15)))) ∧ (r11 = false → p_X10_refused  S10 2 (fun r18 S17 => post r18 S17))))
set_option maxHeartbeats 4000000 in
set_option maxRecDepth 100000 in
theorem c_X10_leastShare (l : Launch) (G : vG)    {S : vSt} (a1 : Int32) (post : Int32 → vSt → Prop) (h : p_X10_leastShare   S a1 post) : Met l yX10_leastShare (v_ws yX10_leastShare cX10_leastShare 2 (some .int)) (v_rm 6 176) (v_Pc G [.ref (G.1 0), .int a1] S) (v_Qi G post) 0 0 (v_A G) := by
  refine v_start (by decide +kernel) (Nat.le_of_ble_eq_true rfl) (fun X hl C D => ?_)
  subst hl
  have C : v_Cx X G cX10_leastShare RX10 2 (v_rm 6 176) := C
  show VJ X G S 0 [(0, .ref (G.1 0)), (1, .int a1)] []
  refine V_aload_n C 0 dX10_leastShare_0 rfl rfl ?_
  refine V_ga C 0 (by decide) (by decide) F_10_2 k_RX10_26 dX10_leastShare_1 ?_
  refine V_iload_n C 1 dX10_leastShare_4 rfl rfl ?_
  refine V_callVz (As := [.int a1]) (rest := []) C (c_X0_hasDeed (v_l X) G v_i10 _ _ h) 10 0 (by decide) (by decide) (by decide) rfl KV_X0_hasDeed k_RX10_194 rfl rfl rfl (Nat.le_of_ble_eq_true rfl) ⟨Nat.le_of_ble_eq_true rfl, Nat.le_of_ble_eq_true rfl⟩ dX10_leastShare_5 (fun r11 S10 h => ?_)
  refine V_ifb_ne (tgt := 17) C dX10_leastShare_8 (by decide) (fun c => ?_) (fun c => ?_)
  · have h := h.1 c
    refine V_aload_n C 0 dX10_leastShare_17 rfl rfl ?_
    refine V_aload_n C 0 dX10_leastShare_18 rfl rfl ?_
    refine V_callVr (As := []) (rest := [.ref (G.1 0)]) C (c_X10_seen (v_l X) G  _ h) 0 10 (by decide) (by decide) (by decide) rfl KV_X10_seen k_RX10_307 rfl rfl rfl (Nat.le_of_ble_eq_true rfl) ⟨Nat.le_of_ble_eq_true rfl, Nat.le_of_ble_eq_true rfl⟩ dX10_leastShare_19 (fun S12 h => ?_)
    refine V_iload_n C 1 dX10_leastShare_22 rfl rfl ?_
    refine V_callVi (As := [.int a1]) (rest := [.ref (G.1 0)]) C (c_X3_leastGladShare (v_l X) G  _ _ h) 58 3 (by decide) (by decide) (by decide) rfl KV_X3_leastGladShare k_RX10_352 rfl rfl rfl (Nat.le_of_ble_eq_true rfl) ⟨Nat.le_of_ble_eq_true rfl, Nat.le_of_ble_eq_true rfl⟩ dX10_leastShare_23 (fun r14 S13 h => ?_)
    refine V_callVi (As := [.int r14]) (rest := []) C (c_X10_toldIfAny (v_l X) G  _ _ h) 0 10 (by decide) (by decide) (by decide) rfl KV_X10_toldIfAny k_RX10_320 rfl rfl rfl (Nat.le_of_ble_eq_true rfl) ⟨Nat.le_of_ble_eq_true rfl, Nat.le_of_ble_eq_true rfl⟩ dX10_leastShare_26 (fun r16 S15 h => ?_)
    exact V_iret C D dX10_leastShare_29 h
  · have h := h.2 c
    refine V_aload_n C 0 dX10_leastShare_11 rfl rfl ?_
    refine V_iconst (v := 2) C dX10_leastShare_12 (by decide) ?_
    refine V_callVi (As := [.int 2]) (rest := []) C (c_X10_refused (v_l X) G  _ _ h) 0 10 (by decide) (by decide) (by decide) rfl KV_X10_refused k_RX10_153 rfl rfl rfl (Nat.le_of_ble_eq_true rfl) ⟨Nat.le_of_ble_eq_true rfl, Nat.le_of_ble_eq_true rfl⟩ dX10_leastShare_13 (fun r18 S17 h => ?_)
    exact V_iret C D dX10_leastShare_16 h
/-! HalfAccuser.leastFine(I)I -/
theorem dX10_leastFine_0 : decode cX10_leastFine 0 = .ok ((.aload_n 0), 1) := by decide +kernel
theorem dX10_leastFine_1 : decode cX10_leastFine 1 = .ok ((.getfield 26), 3) := by decide +kernel
theorem dX10_leastFine_4 : decode cX10_leastFine 4 = .ok ((.iload_n 1), 1) := by decide +kernel
theorem dX10_leastFine_5 : decode cX10_leastFine 5 = .ok ((.invokevirtual 194), 3) := by decide +kernel
theorem dX10_leastFine_8 : decode cX10_leastFine 8 = .ok ((.ifCond .ne 9), 3) := by decide +kernel
theorem dX10_leastFine_11 : decode cX10_leastFine 11 = .ok ((.aload_n 0), 1) := by decide +kernel
theorem dX10_leastFine_12 : decode cX10_leastFine 12 = .ok ((.iconst 2), 1) := by decide +kernel
theorem dX10_leastFine_13 : decode cX10_leastFine 13 = .ok ((.invokevirtual 153), 3) := by decide +kernel
theorem dX10_leastFine_16 : decode cX10_leastFine 16 = .ok (.ireturn, 1) := by decide +kernel
theorem dX10_leastFine_17 : decode cX10_leastFine 17 = .ok ((.aload_n 0), 1) := by decide +kernel
theorem dX10_leastFine_18 : decode cX10_leastFine 18 = .ok ((.aload_n 0), 1) := by decide +kernel
theorem dX10_leastFine_19 : decode cX10_leastFine 19 = .ok ((.invokevirtual 307), 3) := by decide +kernel
theorem dX10_leastFine_22 : decode cX10_leastFine 22 = .ok ((.iload_n 1), 1) := by decide +kernel
theorem dX10_leastFine_23 : decode cX10_leastFine 23 = .ok ((.invokevirtual 355), 3) := by decide +kernel
theorem dX10_leastFine_26 : decode cX10_leastFine 26 = .ok ((.invokevirtual 320), 3) := by decide +kernel
theorem dX10_leastFine_29 : decode cX10_leastFine 29 = .ok (.ireturn, 1) := by decide +kernel
def p_X10_leastFine   (S : vSt) (a1 : Int32) (post : Int32 → vSt → Prop) : Prop := p_X0_hasDeed 10 S a1 (fun r11 S10 => ((r11 = true → p_X10_seen  S10  (fun S12 => p_X3_leastGladFine  S12 a1 (fun r14 S13 => p_X10_toldIfAny  S13 r14 (fun r16 S15 => post r16 S15)))) ∧ (r11 = false → p_X10_refused  S10 2 (fun r18 S17 => post r18 S17))))
set_option maxHeartbeats 4000000 in
set_option maxRecDepth 100000 in
theorem c_X10_leastFine (l : Launch) (G : vG)    {S : vSt} (a1 : Int32) (post : Int32 → vSt → Prop) (h : p_X10_leastFine   S a1 post) : Met l yX10_leastFine (v_ws yX10_leastFine cX10_leastFine 2 (some .int)) (v_rm 6 176) (v_Pc G [.ref (G.1 0), .int a1] S) (v_Qi G post) 0 0 (v_A G) := by
  refine v_start (by decide +kernel) (Nat.le_of_ble_eq_true rfl) (fun X hl C D => ?_)
  subst hl
  have C : v_Cx X G cX10_leastFine RX10 2 (v_rm 6 176) := C
  show VJ X G S 0 [(0, .ref (G.1 0)), (1, .int a1)] []
  refine V_aload_n C 0 dX10_leastFine_0 rfl rfl ?_
  refine V_ga C 0 (by decide) (by decide) F_10_2 k_RX10_26 dX10_leastFine_1 ?_
  refine V_iload_n C 1 dX10_leastFine_4 rfl rfl ?_
  refine V_callVz (As := [.int a1]) (rest := []) C (c_X0_hasDeed (v_l X) G v_i10 _ _ h) 10 0 (by decide) (by decide) (by decide) rfl KV_X0_hasDeed k_RX10_194 rfl rfl rfl (Nat.le_of_ble_eq_true rfl) ⟨Nat.le_of_ble_eq_true rfl, Nat.le_of_ble_eq_true rfl⟩ dX10_leastFine_5 (fun r11 S10 h => ?_)
  refine V_ifb_ne (tgt := 17) C dX10_leastFine_8 (by decide) (fun c => ?_) (fun c => ?_)
  · have h := h.1 c
    refine V_aload_n C 0 dX10_leastFine_17 rfl rfl ?_
    refine V_aload_n C 0 dX10_leastFine_18 rfl rfl ?_
    refine V_callVr (As := []) (rest := [.ref (G.1 0)]) C (c_X10_seen (v_l X) G  _ h) 0 10 (by decide) (by decide) (by decide) rfl KV_X10_seen k_RX10_307 rfl rfl rfl (Nat.le_of_ble_eq_true rfl) ⟨Nat.le_of_ble_eq_true rfl, Nat.le_of_ble_eq_true rfl⟩ dX10_leastFine_19 (fun S12 h => ?_)
    refine V_iload_n C 1 dX10_leastFine_22 rfl rfl ?_
    refine V_callVi (As := [.int a1]) (rest := [.ref (G.1 0)]) C (c_X3_leastGladFine (v_l X) G  _ _ h) 58 3 (by decide) (by decide) (by decide) rfl KV_X3_leastGladFine k_RX10_355 rfl rfl rfl (Nat.le_of_ble_eq_true rfl) ⟨Nat.le_of_ble_eq_true rfl, Nat.le_of_ble_eq_true rfl⟩ dX10_leastFine_23 (fun r14 S13 h => ?_)
    refine V_callVi (As := [.int r14]) (rest := []) C (c_X10_toldIfAny (v_l X) G  _ _ h) 0 10 (by decide) (by decide) (by decide) rfl KV_X10_toldIfAny k_RX10_320 rfl rfl rfl (Nat.le_of_ble_eq_true rfl) ⟨Nat.le_of_ble_eq_true rfl, Nat.le_of_ble_eq_true rfl⟩ dX10_leastFine_26 (fun r16 S15 h => ?_)
    exact V_iret C D dX10_leastFine_29 h
  · have h := h.2 c
    refine V_aload_n C 0 dX10_leastFine_11 rfl rfl ?_
    refine V_iconst (v := 2) C dX10_leastFine_12 (by decide) ?_
    refine V_callVi (As := [.int 2]) (rest := []) C (c_X10_refused (v_l X) G  _ _ h) 0 10 (by decide) (by decide) (by decide) rfl KV_X10_refused k_RX10_153 rfl rfl rfl (Nat.le_of_ble_eq_true rfl) ⟨Nat.le_of_ble_eq_true rfl, Nat.le_of_ble_eq_true rfl⟩ dX10_leastFine_13 (fun r18 S17 h => ?_)
    exact V_iret C D dX10_leastFine_16 h
/-! HalfAccuser.mostPenalty(I)I -/
theorem dX10_mostPenalty_0 : decode cX10_mostPenalty 0 = .ok ((.aload_n 0), 1) := by decide +kernel
theorem dX10_mostPenalty_1 : decode cX10_mostPenalty 1 = .ok ((.getfield 26), 3) := by decide +kernel
theorem dX10_mostPenalty_4 : decode cX10_mostPenalty 4 = .ok ((.iload_n 1), 1) := by decide +kernel
theorem dX10_mostPenalty_5 : decode cX10_mostPenalty 5 = .ok ((.invokevirtual 194), 3) := by decide +kernel
theorem dX10_mostPenalty_8 : decode cX10_mostPenalty 8 = .ok ((.ifCond .ne 9), 3) := by decide +kernel
theorem dX10_mostPenalty_11 : decode cX10_mostPenalty 11 = .ok ((.aload_n 0), 1) := by decide +kernel
theorem dX10_mostPenalty_12 : decode cX10_mostPenalty 12 = .ok ((.iconst 2), 1) := by decide +kernel
theorem dX10_mostPenalty_13 : decode cX10_mostPenalty 13 = .ok ((.invokevirtual 153), 3) := by decide +kernel
theorem dX10_mostPenalty_16 : decode cX10_mostPenalty 16 = .ok (.ireturn, 1) := by decide +kernel
theorem dX10_mostPenalty_17 : decode cX10_mostPenalty 17 = .ok ((.aload_n 0), 1) := by decide +kernel
theorem dX10_mostPenalty_18 : decode cX10_mostPenalty 18 = .ok ((.aload_n 0), 1) := by decide +kernel
theorem dX10_mostPenalty_19 : decode cX10_mostPenalty 19 = .ok ((.invokevirtual 307), 3) := by decide +kernel
theorem dX10_mostPenalty_22 : decode cX10_mostPenalty 22 = .ok ((.iload_n 1), 1) := by decide +kernel
theorem dX10_mostPenalty_23 : decode cX10_mostPenalty 23 = .ok ((.invokevirtual 358), 3) := by decide +kernel
theorem dX10_mostPenalty_26 : decode cX10_mostPenalty 26 = .ok ((.invokevirtual 320), 3) := by decide +kernel
theorem dX10_mostPenalty_29 : decode cX10_mostPenalty 29 = .ok (.ireturn, 1) := by decide +kernel
def p_X10_mostPenalty   (S : vSt) (a1 : Int32) (post : Int32 → vSt → Prop) : Prop := p_X0_hasDeed 10 S a1 (fun r11 S10 => ((r11 = true → p_X10_seen  S10  (fun S12 => p_X3_mostGladPenalty  S12 a1 (fun r14 S13 => p_X10_toldIfAny  S13 r14 (fun r16 S15 => post r16 S15)))) ∧ (r11 = false → p_X10_refused  S10 2 (fun r18 S17 => post r18 S17))))
set_option maxHeartbeats 4000000 in
set_option maxRecDepth 100000 in
theorem c_X10_mostPenalty (l : Launch) (G : vG)    {S : vSt} (a1 : Int32) (post : Int32 → vSt → Prop) (h : p_X10_mostPenalty   S a1 post) : Met l yX10_mostPenalty (v_ws yX10_mostPenalty cX10_mostPenalty 2 (some .int)) (v_rm 6 176) (v_Pc G [.ref (G.1 0), .int a1] S) (v_Qi G post) 0 0 (v_A G) := by
  refine v_start (by decide +kernel) (Nat.le_of_ble_eq_true rfl) (fun X hl C D => ?_)
  subst hl
  have C : v_Cx X G cX10_mostPenalty RX10 2 (v_rm 6 176) := C
  show VJ X G S 0 [(0, .ref (G.1 0)), (1, .int a1)] []
  refine V_aload_n C 0 dX10_mostPenalty_0 rfl rfl ?_
  refine V_ga C 0 (by decide) (by decide) F_10_2 k_RX10_26 dX10_mostPenalty_1 ?_
  refine V_iload_n C 1 dX10_mostPenalty_4 rfl rfl ?_
  refine V_callVz (As := [.int a1]) (rest := []) C (c_X0_hasDeed (v_l X) G v_i10 _ _ h) 10 0 (by decide) (by decide) (by decide) rfl KV_X0_hasDeed k_RX10_194 rfl rfl rfl (Nat.le_of_ble_eq_true rfl) ⟨Nat.le_of_ble_eq_true rfl, Nat.le_of_ble_eq_true rfl⟩ dX10_mostPenalty_5 (fun r11 S10 h => ?_)
  refine V_ifb_ne (tgt := 17) C dX10_mostPenalty_8 (by decide) (fun c => ?_) (fun c => ?_)
  · have h := h.1 c
    refine V_aload_n C 0 dX10_mostPenalty_17 rfl rfl ?_
    refine V_aload_n C 0 dX10_mostPenalty_18 rfl rfl ?_
    refine V_callVr (As := []) (rest := [.ref (G.1 0)]) C (c_X10_seen (v_l X) G  _ h) 0 10 (by decide) (by decide) (by decide) rfl KV_X10_seen k_RX10_307 rfl rfl rfl (Nat.le_of_ble_eq_true rfl) ⟨Nat.le_of_ble_eq_true rfl, Nat.le_of_ble_eq_true rfl⟩ dX10_mostPenalty_19 (fun S12 h => ?_)
    refine V_iload_n C 1 dX10_mostPenalty_22 rfl rfl ?_
    refine V_callVi (As := [.int a1]) (rest := [.ref (G.1 0)]) C (c_X3_mostGladPenalty (v_l X) G  _ _ h) 58 3 (by decide) (by decide) (by decide) rfl KV_X3_mostGladPenalty k_RX10_358 rfl rfl rfl (Nat.le_of_ble_eq_true rfl) ⟨Nat.le_of_ble_eq_true rfl, Nat.le_of_ble_eq_true rfl⟩ dX10_mostPenalty_23 (fun r14 S13 h => ?_)
    refine V_callVi (As := [.int r14]) (rest := []) C (c_X10_toldIfAny (v_l X) G  _ _ h) 0 10 (by decide) (by decide) (by decide) rfl KV_X10_toldIfAny k_RX10_320 rfl rfl rfl (Nat.le_of_ble_eq_true rfl) ⟨Nat.le_of_ble_eq_true rfl, Nat.le_of_ble_eq_true rfl⟩ dX10_mostPenalty_26 (fun r16 S15 h => ?_)
    exact V_iret C D dX10_mostPenalty_29 h
  · have h := h.2 c
    refine V_aload_n C 0 dX10_mostPenalty_11 rfl rfl ?_
    refine V_iconst (v := 2) C dX10_mostPenalty_12 (by decide) ?_
    refine V_callVi (As := [.int 2]) (rest := []) C (c_X10_refused (v_l X) G  _ _ h) 0 10 (by decide) (by decide) (by decide) rfl KV_X10_refused k_RX10_153 rfl rfl rfl (Nat.le_of_ble_eq_true rfl) ⟨Nat.le_of_ble_eq_true rfl, Nat.le_of_ble_eq_true rfl⟩ dX10_mostPenalty_13 (fun r18 S17 h => ?_)
    exact V_iret C D dX10_mostPenalty_16 h
/-! HalfAccuser.gladBy(II)I -/
theorem dX10_gladBy_0 : decode cX10_gladBy 0 = .ok ((.iload_n 1), 1) := by decide +kernel
theorem dX10_gladBy_1 : decode cX10_gladBy 1 = .ok ((.ifCond .lt 20), 3) := by decide +kernel
theorem dX10_gladBy_4 : decode cX10_gladBy 4 = .ok ((.iload_n 1), 1) := by decide +kernel
theorem dX10_gladBy_5 : decode cX10_gladBy 5 = .ok ((.bipush 16), 2) := by decide +kernel
theorem dX10_gladBy_7 : decode cX10_gladBy 7 = .ok ((.if_icmp .gt 14), 3) := by decide +kernel
theorem dX10_gladBy_10 : decode cX10_gladBy 10 = .ok ((.iload_n 2), 1) := by decide +kernel
theorem dX10_gladBy_11 : decode cX10_gladBy 11 = .ok ((.ifCond .lt 10), 3) := by decide +kernel
theorem dX10_gladBy_14 : decode cX10_gladBy 14 = .ok ((.iload_n 2), 1) := by decide +kernel
theorem dX10_gladBy_15 : decode cX10_gladBy 15 = .ok ((.sipush 999), 3) := by decide +kernel
theorem dX10_gladBy_18 : decode cX10_gladBy 18 = .ok ((.if_icmp .le 9), 3) := by decide +kernel
theorem dX10_gladBy_21 : decode cX10_gladBy 21 = .ok ((.aload_n 0), 1) := by decide +kernel
theorem dX10_gladBy_22 : decode cX10_gladBy 22 = .ok ((.iconst 5), 1) := by decide +kernel
theorem dX10_gladBy_23 : decode cX10_gladBy 23 = .ok ((.invokevirtual 153), 3) := by decide +kernel
theorem dX10_gladBy_26 : decode cX10_gladBy 26 = .ok (.ireturn, 1) := by decide +kernel
theorem dX10_gladBy_27 : decode cX10_gladBy 27 = .ok ((.aload_n 0), 1) := by decide +kernel
theorem dX10_gladBy_28 : decode cX10_gladBy 28 = .ok ((.aload_n 0), 1) := by decide +kernel
theorem dX10_gladBy_29 : decode cX10_gladBy 29 = .ok ((.invokevirtual 307), 3) := by decide +kernel
theorem dX10_gladBy_32 : decode cX10_gladBy 32 = .ok ((.iload_n 1), 1) := by decide +kernel
theorem dX10_gladBy_33 : decode cX10_gladBy 33 = .ok ((.iload_n 2), 1) := by decide +kernel
theorem dX10_gladBy_34 : decode cX10_gladBy 34 = .ok ((.invokevirtual 343), 3) := by decide +kernel
theorem dX10_gladBy_37 : decode cX10_gladBy 37 = .ok ((.invokevirtual 173), 3) := by decide +kernel
theorem dX10_gladBy_40 : decode cX10_gladBy 40 = .ok (.ireturn, 1) := by decide +kernel
def p_X10_gladBy_21  (a1 : Int32) (a2 : Int32)   (post : Int32 → vSt → Prop) (S : vSt)  : Prop := p_X10_refused  S 5 (fun r9 S8 => post r9 S8)
def p_X10_gladBy   (S : vSt) (a1 : Int32) (a2 : Int32) (post : Int32 → vSt → Prop) : Prop := ((a1 < 0 → p_X10_gladBy_21 a1 a2 post S ) ∧ (¬ a1 < 0 → ((16 < a1 → p_X10_gladBy_21 a1 a2 post S ) ∧ (¬ 16 < a1 → ((a2 < 0 → p_X10_gladBy_21 a1 a2 post S ) ∧ (¬ a2 < 0 → ((a2 ≤ 999 → p_X10_seen  S  (fun S8 => p_X3_gladSet  S8 a1 a2 (fun r10 S9 => p_X10_told  S9 r10 (fun r12 S11 => post r12 S11)))) ∧ (¬ a2 ≤ 999 → p_X10_gladBy_21 a1 a2 post S ))))))))
set_option maxHeartbeats 4000000 in
set_option maxRecDepth 100000 in
theorem q_X10_gladBy_21 {X : vX} {G : vG}  {post : Int32 → vSt → Prop} (C : v_Cx X G cX10_gladBy RX10 3 (v_rm 6 176)) (D : v_Rx X G (v_Qi G post) (some .int))  {a1 : Int32} {a2 : Int32}   : ∀ (S : vSt), p_X10_gladBy_21 a1 a2 post S  → VJ X G S 21 [(0, .ref (G.1 0))] [] := by
  intro S  h
  refine V_aload_n C 0 dX10_gladBy_21 rfl rfl ?_
  refine V_iconst (v := 5) C dX10_gladBy_22 (by decide) ?_
  refine V_callVi (As := [.int 5]) (rest := []) C (c_X10_refused (v_l X) G  _ _ h) 0 10 (by decide) (by decide) (by decide) rfl KV_X10_refused k_RX10_153 rfl rfl rfl (Nat.le_of_ble_eq_true rfl) ⟨Nat.le_of_ble_eq_true rfl, Nat.le_of_ble_eq_true rfl⟩ dX10_gladBy_23 (fun r9 S8 h => ?_)
  exact V_iret C D dX10_gladBy_26 h
set_option maxHeartbeats 4000000 in
set_option maxRecDepth 100000 in
theorem c_X10_gladBy (l : Launch) (G : vG)    {S : vSt} (a1 : Int32) (a2 : Int32) (post : Int32 → vSt → Prop) (h : p_X10_gladBy   S a1 a2 post) : Met l yX10_gladBy (v_ws yX10_gladBy cX10_gladBy 3 (some .int)) (v_rm 6 176) (v_Pc G [.ref (G.1 0), .int a1, .int a2] S) (v_Qi G post) 0 0 (v_A G) := by
  refine v_start (by decide +kernel) (Nat.le_of_ble_eq_true rfl) (fun X hl C D => ?_)
  subst hl
  have C : v_Cx X G cX10_gladBy RX10 3 (v_rm 6 176) := C
  show VJ X G S 0 [(0, .ref (G.1 0)), (1, .int a1), (2, .int a2)] []
  refine V_iload_n C 1 dX10_gladBy_0 rfl rfl ?_
  refine V_if_lt (tgt := 21) C dX10_gladBy_1 (by decide) (fun c => ?_) (fun c => ?_)
  · have h := h.1 c
    refine V_loc (lv' := [(0, .ref (G.1 0))]) [0] rfl ?_
    exact q_X10_gladBy_21 C D  _ h
  · have h := h.2 c
    refine V_iload_n C 1 dX10_gladBy_4 rfl rfl ?_
    refine V_bipush (v := 16) C dX10_gladBy_5 (by decide) ?_
    refine V_icmp_gt (tgt := 21) C dX10_gladBy_7 (by decide) (fun c => ?_) (fun c => ?_)
    · have h := h.1 c
      refine V_loc (lv' := [(0, .ref (G.1 0))]) [0] rfl ?_
      exact q_X10_gladBy_21 C D  _ h
    · have h := h.2 c
      refine V_iload_n C 2 dX10_gladBy_10 rfl rfl ?_
      refine V_if_lt (tgt := 21) C dX10_gladBy_11 (by decide) (fun c => ?_) (fun c => ?_)
      · have h := h.1 c
        refine V_loc (lv' := [(0, .ref (G.1 0))]) [0] rfl ?_
        exact q_X10_gladBy_21 C D  _ h
      · have h := h.2 c
        refine V_iload_n C 2 dX10_gladBy_14 rfl rfl ?_
        refine V_sipush (v := 999) C dX10_gladBy_15 (by decide) ?_
        refine V_icmp_le (tgt := 27) C dX10_gladBy_18 (by decide) (fun c => ?_) (fun c => ?_)
        · have h := h.1 c
          refine V_aload_n C 0 dX10_gladBy_27 rfl rfl ?_
          refine V_aload_n C 0 dX10_gladBy_28 rfl rfl ?_
          refine V_callVr (As := []) (rest := [.ref (G.1 0)]) C (c_X10_seen (v_l X) G  _ h) 0 10 (by decide) (by decide) (by decide) rfl KV_X10_seen k_RX10_307 rfl rfl rfl (Nat.le_of_ble_eq_true rfl) ⟨Nat.le_of_ble_eq_true rfl, Nat.le_of_ble_eq_true rfl⟩ dX10_gladBy_29 (fun S8 h => ?_)
          refine V_iload_n C 1 dX10_gladBy_32 rfl rfl ?_
          refine V_iload_n C 2 dX10_gladBy_33 rfl rfl ?_
          refine V_callVi (As := [.int a1, .int a2]) (rest := [.ref (G.1 0)]) C (c_X3_gladSet (v_l X) G  _ _ _ h) 58 3 (by decide) (by decide) (by decide) rfl KV_X3_gladSet k_RX10_343 rfl rfl rfl (Nat.le_of_ble_eq_true rfl) ⟨Nat.le_of_ble_eq_true rfl, Nat.le_of_ble_eq_true rfl⟩ dX10_gladBy_34 (fun r10 S9 h => ?_)
          refine V_callVi (As := [.int r10]) (rest := []) C (c_X10_told (v_l X) G  _ _ h) 0 10 (by decide) (by decide) (by decide) rfl KV_X10_told k_RX10_173 rfl rfl rfl (Nat.le_of_ble_eq_true rfl) ⟨Nat.le_of_ble_eq_true rfl, Nat.le_of_ble_eq_true rfl⟩ dX10_gladBy_37 (fun r12 S11 h => ?_)
          exact V_iret C D dX10_gladBy_40 h
        · have h := h.2 c
          refine V_loc (lv' := [(0, .ref (G.1 0))]) [0] rfl ?_
          exact q_X10_gladBy_21 C D  _ h
/-! HalfAccuser.gameStatus(IIII)I -/
theorem dX10_gameStatus_0 : decode cX10_gameStatus 0 = .ok ((.aload_n 0), 1) := by decide +kernel
theorem dX10_gameStatus_1 : decode cX10_gameStatus 1 = .ok ((.getfield 26), 3) := by decide +kernel
theorem dX10_gameStatus_4 : decode cX10_gameStatus 4 = .ok ((.iload_n 1), 1) := by decide +kernel
theorem dX10_gameStatus_5 : decode cX10_gameStatus 5 = .ok ((.invokevirtual 188), 3) := by decide +kernel
theorem dX10_gameStatus_8 : decode cX10_gameStatus 8 = .ok ((.ifCond .eq 14), 3) := by decide +kernel
theorem dX10_gameStatus_11 : decode cX10_gameStatus 11 = .ok ((.aload_n 0), 1) := by decide +kernel
theorem dX10_gameStatus_12 : decode cX10_gameStatus 12 = .ok ((.getfield 26), 3) := by decide +kernel
theorem dX10_gameStatus_15 : decode cX10_gameStatus 15 = .ok ((.iload_n 2), 1) := by decide +kernel
theorem dX10_gameStatus_16 : decode cX10_gameStatus 16 = .ok ((.invokevirtual 188), 3) := by decide +kernel
theorem dX10_gameStatus_19 : decode cX10_gameStatus 19 = .ok ((.ifCond .ne 5), 3) := by decide +kernel
theorem dX10_gameStatus_22 : decode cX10_gameStatus 22 = .ok ((.iconst 2), 1) := by decide +kernel
theorem dX10_gameStatus_23 : decode cX10_gameStatus 23 = .ok (.ireturn, 1) := by decide +kernel
theorem dX10_gameStatus_24 : decode cX10_gameStatus 24 = .ok ((.iload_n 1), 1) := by decide +kernel
theorem dX10_gameStatus_25 : decode cX10_gameStatus 25 = .ok ((.iload_n 2), 1) := by decide +kernel
theorem dX10_gameStatus_26 : decode cX10_gameStatus 26 = .ok ((.if_icmp .eq 14), 3) := by decide +kernel
theorem dX10_gameStatus_29 : decode cX10_gameStatus 29 = .ok ((.iload_n 3), 1) := by decide +kernel
theorem dX10_gameStatus_30 : decode cX10_gameStatus 30 = .ok ((.iload 4), 2) := by decide +kernel
theorem dX10_gameStatus_32 : decode cX10_gameStatus 32 = .ok ((.if_icmp .lt 8), 3) := by decide +kernel
theorem dX10_gameStatus_35 : decode cX10_gameStatus 35 = .ok ((.iload_n 3), 1) := by decide +kernel
theorem dX10_gameStatus_36 : decode cX10_gameStatus 36 = .ok ((.iconst 3), 1) := by decide +kernel
theorem dX10_gameStatus_37 : decode cX10_gameStatus 37 = .ok ((.if_icmp .le 7), 3) := by decide +kernel
theorem dX10_gameStatus_40 : decode cX10_gameStatus 40 = .ok ((.iconst 5), 1) := by decide +kernel
theorem dX10_gameStatus_41 : decode cX10_gameStatus 41 = .ok ((.goto 4), 3) := by decide +kernel
theorem dX10_gameStatus_44 : decode cX10_gameStatus 44 = .ok ((.iconst 0), 1) := by decide +kernel
theorem dX10_gameStatus_45 : decode cX10_gameStatus 45 = .ok (.ireturn, 1) := by decide +kernel
def p_X10_gameStatus   (S : vSt) (a1 : Int32) (a2 : Int32) (a3 : Int32) (a4 : Int32) (post : Int32 → vSt → Prop) : Prop := p_X0_hasPerson 10 S a1 (fun r6 S5 => ((r6 = false → post 2 S5) ∧ (r6 = true → p_X0_hasPerson 10 S5 a2 (fun r8 S7 => ((r8 = true → ((a1 = a2 → post 5 S7) ∧ (¬ a1 = a2 → ((a3 < a4 → post 5 S7) ∧ (¬ a3 < a4 → ((a3 ≤ 3 → post 0 S7) ∧ (¬ a3 ≤ 3 → post 5 S7))))))) ∧ (r8 = false → post 2 S7))))))
set_option maxHeartbeats 4000000 in
set_option maxRecDepth 100000 in
theorem c_X10_gameStatus (l : Launch) (G : vG)    {S : vSt} (a1 : Int32) (a2 : Int32) (a3 : Int32) (a4 : Int32) (post : Int32 → vSt → Prop) (h : p_X10_gameStatus   S a1 a2 a3 a4 post) : Met l yX10_gameStatus (v_ws yX10_gameStatus cX10_gameStatus 5 (some .int)) (v_rm 1 61) (v_Pc G [.ref (G.1 0), .int a1, .int a2, .int a3, .int a4] S) (v_Qi G post) 0 0 (v_A G) := by
  refine v_start (by decide +kernel) (Nat.le_of_ble_eq_true rfl) (fun X hl C D => ?_)
  subst hl
  have C : v_Cx X G cX10_gameStatus RX10 5 (v_rm 1 61) := C
  show VJ X G S 0 [(0, .ref (G.1 0)), (1, .int a1), (2, .int a2), (3, .int a3), (4, .int a4)] []
  refine V_aload_n C 0 dX10_gameStatus_0 rfl rfl ?_
  refine V_ga C 0 (by decide) (by decide) F_10_2 k_RX10_26 dX10_gameStatus_1 ?_
  refine V_iload_n C 1 dX10_gameStatus_4 rfl rfl ?_
  refine V_callVz (As := [.int a1]) (rest := []) C (c_X0_hasPerson (v_l X) G v_i10 _ _ h) 10 0 (by decide) (by decide) (by decide) rfl KV_X0_hasPerson k_RX10_188 rfl rfl rfl (Nat.le_of_ble_eq_true rfl) ⟨Nat.le_of_ble_eq_true rfl, Nat.le_of_ble_eq_true rfl⟩ dX10_gameStatus_5 (fun r6 S5 h => ?_)
  refine V_ifb_eq (tgt := 22) C dX10_gameStatus_8 (by decide) (fun c => ?_) (fun c => ?_)
  · have h := h.1 c
    refine V_iconst (v := 2) C dX10_gameStatus_22 (by decide) ?_
    exact V_iret C D dX10_gameStatus_23 h
  · have h := h.2 c
    refine V_aload_n C 0 dX10_gameStatus_11 rfl rfl ?_
    refine V_ga C 0 (by decide) (by decide) F_10_2 k_RX10_26 dX10_gameStatus_12 ?_
    refine V_iload_n C 2 dX10_gameStatus_15 rfl rfl ?_
    refine V_callVz (As := [.int a2]) (rest := []) C (c_X0_hasPerson (v_l X) G v_i10 _ _ h) 10 0 (by decide) (by decide) (by decide) rfl KV_X0_hasPerson k_RX10_188 rfl rfl rfl (Nat.le_of_ble_eq_true rfl) ⟨Nat.le_of_ble_eq_true rfl, Nat.le_of_ble_eq_true rfl⟩ dX10_gameStatus_16 (fun r8 S7 h => ?_)
    refine V_ifb_ne (tgt := 24) C dX10_gameStatus_19 (by decide) (fun c => ?_) (fun c => ?_)
    · have h := h.1 c
      refine V_iload_n C 1 dX10_gameStatus_24 rfl rfl ?_
      refine V_iload_n C 2 dX10_gameStatus_25 rfl rfl ?_
      refine V_icmp_eq (tgt := 40) C dX10_gameStatus_26 (by decide) (fun c => ?_) (fun c => ?_)
      · have h := h.1 c
        refine V_iconst (v := 5) C dX10_gameStatus_40 (by decide) ?_
        refine V_goto (tgt := 45) C dX10_gameStatus_41 (by decide) ?_
        exact V_iret C D dX10_gameStatus_45 h
      · have h := h.2 c
        refine V_iload_n C 3 dX10_gameStatus_29 rfl rfl ?_
        refine V_iload C 4 dX10_gameStatus_30 rfl ?_
        refine V_icmp_lt (tgt := 40) C dX10_gameStatus_32 (by decide) (fun c => ?_) (fun c => ?_)
        · have h := h.1 c
          refine V_iconst (v := 5) C dX10_gameStatus_40 (by decide) ?_
          refine V_goto (tgt := 45) C dX10_gameStatus_41 (by decide) ?_
          exact V_iret C D dX10_gameStatus_45 h
        · have h := h.2 c
          refine V_iload_n C 3 dX10_gameStatus_35 rfl rfl ?_
          refine V_iconst (v := 3) C dX10_gameStatus_36 (by decide) ?_
          refine V_icmp_le (tgt := 44) C dX10_gameStatus_37 (by decide) (fun c => ?_) (fun c => ?_)
          · have h := h.1 c
            refine V_iconst (v := 0) C dX10_gameStatus_44 (by decide) ?_
            exact V_iret C D dX10_gameStatus_45 h
          · have h := h.2 c
            refine V_iconst (v := 5) C dX10_gameStatus_40 (by decide) ?_
            refine V_goto (tgt := 45) C dX10_gameStatus_41 (by decide) ?_
            exact V_iret C D dX10_gameStatus_45 h
    · have h := h.2 c
      refine V_iconst (v := 2) C dX10_gameStatus_22 (by decide) ?_
      exact V_iret C D dX10_gameStatus_23 h
/-! HalfAccuser.game(III)Z -/
theorem dX10_game_0 : decode cX10_game 0 = .ok ((.aload_n 0), 1) := by decide +kernel
theorem dX10_game_1 : decode cX10_game 1 = .ok ((.iload_n 1), 1) := by decide +kernel
theorem dX10_game_2 : decode cX10_game 2 = .ok ((.iload_n 2), 1) := by decide +kernel
theorem dX10_game_3 : decode cX10_game 3 = .ok ((.iload_n 3), 1) := by decide +kernel
theorem dX10_game_4 : decode cX10_game 4 = .ok ((.iconst 0), 1) := by decide +kernel
theorem dX10_game_5 : decode cX10_game 5 = .ok ((.invokevirtual 361), 3) := by decide +kernel
theorem dX10_game_8 : decode cX10_game 8 = .ok ((.istore 4), 2) := by decide +kernel
theorem dX10_game_10 : decode cX10_game 10 = .ok ((.iload 4), 2) := by decide +kernel
theorem dX10_game_12 : decode cX10_game 12 = .ok ((.ifCond .eq 10), 3) := by decide +kernel
theorem dX10_game_15 : decode cX10_game 15 = .ok ((.aload_n 0), 1) := by decide +kernel
theorem dX10_game_16 : decode cX10_game 16 = .ok ((.iload 4), 2) := by decide +kernel
theorem dX10_game_18 : decode cX10_game 18 = .ok ((.invokevirtual 116), 3) := by decide +kernel
theorem dX10_game_21 : decode cX10_game 21 = .ok (.ireturn, 1) := by decide +kernel
theorem dX10_game_22 : decode cX10_game 22 = .ok ((.aload_n 0), 1) := by decide +kernel
theorem dX10_game_23 : decode cX10_game 23 = .ok ((.getfield 64), 3) := by decide +kernel
theorem dX10_game_26 : decode cX10_game 26 = .ok ((.invokevirtual 365), 3) := by decide +kernel
theorem dX10_game_29 : decode cX10_game 29 = .ok ((.aload_n 0), 1) := by decide +kernel
theorem dX10_game_30 : decode cX10_game 30 = .ok ((.getfield 73), 3) := by decide +kernel
theorem dX10_game_33 : decode cX10_game 33 = .ok ((.iload_n 1), 1) := by decide +kernel
theorem dX10_game_34 : decode cX10_game 34 = .ok ((.iload_n 2), 1) := by decide +kernel
theorem dX10_game_35 : decode cX10_game 35 = .ok ((.iload_n 3), 1) := by decide +kernel
theorem dX10_game_36 : decode cX10_game 36 = .ok ((.invokevirtual 368), 3) := by decide +kernel
theorem dX10_game_39 : decode cX10_game 39 = .ok ((.aload_n 0), 1) := by decide +kernel
theorem dX10_game_40 : decode cX10_game 40 = .ok ((.aload_n 0), 1) := by decide +kernel
theorem dX10_game_41 : decode cX10_game 41 = .ok ((.getfield 73), 3) := by decide +kernel
theorem dX10_game_44 : decode cX10_game 44 = .ok ((.invokevirtual 371), 3) := by decide +kernel
theorem dX10_game_47 : decode cX10_game 47 = .ok ((.aload_n 0), 1) := by decide +kernel
theorem dX10_game_48 : decode cX10_game 48 = .ok ((.getfield 64), 3) := by decide +kernel
theorem dX10_game_51 : decode cX10_game 51 = .ok ((.invokevirtual 290), 3) := by decide +kernel
theorem dX10_game_54 : decode cX10_game 54 = .ok ((.invokevirtual 294), 3) := by decide +kernel
theorem dX10_game_57 : decode cX10_game 57 = .ok (.ireturn, 1) := by decide +kernel
def p_X10_game   (S : vSt) (a1 : Int32) (a2 : Int32) (a3 : Int32) (post : Bool → vSt → Prop) : Prop := p_X10_gameStatus  S a1 a2 a3 0 (fun r14 S13 => ((r14 = 0 → p_X3_see  S13  (fun S15 => p_X2_setGame  S15 a1 a2 a3 (fun S16 => p_X2_outcome  S16  (fun r18 S17 => p_X3_whole  S17  (fun r20 S19 => p_X10_tell  S19 r18 r20 (fun r22 S21 => post r22 S21)))))) ∧ (¬ r14 = 0 → p_X10_settled  S13 r14 (fun r24 S23 => post r24 S23))))
set_option maxHeartbeats 4000000 in
set_option maxRecDepth 100000 in
theorem c_X10_game (l : Launch) (G : vG)    {S : vSt} (a1 : Int32) (a2 : Int32) (a3 : Int32) (post : Bool → vSt → Prop) (h : p_X10_game   S a1 a2 a3 post) : Met l yX10_game (v_ws yX10_game cX10_game 5 (some .boolean)) (v_rm 8 414) (v_Pc G [.ref (G.1 0), .int a1, .int a2, .int a3] S) (v_Qz G post) 0 0 (v_A G) := by
  refine v_start (by decide +kernel) (Nat.le_of_ble_eq_true rfl) (fun X hl C D => ?_)
  subst hl
  have C : v_Cx X G cX10_game RX10 5 (v_rm 8 414) := C
  show VJ X G S 0 [(0, .ref (G.1 0)), (1, .int a1), (2, .int a2), (3, .int a3)] []
  refine V_aload_n C 0 dX10_game_0 rfl rfl ?_
  refine V_iload_n C 1 dX10_game_1 rfl rfl ?_
  refine V_iload_n C 2 dX10_game_2 rfl rfl ?_
  refine V_iload_n C 3 dX10_game_3 rfl rfl ?_
  refine V_iconst (v := 0) C dX10_game_4 (by decide) ?_
  refine V_callVi (As := [.int a1, .int a2, .int a3, .int 0]) (rest := []) C (c_X10_gameStatus (v_l X) G  _ _ _ _ _ h) 0 10 (by decide) (by decide) (by decide) rfl KV_X10_gameStatus k_RX10_361 rfl rfl rfl (Nat.le_of_ble_eq_true rfl) ⟨Nat.le_of_ble_eq_true rfl, Nat.le_of_ble_eq_true rfl⟩ dX10_game_5 (fun r14 S13 h => ?_)
  refine V_istore (lv' := [(0, .ref (G.1 0)), (1, .int a1), (2, .int a2), (3, .int a3), (4, .int r14)]) C [1, 2, 3, 4, 0] dX10_game_8 (by decide) rfl ?_
  refine V_iload C 4 dX10_game_10 rfl ?_
  refine V_if_eq (tgt := 22) C dX10_game_12 (by decide) (fun c => ?_) (fun c => ?_)
  · have h := h.1 c
    refine V_aload_n C 0 dX10_game_22 rfl rfl ?_
    refine V_ga C 0 (by decide) (by decide) F_10_7 k_RX10_64 dX10_game_23 ?_
    refine V_callVv (As := []) (rest := []) C (c_X3_see (v_l X) G  _ h) 58 3 (by decide) (by decide) (by decide) rfl KV_X3_see k_RX10_365 rfl rfl rfl (Nat.le_of_ble_eq_true rfl) ⟨Nat.le_of_ble_eq_true rfl, Nat.le_of_ble_eq_true rfl⟩ dX10_game_26 (fun S15 h => ?_)
    refine V_aload_n C 0 dX10_game_29 rfl rfl ?_
    refine V_ga C 0 (by decide) (by decide) F_10_8 k_RX10_73 dX10_game_30 ?_
    refine V_iload_n C 1 dX10_game_33 rfl rfl ?_
    refine V_iload_n C 2 dX10_game_34 rfl rfl ?_
    refine V_iload_n C 3 dX10_game_35 rfl rfl ?_
    refine V_callVv (As := [.int a1, .int a2, .int a3]) (rest := []) C (c_X2_setGame (v_l X) G  _ _ _ _ h) 68 2 (by decide) (by decide) (by decide) rfl KV_X2_setGame k_RX10_368 rfl rfl rfl (Nat.le_of_ble_eq_true rfl) ⟨Nat.le_of_ble_eq_true rfl, Nat.le_of_ble_eq_true rfl⟩ dX10_game_36 (fun S16 h => ?_)
    refine V_aload_n C 0 dX10_game_39 rfl rfl ?_
    refine V_aload_n C 0 dX10_game_40 rfl rfl ?_
    refine V_ga C 0 (by decide) (by decide) F_10_8 k_RX10_73 dX10_game_41 ?_
    refine V_callVl (As := []) (rest := [.ref (G.1 0)]) C (c_X2_outcome (v_l X) G  _ h) 68 2 (by decide) (by decide) (by decide) rfl KV_X2_outcome k_RX10_371 rfl rfl rfl (Nat.le_of_ble_eq_true rfl) ⟨Nat.le_of_ble_eq_true rfl, Nat.le_of_ble_eq_true rfl⟩ dX10_game_44 (fun r18 S17 h => ?_)
    refine V_aload_n C 0 dX10_game_47 rfl rfl ?_
    refine V_ga C 0 (by decide) (by decide) F_10_7 k_RX10_64 dX10_game_48 ?_
    refine V_callVl (As := []) (rest := [.long r18, .ref (G.1 0)]) C (c_X3_whole (v_l X) G  _ h) 58 3 (by decide) (by decide) (by decide) rfl KV_X3_whole k_RX10_290 rfl rfl rfl (Nat.le_of_ble_eq_true rfl) ⟨Nat.le_of_ble_eq_true rfl, Nat.le_of_ble_eq_true rfl⟩ dX10_game_51 (fun r20 S19 h => ?_)
    refine V_callVz (As := [.long r18, .long r20]) (rest := []) C (c_X10_tell (v_l X) G  _ _ _ h) 0 10 (by decide) (by decide) (by decide) rfl KV_X10_tell k_RX10_294 rfl rfl rfl (Nat.le_of_ble_eq_true rfl) ⟨Nat.le_of_ble_eq_true rfl, Nat.le_of_ble_eq_true rfl⟩ dX10_game_54 (fun r22 S21 h => ?_)
    exact V_zret C D dX10_game_57 h
  · have h := h.2 c
    refine V_aload_n C 0 dX10_game_15 rfl rfl ?_
    refine V_iload C 4 dX10_game_16 rfl ?_
    refine V_callVz (As := [.int r14]) (rest := []) C (c_X10_settled (v_l X) G  _ _ h) 0 10 (by decide) (by decide) (by decide) rfl KV_X10_settled k_RX10_116 rfl rfl rfl (Nat.le_of_ble_eq_true rfl) ⟨Nat.le_of_ble_eq_true rfl, Nat.le_of_ble_eq_true rfl⟩ dX10_game_18 (fun r24 S23 h => ?_)
    exact V_zret C D dX10_game_21 h
/-! HalfAccuser.moveOf(III)I -/
theorem dX10_moveOf_0 : decode cX10_moveOf 0 = .ok ((.aload_n 0), 1) := by decide +kernel
theorem dX10_moveOf_1 : decode cX10_moveOf 1 = .ok ((.iload_n 1), 1) := by decide +kernel
theorem dX10_moveOf_2 : decode cX10_moveOf 2 = .ok ((.iload_n 2), 1) := by decide +kernel
theorem dX10_moveOf_3 : decode cX10_moveOf 3 = .ok ((.iload_n 3), 1) := by decide +kernel
theorem dX10_moveOf_4 : decode cX10_moveOf 4 = .ok ((.iconst 1), 1) := by decide +kernel
theorem dX10_moveOf_5 : decode cX10_moveOf 5 = .ok ((.invokevirtual 361), 3) := by decide +kernel
theorem dX10_moveOf_8 : decode cX10_moveOf 8 = .ok ((.istore 4), 2) := by decide +kernel
theorem dX10_moveOf_10 : decode cX10_moveOf 10 = .ok ((.iload 4), 2) := by decide +kernel
theorem dX10_moveOf_12 : decode cX10_moveOf 12 = .ok ((.ifCond .eq 10), 3) := by decide +kernel
theorem dX10_moveOf_15 : decode cX10_moveOf 15 = .ok ((.aload_n 0), 1) := by decide +kernel
theorem dX10_moveOf_16 : decode cX10_moveOf 16 = .ok ((.iload 4), 2) := by decide +kernel
theorem dX10_moveOf_18 : decode cX10_moveOf 18 = .ok ((.invokevirtual 153), 3) := by decide +kernel
theorem dX10_moveOf_21 : decode cX10_moveOf 21 = .ok (.ireturn, 1) := by decide +kernel
theorem dX10_moveOf_22 : decode cX10_moveOf 22 = .ok ((.aload_n 0), 1) := by decide +kernel
theorem dX10_moveOf_23 : decode cX10_moveOf 23 = .ok ((.getfield 64), 3) := by decide +kernel
theorem dX10_moveOf_26 : decode cX10_moveOf 26 = .ok ((.invokevirtual 365), 3) := by decide +kernel
theorem dX10_moveOf_29 : decode cX10_moveOf 29 = .ok ((.aload_n 0), 1) := by decide +kernel
theorem dX10_moveOf_30 : decode cX10_moveOf 30 = .ok ((.getfield 73), 3) := by decide +kernel
theorem dX10_moveOf_33 : decode cX10_moveOf 33 = .ok ((.iload_n 1), 1) := by decide +kernel
theorem dX10_moveOf_34 : decode cX10_moveOf 34 = .ok ((.iload_n 2), 1) := by decide +kernel
theorem dX10_moveOf_35 : decode cX10_moveOf 35 = .ok ((.iload_n 3), 1) := by decide +kernel
theorem dX10_moveOf_36 : decode cX10_moveOf 36 = .ok ((.invokevirtual 368), 3) := by decide +kernel
theorem dX10_moveOf_39 : decode cX10_moveOf 39 = .ok ((.aload_n 0), 1) := by decide +kernel
theorem dX10_moveOf_40 : decode cX10_moveOf 40 = .ok ((.aload_n 0), 1) := by decide +kernel
theorem dX10_moveOf_41 : decode cX10_moveOf 41 = .ok ((.getfield 73), 3) := by decide +kernel
theorem dX10_moveOf_44 : decode cX10_moveOf 44 = .ok ((.invokevirtual 374), 3) := by decide +kernel
theorem dX10_moveOf_47 : decode cX10_moveOf 47 = .ok ((.invokevirtual 320), 3) := by decide +kernel
theorem dX10_moveOf_50 : decode cX10_moveOf 50 = .ok (.ireturn, 1) := by decide +kernel
def p_X10_moveOf   (S : vSt) (a1 : Int32) (a2 : Int32) (a3 : Int32) (post : Int32 → vSt → Prop) : Prop := p_X10_gameStatus  S a1 a2 a3 1 (fun r12 S11 => ((r12 = 0 → p_X3_see  S11  (fun S13 => p_X2_setGame  S13 a1 a2 a3 (fun S14 => p_X2_firstMove  S14  (fun r16 S15 => p_X10_toldIfAny  S15 r16 (fun r18 S17 => post r18 S17))))) ∧ (¬ r12 = 0 → p_X10_refused  S11 r12 (fun r20 S19 => post r20 S19))))
set_option maxHeartbeats 4000000 in
set_option maxRecDepth 100000 in
theorem c_X10_moveOf (l : Launch) (G : vG)    {S : vSt} (a1 : Int32) (a2 : Int32) (a3 : Int32) (post : Int32 → vSt → Prop) (h : p_X10_moveOf   S a1 a2 a3 post) : Met l yX10_moveOf (v_ws yX10_moveOf cX10_moveOf 5 (some .int)) (v_rm 9 437) (v_Pc G [.ref (G.1 0), .int a1, .int a2, .int a3] S) (v_Qi G post) 0 0 (v_A G) := by
  refine v_start (by decide +kernel) (Nat.le_of_ble_eq_true rfl) (fun X hl C D => ?_)
  subst hl
  have C : v_Cx X G cX10_moveOf RX10 5 (v_rm 9 437) := C
  show VJ X G S 0 [(0, .ref (G.1 0)), (1, .int a1), (2, .int a2), (3, .int a3)] []
  refine V_aload_n C 0 dX10_moveOf_0 rfl rfl ?_
  refine V_iload_n C 1 dX10_moveOf_1 rfl rfl ?_
  refine V_iload_n C 2 dX10_moveOf_2 rfl rfl ?_
  refine V_iload_n C 3 dX10_moveOf_3 rfl rfl ?_
  refine V_iconst (v := 1) C dX10_moveOf_4 (by decide) ?_
  refine V_callVi (As := [.int a1, .int a2, .int a3, .int 1]) (rest := []) C (c_X10_gameStatus (v_l X) G  _ _ _ _ _ h) 0 10 (by decide) (by decide) (by decide) rfl KV_X10_gameStatus k_RX10_361 rfl rfl rfl (Nat.le_of_ble_eq_true rfl) ⟨Nat.le_of_ble_eq_true rfl, Nat.le_of_ble_eq_true rfl⟩ dX10_moveOf_5 (fun r12 S11 h => ?_)
  refine V_istore (lv' := [(0, .ref (G.1 0)), (1, .int a1), (2, .int a2), (3, .int a3), (4, .int r12)]) C [1, 2, 3, 4, 0] dX10_moveOf_8 (by decide) rfl ?_
  refine V_iload C 4 dX10_moveOf_10 rfl ?_
  refine V_if_eq (tgt := 22) C dX10_moveOf_12 (by decide) (fun c => ?_) (fun c => ?_)
  · have h := h.1 c
    refine V_aload_n C 0 dX10_moveOf_22 rfl rfl ?_
    refine V_ga C 0 (by decide) (by decide) F_10_7 k_RX10_64 dX10_moveOf_23 ?_
    refine V_callVv (As := []) (rest := []) C (c_X3_see (v_l X) G  _ h) 58 3 (by decide) (by decide) (by decide) rfl KV_X3_see k_RX10_365 rfl rfl rfl (Nat.le_of_ble_eq_true rfl) ⟨Nat.le_of_ble_eq_true rfl, Nat.le_of_ble_eq_true rfl⟩ dX10_moveOf_26 (fun S13 h => ?_)
    refine V_aload_n C 0 dX10_moveOf_29 rfl rfl ?_
    refine V_ga C 0 (by decide) (by decide) F_10_8 k_RX10_73 dX10_moveOf_30 ?_
    refine V_iload_n C 1 dX10_moveOf_33 rfl rfl ?_
    refine V_iload_n C 2 dX10_moveOf_34 rfl rfl ?_
    refine V_iload_n C 3 dX10_moveOf_35 rfl rfl ?_
    refine V_callVv (As := [.int a1, .int a2, .int a3]) (rest := []) C (c_X2_setGame (v_l X) G  _ _ _ _ h) 68 2 (by decide) (by decide) (by decide) rfl KV_X2_setGame k_RX10_368 rfl rfl rfl (Nat.le_of_ble_eq_true rfl) ⟨Nat.le_of_ble_eq_true rfl, Nat.le_of_ble_eq_true rfl⟩ dX10_moveOf_36 (fun S14 h => ?_)
    refine V_aload_n C 0 dX10_moveOf_39 rfl rfl ?_
    refine V_aload_n C 0 dX10_moveOf_40 rfl rfl ?_
    refine V_ga C 0 (by decide) (by decide) F_10_8 k_RX10_73 dX10_moveOf_41 ?_
    refine V_callVi (As := []) (rest := [.ref (G.1 0)]) C (c_X2_firstMove (v_l X) G  _ h) 68 2 (by decide) (by decide) (by decide) rfl KV_X2_firstMove k_RX10_374 rfl rfl rfl (Nat.le_of_ble_eq_true rfl) ⟨Nat.le_of_ble_eq_true rfl, Nat.le_of_ble_eq_true rfl⟩ dX10_moveOf_44 (fun r16 S15 h => ?_)
    refine V_callVi (As := [.int r16]) (rest := []) C (c_X10_toldIfAny (v_l X) G  _ _ h) 0 10 (by decide) (by decide) (by decide) rfl KV_X10_toldIfAny k_RX10_320 rfl rfl rfl (Nat.le_of_ble_eq_true rfl) ⟨Nat.le_of_ble_eq_true rfl, Nat.le_of_ble_eq_true rfl⟩ dX10_moveOf_47 (fun r18 S17 h => ?_)
    exact V_iret C D dX10_moveOf_50 h
  · have h := h.2 c
    refine V_aload_n C 0 dX10_moveOf_15 rfl rfl ?_
    refine V_iload C 4 dX10_moveOf_16 rfl ?_
    refine V_callVi (As := [.int r12]) (rest := []) C (c_X10_refused (v_l X) G  _ _ h) 0 10 (by decide) (by decide) (by decide) rfl KV_X10_refused k_RX10_153 rfl rfl rfl (Nat.le_of_ble_eq_true rfl) ⟨Nat.le_of_ble_eq_true rfl, Nat.le_of_ble_eq_true rfl⟩ dX10_moveOf_18 (fun r20 S19 h => ?_)
    exact V_iret C D dX10_moveOf_21 h
/-! HalfAccuser.club(I)I -/
theorem dX10_club_0 : decode cX10_club 0 = .ok ((.aload_n 0), 1) := by decide +kernel
theorem dX10_club_1 : decode cX10_club 1 = .ok ((.getfield 26), 3) := by decide +kernel
theorem dX10_club_4 : decode cX10_club 4 = .ok ((.iload_n 1), 1) := by decide +kernel
theorem dX10_club_5 : decode cX10_club 5 = .ok ((.invokevirtual 377), 3) := by decide +kernel
theorem dX10_club_8 : decode cX10_club 8 = .ok ((.ifCond .ne 9), 3) := by decide +kernel
theorem dX10_club_11 : decode cX10_club 11 = .ok ((.aload_n 0), 1) := by decide +kernel
theorem dX10_club_12 : decode cX10_club 12 = .ok ((.iconst 5), 1) := by decide +kernel
theorem dX10_club_13 : decode cX10_club 13 = .ok ((.invokevirtual 153), 3) := by decide +kernel
theorem dX10_club_16 : decode cX10_club 16 = .ok (.ireturn, 1) := by decide +kernel
theorem dX10_club_17 : decode cX10_club 17 = .ok ((.aload_n 0), 1) := by decide +kernel
theorem dX10_club_18 : decode cX10_club 18 = .ok ((.getfield 64), 3) := by decide +kernel
theorem dX10_club_21 : decode cX10_club 21 = .ok ((.invokevirtual 365), 3) := by decide +kernel
theorem dX10_club_24 : decode cX10_club 24 = .ok ((.aload_n 0), 1) := by decide +kernel
theorem dX10_club_25 : decode cX10_club 25 = .ok ((.getfield 73), 3) := by decide +kernel
theorem dX10_club_28 : decode cX10_club 28 = .ok ((.invokevirtual 380), 3) := by decide +kernel
theorem dX10_club_31 : decode cX10_club 31 = .ok ((.aload_n 0), 1) := by decide +kernel
theorem dX10_club_32 : decode cX10_club 32 = .ok ((.aload_n 0), 1) := by decide +kernel
theorem dX10_club_33 : decode cX10_club 33 = .ok ((.getfield 73), 3) := by decide +kernel
theorem dX10_club_36 : decode cX10_club 36 = .ok ((.iload_n 1), 1) := by decide +kernel
theorem dX10_club_37 : decode cX10_club 37 = .ok ((.invokevirtual 383), 3) := by decide +kernel
theorem dX10_club_40 : decode cX10_club 40 = .ok ((.invokevirtual 173), 3) := by decide +kernel
theorem dX10_club_43 : decode cX10_club 43 = .ok (.ireturn, 1) := by decide +kernel
def p_X10_club   (S : vSt) (a1 : Int32) (post : Int32 → vSt → Prop) : Prop := p_X0_isSet 10 S a1 (fun r12 S11 => ((r12 = true → p_X3_see  S11  (fun S13 => p_X2_setClub  S13  (fun S14 => p_X2_stayers  S14 a1 (fun r16 S15 => p_X10_told  S15 r16 (fun r18 S17 => post r18 S17))))) ∧ (r12 = false → p_X10_refused  S11 5 (fun r20 S19 => post r20 S19))))
set_option maxHeartbeats 4000000 in
set_option maxRecDepth 100000 in
theorem c_X10_club (l : Launch) (G : vG)    {S : vSt} (a1 : Int32) (post : Int32 → vSt → Prop) (h : p_X10_club   S a1 post) : Met l yX10_club (v_ws yX10_club cX10_club 2 (some .int)) (v_rm 5 156) (v_Pc G [.ref (G.1 0), .int a1] S) (v_Qi G post) 0 0 (v_A G) := by
  refine v_start (by decide +kernel) (Nat.le_of_ble_eq_true rfl) (fun X hl C D => ?_)
  subst hl
  have C : v_Cx X G cX10_club RX10 2 (v_rm 5 156) := C
  show VJ X G S 0 [(0, .ref (G.1 0)), (1, .int a1)] []
  refine V_aload_n C 0 dX10_club_0 rfl rfl ?_
  refine V_ga C 0 (by decide) (by decide) F_10_2 k_RX10_26 dX10_club_1 ?_
  refine V_iload_n C 1 dX10_club_4 rfl rfl ?_
  refine V_callVz (As := [.int a1]) (rest := []) C (c_X0_isSet (v_l X) G v_i10 _ _ h) 10 0 (by decide) (by decide) (by decide) rfl KV_X0_isSet k_RX10_377 rfl rfl rfl (Nat.le_of_ble_eq_true rfl) ⟨Nat.le_of_ble_eq_true rfl, Nat.le_of_ble_eq_true rfl⟩ dX10_club_5 (fun r12 S11 h => ?_)
  refine V_ifb_ne (tgt := 17) C dX10_club_8 (by decide) (fun c => ?_) (fun c => ?_)
  · have h := h.1 c
    refine V_aload_n C 0 dX10_club_17 rfl rfl ?_
    refine V_ga C 0 (by decide) (by decide) F_10_7 k_RX10_64 dX10_club_18 ?_
    refine V_callVv (As := []) (rest := []) C (c_X3_see (v_l X) G  _ h) 58 3 (by decide) (by decide) (by decide) rfl KV_X3_see k_RX10_365 rfl rfl rfl (Nat.le_of_ble_eq_true rfl) ⟨Nat.le_of_ble_eq_true rfl, Nat.le_of_ble_eq_true rfl⟩ dX10_club_21 (fun S13 h => ?_)
    refine V_aload_n C 0 dX10_club_24 rfl rfl ?_
    refine V_ga C 0 (by decide) (by decide) F_10_8 k_RX10_73 dX10_club_25 ?_
    refine V_callVv (As := []) (rest := []) C (c_X2_setClub (v_l X) G  _ h) 68 2 (by decide) (by decide) (by decide) rfl KV_X2_setClub k_RX10_380 rfl rfl rfl (Nat.le_of_ble_eq_true rfl) ⟨Nat.le_of_ble_eq_true rfl, Nat.le_of_ble_eq_true rfl⟩ dX10_club_28 (fun S14 h => ?_)
    refine V_aload_n C 0 dX10_club_31 rfl rfl ?_
    refine V_aload_n C 0 dX10_club_32 rfl rfl ?_
    refine V_ga C 0 (by decide) (by decide) F_10_8 k_RX10_73 dX10_club_33 ?_
    refine V_iload_n C 1 dX10_club_36 rfl rfl ?_
    refine V_callVi (As := [.int a1]) (rest := [.ref (G.1 0)]) C (c_X2_stayers (v_l X) G  _ _ h) 68 2 (by decide) (by decide) (by decide) rfl KV_X2_stayers k_RX10_383 rfl rfl rfl (Nat.le_of_ble_eq_true rfl) ⟨Nat.le_of_ble_eq_true rfl, Nat.le_of_ble_eq_true rfl⟩ dX10_club_37 (fun r16 S15 h => ?_)
    refine V_callVi (As := [.int r16]) (rest := []) C (c_X10_told (v_l X) G  _ _ h) 0 10 (by decide) (by decide) (by decide) rfl KV_X10_told k_RX10_173 rfl rfl rfl (Nat.le_of_ble_eq_true rfl) ⟨Nat.le_of_ble_eq_true rfl, Nat.le_of_ble_eq_true rfl⟩ dX10_club_40 (fun r18 S17 h => ?_)
    exact V_iret C D dX10_club_43 h
  · have h := h.2 c
    refine V_aload_n C 0 dX10_club_11 rfl rfl ?_
    refine V_iconst (v := 5) C dX10_club_12 (by decide) ?_
    refine V_callVi (As := [.int 5]) (rest := []) C (c_X10_refused (v_l X) G  _ _ h) 0 10 (by decide) (by decide) (by decide) rfl KV_X10_refused k_RX10_153 rfl rfl rfl (Nat.le_of_ble_eq_true rfl) ⟨Nat.le_of_ble_eq_true rfl, Nat.le_of_ble_eq_true rfl⟩ dX10_club_13 (fun r20 S19 h => ?_)
    exact V_iret C D dX10_club_16 h
/-! HalfAccuser.clubPart(I)Z -/
theorem dX10_clubPart_0 : decode cX10_clubPart 0 = .ok ((.iload_n 1), 1) := by decide +kernel
theorem dX10_clubPart_1 : decode cX10_clubPart 1 = .ok ((.ifCond .eq 14), 3) := by decide +kernel
theorem dX10_clubPart_4 : decode cX10_clubPart 4 = .ok ((.aload_n 0), 1) := by decide +kernel
theorem dX10_clubPart_5 : decode cX10_clubPart 5 = .ok ((.getfield 26), 3) := by decide +kernel
theorem dX10_clubPart_8 : decode cX10_clubPart 8 = .ok ((.iload_n 1), 1) := by decide +kernel
theorem dX10_clubPart_9 : decode cX10_clubPart 9 = .ok ((.invokevirtual 377), 3) := by decide +kernel
theorem dX10_clubPart_12 : decode cX10_clubPart 12 = .ok ((.ifCond .ne 9), 3) := by decide +kernel
theorem dX10_clubPart_15 : decode cX10_clubPart 15 = .ok ((.aload_n 0), 1) := by decide +kernel
theorem dX10_clubPart_16 : decode cX10_clubPart 16 = .ok ((.iconst 5), 1) := by decide +kernel
theorem dX10_clubPart_17 : decode cX10_clubPart 17 = .ok ((.invokevirtual 116), 3) := by decide +kernel
theorem dX10_clubPart_20 : decode cX10_clubPart 20 = .ok (.ireturn, 1) := by decide +kernel
theorem dX10_clubPart_21 : decode cX10_clubPart 21 = .ok ((.aload_n 0), 1) := by decide +kernel
theorem dX10_clubPart_22 : decode cX10_clubPart 22 = .ok ((.getfield 64), 3) := by decide +kernel
theorem dX10_clubPart_25 : decode cX10_clubPart 25 = .ok ((.invokevirtual 365), 3) := by decide +kernel
theorem dX10_clubPart_28 : decode cX10_clubPart 28 = .ok ((.aload_n 0), 1) := by decide +kernel
theorem dX10_clubPart_29 : decode cX10_clubPart 29 = .ok ((.getfield 73), 3) := by decide +kernel
theorem dX10_clubPart_32 : decode cX10_clubPart 32 = .ok ((.invokevirtual 380), 3) := by decide +kernel
theorem dX10_clubPart_35 : decode cX10_clubPart 35 = .ok ((.aload_n 0), 1) := by decide +kernel
theorem dX10_clubPart_36 : decode cX10_clubPart 36 = .ok ((.aload_n 0), 1) := by decide +kernel
theorem dX10_clubPart_37 : decode cX10_clubPart 37 = .ok ((.getfield 73), 3) := by decide +kernel
theorem dX10_clubPart_40 : decode cX10_clubPart 40 = .ok ((.iload_n 1), 1) := by decide +kernel
theorem dX10_clubPart_41 : decode cX10_clubPart 41 = .ok ((.invokevirtual 386), 3) := by decide +kernel
theorem dX10_clubPart_44 : decode cX10_clubPart 44 = .ok ((.aload_n 0), 1) := by decide +kernel
theorem dX10_clubPart_45 : decode cX10_clubPart 45 = .ok ((.getfield 64), 3) := by decide +kernel
theorem dX10_clubPart_48 : decode cX10_clubPart 48 = .ok ((.invokevirtual 290), 3) := by decide +kernel
theorem dX10_clubPart_51 : decode cX10_clubPart 51 = .ok ((.iload_n 1), 1) := by decide +kernel
theorem dX10_clubPart_52 : decode cX10_clubPart 52 = .ok ((.invokestatic 389), 3) := by decide +kernel
theorem dX10_clubPart_55 : decode cX10_clubPart 55 = .ok (.i2l, 1) := by decide +kernel
theorem dX10_clubPart_56 : decode cX10_clubPart 56 = .ok (.lmul, 1) := by decide +kernel
theorem dX10_clubPart_57 : decode cX10_clubPart 57 = .ok ((.invokevirtual 294), 3) := by decide +kernel
theorem dX10_clubPart_60 : decode cX10_clubPart 60 = .ok (.ireturn, 1) := by decide +kernel
def p_X10_clubPart_15  (a1 : Int32)   (post : Bool → vSt → Prop) (S : vSt)  : Prop := p_X10_settled  S 5 (fun r16 S15 => post r16 S15)
def p_X10_clubPart   (S : vSt) (a1 : Int32) (post : Bool → vSt → Prop) : Prop := ((a1 = 0 → p_X10_clubPart_15 a1 post S ) ∧ (¬ a1 = 0 → p_X0_isSet 10 S a1 (fun r16 S15 => ((r16 = true → p_X3_see  S15  (fun S17 => p_X2_setClub  S17  (fun S18 => p_X2_sumOfDreads  S18 a1 (fun r20 S19 => p_X3_whole  S19  (fun r22 S21 => p_J6_bitCount_0f7a4  S21 a1 (fun r24 S23 => p_X10_tell  S23 r20 (r22 * (Int32.toInt64 r24)) (fun r26 S25 => post r26 S25))))))) ∧ (r16 = false → p_X10_clubPart_15 a1 post S15 )))))
set_option maxHeartbeats 4000000 in
set_option maxRecDepth 100000 in
theorem q_X10_clubPart_15 {X : vX} {G : vG}  {post : Bool → vSt → Prop} (C : v_Cx X G cX10_clubPart RX10 2 (v_rm 5 156)) (D : v_Rx X G (v_Qz G post) (some .boolean))  {a1 : Int32}   : ∀ (S : vSt), p_X10_clubPart_15 a1 post S  → VJ X G S 15 [(0, .ref (G.1 0))] [] := by
  intro S  h
  refine V_aload_n C 0 dX10_clubPart_15 rfl rfl ?_
  refine V_iconst (v := 5) C dX10_clubPart_16 (by decide) ?_
  refine V_callVz (As := [.int 5]) (rest := []) C (c_X10_settled (v_l X) G  _ _ h) 0 10 (by decide) (by decide) (by decide) rfl KV_X10_settled k_RX10_116 rfl rfl rfl (Nat.le_of_ble_eq_true rfl) ⟨Nat.le_of_ble_eq_true rfl, Nat.le_of_ble_eq_true rfl⟩ dX10_clubPart_17 (fun r16 S15 h => ?_)
  exact V_zret C D dX10_clubPart_20 h
set_option maxHeartbeats 4000000 in
set_option maxRecDepth 100000 in
theorem c_X10_clubPart (l : Launch) (G : vG)    {S : vSt} (a1 : Int32) (post : Bool → vSt → Prop) (h : p_X10_clubPart   S a1 post) : Met l yX10_clubPart (v_ws yX10_clubPart cX10_clubPart 2 (some .boolean)) (v_rm 5 156) (v_Pc G [.ref (G.1 0), .int a1] S) (v_Qz G post) 0 0 (v_A G) := by
  refine v_start (by decide +kernel) (Nat.le_of_ble_eq_true rfl) (fun X hl C D => ?_)
  subst hl
  have C : v_Cx X G cX10_clubPart RX10 2 (v_rm 5 156) := C
  show VJ X G S 0 [(0, .ref (G.1 0)), (1, .int a1)] []
  refine V_iload_n C 1 dX10_clubPart_0 rfl rfl ?_
  refine V_if_eq (tgt := 15) C dX10_clubPart_1 (by decide) (fun c => ?_) (fun c => ?_)
  · have h := h.1 c
    refine V_loc (lv' := [(0, .ref (G.1 0))]) [0] rfl ?_
    exact q_X10_clubPart_15 C D  _ h
  · have h := h.2 c
    refine V_aload_n C 0 dX10_clubPart_4 rfl rfl ?_
    refine V_ga C 0 (by decide) (by decide) F_10_2 k_RX10_26 dX10_clubPart_5 ?_
    refine V_iload_n C 1 dX10_clubPart_8 rfl rfl ?_
    refine V_callVz (As := [.int a1]) (rest := []) C (c_X0_isSet (v_l X) G v_i10 _ _ h) 10 0 (by decide) (by decide) (by decide) rfl KV_X0_isSet k_RX10_377 rfl rfl rfl (Nat.le_of_ble_eq_true rfl) ⟨Nat.le_of_ble_eq_true rfl, Nat.le_of_ble_eq_true rfl⟩ dX10_clubPart_9 (fun r16 S15 h => ?_)
    refine V_ifb_ne (tgt := 21) C dX10_clubPart_12 (by decide) (fun c => ?_) (fun c => ?_)
    · have h := h.1 c
      refine V_aload_n C 0 dX10_clubPart_21 rfl rfl ?_
      refine V_ga C 0 (by decide) (by decide) F_10_7 k_RX10_64 dX10_clubPart_22 ?_
      refine V_callVv (As := []) (rest := []) C (c_X3_see (v_l X) G  _ h) 58 3 (by decide) (by decide) (by decide) rfl KV_X3_see k_RX10_365 rfl rfl rfl (Nat.le_of_ble_eq_true rfl) ⟨Nat.le_of_ble_eq_true rfl, Nat.le_of_ble_eq_true rfl⟩ dX10_clubPart_25 (fun S17 h => ?_)
      refine V_aload_n C 0 dX10_clubPart_28 rfl rfl ?_
      refine V_ga C 0 (by decide) (by decide) F_10_8 k_RX10_73 dX10_clubPart_29 ?_
      refine V_callVv (As := []) (rest := []) C (c_X2_setClub (v_l X) G  _ h) 68 2 (by decide) (by decide) (by decide) rfl KV_X2_setClub k_RX10_380 rfl rfl rfl (Nat.le_of_ble_eq_true rfl) ⟨Nat.le_of_ble_eq_true rfl, Nat.le_of_ble_eq_true rfl⟩ dX10_clubPart_32 (fun S18 h => ?_)
      refine V_aload_n C 0 dX10_clubPart_35 rfl rfl ?_
      refine V_aload_n C 0 dX10_clubPart_36 rfl rfl ?_
      refine V_ga C 0 (by decide) (by decide) F_10_8 k_RX10_73 dX10_clubPart_37 ?_
      refine V_iload_n C 1 dX10_clubPart_40 rfl rfl ?_
      refine V_callVl (As := [.int a1]) (rest := [.ref (G.1 0)]) C (c_X2_sumOfDreads (v_l X) G  _ _ h) 68 2 (by decide) (by decide) (by decide) rfl KV_X2_sumOfDreads k_RX10_386 rfl rfl rfl (Nat.le_of_ble_eq_true rfl) ⟨Nat.le_of_ble_eq_true rfl, Nat.le_of_ble_eq_true rfl⟩ dX10_clubPart_41 (fun r20 S19 h => ?_)
      refine V_aload_n C 0 dX10_clubPart_44 rfl rfl ?_
      refine V_ga C 0 (by decide) (by decide) F_10_7 k_RX10_64 dX10_clubPart_45 ?_
      refine V_callVl (As := []) (rest := [.long r20, .ref (G.1 0)]) C (c_X3_whole (v_l X) G  _ h) 58 3 (by decide) (by decide) (by decide) rfl KV_X3_whole k_RX10_290 rfl rfl rfl (Nat.le_of_ble_eq_true rfl) ⟨Nat.le_of_ble_eq_true rfl, Nat.le_of_ble_eq_true rfl⟩ dX10_clubPart_48 (fun r22 S21 h => ?_)
      refine V_iload_n C 1 dX10_clubPart_51 rfl rfl ?_
      refine V_callSi (As := [.int a1]) (rest := [.long r22, .long r20, .ref (G.1 0)]) C (c_J6_bitCount_0f7a4 (v_l X) G  _ _ h) KV_J6_bitCount_0f7a4 k_RX10_389 rfl rfl rfl (Nat.le_of_ble_eq_true rfl) ⟨Nat.le_of_ble_eq_true rfl, Nat.le_of_ble_eq_true rfl⟩ dX10_clubPart_52 (fun r24 S23 h => ?_)
      refine V_i2l C dX10_clubPart_55 ?_
      refine V_lmul C dX10_clubPart_56 ?_
      refine V_callVz (As := [.long r20, .long (r22 * (Int32.toInt64 r24))]) (rest := []) C (c_X10_tell (v_l X) G  _ _ _ h) 0 10 (by decide) (by decide) (by decide) rfl KV_X10_tell k_RX10_294 rfl rfl rfl (Nat.le_of_ble_eq_true rfl) ⟨Nat.le_of_ble_eq_true rfl, Nat.le_of_ble_eq_true rfl⟩ dX10_clubPart_57 (fun r26 S25 h => ?_)
      exact V_zret C D dX10_clubPart_60 h
    · have h := h.2 c
      refine V_loc (lv' := [(0, .ref (G.1 0))]) [0] rfl ?_
      exact q_X10_clubPart_15 C D  _ h
/-! HalfAccuser.pastStatus(II)I -/
theorem dX10_pastStatus_0 : decode cX10_pastStatus 0 = .ok ((.aload_n 0), 1) := by decide +kernel
theorem dX10_pastStatus_1 : decode cX10_pastStatus 1 = .ok ((.getfield 26), 3) := by decide +kernel
theorem dX10_pastStatus_4 : decode cX10_pastStatus 4 = .ok ((.iload_n 1), 1) := by decide +kernel
theorem dX10_pastStatus_5 : decode cX10_pastStatus 5 = .ok ((.invokevirtual 188), 3) := by decide +kernel
theorem dX10_pastStatus_8 : decode cX10_pastStatus 8 = .ok ((.ifCond .ne 5), 3) := by decide +kernel
theorem dX10_pastStatus_11 : decode cX10_pastStatus 11 = .ok ((.iconst 2), 1) := by decide +kernel
theorem dX10_pastStatus_12 : decode cX10_pastStatus 12 = .ok (.ireturn, 1) := by decide +kernel
theorem dX10_pastStatus_13 : decode cX10_pastStatus 13 = .ok ((.iload_n 2), 1) := by decide +kernel
theorem dX10_pastStatus_14 : decode cX10_pastStatus 14 = .ok ((.sipush (-9999)), 3) := by decide +kernel
theorem dX10_pastStatus_17 : decode cX10_pastStatus 17 = .ok ((.if_icmp .lt 10), 3) := by decide +kernel
theorem dX10_pastStatus_20 : decode cX10_pastStatus 20 = .ok ((.iload_n 2), 1) := by decide +kernel
theorem dX10_pastStatus_21 : decode cX10_pastStatus 21 = .ok ((.sipush 9999), 3) := by decide +kernel
theorem dX10_pastStatus_24 : decode cX10_pastStatus 24 = .ok ((.if_icmp .le 7), 3) := by decide +kernel
theorem dX10_pastStatus_27 : decode cX10_pastStatus 27 = .ok ((.iconst 5), 1) := by decide +kernel
theorem dX10_pastStatus_28 : decode cX10_pastStatus 28 = .ok ((.goto 4), 3) := by decide +kernel
theorem dX10_pastStatus_31 : decode cX10_pastStatus 31 = .ok ((.iconst 0), 1) := by decide +kernel
theorem dX10_pastStatus_32 : decode cX10_pastStatus 32 = .ok (.ireturn, 1) := by decide +kernel
def p_X10_pastStatus   (S : vSt) (a1 : Int32) (a2 : Int32) (post : Int32 → vSt → Prop) : Prop := p_X0_hasPerson 10 S a1 (fun r4 S3 => ((r4 = true → ((a2 < (-9999) → post 5 S3) ∧ (¬ a2 < (-9999) → ((a2 ≤ 9999 → post 0 S3) ∧ (¬ a2 ≤ 9999 → post 5 S3))))) ∧ (r4 = false → post 2 S3)))
set_option maxHeartbeats 4000000 in
set_option maxRecDepth 100000 in
theorem c_X10_pastStatus (l : Launch) (G : vG)    {S : vSt} (a1 : Int32) (a2 : Int32) (post : Int32 → vSt → Prop) (h : p_X10_pastStatus   S a1 a2 post) : Met l yX10_pastStatus (v_ws yX10_pastStatus cX10_pastStatus 3 (some .int)) (v_rm 1 61) (v_Pc G [.ref (G.1 0), .int a1, .int a2] S) (v_Qi G post) 0 0 (v_A G) := by
  refine v_start (by decide +kernel) (Nat.le_of_ble_eq_true rfl) (fun X hl C D => ?_)
  subst hl
  have C : v_Cx X G cX10_pastStatus RX10 3 (v_rm 1 61) := C
  show VJ X G S 0 [(0, .ref (G.1 0)), (1, .int a1), (2, .int a2)] []
  refine V_aload_n C 0 dX10_pastStatus_0 rfl rfl ?_
  refine V_ga C 0 (by decide) (by decide) F_10_2 k_RX10_26 dX10_pastStatus_1 ?_
  refine V_iload_n C 1 dX10_pastStatus_4 rfl rfl ?_
  refine V_callVz (As := [.int a1]) (rest := []) C (c_X0_hasPerson (v_l X) G v_i10 _ _ h) 10 0 (by decide) (by decide) (by decide) rfl KV_X0_hasPerson k_RX10_188 rfl rfl rfl (Nat.le_of_ble_eq_true rfl) ⟨Nat.le_of_ble_eq_true rfl, Nat.le_of_ble_eq_true rfl⟩ dX10_pastStatus_5 (fun r4 S3 h => ?_)
  refine V_ifb_ne (tgt := 13) C dX10_pastStatus_8 (by decide) (fun c => ?_) (fun c => ?_)
  · have h := h.1 c
    refine V_iload_n C 2 dX10_pastStatus_13 rfl rfl ?_
    refine V_sipush (v := (-9999)) C dX10_pastStatus_14 (by decide) ?_
    refine V_icmp_lt (tgt := 27) C dX10_pastStatus_17 (by decide) (fun c => ?_) (fun c => ?_)
    · have h := h.1 c
      refine V_iconst (v := 5) C dX10_pastStatus_27 (by decide) ?_
      refine V_goto (tgt := 32) C dX10_pastStatus_28 (by decide) ?_
      exact V_iret C D dX10_pastStatus_32 h
    · have h := h.2 c
      refine V_iload_n C 2 dX10_pastStatus_20 rfl rfl ?_
      refine V_sipush (v := 9999) C dX10_pastStatus_21 (by decide) ?_
      refine V_icmp_le (tgt := 31) C dX10_pastStatus_24 (by decide) (fun c => ?_) (fun c => ?_)
      · have h := h.1 c
        refine V_iconst (v := 0) C dX10_pastStatus_31 (by decide) ?_
        exact V_iret C D dX10_pastStatus_32 h
      · have h := h.2 c
        refine V_iconst (v := 5) C dX10_pastStatus_27 (by decide) ?_
        refine V_goto (tgt := 32) C dX10_pastStatus_28 (by decide) ?_
        exact V_iret C D dX10_pastStatus_32 h
  · have h := h.2 c
    refine V_iconst (v := 2) C dX10_pastStatus_11 (by decide) ?_
    exact V_iret C D dX10_pastStatus_12 h
/-! HalfAccuser.gained(II)I -/
theorem dX10_gained_0 : decode cX10_gained 0 = .ok ((.aload_n 0), 1) := by decide +kernel
theorem dX10_gained_1 : decode cX10_gained 1 = .ok ((.iload_n 1), 1) := by decide +kernel
theorem dX10_gained_2 : decode cX10_gained 2 = .ok ((.iload_n 2), 1) := by decide +kernel
theorem dX10_gained_3 : decode cX10_gained 3 = .ok ((.invokevirtual 394), 3) := by decide +kernel
theorem dX10_gained_6 : decode cX10_gained 6 = .ok ((.istore_n 3), 1) := by decide +kernel
theorem dX10_gained_7 : decode cX10_gained 7 = .ok ((.iload_n 3), 1) := by decide +kernel
theorem dX10_gained_8 : decode cX10_gained 8 = .ok ((.ifCond .eq 9), 3) := by decide +kernel
theorem dX10_gained_11 : decode cX10_gained 11 = .ok ((.aload_n 0), 1) := by decide +kernel
theorem dX10_gained_12 : decode cX10_gained 12 = .ok ((.iload_n 3), 1) := by decide +kernel
theorem dX10_gained_13 : decode cX10_gained 13 = .ok ((.invokevirtual 153), 3) := by decide +kernel
theorem dX10_gained_16 : decode cX10_gained 16 = .ok (.ireturn, 1) := by decide +kernel
theorem dX10_gained_17 : decode cX10_gained 17 = .ok ((.aload_n 0), 1) := by decide +kernel
theorem dX10_gained_18 : decode cX10_gained 18 = .ok ((.getfield 80), 3) := by decide +kernel
theorem dX10_gained_21 : decode cX10_gained 21 = .ok ((.iload_n 1), 1) := by decide +kernel
theorem dX10_gained_22 : decode cX10_gained 22 = .ok ((.iload_n 2), 1) := by decide +kernel
theorem dX10_gained_23 : decode cX10_gained 23 = .ok ((.invokevirtual 397), 3) := by decide +kernel
theorem dX10_gained_26 : decode cX10_gained 26 = .ok ((.aload_n 0), 1) := by decide +kernel
theorem dX10_gained_27 : decode cX10_gained 27 = .ok ((.aload_n 0), 1) := by decide +kernel
theorem dX10_gained_28 : decode cX10_gained 28 = .ok ((.getfield 80), 3) := by decide +kernel
theorem dX10_gained_31 : decode cX10_gained 31 = .ok ((.getfield 400), 3) := by decide +kernel
theorem dX10_gained_34 : decode cX10_gained 34 = .ok ((.invokevirtual 173), 3) := by decide +kernel
theorem dX10_gained_37 : decode cX10_gained 37 = .ok (.ireturn, 1) := by decide +kernel
def p_X10_gained   (S : vSt) (a1 : Int32) (a2 : Int32) (post : Int32 → vSt → Prop) : Prop := p_X10_pastStatus  S a1 a2 (fun r9 S8 => ((r9 = 0 → p_X5_look  S8 a1 a2 (fun S10 => p_X10_told  S10 (S10.1 72 3) (fun r12 S11 => post r12 S11))) ∧ (¬ r9 = 0 → p_X10_refused  S8 r9 (fun r14 S13 => post r14 S13))))
set_option maxHeartbeats 4000000 in
set_option maxRecDepth 100000 in
theorem c_X10_gained (l : Launch) (G : vG)    {S : vSt} (a1 : Int32) (a2 : Int32) (post : Int32 → vSt → Prop) (h : p_X10_gained   S a1 a2 post) : Met l yX10_gained (v_ws yX10_gained cX10_gained 4 (some .int)) (v_rm 4 131) (v_Pc G [.ref (G.1 0), .int a1, .int a2] S) (v_Qi G post) 0 0 (v_A G) := by
  refine v_start (by decide +kernel) (Nat.le_of_ble_eq_true rfl) (fun X hl C D => ?_)
  subst hl
  have C : v_Cx X G cX10_gained RX10 4 (v_rm 4 131) := C
  show VJ X G S 0 [(0, .ref (G.1 0)), (1, .int a1), (2, .int a2)] []
  refine V_aload_n C 0 dX10_gained_0 rfl rfl ?_
  refine V_iload_n C 1 dX10_gained_1 rfl rfl ?_
  refine V_iload_n C 2 dX10_gained_2 rfl rfl ?_
  refine V_callVi (As := [.int a1, .int a2]) (rest := []) C (c_X10_pastStatus (v_l X) G  _ _ _ h) 0 10 (by decide) (by decide) (by decide) rfl KV_X10_pastStatus k_RX10_394 rfl rfl rfl (Nat.le_of_ble_eq_true rfl) ⟨Nat.le_of_ble_eq_true rfl, Nat.le_of_ble_eq_true rfl⟩ dX10_gained_3 (fun r9 S8 h => ?_)
  refine V_istore_n (lv' := [(0, .ref (G.1 0)), (1, .int a1), (2, .int a2), (3, .int r9)]) C [1, 2, 3, 0] dX10_gained_6 rfl (by decide) rfl ?_
  refine V_iload_n C 3 dX10_gained_7 rfl rfl ?_
  refine V_if_eq (tgt := 17) C dX10_gained_8 (by decide) (fun c => ?_) (fun c => ?_)
  · have h := h.1 c
    refine V_aload_n C 0 dX10_gained_17 rfl rfl ?_
    refine V_ga C 0 (by decide) (by decide) F_10_9 k_RX10_80 dX10_gained_18 ?_
    refine V_iload_n C 1 dX10_gained_21 rfl rfl ?_
    refine V_iload_n C 2 dX10_gained_22 rfl rfl ?_
    refine V_callVv (As := [.int a1, .int a2]) (rest := []) C (c_X5_look (v_l X) G  _ _ _ h) 72 5 (by decide) (by decide) (by decide) rfl KV_X5_look k_RX10_397 rfl rfl rfl (Nat.le_of_ble_eq_true rfl) ⟨Nat.le_of_ble_eq_true rfl, Nat.le_of_ble_eq_true rfl⟩ dX10_gained_23 (fun S10 h => ?_)
    refine V_aload_n C 0 dX10_gained_26 rfl rfl ?_
    refine V_aload_n C 0 dX10_gained_27 rfl rfl ?_
    refine V_ga C 0 (by decide) (by decide) F_10_9 k_RX10_80 dX10_gained_28 ?_
    refine V_gi C 72 (by decide) (by decide) F_5_3 k_RX10_400 dX10_gained_31 ?_
    refine V_callVi (As := [.int (S10.1 72 3)]) (rest := []) C (c_X10_told (v_l X) G  _ _ h) 0 10 (by decide) (by decide) (by decide) rfl KV_X10_told k_RX10_173 rfl rfl rfl (Nat.le_of_ble_eq_true rfl) ⟨Nat.le_of_ble_eq_true rfl, Nat.le_of_ble_eq_true rfl⟩ dX10_gained_34 (fun r12 S11 h => ?_)
    exact V_iret C D dX10_gained_37 h
  · have h := h.2 c
    refine V_aload_n C 0 dX10_gained_11 rfl rfl ?_
    refine V_iload_n C 3 dX10_gained_12 rfl rfl ?_
    refine V_callVi (As := [.int r9]) (rest := []) C (c_X10_refused (v_l X) G  _ _ h) 0 10 (by decide) (by decide) (by decide) rfl KV_X10_refused k_RX10_153 rfl rfl rfl (Nat.le_of_ble_eq_true rfl) ⟨Nat.le_of_ble_eq_true rfl, Nat.le_of_ble_eq_true rfl⟩ dX10_gained_13 (fun r14 S13 h => ?_)
    exact V_iret C D dX10_gained_16 h
/-! HalfAccuser.sure(II)I -/
theorem dX10_sure_0 : decode cX10_sure 0 = .ok ((.aload_n 0), 1) := by decide +kernel
theorem dX10_sure_1 : decode cX10_sure 1 = .ok ((.iload_n 1), 1) := by decide +kernel
theorem dX10_sure_2 : decode cX10_sure 2 = .ok ((.iload_n 2), 1) := by decide +kernel
theorem dX10_sure_3 : decode cX10_sure 3 = .ok ((.invokevirtual 394), 3) := by decide +kernel
theorem dX10_sure_6 : decode cX10_sure 6 = .ok ((.istore_n 3), 1) := by decide +kernel
theorem dX10_sure_7 : decode cX10_sure 7 = .ok ((.iload_n 3), 1) := by decide +kernel
theorem dX10_sure_8 : decode cX10_sure 8 = .ok ((.ifCond .eq 9), 3) := by decide +kernel
theorem dX10_sure_11 : decode cX10_sure 11 = .ok ((.aload_n 0), 1) := by decide +kernel
theorem dX10_sure_12 : decode cX10_sure 12 = .ok ((.iload_n 3), 1) := by decide +kernel
theorem dX10_sure_13 : decode cX10_sure 13 = .ok ((.invokevirtual 153), 3) := by decide +kernel
theorem dX10_sure_16 : decode cX10_sure 16 = .ok (.ireturn, 1) := by decide +kernel
theorem dX10_sure_17 : decode cX10_sure 17 = .ok ((.aload_n 0), 1) := by decide +kernel
theorem dX10_sure_18 : decode cX10_sure 18 = .ok ((.getfield 80), 3) := by decide +kernel
theorem dX10_sure_21 : decode cX10_sure 21 = .ok ((.iload_n 1), 1) := by decide +kernel
theorem dX10_sure_22 : decode cX10_sure 22 = .ok ((.iload_n 2), 1) := by decide +kernel
theorem dX10_sure_23 : decode cX10_sure 23 = .ok ((.invokevirtual 397), 3) := by decide +kernel
theorem dX10_sure_26 : decode cX10_sure 26 = .ok ((.aload_n 0), 1) := by decide +kernel
theorem dX10_sure_27 : decode cX10_sure 27 = .ok ((.getfield 80), 3) := by decide +kernel
theorem dX10_sure_30 : decode cX10_sure 30 = .ok ((.getfield 400), 3) := by decide +kernel
theorem dX10_sure_33 : decode cX10_sure 33 = .ok ((.ifCond .ne 12), 3) := by decide +kernel
theorem dX10_sure_36 : decode cX10_sure 36 = .ok ((.aload_n 0), 1) := by decide +kernel
theorem dX10_sure_37 : decode cX10_sure 37 = .ok ((.bipush 8), 2) := by decide +kernel
theorem dX10_sure_39 : decode cX10_sure 39 = .ok ((.invokevirtual 153), 3) := by decide +kernel
theorem dX10_sure_42 : decode cX10_sure 42 = .ok ((.goto 14), 3) := by decide +kernel
theorem dX10_sure_45 : decode cX10_sure 45 = .ok ((.aload_n 0), 1) := by decide +kernel
theorem dX10_sure_46 : decode cX10_sure 46 = .ok ((.aload_n 0), 1) := by decide +kernel
theorem dX10_sure_47 : decode cX10_sure 47 = .ok ((.getfield 80), 3) := by decide +kernel
theorem dX10_sure_50 : decode cX10_sure 50 = .ok ((.getfield 402), 3) := by decide +kernel
theorem dX10_sure_53 : decode cX10_sure 53 = .ok ((.invokevirtual 173), 3) := by decide +kernel
theorem dX10_sure_56 : decode cX10_sure 56 = .ok (.ireturn, 1) := by decide +kernel
def p_X10_sure   (S : vSt) (a1 : Int32) (a2 : Int32) (post : Int32 → vSt → Prop) : Prop := p_X10_pastStatus  S a1 a2 (fun r11 S10 => ((r11 = 0 → p_X5_look  S10 a1 a2 (fun S12 => ((¬ (S12.1 72 3) = 0 → p_X10_told  S12 (S12.1 72 4) (fun r14 S13 => post r14 S13)) ∧ ((S12.1 72 3) = 0 → p_X10_refused  S12 8 (fun r16 S15 => post r16 S15))))) ∧ (¬ r11 = 0 → p_X10_refused  S10 r11 (fun r18 S17 => post r18 S17))))
set_option maxHeartbeats 4000000 in
set_option maxRecDepth 100000 in
theorem c_X10_sure (l : Launch) (G : vG)    {S : vSt} (a1 : Int32) (a2 : Int32) (post : Int32 → vSt → Prop) (h : p_X10_sure   S a1 a2 post) : Met l yX10_sure (v_ws yX10_sure cX10_sure 4 (some .int)) (v_rm 4 131) (v_Pc G [.ref (G.1 0), .int a1, .int a2] S) (v_Qi G post) 0 0 (v_A G) := by
  refine v_start (by decide +kernel) (Nat.le_of_ble_eq_true rfl) (fun X hl C D => ?_)
  subst hl
  have C : v_Cx X G cX10_sure RX10 4 (v_rm 4 131) := C
  show VJ X G S 0 [(0, .ref (G.1 0)), (1, .int a1), (2, .int a2)] []
  refine V_aload_n C 0 dX10_sure_0 rfl rfl ?_
  refine V_iload_n C 1 dX10_sure_1 rfl rfl ?_
  refine V_iload_n C 2 dX10_sure_2 rfl rfl ?_
  refine V_callVi (As := [.int a1, .int a2]) (rest := []) C (c_X10_pastStatus (v_l X) G  _ _ _ h) 0 10 (by decide) (by decide) (by decide) rfl KV_X10_pastStatus k_RX10_394 rfl rfl rfl (Nat.le_of_ble_eq_true rfl) ⟨Nat.le_of_ble_eq_true rfl, Nat.le_of_ble_eq_true rfl⟩ dX10_sure_3 (fun r11 S10 h => ?_)
  refine V_istore_n (lv' := [(0, .ref (G.1 0)), (1, .int a1), (2, .int a2), (3, .int r11)]) C [1, 2, 3, 0] dX10_sure_6 rfl (by decide) rfl ?_
  refine V_iload_n C 3 dX10_sure_7 rfl rfl ?_
  refine V_if_eq (tgt := 17) C dX10_sure_8 (by decide) (fun c => ?_) (fun c => ?_)
  · have h := h.1 c
    refine V_aload_n C 0 dX10_sure_17 rfl rfl ?_
    refine V_ga C 0 (by decide) (by decide) F_10_9 k_RX10_80 dX10_sure_18 ?_
    refine V_iload_n C 1 dX10_sure_21 rfl rfl ?_
    refine V_iload_n C 2 dX10_sure_22 rfl rfl ?_
    refine V_callVv (As := [.int a1, .int a2]) (rest := []) C (c_X5_look (v_l X) G  _ _ _ h) 72 5 (by decide) (by decide) (by decide) rfl KV_X5_look k_RX10_397 rfl rfl rfl (Nat.le_of_ble_eq_true rfl) ⟨Nat.le_of_ble_eq_true rfl, Nat.le_of_ble_eq_true rfl⟩ dX10_sure_23 (fun S12 h => ?_)
    refine V_aload_n C 0 dX10_sure_26 rfl rfl ?_
    refine V_ga C 0 (by decide) (by decide) F_10_9 k_RX10_80 dX10_sure_27 ?_
    refine V_gi C 72 (by decide) (by decide) F_5_3 k_RX10_400 dX10_sure_30 ?_
    refine V_if_ne (tgt := 45) C dX10_sure_33 (by decide) (fun c => ?_) (fun c => ?_)
    · have h := h.1 c
      refine V_aload_n C 0 dX10_sure_45 rfl rfl ?_
      refine V_aload_n C 0 dX10_sure_46 rfl rfl ?_
      refine V_ga C 0 (by decide) (by decide) F_10_9 k_RX10_80 dX10_sure_47 ?_
      refine V_gi C 72 (by decide) (by decide) F_5_4 k_RX10_402 dX10_sure_50 ?_
      refine V_callVi (As := [.int (S12.1 72 4)]) (rest := []) C (c_X10_told (v_l X) G  _ _ h) 0 10 (by decide) (by decide) (by decide) rfl KV_X10_told k_RX10_173 rfl rfl rfl (Nat.le_of_ble_eq_true rfl) ⟨Nat.le_of_ble_eq_true rfl, Nat.le_of_ble_eq_true rfl⟩ dX10_sure_53 (fun r14 S13 h => ?_)
      exact V_iret C D dX10_sure_56 h
    · have h := h.2 c
      refine V_aload_n C 0 dX10_sure_36 rfl rfl ?_
      refine V_bipush (v := 8) C dX10_sure_37 (by decide) ?_
      refine V_callVi (As := [.int 8]) (rest := []) C (c_X10_refused (v_l X) G  _ _ h) 0 10 (by decide) (by decide) (by decide) rfl KV_X10_refused k_RX10_153 rfl rfl rfl (Nat.le_of_ble_eq_true rfl) ⟨Nat.le_of_ble_eq_true rfl, Nat.le_of_ble_eq_true rfl⟩ dX10_sure_39 (fun r16 S15 h => ?_)
      refine V_goto (tgt := 56) C dX10_sure_42 (by decide) ?_
      exact V_iret C D dX10_sure_56 h
  · have h := h.2 c
    refine V_aload_n C 0 dX10_sure_11 rfl rfl ?_
    refine V_iload_n C 3 dX10_sure_12 rfl rfl ?_
    refine V_callVi (As := [.int r11]) (rest := []) C (c_X10_refused (v_l X) G  _ _ h) 0 10 (by decide) (by decide) (by decide) rfl KV_X10_refused k_RX10_153 rfl rfl rfl (Nat.le_of_ble_eq_true rfl) ⟨Nat.le_of_ble_eq_true rfl, Nat.le_of_ble_eq_true rfl⟩ dX10_sure_13 (fun r18 S17 h => ?_)
    exact V_iret C D dX10_sure_16 h
/-! HalfAccuser.bound(II)I -/
theorem dX10_bound_0 : decode cX10_bound 0 = .ok ((.aload_n 0), 1) := by decide +kernel
theorem dX10_bound_1 : decode cX10_bound 1 = .ok ((.getfield 26), 3) := by decide +kernel
theorem dX10_bound_4 : decode cX10_bound 4 = .ok ((.iload_n 1), 1) := by decide +kernel
theorem dX10_bound_5 : decode cX10_bound 5 = .ok ((.invokevirtual 188), 3) := by decide +kernel
theorem dX10_bound_8 : decode cX10_bound 8 = .ok ((.ifCond .ne 9), 3) := by decide +kernel
theorem dX10_bound_11 : decode cX10_bound 11 = .ok ((.aload_n 0), 1) := by decide +kernel
theorem dX10_bound_12 : decode cX10_bound 12 = .ok ((.iconst 2), 1) := by decide +kernel
theorem dX10_bound_13 : decode cX10_bound 13 = .ok ((.invokevirtual 153), 3) := by decide +kernel
theorem dX10_bound_16 : decode cX10_bound 16 = .ok (.ireturn, 1) := by decide +kernel
theorem dX10_bound_17 : decode cX10_bound 17 = .ok ((.iload_n 2), 1) := by decide +kernel
theorem dX10_bound_18 : decode cX10_bound 18 = .ok ((.ifCond .lt 8), 3) := by decide +kernel
theorem dX10_bound_21 : decode cX10_bound 21 = .ok ((.iload_n 2), 1) := by decide +kernel
theorem dX10_bound_22 : decode cX10_bound 22 = .ok ((.iconst 1), 1) := by decide +kernel
theorem dX10_bound_23 : decode cX10_bound 23 = .ok ((.if_icmp .le 9), 3) := by decide +kernel
theorem dX10_bound_26 : decode cX10_bound 26 = .ok ((.aload_n 0), 1) := by decide +kernel
theorem dX10_bound_27 : decode cX10_bound 27 = .ok ((.iconst 5), 1) := by decide +kernel
theorem dX10_bound_28 : decode cX10_bound 28 = .ok ((.invokevirtual 153), 3) := by decide +kernel
theorem dX10_bound_31 : decode cX10_bound 31 = .ok (.ireturn, 1) := by decide +kernel
theorem dX10_bound_32 : decode cX10_bound 32 = .ok ((.aload_n 0), 1) := by decide +kernel
theorem dX10_bound_33 : decode cX10_bound 33 = .ok ((.iload_n 2), 1) := by decide +kernel
theorem dX10_bound_34 : decode cX10_bound 34 = .ok ((.ifCond .ne 14), 3) := by decide +kernel
theorem dX10_bound_37 : decode cX10_bound 37 = .ok ((.aload_n 0), 1) := by decide +kernel
theorem dX10_bound_38 : decode cX10_bound 38 = .ok ((.getfield 80), 3) := by decide +kernel
theorem dX10_bound_41 : decode cX10_bound 41 = .ok ((.iload_n 1), 1) := by decide +kernel
theorem dX10_bound_42 : decode cX10_bound 42 = .ok ((.invokevirtual 405), 3) := by decide +kernel
theorem dX10_bound_45 : decode cX10_bound 45 = .ok ((.goto 11), 3) := by decide +kernel
theorem dX10_bound_48 : decode cX10_bound 48 = .ok ((.aload_n 0), 1) := by decide +kernel
theorem dX10_bound_49 : decode cX10_bound 49 = .ok ((.getfield 80), 3) := by decide +kernel
theorem dX10_bound_52 : decode cX10_bound 52 = .ok ((.iload_n 1), 1) := by decide +kernel
theorem dX10_bound_53 : decode cX10_bound 53 = .ok ((.invokevirtual 408), 3) := by decide +kernel
theorem dX10_bound_56 : decode cX10_bound 56 = .ok ((.invokevirtual 173), 3) := by decide +kernel
theorem dX10_bound_59 : decode cX10_bound 59 = .ok (.ireturn, 1) := by decide +kernel
def p_X10_bound_26  (a1 : Int32) (a2 : Int32)   (post : Int32 → vSt → Prop) (S : vSt)  : Prop := p_X10_refused  S 5 (fun r16 S15 => post r16 S15)
def p_X10_bound_56  (a1 : Int32) (a2 : Int32)   (post : Int32 → vSt → Prop) (S : vSt) (s0 : Int32) : Prop := p_X10_told  S s0 (fun r18 S17 => post r18 S17)
def p_X10_bound   (S : vSt) (a1 : Int32) (a2 : Int32) (post : Int32 → vSt → Prop) : Prop := p_X0_hasPerson 10 S a1 (fun r14 S13 => ((r14 = true → ((a2 < 0 → p_X10_bound_26 a1 a2 post S13 ) ∧ (¬ a2 < 0 → ((a2 ≤ 1 → ((¬ a2 = 0 → p_X5_least  S13 a1 (fun r16 S15 => p_X10_bound_56 a1 a2 post S15 r16)) ∧ (a2 = 0 → p_X5_most  S13 a1 (fun r18 S17 => p_X10_bound_56 a1 a2 post S17 r18)))) ∧ (¬ a2 ≤ 1 → p_X10_bound_26 a1 a2 post S13 ))))) ∧ (r14 = false → p_X10_refused  S13 2 (fun r20 S19 => post r20 S19))))
set_option maxHeartbeats 4000000 in
set_option maxRecDepth 100000 in
theorem q_X10_bound_26 {X : vX} {G : vG}  {post : Int32 → vSt → Prop} (C : v_Cx X G cX10_bound RX10 3 (v_rm 4 128)) (D : v_Rx X G (v_Qi G post) (some .int))  {a1 : Int32} {a2 : Int32}   : ∀ (S : vSt), p_X10_bound_26 a1 a2 post S  → VJ X G S 26 [(0, .ref (G.1 0))] [] := by
  intro S  h
  refine V_aload_n C 0 dX10_bound_26 rfl rfl ?_
  refine V_iconst (v := 5) C dX10_bound_27 (by decide) ?_
  refine V_callVi (As := [.int 5]) (rest := []) C (c_X10_refused (v_l X) G  _ _ h) 0 10 (by decide) (by decide) (by decide) rfl KV_X10_refused k_RX10_153 rfl rfl rfl (Nat.le_of_ble_eq_true rfl) ⟨Nat.le_of_ble_eq_true rfl, Nat.le_of_ble_eq_true rfl⟩ dX10_bound_28 (fun r16 S15 h => ?_)
  exact V_iret C D dX10_bound_31 h
set_option maxHeartbeats 4000000 in
set_option maxRecDepth 100000 in
theorem q_X10_bound_56 {X : vX} {G : vG}  {post : Int32 → vSt → Prop} (C : v_Cx X G cX10_bound RX10 3 (v_rm 4 128)) (D : v_Rx X G (v_Qi G post) (some .int))  {a1 : Int32} {a2 : Int32}   : ∀ (S : vSt) (s0 : Int32), p_X10_bound_56 a1 a2 post S s0 → VJ X G S 56 [] [.int s0, .ref (G.1 0)] := by
  intro S s0 h
  refine V_callVi (As := [.int s0]) (rest := []) C (c_X10_told (v_l X) G  _ _ h) 0 10 (by decide) (by decide) (by decide) rfl KV_X10_told k_RX10_173 rfl rfl rfl (Nat.le_of_ble_eq_true rfl) ⟨Nat.le_of_ble_eq_true rfl, Nat.le_of_ble_eq_true rfl⟩ dX10_bound_56 (fun r18 S17 h => ?_)
  exact V_iret C D dX10_bound_59 h
set_option maxHeartbeats 4000000 in
set_option maxRecDepth 100000 in
theorem c_X10_bound (l : Launch) (G : vG)    {S : vSt} (a1 : Int32) (a2 : Int32) (post : Int32 → vSt → Prop) (h : p_X10_bound   S a1 a2 post) : Met l yX10_bound (v_ws yX10_bound cX10_bound 3 (some .int)) (v_rm 4 128) (v_Pc G [.ref (G.1 0), .int a1, .int a2] S) (v_Qi G post) 0 0 (v_A G) := by
  refine v_start (by decide +kernel) (Nat.le_of_ble_eq_true rfl) (fun X hl C D => ?_)
  subst hl
  have C : v_Cx X G cX10_bound RX10 3 (v_rm 4 128) := C
  show VJ X G S 0 [(0, .ref (G.1 0)), (1, .int a1), (2, .int a2)] []
  refine V_aload_n C 0 dX10_bound_0 rfl rfl ?_
  refine V_ga C 0 (by decide) (by decide) F_10_2 k_RX10_26 dX10_bound_1 ?_
  refine V_iload_n C 1 dX10_bound_4 rfl rfl ?_
  refine V_callVz (As := [.int a1]) (rest := []) C (c_X0_hasPerson (v_l X) G v_i10 _ _ h) 10 0 (by decide) (by decide) (by decide) rfl KV_X0_hasPerson k_RX10_188 rfl rfl rfl (Nat.le_of_ble_eq_true rfl) ⟨Nat.le_of_ble_eq_true rfl, Nat.le_of_ble_eq_true rfl⟩ dX10_bound_5 (fun r14 S13 h => ?_)
  refine V_ifb_ne (tgt := 17) C dX10_bound_8 (by decide) (fun c => ?_) (fun c => ?_)
  · have h := h.1 c
    refine V_iload_n C 2 dX10_bound_17 rfl rfl ?_
    refine V_if_lt (tgt := 26) C dX10_bound_18 (by decide) (fun c => ?_) (fun c => ?_)
    · have h := h.1 c
      refine V_loc (lv' := [(0, .ref (G.1 0))]) [0] rfl ?_
      exact q_X10_bound_26 C D  _ h
    · have h := h.2 c
      refine V_iload_n C 2 dX10_bound_21 rfl rfl ?_
      refine V_iconst (v := 1) C dX10_bound_22 (by decide) ?_
      refine V_icmp_le (tgt := 32) C dX10_bound_23 (by decide) (fun c => ?_) (fun c => ?_)
      · have h := h.1 c
        refine V_aload_n C 0 dX10_bound_32 rfl rfl ?_
        refine V_iload_n C 2 dX10_bound_33 rfl rfl ?_
        refine V_if_ne (tgt := 48) C dX10_bound_34 (by decide) (fun c => ?_) (fun c => ?_)
        · have h := h.1 c
          refine V_aload_n C 0 dX10_bound_48 rfl rfl ?_
          refine V_ga C 0 (by decide) (by decide) F_10_9 k_RX10_80 dX10_bound_49 ?_
          refine V_iload_n C 1 dX10_bound_52 rfl rfl ?_
          refine V_callVi (As := [.int a1]) (rest := [.ref (G.1 0)]) C (c_X5_least (v_l X) G  _ _ h) 72 5 (by decide) (by decide) (by decide) rfl KV_X5_least k_RX10_408 rfl rfl rfl (Nat.le_of_ble_eq_true rfl) ⟨Nat.le_of_ble_eq_true rfl, Nat.le_of_ble_eq_true rfl⟩ dX10_bound_53 (fun r16 S15 h => ?_)
          refine V_loc (lv' := []) [] rfl ?_
          exact q_X10_bound_56 C D  _ _ h
        · have h := h.2 c
          refine V_aload_n C 0 dX10_bound_37 rfl rfl ?_
          refine V_ga C 0 (by decide) (by decide) F_10_9 k_RX10_80 dX10_bound_38 ?_
          refine V_iload_n C 1 dX10_bound_41 rfl rfl ?_
          refine V_callVi (As := [.int a1]) (rest := [.ref (G.1 0)]) C (c_X5_most (v_l X) G  _ _ h) 72 5 (by decide) (by decide) (by decide) rfl KV_X5_most k_RX10_405 rfl rfl rfl (Nat.le_of_ble_eq_true rfl) ⟨Nat.le_of_ble_eq_true rfl, Nat.le_of_ble_eq_true rfl⟩ dX10_bound_42 (fun r18 S17 h => ?_)
          refine V_goto (tgt := 56) C dX10_bound_45 (by decide) ?_
          refine V_loc (lv' := []) [] rfl ?_
          exact q_X10_bound_56 C D  _ _ h
      · have h := h.2 c
        refine V_loc (lv' := [(0, .ref (G.1 0))]) [0] rfl ?_
        exact q_X10_bound_26 C D  _ h
  · have h := h.2 c
    refine V_aload_n C 0 dX10_bound_11 rfl rfl ?_
    refine V_iconst (v := 2) C dX10_bound_12 (by decide) ?_
    refine V_callVi (As := [.int 2]) (rest := []) C (c_X10_refused (v_l X) G  _ _ h) 0 10 (by decide) (by decide) (by decide) rfl KV_X10_refused k_RX10_153 rfl rfl rfl (Nat.le_of_ble_eq_true rfl) ⟨Nat.le_of_ble_eq_true rfl, Nat.le_of_ble_eq_true rfl⟩ dX10_bound_13 (fun r20 S19 h => ?_)
    exact V_iret C D dX10_bound_16 h
/-! HalfAccuser.mark()I -/
theorem dX10_mark_0 : decode cX10_mark 0 = .ok ((.aload_n 0), 1) := by decide +kernel
theorem dX10_mark_1 : decode cX10_mark 1 = .ok ((.getfield 433), 3) := by decide +kernel
theorem dX10_mark_4 : decode cX10_mark 4 = .ok ((.ifCond .lt 15), 3) := by decide +kernel
theorem dX10_mark_7 : decode cX10_mark 7 = .ok ((.aload_n 0), 1) := by decide +kernel
theorem dX10_mark_8 : decode cX10_mark 8 = .ok ((.getfield 433), 3) := by decide +kernel
theorem dX10_mark_11 : decode cX10_mark 11 = .ok ((.aload_n 0), 1) := by decide +kernel
theorem dX10_mark_12 : decode cX10_mark 12 = .ok ((.getfield 33), 3) := by decide +kernel
theorem dX10_mark_15 : decode cX10_mark 15 = .ok (.arraylength, 1) := by decide +kernel
theorem dX10_mark_16 : decode cX10_mark 16 = .ok ((.if_icmp .lt 10), 3) := by decide +kernel
theorem dX10_mark_19 : decode cX10_mark 19 = .ok ((.aload_n 0), 1) := by decide +kernel
theorem dX10_mark_20 : decode cX10_mark 20 = .ok ((.bipush 7), 2) := by decide +kernel
theorem dX10_mark_22 : decode cX10_mark 22 = .ok ((.invokevirtual 153), 3) := by decide +kernel
theorem dX10_mark_25 : decode cX10_mark 25 = .ok (.ireturn, 1) := by decide +kernel
theorem dX10_mark_26 : decode cX10_mark 26 = .ok ((.aload_n 0), 1) := by decide +kernel
theorem dX10_mark_27 : decode cX10_mark 27 = .ok ((.getfield 33), 3) := by decide +kernel
theorem dX10_mark_30 : decode cX10_mark 30 = .ok ((.aload_n 0), 1) := by decide +kernel
theorem dX10_mark_31 : decode cX10_mark 31 = .ok ((.getfield 433), 3) := by decide +kernel
theorem dX10_mark_34 : decode cX10_mark 34 = .ok (.aaload, 1) := by decide +kernel
theorem dX10_mark_35 : decode cX10_mark 35 = .ok ((.astore_n 1), 1) := by decide +kernel
theorem dX10_mark_36 : decode cX10_mark 36 = .ok ((.aload_n 1), 1) := by decide +kernel
theorem dX10_mark_37 : decode cX10_mark 37 = .ok ((.ifnonnull 10), 3) := by decide +kernel
theorem dX10_mark_40 : decode cX10_mark 40 = .ok ((.aload_n 0), 1) := by decide +kernel
theorem dX10_mark_41 : decode cX10_mark 41 = .ok ((.bipush 7), 2) := by decide +kernel
theorem dX10_mark_43 : decode cX10_mark 43 = .ok ((.invokevirtual 153), 3) := by decide +kernel
theorem dX10_mark_46 : decode cX10_mark 46 = .ok (.ireturn, 1) := by decide +kernel
theorem dX10_mark_47 : decode cX10_mark 47 = .ok ((.aload_n 1), 1) := by decide +kernel
theorem dX10_mark_48 : decode cX10_mark 48 = .ok ((.aload_n 0), 1) := by decide +kernel
theorem dX10_mark_49 : decode cX10_mark 49 = .ok ((.getfield 26), 3) := by decide +kernel
theorem dX10_mark_52 : decode cX10_mark 52 = .ok ((.invokevirtual 167), 3) := by decide +kernel
theorem dX10_mark_55 : decode cX10_mark 55 = .ok ((.aload_n 0), 1) := by decide +kernel
theorem dX10_mark_56 : decode cX10_mark 56 = .ok (.dup, 1) := by decide +kernel
theorem dX10_mark_57 : decode cX10_mark 57 = .ok ((.getfield 433), 3) := by decide +kernel
theorem dX10_mark_60 : decode cX10_mark 60 = .ok ((.iconst 1), 1) := by decide +kernel
theorem dX10_mark_61 : decode cX10_mark 61 = .ok (.iadd, 1) := by decide +kernel
theorem dX10_mark_62 : decode cX10_mark 62 = .ok ((.putfield 433), 3) := by decide +kernel
theorem dX10_mark_65 : decode cX10_mark 65 = .ok ((.aload_n 0), 1) := by decide +kernel
theorem dX10_mark_66 : decode cX10_mark 66 = .ok ((.aload_n 0), 1) := by decide +kernel
theorem dX10_mark_67 : decode cX10_mark 67 = .ok ((.getfield 433), 3) := by decide +kernel
theorem dX10_mark_70 : decode cX10_mark 70 = .ok ((.invokevirtual 173), 3) := by decide +kernel
theorem dX10_mark_73 : decode cX10_mark 73 = .ok (.ireturn, 1) := by decide +kernel
def p_X10_mark_19     (post : Int32 → vSt → Prop) (S : vSt)  : Prop := p_X10_refused  S 7 (fun r9 S8 => post r9 S8)
def p_X10_mark   (S : vSt)  (post : Int32 → vSt → Prop) : Prop := (((S.1 0 13) < 0 → p_X10_mark_19  post S ) ∧ (¬ (S.1 0 13) < 0 → (((S.1 0 13) < 3 → (vp_in (S.1 0 13) 3 ∧ ∀ m8 : Nat, m8 = 77 + 22 * (Int32.toNatClampNeg (S.1 0 13)) → p_X0_copyFrom m8 10 S  (fun S9 => ∀ S10, S10 = v_si S9 0 13 ((S9.1 0 13) + 1) → p_X10_told  S10 (S10.1 0 13) (fun r12 S11 => post r12 S11)))) ∧ (¬ (S.1 0 13) < 3 → p_X10_mark_19  post S ))))
set_option maxHeartbeats 4000000 in
set_option maxRecDepth 100000 in
theorem q_X10_mark_19 {X : vX} {G : vG}  {post : Int32 → vSt → Prop} (C : v_Cx X G cX10_mark RX10 2 (v_rm 4 143)) (D : v_Rx X G (v_Qi G post) (some .int))     : ∀ (S : vSt), p_X10_mark_19  post S  → VJ X G S 19 [(0, .ref (G.1 0))] [] := by
  intro S  h
  refine V_aload_n C 0 dX10_mark_19 rfl rfl ?_
  refine V_bipush (v := 7) C dX10_mark_20 (by decide) ?_
  refine V_callVi (As := [.int 7]) (rest := []) C (c_X10_refused (v_l X) G  _ _ h) 0 10 (by decide) (by decide) (by decide) rfl KV_X10_refused k_RX10_153 rfl rfl rfl (Nat.le_of_ble_eq_true rfl) ⟨Nat.le_of_ble_eq_true rfl, Nat.le_of_ble_eq_true rfl⟩ dX10_mark_22 (fun r9 S8 h => ?_)
  exact V_iret C D dX10_mark_25 h
set_option maxHeartbeats 4000000 in
set_option maxRecDepth 100000 in
theorem c_X10_mark (l : Launch) (G : vG)    {S : vSt}  (post : Int32 → vSt → Prop) (h : p_X10_mark   S  post) : Met l yX10_mark (v_ws yX10_mark cX10_mark 2 (some .int)) (v_rm 4 143) (v_Pc G [.ref (G.1 0)] S) (v_Qi G post) 0 0 (v_A G) := by
  refine v_start (by decide +kernel) (Nat.le_of_ble_eq_true rfl) (fun X hl C D => ?_)
  subst hl
  have C : v_Cx X G cX10_mark RX10 2 (v_rm 4 143) := C
  show VJ X G S 0 [(0, .ref (G.1 0))] []
  refine V_aload_n C 0 dX10_mark_0 rfl rfl ?_
  refine V_gi C 0 (by decide) (by decide) F_10_13 k_RX10_433 dX10_mark_1 ?_
  refine V_if_lt (tgt := 19) C dX10_mark_4 (by decide) (fun c => ?_) (fun c => ?_)
  · have h := h.1 c
    exact q_X10_mark_19 C D  _ h
  · have h := h.2 c
    refine V_aload_n C 0 dX10_mark_7 rfl rfl ?_
    refine V_gi C 0 (by decide) (by decide) F_10_13 k_RX10_433 dX10_mark_8 ?_
    refine V_aload_n C 0 dX10_mark_11 rfl rfl ?_
    refine V_ga C 0 (by decide) (by decide) F_10_4 k_RX10_33 dX10_mark_12 ?_
    refine V_alen C 54 3 (by decide) (Or.inr (Or.inr (Or.inr (by decide)))) dX10_mark_15 ?_
    refine V_icmp_lt (tgt := 26) C dX10_mark_16 (by decide) (fun c => ?_) (fun c => ?_)
    · have h := h.1 c
      refine V_aload_n C 0 dX10_mark_26 rfl rfl ?_
      refine V_ga C 0 (by decide) (by decide) F_10_4 k_RX10_33 dX10_mark_27 ?_
      refine V_aload_n C 0 dX10_mark_30 rfl rfl ?_
      refine V_gi C 0 (by decide) (by decide) F_10_13 k_RX10_433 dX10_mark_31 ?_
      obtain ⟨hi, h⟩ := h
      obtain ⟨m8, em8⟩ : ∃ z : Nat, z = 77 + 22 * (Int32.toNatClampNeg (S.1 0 13)) := ⟨_, rfl⟩
      have h := h m8 em8
      have hm8 : v_isC m8 := v_mkC hi em8
      refine V_aald2 C 54 3 (by decide) (by decide) hi em8 dX10_mark_34 ?_
      refine V_astore_n (lv' := [(0, .ref (G.1 0)), (1, .ref (G.1 m8))]) C [1, 0] dX10_mark_35 rfl (by decide) rfl ?_
      refine V_aload_n C 1 dX10_mark_36 rfl rfl ?_
      refine V_ifnonnull (tgt := 47) C dX10_mark_37 (by decide) ?_
      refine V_aload_n C 1 dX10_mark_47 rfl rfl ?_
      refine V_aload_n C 0 dX10_mark_48 rfl rfl ?_
      refine V_ga C 0 (by decide) (by decide) F_10_2 k_RX10_26 dX10_mark_49 ?_
      refine V_callVv (As := [.ref (G.1 10)]) (rest := []) C (c_X0_copyFrom (v_l X) G hm8 v_i10 _ h) m8 0 (v_cb hm8 0 (by decide)) (v_co0 hm8) (by decide) rfl KV_X0_copyFrom k_RX10_167 rfl rfl rfl (Nat.le_of_ble_eq_true rfl) ⟨Nat.le_of_ble_eq_true rfl, Nat.le_of_ble_eq_true rfl⟩ dX10_mark_52 (fun S9 h => ?_)
      refine V_aload_n C 0 dX10_mark_55 rfl rfl ?_
      refine V_dup C dX10_mark_56 rfl ?_
      refine V_gi C 0 (by decide) (by decide) F_10_13 k_RX10_433 dX10_mark_57 ?_
      refine V_iconst (v := 1) C dX10_mark_60 (by decide) ?_
      refine V_iadd C dX10_mark_61 ?_
      refine V_pi C 0 (by decide) (by decide) P_10_13 k_RX10_433 dX10_mark_62 ?_
      refine V_topS (fun S10 eS10 => ?_)
      have h := h S10 eS10
      refine V_aload_n C 0 dX10_mark_65 rfl rfl ?_
      refine V_aload_n C 0 dX10_mark_66 rfl rfl ?_
      refine V_gi C 0 (by decide) (by decide) F_10_13 k_RX10_433 dX10_mark_67 ?_
      refine V_callVi (As := [.int (S10.1 0 13)]) (rest := []) C (c_X10_told (v_l X) G  _ _ h) 0 10 (by decide) (by decide) (by decide) rfl KV_X10_told k_RX10_173 rfl rfl rfl (Nat.le_of_ble_eq_true rfl) ⟨Nat.le_of_ble_eq_true rfl, Nat.le_of_ble_eq_true rfl⟩ dX10_mark_70 (fun r12 S11 h => ?_)
      exact V_iret C D dX10_mark_73 h
    · have h := h.2 c
      exact q_X10_mark_19 C D  _ h
/-! HalfAccuser.back()I -/
theorem dX10_back_0 : decode cX10_back 0 = .ok ((.aload_n 0), 1) := by decide +kernel
theorem dX10_back_1 : decode cX10_back 1 = .ok ((.getfield 433), 3) := by decide +kernel
theorem dX10_back_4 : decode cX10_back 4 = .ok ((.iconst 1), 1) := by decide +kernel
theorem dX10_back_5 : decode cX10_back 5 = .ok (.isub, 1) := by decide +kernel
theorem dX10_back_6 : decode cX10_back 6 = .ok ((.istore_n 1), 1) := by decide +kernel
theorem dX10_back_7 : decode cX10_back 7 = .ok ((.iload_n 1), 1) := by decide +kernel
theorem dX10_back_8 : decode cX10_back 8 = .ok ((.ifCond .lt 12), 3) := by decide +kernel
theorem dX10_back_11 : decode cX10_back 11 = .ok ((.iload_n 1), 1) := by decide +kernel
theorem dX10_back_12 : decode cX10_back 12 = .ok ((.aload_n 0), 1) := by decide +kernel
theorem dX10_back_13 : decode cX10_back 13 = .ok ((.getfield 33), 3) := by decide +kernel
theorem dX10_back_16 : decode cX10_back 16 = .ok (.arraylength, 1) := by decide +kernel
theorem dX10_back_17 : decode cX10_back 17 = .ok ((.if_icmp .lt 10), 3) := by decide +kernel
theorem dX10_back_20 : decode cX10_back 20 = .ok ((.aload_n 0), 1) := by decide +kernel
theorem dX10_back_21 : decode cX10_back 21 = .ok ((.bipush 8), 2) := by decide +kernel
theorem dX10_back_23 : decode cX10_back 23 = .ok ((.invokevirtual 153), 3) := by decide +kernel
theorem dX10_back_26 : decode cX10_back 26 = .ok (.ireturn, 1) := by decide +kernel
theorem dX10_back_27 : decode cX10_back 27 = .ok ((.aload_n 0), 1) := by decide +kernel
theorem dX10_back_28 : decode cX10_back 28 = .ok ((.getfield 33), 3) := by decide +kernel
theorem dX10_back_31 : decode cX10_back 31 = .ok ((.iload_n 1), 1) := by decide +kernel
theorem dX10_back_32 : decode cX10_back 32 = .ok (.aaload, 1) := by decide +kernel
theorem dX10_back_33 : decode cX10_back 33 = .ok ((.astore_n 2), 1) := by decide +kernel
theorem dX10_back_34 : decode cX10_back 34 = .ok ((.aload_n 2), 1) := by decide +kernel
theorem dX10_back_35 : decode cX10_back 35 = .ok ((.ifnonnull 10), 3) := by decide +kernel
theorem dX10_back_38 : decode cX10_back 38 = .ok ((.aload_n 0), 1) := by decide +kernel
theorem dX10_back_39 : decode cX10_back 39 = .ok ((.bipush 8), 2) := by decide +kernel
theorem dX10_back_41 : decode cX10_back 41 = .ok ((.invokevirtual 153), 3) := by decide +kernel
theorem dX10_back_44 : decode cX10_back 44 = .ok (.ireturn, 1) := by decide +kernel
theorem dX10_back_45 : decode cX10_back 45 = .ok ((.aload_n 0), 1) := by decide +kernel
theorem dX10_back_46 : decode cX10_back 46 = .ok ((.getfield 26), 3) := by decide +kernel
theorem dX10_back_49 : decode cX10_back 49 = .ok ((.aload_n 2), 1) := by decide +kernel
theorem dX10_back_50 : decode cX10_back 50 = .ok ((.invokevirtual 167), 3) := by decide +kernel
theorem dX10_back_53 : decode cX10_back 53 = .ok ((.aload_n 0), 1) := by decide +kernel
theorem dX10_back_54 : decode cX10_back 54 = .ok ((.iload_n 1), 1) := by decide +kernel
theorem dX10_back_55 : decode cX10_back 55 = .ok ((.putfield 433), 3) := by decide +kernel
theorem dX10_back_58 : decode cX10_back 58 = .ok ((.aload_n 0), 1) := by decide +kernel
theorem dX10_back_59 : decode cX10_back 59 = .ok ((.aload_n 0), 1) := by decide +kernel
theorem dX10_back_60 : decode cX10_back 60 = .ok ((.getfield 433), 3) := by decide +kernel
theorem dX10_back_63 : decode cX10_back 63 = .ok ((.invokevirtual 173), 3) := by decide +kernel
theorem dX10_back_66 : decode cX10_back 66 = .ok (.ireturn, 1) := by decide +kernel
def p_X10_back_20     (post : Int32 → vSt → Prop) (S : vSt)  : Prop := p_X10_refused  S 8 (fun r11 S10 => post r11 S10)
def p_X10_back   (S : vSt)  (post : Int32 → vSt → Prop) : Prop := ∀ y9 : Int32, y9 = ((S.1 0 13) - 1) → ((y9 < 0 → p_X10_back_20  post S ) ∧ (¬ y9 < 0 → ((y9 < 3 → (vp_in y9 3 ∧ ∀ m10 : Nat, m10 = 77 + 22 * (Int32.toNatClampNeg y9) → p_X0_copyFrom 10 m10 S  (fun S11 => ∀ S12, S12 = v_si S11 0 13 y9 → p_X10_told  S12 (S12.1 0 13) (fun r14 S13 => post r14 S13)))) ∧ (¬ y9 < 3 → p_X10_back_20  post S ))))
set_option maxHeartbeats 4000000 in
set_option maxRecDepth 100000 in
theorem q_X10_back_20 {X : vX} {G : vG}  {post : Int32 → vSt → Prop} (C : v_Cx X G cX10_back RX10 3 (v_rm 4 143)) (D : v_Rx X G (v_Qi G post) (some .int))     : ∀ (S : vSt), p_X10_back_20  post S  → VJ X G S 20 [(0, .ref (G.1 0))] [] := by
  intro S  h
  refine V_aload_n C 0 dX10_back_20 rfl rfl ?_
  refine V_bipush (v := 8) C dX10_back_21 (by decide) ?_
  refine V_callVi (As := [.int 8]) (rest := []) C (c_X10_refused (v_l X) G  _ _ h) 0 10 (by decide) (by decide) (by decide) rfl KV_X10_refused k_RX10_153 rfl rfl rfl (Nat.le_of_ble_eq_true rfl) ⟨Nat.le_of_ble_eq_true rfl, Nat.le_of_ble_eq_true rfl⟩ dX10_back_23 (fun r11 S10 h => ?_)
  exact V_iret C D dX10_back_26 h
set_option maxHeartbeats 4000000 in
set_option maxRecDepth 100000 in
theorem c_X10_back (l : Launch) (G : vG)    {S : vSt}  (post : Int32 → vSt → Prop) (h : p_X10_back   S  post) : Met l yX10_back (v_ws yX10_back cX10_back 3 (some .int)) (v_rm 4 143) (v_Pc G [.ref (G.1 0)] S) (v_Qi G post) 0 0 (v_A G) := by
  refine v_start (by decide +kernel) (Nat.le_of_ble_eq_true rfl) (fun X hl C D => ?_)
  subst hl
  have C : v_Cx X G cX10_back RX10 3 (v_rm 4 143) := C
  show VJ X G S 0 [(0, .ref (G.1 0))] []
  refine V_aload_n C 0 dX10_back_0 rfl rfl ?_
  refine V_gi C 0 (by decide) (by decide) F_10_13 k_RX10_433 dX10_back_1 ?_
  refine V_iconst (v := 1) C dX10_back_4 (by decide) ?_
  refine V_isub C dX10_back_5 ?_
  refine V_topi (fun y9 ey9 => ?_)
  have h := h y9 ey9
  refine V_istore_n (lv' := [(0, .ref (G.1 0)), (1, .int y9)]) C [1, 0] dX10_back_6 rfl (by decide) rfl ?_
  refine V_iload_n C 1 dX10_back_7 rfl rfl ?_
  refine V_if_lt (tgt := 20) C dX10_back_8 (by decide) (fun c => ?_) (fun c => ?_)
  · have h := h.1 c
    refine V_loc (lv' := [(0, .ref (G.1 0))]) [0] rfl ?_
    exact q_X10_back_20 C D  _ h
  · have h := h.2 c
    refine V_iload_n C 1 dX10_back_11 rfl rfl ?_
    refine V_aload_n C 0 dX10_back_12 rfl rfl ?_
    refine V_ga C 0 (by decide) (by decide) F_10_4 k_RX10_33 dX10_back_13 ?_
    refine V_alen C 54 3 (by decide) (Or.inr (Or.inr (Or.inr (by decide)))) dX10_back_16 ?_
    refine V_icmp_lt (tgt := 27) C dX10_back_17 (by decide) (fun c => ?_) (fun c => ?_)
    · have h := h.1 c
      refine V_aload_n C 0 dX10_back_27 rfl rfl ?_
      refine V_ga C 0 (by decide) (by decide) F_10_4 k_RX10_33 dX10_back_28 ?_
      refine V_iload_n C 1 dX10_back_31 rfl rfl ?_
      obtain ⟨hi, h⟩ := h
      obtain ⟨m10, em10⟩ : ∃ z : Nat, z = 77 + 22 * (Int32.toNatClampNeg y9) := ⟨_, rfl⟩
      have h := h m10 em10
      have hm10 : v_isC m10 := v_mkC hi em10
      refine V_aald2 C 54 3 (by decide) (by decide) hi em10 dX10_back_32 ?_
      refine V_astore_n (lv' := [(0, .ref (G.1 0)), (1, .int y9), (2, .ref (G.1 m10))]) C [1, 2, 0] dX10_back_33 rfl (by decide) rfl ?_
      refine V_aload_n C 2 dX10_back_34 rfl rfl ?_
      refine V_ifnonnull (tgt := 45) C dX10_back_35 (by decide) ?_
      refine V_aload_n C 0 dX10_back_45 rfl rfl ?_
      refine V_ga C 0 (by decide) (by decide) F_10_2 k_RX10_26 dX10_back_46 ?_
      refine V_aload_n C 2 dX10_back_49 rfl rfl ?_
      refine V_callVv (As := [.ref (G.1 m10)]) (rest := []) C (c_X0_copyFrom (v_l X) G v_i10 hm10 _ h) 10 0 (by decide) (by decide) (by decide) rfl KV_X0_copyFrom k_RX10_167 rfl rfl rfl (Nat.le_of_ble_eq_true rfl) ⟨Nat.le_of_ble_eq_true rfl, Nat.le_of_ble_eq_true rfl⟩ dX10_back_50 (fun S11 h => ?_)
      refine V_aload_n C 0 dX10_back_53 rfl rfl ?_
      refine V_iload_n C 1 dX10_back_54 rfl rfl ?_
      refine V_pi C 0 (by decide) (by decide) P_10_13 k_RX10_433 dX10_back_55 ?_
      refine V_topS (fun S12 eS12 => ?_)
      have h := h S12 eS12
      refine V_aload_n C 0 dX10_back_58 rfl rfl ?_
      refine V_aload_n C 0 dX10_back_59 rfl rfl ?_
      refine V_gi C 0 (by decide) (by decide) F_10_13 k_RX10_433 dX10_back_60 ?_
      refine V_callVi (As := [.int (S12.1 0 13)]) (rest := []) C (c_X10_told (v_l X) G  _ _ h) 0 10 (by decide) (by decide) (by decide) rfl KV_X10_told k_RX10_173 rfl rfl rfl (Nat.le_of_ble_eq_true rfl) ⟨Nat.le_of_ble_eq_true rfl, Nat.le_of_ble_eq_true rfl⟩ dX10_back_63 (fun r14 S13 h => ?_)
      exact V_iret C D dX10_back_66 h
    · have h := h.2 c
      refine V_loc (lv' := [(0, .ref (G.1 0))]) [0] rfl ?_
      exact q_X10_back_20 C D  _ h
/-! java/lang/StringUTF16.length([B)I -/
theorem dJ2_length_9d52b_0 : decode cJ2_length_9d52b 0 = .ok ((.aload_n 0), 1) := by decide +kernel
theorem dJ2_length_9d52b_1 : decode cJ2_length_9d52b 1 = .ok (.arraylength, 1) := by decide +kernel
theorem dJ2_length_9d52b_2 : decode cJ2_length_9d52b 2 = .ok ((.iconst 1), 1) := by decide +kernel
theorem dJ2_length_9d52b_3 : decode cJ2_length_9d52b 3 = .ok (.ishr, 1) := by decide +kernel
theorem dJ2_length_9d52b_4 : decode cJ2_length_9d52b 4 = .ok (.ireturn, 1) := by decide +kernel
def p_J2_length_9d52b (k0 n0 : Nat)  (S : vSt)  (post : Int32 → vSt → Prop) : Prop := post ((Int32.ofNat n0) >>> ((1 : Int32) &&& 31)) S
set_option maxHeartbeats 4000000 in
set_option maxRecDepth 100000 in
theorem c_J2_length_9d52b (l : Launch) (G : vG)  {k0 n0 : Nat} (hk0 : k0 < 145) (hs0 : v_sh k0 = (12, n0))  {S : vSt}  (post : Int32 → vSt → Prop) (h : p_J2_length_9d52b k0 n0  S  post) : Met l yJ2_length_9d52b (v_ws yJ2_length_9d52b cJ2_length_9d52b 1 (some .int)) (v_rm 0 40) (v_Pc G [.ref (G.1 k0)] S) (v_Qi G post) 0 0 (v_A G) := by
  refine v_start (by decide +kernel) (Nat.le_of_ble_eq_true rfl) (fun X hl C D => ?_)
  subst hl
  have C : v_Cx X G cJ2_length_9d52b RJ2 1 (v_rm 0 40) := C
  show VJ X G S 0 [(0, .ref (G.1 k0))] []
  refine V_aload_n C 0 dJ2_length_9d52b_0 rfl rfl ?_
  refine V_alen C k0 n0 hk0 (Or.inl hs0) dJ2_length_9d52b_1 ?_
  refine V_iconst (v := 1) C dJ2_length_9d52b_2 (by decide) ?_
  refine V_ishr C dJ2_length_9d52b_3 ?_
  exact V_iret C D dJ2_length_9d52b_4 h
/-! java/util/Arrays.fill([II)V -/
theorem dJ7_fill_53178_0 : decode cJ7_fill_53178 0 = .ok ((.iconst 0), 1) := by decide +kernel
theorem dJ7_fill_53178_1 : decode cJ7_fill_53178 1 = .ok ((.istore_n 2), 1) := by decide +kernel
theorem dJ7_fill_53178_2 : decode cJ7_fill_53178 2 = .ok ((.aload_n 0), 1) := by decide +kernel
theorem dJ7_fill_53178_3 : decode cJ7_fill_53178 3 = .ok (.arraylength, 1) := by decide +kernel
theorem dJ7_fill_53178_4 : decode cJ7_fill_53178 4 = .ok ((.istore_n 3), 1) := by decide +kernel
theorem dJ7_fill_53178_5 : decode cJ7_fill_53178 5 = .ok ((.iload_n 2), 1) := by decide +kernel
theorem dJ7_fill_53178_6 : decode cJ7_fill_53178 6 = .ok ((.iload_n 3), 1) := by decide +kernel
theorem dJ7_fill_53178_7 : decode cJ7_fill_53178 7 = .ok ((.if_icmp .ge 13), 3) := by decide +kernel
theorem dJ7_fill_53178_10 : decode cJ7_fill_53178 10 = .ok ((.aload_n 0), 1) := by decide +kernel
theorem dJ7_fill_53178_11 : decode cJ7_fill_53178 11 = .ok ((.iload_n 2), 1) := by decide +kernel
theorem dJ7_fill_53178_12 : decode cJ7_fill_53178 12 = .ok ((.iload_n 1), 1) := by decide +kernel
theorem dJ7_fill_53178_13 : decode cJ7_fill_53178 13 = .ok (.iastore, 1) := by decide +kernel
theorem dJ7_fill_53178_14 : decode cJ7_fill_53178 14 = .ok ((.iinc 2 1), 3) := by decide +kernel
theorem dJ7_fill_53178_17 : decode cJ7_fill_53178 17 = .ok ((.goto (-12)), 3) := by decide +kernel
theorem dJ7_fill_53178_20 : decode cJ7_fill_53178 20 = .ok (.return_, 1) := by decide +kernel
def p_J7_fill_53178_5 (k0 n0 : Nat) (a1 : Int32)   (post : vSt → Prop) : Nat → vSt → Int32 → Int32 → Prop
  | 0 => fun _ _ _ => False
  | fu5 + 1 => fun S x2 x3 => ((x3 ≤ x2 → post S) ∧ (¬ x3 ≤ x2 → (vp_in x2 n0 ∧ ∀ S7, S7 = v_si S k0 (Int32.toNatClampNeg x2) a1 → ∀ y8 : Int32, y8 = x2 + 1 → (p_J7_fill_53178_5 k0 n0 a1 post fu5) S7 y8 x3)))
theorem e_J7_fill_53178_5 (k0 n0 : Nat) (a1 : Int32)   (post : vSt → Prop) (fu5 : Nat) (S : vSt) (x2 : Int32) (x3 : Int32) : p_J7_fill_53178_5 k0 n0 a1 post (fu5 + 1) S x2 x3 = (((x3 ≤ x2 → post S) ∧ (¬ x3 ≤ x2 → (vp_in x2 n0 ∧ ∀ S7, S7 = v_si S k0 (Int32.toNatClampNeg x2) a1 → ∀ y8 : Int32, y8 = x2 + 1 → (p_J7_fill_53178_5 k0 n0 a1 post fu5) S7 y8 x3)))) := rfl
def p_J7_fill_53178 (k0 n0 : Nat)  (S : vSt) (a1 : Int32) (post : vSt → Prop) : Prop := ∀ y6 : Int32, y6 = (Int32.ofNat n0) → ∃ fu5, p_J7_fill_53178_5 k0 n0 a1 post fu5 S 0 y6
set_option maxHeartbeats 4000000 in
set_option maxRecDepth 100000 in
theorem q_J7_fill_53178_5 {X : vX} {G : vG}  {post : vSt → Prop} (C : v_Cx X G cJ7_fill_53178 RJ7 4 (v_rm 0 40)) (D : v_Rx X G (v_Qv G post) none) {k0 n0 : Nat} (hk0 : k0 < 145) (hs0 : v_sh k0 = (13, n0)) {a1 : Int32}   : ∀ (fu : Nat) (S : vSt) (x2 : Int32) (x3 : Int32), p_J7_fill_53178_5 k0 n0 a1 post fu S x2 x3 → VJ X G S 5 [(0, .ref (G.1 k0)), (1, .int a1), (2, .int x2), (3, .int x3)] [] := by
  intro fu
  induction fu with
  | zero => intro S x2 x3 h; exact absurd h id
  | succ fu ih =>
    intro S x2 x3 h
    have hK5 := ih
    rw [e_J7_fill_53178_5] at h
    refine V_iload_n C 2 dJ7_fill_53178_5 rfl rfl ?_
    refine V_iload_n C 3 dJ7_fill_53178_6 rfl rfl ?_
    refine V_icmp_ge (tgt := 20) C dJ7_fill_53178_7 (by decide) (fun c => ?_) (fun c => ?_)
    · have h := h.1 c
      exact V_vret C D dJ7_fill_53178_20 h
    · have h := h.2 c
      refine V_aload_n C 0 dJ7_fill_53178_10 rfl rfl ?_
      refine V_iload_n C 2 dJ7_fill_53178_11 rfl rfl ?_
      refine V_iload_n C 1 dJ7_fill_53178_12 rfl rfl ?_
      obtain ⟨hi, h⟩ := h
      refine V_iast C k0 n0 hk0 hs0 hi dJ7_fill_53178_13 ?_
      refine V_topS (fun S7 eS7 => ?_)
      have h := h S7 eS7
      obtain ⟨y8, ey8⟩ : ∃ z : Int32, z = x2 + 1 := ⟨_, rfl⟩
      have h := h y8 ey8
      refine V_iinc (lv' := [(0, .ref (G.1 k0)), (1, .int a1), (2, .int y8), (3, .int x3)]) C 2 [1, 2, 0, 3] y8 dJ7_fill_53178_14 rfl (by rw [ey8]; rfl) (by decide) rfl ?_
      refine V_goto (tgt := 5) C dJ7_fill_53178_17 (by decide) ?_
      exact hK5 _ _ _ h
set_option maxHeartbeats 4000000 in
set_option maxRecDepth 100000 in
theorem c_J7_fill_53178 (l : Launch) (G : vG)  {k0 n0 : Nat} (hk0 : k0 < 145) (hs0 : v_sh k0 = (13, n0))  {S : vSt} (a1 : Int32) (post : vSt → Prop) (h : p_J7_fill_53178 k0 n0  S a1 post) : Met l yJ7_fill_53178 (v_ws yJ7_fill_53178 cJ7_fill_53178 4 none) (v_rm 0 40) (v_Pc G [.ref (G.1 k0), .int a1] S) (v_Qv G post) 0 0 (v_A G) := by
  refine v_start (by decide +kernel) (Nat.le_of_ble_eq_true rfl) (fun X hl C D => ?_)
  subst hl
  have C : v_Cx X G cJ7_fill_53178 RJ7 4 (v_rm 0 40) := C
  show VJ X G S 0 [(0, .ref (G.1 k0)), (1, .int a1)] []
  refine V_iconst (v := 0) C dJ7_fill_53178_0 (by decide) ?_
  refine V_istore_n (lv' := [(0, .ref (G.1 k0)), (1, .int a1), (2, .int 0)]) C [1, 2, 0] dJ7_fill_53178_1 rfl (by decide) rfl ?_
  refine V_aload_n C 0 dJ7_fill_53178_2 rfl rfl ?_
  refine V_alen C k0 n0 hk0 (Or.inr (Or.inl hs0)) dJ7_fill_53178_3 ?_
  refine V_topi (fun y6 ey6 => ?_)
  have h := h y6 ey6
  refine V_istore_n (lv' := [(0, .ref (G.1 k0)), (1, .int a1), (2, .int 0), (3, .int y6)]) C [1, 2, 3, 0] dJ7_fill_53178_4 rfl (by decide) rfl ?_
  obtain ⟨fu5, h⟩ := h
  exact q_J7_fill_53178_5 C D hk0 hs0 fu5 _ _ _ h
/-! HalfAccuserLaw.four([II)I -/
theorem dL_four_0 : decode cL_four 0 = .ok ((.aload_n 0), 1) := by decide +kernel
theorem dL_four_1 : decode cL_four 1 = .ok ((.iload_n 1), 1) := by decide +kernel
theorem dL_four_2 : decode cL_four 2 = .ok (.iaload, 1) := by decide +kernel
theorem dL_four_3 : decode cL_four 3 = .ok ((.bipush 24), 2) := by decide +kernel
theorem dL_four_5 : decode cL_four 5 = .ok (.ishl, 1) := by decide +kernel
theorem dL_four_6 : decode cL_four 6 = .ok ((.aload_n 0), 1) := by decide +kernel
theorem dL_four_7 : decode cL_four 7 = .ok ((.iload_n 1), 1) := by decide +kernel
theorem dL_four_8 : decode cL_four 8 = .ok ((.iconst 1), 1) := by decide +kernel
theorem dL_four_9 : decode cL_four 9 = .ok (.iadd, 1) := by decide +kernel
theorem dL_four_10 : decode cL_four 10 = .ok (.iaload, 1) := by decide +kernel
theorem dL_four_11 : decode cL_four 11 = .ok ((.bipush 16), 2) := by decide +kernel
theorem dL_four_13 : decode cL_four 13 = .ok (.ishl, 1) := by decide +kernel
theorem dL_four_14 : decode cL_four 14 = .ok (.ior, 1) := by decide +kernel
theorem dL_four_15 : decode cL_four 15 = .ok ((.aload_n 0), 1) := by decide +kernel
theorem dL_four_16 : decode cL_four 16 = .ok ((.iload_n 1), 1) := by decide +kernel
theorem dL_four_17 : decode cL_four 17 = .ok ((.iconst 2), 1) := by decide +kernel
theorem dL_four_18 : decode cL_four 18 = .ok (.iadd, 1) := by decide +kernel
theorem dL_four_19 : decode cL_four 19 = .ok (.iaload, 1) := by decide +kernel
theorem dL_four_20 : decode cL_four 20 = .ok ((.bipush 8), 2) := by decide +kernel
theorem dL_four_22 : decode cL_four 22 = .ok (.ishl, 1) := by decide +kernel
theorem dL_four_23 : decode cL_four 23 = .ok (.ior, 1) := by decide +kernel
theorem dL_four_24 : decode cL_four 24 = .ok ((.aload_n 0), 1) := by decide +kernel
theorem dL_four_25 : decode cL_four 25 = .ok ((.iload_n 1), 1) := by decide +kernel
theorem dL_four_26 : decode cL_four 26 = .ok ((.iconst 3), 1) := by decide +kernel
theorem dL_four_27 : decode cL_four 27 = .ok (.iadd, 1) := by decide +kernel
theorem dL_four_28 : decode cL_four 28 = .ok (.iaload, 1) := by decide +kernel
theorem dL_four_29 : decode cL_four 29 = .ok (.ior, 1) := by decide +kernel
theorem dL_four_30 : decode cL_four 30 = .ok (.ireturn, 1) := by decide +kernel
def p_L_four   (S : vSt) (a1 : Int32) (post : Int32 → vSt → Prop) : Prop := (vp_in a1 24 ∧ (vp_in (a1 + 1) 24 ∧ (vp_in (a1 + 2) 24 ∧ (vp_in (a1 + 3) 24 ∧ post (((((S.1 143 (Int32.toNatClampNeg a1)) <<< ((24 : Int32) &&& 31)) ||| ((S.1 143 (Int32.toNatClampNeg (a1 + 1))) <<< ((16 : Int32) &&& 31))) ||| ((S.1 143 (Int32.toNatClampNeg (a1 + 2))) <<< ((8 : Int32) &&& 31))) ||| (S.1 143 (Int32.toNatClampNeg (a1 + 3)))) S))))
set_option maxHeartbeats 4000000 in
set_option maxRecDepth 100000 in
theorem c_L_four (l : Launch) (G : vG)    {S : vSt} (a1 : Int32) (post : Int32 → vSt → Prop) (h : p_L_four   S a1 post) : Met l yL_four (v_ws yL_four cL_four 2 (some .int)) (v_rm 0 40) (v_Pc G [.ref (G.1 143), .int a1] S) (v_Qi G post) 0 0 (v_A G) := by
  refine v_start (by decide +kernel) (Nat.le_of_ble_eq_true rfl) (fun X hl C D => ?_)
  subst hl
  have C : v_Cx X G cL_four RL 2 (v_rm 0 40) := C
  show VJ X G S 0 [(0, .ref (G.1 143)), (1, .int a1)] []
  refine V_aload_n C 0 dL_four_0 rfl rfl ?_
  refine V_iload_n C 1 dL_four_1 rfl rfl ?_
  obtain ⟨hi, h⟩ := h
  refine V_iald C 143 24 (by decide) (by decide) hi dL_four_2 ?_
  refine V_bipush (v := 24) C dL_four_3 (by decide) ?_
  refine V_ishl C dL_four_5 ?_
  refine V_aload_n C 0 dL_four_6 rfl rfl ?_
  refine V_iload_n C 1 dL_four_7 rfl rfl ?_
  refine V_iconst (v := 1) C dL_four_8 (by decide) ?_
  refine V_iadd C dL_four_9 ?_
  obtain ⟨hi, h⟩ := h
  refine V_iald C 143 24 (by decide) (by decide) hi dL_four_10 ?_
  refine V_bipush (v := 16) C dL_four_11 (by decide) ?_
  refine V_ishl C dL_four_13 ?_
  refine V_ior C dL_four_14 ?_
  refine V_aload_n C 0 dL_four_15 rfl rfl ?_
  refine V_iload_n C 1 dL_four_16 rfl rfl ?_
  refine V_iconst (v := 2) C dL_four_17 (by decide) ?_
  refine V_iadd C dL_four_18 ?_
  obtain ⟨hi, h⟩ := h
  refine V_iald C 143 24 (by decide) (by decide) hi dL_four_19 ?_
  refine V_bipush (v := 8) C dL_four_20 (by decide) ?_
  refine V_ishl C dL_four_22 ?_
  refine V_ior C dL_four_23 ?_
  refine V_aload_n C 0 dL_four_24 rfl rfl ?_
  refine V_iload_n C 1 dL_four_25 rfl rfl ?_
  refine V_iconst (v := 3) C dL_four_26 (by decide) ?_
  refine V_iadd C dL_four_27 ?_
  obtain ⟨hi, h⟩ := h
  refine V_iald C 143 24 (by decide) (by decide) hi dL_four_28 ?_
  refine V_ior C dL_four_29 ?_
  exact V_iret C D dL_four_30 h
/-! HalfAccuserLaw.feed(LHalfAccuser;[I)V -/
theorem dL_feed_0 : decode cL_feed 0 = .ok ((.aload_n 1), 1) := by decide +kernel
theorem dL_feed_1 : decode cL_feed 1 = .ok ((.bipush 20), 2) := by decide +kernel
theorem dL_feed_3 : decode cL_feed 3 = .ok (.iaload, 1) := by decide +kernel
theorem dL_feed_4 : decode cL_feed 4 = .ok ((.istore_n 2), 1) := by decide +kernel
theorem dL_feed_5 : decode cL_feed 5 = .ok ((.iload_n 2), 1) := by decide +kernel
theorem dL_feed_6 : decode cL_feed 6 = .ok ((.bipush 20), 2) := by decide +kernel
theorem dL_feed_8 : decode cL_feed 8 = .ok ((.if_icmp .ge 14), 3) := by decide +kernel
theorem dL_feed_11 : decode cL_feed 11 = .ok ((.aload_n 1), 1) := by decide +kernel
theorem dL_feed_12 : decode cL_feed 12 = .ok ((.iload_n 2), 1) := by decide +kernel
theorem dL_feed_13 : decode cL_feed 13 = .ok ((.bipush 32), 2) := by decide +kernel
theorem dL_feed_15 : decode cL_feed 15 = .ok (.iastore, 1) := by decide +kernel
theorem dL_feed_16 : decode cL_feed 16 = .ok ((.iinc 2 1), 3) := by decide +kernel
theorem dL_feed_19 : decode cL_feed 19 = .ok ((.goto (-14)), 3) := by decide +kernel
theorem dL_feed_22 : decode cL_feed 22 = .ok ((.aload_n 0), 1) := by decide +kernel
theorem dL_feed_23 : decode cL_feed 23 = .ok ((.aload_n 1), 1) := by decide +kernel
theorem dL_feed_24 : decode cL_feed 24 = .ok ((.iconst 0), 1) := by decide +kernel
theorem dL_feed_25 : decode cL_feed 25 = .ok ((.invokestatic 13), 3) := by decide +kernel
theorem dL_feed_28 : decode cL_feed 28 = .ok ((.aload_n 1), 1) := by decide +kernel
theorem dL_feed_29 : decode cL_feed 29 = .ok ((.iconst 4), 1) := by decide +kernel
theorem dL_feed_30 : decode cL_feed 30 = .ok ((.invokestatic 13), 3) := by decide +kernel
theorem dL_feed_33 : decode cL_feed 33 = .ok ((.aload_n 1), 1) := by decide +kernel
theorem dL_feed_34 : decode cL_feed 34 = .ok ((.bipush 8), 2) := by decide +kernel
theorem dL_feed_36 : decode cL_feed 36 = .ok ((.invokestatic 13), 3) := by decide +kernel
theorem dL_feed_39 : decode cL_feed 39 = .ok ((.aload_n 1), 1) := by decide +kernel
theorem dL_feed_40 : decode cL_feed 40 = .ok ((.bipush 12), 2) := by decide +kernel
theorem dL_feed_42 : decode cL_feed 42 = .ok ((.invokestatic 13), 3) := by decide +kernel
theorem dL_feed_45 : decode cL_feed 45 = .ok ((.aload_n 1), 1) := by decide +kernel
theorem dL_feed_46 : decode cL_feed 46 = .ok ((.bipush 16), 2) := by decide +kernel
theorem dL_feed_48 : decode cL_feed 48 = .ok ((.invokestatic 13), 3) := by decide +kernel
theorem dL_feed_51 : decode cL_feed 51 = .ok ((.invokevirtual 17), 3) := by decide +kernel
theorem dL_feed_54 : decode cL_feed 54 = .ok (.pop, 1) := by decide +kernel
theorem dL_feed_55 : decode cL_feed 55 = .ok ((.aload_n 1), 1) := by decide +kernel
theorem dL_feed_56 : decode cL_feed 56 = .ok ((.bipush 20), 2) := by decide +kernel
theorem dL_feed_58 : decode cL_feed 58 = .ok ((.iconst 0), 1) := by decide +kernel
theorem dL_feed_59 : decode cL_feed 59 = .ok (.iastore, 1) := by decide +kernel
theorem dL_feed_60 : decode cL_feed 60 = .ok (.return_, 1) := by decide +kernel
def p_L_feed_5     (post : vSt → Prop) : Nat → vSt → Int32 → Prop
  | 0 => fun _ _ => False
  | fu5 + 1 => fun S x2 => ((20 ≤ x2 → p_L_four  S 0 (fun r19 S18 => p_L_four  S18 4 (fun r21 S20 => p_L_four  S20 8 (fun r23 S22 => p_L_four  S22 12 (fun r25 S24 => p_L_four  S24 16 (fun r27 S26 => p_X10_feed  S26 r19 r21 r23 r25 r27 (fun r29 S28 => (vp_in 20 24 ∧ ∀ S30, S30 = v_si S28 143 (Int32.toNatClampNeg 20) 0 → post S30)))))))) ∧ (¬ 20 ≤ x2 → (vp_in x2 24 ∧ ∀ S31, S31 = v_si S 143 (Int32.toNatClampNeg x2) 32 → ∀ y32 : Int32, y32 = x2 + 1 → (p_L_feed_5  post fu5) S31 y32)))
theorem e_L_feed_5     (post : vSt → Prop) (fu5 : Nat) (S : vSt) (x2 : Int32) : p_L_feed_5  post (fu5 + 1) S x2 = (((20 ≤ x2 → p_L_four  S 0 (fun r19 S18 => p_L_four  S18 4 (fun r21 S20 => p_L_four  S20 8 (fun r23 S22 => p_L_four  S22 12 (fun r25 S24 => p_L_four  S24 16 (fun r27 S26 => p_X10_feed  S26 r19 r21 r23 r25 r27 (fun r29 S28 => (vp_in 20 24 ∧ ∀ S30, S30 = v_si S28 143 (Int32.toNatClampNeg 20) 0 → post S30)))))))) ∧ (¬ 20 ≤ x2 → (vp_in x2 24 ∧ ∀ S31, S31 = v_si S 143 (Int32.toNatClampNeg x2) 32 → ∀ y32 : Int32, y32 = x2 + 1 → (p_L_feed_5  post fu5) S31 y32)))) := rfl
def p_L_feed   (S : vSt)  (post : vSt → Prop) : Prop := (vp_in 20 24 ∧ ∀ y17 : Int32, y17 = (S.1 143 (Int32.toNatClampNeg 20)) → ∃ fu5, p_L_feed_5  post fu5 S y17)
set_option maxHeartbeats 4000000 in
set_option maxRecDepth 100000 in
theorem q_L_feed_5 {X : vX} {G : vG}  {post : vSt → Prop} (C : v_Cx X G cL_feed RL 3 (v_rm 2 87)) (D : v_Rx X G (v_Qv G post) none)     : ∀ (fu : Nat) (S : vSt) (x2 : Int32), p_L_feed_5  post fu S x2 → VJ X G S 5 [(0, .ref (G.1 0)), (1, .ref (G.1 143)), (2, .int x2)] [] := by
  intro fu
  induction fu with
  | zero => intro S x2 h; exact absurd h id
  | succ fu ih =>
    intro S x2 h
    have hK5 := ih
    rw [e_L_feed_5] at h
    refine V_iload_n C 2 dL_feed_5 rfl rfl ?_
    refine V_bipush (v := 20) C dL_feed_6 (by decide) ?_
    refine V_icmp_ge (tgt := 22) C dL_feed_8 (by decide) (fun c => ?_) (fun c => ?_)
    · have h := h.1 c
      refine V_aload_n C 0 dL_feed_22 rfl rfl ?_
      refine V_aload_n C 1 dL_feed_23 rfl rfl ?_
      refine V_iconst (v := 0) C dL_feed_24 (by decide) ?_
      refine V_callSi (As := [.ref (G.1 143), .int 0]) (rest := [.ref (G.1 0)]) C (c_L_four (v_l X) G  _ _ h) KV_L_four k_RL_13 rfl rfl rfl (Nat.le_of_ble_eq_true rfl) ⟨Nat.le_of_ble_eq_true rfl, Nat.le_of_ble_eq_true rfl⟩ dL_feed_25 (fun r19 S18 h => ?_)
      refine V_aload_n C 1 dL_feed_28 rfl rfl ?_
      refine V_iconst (v := 4) C dL_feed_29 (by decide) ?_
      refine V_callSi (As := [.ref (G.1 143), .int 4]) (rest := [.int r19, .ref (G.1 0)]) C (c_L_four (v_l X) G  _ _ h) KV_L_four k_RL_13 rfl rfl rfl (Nat.le_of_ble_eq_true rfl) ⟨Nat.le_of_ble_eq_true rfl, Nat.le_of_ble_eq_true rfl⟩ dL_feed_30 (fun r21 S20 h => ?_)
      refine V_aload_n C 1 dL_feed_33 rfl rfl ?_
      refine V_bipush (v := 8) C dL_feed_34 (by decide) ?_
      refine V_callSi (As := [.ref (G.1 143), .int 8]) (rest := [.int r21, .int r19, .ref (G.1 0)]) C (c_L_four (v_l X) G  _ _ h) KV_L_four k_RL_13 rfl rfl rfl (Nat.le_of_ble_eq_true rfl) ⟨Nat.le_of_ble_eq_true rfl, Nat.le_of_ble_eq_true rfl⟩ dL_feed_36 (fun r23 S22 h => ?_)
      refine V_aload_n C 1 dL_feed_39 rfl rfl ?_
      refine V_bipush (v := 12) C dL_feed_40 (by decide) ?_
      refine V_callSi (As := [.ref (G.1 143), .int 12]) (rest := [.int r23, .int r21, .int r19, .ref (G.1 0)]) C (c_L_four (v_l X) G  _ _ h) KV_L_four k_RL_13 rfl rfl rfl (Nat.le_of_ble_eq_true rfl) ⟨Nat.le_of_ble_eq_true rfl, Nat.le_of_ble_eq_true rfl⟩ dL_feed_42 (fun r25 S24 h => ?_)
      refine V_aload_n C 1 dL_feed_45 rfl rfl ?_
      refine V_bipush (v := 16) C dL_feed_46 (by decide) ?_
      refine V_callSi (As := [.ref (G.1 143), .int 16]) (rest := [.int r25, .int r23, .int r21, .int r19, .ref (G.1 0)]) C (c_L_four (v_l X) G  _ _ h) KV_L_four k_RL_13 rfl rfl rfl (Nat.le_of_ble_eq_true rfl) ⟨Nat.le_of_ble_eq_true rfl, Nat.le_of_ble_eq_true rfl⟩ dL_feed_48 (fun r27 S26 h => ?_)
      refine V_callVi (As := [.int r19, .int r21, .int r23, .int r25, .int r27]) (rest := []) C (c_X10_feed (v_l X) G  _ _ _ _ _ _ h) 0 10 (by decide) (by decide) (by decide) rfl KV_X10_feed k_RL_17 rfl rfl rfl (Nat.le_of_ble_eq_true rfl) ⟨Nat.le_of_ble_eq_true rfl, Nat.le_of_ble_eq_true rfl⟩ dL_feed_51 (fun r29 S28 h => ?_)
      refine V_pop C dL_feed_54 rfl ?_
      refine V_aload_n C 1 dL_feed_55 rfl rfl ?_
      refine V_bipush (v := 20) C dL_feed_56 (by decide) ?_
      refine V_iconst (v := 0) C dL_feed_58 (by decide) ?_
      obtain ⟨hi, h⟩ := h
      refine V_iast C 143 24 (by decide) (by decide) hi dL_feed_59 ?_
      refine V_topS (fun S30 eS30 => ?_)
      have h := h S30 eS30
      exact V_vret C D dL_feed_60 h
    · have h := h.2 c
      refine V_aload_n C 1 dL_feed_11 rfl rfl ?_
      refine V_iload_n C 2 dL_feed_12 rfl rfl ?_
      refine V_bipush (v := 32) C dL_feed_13 (by decide) ?_
      obtain ⟨hi, h⟩ := h
      refine V_iast C 143 24 (by decide) (by decide) hi dL_feed_15 ?_
      refine V_topS (fun S31 eS31 => ?_)
      have h := h S31 eS31
      obtain ⟨y32, ey32⟩ : ∃ z : Int32, z = x2 + 1 := ⟨_, rfl⟩
      have h := h y32 ey32
      refine V_iinc (lv' := [(0, .ref (G.1 0)), (1, .ref (G.1 143)), (2, .int y32)]) C 2 [1, 2, 0] y32 dL_feed_16 rfl (by rw [ey32]; rfl) (by decide) rfl ?_
      refine V_goto (tgt := 5) C dL_feed_19 (by decide) ?_
      exact hK5 _ _ h
set_option maxHeartbeats 4000000 in
set_option maxRecDepth 100000 in
theorem c_L_feed (l : Launch) (G : vG)    {S : vSt}  (post : vSt → Prop) (h : p_L_feed   S  post) : Met l yL_feed (v_ws yL_feed cL_feed 3 none) (v_rm 2 87) (v_Pc G [.ref (G.1 0), .ref (G.1 143)] S) (v_Qv G post) 0 0 (v_A G) := by
  refine v_start (by decide +kernel) (Nat.le_of_ble_eq_true rfl) (fun X hl C D => ?_)
  subst hl
  have C : v_Cx X G cL_feed RL 3 (v_rm 2 87) := C
  show VJ X G S 0 [(0, .ref (G.1 0)), (1, .ref (G.1 143))] []
  refine V_aload_n C 1 dL_feed_0 rfl rfl ?_
  refine V_bipush (v := 20) C dL_feed_1 (by decide) ?_
  obtain ⟨hi, h⟩ := h
  refine V_iald C 143 24 (by decide) (by decide) hi dL_feed_3 ?_
  refine V_topi (fun y17 ey17 => ?_)
  have h := h y17 ey17
  refine V_istore_n (lv' := [(0, .ref (G.1 0)), (1, .ref (G.1 143)), (2, .int y17)]) C [1, 2, 0] dL_feed_4 rfl (by decide) rfl ?_
  obtain ⟨fu5, h⟩ := h
  exact q_L_feed_5 C D  fu5 _ _ h
/-! HalfAccuserLaw.put(LHalfAccuser;[II)V -/
theorem dL_put_0 : decode cL_put 0 = .ok ((.aload_n 1), 1) := by decide +kernel
theorem dL_put_1 : decode cL_put 1 = .ok ((.aload_n 1), 1) := by decide +kernel
theorem dL_put_2 : decode cL_put 2 = .ok ((.bipush 20), 2) := by decide +kernel
theorem dL_put_4 : decode cL_put 4 = .ok (.iaload, 1) := by decide +kernel
theorem dL_put_5 : decode cL_put 5 = .ok ((.iload_n 2), 1) := by decide +kernel
theorem dL_put_6 : decode cL_put 6 = .ok (.iastore, 1) := by decide +kernel
theorem dL_put_7 : decode cL_put 7 = .ok ((.aload_n 1), 1) := by decide +kernel
theorem dL_put_8 : decode cL_put 8 = .ok ((.bipush 20), 2) := by decide +kernel
theorem dL_put_10 : decode cL_put 10 = .ok (.dup2, 1) := by decide +kernel
theorem dL_put_11 : decode cL_put 11 = .ok (.iaload, 1) := by decide +kernel
theorem dL_put_12 : decode cL_put 12 = .ok ((.iconst 1), 1) := by decide +kernel
theorem dL_put_13 : decode cL_put 13 = .ok (.iadd, 1) := by decide +kernel
theorem dL_put_14 : decode cL_put 14 = .ok (.iastore, 1) := by decide +kernel
theorem dL_put_15 : decode cL_put 15 = .ok ((.aload_n 1), 1) := by decide +kernel
theorem dL_put_16 : decode cL_put 16 = .ok ((.bipush 21), 2) := by decide +kernel
theorem dL_put_18 : decode cL_put 18 = .ok (.dup2, 1) := by decide +kernel
theorem dL_put_19 : decode cL_put 19 = .ok (.iaload, 1) := by decide +kernel
theorem dL_put_20 : decode cL_put 20 = .ok ((.iconst 1), 1) := by decide +kernel
theorem dL_put_21 : decode cL_put 21 = .ok (.iadd, 1) := by decide +kernel
theorem dL_put_22 : decode cL_put 22 = .ok (.iastore, 1) := by decide +kernel
theorem dL_put_23 : decode cL_put 23 = .ok ((.aload_n 1), 1) := by decide +kernel
theorem dL_put_24 : decode cL_put 24 = .ok ((.bipush 20), 2) := by decide +kernel
theorem dL_put_26 : decode cL_put 26 = .ok (.iaload, 1) := by decide +kernel
theorem dL_put_27 : decode cL_put 27 = .ok ((.bipush 20), 2) := by decide +kernel
theorem dL_put_29 : decode cL_put 29 = .ok ((.if_icmp .ne 8), 3) := by decide +kernel
theorem dL_put_32 : decode cL_put 32 = .ok ((.aload_n 0), 1) := by decide +kernel
theorem dL_put_33 : decode cL_put 33 = .ok ((.aload_n 1), 1) := by decide +kernel
theorem dL_put_34 : decode cL_put 34 = .ok ((.invokestatic 7), 3) := by decide +kernel
theorem dL_put_37 : decode cL_put 37 = .ok (.return_, 1) := by decide +kernel
def p_L_put   (S : vSt) (a2 : Int32) (post : vSt → Prop) : Prop := (vp_in 20 24 ∧ (vp_in (S.1 143 (Int32.toNatClampNeg 20)) 24 ∧ ∀ S5, S5 = v_si S 143 (Int32.toNatClampNeg (S.1 143 (Int32.toNatClampNeg 20))) a2 → (vp_in 20 24 ∧ (vp_in 20 24 ∧ ∀ S6, S6 = v_si S5 143 (Int32.toNatClampNeg 20) ((S5.1 143 (Int32.toNatClampNeg 20)) + 1) → (vp_in 21 24 ∧ (vp_in 21 24 ∧ ∀ S7, S7 = v_si S6 143 (Int32.toNatClampNeg 21) ((S6.1 143 (Int32.toNatClampNeg 21)) + 1) → (vp_in 20 24 ∧ ((¬ (S7.1 143 (Int32.toNatClampNeg 20)) = 20 → post S7) ∧ ((S7.1 143 (Int32.toNatClampNeg 20)) = 20 → p_L_feed  S7  (fun S8 => post S8))))))))))
set_option maxHeartbeats 4000000 in
set_option maxRecDepth 100000 in
theorem c_L_put (l : Launch) (G : vG)    {S : vSt} (a2 : Int32) (post : vSt → Prop) (h : p_L_put   S a2 post) : Met l yL_put (v_ws yL_put cL_put 3 none) (v_rm 3 109) (v_Pc G [.ref (G.1 0), .ref (G.1 143), .int a2] S) (v_Qv G post) 0 0 (v_A G) := by
  refine v_start (by decide +kernel) (Nat.le_of_ble_eq_true rfl) (fun X hl C D => ?_)
  subst hl
  have C : v_Cx X G cL_put RL 3 (v_rm 3 109) := C
  show VJ X G S 0 [(0, .ref (G.1 0)), (1, .ref (G.1 143)), (2, .int a2)] []
  refine V_aload_n C 1 dL_put_0 rfl rfl ?_
  refine V_aload_n C 1 dL_put_1 rfl rfl ?_
  refine V_bipush (v := 20) C dL_put_2 (by decide) ?_
  obtain ⟨hi, h⟩ := h
  refine V_iald C 143 24 (by decide) (by decide) hi dL_put_4 ?_
  refine V_iload_n C 2 dL_put_5 rfl rfl ?_
  obtain ⟨hi, h⟩ := h
  refine V_iast C 143 24 (by decide) (by decide) hi dL_put_6 ?_
  refine V_topS (fun S5 eS5 => ?_)
  have h := h S5 eS5
  refine V_aload_n C 1 dL_put_7 rfl rfl ?_
  refine V_bipush (v := 20) C dL_put_8 (by decide) ?_
  refine V_dup2_11 C dL_put_10 rfl rfl ?_
  obtain ⟨hi, h⟩ := h
  refine V_iald C 143 24 (by decide) (by decide) hi dL_put_11 ?_
  refine V_iconst (v := 1) C dL_put_12 (by decide) ?_
  refine V_iadd C dL_put_13 ?_
  obtain ⟨hi, h⟩ := h
  refine V_iast C 143 24 (by decide) (by decide) hi dL_put_14 ?_
  refine V_topS (fun S6 eS6 => ?_)
  have h := h S6 eS6
  refine V_aload_n C 1 dL_put_15 rfl rfl ?_
  refine V_bipush (v := 21) C dL_put_16 (by decide) ?_
  refine V_dup2_11 C dL_put_18 rfl rfl ?_
  obtain ⟨hi, h⟩ := h
  refine V_iald C 143 24 (by decide) (by decide) hi dL_put_19 ?_
  refine V_iconst (v := 1) C dL_put_20 (by decide) ?_
  refine V_iadd C dL_put_21 ?_
  obtain ⟨hi, h⟩ := h
  refine V_iast C 143 24 (by decide) (by decide) hi dL_put_22 ?_
  refine V_topS (fun S7 eS7 => ?_)
  have h := h S7 eS7
  refine V_aload_n C 1 dL_put_23 rfl rfl ?_
  refine V_bipush (v := 20) C dL_put_24 (by decide) ?_
  obtain ⟨hi, h⟩ := h
  refine V_iald C 143 24 (by decide) (by decide) hi dL_put_26 ?_
  refine V_bipush (v := 20) C dL_put_27 (by decide) ?_
  refine V_icmp_ne (tgt := 37) C dL_put_29 (by decide) (fun c => ?_) (fun c => ?_)
  · have h := h.1 c
    exact V_vret C D dL_put_37 h
  · have h := h.2 c
    refine V_aload_n C 0 dL_put_32 rfl rfl ?_
    refine V_aload_n C 1 dL_put_33 rfl rfl ?_
    refine V_callSv (As := [.ref (G.1 0), .ref (G.1 143)]) (rest := []) C (c_L_feed (v_l X) G  _ h) KV_L_feed k_RL_7 rfl rfl rfl (Nat.le_of_ble_eq_true rfl) ⟨Nat.le_of_ble_eq_true rfl, Nat.le_of_ble_eq_true rfl⟩ dL_put_34 (fun S8 h => ?_)
    exact V_vret C D dL_put_37 h
/-! HalfAccuserLaw.say(LHalfAccuser;[ILjava/lang/String;)V -/
theorem dL_say_0 : decode cL_say 0 = .ok ((.iconst 0), 1) := by decide +kernel
theorem dL_say_1 : decode cL_say 1 = .ok ((.istore_n 3), 1) := by decide +kernel
theorem dL_say_2 : decode cL_say 2 = .ok ((.iload_n 3), 1) := by decide +kernel
theorem dL_say_3 : decode cL_say 3 = .ok ((.aload_n 2), 1) := by decide +kernel
theorem dL_say_4 : decode cL_say 4 = .ok ((.invokevirtual 22), 3) := by decide +kernel
theorem dL_say_7 : decode cL_say 7 = .ok ((.if_icmp .ge 19), 3) := by decide +kernel
theorem dL_say_10 : decode cL_say 10 = .ok ((.aload_n 0), 1) := by decide +kernel
theorem dL_say_11 : decode cL_say 11 = .ok ((.aload_n 1), 1) := by decide +kernel
theorem dL_say_12 : decode cL_say 12 = .ok ((.aload_n 2), 1) := by decide +kernel
theorem dL_say_13 : decode cL_say 13 = .ok ((.iload_n 3), 1) := by decide +kernel
theorem dL_say_14 : decode cL_say 14 = .ok ((.invokevirtual 28), 3) := by decide +kernel
theorem dL_say_17 : decode cL_say 17 = .ok ((.invokestatic 32), 3) := by decide +kernel
theorem dL_say_20 : decode cL_say 20 = .ok ((.iinc 3 1), 3) := by decide +kernel
theorem dL_say_23 : decode cL_say 23 = .ok ((.goto (-21)), 3) := by decide +kernel
theorem dL_say_26 : decode cL_say 26 = .ok (.return_, 1) := by decide +kernel
def p_L_say_2 (q0 : Nat)    (post : vSt → Prop) : Nat → vSt → Int32 → Prop
  | 0 => fun _ _ => False
  | fu2 + 1 => fun S x3 => (((Int32.ofNat (v_slen.getD q0 0)) ≤ x3 → post S) ∧ (¬ (Int32.ofNat (v_slen.getD q0 0)) ≤ x3 → (vp_in x3 (v_slen.getD q0 0) ∧ p_L_put  S ((v_sbyt.getD q0 []).getD (Int32.toNatClampNeg x3) 0) (fun S11 => ∀ y12 : Int32, y12 = x3 + 1 → (p_L_say_2 q0 post fu2) S11 y12))))
theorem e_L_say_2 (q0 : Nat)    (post : vSt → Prop) (fu2 : Nat) (S : vSt) (x3 : Int32) : p_L_say_2 q0 post (fu2 + 1) S x3 = ((((Int32.ofNat (v_slen.getD q0 0)) ≤ x3 → post S) ∧ (¬ (Int32.ofNat (v_slen.getD q0 0)) ≤ x3 → (vp_in x3 (v_slen.getD q0 0) ∧ p_L_put  S ((v_sbyt.getD q0 []).getD (Int32.toNatClampNeg x3) 0) (fun S11 => ∀ y12 : Int32, y12 = x3 + 1 → (p_L_say_2 q0 post fu2) S11 y12))))) := rfl
def p_L_say (q0 : Nat)  (S : vSt)  (post : vSt → Prop) : Prop := ∃ fu2, p_L_say_2 q0 post fu2 S 0
set_option maxHeartbeats 4000000 in
set_option maxRecDepth 100000 in
theorem q_L_say_2 {X : vX} {G : vG}  {post : vSt → Prop} (C : v_Cx X G cL_say RL 4 (v_rm 4 220)) (D : v_Rx X G (v_Qv G post) none) {q0 : Nat} (hq0 : q0 < 13)    : ∀ (fu : Nat) (S : vSt) (x3 : Int32), p_L_say_2 q0 post fu S x3 → VJ X G S 2 [(0, .ref (G.1 0)), (1, .ref (G.1 143)), (2, .ref (G.1 (145 + (3 + 2 * q0)))), (3, .int x3)] [] := by
  intro fu
  induction fu with
  | zero => intro S x3 h; exact absurd h id
  | succ fu ih =>
    intro S x3 h
    have hK2 := ih
    rw [e_L_say_2] at h
    refine V_iload_n C 3 dL_say_2 rfl rfl ?_
    refine V_aload_n C 2 dL_say_3 rfl rfl ?_
    refine V_callQi (hq := hq0) (As := []) (rest := [.int x3]) C (c_qstrlen (v_l X) G hq0 (fun r S1 => r = Int32.ofNat (v_slen.getD q0 0) ∧ S = S1) ⟨rfl, rfl⟩) KV_J0_length_8abf5 k_RL_22 rfl rfl rfl (Nat.le_of_ble_eq_true rfl) ⟨Nat.le_of_ble_eq_true rfl, Nat.le_of_ble_eq_true rfl⟩ dL_say_4 (fun r S1 h0 => ?_)
    obtain ⟨rfl, rfl⟩ := h0
    refine V_icmp_ge (tgt := 26) C dL_say_7 (by decide) (fun c => ?_) (fun c => ?_)
    · have h := h.1 c
      exact V_vret C D dL_say_26 h
    · have h := h.2 c
      refine V_aload_n C 0 dL_say_10 rfl rfl ?_
      refine V_aload_n C 1 dL_say_11 rfl rfl ?_
      refine V_aload_n C 2 dL_say_12 rfl rfl ?_
      refine V_iload_n C 3 dL_say_13 rfl rfl ?_
      obtain ⟨hi, h⟩ := h
      refine V_callQi (hq := hq0) (As := [.int x3]) (rest := [.ref (G.1 143), .ref (G.1 0)]) C (c_qcharAt (v_l X) G hq0 hi (fun r S1 => r = ((v_sbyt.getD q0 []).getD (Int32.toNatClampNeg x3) 0) ∧ S = S1) ⟨rfl, rfl⟩) KV_J0_charAt_5068e k_RL_28 rfl rfl rfl (Nat.le_of_ble_eq_true rfl) ⟨Nat.le_of_ble_eq_true rfl, Nat.le_of_ble_eq_true rfl⟩ dL_say_14 (fun r S1 h0 => ?_)
      obtain ⟨rfl, rfl⟩ := h0
      refine V_callSv (As := [.ref (G.1 0), .ref (G.1 143), .int ((v_sbyt.getD q0 []).getD (Int32.toNatClampNeg x3) 0)]) (rest := []) C (c_L_put (v_l X) G  _ _ h) KV_L_put k_RL_32 rfl rfl rfl (Nat.le_of_ble_eq_true rfl) ⟨Nat.le_of_ble_eq_true rfl, Nat.le_of_ble_eq_true rfl⟩ dL_say_17 (fun S11 h => ?_)
      obtain ⟨y12, ey12⟩ : ∃ z : Int32, z = x3 + 1 := ⟨_, rfl⟩
      have h := h y12 ey12
      refine V_iinc (lv' := [(0, .ref (G.1 0)), (1, .ref (G.1 143)), (2, .ref (G.1 (145 + (3 + 2 * q0)))), (3, .int y12)]) C 3 [1, 2, 3, 0] y12 dL_say_20 rfl (by rw [ey12]; rfl) (by decide) rfl ?_
      refine V_goto (tgt := 2) C dL_say_23 (by decide) ?_
      exact hK2 _ _ h
set_option maxHeartbeats 4000000 in
set_option maxRecDepth 100000 in
theorem c_L_say (l : Launch) (G : vG)  {q0 : Nat} (hq0 : q0 < 13)  {S : vSt}  (post : vSt → Prop) (h : p_L_say q0  S  post) : Met l yL_say (v_ws yL_say cL_say 4 none) (v_rm 4 220) (v_Pc G [.ref (G.1 0), .ref (G.1 143), .ref (G.1 (145 + (3 + 2 * q0)))] S) (v_Qv G post) 0 0 (v_A G) := by
  refine v_start (by decide +kernel) (Nat.le_of_ble_eq_true rfl) (fun X hl C D => ?_)
  subst hl
  have C : v_Cx X G cL_say RL 4 (v_rm 4 220) := C
  show VJ X G S 0 [(0, .ref (G.1 0)), (1, .ref (G.1 143)), (2, .ref (G.1 (145 + (3 + 2 * q0))))] []
  refine V_iconst (v := 0) C dL_say_0 (by decide) ?_
  refine V_istore_n (lv' := [(0, .ref (G.1 0)), (1, .ref (G.1 143)), (2, .ref (G.1 (145 + (3 + 2 * q0)))), (3, .int 0)]) C [1, 2, 3, 0] dL_say_1 rfl (by decide) rfl ?_
  obtain ⟨fu2, h⟩ := h
  exact q_L_say_2 C D hq0 fu2 _ _ h
/-! HalfAccuserLaw.load(LHalfAccuser;[I)I -/
theorem dL_load_0 : decode cL_load 0 = .ok ((.aload_n 1), 1) := by decide +kernel
theorem dL_load_1 : decode cL_load 1 = .ok ((.bipush 21), 2) := by decide +kernel
theorem dL_load_3 : decode cL_load 3 = .ok (.iaload, 1) := by decide +kernel
theorem dL_load_4 : decode cL_load 4 = .ok ((.istore_n 2), 1) := by decide +kernel
theorem dL_load_5 : decode cL_load 5 = .ok ((.aload_n 1), 1) := by decide +kernel
theorem dL_load_6 : decode cL_load 6 = .ok ((.bipush 20), 2) := by decide +kernel
theorem dL_load_8 : decode cL_load 8 = .ok (.iaload, 1) := by decide +kernel
theorem dL_load_9 : decode cL_load 9 = .ok ((.ifCond .le 8), 3) := by decide +kernel
theorem dL_load_12 : decode cL_load 12 = .ok ((.aload_n 0), 1) := by decide +kernel
theorem dL_load_13 : decode cL_load 13 = .ok ((.aload_n 1), 1) := by decide +kernel
theorem dL_load_14 : decode cL_load 14 = .ok ((.invokestatic 7), 3) := by decide +kernel
theorem dL_load_17 : decode cL_load 17 = .ok ((.aload_n 1), 1) := by decide +kernel
theorem dL_load_18 : decode cL_load 18 = .ok ((.bipush 21), 2) := by decide +kernel
theorem dL_load_20 : decode cL_load 20 = .ok ((.iconst 0), 1) := by decide +kernel
theorem dL_load_21 : decode cL_load 21 = .ok (.iastore, 1) := by decide +kernel
theorem dL_load_22 : decode cL_load 22 = .ok ((.aload_n 1), 1) := by decide +kernel
theorem dL_load_23 : decode cL_load 23 = .ok ((.bipush 22), 2) := by decide +kernel
theorem dL_load_25 : decode cL_load 25 = .ok (.iaload, 1) := by decide +kernel
theorem dL_load_26 : decode cL_load 26 = .ok ((.ifCond .ne 11), 3) := by decide +kernel
theorem dL_load_29 : decode cL_load 29 = .ok ((.aload_n 0), 1) := by decide +kernel
theorem dL_load_30 : decode cL_load 30 = .ok ((.iload_n 2), 1) := by decide +kernel
theorem dL_load_31 : decode cL_load 31 = .ok ((.invokevirtual 36), 3) := by decide +kernel
theorem dL_load_34 : decode cL_load 34 = .ok ((.goto 8), 3) := by decide +kernel
theorem dL_load_37 : decode cL_load 37 = .ok ((.aload_n 0), 1) := by decide +kernel
theorem dL_load_38 : decode cL_load 38 = .ok ((.iload_n 2), 1) := by decide +kernel
theorem dL_load_39 : decode cL_load 39 = .ok ((.invokevirtual 40), 3) := by decide +kernel
theorem dL_load_42 : decode cL_load 42 = .ok (.ireturn, 1) := by decide +kernel
def p_L_load_17     (post : Int32 → vSt → Prop) (S : vSt) (x2 : Int32) : Prop := (vp_in 21 24 ∧ ∀ S9, S9 = v_si S 143 (Int32.toNatClampNeg 21) 0 → (vp_in 22 24 ∧ ((¬ (S9.1 143 (Int32.toNatClampNeg 22)) = 0 → p_X10_years  S9 x2 (fun r11 S10 => post r11 S10)) ∧ ((S9.1 143 (Int32.toNatClampNeg 22)) = 0 → p_X10_city  S9 x2 (fun r13 S12 => post r13 S12)))))
def p_L_load   (S : vSt)  (post : Int32 → vSt → Prop) : Prop := (vp_in 21 24 ∧ ∀ y8 : Int32, y8 = (S.1 143 (Int32.toNatClampNeg 21)) → (vp_in 20 24 ∧ (((S.1 143 (Int32.toNatClampNeg 20)) ≤ 0 → p_L_load_17  post S y8) ∧ (¬ (S.1 143 (Int32.toNatClampNeg 20)) ≤ 0 → p_L_feed  S  (fun S9 => p_L_load_17  post S9 y8)))))
set_option maxHeartbeats 4000000 in
set_option maxRecDepth 100000 in
theorem q_L_load_17 {X : vX} {G : vG}  {post : Int32 → vSt → Prop} (C : v_Cx X G cL_load RL 3 (v_rm 8 316)) (D : v_Rx X G (v_Qi G post) (some .int))     : ∀ (S : vSt) (x2 : Int32), p_L_load_17  post S x2 → VJ X G S 17 [(0, .ref (G.1 0)), (1, .ref (G.1 143)), (2, .int x2)] [] := by
  intro S x2 h
  refine V_aload_n C 1 dL_load_17 rfl rfl ?_
  refine V_bipush (v := 21) C dL_load_18 (by decide) ?_
  refine V_iconst (v := 0) C dL_load_20 (by decide) ?_
  obtain ⟨hi, h⟩ := h
  refine V_iast C 143 24 (by decide) (by decide) hi dL_load_21 ?_
  refine V_topS (fun S9 eS9 => ?_)
  have h := h S9 eS9
  refine V_aload_n C 1 dL_load_22 rfl rfl ?_
  refine V_bipush (v := 22) C dL_load_23 (by decide) ?_
  obtain ⟨hi, h⟩ := h
  refine V_iald C 143 24 (by decide) (by decide) hi dL_load_25 ?_
  refine V_if_ne (tgt := 37) C dL_load_26 (by decide) (fun c => ?_) (fun c => ?_)
  · have h := h.1 c
    refine V_aload_n C 0 dL_load_37 rfl rfl ?_
    refine V_iload_n C 2 dL_load_38 rfl rfl ?_
    refine V_callVi (As := [.int x2]) (rest := []) C (c_X10_years (v_l X) G  _ _ h) 0 10 (by decide) (by decide) (by decide) rfl KV_X10_years k_RL_40 rfl rfl rfl (Nat.le_of_ble_eq_true rfl) ⟨Nat.le_of_ble_eq_true rfl, Nat.le_of_ble_eq_true rfl⟩ dL_load_39 (fun r11 S10 h => ?_)
    exact V_iret C D dL_load_42 h
  · have h := h.2 c
    refine V_aload_n C 0 dL_load_29 rfl rfl ?_
    refine V_iload_n C 2 dL_load_30 rfl rfl ?_
    refine V_callVi (As := [.int x2]) (rest := []) C (c_X10_city (v_l X) G  _ _ h) 0 10 (by decide) (by decide) (by decide) rfl KV_X10_city k_RL_36 rfl rfl rfl (Nat.le_of_ble_eq_true rfl) ⟨Nat.le_of_ble_eq_true rfl, Nat.le_of_ble_eq_true rfl⟩ dL_load_31 (fun r13 S12 h => ?_)
    refine V_goto (tgt := 42) C dL_load_34 (by decide) ?_
    exact V_iret C D dL_load_42 h
set_option maxHeartbeats 4000000 in
set_option maxRecDepth 100000 in
theorem c_L_load (l : Launch) (G : vG)    {S : vSt}  (post : Int32 → vSt → Prop) (h : p_L_load   S  post) : Met l yL_load (v_ws yL_load cL_load 3 (some .int)) (v_rm 8 316) (v_Pc G [.ref (G.1 0), .ref (G.1 143)] S) (v_Qi G post) 0 0 (v_A G) := by
  refine v_start (by decide +kernel) (Nat.le_of_ble_eq_true rfl) (fun X hl C D => ?_)
  subst hl
  have C : v_Cx X G cL_load RL 3 (v_rm 8 316) := C
  show VJ X G S 0 [(0, .ref (G.1 0)), (1, .ref (G.1 143))] []
  refine V_aload_n C 1 dL_load_0 rfl rfl ?_
  refine V_bipush (v := 21) C dL_load_1 (by decide) ?_
  obtain ⟨hi, h⟩ := h
  refine V_iald C 143 24 (by decide) (by decide) hi dL_load_3 ?_
  refine V_topi (fun y8 ey8 => ?_)
  have h := h y8 ey8
  refine V_istore_n (lv' := [(0, .ref (G.1 0)), (1, .ref (G.1 143)), (2, .int y8)]) C [1, 2, 0] dL_load_4 rfl (by decide) rfl ?_
  refine V_aload_n C 1 dL_load_5 rfl rfl ?_
  refine V_bipush (v := 20) C dL_load_6 (by decide) ?_
  obtain ⟨hi, h⟩ := h
  refine V_iald C 143 24 (by decide) (by decide) hi dL_load_8 ?_
  refine V_if_le (tgt := 17) C dL_load_9 (by decide) (fun c => ?_) (fun c => ?_)
  · have h := h.1 c
    exact q_L_load_17 C D  _ _ h
  · have h := h.2 c
    refine V_aload_n C 0 dL_load_12 rfl rfl ?_
    refine V_aload_n C 1 dL_load_13 rfl rfl ?_
    refine V_callSv (As := [.ref (G.1 0), .ref (G.1 143)]) (rest := []) C (c_L_feed (v_l X) G  _ h) KV_L_feed k_RL_7 rfl rfl rfl (Nat.le_of_ble_eq_true rfl) ⟨Nat.le_of_ble_eq_true rfl, Nat.le_of_ble_eq_true rfl⟩ dL_load_14 (fun S9 h => ?_)
    exact q_L_load_17 C D  _ _ h
/-! HalfAccuserLaw.number(LHalfAccuser;[II)V -/
theorem dL_number_0 : decode cL_number 0 = .ok ((.aload_n 0), 1) := by decide +kernel
theorem dL_number_1 : decode cL_number 1 = .ok ((.aload_n 1), 1) := by decide +kernel
theorem dL_number_2 : decode cL_number 2 = .ok ((.bipush 32), 2) := by decide +kernel
theorem dL_number_4 : decode cL_number 4 = .ok ((.invokestatic 32), 3) := by decide +kernel
theorem dL_number_7 : decode cL_number 7 = .ok ((.iload_n 2), 1) := by decide +kernel
theorem dL_number_8 : decode cL_number 8 = .ok ((.sipush 999), 3) := by decide +kernel
theorem dL_number_11 : decode cL_number 11 = .ok ((.if_icmp .le 16), 3) := by decide +kernel
theorem dL_number_14 : decode cL_number 14 = .ok ((.aload_n 0), 1) := by decide +kernel
theorem dL_number_15 : decode cL_number 15 = .ok ((.aload_n 1), 1) := by decide +kernel
theorem dL_number_16 : decode cL_number 16 = .ok ((.bipush 48), 2) := by decide +kernel
theorem dL_number_18 : decode cL_number 18 = .ok ((.iload_n 2), 1) := by decide +kernel
theorem dL_number_19 : decode cL_number 19 = .ok ((.sipush 1000), 3) := by decide +kernel
theorem dL_number_22 : decode cL_number 22 = .ok (.idiv, 1) := by decide +kernel
theorem dL_number_23 : decode cL_number 23 = .ok (.iadd, 1) := by decide +kernel
theorem dL_number_24 : decode cL_number 24 = .ok ((.invokestatic 32), 3) := by decide +kernel
theorem dL_number_27 : decode cL_number 27 = .ok ((.iload_n 2), 1) := by decide +kernel
theorem dL_number_28 : decode cL_number 28 = .ok ((.bipush 99), 2) := by decide +kernel
theorem dL_number_30 : decode cL_number 30 = .ok ((.if_icmp .le 18), 3) := by decide +kernel
theorem dL_number_33 : decode cL_number 33 = .ok ((.aload_n 0), 1) := by decide +kernel
theorem dL_number_34 : decode cL_number 34 = .ok ((.aload_n 1), 1) := by decide +kernel
theorem dL_number_35 : decode cL_number 35 = .ok ((.bipush 48), 2) := by decide +kernel
theorem dL_number_37 : decode cL_number 37 = .ok ((.iload_n 2), 1) := by decide +kernel
theorem dL_number_38 : decode cL_number 38 = .ok ((.bipush 100), 2) := by decide +kernel
theorem dL_number_40 : decode cL_number 40 = .ok (.idiv, 1) := by decide +kernel
theorem dL_number_41 : decode cL_number 41 = .ok ((.bipush 10), 2) := by decide +kernel
theorem dL_number_43 : decode cL_number 43 = .ok (.irem, 1) := by decide +kernel
theorem dL_number_44 : decode cL_number 44 = .ok (.iadd, 1) := by decide +kernel
theorem dL_number_45 : decode cL_number 45 = .ok ((.invokestatic 32), 3) := by decide +kernel
theorem dL_number_48 : decode cL_number 48 = .ok ((.iload_n 2), 1) := by decide +kernel
theorem dL_number_49 : decode cL_number 49 = .ok ((.bipush 9), 2) := by decide +kernel
theorem dL_number_51 : decode cL_number 51 = .ok ((.if_icmp .le 18), 3) := by decide +kernel
theorem dL_number_54 : decode cL_number 54 = .ok ((.aload_n 0), 1) := by decide +kernel
theorem dL_number_55 : decode cL_number 55 = .ok ((.aload_n 1), 1) := by decide +kernel
theorem dL_number_56 : decode cL_number 56 = .ok ((.bipush 48), 2) := by decide +kernel
theorem dL_number_58 : decode cL_number 58 = .ok ((.iload_n 2), 1) := by decide +kernel
theorem dL_number_59 : decode cL_number 59 = .ok ((.bipush 10), 2) := by decide +kernel
theorem dL_number_61 : decode cL_number 61 = .ok (.idiv, 1) := by decide +kernel
theorem dL_number_62 : decode cL_number 62 = .ok ((.bipush 10), 2) := by decide +kernel
theorem dL_number_64 : decode cL_number 64 = .ok (.irem, 1) := by decide +kernel
theorem dL_number_65 : decode cL_number 65 = .ok (.iadd, 1) := by decide +kernel
theorem dL_number_66 : decode cL_number 66 = .ok ((.invokestatic 32), 3) := by decide +kernel
theorem dL_number_69 : decode cL_number 69 = .ok ((.aload_n 0), 1) := by decide +kernel
theorem dL_number_70 : decode cL_number 70 = .ok ((.aload_n 1), 1) := by decide +kernel
theorem dL_number_71 : decode cL_number 71 = .ok ((.bipush 48), 2) := by decide +kernel
theorem dL_number_73 : decode cL_number 73 = .ok ((.iload_n 2), 1) := by decide +kernel
theorem dL_number_74 : decode cL_number 74 = .ok ((.bipush 10), 2) := by decide +kernel
theorem dL_number_76 : decode cL_number 76 = .ok (.irem, 1) := by decide +kernel
theorem dL_number_77 : decode cL_number 77 = .ok (.iadd, 1) := by decide +kernel
theorem dL_number_78 : decode cL_number 78 = .ok ((.invokestatic 32), 3) := by decide +kernel
theorem dL_number_81 : decode cL_number 81 = .ok (.return_, 1) := by decide +kernel
def p_L_number_69  (a2 : Int32)   (post : vSt → Prop) (S : vSt)  : Prop := p_L_put  S (48 + (a2 - a2 / 10 * 10)) (fun S7 => post S7)
def p_L_number_48  (a2 : Int32)   (post : vSt → Prop) (S : vSt)  : Prop := ((a2 ≤ 9 → p_L_number_69 a2 post S ) ∧ (¬ a2 ≤ 9 → p_L_put  S (48 + ((a2 / 10) - (a2 / 10) / 10 * 10)) (fun S7 => p_L_number_69 a2 post S7 )))
def p_L_number_27  (a2 : Int32)   (post : vSt → Prop) (S : vSt)  : Prop := ((a2 ≤ 99 → p_L_number_48 a2 post S ) ∧ (¬ a2 ≤ 99 → p_L_put  S (48 + ((a2 / 100) - (a2 / 100) / 10 * 10)) (fun S7 => p_L_number_48 a2 post S7 )))
def p_L_number   (S : vSt) (a2 : Int32) (post : vSt → Prop) : Prop := p_L_put  S 32 (fun S6 => ((a2 ≤ 999 → p_L_number_27 a2 post S6 ) ∧ (¬ a2 ≤ 999 → p_L_put  S6 (48 + (a2 / 1000)) (fun S7 => p_L_number_27 a2 post S7 ))))
set_option maxHeartbeats 4000000 in
set_option maxRecDepth 100000 in
theorem q_L_number_69 {X : vX} {G : vG}  {post : vSt → Prop} (C : v_Cx X G cL_number RL 3 (v_rm 4 131)) (D : v_Rx X G (v_Qv G post) none)  {a2 : Int32}   : ∀ (S : vSt), p_L_number_69 a2 post S  → VJ X G S 69 [(0, .ref (G.1 0)), (1, .ref (G.1 143)), (2, .int a2)] [] := by
  intro S  h
  refine V_aload_n C 0 dL_number_69 rfl rfl ?_
  refine V_aload_n C 1 dL_number_70 rfl rfl ?_
  refine V_bipush (v := 48) C dL_number_71 (by decide) ?_
  refine V_iload_n C 2 dL_number_73 rfl rfl ?_
  refine V_bipush (v := 10) C dL_number_74 (by decide) ?_
  refine V_irem C dL_number_76 (by decide) ?_
  refine V_iadd C dL_number_77 ?_
  refine V_callSv (As := [.ref (G.1 0), .ref (G.1 143), .int (48 + (a2 - a2 / 10 * 10))]) (rest := []) C (c_L_put (v_l X) G  _ _ h) KV_L_put k_RL_32 rfl rfl rfl (Nat.le_of_ble_eq_true rfl) ⟨Nat.le_of_ble_eq_true rfl, Nat.le_of_ble_eq_true rfl⟩ dL_number_78 (fun S7 h => ?_)
  exact V_vret C D dL_number_81 h
set_option maxHeartbeats 4000000 in
set_option maxRecDepth 100000 in
theorem q_L_number_48 {X : vX} {G : vG}  {post : vSt → Prop} (C : v_Cx X G cL_number RL 3 (v_rm 4 131)) (D : v_Rx X G (v_Qv G post) none)  {a2 : Int32}   : ∀ (S : vSt), p_L_number_48 a2 post S  → VJ X G S 48 [(0, .ref (G.1 0)), (1, .ref (G.1 143)), (2, .int a2)] [] := by
  intro S  h
  refine V_iload_n C 2 dL_number_48 rfl rfl ?_
  refine V_bipush (v := 9) C dL_number_49 (by decide) ?_
  refine V_icmp_le (tgt := 69) C dL_number_51 (by decide) (fun c => ?_) (fun c => ?_)
  · have h := h.1 c
    exact q_L_number_69 C D  _ h
  · have h := h.2 c
    refine V_aload_n C 0 dL_number_54 rfl rfl ?_
    refine V_aload_n C 1 dL_number_55 rfl rfl ?_
    refine V_bipush (v := 48) C dL_number_56 (by decide) ?_
    refine V_iload_n C 2 dL_number_58 rfl rfl ?_
    refine V_bipush (v := 10) C dL_number_59 (by decide) ?_
    refine V_idiv C dL_number_61 (by decide) ?_
    refine V_bipush (v := 10) C dL_number_62 (by decide) ?_
    refine V_irem C dL_number_64 (by decide) ?_
    refine V_iadd C dL_number_65 ?_
    refine V_callSv (As := [.ref (G.1 0), .ref (G.1 143), .int (48 + ((a2 / 10) - (a2 / 10) / 10 * 10))]) (rest := []) C (c_L_put (v_l X) G  _ _ h) KV_L_put k_RL_32 rfl rfl rfl (Nat.le_of_ble_eq_true rfl) ⟨Nat.le_of_ble_eq_true rfl, Nat.le_of_ble_eq_true rfl⟩ dL_number_66 (fun S7 h => ?_)
    exact q_L_number_69 C D  _ h
set_option maxHeartbeats 4000000 in
set_option maxRecDepth 100000 in
theorem q_L_number_27 {X : vX} {G : vG}  {post : vSt → Prop} (C : v_Cx X G cL_number RL 3 (v_rm 4 131)) (D : v_Rx X G (v_Qv G post) none)  {a2 : Int32}   : ∀ (S : vSt), p_L_number_27 a2 post S  → VJ X G S 27 [(0, .ref (G.1 0)), (1, .ref (G.1 143)), (2, .int a2)] [] := by
  intro S  h
  refine V_iload_n C 2 dL_number_27 rfl rfl ?_
  refine V_bipush (v := 99) C dL_number_28 (by decide) ?_
  refine V_icmp_le (tgt := 48) C dL_number_30 (by decide) (fun c => ?_) (fun c => ?_)
  · have h := h.1 c
    exact q_L_number_48 C D  _ h
  · have h := h.2 c
    refine V_aload_n C 0 dL_number_33 rfl rfl ?_
    refine V_aload_n C 1 dL_number_34 rfl rfl ?_
    refine V_bipush (v := 48) C dL_number_35 (by decide) ?_
    refine V_iload_n C 2 dL_number_37 rfl rfl ?_
    refine V_bipush (v := 100) C dL_number_38 (by decide) ?_
    refine V_idiv C dL_number_40 (by decide) ?_
    refine V_bipush (v := 10) C dL_number_41 (by decide) ?_
    refine V_irem C dL_number_43 (by decide) ?_
    refine V_iadd C dL_number_44 ?_
    refine V_callSv (As := [.ref (G.1 0), .ref (G.1 143), .int (48 + ((a2 / 100) - (a2 / 100) / 10 * 10))]) (rest := []) C (c_L_put (v_l X) G  _ _ h) KV_L_put k_RL_32 rfl rfl rfl (Nat.le_of_ble_eq_true rfl) ⟨Nat.le_of_ble_eq_true rfl, Nat.le_of_ble_eq_true rfl⟩ dL_number_45 (fun S7 h => ?_)
    exact q_L_number_48 C D  _ h
set_option maxHeartbeats 4000000 in
set_option maxRecDepth 100000 in
theorem c_L_number (l : Launch) (G : vG)    {S : vSt} (a2 : Int32) (post : vSt → Prop) (h : p_L_number   S a2 post) : Met l yL_number (v_ws yL_number cL_number 3 none) (v_rm 4 131) (v_Pc G [.ref (G.1 0), .ref (G.1 143), .int a2] S) (v_Qv G post) 0 0 (v_A G) := by
  refine v_start (by decide +kernel) (Nat.le_of_ble_eq_true rfl) (fun X hl C D => ?_)
  subst hl
  have C : v_Cx X G cL_number RL 3 (v_rm 4 131) := C
  show VJ X G S 0 [(0, .ref (G.1 0)), (1, .ref (G.1 143)), (2, .int a2)] []
  refine V_aload_n C 0 dL_number_0 rfl rfl ?_
  refine V_aload_n C 1 dL_number_1 rfl rfl ?_
  refine V_bipush (v := 32) C dL_number_2 (by decide) ?_
  refine V_callSv (As := [.ref (G.1 0), .ref (G.1 143), .int 32]) (rest := []) C (c_L_put (v_l X) G  _ _ h) KV_L_put k_RL_32 rfl rfl rfl (Nat.le_of_ble_eq_true rfl) ⟨Nat.le_of_ble_eq_true rfl, Nat.le_of_ble_eq_true rfl⟩ dL_number_4 (fun S6 h => ?_)
  refine V_iload_n C 2 dL_number_7 rfl rfl ?_
  refine V_sipush (v := 999) C dL_number_8 (by decide) ?_
  refine V_icmp_le (tgt := 27) C dL_number_11 (by decide) (fun c => ?_) (fun c => ?_)
  · have h := h.1 c
    exact q_L_number_27 C D  _ h
  · have h := h.2 c
    refine V_aload_n C 0 dL_number_14 rfl rfl ?_
    refine V_aload_n C 1 dL_number_15 rfl rfl ?_
    refine V_bipush (v := 48) C dL_number_16 (by decide) ?_
    refine V_iload_n C 2 dL_number_18 rfl rfl ?_
    refine V_sipush (v := 1000) C dL_number_19 (by decide) ?_
    refine V_idiv C dL_number_22 (by decide) ?_
    refine V_iadd C dL_number_23 ?_
    refine V_callSv (As := [.ref (G.1 0), .ref (G.1 143), .int (48 + (a2 / 1000))]) (rest := []) C (c_L_put (v_l X) G  _ _ h) KV_L_put k_RL_32 rfl rfl rfl (Nat.le_of_ble_eq_true rfl) ⟨Nat.le_of_ble_eq_true rfl, Nat.le_of_ble_eq_true rfl⟩ dL_number_24 (fun S7 h => ?_)
    exact q_L_number_27 C D  _ h
/-! HalfAccuserLaw.name(LHalfAccuser;[III)V -/
theorem dL_name_0 : decode cL_name 0 = .ok ((.aload_n 0), 1) := by decide +kernel
theorem dL_name_1 : decode cL_name 1 = .ok ((.aload_n 1), 1) := by decide +kernel
theorem dL_name_2 : decode cL_name 2 = .ok ((.bipush 32), 2) := by decide +kernel
theorem dL_name_4 : decode cL_name 4 = .ok ((.invokestatic 32), 3) := by decide +kernel
theorem dL_name_7 : decode cL_name 7 = .ok ((.aload_n 0), 1) := by decide +kernel
theorem dL_name_8 : decode cL_name 8 = .ok ((.aload_n 1), 1) := by decide +kernel
theorem dL_name_9 : decode cL_name 9 = .ok ((.iload_n 2), 1) := by decide +kernel
theorem dL_name_10 : decode cL_name 10 = .ok ((.invokestatic 32), 3) := by decide +kernel
theorem dL_name_13 : decode cL_name 13 = .ok ((.aload_n 0), 1) := by decide +kernel
theorem dL_name_14 : decode cL_name 14 = .ok ((.aload_n 1), 1) := by decide +kernel
theorem dL_name_15 : decode cL_name 15 = .ok ((.bipush 97), 2) := by decide +kernel
theorem dL_name_17 : decode cL_name 17 = .ok ((.iload_n 3), 1) := by decide +kernel
theorem dL_name_18 : decode cL_name 18 = .ok (.iadd, 1) := by decide +kernel
theorem dL_name_19 : decode cL_name 19 = .ok ((.invokestatic 32), 3) := by decide +kernel
theorem dL_name_22 : decode cL_name 22 = .ok (.return_, 1) := by decide +kernel
def p_L_name   (S : vSt) (a2 : Int32) (a3 : Int32) (post : vSt → Prop) : Prop := p_L_put  S 32 (fun S4 => p_L_put  S4 a2 (fun S5 => p_L_put  S5 (97 + a3) (fun S6 => post S6)))
set_option maxHeartbeats 4000000 in
set_option maxRecDepth 100000 in
theorem c_L_name (l : Launch) (G : vG)    {S : vSt} (a2 : Int32) (a3 : Int32) (post : vSt → Prop) (h : p_L_name   S a2 a3 post) : Met l yL_name (v_ws yL_name cL_name 4 none) (v_rm 4 131) (v_Pc G [.ref (G.1 0), .ref (G.1 143), .int a2, .int a3] S) (v_Qv G post) 0 0 (v_A G) := by
  refine v_start (by decide +kernel) (Nat.le_of_ble_eq_true rfl) (fun X hl C D => ?_)
  subst hl
  have C : v_Cx X G cL_name RL 4 (v_rm 4 131) := C
  show VJ X G S 0 [(0, .ref (G.1 0)), (1, .ref (G.1 143)), (2, .int a2), (3, .int a3)] []
  refine V_aload_n C 0 dL_name_0 rfl rfl ?_
  refine V_aload_n C 1 dL_name_1 rfl rfl ?_
  refine V_bipush (v := 32) C dL_name_2 (by decide) ?_
  refine V_callSv (As := [.ref (G.1 0), .ref (G.1 143), .int 32]) (rest := []) C (c_L_put (v_l X) G  _ _ h) KV_L_put k_RL_32 rfl rfl rfl (Nat.le_of_ble_eq_true rfl) ⟨Nat.le_of_ble_eq_true rfl, Nat.le_of_ble_eq_true rfl⟩ dL_name_4 (fun S4 h => ?_)
  refine V_aload_n C 0 dL_name_7 rfl rfl ?_
  refine V_aload_n C 1 dL_name_8 rfl rfl ?_
  refine V_iload_n C 2 dL_name_9 rfl rfl ?_
  refine V_callSv (As := [.ref (G.1 0), .ref (G.1 143), .int a2]) (rest := []) C (c_L_put (v_l X) G  _ _ h) KV_L_put k_RL_32 rfl rfl rfl (Nat.le_of_ble_eq_true rfl) ⟨Nat.le_of_ble_eq_true rfl, Nat.le_of_ble_eq_true rfl⟩ dL_name_10 (fun S5 h => ?_)
  refine V_aload_n C 0 dL_name_13 rfl rfl ?_
  refine V_aload_n C 1 dL_name_14 rfl rfl ?_
  refine V_bipush (v := 97) C dL_name_15 (by decide) ?_
  refine V_iload_n C 3 dL_name_17 rfl rfl ?_
  refine V_iadd C dL_name_18 ?_
  refine V_callSv (As := [.ref (G.1 0), .ref (G.1 143), .int (97 + a3)]) (rest := []) C (c_L_put (v_l X) G  _ _ h) KV_L_put k_RL_32 rfl rfl rfl (Nat.le_of_ble_eq_true rfl) ⟨Nat.le_of_ble_eq_true rfl, Nat.le_of_ble_eq_true rfl⟩ dL_name_19 (fun S6 h => ?_)
  exact V_vret C D dL_name_22 h
/-! HalfAccuserLaw.lay(LHalfAccuser;[I[I)Z -/
theorem dL_lay_0 : decode cL_lay 0 = .ok ((.aload_n 1), 1) := by decide +kernel
theorem dL_lay_1 : decode cL_lay 1 = .ok ((.bipush 22), 2) := by decide +kernel
theorem dL_lay_3 : decode cL_lay 3 = .ok ((.iconst 0), 1) := by decide +kernel
theorem dL_lay_4 : decode cL_lay 4 = .ok (.iastore, 1) := by decide +kernel
theorem dL_lay_5 : decode cL_lay 5 = .ok ((.aload_n 0), 1) := by decide +kernel
theorem dL_lay_6 : decode cL_lay 6 = .ok ((.aload_n 1), 1) := by decide +kernel
theorem dL_lay_7 : decode cL_lay 7 = .ok ((.ldc 43), 2) := by decide +kernel
theorem dL_lay_9 : decode cL_lay 9 = .ok ((.invokestatic 45), 3) := by decide +kernel
theorem dL_lay_12 : decode cL_lay 12 = .ok ((.aload_n 0), 1) := by decide +kernel
theorem dL_lay_13 : decode cL_lay 13 = .ok ((.aload_n 1), 1) := by decide +kernel
theorem dL_lay_14 : decode cL_lay 14 = .ok ((.aload_n 2), 1) := by decide +kernel
theorem dL_lay_15 : decode cL_lay 15 = .ok ((.iconst 2), 1) := by decide +kernel
theorem dL_lay_16 : decode cL_lay 16 = .ok (.iaload, 1) := by decide +kernel
theorem dL_lay_17 : decode cL_lay 17 = .ok ((.invokestatic 49), 3) := by decide +kernel
theorem dL_lay_20 : decode cL_lay 20 = .ok ((.aload_n 0), 1) := by decide +kernel
theorem dL_lay_21 : decode cL_lay 21 = .ok ((.aload_n 1), 1) := by decide +kernel
theorem dL_lay_22 : decode cL_lay 22 = .ok ((.ldc 52), 2) := by decide +kernel
theorem dL_lay_24 : decode cL_lay 24 = .ok ((.invokestatic 45), 3) := by decide +kernel
theorem dL_lay_27 : decode cL_lay 27 = .ok ((.aload_n 0), 1) := by decide +kernel
theorem dL_lay_28 : decode cL_lay 28 = .ok ((.aload_n 1), 1) := by decide +kernel
theorem dL_lay_29 : decode cL_lay 29 = .ok ((.aload_n 2), 1) := by decide +kernel
theorem dL_lay_30 : decode cL_lay 30 = .ok ((.iconst 3), 1) := by decide +kernel
theorem dL_lay_31 : decode cL_lay 31 = .ok (.iaload, 1) := by decide +kernel
theorem dL_lay_32 : decode cL_lay 32 = .ok ((.invokestatic 49), 3) := by decide +kernel
theorem dL_lay_35 : decode cL_lay 35 = .ok ((.aload_n 0), 1) := by decide +kernel
theorem dL_lay_36 : decode cL_lay 36 = .ok ((.aload_n 1), 1) := by decide +kernel
theorem dL_lay_37 : decode cL_lay 37 = .ok ((.ldc 54), 2) := by decide +kernel
theorem dL_lay_39 : decode cL_lay 39 = .ok ((.invokestatic 45), 3) := by decide +kernel
theorem dL_lay_42 : decode cL_lay 42 = .ok ((.aload_n 0), 1) := by decide +kernel
theorem dL_lay_43 : decode cL_lay 43 = .ok ((.aload_n 1), 1) := by decide +kernel
theorem dL_lay_44 : decode cL_lay 44 = .ok ((.aload_n 2), 1) := by decide +kernel
theorem dL_lay_45 : decode cL_lay 45 = .ok ((.iconst 4), 1) := by decide +kernel
theorem dL_lay_46 : decode cL_lay 46 = .ok (.iaload, 1) := by decide +kernel
theorem dL_lay_47 : decode cL_lay 47 = .ok ((.invokestatic 49), 3) := by decide +kernel
theorem dL_lay_50 : decode cL_lay 50 = .ok ((.aload_n 0), 1) := by decide +kernel
theorem dL_lay_51 : decode cL_lay 51 = .ok ((.aload_n 1), 1) := by decide +kernel
theorem dL_lay_52 : decode cL_lay 52 = .ok ((.ldc 56), 2) := by decide +kernel
theorem dL_lay_54 : decode cL_lay 54 = .ok ((.invokestatic 45), 3) := by decide +kernel
theorem dL_lay_57 : decode cL_lay 57 = .ok ((.aload_n 0), 1) := by decide +kernel
theorem dL_lay_58 : decode cL_lay 58 = .ok ((.aload_n 1), 1) := by decide +kernel
theorem dL_lay_59 : decode cL_lay 59 = .ok ((.aload_n 2), 1) := by decide +kernel
theorem dL_lay_60 : decode cL_lay 60 = .ok ((.iconst 5), 1) := by decide +kernel
theorem dL_lay_61 : decode cL_lay 61 = .ok (.iaload, 1) := by decide +kernel
theorem dL_lay_62 : decode cL_lay 62 = .ok ((.invokestatic 49), 3) := by decide +kernel
theorem dL_lay_65 : decode cL_lay 65 = .ok ((.aload_n 0), 1) := by decide +kernel
theorem dL_lay_66 : decode cL_lay 66 = .ok ((.aload_n 1), 1) := by decide +kernel
theorem dL_lay_67 : decode cL_lay 67 = .ok ((.ldc 58), 2) := by decide +kernel
theorem dL_lay_69 : decode cL_lay 69 = .ok ((.invokestatic 45), 3) := by decide +kernel
theorem dL_lay_72 : decode cL_lay 72 = .ok ((.iconst 0), 1) := by decide +kernel
theorem dL_lay_73 : decode cL_lay 73 = .ok ((.istore_n 3), 1) := by decide +kernel
theorem dL_lay_74 : decode cL_lay 74 = .ok ((.iload_n 3), 1) := by decide +kernel
theorem dL_lay_75 : decode cL_lay 75 = .ok ((.aload_n 2), 1) := by decide +kernel
theorem dL_lay_76 : decode cL_lay 76 = .ok ((.iconst 0), 1) := by decide +kernel
theorem dL_lay_77 : decode cL_lay 77 = .ok (.iaload, 1) := by decide +kernel
theorem dL_lay_78 : decode cL_lay 78 = .ok ((.if_icmp .ge 67), 3) := by decide +kernel
theorem dL_lay_81 : decode cL_lay 81 = .ok ((.aload_n 0), 1) := by decide +kernel
theorem dL_lay_82 : decode cL_lay 82 = .ok ((.aload_n 1), 1) := by decide +kernel
theorem dL_lay_83 : decode cL_lay 83 = .ok ((.ldc 60), 2) := by decide +kernel
theorem dL_lay_85 : decode cL_lay 85 = .ok ((.invokestatic 45), 3) := by decide +kernel
theorem dL_lay_88 : decode cL_lay 88 = .ok ((.aload_n 0), 1) := by decide +kernel
theorem dL_lay_89 : decode cL_lay 89 = .ok ((.aload_n 1), 1) := by decide +kernel
theorem dL_lay_90 : decode cL_lay 90 = .ok ((.bipush 112), 2) := by decide +kernel
theorem dL_lay_92 : decode cL_lay 92 = .ok ((.iload_n 3), 1) := by decide +kernel
theorem dL_lay_93 : decode cL_lay 93 = .ok ((.invokestatic 62), 3) := by decide +kernel
theorem dL_lay_96 : decode cL_lay 96 = .ok ((.aload_n 0), 1) := by decide +kernel
theorem dL_lay_97 : decode cL_lay 97 = .ok ((.aload_n 1), 1) := by decide +kernel
theorem dL_lay_98 : decode cL_lay 98 = .ok ((.ldc 66), 2) := by decide +kernel
theorem dL_lay_100 : decode cL_lay 100 = .ok ((.invokestatic 45), 3) := by decide +kernel
theorem dL_lay_103 : decode cL_lay 103 = .ok ((.aload_n 0), 1) := by decide +kernel
theorem dL_lay_104 : decode cL_lay 104 = .ok ((.aload_n 1), 1) := by decide +kernel
theorem dL_lay_105 : decode cL_lay 105 = .ok ((.aload_n 2), 1) := by decide +kernel
theorem dL_lay_106 : decode cL_lay 106 = .ok ((.bipush 6), 2) := by decide +kernel
theorem dL_lay_108 : decode cL_lay 108 = .ok ((.iload_n 3), 1) := by decide +kernel
theorem dL_lay_109 : decode cL_lay 109 = .ok (.iadd, 1) := by decide +kernel
theorem dL_lay_110 : decode cL_lay 110 = .ok (.iaload, 1) := by decide +kernel
theorem dL_lay_111 : decode cL_lay 111 = .ok ((.invokestatic 49), 3) := by decide +kernel
theorem dL_lay_114 : decode cL_lay 114 = .ok ((.aload_n 0), 1) := by decide +kernel
theorem dL_lay_115 : decode cL_lay 115 = .ok ((.aload_n 1), 1) := by decide +kernel
theorem dL_lay_116 : decode cL_lay 116 = .ok ((.ldc 68), 2) := by decide +kernel
theorem dL_lay_118 : decode cL_lay 118 = .ok ((.invokestatic 45), 3) := by decide +kernel
theorem dL_lay_121 : decode cL_lay 121 = .ok ((.aload_n 0), 1) := by decide +kernel
theorem dL_lay_122 : decode cL_lay 122 = .ok ((.aload_n 1), 1) := by decide +kernel
theorem dL_lay_123 : decode cL_lay 123 = .ok ((.aload_n 2), 1) := by decide +kernel
theorem dL_lay_124 : decode cL_lay 124 = .ok ((.bipush 10), 2) := by decide +kernel
theorem dL_lay_126 : decode cL_lay 126 = .ok ((.iload_n 3), 1) := by decide +kernel
theorem dL_lay_127 : decode cL_lay 127 = .ok (.iadd, 1) := by decide +kernel
theorem dL_lay_128 : decode cL_lay 128 = .ok (.iaload, 1) := by decide +kernel
theorem dL_lay_129 : decode cL_lay 129 = .ok ((.invokestatic 49), 3) := by decide +kernel
theorem dL_lay_132 : decode cL_lay 132 = .ok ((.aload_n 0), 1) := by decide +kernel
theorem dL_lay_133 : decode cL_lay 133 = .ok ((.aload_n 1), 1) := by decide +kernel
theorem dL_lay_134 : decode cL_lay 134 = .ok ((.ldc 58), 2) := by decide +kernel
theorem dL_lay_136 : decode cL_lay 136 = .ok ((.invokestatic 45), 3) := by decide +kernel
theorem dL_lay_139 : decode cL_lay 139 = .ok ((.iinc 3 1), 3) := by decide +kernel
theorem dL_lay_142 : decode cL_lay 142 = .ok ((.goto (-68)), 3) := by decide +kernel
theorem dL_lay_145 : decode cL_lay 145 = .ok ((.iconst 0), 1) := by decide +kernel
theorem dL_lay_146 : decode cL_lay 146 = .ok ((.istore_n 3), 1) := by decide +kernel
theorem dL_lay_147 : decode cL_lay 147 = .ok ((.iload_n 3), 1) := by decide +kernel
theorem dL_lay_148 : decode cL_lay 148 = .ok ((.aload_n 2), 1) := by decide +kernel
theorem dL_lay_149 : decode cL_lay 149 = .ok ((.iconst 1), 1) := by decide +kernel
theorem dL_lay_150 : decode cL_lay 150 = .ok (.iaload, 1) := by decide +kernel
theorem dL_lay_151 : decode cL_lay 151 = .ok ((.if_icmp .ge 87), 3) := by decide +kernel
theorem dL_lay_154 : decode cL_lay 154 = .ok ((.aload_n 0), 1) := by decide +kernel
theorem dL_lay_155 : decode cL_lay 155 = .ok ((.aload_n 1), 1) := by decide +kernel
theorem dL_lay_156 : decode cL_lay 156 = .ok ((.ldc 70), 2) := by decide +kernel
theorem dL_lay_158 : decode cL_lay 158 = .ok ((.invokestatic 45), 3) := by decide +kernel
theorem dL_lay_161 : decode cL_lay 161 = .ok ((.aload_n 0), 1) := by decide +kernel
theorem dL_lay_162 : decode cL_lay 162 = .ok ((.aload_n 1), 1) := by decide +kernel
theorem dL_lay_163 : decode cL_lay 163 = .ok ((.bipush 100), 2) := by decide +kernel
theorem dL_lay_165 : decode cL_lay 165 = .ok ((.iload_n 3), 1) := by decide +kernel
theorem dL_lay_166 : decode cL_lay 166 = .ok ((.invokestatic 62), 3) := by decide +kernel
theorem dL_lay_169 : decode cL_lay 169 = .ok ((.aload_n 0), 1) := by decide +kernel
theorem dL_lay_170 : decode cL_lay 170 = .ok ((.aload_n 1), 1) := by decide +kernel
theorem dL_lay_171 : decode cL_lay 171 = .ok ((.ldc 72), 2) := by decide +kernel
theorem dL_lay_173 : decode cL_lay 173 = .ok ((.invokestatic 45), 3) := by decide +kernel
theorem dL_lay_176 : decode cL_lay 176 = .ok ((.aload_n 0), 1) := by decide +kernel
theorem dL_lay_177 : decode cL_lay 177 = .ok ((.aload_n 1), 1) := by decide +kernel
theorem dL_lay_178 : decode cL_lay 178 = .ok ((.bipush 112), 2) := by decide +kernel
theorem dL_lay_180 : decode cL_lay 180 = .ok ((.aload_n 2), 1) := by decide +kernel
theorem dL_lay_181 : decode cL_lay 181 = .ok ((.bipush 14), 2) := by decide +kernel
theorem dL_lay_183 : decode cL_lay 183 = .ok ((.iload_n 3), 1) := by decide +kernel
theorem dL_lay_184 : decode cL_lay 184 = .ok (.iadd, 1) := by decide +kernel
theorem dL_lay_185 : decode cL_lay 185 = .ok (.iaload, 1) := by decide +kernel
theorem dL_lay_186 : decode cL_lay 186 = .ok ((.invokestatic 62), 3) := by decide +kernel
theorem dL_lay_189 : decode cL_lay 189 = .ok ((.aload_n 0), 1) := by decide +kernel
theorem dL_lay_190 : decode cL_lay 190 = .ok ((.aload_n 1), 1) := by decide +kernel
theorem dL_lay_191 : decode cL_lay 191 = .ok ((.ldc 74), 2) := by decide +kernel
theorem dL_lay_193 : decode cL_lay 193 = .ok ((.invokestatic 45), 3) := by decide +kernel
theorem dL_lay_196 : decode cL_lay 196 = .ok ((.aload_n 0), 1) := by decide +kernel
theorem dL_lay_197 : decode cL_lay 197 = .ok ((.aload_n 1), 1) := by decide +kernel
theorem dL_lay_198 : decode cL_lay 198 = .ok ((.aload_n 2), 1) := by decide +kernel
theorem dL_lay_199 : decode cL_lay 199 = .ok ((.bipush 19), 2) := by decide +kernel
theorem dL_lay_201 : decode cL_lay 201 = .ok ((.iload_n 3), 1) := by decide +kernel
theorem dL_lay_202 : decode cL_lay 202 = .ok (.iadd, 1) := by decide +kernel
theorem dL_lay_203 : decode cL_lay 203 = .ok (.iaload, 1) := by decide +kernel
theorem dL_lay_204 : decode cL_lay 204 = .ok ((.invokestatic 49), 3) := by decide +kernel
theorem dL_lay_207 : decode cL_lay 207 = .ok ((.aload_n 0), 1) := by decide +kernel
theorem dL_lay_208 : decode cL_lay 208 = .ok ((.aload_n 1), 1) := by decide +kernel
theorem dL_lay_209 : decode cL_lay 209 = .ok ((.ldc 76), 2) := by decide +kernel
theorem dL_lay_211 : decode cL_lay 211 = .ok ((.invokestatic 45), 3) := by decide +kernel
theorem dL_lay_214 : decode cL_lay 214 = .ok ((.aload_n 0), 1) := by decide +kernel
theorem dL_lay_215 : decode cL_lay 215 = .ok ((.aload_n 1), 1) := by decide +kernel
theorem dL_lay_216 : decode cL_lay 216 = .ok ((.aload_n 2), 1) := by decide +kernel
theorem dL_lay_217 : decode cL_lay 217 = .ok ((.bipush 24), 2) := by decide +kernel
theorem dL_lay_219 : decode cL_lay 219 = .ok ((.iload_n 3), 1) := by decide +kernel
theorem dL_lay_220 : decode cL_lay 220 = .ok (.iadd, 1) := by decide +kernel
theorem dL_lay_221 : decode cL_lay 221 = .ok (.iaload, 1) := by decide +kernel
theorem dL_lay_222 : decode cL_lay 222 = .ok ((.invokestatic 49), 3) := by decide +kernel
theorem dL_lay_225 : decode cL_lay 225 = .ok ((.aload_n 0), 1) := by decide +kernel
theorem dL_lay_226 : decode cL_lay 226 = .ok ((.aload_n 1), 1) := by decide +kernel
theorem dL_lay_227 : decode cL_lay 227 = .ok ((.ldc 58), 2) := by decide +kernel
theorem dL_lay_229 : decode cL_lay 229 = .ok ((.invokestatic 45), 3) := by decide +kernel
theorem dL_lay_232 : decode cL_lay 232 = .ok ((.iinc 3 1), 3) := by decide +kernel
theorem dL_lay_235 : decode cL_lay 235 = .ok ((.goto (-88)), 3) := by decide +kernel
theorem dL_lay_238 : decode cL_lay 238 = .ok ((.aload_n 0), 1) := by decide +kernel
theorem dL_lay_239 : decode cL_lay 239 = .ok ((.aload_n 1), 1) := by decide +kernel
theorem dL_lay_240 : decode cL_lay 240 = .ok ((.invokestatic 78), 3) := by decide +kernel
theorem dL_lay_243 : decode cL_lay 243 = .ok ((.aload_n 2), 1) := by decide +kernel
theorem dL_lay_244 : decode cL_lay 244 = .ok ((.iconst 1), 1) := by decide +kernel
theorem dL_lay_245 : decode cL_lay 245 = .ok (.iaload, 1) := by decide +kernel
theorem dL_lay_246 : decode cL_lay 246 = .ok ((.if_icmp .ne 7), 3) := by decide +kernel
theorem dL_lay_249 : decode cL_lay 249 = .ok ((.iconst 1), 1) := by decide +kernel
theorem dL_lay_250 : decode cL_lay 250 = .ok ((.goto 4), 3) := by decide +kernel
theorem dL_lay_253 : decode cL_lay 253 = .ok ((.iconst 0), 1) := by decide +kernel
theorem dL_lay_254 : decode cL_lay 254 = .ok (.ireturn, 1) := by decide +kernel
def p_L_lay_147     (post : Bool → vSt → Prop) : Nat → vSt → Int32 → Prop
  | 0 => fun _ _ => False
  | fu147 + 1 => fun S x3 => (vp_in 1 29 ∧ (((S.1 144 (Int32.toNatClampNeg 1)) ≤ x3 → p_L_load  S  (fun r62 S61 => (vp_in 1 29 ∧ ((¬ r62 = (S61.1 144 (Int32.toNatClampNeg 1)) → post false S61) ∧ (r62 = (S61.1 144 (Int32.toNatClampNeg 1)) → post true S61))))) ∧ (¬ (S.1 144 (Int32.toNatClampNeg 1)) ≤ x3 → p_L_say 9 S  (fun S63 => p_L_name  S63 100 x3 (fun S64 => p_L_say 10 S64  (fun S65 => (vp_in (14 + x3) 29 ∧ p_L_name  S65 112 (S65.1 144 (Int32.toNatClampNeg (14 + x3))) (fun S66 => p_L_say 11 S66  (fun S67 => (vp_in (19 + x3) 29 ∧ p_L_number  S67 (S67.1 144 (Int32.toNatClampNeg (19 + x3))) (fun S68 => p_L_say 12 S68  (fun S69 => (vp_in (24 + x3) 29 ∧ p_L_number  S69 (S69.1 144 (Int32.toNatClampNeg (24 + x3))) (fun S70 => p_L_say 5 S70  (fun S71 => ∀ y72 : Int32, y72 = x3 + 1 → (p_L_lay_147  post fu147) S71 y72)))))))))))))))
theorem e_L_lay_147     (post : Bool → vSt → Prop) (fu147 : Nat) (S : vSt) (x3 : Int32) : p_L_lay_147  post (fu147 + 1) S x3 = ((vp_in 1 29 ∧ (((S.1 144 (Int32.toNatClampNeg 1)) ≤ x3 → p_L_load  S  (fun r62 S61 => (vp_in 1 29 ∧ ((¬ r62 = (S61.1 144 (Int32.toNatClampNeg 1)) → post false S61) ∧ (r62 = (S61.1 144 (Int32.toNatClampNeg 1)) → post true S61))))) ∧ (¬ (S.1 144 (Int32.toNatClampNeg 1)) ≤ x3 → p_L_say 9 S  (fun S63 => p_L_name  S63 100 x3 (fun S64 => p_L_say 10 S64  (fun S65 => (vp_in (14 + x3) 29 ∧ p_L_name  S65 112 (S65.1 144 (Int32.toNatClampNeg (14 + x3))) (fun S66 => p_L_say 11 S66  (fun S67 => (vp_in (19 + x3) 29 ∧ p_L_number  S67 (S67.1 144 (Int32.toNatClampNeg (19 + x3))) (fun S68 => p_L_say 12 S68  (fun S69 => (vp_in (24 + x3) 29 ∧ p_L_number  S69 (S69.1 144 (Int32.toNatClampNeg (24 + x3))) (fun S70 => p_L_say 5 S70  (fun S71 => ∀ y72 : Int32, y72 = x3 + 1 → (p_L_lay_147  post fu147) S71 y72)))))))))))))))) := rfl
def p_L_lay_74     (post : Bool → vSt → Prop) : Nat → vSt → Int32 → Prop
  | 0 => fun _ _ => False
  | fu74 + 1 => fun S x3 => (vp_in 0 29 ∧ (((S.1 144 (Int32.toNatClampNeg 0)) ≤ x3 → ∃ fu147, p_L_lay_147  post fu147 S 0) ∧ (¬ (S.1 144 (Int32.toNatClampNeg 0)) ≤ x3 → p_L_say 6 S  (fun S61 => p_L_name  S61 112 x3 (fun S62 => p_L_say 7 S62  (fun S63 => (vp_in (6 + x3) 29 ∧ p_L_number  S63 (S63.1 144 (Int32.toNatClampNeg (6 + x3))) (fun S64 => p_L_say 8 S64  (fun S65 => (vp_in (10 + x3) 29 ∧ p_L_number  S65 (S65.1 144 (Int32.toNatClampNeg (10 + x3))) (fun S66 => p_L_say 5 S66  (fun S67 => ∀ y68 : Int32, y68 = x3 + 1 → (p_L_lay_74  post fu74) S67 y68))))))))))))
theorem e_L_lay_74     (post : Bool → vSt → Prop) (fu74 : Nat) (S : vSt) (x3 : Int32) : p_L_lay_74  post (fu74 + 1) S x3 = ((vp_in 0 29 ∧ (((S.1 144 (Int32.toNatClampNeg 0)) ≤ x3 → ∃ fu147, p_L_lay_147  post fu147 S 0) ∧ (¬ (S.1 144 (Int32.toNatClampNeg 0)) ≤ x3 → p_L_say 6 S  (fun S61 => p_L_name  S61 112 x3 (fun S62 => p_L_say 7 S62  (fun S63 => (vp_in (6 + x3) 29 ∧ p_L_number  S63 (S63.1 144 (Int32.toNatClampNeg (6 + x3))) (fun S64 => p_L_say 8 S64  (fun S65 => (vp_in (10 + x3) 29 ∧ p_L_number  S65 (S65.1 144 (Int32.toNatClampNeg (10 + x3))) (fun S66 => p_L_say 5 S66  (fun S67 => ∀ y68 : Int32, y68 = x3 + 1 → (p_L_lay_74  post fu74) S67 y68))))))))))))) := rfl
def p_L_lay   (S : vSt)  (post : Bool → vSt → Prop) : Prop := (vp_in 22 24 ∧ ∀ S51, S51 = v_si S 143 (Int32.toNatClampNeg 22) 0 → p_L_say 1 S51  (fun S52 => (vp_in 2 29 ∧ p_L_number  S52 (S52.1 144 (Int32.toNatClampNeg 2)) (fun S53 => p_L_say 2 S53  (fun S54 => (vp_in 3 29 ∧ p_L_number  S54 (S54.1 144 (Int32.toNatClampNeg 3)) (fun S55 => p_L_say 3 S55  (fun S56 => (vp_in 4 29 ∧ p_L_number  S56 (S56.1 144 (Int32.toNatClampNeg 4)) (fun S57 => p_L_say 4 S57  (fun S58 => (vp_in 5 29 ∧ p_L_number  S58 (S58.1 144 (Int32.toNatClampNeg 5)) (fun S59 => p_L_say 5 S59  (fun S60 => ∃ fu74, p_L_lay_74  post fu74 S60 0))))))))))))))
set_option maxHeartbeats 4000000 in
set_option maxRecDepth 100000 in
theorem q_L_lay_147 {X : vX} {G : vG}  {post : Bool → vSt → Prop} (C : v_Cx X G cL_lay RL 4 (v_rm 9 338)) (D : v_Rx X G (v_Qz G post) (some .boolean))     : ∀ (fu : Nat) (S : vSt) (x3 : Int32), p_L_lay_147  post fu S x3 → VJ X G S 147 [(0, .ref (G.1 0)), (1, .ref (G.1 143)), (2, .ref (G.1 144)), (3, .int x3)] [] := by
  intro fu
  induction fu with
  | zero => intro S x3 h; exact absurd h id
  | succ fu ih =>
    intro S x3 h
    have hK147 := ih
    rw [e_L_lay_147] at h
    refine V_iload_n C 3 dL_lay_147 rfl rfl ?_
    refine V_aload_n C 2 dL_lay_148 rfl rfl ?_
    refine V_iconst (v := 1) C dL_lay_149 (by decide) ?_
    obtain ⟨hi, h⟩ := h
    refine V_iald C 144 29 (by decide) (by decide) hi dL_lay_150 ?_
    refine V_icmp_ge (tgt := 238) C dL_lay_151 (by decide) (fun c => ?_) (fun c => ?_)
    · have h := h.1 c
      refine V_aload_n C 0 dL_lay_238 rfl rfl ?_
      refine V_aload_n C 1 dL_lay_239 rfl rfl ?_
      refine V_callSi (As := [.ref (G.1 0), .ref (G.1 143)]) (rest := []) C (c_L_load (v_l X) G  _ h) KV_L_load k_RL_78 rfl rfl rfl (Nat.le_of_ble_eq_true rfl) ⟨Nat.le_of_ble_eq_true rfl, Nat.le_of_ble_eq_true rfl⟩ dL_lay_240 (fun r62 S61 h => ?_)
      refine V_aload_n C 2 dL_lay_243 rfl rfl ?_
      refine V_iconst (v := 1) C dL_lay_244 (by decide) ?_
      obtain ⟨hi, h⟩ := h
      refine V_iald C 144 29 (by decide) (by decide) hi dL_lay_245 ?_
      refine V_icmp_ne (tgt := 253) C dL_lay_246 (by decide) (fun c => ?_) (fun c => ?_)
      · have h := h.1 c
        refine V_iconst (v := 0) C dL_lay_253 (by decide) ?_
        exact V_zret0 C D dL_lay_254 h
      · have h := h.2 c
        refine V_iconst (v := 1) C dL_lay_249 (by decide) ?_
        refine V_goto (tgt := 254) C dL_lay_250 (by decide) ?_
        exact V_zret1 C D dL_lay_254 h
    · have h := h.2 c
      refine V_aload_n C 0 dL_lay_154 rfl rfl ?_
      refine V_aload_n C 1 dL_lay_155 rfl rfl ?_
      refine V_qldc (a := 166) C (q := 9) (by decide) rfl rfl rfl dL_lay_156 ?_
      refine V_callSv (As := [.ref (G.1 0), .ref (G.1 143), .ref (G.1 166)]) (rest := []) C (c_L_say (v_l X) G (by decide) _ h) KV_L_say k_RL_45 rfl rfl rfl (Nat.le_of_ble_eq_true rfl) ⟨Nat.le_of_ble_eq_true rfl, Nat.le_of_ble_eq_true rfl⟩ dL_lay_158 (fun S63 h => ?_)
      refine V_aload_n C 0 dL_lay_161 rfl rfl ?_
      refine V_aload_n C 1 dL_lay_162 rfl rfl ?_
      refine V_bipush (v := 100) C dL_lay_163 (by decide) ?_
      refine V_iload_n C 3 dL_lay_165 rfl rfl ?_
      refine V_callSv (As := [.ref (G.1 0), .ref (G.1 143), .int 100, .int x3]) (rest := []) C (c_L_name (v_l X) G  _ _ _ h) KV_L_name k_RL_62 rfl rfl rfl (Nat.le_of_ble_eq_true rfl) ⟨Nat.le_of_ble_eq_true rfl, Nat.le_of_ble_eq_true rfl⟩ dL_lay_166 (fun S64 h => ?_)
      refine V_aload_n C 0 dL_lay_169 rfl rfl ?_
      refine V_aload_n C 1 dL_lay_170 rfl rfl ?_
      refine V_qldc (a := 168) C (q := 10) (by decide) rfl rfl rfl dL_lay_171 ?_
      refine V_callSv (As := [.ref (G.1 0), .ref (G.1 143), .ref (G.1 168)]) (rest := []) C (c_L_say (v_l X) G (by decide) _ h) KV_L_say k_RL_45 rfl rfl rfl (Nat.le_of_ble_eq_true rfl) ⟨Nat.le_of_ble_eq_true rfl, Nat.le_of_ble_eq_true rfl⟩ dL_lay_173 (fun S65 h => ?_)
      refine V_aload_n C 0 dL_lay_176 rfl rfl ?_
      refine V_aload_n C 1 dL_lay_177 rfl rfl ?_
      refine V_bipush (v := 112) C dL_lay_178 (by decide) ?_
      refine V_aload_n C 2 dL_lay_180 rfl rfl ?_
      refine V_bipush (v := 14) C dL_lay_181 (by decide) ?_
      refine V_iload_n C 3 dL_lay_183 rfl rfl ?_
      refine V_iadd C dL_lay_184 ?_
      obtain ⟨hi, h⟩ := h
      refine V_iald C 144 29 (by decide) (by decide) hi dL_lay_185 ?_
      refine V_callSv (As := [.ref (G.1 0), .ref (G.1 143), .int 112, .int (S65.1 144 (Int32.toNatClampNeg (14 + x3)))]) (rest := []) C (c_L_name (v_l X) G  _ _ _ h) KV_L_name k_RL_62 rfl rfl rfl (Nat.le_of_ble_eq_true rfl) ⟨Nat.le_of_ble_eq_true rfl, Nat.le_of_ble_eq_true rfl⟩ dL_lay_186 (fun S66 h => ?_)
      refine V_aload_n C 0 dL_lay_189 rfl rfl ?_
      refine V_aload_n C 1 dL_lay_190 rfl rfl ?_
      refine V_qldc (a := 170) C (q := 11) (by decide) rfl rfl rfl dL_lay_191 ?_
      refine V_callSv (As := [.ref (G.1 0), .ref (G.1 143), .ref (G.1 170)]) (rest := []) C (c_L_say (v_l X) G (by decide) _ h) KV_L_say k_RL_45 rfl rfl rfl (Nat.le_of_ble_eq_true rfl) ⟨Nat.le_of_ble_eq_true rfl, Nat.le_of_ble_eq_true rfl⟩ dL_lay_193 (fun S67 h => ?_)
      refine V_aload_n C 0 dL_lay_196 rfl rfl ?_
      refine V_aload_n C 1 dL_lay_197 rfl rfl ?_
      refine V_aload_n C 2 dL_lay_198 rfl rfl ?_
      refine V_bipush (v := 19) C dL_lay_199 (by decide) ?_
      refine V_iload_n C 3 dL_lay_201 rfl rfl ?_
      refine V_iadd C dL_lay_202 ?_
      obtain ⟨hi, h⟩ := h
      refine V_iald C 144 29 (by decide) (by decide) hi dL_lay_203 ?_
      refine V_callSv (As := [.ref (G.1 0), .ref (G.1 143), .int (S67.1 144 (Int32.toNatClampNeg (19 + x3)))]) (rest := []) C (c_L_number (v_l X) G  _ _ h) KV_L_number k_RL_49 rfl rfl rfl (Nat.le_of_ble_eq_true rfl) ⟨Nat.le_of_ble_eq_true rfl, Nat.le_of_ble_eq_true rfl⟩ dL_lay_204 (fun S68 h => ?_)
      refine V_aload_n C 0 dL_lay_207 rfl rfl ?_
      refine V_aload_n C 1 dL_lay_208 rfl rfl ?_
      refine V_qldc (a := 172) C (q := 12) (by decide) rfl rfl rfl dL_lay_209 ?_
      refine V_callSv (As := [.ref (G.1 0), .ref (G.1 143), .ref (G.1 172)]) (rest := []) C (c_L_say (v_l X) G (by decide) _ h) KV_L_say k_RL_45 rfl rfl rfl (Nat.le_of_ble_eq_true rfl) ⟨Nat.le_of_ble_eq_true rfl, Nat.le_of_ble_eq_true rfl⟩ dL_lay_211 (fun S69 h => ?_)
      refine V_aload_n C 0 dL_lay_214 rfl rfl ?_
      refine V_aload_n C 1 dL_lay_215 rfl rfl ?_
      refine V_aload_n C 2 dL_lay_216 rfl rfl ?_
      refine V_bipush (v := 24) C dL_lay_217 (by decide) ?_
      refine V_iload_n C 3 dL_lay_219 rfl rfl ?_
      refine V_iadd C dL_lay_220 ?_
      obtain ⟨hi, h⟩ := h
      refine V_iald C 144 29 (by decide) (by decide) hi dL_lay_221 ?_
      refine V_callSv (As := [.ref (G.1 0), .ref (G.1 143), .int (S69.1 144 (Int32.toNatClampNeg (24 + x3)))]) (rest := []) C (c_L_number (v_l X) G  _ _ h) KV_L_number k_RL_49 rfl rfl rfl (Nat.le_of_ble_eq_true rfl) ⟨Nat.le_of_ble_eq_true rfl, Nat.le_of_ble_eq_true rfl⟩ dL_lay_222 (fun S70 h => ?_)
      refine V_aload_n C 0 dL_lay_225 rfl rfl ?_
      refine V_aload_n C 1 dL_lay_226 rfl rfl ?_
      refine V_qldc (a := 158) C (q := 5) (by decide) rfl rfl rfl dL_lay_227 ?_
      refine V_callSv (As := [.ref (G.1 0), .ref (G.1 143), .ref (G.1 158)]) (rest := []) C (c_L_say (v_l X) G (by decide) _ h) KV_L_say k_RL_45 rfl rfl rfl (Nat.le_of_ble_eq_true rfl) ⟨Nat.le_of_ble_eq_true rfl, Nat.le_of_ble_eq_true rfl⟩ dL_lay_229 (fun S71 h => ?_)
      obtain ⟨y72, ey72⟩ : ∃ z : Int32, z = x3 + 1 := ⟨_, rfl⟩
      have h := h y72 ey72
      refine V_iinc (lv' := [(0, .ref (G.1 0)), (1, .ref (G.1 143)), (2, .ref (G.1 144)), (3, .int y72)]) C 3 [1, 2, 3, 0] y72 dL_lay_232 rfl (by rw [ey72]; rfl) (by decide) rfl ?_
      refine V_goto (tgt := 147) C dL_lay_235 (by decide) ?_
      exact hK147 _ _ h
set_option maxHeartbeats 4000000 in
set_option maxRecDepth 100000 in
theorem q_L_lay_74 {X : vX} {G : vG}  {post : Bool → vSt → Prop} (C : v_Cx X G cL_lay RL 4 (v_rm 9 338)) (D : v_Rx X G (v_Qz G post) (some .boolean))     : ∀ (fu : Nat) (S : vSt) (x3 : Int32), p_L_lay_74  post fu S x3 → VJ X G S 74 [(0, .ref (G.1 0)), (1, .ref (G.1 143)), (2, .ref (G.1 144)), (3, .int x3)] [] := by
  intro fu
  induction fu with
  | zero => intro S x3 h; exact absurd h id
  | succ fu ih =>
    intro S x3 h
    have hK74 := ih
    rw [e_L_lay_74] at h
    refine V_iload_n C 3 dL_lay_74 rfl rfl ?_
    refine V_aload_n C 2 dL_lay_75 rfl rfl ?_
    refine V_iconst (v := 0) C dL_lay_76 (by decide) ?_
    obtain ⟨hi, h⟩ := h
    refine V_iald C 144 29 (by decide) (by decide) hi dL_lay_77 ?_
    refine V_icmp_ge (tgt := 145) C dL_lay_78 (by decide) (fun c => ?_) (fun c => ?_)
    · have h := h.1 c
      refine V_iconst (v := 0) C dL_lay_145 (by decide) ?_
      refine V_istore_n (lv' := [(0, .ref (G.1 0)), (1, .ref (G.1 143)), (2, .ref (G.1 144)), (3, .int 0)]) C [1, 2, 3, 0] dL_lay_146 rfl (by decide) rfl ?_
      obtain ⟨fu147, h⟩ := h
      exact q_L_lay_147 C D  fu147 _ _ h
    · have h := h.2 c
      refine V_aload_n C 0 dL_lay_81 rfl rfl ?_
      refine V_aload_n C 1 dL_lay_82 rfl rfl ?_
      refine V_qldc (a := 160) C (q := 6) (by decide) rfl rfl rfl dL_lay_83 ?_
      refine V_callSv (As := [.ref (G.1 0), .ref (G.1 143), .ref (G.1 160)]) (rest := []) C (c_L_say (v_l X) G (by decide) _ h) KV_L_say k_RL_45 rfl rfl rfl (Nat.le_of_ble_eq_true rfl) ⟨Nat.le_of_ble_eq_true rfl, Nat.le_of_ble_eq_true rfl⟩ dL_lay_85 (fun S61 h => ?_)
      refine V_aload_n C 0 dL_lay_88 rfl rfl ?_
      refine V_aload_n C 1 dL_lay_89 rfl rfl ?_
      refine V_bipush (v := 112) C dL_lay_90 (by decide) ?_
      refine V_iload_n C 3 dL_lay_92 rfl rfl ?_
      refine V_callSv (As := [.ref (G.1 0), .ref (G.1 143), .int 112, .int x3]) (rest := []) C (c_L_name (v_l X) G  _ _ _ h) KV_L_name k_RL_62 rfl rfl rfl (Nat.le_of_ble_eq_true rfl) ⟨Nat.le_of_ble_eq_true rfl, Nat.le_of_ble_eq_true rfl⟩ dL_lay_93 (fun S62 h => ?_)
      refine V_aload_n C 0 dL_lay_96 rfl rfl ?_
      refine V_aload_n C 1 dL_lay_97 rfl rfl ?_
      refine V_qldc (a := 162) C (q := 7) (by decide) rfl rfl rfl dL_lay_98 ?_
      refine V_callSv (As := [.ref (G.1 0), .ref (G.1 143), .ref (G.1 162)]) (rest := []) C (c_L_say (v_l X) G (by decide) _ h) KV_L_say k_RL_45 rfl rfl rfl (Nat.le_of_ble_eq_true rfl) ⟨Nat.le_of_ble_eq_true rfl, Nat.le_of_ble_eq_true rfl⟩ dL_lay_100 (fun S63 h => ?_)
      refine V_aload_n C 0 dL_lay_103 rfl rfl ?_
      refine V_aload_n C 1 dL_lay_104 rfl rfl ?_
      refine V_aload_n C 2 dL_lay_105 rfl rfl ?_
      refine V_bipush (v := 6) C dL_lay_106 (by decide) ?_
      refine V_iload_n C 3 dL_lay_108 rfl rfl ?_
      refine V_iadd C dL_lay_109 ?_
      obtain ⟨hi, h⟩ := h
      refine V_iald C 144 29 (by decide) (by decide) hi dL_lay_110 ?_
      refine V_callSv (As := [.ref (G.1 0), .ref (G.1 143), .int (S63.1 144 (Int32.toNatClampNeg (6 + x3)))]) (rest := []) C (c_L_number (v_l X) G  _ _ h) KV_L_number k_RL_49 rfl rfl rfl (Nat.le_of_ble_eq_true rfl) ⟨Nat.le_of_ble_eq_true rfl, Nat.le_of_ble_eq_true rfl⟩ dL_lay_111 (fun S64 h => ?_)
      refine V_aload_n C 0 dL_lay_114 rfl rfl ?_
      refine V_aload_n C 1 dL_lay_115 rfl rfl ?_
      refine V_qldc (a := 164) C (q := 8) (by decide) rfl rfl rfl dL_lay_116 ?_
      refine V_callSv (As := [.ref (G.1 0), .ref (G.1 143), .ref (G.1 164)]) (rest := []) C (c_L_say (v_l X) G (by decide) _ h) KV_L_say k_RL_45 rfl rfl rfl (Nat.le_of_ble_eq_true rfl) ⟨Nat.le_of_ble_eq_true rfl, Nat.le_of_ble_eq_true rfl⟩ dL_lay_118 (fun S65 h => ?_)
      refine V_aload_n C 0 dL_lay_121 rfl rfl ?_
      refine V_aload_n C 1 dL_lay_122 rfl rfl ?_
      refine V_aload_n C 2 dL_lay_123 rfl rfl ?_
      refine V_bipush (v := 10) C dL_lay_124 (by decide) ?_
      refine V_iload_n C 3 dL_lay_126 rfl rfl ?_
      refine V_iadd C dL_lay_127 ?_
      obtain ⟨hi, h⟩ := h
      refine V_iald C 144 29 (by decide) (by decide) hi dL_lay_128 ?_
      refine V_callSv (As := [.ref (G.1 0), .ref (G.1 143), .int (S65.1 144 (Int32.toNatClampNeg (10 + x3)))]) (rest := []) C (c_L_number (v_l X) G  _ _ h) KV_L_number k_RL_49 rfl rfl rfl (Nat.le_of_ble_eq_true rfl) ⟨Nat.le_of_ble_eq_true rfl, Nat.le_of_ble_eq_true rfl⟩ dL_lay_129 (fun S66 h => ?_)
      refine V_aload_n C 0 dL_lay_132 rfl rfl ?_
      refine V_aload_n C 1 dL_lay_133 rfl rfl ?_
      refine V_qldc (a := 158) C (q := 5) (by decide) rfl rfl rfl dL_lay_134 ?_
      refine V_callSv (As := [.ref (G.1 0), .ref (G.1 143), .ref (G.1 158)]) (rest := []) C (c_L_say (v_l X) G (by decide) _ h) KV_L_say k_RL_45 rfl rfl rfl (Nat.le_of_ble_eq_true rfl) ⟨Nat.le_of_ble_eq_true rfl, Nat.le_of_ble_eq_true rfl⟩ dL_lay_136 (fun S67 h => ?_)
      obtain ⟨y68, ey68⟩ : ∃ z : Int32, z = x3 + 1 := ⟨_, rfl⟩
      have h := h y68 ey68
      refine V_iinc (lv' := [(0, .ref (G.1 0)), (1, .ref (G.1 143)), (2, .ref (G.1 144)), (3, .int y68)]) C 3 [1, 2, 3, 0] y68 dL_lay_139 rfl (by rw [ey68]; rfl) (by decide) rfl ?_
      refine V_goto (tgt := 74) C dL_lay_142 (by decide) ?_
      exact hK74 _ _ h
set_option maxHeartbeats 4000000 in
set_option maxRecDepth 100000 in
theorem c_L_lay (l : Launch) (G : vG)    {S : vSt}  (post : Bool → vSt → Prop) (h : p_L_lay   S  post) : Met l yL_lay (v_ws yL_lay cL_lay 4 (some .boolean)) (v_rm 9 338) (v_Pc G [.ref (G.1 0), .ref (G.1 143), .ref (G.1 144)] S) (v_Qz G post) 0 0 (v_A G) := by
  refine v_start (by decide +kernel) (Nat.le_of_ble_eq_true rfl) (fun X hl C D => ?_)
  subst hl
  have C : v_Cx X G cL_lay RL 4 (v_rm 9 338) := C
  show VJ X G S 0 [(0, .ref (G.1 0)), (1, .ref (G.1 143)), (2, .ref (G.1 144))] []
  refine V_aload_n C 1 dL_lay_0 rfl rfl ?_
  refine V_bipush (v := 22) C dL_lay_1 (by decide) ?_
  refine V_iconst (v := 0) C dL_lay_3 (by decide) ?_
  obtain ⟨hi, h⟩ := h
  refine V_iast C 143 24 (by decide) (by decide) hi dL_lay_4 ?_
  refine V_topS (fun S51 eS51 => ?_)
  have h := h S51 eS51
  refine V_aload_n C 0 dL_lay_5 rfl rfl ?_
  refine V_aload_n C 1 dL_lay_6 rfl rfl ?_
  refine V_qldc (a := 150) C (q := 1) (by decide) rfl rfl rfl dL_lay_7 ?_
  refine V_callSv (As := [.ref (G.1 0), .ref (G.1 143), .ref (G.1 150)]) (rest := []) C (c_L_say (v_l X) G (by decide) _ h) KV_L_say k_RL_45 rfl rfl rfl (Nat.le_of_ble_eq_true rfl) ⟨Nat.le_of_ble_eq_true rfl, Nat.le_of_ble_eq_true rfl⟩ dL_lay_9 (fun S52 h => ?_)
  refine V_aload_n C 0 dL_lay_12 rfl rfl ?_
  refine V_aload_n C 1 dL_lay_13 rfl rfl ?_
  refine V_aload_n C 2 dL_lay_14 rfl rfl ?_
  refine V_iconst (v := 2) C dL_lay_15 (by decide) ?_
  obtain ⟨hi, h⟩ := h
  refine V_iald C 144 29 (by decide) (by decide) hi dL_lay_16 ?_
  refine V_callSv (As := [.ref (G.1 0), .ref (G.1 143), .int (S52.1 144 (Int32.toNatClampNeg 2))]) (rest := []) C (c_L_number (v_l X) G  _ _ h) KV_L_number k_RL_49 rfl rfl rfl (Nat.le_of_ble_eq_true rfl) ⟨Nat.le_of_ble_eq_true rfl, Nat.le_of_ble_eq_true rfl⟩ dL_lay_17 (fun S53 h => ?_)
  refine V_aload_n C 0 dL_lay_20 rfl rfl ?_
  refine V_aload_n C 1 dL_lay_21 rfl rfl ?_
  refine V_qldc (a := 152) C (q := 2) (by decide) rfl rfl rfl dL_lay_22 ?_
  refine V_callSv (As := [.ref (G.1 0), .ref (G.1 143), .ref (G.1 152)]) (rest := []) C (c_L_say (v_l X) G (by decide) _ h) KV_L_say k_RL_45 rfl rfl rfl (Nat.le_of_ble_eq_true rfl) ⟨Nat.le_of_ble_eq_true rfl, Nat.le_of_ble_eq_true rfl⟩ dL_lay_24 (fun S54 h => ?_)
  refine V_aload_n C 0 dL_lay_27 rfl rfl ?_
  refine V_aload_n C 1 dL_lay_28 rfl rfl ?_
  refine V_aload_n C 2 dL_lay_29 rfl rfl ?_
  refine V_iconst (v := 3) C dL_lay_30 (by decide) ?_
  obtain ⟨hi, h⟩ := h
  refine V_iald C 144 29 (by decide) (by decide) hi dL_lay_31 ?_
  refine V_callSv (As := [.ref (G.1 0), .ref (G.1 143), .int (S54.1 144 (Int32.toNatClampNeg 3))]) (rest := []) C (c_L_number (v_l X) G  _ _ h) KV_L_number k_RL_49 rfl rfl rfl (Nat.le_of_ble_eq_true rfl) ⟨Nat.le_of_ble_eq_true rfl, Nat.le_of_ble_eq_true rfl⟩ dL_lay_32 (fun S55 h => ?_)
  refine V_aload_n C 0 dL_lay_35 rfl rfl ?_
  refine V_aload_n C 1 dL_lay_36 rfl rfl ?_
  refine V_qldc (a := 154) C (q := 3) (by decide) rfl rfl rfl dL_lay_37 ?_
  refine V_callSv (As := [.ref (G.1 0), .ref (G.1 143), .ref (G.1 154)]) (rest := []) C (c_L_say (v_l X) G (by decide) _ h) KV_L_say k_RL_45 rfl rfl rfl (Nat.le_of_ble_eq_true rfl) ⟨Nat.le_of_ble_eq_true rfl, Nat.le_of_ble_eq_true rfl⟩ dL_lay_39 (fun S56 h => ?_)
  refine V_aload_n C 0 dL_lay_42 rfl rfl ?_
  refine V_aload_n C 1 dL_lay_43 rfl rfl ?_
  refine V_aload_n C 2 dL_lay_44 rfl rfl ?_
  refine V_iconst (v := 4) C dL_lay_45 (by decide) ?_
  obtain ⟨hi, h⟩ := h
  refine V_iald C 144 29 (by decide) (by decide) hi dL_lay_46 ?_
  refine V_callSv (As := [.ref (G.1 0), .ref (G.1 143), .int (S56.1 144 (Int32.toNatClampNeg 4))]) (rest := []) C (c_L_number (v_l X) G  _ _ h) KV_L_number k_RL_49 rfl rfl rfl (Nat.le_of_ble_eq_true rfl) ⟨Nat.le_of_ble_eq_true rfl, Nat.le_of_ble_eq_true rfl⟩ dL_lay_47 (fun S57 h => ?_)
  refine V_aload_n C 0 dL_lay_50 rfl rfl ?_
  refine V_aload_n C 1 dL_lay_51 rfl rfl ?_
  refine V_qldc (a := 156) C (q := 4) (by decide) rfl rfl rfl dL_lay_52 ?_
  refine V_callSv (As := [.ref (G.1 0), .ref (G.1 143), .ref (G.1 156)]) (rest := []) C (c_L_say (v_l X) G (by decide) _ h) KV_L_say k_RL_45 rfl rfl rfl (Nat.le_of_ble_eq_true rfl) ⟨Nat.le_of_ble_eq_true rfl, Nat.le_of_ble_eq_true rfl⟩ dL_lay_54 (fun S58 h => ?_)
  refine V_aload_n C 0 dL_lay_57 rfl rfl ?_
  refine V_aload_n C 1 dL_lay_58 rfl rfl ?_
  refine V_aload_n C 2 dL_lay_59 rfl rfl ?_
  refine V_iconst (v := 5) C dL_lay_60 (by decide) ?_
  obtain ⟨hi, h⟩ := h
  refine V_iald C 144 29 (by decide) (by decide) hi dL_lay_61 ?_
  refine V_callSv (As := [.ref (G.1 0), .ref (G.1 143), .int (S58.1 144 (Int32.toNatClampNeg 5))]) (rest := []) C (c_L_number (v_l X) G  _ _ h) KV_L_number k_RL_49 rfl rfl rfl (Nat.le_of_ble_eq_true rfl) ⟨Nat.le_of_ble_eq_true rfl, Nat.le_of_ble_eq_true rfl⟩ dL_lay_62 (fun S59 h => ?_)
  refine V_aload_n C 0 dL_lay_65 rfl rfl ?_
  refine V_aload_n C 1 dL_lay_66 rfl rfl ?_
  refine V_qldc (a := 158) C (q := 5) (by decide) rfl rfl rfl dL_lay_67 ?_
  refine V_callSv (As := [.ref (G.1 0), .ref (G.1 143), .ref (G.1 158)]) (rest := []) C (c_L_say (v_l X) G (by decide) _ h) KV_L_say k_RL_45 rfl rfl rfl (Nat.le_of_ble_eq_true rfl) ⟨Nat.le_of_ble_eq_true rfl, Nat.le_of_ble_eq_true rfl⟩ dL_lay_69 (fun S60 h => ?_)
  refine V_iconst (v := 0) C dL_lay_72 (by decide) ?_
  refine V_istore_n (lv' := [(0, .ref (G.1 0)), (1, .ref (G.1 143)), (2, .ref (G.1 144)), (3, .int 0)]) C [1, 2, 3, 0] dL_lay_73 rfl (by decide) rfl ?_
  obtain ⟨fu74, h⟩ := h
  exact q_L_lay_74 C D  fu74 _ _ h
/-! HalfAccuserLaw.draw([I[I)V -/
theorem dL_draw_0 : decode cL_draw 0 = .ok ((.aload_n 0), 1) := by decide +kernel
theorem dL_draw_1 : decode cL_draw 1 = .ok (.arraylength, 1) := by decide +kernel
theorem dL_draw_2 : decode cL_draw 2 = .ok ((.ifCond .ne 9), 3) := by decide +kernel
theorem dL_draw_5 : decode cL_draw 5 = .ok ((.sipush 7919), 3) := by decide +kernel
theorem dL_draw_8 : decode cL_draw 8 = .ok ((.goto 6), 3) := by decide +kernel
theorem dL_draw_11 : decode cL_draw 11 = .ok ((.aload_n 0), 1) := by decide +kernel
theorem dL_draw_12 : decode cL_draw 12 = .ok ((.iconst 0), 1) := by decide +kernel
theorem dL_draw_13 : decode cL_draw 13 = .ok (.iaload, 1) := by decide +kernel
theorem dL_draw_14 : decode cL_draw 14 = .ok ((.istore_n 2), 1) := by decide +kernel
theorem dL_draw_15 : decode cL_draw 15 = .ok ((.aload_n 1), 1) := by decide +kernel
theorem dL_draw_16 : decode cL_draw 16 = .ok ((.iconst 0), 1) := by decide +kernel
theorem dL_draw_17 : decode cL_draw 17 = .ok ((.iload_n 2), 1) := by decide +kernel
theorem dL_draw_18 : decode cL_draw 18 = .ok ((.bipush 7), 2) := by decide +kernel
theorem dL_draw_20 : decode cL_draw 20 = .ok (.iand, 1) := by decide +kernel
theorem dL_draw_21 : decode cL_draw 21 = .ok ((.iconst 5), 1) := by decide +kernel
theorem dL_draw_22 : decode cL_draw 22 = .ok (.irem, 1) := by decide +kernel
theorem dL_draw_23 : decode cL_draw 23 = .ok (.iastore, 1) := by decide +kernel
theorem dL_draw_24 : decode cL_draw 24 = .ok ((.aload_n 1), 1) := by decide +kernel
theorem dL_draw_25 : decode cL_draw 25 = .ok ((.iconst 1), 1) := by decide +kernel
theorem dL_draw_26 : decode cL_draw 26 = .ok ((.aload_n 1), 1) := by decide +kernel
theorem dL_draw_27 : decode cL_draw 27 = .ok ((.iconst 0), 1) := by decide +kernel
theorem dL_draw_28 : decode cL_draw 28 = .ok (.iaload, 1) := by decide +kernel
theorem dL_draw_29 : decode cL_draw 29 = .ok ((.ifCond .ne 7), 3) := by decide +kernel
theorem dL_draw_32 : decode cL_draw 32 = .ok ((.iconst 0), 1) := by decide +kernel
theorem dL_draw_33 : decode cL_draw 33 = .ok ((.goto 12), 3) := by decide +kernel
theorem dL_draw_36 : decode cL_draw 36 = .ok ((.iload_n 2), 1) := by decide +kernel
theorem dL_draw_37 : decode cL_draw 37 = .ok ((.iconst 3), 1) := by decide +kernel
theorem dL_draw_38 : decode cL_draw 38 = .ok (.ishr, 1) := by decide +kernel
theorem dL_draw_39 : decode cL_draw 39 = .ok ((.bipush 7), 2) := by decide +kernel
theorem dL_draw_41 : decode cL_draw 41 = .ok (.iand, 1) := by decide +kernel
theorem dL_draw_42 : decode cL_draw 42 = .ok ((.bipush 6), 2) := by decide +kernel
theorem dL_draw_44 : decode cL_draw 44 = .ok (.irem, 1) := by decide +kernel
theorem dL_draw_45 : decode cL_draw 45 = .ok (.iastore, 1) := by decide +kernel
theorem dL_draw_46 : decode cL_draw 46 = .ok ((.aload_n 1), 1) := by decide +kernel
theorem dL_draw_47 : decode cL_draw 47 = .ok ((.iconst 2), 1) := by decide +kernel
theorem dL_draw_48 : decode cL_draw 48 = .ok ((.iconst 1), 1) := by decide +kernel
theorem dL_draw_49 : decode cL_draw 49 = .ok ((.iload_n 2), 1) := by decide +kernel
theorem dL_draw_50 : decode cL_draw 50 = .ok ((.iconst 1), 1) := by decide +kernel
theorem dL_draw_51 : decode cL_draw 51 = .ok (.ishr, 1) := by decide +kernel
theorem dL_draw_52 : decode cL_draw 52 = .ok ((.bipush 7), 2) := by decide +kernel
theorem dL_draw_54 : decode cL_draw 54 = .ok (.iand, 1) := by decide +kernel
theorem dL_draw_55 : decode cL_draw 55 = .ok ((.iconst 5), 1) := by decide +kernel
theorem dL_draw_56 : decode cL_draw 56 = .ok (.irem, 1) := by decide +kernel
theorem dL_draw_57 : decode cL_draw 57 = .ok (.iadd, 1) := by decide +kernel
theorem dL_draw_58 : decode cL_draw 58 = .ok (.iastore, 1) := by decide +kernel
theorem dL_draw_59 : decode cL_draw 59 = .ok ((.aload_n 1), 1) := by decide +kernel
theorem dL_draw_60 : decode cL_draw 60 = .ok ((.iconst 3), 1) := by decide +kernel
theorem dL_draw_61 : decode cL_draw 61 = .ok ((.iload_n 2), 1) := by decide +kernel
theorem dL_draw_62 : decode cL_draw 62 = .ok ((.iconst 4), 1) := by decide +kernel
theorem dL_draw_63 : decode cL_draw 63 = .ok (.ishr, 1) := by decide +kernel
theorem dL_draw_64 : decode cL_draw 64 = .ok ((.bipush 7), 2) := by decide +kernel
theorem dL_draw_66 : decode cL_draw 66 = .ok (.iand, 1) := by decide +kernel
theorem dL_draw_67 : decode cL_draw 67 = .ok ((.bipush 6), 2) := by decide +kernel
theorem dL_draw_69 : decode cL_draw 69 = .ok (.irem, 1) := by decide +kernel
theorem dL_draw_70 : decode cL_draw 70 = .ok (.iastore, 1) := by decide +kernel
theorem dL_draw_71 : decode cL_draw 71 = .ok ((.aload_n 1), 1) := by decide +kernel
theorem dL_draw_72 : decode cL_draw 72 = .ok ((.iconst 4), 1) := by decide +kernel
theorem dL_draw_73 : decode cL_draw 73 = .ok ((.iload_n 2), 1) := by decide +kernel
theorem dL_draw_74 : decode cL_draw 74 = .ok ((.iconst 2), 1) := by decide +kernel
theorem dL_draw_75 : decode cL_draw 75 = .ok (.ishr, 1) := by decide +kernel
theorem dL_draw_76 : decode cL_draw 76 = .ok ((.bipush 63), 2) := by decide +kernel
theorem dL_draw_78 : decode cL_draw 78 = .ok (.iand, 1) := by decide +kernel
theorem dL_draw_79 : decode cL_draw 79 = .ok (.iastore, 1) := by decide +kernel
theorem dL_draw_80 : decode cL_draw 80 = .ok ((.aload_n 1), 1) := by decide +kernel
theorem dL_draw_81 : decode cL_draw 81 = .ok ((.iconst 5), 1) := by decide +kernel
theorem dL_draw_82 : decode cL_draw 82 = .ok ((.iload_n 2), 1) := by decide +kernel
theorem dL_draw_83 : decode cL_draw 83 = .ok ((.iconst 5), 1) := by decide +kernel
theorem dL_draw_84 : decode cL_draw 84 = .ok (.ishr, 1) := by decide +kernel
theorem dL_draw_85 : decode cL_draw 85 = .ok ((.bipush 31), 2) := by decide +kernel
theorem dL_draw_87 : decode cL_draw 87 = .ok (.iand, 1) := by decide +kernel
theorem dL_draw_88 : decode cL_draw 88 = .ok ((.bipush 17), 2) := by decide +kernel
theorem dL_draw_90 : decode cL_draw 90 = .ok (.irem, 1) := by decide +kernel
theorem dL_draw_91 : decode cL_draw 91 = .ok (.iastore, 1) := by decide +kernel
theorem dL_draw_92 : decode cL_draw 92 = .ok ((.iconst 0), 1) := by decide +kernel
theorem dL_draw_93 : decode cL_draw 93 = .ok ((.istore_n 3), 1) := by decide +kernel
theorem dL_draw_94 : decode cL_draw 94 = .ok ((.iload_n 3), 1) := by decide +kernel
theorem dL_draw_95 : decode cL_draw 95 = .ok ((.iconst 4), 1) := by decide +kernel
theorem dL_draw_96 : decode cL_draw 96 = .ok ((.if_icmp .ge 61), 3) := by decide +kernel
theorem dL_draw_99 : decode cL_draw 99 = .ok ((.iload_n 3), 1) := by decide +kernel
theorem dL_draw_100 : decode cL_draw 100 = .ok ((.iconst 1), 1) := by decide +kernel
theorem dL_draw_101 : decode cL_draw 101 = .ok (.iadd, 1) := by decide +kernel
theorem dL_draw_102 : decode cL_draw 102 = .ok ((.aload_n 0), 1) := by decide +kernel
theorem dL_draw_103 : decode cL_draw 103 = .ok (.arraylength, 1) := by decide +kernel
theorem dL_draw_104 : decode cL_draw 104 = .ok ((.if_icmp .ge 11), 3) := by decide +kernel
theorem dL_draw_107 : decode cL_draw 107 = .ok ((.aload_n 0), 1) := by decide +kernel
theorem dL_draw_108 : decode cL_draw 108 = .ok ((.iload_n 3), 1) := by decide +kernel
theorem dL_draw_109 : decode cL_draw 109 = .ok ((.iconst 1), 1) := by decide +kernel
theorem dL_draw_110 : decode cL_draw 110 = .ok (.iadd, 1) := by decide +kernel
theorem dL_draw_111 : decode cL_draw 111 = .ok (.iaload, 1) := by decide +kernel
theorem dL_draw_112 : decode cL_draw 112 = .ok ((.goto 10), 3) := by decide +kernel
theorem dL_draw_115 : decode cL_draw 115 = .ok ((.sipush 2087), 3) := by decide +kernel
theorem dL_draw_118 : decode cL_draw 118 = .ok ((.iload_n 3), 1) := by decide +kernel
theorem dL_draw_119 : decode cL_draw 119 = .ok (.imul, 1) := by decide +kernel
theorem dL_draw_120 : decode cL_draw 120 = .ok ((.iload_n 2), 1) := by decide +kernel
theorem dL_draw_121 : decode cL_draw 121 = .ok (.iadd, 1) := by decide +kernel
theorem dL_draw_122 : decode cL_draw 122 = .ok ((.istore 4), 2) := by decide +kernel
theorem dL_draw_124 : decode cL_draw 124 = .ok ((.aload_n 1), 1) := by decide +kernel
theorem dL_draw_125 : decode cL_draw 125 = .ok ((.bipush 6), 2) := by decide +kernel
theorem dL_draw_127 : decode cL_draw 127 = .ok ((.iload_n 3), 1) := by decide +kernel
theorem dL_draw_128 : decode cL_draw 128 = .ok (.iadd, 1) := by decide +kernel
theorem dL_draw_129 : decode cL_draw 129 = .ok ((.iload 4), 2) := by decide +kernel
theorem dL_draw_131 : decode cL_draw 131 = .ok ((.bipush 127), 2) := by decide +kernel
theorem dL_draw_133 : decode cL_draw 133 = .ok (.iand, 1) := by decide +kernel
theorem dL_draw_134 : decode cL_draw 134 = .ok (.iastore, 1) := by decide +kernel
theorem dL_draw_135 : decode cL_draw 135 = .ok ((.aload_n 1), 1) := by decide +kernel
theorem dL_draw_136 : decode cL_draw 136 = .ok ((.bipush 10), 2) := by decide +kernel
theorem dL_draw_138 : decode cL_draw 138 = .ok ((.iload_n 3), 1) := by decide +kernel
theorem dL_draw_139 : decode cL_draw 139 = .ok (.iadd, 1) := by decide +kernel
theorem dL_draw_140 : decode cL_draw 140 = .ok ((.iload 4), 2) := by decide +kernel
theorem dL_draw_142 : decode cL_draw 142 = .ok ((.iconst 3), 1) := by decide +kernel
theorem dL_draw_143 : decode cL_draw 143 = .ok (.ishr, 1) := by decide +kernel
theorem dL_draw_144 : decode cL_draw 144 = .ok ((.bipush 15), 2) := by decide +kernel
theorem dL_draw_146 : decode cL_draw 146 = .ok (.iand, 1) := by decide +kernel
theorem dL_draw_147 : decode cL_draw 147 = .ok ((.bipush 9), 2) := by decide +kernel
theorem dL_draw_149 : decode cL_draw 149 = .ok (.irem, 1) := by decide +kernel
theorem dL_draw_150 : decode cL_draw 150 = .ok (.iastore, 1) := by decide +kernel
theorem dL_draw_151 : decode cL_draw 151 = .ok ((.iinc 3 1), 3) := by decide +kernel
theorem dL_draw_154 : decode cL_draw 154 = .ok ((.goto (-60)), 3) := by decide +kernel
theorem dL_draw_157 : decode cL_draw 157 = .ok ((.iconst 0), 1) := by decide +kernel
theorem dL_draw_158 : decode cL_draw 158 = .ok ((.istore_n 3), 1) := by decide +kernel
theorem dL_draw_159 : decode cL_draw 159 = .ok ((.iload_n 3), 1) := by decide +kernel
theorem dL_draw_160 : decode cL_draw 160 = .ok ((.iconst 5), 1) := by decide +kernel
theorem dL_draw_161 : decode cL_draw 161 = .ok ((.if_icmp .ge 91), 3) := by decide +kernel
theorem dL_draw_164 : decode cL_draw 164 = .ok ((.iload_n 3), 1) := by decide +kernel
theorem dL_draw_165 : decode cL_draw 165 = .ok ((.iconst 2), 1) := by decide +kernel
theorem dL_draw_166 : decode cL_draw 166 = .ok (.iadd, 1) := by decide +kernel
theorem dL_draw_167 : decode cL_draw 167 = .ok ((.aload_n 0), 1) := by decide +kernel
theorem dL_draw_168 : decode cL_draw 168 = .ok (.arraylength, 1) := by decide +kernel
theorem dL_draw_169 : decode cL_draw 169 = .ok ((.if_icmp .ge 13), 3) := by decide +kernel
theorem dL_draw_172 : decode cL_draw 172 = .ok ((.aload_n 0), 1) := by decide +kernel
theorem dL_draw_173 : decode cL_draw 173 = .ok ((.iload_n 3), 1) := by decide +kernel
theorem dL_draw_174 : decode cL_draw 174 = .ok ((.iconst 2), 1) := by decide +kernel
theorem dL_draw_175 : decode cL_draw 175 = .ok (.iadd, 1) := by decide +kernel
theorem dL_draw_176 : decode cL_draw 176 = .ok (.iaload, 1) := by decide +kernel
theorem dL_draw_177 : decode cL_draw 177 = .ok ((.iconst 1), 1) := by decide +kernel
theorem dL_draw_178 : decode cL_draw 178 = .ok (.ishr, 1) := by decide +kernel
theorem dL_draw_179 : decode cL_draw 179 = .ok ((.goto 10), 3) := by decide +kernel
theorem dL_draw_182 : decode cL_draw 182 = .ok ((.sipush 967), 3) := by decide +kernel
theorem dL_draw_185 : decode cL_draw 185 = .ok ((.iload_n 3), 1) := by decide +kernel
theorem dL_draw_186 : decode cL_draw 186 = .ok (.imul, 1) := by decide +kernel
theorem dL_draw_187 : decode cL_draw 187 = .ok ((.iload_n 2), 1) := by decide +kernel
theorem dL_draw_188 : decode cL_draw 188 = .ok (.iadd, 1) := by decide +kernel
theorem dL_draw_189 : decode cL_draw 189 = .ok ((.istore 4), 2) := by decide +kernel
theorem dL_draw_191 : decode cL_draw 191 = .ok ((.aload_n 1), 1) := by decide +kernel
theorem dL_draw_192 : decode cL_draw 192 = .ok ((.bipush 14), 2) := by decide +kernel
theorem dL_draw_194 : decode cL_draw 194 = .ok ((.iload_n 3), 1) := by decide +kernel
theorem dL_draw_195 : decode cL_draw 195 = .ok (.iadd, 1) := by decide +kernel
theorem dL_draw_196 : decode cL_draw 196 = .ok ((.aload_n 1), 1) := by decide +kernel
theorem dL_draw_197 : decode cL_draw 197 = .ok ((.iconst 0), 1) := by decide +kernel
theorem dL_draw_198 : decode cL_draw 198 = .ok (.iaload, 1) := by decide +kernel
theorem dL_draw_199 : decode cL_draw 199 = .ok ((.ifCond .ne 7), 3) := by decide +kernel
theorem dL_draw_202 : decode cL_draw 202 = .ok ((.iconst 0), 1) := by decide +kernel
theorem dL_draw_203 : decode cL_draw 203 = .ok ((.goto 11), 3) := by decide +kernel
theorem dL_draw_206 : decode cL_draw 206 = .ok ((.iload 4), 2) := by decide +kernel
theorem dL_draw_208 : decode cL_draw 208 = .ok ((.iconst 3), 1) := by decide +kernel
theorem dL_draw_209 : decode cL_draw 209 = .ok (.iand, 1) := by decide +kernel
theorem dL_draw_210 : decode cL_draw 210 = .ok ((.aload_n 1), 1) := by decide +kernel
theorem dL_draw_211 : decode cL_draw 211 = .ok ((.iconst 0), 1) := by decide +kernel
theorem dL_draw_212 : decode cL_draw 212 = .ok (.iaload, 1) := by decide +kernel
theorem dL_draw_213 : decode cL_draw 213 = .ok (.irem, 1) := by decide +kernel
theorem dL_draw_214 : decode cL_draw 214 = .ok (.iastore, 1) := by decide +kernel
theorem dL_draw_215 : decode cL_draw 215 = .ok ((.aload_n 1), 1) := by decide +kernel
theorem dL_draw_216 : decode cL_draw 216 = .ok ((.bipush 19), 2) := by decide +kernel
theorem dL_draw_218 : decode cL_draw 218 = .ok ((.iload_n 3), 1) := by decide +kernel
theorem dL_draw_219 : decode cL_draw 219 = .ok (.iadd, 1) := by decide +kernel
theorem dL_draw_220 : decode cL_draw 220 = .ok ((.iconst 1), 1) := by decide +kernel
theorem dL_draw_221 : decode cL_draw 221 = .ok ((.iload 4), 2) := by decide +kernel
theorem dL_draw_223 : decode cL_draw 223 = .ok ((.iconst 2), 1) := by decide +kernel
theorem dL_draw_224 : decode cL_draw 224 = .ok (.ishr, 1) := by decide +kernel
theorem dL_draw_225 : decode cL_draw 225 = .ok ((.bipush 127), 2) := by decide +kernel
theorem dL_draw_227 : decode cL_draw 227 = .ok (.iand, 1) := by decide +kernel
theorem dL_draw_228 : decode cL_draw 228 = .ok (.iadd, 1) := by decide +kernel
theorem dL_draw_229 : decode cL_draw 229 = .ok (.iastore, 1) := by decide +kernel
theorem dL_draw_230 : decode cL_draw 230 = .ok ((.aload_n 1), 1) := by decide +kernel
theorem dL_draw_231 : decode cL_draw 231 = .ok ((.bipush 24), 2) := by decide +kernel
theorem dL_draw_233 : decode cL_draw 233 = .ok ((.iload_n 3), 1) := by decide +kernel
theorem dL_draw_234 : decode cL_draw 234 = .ok (.iadd, 1) := by decide +kernel
theorem dL_draw_235 : decode cL_draw 235 = .ok ((.iload 4), 2) := by decide +kernel
theorem dL_draw_237 : decode cL_draw 237 = .ok ((.iconst 4), 1) := by decide +kernel
theorem dL_draw_238 : decode cL_draw 238 = .ok (.ishr, 1) := by decide +kernel
theorem dL_draw_239 : decode cL_draw 239 = .ok ((.bipush 31), 2) := by decide +kernel
theorem dL_draw_241 : decode cL_draw 241 = .ok (.iand, 1) := by decide +kernel
theorem dL_draw_242 : decode cL_draw 242 = .ok ((.bipush 17), 2) := by decide +kernel
theorem dL_draw_244 : decode cL_draw 244 = .ok (.irem, 1) := by decide +kernel
theorem dL_draw_245 : decode cL_draw 245 = .ok (.iastore, 1) := by decide +kernel
theorem dL_draw_246 : decode cL_draw 246 = .ok ((.iinc 3 1), 3) := by decide +kernel
theorem dL_draw_249 : decode cL_draw 249 = .ok ((.goto (-90)), 3) := by decide +kernel
theorem dL_draw_252 : decode cL_draw 252 = .ok (.return_, 1) := by decide +kernel
def p_L_draw_214 (L : Nat) (xs : Nat → Int32)   (K159 : vSt → Int32 → Int32 → Prop) (post : vSt → Prop) (S : vSt) (x2 : Int32) (x3 : Int32) (x4 : Int32) (s0 : Int32) (s1 : Int32) : Prop := (vp_in s1 29 ∧ ∀ S27, S27 = v_si S 144 (Int32.toNatClampNeg s1) s0 → (vp_in (19 + x3) 29 ∧ ∀ S28, S28 = v_si S27 144 (Int32.toNatClampNeg (19 + x3)) (1 + ((x4 >>> ((2 : Int32) &&& 31)) &&& 127)) → (vp_in (24 + x3) 29 ∧ ∀ S29, S29 = v_si S28 144 (Int32.toNatClampNeg (24 + x3)) (((x4 >>> ((4 : Int32) &&& 31)) &&& 31) - ((x4 >>> ((4 : Int32) &&& 31)) &&& 31) / 17 * 17) → ∀ y30 : Int32, y30 = x3 + 1 → K159 S29 x2 y30)))
def p_L_draw_189 (L : Nat) (xs : Nat → Int32)   (K159 : vSt → Int32 → Int32 → Prop) (post : vSt → Prop) (S : vSt) (x2 : Int32) (x3 : Int32) (s0 : Int32) : Prop := (vp_in 0 29 ∧ ((¬ (S.1 144 (Int32.toNatClampNeg 0)) = 0 → (vp_in 0 29 ∧ (¬ (S.1 144 (Int32.toNatClampNeg 0)) = 0 ∧ p_L_draw_214 L xs K159 post S x2 x3 s0 ((s0 &&& 3) - (s0 &&& 3) / (S.1 144 (Int32.toNatClampNeg 0)) * (S.1 144 (Int32.toNatClampNeg 0))) (14 + x3)))) ∧ ((S.1 144 (Int32.toNatClampNeg 0)) = 0 → p_L_draw_214 L xs K159 post S x2 x3 s0 0 (14 + x3))))
def p_L_draw_159 (L : Nat) (xs : Nat → Int32)    (post : vSt → Prop) : Nat → vSt → Int32 → Int32 → Prop
  | 0 => fun _ _ _ => False
  | fu159 + 1 => fun S x2 x3 => ((5 ≤ x3 → post S) ∧ (¬ 5 ≤ x3 → (((Int32.ofNat L) ≤ (x3 + 2) → p_L_draw_189 L xs (p_L_draw_159 L xs post fu159) post S x2 x3 ((967 * x3) + x2)) ∧ (¬ (Int32.ofNat L) ≤ (x3 + 2) → (vp_in (x3 + 2) L ∧ p_L_draw_189 L xs (p_L_draw_159 L xs post fu159) post S x2 x3 ((xs (Int32.toNatClampNeg (x3 + 2))) >>> ((1 : Int32) &&& 31)))))))
theorem e_L_draw_159 (L : Nat) (xs : Nat → Int32)    (post : vSt → Prop) (fu159 : Nat) (S : vSt) (x2 : Int32) (x3 : Int32) : p_L_draw_159 L xs post (fu159 + 1) S x2 x3 = (((5 ≤ x3 → post S) ∧ (¬ 5 ≤ x3 → (((Int32.ofNat L) ≤ (x3 + 2) → p_L_draw_189 L xs (p_L_draw_159 L xs post fu159) post S x2 x3 ((967 * x3) + x2)) ∧ (¬ (Int32.ofNat L) ≤ (x3 + 2) → (vp_in (x3 + 2) L ∧ p_L_draw_189 L xs (p_L_draw_159 L xs post fu159) post S x2 x3 ((xs (Int32.toNatClampNeg (x3 + 2))) >>> ((1 : Int32) &&& 31)))))))) := rfl
def p_L_draw_122 (L : Nat) (xs : Nat → Int32)   (K94 : vSt → Int32 → Int32 → Prop) (post : vSt → Prop) (S : vSt) (x2 : Int32) (x3 : Int32) (s0 : Int32) : Prop := (vp_in (6 + x3) 29 ∧ ∀ S27, S27 = v_si S 144 (Int32.toNatClampNeg (6 + x3)) (s0 &&& 127) → (vp_in (10 + x3) 29 ∧ ∀ S28, S28 = v_si S27 144 (Int32.toNatClampNeg (10 + x3)) (((s0 >>> ((3 : Int32) &&& 31)) &&& 15) - ((s0 >>> ((3 : Int32) &&& 31)) &&& 15) / 9 * 9) → ∀ y29 : Int32, y29 = x3 + 1 → K94 S28 x2 y29))
def p_L_draw_94 (L : Nat) (xs : Nat → Int32)    (post : vSt → Prop) : Nat → vSt → Int32 → Int32 → Prop
  | 0 => fun _ _ _ => False
  | fu94 + 1 => fun S x2 x3 => ((4 ≤ x3 → ∃ fu159, p_L_draw_159 L xs post fu159 S x2 0) ∧ (¬ 4 ≤ x3 → (((Int32.ofNat L) ≤ (x3 + 1) → p_L_draw_122 L xs (p_L_draw_94 L xs post fu94) post S x2 x3 ((2087 * x3) + x2)) ∧ (¬ (Int32.ofNat L) ≤ (x3 + 1) → (vp_in (x3 + 1) L ∧ p_L_draw_122 L xs (p_L_draw_94 L xs post fu94) post S x2 x3 (xs (Int32.toNatClampNeg (x3 + 1))))))))
theorem e_L_draw_94 (L : Nat) (xs : Nat → Int32)    (post : vSt → Prop) (fu94 : Nat) (S : vSt) (x2 : Int32) (x3 : Int32) : p_L_draw_94 L xs post (fu94 + 1) S x2 x3 = (((4 ≤ x3 → ∃ fu159, p_L_draw_159 L xs post fu159 S x2 0) ∧ (¬ 4 ≤ x3 → (((Int32.ofNat L) ≤ (x3 + 1) → p_L_draw_122 L xs (p_L_draw_94 L xs post fu94) post S x2 x3 ((2087 * x3) + x2)) ∧ (¬ (Int32.ofNat L) ≤ (x3 + 1) → (vp_in (x3 + 1) L ∧ p_L_draw_122 L xs (p_L_draw_94 L xs post fu94) post S x2 x3 (xs (Int32.toNatClampNeg (x3 + 1))))))))) := rfl
def p_L_draw_45 (L : Nat) (xs : Nat → Int32)    (post : vSt → Prop) (S : vSt) (x2 : Int32) (s0 : Int32) : Prop := (vp_in 1 29 ∧ ∀ S22, S22 = v_si S 144 (Int32.toNatClampNeg 1) s0 → (vp_in 2 29 ∧ ∀ S23, S23 = v_si S22 144 (Int32.toNatClampNeg 2) (1 + (((x2 >>> ((1 : Int32) &&& 31)) &&& 7) - ((x2 >>> ((1 : Int32) &&& 31)) &&& 7) / 5 * 5)) → (vp_in 3 29 ∧ ∀ S24, S24 = v_si S23 144 (Int32.toNatClampNeg 3) (((x2 >>> ((4 : Int32) &&& 31)) &&& 7) - ((x2 >>> ((4 : Int32) &&& 31)) &&& 7) / 6 * 6) → (vp_in 4 29 ∧ ∀ S25, S25 = v_si S24 144 (Int32.toNatClampNeg 4) ((x2 >>> ((2 : Int32) &&& 31)) &&& 63) → (vp_in 5 29 ∧ ∀ S26, S26 = v_si S25 144 (Int32.toNatClampNeg 5) (((x2 >>> ((5 : Int32) &&& 31)) &&& 31) - ((x2 >>> ((5 : Int32) &&& 31)) &&& 31) / 17 * 17) → ∃ fu94, p_L_draw_94 L xs post fu94 S26 x2 0)))))
def p_L_draw_14 (L : Nat) (xs : Nat → Int32)    (post : vSt → Prop) (S : vSt) (s0 : Int32) : Prop := (vp_in 0 29 ∧ ∀ S21, S21 = v_si S 144 (Int32.toNatClampNeg 0) ((s0 &&& 7) - (s0 &&& 7) / 5 * 5) → (vp_in 0 29 ∧ ((¬ (S21.1 144 (Int32.toNatClampNeg 0)) = 0 → p_L_draw_45 L xs post S21 s0 (((s0 >>> ((3 : Int32) &&& 31)) &&& 7) - ((s0 >>> ((3 : Int32) &&& 31)) &&& 7) / 6 * 6)) ∧ ((S21.1 144 (Int32.toNatClampNeg 0)) = 0 → p_L_draw_45 L xs post S21 s0 0))))
def p_L_draw (L : Nat) (xs : Nat → Int32)  (S : vSt)  (post : vSt → Prop) : Prop := ((¬ (Int32.ofNat L) = 0 → (vp_in 0 L ∧ p_L_draw_14 L xs post S (xs (Int32.toNatClampNeg 0)))) ∧ ((Int32.ofNat L) = 0 → p_L_draw_14 L xs post S 7919))
set_option maxHeartbeats 4000000 in
set_option maxRecDepth 100000 in
theorem q_L_draw_214 {X : vX} {G : vG}  {post : vSt → Prop} (C : v_Cx X G cL_draw RL 5 (v_rm 0 40)) (D : v_Rx X G (v_Qv G post) none) {L : Nat} {xs : Nat → Int32} (hX : v_XX G L xs)   {K159 : vSt → Int32 → Int32 → Prop} (hK159 : ∀ S x2 x3, K159 S x2 x3 → VJ X G S 159 [(0, .ref (G.1 (145 + 99))), (1, .ref (G.1 144)), (2, .int x2), (3, .int x3)] []) : ∀ (S : vSt) (x2 : Int32) (x3 : Int32) (x4 : Int32) (s0 : Int32) (s1 : Int32), p_L_draw_214 L xs K159 post S x2 x3 x4 s0 s1 → VJ X G S 214 [(0, .ref (G.1 (145 + 99))), (1, .ref (G.1 144)), (2, .int x2), (3, .int x3), (4, .int x4)] [.int s0, .int s1, .ref (G.1 144)] := by
  intro S x2 x3 x4 s0 s1 h
  obtain ⟨hi, h⟩ := h
  refine V_iast C 144 29 (by decide) (by decide) hi dL_draw_214 ?_
  refine V_topS (fun S27 eS27 => ?_)
  have h := h S27 eS27
  refine V_aload_n C 1 dL_draw_215 rfl rfl ?_
  refine V_bipush (v := 19) C dL_draw_216 (by decide) ?_
  refine V_iload_n C 3 dL_draw_218 rfl rfl ?_
  refine V_iadd C dL_draw_219 ?_
  refine V_iconst (v := 1) C dL_draw_220 (by decide) ?_
  refine V_iload C 4 dL_draw_221 rfl ?_
  refine V_iconst (v := 2) C dL_draw_223 (by decide) ?_
  refine V_ishr C dL_draw_224 ?_
  refine V_bipush (v := 127) C dL_draw_225 (by decide) ?_
  refine V_iand C dL_draw_227 ?_
  refine V_iadd C dL_draw_228 ?_
  obtain ⟨hi, h⟩ := h
  refine V_iast C 144 29 (by decide) (by decide) hi dL_draw_229 ?_
  refine V_topS (fun S28 eS28 => ?_)
  have h := h S28 eS28
  refine V_aload_n C 1 dL_draw_230 rfl rfl ?_
  refine V_bipush (v := 24) C dL_draw_231 (by decide) ?_
  refine V_iload_n C 3 dL_draw_233 rfl rfl ?_
  refine V_iadd C dL_draw_234 ?_
  refine V_iload C 4 dL_draw_235 rfl ?_
  refine V_iconst (v := 4) C dL_draw_237 (by decide) ?_
  refine V_ishr C dL_draw_238 ?_
  refine V_bipush (v := 31) C dL_draw_239 (by decide) ?_
  refine V_iand C dL_draw_241 ?_
  refine V_bipush (v := 17) C dL_draw_242 (by decide) ?_
  refine V_irem C dL_draw_244 (by decide) ?_
  obtain ⟨hi, h⟩ := h
  refine V_iast C 144 29 (by decide) (by decide) hi dL_draw_245 ?_
  refine V_topS (fun S29 eS29 => ?_)
  have h := h S29 eS29
  obtain ⟨y30, ey30⟩ : ∃ z : Int32, z = x3 + 1 := ⟨_, rfl⟩
  have h := h y30 ey30
  refine V_iinc (lv' := [(0, .ref (G.1 (145 + 99))), (1, .ref (G.1 144)), (2, .int x2), (3, .int y30), (4, .int x4)]) C 3 [1, 2, 3, 0, 4] y30 dL_draw_246 rfl (by rw [ey30]; rfl) (by decide) rfl ?_
  refine V_goto (tgt := 159) C dL_draw_249 (by decide) ?_
  refine V_loc (lv' := [(0, .ref (G.1 (145 + 99))), (1, .ref (G.1 144)), (2, .int x2), (3, .int y30)]) [0, 1, 2, 3] rfl ?_
  exact hK159 _ _ _ h
set_option maxHeartbeats 4000000 in
set_option maxRecDepth 100000 in
theorem q_L_draw_189 {X : vX} {G : vG}  {post : vSt → Prop} (C : v_Cx X G cL_draw RL 5 (v_rm 0 40)) (D : v_Rx X G (v_Qv G post) none) {L : Nat} {xs : Nat → Int32} (hX : v_XX G L xs)   {K159 : vSt → Int32 → Int32 → Prop} (hK159 : ∀ S x2 x3, K159 S x2 x3 → VJ X G S 159 [(0, .ref (G.1 (145 + 99))), (1, .ref (G.1 144)), (2, .int x2), (3, .int x3)] []) : ∀ (S : vSt) (x2 : Int32) (x3 : Int32) (s0 : Int32), p_L_draw_189 L xs K159 post S x2 x3 s0 → VJ X G S 189 [(0, .ref (G.1 (145 + 99))), (1, .ref (G.1 144)), (2, .int x2), (3, .int x3)] [.int s0] := by
  intro S x2 x3 s0 h
  refine V_istore (lv' := [(0, .ref (G.1 (145 + 99))), (1, .ref (G.1 144)), (2, .int x2), (3, .int x3), (4, .int s0)]) C [1, 2, 3, 4, 0] dL_draw_189 (by decide) rfl ?_
  refine V_aload_n C 1 dL_draw_191 rfl rfl ?_
  refine V_bipush (v := 14) C dL_draw_192 (by decide) ?_
  refine V_iload_n C 3 dL_draw_194 rfl rfl ?_
  refine V_iadd C dL_draw_195 ?_
  refine V_aload_n C 1 dL_draw_196 rfl rfl ?_
  refine V_iconst (v := 0) C dL_draw_197 (by decide) ?_
  obtain ⟨hi, h⟩ := h
  refine V_iald C 144 29 (by decide) (by decide) hi dL_draw_198 ?_
  refine V_if_ne (tgt := 206) C dL_draw_199 (by decide) (fun c => ?_) (fun c => ?_)
  · have h := h.1 c
    refine V_iload C 4 dL_draw_206 rfl ?_
    refine V_iconst (v := 3) C dL_draw_208 (by decide) ?_
    refine V_iand C dL_draw_209 ?_
    refine V_aload_n C 1 dL_draw_210 rfl rfl ?_
    refine V_iconst (v := 0) C dL_draw_211 (by decide) ?_
    obtain ⟨hi, h⟩ := h
    refine V_iald C 144 29 (by decide) (by decide) hi dL_draw_212 ?_
    obtain ⟨hz, h⟩ := h
    refine V_irem C dL_draw_213 hz ?_
    exact q_L_draw_214 C D hX hK159 _ _ _ _ _ _ h
  · have h := h.2 c
    refine V_iconst (v := 0) C dL_draw_202 (by decide) ?_
    refine V_goto (tgt := 214) C dL_draw_203 (by decide) ?_
    exact q_L_draw_214 C D hX hK159 _ _ _ _ _ _ h
set_option maxHeartbeats 4000000 in
set_option maxRecDepth 100000 in
theorem q_L_draw_159 {X : vX} {G : vG}  {post : vSt → Prop} (C : v_Cx X G cL_draw RL 5 (v_rm 0 40)) (D : v_Rx X G (v_Qv G post) none) {L : Nat} {xs : Nat → Int32} (hX : v_XX G L xs)    : ∀ (fu : Nat) (S : vSt) (x2 : Int32) (x3 : Int32), p_L_draw_159 L xs post fu S x2 x3 → VJ X G S 159 [(0, .ref (G.1 (145 + 99))), (1, .ref (G.1 144)), (2, .int x2), (3, .int x3)] [] := by
  intro fu
  induction fu with
  | zero => intro S x2 x3 h; exact absurd h id
  | succ fu ih =>
    intro S x2 x3 h
    have hK159 := ih
    rw [e_L_draw_159] at h
    refine V_iload_n C 3 dL_draw_159 rfl rfl ?_
    refine V_iconst (v := 5) C dL_draw_160 (by decide) ?_
    refine V_icmp_ge (tgt := 252) C dL_draw_161 (by decide) (fun c => ?_) (fun c => ?_)
    · have h := h.1 c
      exact V_vret C D dL_draw_252 h
    · have h := h.2 c
      refine V_iload_n C 3 dL_draw_164 rfl rfl ?_
      refine V_iconst (v := 2) C dL_draw_165 (by decide) ?_
      refine V_iadd C dL_draw_166 ?_
      refine V_aload_n C 0 dL_draw_167 rfl rfl ?_
      refine V_slen C hX dL_draw_168 ?_
      refine V_icmp_ge (tgt := 182) C dL_draw_169 (by decide) (fun c => ?_) (fun c => ?_)
      · have h := h.1 c
        refine V_sipush (v := 967) C dL_draw_182 (by decide) ?_
        refine V_iload_n C 3 dL_draw_185 rfl rfl ?_
        refine V_imul C dL_draw_186 ?_
        refine V_iload_n C 2 dL_draw_187 rfl rfl ?_
        refine V_iadd C dL_draw_188 ?_
        exact q_L_draw_189 C D hX hK159 _ _ _ _ h
      · have h := h.2 c
        refine V_aload_n C 0 dL_draw_172 rfl rfl ?_
        refine V_iload_n C 3 dL_draw_173 rfl rfl ?_
        refine V_iconst (v := 2) C dL_draw_174 (by decide) ?_
        refine V_iadd C dL_draw_175 ?_
        obtain ⟨hi, h⟩ := h
        refine V_sld C hX hi dL_draw_176 ?_
        refine V_iconst (v := 1) C dL_draw_177 (by decide) ?_
        refine V_ishr C dL_draw_178 ?_
        refine V_goto (tgt := 189) C dL_draw_179 (by decide) ?_
        exact q_L_draw_189 C D hX hK159 _ _ _ _ h
set_option maxHeartbeats 4000000 in
set_option maxRecDepth 100000 in
theorem q_L_draw_122 {X : vX} {G : vG}  {post : vSt → Prop} (C : v_Cx X G cL_draw RL 5 (v_rm 0 40)) (D : v_Rx X G (v_Qv G post) none) {L : Nat} {xs : Nat → Int32} (hX : v_XX G L xs)   {K94 : vSt → Int32 → Int32 → Prop} (hK94 : ∀ S x2 x3, K94 S x2 x3 → VJ X G S 94 [(0, .ref (G.1 (145 + 99))), (1, .ref (G.1 144)), (2, .int x2), (3, .int x3)] []) : ∀ (S : vSt) (x2 : Int32) (x3 : Int32) (s0 : Int32), p_L_draw_122 L xs K94 post S x2 x3 s0 → VJ X G S 122 [(0, .ref (G.1 (145 + 99))), (1, .ref (G.1 144)), (2, .int x2), (3, .int x3)] [.int s0] := by
  intro S x2 x3 s0 h
  refine V_istore (lv' := [(0, .ref (G.1 (145 + 99))), (1, .ref (G.1 144)), (2, .int x2), (3, .int x3), (4, .int s0)]) C [1, 2, 3, 4, 0] dL_draw_122 (by decide) rfl ?_
  refine V_aload_n C 1 dL_draw_124 rfl rfl ?_
  refine V_bipush (v := 6) C dL_draw_125 (by decide) ?_
  refine V_iload_n C 3 dL_draw_127 rfl rfl ?_
  refine V_iadd C dL_draw_128 ?_
  refine V_iload C 4 dL_draw_129 rfl ?_
  refine V_bipush (v := 127) C dL_draw_131 (by decide) ?_
  refine V_iand C dL_draw_133 ?_
  obtain ⟨hi, h⟩ := h
  refine V_iast C 144 29 (by decide) (by decide) hi dL_draw_134 ?_
  refine V_topS (fun S27 eS27 => ?_)
  have h := h S27 eS27
  refine V_aload_n C 1 dL_draw_135 rfl rfl ?_
  refine V_bipush (v := 10) C dL_draw_136 (by decide) ?_
  refine V_iload_n C 3 dL_draw_138 rfl rfl ?_
  refine V_iadd C dL_draw_139 ?_
  refine V_iload C 4 dL_draw_140 rfl ?_
  refine V_iconst (v := 3) C dL_draw_142 (by decide) ?_
  refine V_ishr C dL_draw_143 ?_
  refine V_bipush (v := 15) C dL_draw_144 (by decide) ?_
  refine V_iand C dL_draw_146 ?_
  refine V_bipush (v := 9) C dL_draw_147 (by decide) ?_
  refine V_irem C dL_draw_149 (by decide) ?_
  obtain ⟨hi, h⟩ := h
  refine V_iast C 144 29 (by decide) (by decide) hi dL_draw_150 ?_
  refine V_topS (fun S28 eS28 => ?_)
  have h := h S28 eS28
  obtain ⟨y29, ey29⟩ : ∃ z : Int32, z = x3 + 1 := ⟨_, rfl⟩
  have h := h y29 ey29
  refine V_iinc (lv' := [(0, .ref (G.1 (145 + 99))), (1, .ref (G.1 144)), (2, .int x2), (3, .int y29), (4, .int s0)]) C 3 [1, 2, 3, 0, 4] y29 dL_draw_151 rfl (by rw [ey29]; rfl) (by decide) rfl ?_
  refine V_goto (tgt := 94) C dL_draw_154 (by decide) ?_
  refine V_loc (lv' := [(0, .ref (G.1 (145 + 99))), (1, .ref (G.1 144)), (2, .int x2), (3, .int y29)]) [0, 1, 2, 3] rfl ?_
  exact hK94 _ _ _ h
set_option maxHeartbeats 4000000 in
set_option maxRecDepth 100000 in
theorem q_L_draw_94 {X : vX} {G : vG}  {post : vSt → Prop} (C : v_Cx X G cL_draw RL 5 (v_rm 0 40)) (D : v_Rx X G (v_Qv G post) none) {L : Nat} {xs : Nat → Int32} (hX : v_XX G L xs)    : ∀ (fu : Nat) (S : vSt) (x2 : Int32) (x3 : Int32), p_L_draw_94 L xs post fu S x2 x3 → VJ X G S 94 [(0, .ref (G.1 (145 + 99))), (1, .ref (G.1 144)), (2, .int x2), (3, .int x3)] [] := by
  intro fu
  induction fu with
  | zero => intro S x2 x3 h; exact absurd h id
  | succ fu ih =>
    intro S x2 x3 h
    have hK94 := ih
    rw [e_L_draw_94] at h
    refine V_iload_n C 3 dL_draw_94 rfl rfl ?_
    refine V_iconst (v := 4) C dL_draw_95 (by decide) ?_
    refine V_icmp_ge (tgt := 157) C dL_draw_96 (by decide) (fun c => ?_) (fun c => ?_)
    · have h := h.1 c
      refine V_iconst (v := 0) C dL_draw_157 (by decide) ?_
      refine V_istore_n (lv' := [(0, .ref (G.1 (145 + 99))), (1, .ref (G.1 144)), (2, .int x2), (3, .int 0)]) C [1, 2, 3, 0] dL_draw_158 rfl (by decide) rfl ?_
      obtain ⟨fu159, h⟩ := h
      exact q_L_draw_159 C D hX fu159 _ _ _ h
    · have h := h.2 c
      refine V_iload_n C 3 dL_draw_99 rfl rfl ?_
      refine V_iconst (v := 1) C dL_draw_100 (by decide) ?_
      refine V_iadd C dL_draw_101 ?_
      refine V_aload_n C 0 dL_draw_102 rfl rfl ?_
      refine V_slen C hX dL_draw_103 ?_
      refine V_icmp_ge (tgt := 115) C dL_draw_104 (by decide) (fun c => ?_) (fun c => ?_)
      · have h := h.1 c
        refine V_sipush (v := 2087) C dL_draw_115 (by decide) ?_
        refine V_iload_n C 3 dL_draw_118 rfl rfl ?_
        refine V_imul C dL_draw_119 ?_
        refine V_iload_n C 2 dL_draw_120 rfl rfl ?_
        refine V_iadd C dL_draw_121 ?_
        exact q_L_draw_122 C D hX hK94 _ _ _ _ h
      · have h := h.2 c
        refine V_aload_n C 0 dL_draw_107 rfl rfl ?_
        refine V_iload_n C 3 dL_draw_108 rfl rfl ?_
        refine V_iconst (v := 1) C dL_draw_109 (by decide) ?_
        refine V_iadd C dL_draw_110 ?_
        obtain ⟨hi, h⟩ := h
        refine V_sld C hX hi dL_draw_111 ?_
        refine V_goto (tgt := 122) C dL_draw_112 (by decide) ?_
        exact q_L_draw_122 C D hX hK94 _ _ _ _ h
set_option maxHeartbeats 4000000 in
set_option maxRecDepth 100000 in
theorem q_L_draw_45 {X : vX} {G : vG}  {post : vSt → Prop} (C : v_Cx X G cL_draw RL 5 (v_rm 0 40)) (D : v_Rx X G (v_Qv G post) none) {L : Nat} {xs : Nat → Int32} (hX : v_XX G L xs)    : ∀ (S : vSt) (x2 : Int32) (s0 : Int32), p_L_draw_45 L xs post S x2 s0 → VJ X G S 45 [(0, .ref (G.1 (145 + 99))), (1, .ref (G.1 144)), (2, .int x2)] [.int s0, .int 1, .ref (G.1 144)] := by
  intro S x2 s0 h
  obtain ⟨hi, h⟩ := h
  refine V_iast C 144 29 (by decide) (by decide) hi dL_draw_45 ?_
  refine V_topS (fun S22 eS22 => ?_)
  have h := h S22 eS22
  refine V_aload_n C 1 dL_draw_46 rfl rfl ?_
  refine V_iconst (v := 2) C dL_draw_47 (by decide) ?_
  refine V_iconst (v := 1) C dL_draw_48 (by decide) ?_
  refine V_iload_n C 2 dL_draw_49 rfl rfl ?_
  refine V_iconst (v := 1) C dL_draw_50 (by decide) ?_
  refine V_ishr C dL_draw_51 ?_
  refine V_bipush (v := 7) C dL_draw_52 (by decide) ?_
  refine V_iand C dL_draw_54 ?_
  refine V_iconst (v := 5) C dL_draw_55 (by decide) ?_
  refine V_irem C dL_draw_56 (by decide) ?_
  refine V_iadd C dL_draw_57 ?_
  obtain ⟨hi, h⟩ := h
  refine V_iast C 144 29 (by decide) (by decide) hi dL_draw_58 ?_
  refine V_topS (fun S23 eS23 => ?_)
  have h := h S23 eS23
  refine V_aload_n C 1 dL_draw_59 rfl rfl ?_
  refine V_iconst (v := 3) C dL_draw_60 (by decide) ?_
  refine V_iload_n C 2 dL_draw_61 rfl rfl ?_
  refine V_iconst (v := 4) C dL_draw_62 (by decide) ?_
  refine V_ishr C dL_draw_63 ?_
  refine V_bipush (v := 7) C dL_draw_64 (by decide) ?_
  refine V_iand C dL_draw_66 ?_
  refine V_bipush (v := 6) C dL_draw_67 (by decide) ?_
  refine V_irem C dL_draw_69 (by decide) ?_
  obtain ⟨hi, h⟩ := h
  refine V_iast C 144 29 (by decide) (by decide) hi dL_draw_70 ?_
  refine V_topS (fun S24 eS24 => ?_)
  have h := h S24 eS24
  refine V_aload_n C 1 dL_draw_71 rfl rfl ?_
  refine V_iconst (v := 4) C dL_draw_72 (by decide) ?_
  refine V_iload_n C 2 dL_draw_73 rfl rfl ?_
  refine V_iconst (v := 2) C dL_draw_74 (by decide) ?_
  refine V_ishr C dL_draw_75 ?_
  refine V_bipush (v := 63) C dL_draw_76 (by decide) ?_
  refine V_iand C dL_draw_78 ?_
  obtain ⟨hi, h⟩ := h
  refine V_iast C 144 29 (by decide) (by decide) hi dL_draw_79 ?_
  refine V_topS (fun S25 eS25 => ?_)
  have h := h S25 eS25
  refine V_aload_n C 1 dL_draw_80 rfl rfl ?_
  refine V_iconst (v := 5) C dL_draw_81 (by decide) ?_
  refine V_iload_n C 2 dL_draw_82 rfl rfl ?_
  refine V_iconst (v := 5) C dL_draw_83 (by decide) ?_
  refine V_ishr C dL_draw_84 ?_
  refine V_bipush (v := 31) C dL_draw_85 (by decide) ?_
  refine V_iand C dL_draw_87 ?_
  refine V_bipush (v := 17) C dL_draw_88 (by decide) ?_
  refine V_irem C dL_draw_90 (by decide) ?_
  obtain ⟨hi, h⟩ := h
  refine V_iast C 144 29 (by decide) (by decide) hi dL_draw_91 ?_
  refine V_topS (fun S26 eS26 => ?_)
  have h := h S26 eS26
  refine V_iconst (v := 0) C dL_draw_92 (by decide) ?_
  refine V_istore_n (lv' := [(0, .ref (G.1 (145 + 99))), (1, .ref (G.1 144)), (2, .int x2), (3, .int 0)]) C [1, 2, 3, 0] dL_draw_93 rfl (by decide) rfl ?_
  obtain ⟨fu94, h⟩ := h
  exact q_L_draw_94 C D hX fu94 _ _ _ h
set_option maxHeartbeats 4000000 in
set_option maxRecDepth 100000 in
theorem q_L_draw_14 {X : vX} {G : vG}  {post : vSt → Prop} (C : v_Cx X G cL_draw RL 5 (v_rm 0 40)) (D : v_Rx X G (v_Qv G post) none) {L : Nat} {xs : Nat → Int32} (hX : v_XX G L xs)    : ∀ (S : vSt) (s0 : Int32), p_L_draw_14 L xs post S s0 → VJ X G S 14 [(0, .ref (G.1 (145 + 99))), (1, .ref (G.1 144))] [.int s0] := by
  intro S s0 h
  refine V_istore_n (lv' := [(0, .ref (G.1 (145 + 99))), (1, .ref (G.1 144)), (2, .int s0)]) C [1, 2, 0] dL_draw_14 rfl (by decide) rfl ?_
  refine V_aload_n C 1 dL_draw_15 rfl rfl ?_
  refine V_iconst (v := 0) C dL_draw_16 (by decide) ?_
  refine V_iload_n C 2 dL_draw_17 rfl rfl ?_
  refine V_bipush (v := 7) C dL_draw_18 (by decide) ?_
  refine V_iand C dL_draw_20 ?_
  refine V_iconst (v := 5) C dL_draw_21 (by decide) ?_
  refine V_irem C dL_draw_22 (by decide) ?_
  obtain ⟨hi, h⟩ := h
  refine V_iast C 144 29 (by decide) (by decide) hi dL_draw_23 ?_
  refine V_topS (fun S21 eS21 => ?_)
  have h := h S21 eS21
  refine V_aload_n C 1 dL_draw_24 rfl rfl ?_
  refine V_iconst (v := 1) C dL_draw_25 (by decide) ?_
  refine V_aload_n C 1 dL_draw_26 rfl rfl ?_
  refine V_iconst (v := 0) C dL_draw_27 (by decide) ?_
  obtain ⟨hi, h⟩ := h
  refine V_iald C 144 29 (by decide) (by decide) hi dL_draw_28 ?_
  refine V_if_ne (tgt := 36) C dL_draw_29 (by decide) (fun c => ?_) (fun c => ?_)
  · have h := h.1 c
    refine V_iload_n C 2 dL_draw_36 rfl rfl ?_
    refine V_iconst (v := 3) C dL_draw_37 (by decide) ?_
    refine V_ishr C dL_draw_38 ?_
    refine V_bipush (v := 7) C dL_draw_39 (by decide) ?_
    refine V_iand C dL_draw_41 ?_
    refine V_bipush (v := 6) C dL_draw_42 (by decide) ?_
    refine V_irem C dL_draw_44 (by decide) ?_
    exact q_L_draw_45 C D hX _ _ _ h
  · have h := h.2 c
    refine V_iconst (v := 0) C dL_draw_32 (by decide) ?_
    refine V_goto (tgt := 45) C dL_draw_33 (by decide) ?_
    exact q_L_draw_45 C D hX _ _ _ h
set_option maxHeartbeats 4000000 in
set_option maxRecDepth 100000 in
theorem c_L_draw (l : Launch) (G : vG)  {L : Nat} {xs : Nat → Int32} (hX : v_XX G L xs)  {S : vSt}  (post : vSt → Prop) (h : p_L_draw L xs  S  post) : Met l yL_draw (v_ws yL_draw cL_draw 5 none) (v_rm 0 40) (v_Pc G [.ref (G.1 (145 + 99)), .ref (G.1 144)] S) (v_Qv G post) 0 0 (v_A G) := by
  refine v_start (by decide +kernel) (Nat.le_of_ble_eq_true rfl) (fun X hl C D => ?_)
  subst hl
  have C : v_Cx X G cL_draw RL 5 (v_rm 0 40) := C
  show VJ X G S 0 [(0, .ref (G.1 (145 + 99))), (1, .ref (G.1 144))] []
  refine V_aload_n C 0 dL_draw_0 rfl rfl ?_
  refine V_slen C hX dL_draw_1 ?_
  refine V_if_ne (tgt := 11) C dL_draw_2 (by decide) (fun c => ?_) (fun c => ?_)
  · have h := h.1 c
    refine V_aload_n C 0 dL_draw_11 rfl rfl ?_
    refine V_iconst (v := 0) C dL_draw_12 (by decide) ?_
    obtain ⟨hi, h⟩ := h
    refine V_sld C hX hi dL_draw_13 ?_
    exact q_L_draw_14 C D hX _ _ h
  · have h := h.2 c
    refine V_sipush (v := 7919) C dL_draw_5 (by decide) ?_
    refine V_goto (tgt := 14) C dL_draw_8 (by decide) ?_
    exact q_L_draw_14 C D hX _ _ h
