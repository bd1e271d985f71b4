/-! HalfAccuser.sure(II)I -/
theorem dX10_sure_0 : decode cX10_sure 0 = .ok ((.aload_n 0), 1) := by decide +kernel
theorem dX10_sure_1 : decode cX10_sure 1 = .ok ((.iload_n 1), 1) := by decide +kernel
theorem dX10_sure_2 : decode cX10_sure 2 = .ok ((.iload_n 2), 1) := by decide +kernel
theorem dX10_sure_3 : decode cX10_sure 3 = .ok ((.invokevirtual 394), 3) := by decide +kernel
theorem dX10_sure_6 : decode cX10_sure 6 = .ok ((.istore_n 3), 1) := by decide +kernel
theorem dX10_sure_7 : decode cX10_sure 7 = .ok ((.iload_n 3), 1) := by decide +kernel
theorem dX10_sure_8 : decode cX10_sure 8 = .ok ((.ifCond .eq 9), 3) := by decide +kernel
theorem dX10_sure_11 : decode cX10_sure 11 = .ok ((.aload_n 0), 1) := by decide +kernel
theorem dX10_sure_12 : decode cX10_sure 12 = .ok ((.iload_n 3), 1) := by decide +kernel
theorem dX10_sure_13 : decode cX10_sure 13 = .ok ((.invokevirtual 153), 3) := by decide +kernel
theorem dX10_sure_16 : decode cX10_sure 16 = .ok (.ireturn, 1) := by decide +kernel
theorem dX10_sure_17 : decode cX10_sure 17 = .ok ((.aload_n 0), 1) := by decide +kernel
theorem dX10_sure_18 : decode cX10_sure 18 = .ok ((.getfield 80), 3) := by decide +kernel
theorem dX10_sure_21 : decode cX10_sure 21 = .ok ((.iload_n 1), 1) := by decide +kernel
theorem dX10_sure_22 : decode cX10_sure 22 = .ok ((.iload_n 2), 1) := by decide +kernel
theorem dX10_sure_23 : decode cX10_sure 23 = .ok ((.invokevirtual 397), 3) := by decide +kernel
theorem dX10_sure_26 : decode cX10_sure 26 = .ok ((.aload_n 0), 1) := by decide +kernel
theorem dX10_sure_27 : decode cX10_sure 27 = .ok ((.getfield 80), 3) := by decide +kernel
theorem dX10_sure_30 : decode cX10_sure 30 = .ok ((.getfield 400), 3) := by decide +kernel
theorem dX10_sure_33 : decode cX10_sure 33 = .ok ((.ifCond .ne 12), 3) := by decide +kernel
theorem dX10_sure_36 : decode cX10_sure 36 = .ok ((.aload_n 0), 1) := by decide +kernel
theorem dX10_sure_37 : decode cX10_sure 37 = .ok ((.bipush 8), 2) := by decide +kernel
theorem dX10_sure_39 : decode cX10_sure 39 = .ok ((.invokevirtual 153), 3) := by decide +kernel
theorem dX10_sure_42 : decode cX10_sure 42 = .ok ((.goto 14), 3) := by decide +kernel
theorem dX10_sure_45 : decode cX10_sure 45 = .ok ((.aload_n 0), 1) := by decide +kernel
theorem dX10_sure_46 : decode cX10_sure 46 = .ok ((.aload_n 0), 1) := by decide +kernel
theorem dX10_sure_47 : decode cX10_sure 47 = .ok ((.getfield 80), 3) := by decide +kernel
theorem dX10_sure_50 : decode cX10_sure 50 = .ok ((.getfield 402), 3) := by decide +kernel
theorem dX10_sure_53 : decode cX10_sure 53 = .ok ((.invokevirtual 173), 3) := by decide +kernel
theorem dX10_sure_56 : decode cX10_sure 56 = .ok (.ireturn, 1) := by decide +kernel
def p_X10_sure   (S : vSt) (a1 : Int32) (a2 : Int32) (post : Int32 → vSt → Prop) : Prop := p_X10_pastStatus  S a1 a2 (fun r11 S10 => ((r11 = 0 → p_X5_look  S10 a1 a2 (fun S12 => ((¬ (S12.1 72 3) = 0 → p_X10_told  S12 (S12.1 72 4) (fun r14 S13 => post r14 S13)) ∧ ((S12.1 72 3) = 0 → p_X10_refused  S12 8 (fun r16 S15 => post r16 S15))))) ∧ (¬ r11 = 0 → p_X10_refused  S10 r11 (fun r18 S17 => post r18 S17))))
set_option maxHeartbeats 4000000 in
set_option maxRecDepth 100000 in
theorem c_X10_sure (l : Launch) (G : vG)    {S : vSt} (a1 : Int32) (a2 : Int32) (post : Int32 → vSt → Prop) (h : p_X10_sure   S a1 a2 post) : Met l yX10_sure (v_ws yX10_sure cX10_sure 4 (some .int)) (v_rm 4 131) (v_Pc G [.ref (G.1 0), .int a1, .int a2] S) (v_Qi G post) 0 0 (v_A G) := by
  refine v_start (by decide +kernel) (Nat.le_of_ble_eq_true rfl) (fun X hl C D => ?_)
  subst hl
  have C : v_Cx X G cX10_sure RX10 4 (v_rm 4 131) := C
  show VJ X G S 0 [(0, .ref (G.1 0)), (1, .int a1), (2, .int a2)] []
  refine V_aload_n C 0 dX10_sure_0 rfl rfl ?_
  refine V_iload_n C 1 dX10_sure_1 rfl rfl ?_
  refine V_iload_n C 2 dX10_sure_2 rfl rfl ?_
  refine V_callVi (As := [.int a1, .int a2]) (rest := []) C (c_X10_pastStatus (v_l X) G  _ _ _ h) 0 10 (by decide) (by decide) (by decide) rfl KV_X10_pastStatus k_RX10_394 rfl rfl rfl (Nat.le_of_ble_eq_true rfl) ⟨Nat.le_of_ble_eq_true rfl, Nat.le_of_ble_eq_true rfl⟩ dX10_sure_3 (fun r11 S10 h => ?_)
  refine V_istore_n (lv' := [(0, .ref (G.1 0)), (1, .int a1), (2, .int a2), (3, .int r11)]) C [1, 2, 3, 0] dX10_sure_6 rfl (by decide) rfl ?_
  refine V_iload_n C 3 dX10_sure_7 rfl rfl ?_
  refine V_if_eq (tgt := 17) C dX10_sure_8 (by decide) (fun c => ?_) (fun c => ?_)
  · have h := h.1 c
    refine V_aload_n C 0 dX10_sure_17 rfl rfl ?_
    refine V_ga C 0 (by decide) (by decide) F_10_9 k_RX10_80 dX10_sure_18 ?_
    refine V_iload_n C 1 dX10_sure_21 rfl rfl ?_
    refine V_iload_n C 2 dX10_sure_22 rfl rfl ?_
    refine V_callVv (As := [.int a1, .int a2]) (rest := []) C (c_X5_look (v_l X) G  _ _ _ h) 72 5 (by decide) (by decide) (by decide) rfl KV_X5_look k_RX10_397 rfl rfl rfl (Nat.le_of_ble_eq_true rfl) ⟨Nat.le_of_ble_eq_true rfl, Nat.le_of_ble_eq_true rfl⟩ dX10_sure_23 (fun S12 h => ?_)
    refine V_aload_n C 0 dX10_sure_26 rfl rfl ?_
    refine V_ga C 0 (by decide) (by decide) F_10_9 k_RX10_80 dX10_sure_27 ?_
    refine V_gi C 72 (by decide) (by decide) F_5_3 k_RX10_400 dX10_sure_30 ?_
    refine V_if_ne (tgt := 45) C dX10_sure_33 (by decide) (fun c => ?_) (fun c => ?_)
    · have h := h.1 c
      refine V_aload_n C 0 dX10_sure_45 rfl rfl ?_
      refine V_aload_n C 0 dX10_sure_46 rfl rfl ?_
      refine V_ga C 0 (by decide) (by decide) F_10_9 k_RX10_80 dX10_sure_47 ?_
      refine V_gi C 72 (by decide) (by decide) F_5_4 k_RX10_402 dX10_sure_50 ?_
      refine V_callVi (As := [.int (S12.1 72 4)]) (rest := []) C (c_X10_told (v_l X) G  _ _ h) 0 10 (by decide) (by decide) (by decide) rfl KV_X10_told k_RX10_173 rfl rfl rfl (Nat.le_of_ble_eq_true rfl) ⟨Nat.le_of_ble_eq_true rfl, Nat.le_of_ble_eq_true rfl⟩ dX10_sure_53 (fun r14 S13 h => ?_)
      exact V_iret C D dX10_sure_56 h
    · have h := h.2 c
      refine V_aload_n C 0 dX10_sure_36 rfl rfl ?_
      refine V_bipush (v := 8) C dX10_sure_37 (by decide) ?_
      refine V_callVi (As := [.int 8]) (rest := []) C (c_X10_refused (v_l X) G  _ _ h) 0 10 (by decide) (by decide) (by decide) rfl KV_X10_refused k_RX10_153 rfl rfl rfl (Nat.le_of_ble_eq_true rfl) ⟨Nat.le_of_ble_eq_true rfl, Nat.le_of_ble_eq_true rfl⟩ dX10_sure_39 (fun r16 S15 h => ?_)
      refine V_goto (tgt := 56) C dX10_sure_42 (by decide) ?_
      exact V_iret C D dX10_sure_56 h
  · have h := h.2 c
    refine V_aload_n C 0 dX10_sure_11 rfl rfl ?_
    refine V_iload_n C 3 dX10_sure_12 rfl rfl ?_
    refine V_callVi (As := [.int r11]) (rest := []) C (c_X10_refused (v_l X) G  _ _ h) 0 10 (by decide) (by decide) (by decide) rfl KV_X10_refused k_RX10_153 rfl rfl rfl (Nat.le_of_ble_eq_true rfl) ⟨Nat.le_of_ble_eq_true rfl, Nat.le_of_ble_eq_true rfl⟩ dX10_sure_13 (fun r18 S17 h => ?_)
    exact V_iret C D dX10_sure_16 h
/-! HalfAccuser.bound(II)I -/
theorem dX10_bound_0 : decode cX10_bound 0 = .ok ((.aload_n 0), 1) := by decide +kernel
theorem dX10_bound_1 : decode cX10_bound 1 = .ok ((.getfield 26), 3) := by decide +kernel
theorem dX10_bound_4 : decode cX10_bound 4 = .ok ((.iload_n 1), 1) := by decide +kernel
theorem dX10_bound_5 : decode cX10_bound 5 = .ok ((.invokevirtual 188), 3) := by decide +kernel
theorem dX10_bound_8 : decode cX10_bound 8 = .ok ((.ifCond .ne 9), 3) := by decide +kernel
theorem dX10_bound_11 : decode cX10_bound 11 = .ok ((.aload_n 0), 1) := by decide +kernel
theorem dX10_bound_12 : decode cX10_bound 12 = .ok ((.iconst 2), 1) := by decide +kernel
theorem dX10_bound_13 : decode cX10_bound 13 = .ok ((.invokevirtual 153), 3) := by decide +kernel
theorem dX10_bound_16 : decode cX10_bound 16 = .ok (.ireturn, 1) := by decide +kernel
theorem dX10_bound_17 : decode cX10_bound 17 = .ok ((.iload_n 2), 1) := by decide +kernel
theorem dX10_bound_18 : decode cX10_bound 18 = .ok ((.ifCond .lt 8), 3) := by decide +kernel
theorem dX10_bound_21 : decode cX10_bound 21 = .ok ((.iload_n 2), 1) := by decide +kernel
theorem dX10_bound_22 : decode cX10_bound 22 = .ok ((.iconst 1), 1) := by decide +kernel
theorem dX10_bound_23 : decode cX10_bound 23 = .ok ((.if_icmp .le 9), 3) := by decide +kernel
theorem dX10_bound_26 : decode cX10_bound 26 = .ok ((.aload_n 0), 1) := by decide +kernel
theorem dX10_bound_27 : decode cX10_bound 27 = .ok ((.iconst 5), 1) := by decide +kernel
theorem dX10_bound_28 : decode cX10_bound 28 = .ok ((.invokevirtual 153), 3) := by decide +kernel
theorem dX10_bound_31 : decode cX10_bound 31 = .ok (.ireturn, 1) := by decide +kernel
theorem dX10_bound_32 : decode cX10_bound 32 = .ok ((.aload_n 0), 1) := by decide +kernel
theorem dX10_bound_33 : decode cX10_bound 33 = .ok ((.iload_n 2), 1) := by decide +kernel
theorem dX10_bound_34 : decode cX10_bound 34 = .ok ((.ifCond .ne 14), 3) := by decide +kernel
theorem dX10_bound_37 : decode cX10_bound 37 = .ok ((.aload_n 0), 1) := by decide +kernel
theorem dX10_bound_38 : decode cX10_bound 38 = .ok ((.getfield 80), 3) := by decide +kernel
theorem dX10_bound_41 : decode cX10_bound 41 = .ok ((.iload_n 1), 1) := by decide +kernel
theorem dX10_bound_42 : decode cX10_bound 42 = .ok ((.invokevirtual 405), 3) := by decide +kernel
theorem dX10_bound_45 : decode cX10_bound 45 = .ok ((.goto 11), 3) := by decide +kernel
theorem dX10_bound_48 : decode cX10_bound 48 = .ok ((.aload_n 0), 1) := by decide +kernel
theorem dX10_bound_49 : decode cX10_bound 49 = .ok ((.getfield 80), 3) := by decide +kernel
theorem dX10_bound_52 : decode cX10_bound 52 = .ok ((.iload_n 1), 1) := by decide +kernel
theorem dX10_bound_53 : decode cX10_bound 53 = .ok ((.invokevirtual 408), 3) := by decide +kernel
theorem dX10_bound_56 : decode cX10_bound 56 = .ok ((.invokevirtual 173), 3) := by decide +kernel
theorem dX10_bound_59 : decode cX10_bound 59 = .ok (.ireturn, 1) := by decide +kernel
def p_X10_bound_26  (a1 : Int32) (a2 : Int32)   (post : Int32 → vSt → Prop) (S : vSt)  : Prop := p_X10_refused  S 5 (fun r16 S15 => post r16 S15)
def p_X10_bound_56  (a1 : Int32) (a2 : Int32)   (post : Int32 → vSt → Prop) (S : vSt) (s0 : Int32) : Prop := p_X10_told  S s0 (fun r18 S17 => post r18 S17)
def p_X10_bound   (S : vSt) (a1 : Int32) (a2 : Int32) (post : Int32 → vSt → Prop) : Prop := p_X0_hasPerson 10 S a1 (fun r14 S13 => ((r14 = true → ((a2 < 0 → p_X10_bound_26 a1 a2 post S13 ) ∧ (¬ a2 < 0 → ((a2 ≤ 1 → ((¬ a2 = 0 → p_X5_least  S13 a1 (fun r16 S15 => p_X10_bound_56 a1 a2 post S15 r16)) ∧ (a2 = 0 → p_X5_most  S13 a1 (fun r18 S17 => p_X10_bound_56 a1 a2 post S17 r18)))) ∧ (¬ a2 ≤ 1 → p_X10_bound_26 a1 a2 post S13 ))))) ∧ (r14 = false → p_X10_refused  S13 2 (fun r20 S19 => post r20 S19))))
set_option maxHeartbeats 4000000 in
set_option maxRecDepth 100000 in
theorem q_X10_bound_26 {X : vX} {G : vG}  {post : Int32 → vSt → Prop} (C : v_Cx X G cX10_bound RX10 3 (v_rm 4 128)) (D : v_Rx X G (v_Qi G post) (some .int))  {a1 : Int32} {a2 : Int32}   : ∀ (S : vSt), p_X10_bound_26 a1 a2 post S  → VJ X G S 26 [(0, .ref (G.1 0))] [] := by
  intro S  h
  refine V_aload_n C 0 dX10_bound_26 rfl rfl ?_
  refine V_iconst (v := 5) C dX10_bound_27 (by decide) ?_
  refine V_callVi (As := [.int 5]) (rest := []) C (c_X10_refused (v_l X) G  _ _ h) 0 10 (by decide) (by decide) (by decide) rfl KV_X10_refused k_RX10_153 rfl rfl rfl (Nat.le_of_ble_eq_true rfl) ⟨Nat.le_of_ble_eq_true rfl, Nat.le_of_ble_eq_true rfl⟩ dX10_bound_28 (fun r16 S15 h => ?_)
  exact V_iret C D dX10_bound_31 h
set_option maxHeartbeats 4000000 in
set_option maxRecDepth 100000 in
theorem q_X10_bound_56 {X : vX} {G : vG}  {post : Int32 → vSt → Prop} (C : v_Cx X G cX10_bound RX10 3 (v_rm 4 128)) (D : v_Rx X G (v_Qi G post) (some .int))  {a1 : Int32} {a2 : Int32}   : ∀ (S : vSt) (s0 : Int32), p_X10_bound_56 a1 a2 post S s0 → VJ X G S 56 [] [.int s0, .ref (G.1 0)] := by
  intro S s0 h
  refine V_callVi (As := [.int s0]) (rest := []) C (c_X10_told (v_l X) G  _ _ h) 0 10 (by decide) (by decide) (by decide) rfl KV_X10_told k_RX10_173 rfl rfl rfl (Nat.le_of_ble_eq_true rfl) ⟨Nat.le_of_ble_eq_true rfl, Nat.le_of_ble_eq_true rfl⟩ dX10_bound_56 (fun r18 S17 h => ?_)
  exact V_iret C D dX10_bound_59 h
set_option maxHeartbeats 4000000 in
set_option maxRecDepth 100000 in
theorem c_X10_bound (l : Launch) (G : vG)    {S : vSt} (a1 : Int32) (a2 : Int32) (post : Int32 → vSt → Prop) (h : p_X10_bound   S a1 a2 post) : Met l yX10_bound (v_ws yX10_bound cX10_bound 3 (some .int)) (v_rm 4 128) (v_Pc G [.ref (G.1 0), .int a1, .int a2] S) (v_Qi G post) 0 0 (v_A G) := by
  refine v_start (by decide +kernel) (Nat.le_of_ble_eq_true rfl) (fun X hl C D => ?_)
  subst hl
  have C : v_Cx X G cX10_bound RX10 3 (v_rm 4 128) := C
  show VJ X G S 0 [(0, .ref (G.1 0)), (1, .int a1), (2, .int a2)] []
  refine V_aload_n C 0 dX10_bound_0 rfl rfl ?_
  refine V_ga C 0 (by decide) (by decide) F_10_2 k_RX10_26 dX10_bound_1 ?_
  refine V_iload_n C 1 dX10_bound_4 rfl rfl ?_
  refine V_callVz (As := [.int a1]) (rest := []) C (c_X0_hasPerson (v_l X) G v_i10 _ _ h) 10 0 (by decide) (by decide) (by decide) rfl KV_X0_hasPerson k_RX10_188 rfl rfl rfl (Nat.le_of_ble_eq_true rfl) ⟨Nat.le_of_ble_eq_true rfl, Nat.le_of_ble_eq_true rfl⟩ dX10_bound_5 (fun r14 S13 h => ?_)
  refine V_ifb_ne (tgt := 17) C dX10_bound_8 (by decide) (fun c => ?_) (fun c => ?_)
  · have h := h.1 c
    refine V_iload_n C 2 dX10_bound_17 rfl rfl ?_
    refine V_if_lt (tgt := 26) C dX10_bound_18 (by decide) (fun c => ?_) (fun c => ?_)
    · have h := h.1 c
      refine V_loc (lv' := [(0, .ref (G.1 0))]) [0] rfl ?_
      exact q_X10_bound_26 C D  _ h
    · have h := h.2 c
      refine V_iload_n C 2 dX10_bound_21 rfl rfl ?_
      refine V_iconst (v := 1) C dX10_bound_22 (by decide) ?_
      refine V_icmp_le (tgt := 32) C dX10_bound_23 (by decide) (fun c => ?_) (fun c => ?_)
      · have h := h.1 c
        refine V_aload_n C 0 dX10_bound_32 rfl rfl ?_
        refine V_iload_n C 2 dX10_bound_33 rfl rfl ?_
        refine V_if_ne (tgt := 48) C dX10_bound_34 (by decide) (fun c => ?_) (fun c => ?_)
        · have h := h.1 c
          refine V_aload_n C 0 dX10_bound_48 rfl rfl ?_
          refine V_ga C 0 (by decide) (by decide) F_10_9 k_RX10_80 dX10_bound_49 ?_
          refine V_iload_n C 1 dX10_bound_52 rfl rfl ?_
          refine V_callVi (As := [.int a1]) (rest := [.ref (G.1 0)]) C (c_X5_least (v_l X) G  _ _ h) 72 5 (by decide) (by decide) (by decide) rfl KV_X5_least k_RX10_408 rfl rfl rfl (Nat.le_of_ble_eq_true rfl) ⟨Nat.le_of_ble_eq_true rfl, Nat.le_of_ble_eq_true rfl⟩ dX10_bound_53 (fun r16 S15 h => ?_)
          refine V_loc (lv' := []) [] rfl ?_
          exact q_X10_bound_56 C D  _ _ h
        · have h := h.2 c
          refine V_aload_n C 0 dX10_bound_37 rfl rfl ?_
          refine V_ga C 0 (by decide) (by decide) F_10_9 k_RX10_80 dX10_bound_38 ?_
          refine V_iload_n C 1 dX10_bound_41 rfl rfl ?_
          refine V_callVi (As := [.int a1]) (rest := [.ref (G.1 0)]) C (c_X5_most (v_l X) G  _ _ h) 72 5 (by decide) (by decide) (by decide) rfl KV_X5_most k_RX10_405 rfl rfl rfl (Nat.le_of_ble_eq_true rfl) ⟨Nat.le_of_ble_eq_true rfl, Nat.le_of_ble_eq_true rfl⟩ dX10_bound_42 (fun r18 S17 h => ?_)
          refine V_goto (tgt := 56) C dX10_bound_45 (by decide) ?_
          refine V_loc (lv' := []) [] rfl ?_
          exact q_X10_bound_56 C D  _ _ h
      · have h := h.2 c
        refine V_loc (lv' := [(0, .ref (G.1 0))]) [0] rfl ?_
        exact q_X10_bound_26 C D  _ h
  · have h := h.2 c
    refine V_aload_n C 0 dX10_bound_11 rfl rfl ?_
    refine V_iconst (v := 2) C dX10_bound_12 (by decide) ?_
    refine V_callVi (As := [.int 2]) (rest := []) C (c_X10_refused (v_l X) G  _ _ h) 0 10 (by decide) (by decide) (by decide) rfl KV_X10_refused k_RX10_153 rfl rfl rfl (Nat.le_of_ble_eq_true rfl) ⟨Nat.le_of_ble_eq_true rfl, Nat.le_of_ble_eq_true rfl⟩ dX10_bound_13 (fun r20 S19 h => ?_)
    exact V_iret C D dX10_bound_16 h
/-! HalfAccuser.lived(I)I -/
theorem dX10_lived_0 : decode cX10_lived 0 = .ok ((.iload_n 1), 1) := by decide +kernel
theorem dX10_lived_1 : decode cX10_lived 1 = .ok ((.ifCond .lt 8), 3) := by decide +kernel
theorem dX10_lived_4 : decode cX10_lived 4 = .ok ((.iload_n 1), 1) := by decide +kernel
theorem dX10_lived_5 : decode cX10_lived 5 = .ok ((.iconst 5), 1) := by decide +kernel
theorem dX10_lived_6 : decode cX10_lived 6 = .ok ((.if_icmp .lt 9), 3) := by decide +kernel
theorem dX10_lived_9 : decode cX10_lived 9 = .ok ((.aload_n 0), 1) := by decide +kernel
theorem dX10_lived_10 : decode cX10_lived 10 = .ok ((.iconst 5), 1) := by decide +kernel
theorem dX10_lived_11 : decode cX10_lived 11 = .ok ((.invokevirtual 153), 3) := by decide +kernel
theorem dX10_lived_14 : decode cX10_lived 14 = .ok (.ireturn, 1) := by decide +kernel
theorem dX10_lived_15 : decode cX10_lived 15 = .ok ((.aload_n 0), 1) := by decide +kernel
theorem dX10_lived_16 : decode cX10_lived 16 = .ok ((.getfield 426), 3) := by decide +kernel
theorem dX10_lived_19 : decode cX10_lived 19 = .ok ((.ifCond .eq 18), 3) := by decide +kernel
theorem dX10_lived_22 : decode cX10_lived 22 = .ok ((.aload_n 0), 1) := by decide +kernel
theorem dX10_lived_23 : decode cX10_lived 23 = .ok ((.aload_n 0), 1) := by decide +kernel
theorem dX10_lived_24 : decode cX10_lived 24 = .ok ((.getfield 91), 3) := by decide +kernel
theorem dX10_lived_27 : decode cX10_lived 27 = .ok ((.iload_n 1), 1) := by decide +kernel
theorem dX10_lived_28 : decode cX10_lived 28 = .ok ((.invokestatic 212), 3) := by decide +kernel
theorem dX10_lived_31 : decode cX10_lived 31 = .ok ((.invokevirtual 173), 3) := by decide +kernel
theorem dX10_lived_34 : decode cX10_lived 34 = .ok ((.goto 9), 3) := by decide +kernel
theorem dX10_lived_37 : decode cX10_lived 37 = .ok ((.aload_n 0), 1) := by decide +kernel
theorem dX10_lived_38 : decode cX10_lived 38 = .ok ((.bipush 8), 2) := by decide +kernel
theorem dX10_lived_40 : decode cX10_lived 40 = .ok ((.invokevirtual 153), 3) := by decide +kernel
theorem dX10_lived_43 : decode cX10_lived 43 = .ok (.ireturn, 1) := by decide +kernel
def p_X10_lived_9  (a1 : Int32)   (post : Int32 → vSt → Prop) (S : vSt)  : Prop := p_X10_refused  S 5 (fun r10 S9 => post r10 S9)
def p_X10_lived   (S : vSt) (a1 : Int32) (post : Int32 → vSt → Prop) : Prop := ((a1 < 0 → p_X10_lived_9 a1 post S ) ∧ (¬ a1 < 0 → ((a1 < 5 → (((S.1 0 12) = 0 → p_X10_refused  S 8 (fun r10 S9 => post r10 S9)) ∧ (¬ (S.1 0 12) = 0 → p_X10_at 76 5 S a1 (fun r12 S11 => p_X10_told  S11 r12 (fun r14 S13 => post r14 S13))))) ∧ (¬ a1 < 5 → p_X10_lived_9 a1 post S ))))
set_option maxHeartbeats 4000000 in
set_option maxRecDepth 100000 in
theorem q_X10_lived_9 {X : vX} {G : vG}  {post : Int32 → vSt → Prop} (C : v_Cx X G cX10_lived RX10 2 (v_rm 1 61)) (D : v_Rx X G (v_Qi G post) (some .int))  {a1 : Int32}   : ∀ (S : vSt), p_X10_lived_9 a1 post S  → VJ X G S 9 [(0, .ref (G.1 0))] [] := by
  intro S  h
  refine V_aload_n C 0 dX10_lived_9 rfl rfl ?_
  refine V_iconst (v := 5) C dX10_lived_10 (by decide) ?_
  refine V_callVi (As := [.int 5]) (rest := []) C (c_X10_refused (v_l X) G  _ _ h) 0 10 (by decide) (by decide) (by decide) rfl KV_X10_refused k_RX10_153 rfl rfl rfl (Nat.le_of_ble_eq_true rfl) ⟨Nat.le_of_ble_eq_true rfl, Nat.le_of_ble_eq_true rfl⟩ dX10_lived_11 (fun r10 S9 h => ?_)
  exact V_iret C D dX10_lived_14 h
set_option maxHeartbeats 4000000 in
set_option maxRecDepth 100000 in
theorem c_X10_lived (l : Launch) (G : vG)    {S : vSt} (a1 : Int32) (post : Int32 → vSt → Prop) (h : p_X10_lived   S a1 post) : Met l yX10_lived (v_ws yX10_lived cX10_lived 2 (some .int)) (v_rm 1 61) (v_Pc G [.ref (G.1 0), .int a1] S) (v_Qi G post) 0 0 (v_A G) := by
  refine v_start (by decide +kernel) (Nat.le_of_ble_eq_true rfl) (fun X hl C D => ?_)
  subst hl
  have C : v_Cx X G cX10_lived RX10 2 (v_rm 1 61) := C
  show VJ X G S 0 [(0, .ref (G.1 0)), (1, .int a1)] []
  refine V_iload_n C 1 dX10_lived_0 rfl rfl ?_
  refine V_if_lt (tgt := 9) C dX10_lived_1 (by decide) (fun c => ?_) (fun c => ?_)
  · have h := h.1 c
    refine V_loc (lv' := [(0, .ref (G.1 0))]) [0] rfl ?_
    exact q_X10_lived_9 C D  _ h
  · have h := h.2 c
    refine V_iload_n C 1 dX10_lived_4 rfl rfl ?_
    refine V_iconst (v := 5) C dX10_lived_5 (by decide) ?_
    refine V_icmp_lt (tgt := 15) C dX10_lived_6 (by decide) (fun c => ?_) (fun c => ?_)
    · have h := h.1 c
      refine V_aload_n C 0 dX10_lived_15 rfl rfl ?_
      refine V_gi C 0 (by decide) (by decide) F_10_12 k_RX10_426 dX10_lived_16 ?_
      refine V_if_eq (tgt := 37) C dX10_lived_19 (by decide) (fun c => ?_) (fun c => ?_)
      · have h := h.1 c
        refine V_aload_n C 0 dX10_lived_37 rfl rfl ?_
        refine V_bipush (v := 8) C dX10_lived_38 (by decide) ?_
        refine V_callVi (As := [.int 8]) (rest := []) C (c_X10_refused (v_l X) G  _ _ h) 0 10 (by decide) (by decide) (by decide) rfl KV_X10_refused k_RX10_153 rfl rfl rfl (Nat.le_of_ble_eq_true rfl) ⟨Nat.le_of_ble_eq_true rfl, Nat.le_of_ble_eq_true rfl⟩ dX10_lived_40 (fun r10 S9 h => ?_)
        exact V_iret C D dX10_lived_43 h
      · have h := h.2 c
        refine V_aload_n C 0 dX10_lived_22 rfl rfl ?_
        refine V_aload_n C 0 dX10_lived_23 rfl rfl ?_
        refine V_ga C 0 (by decide) (by decide) F_10_11 k_RX10_91 dX10_lived_24 ?_
        refine V_iload_n C 1 dX10_lived_27 rfl rfl ?_
        refine V_callSi (As := [.ref (G.1 76), .int a1]) (rest := [.ref (G.1 0)]) C (c_X10_at (v_l X) G (by decide) (by decide) _ _ h) KV_X10_at k_RX10_212 rfl rfl rfl (Nat.le_of_ble_eq_true rfl) ⟨Nat.le_of_ble_eq_true rfl, Nat.le_of_ble_eq_true rfl⟩ dX10_lived_28 (fun r12 S11 h => ?_)
        refine V_callVi (As := [.int r12]) (rest := []) C (c_X10_told (v_l X) G  _ _ h) 0 10 (by decide) (by decide) (by decide) rfl KV_X10_told k_RX10_173 rfl rfl rfl (Nat.le_of_ble_eq_true rfl) ⟨Nat.le_of_ble_eq_true rfl, Nat.le_of_ble_eq_true rfl⟩ dX10_lived_31 (fun r14 S13 h => ?_)
        refine V_goto (tgt := 43) C dX10_lived_34 (by decide) ?_
        exact V_iret C D dX10_lived_43 h
    · have h := h.2 c
      refine V_loc (lv' := [(0, .ref (G.1 0))]) [0] rfl ?_
      exact q_X10_lived_9 C D  _ h
/-! HalfAccuser.toldIfAny(I)I -/
theorem dX10_toldIfAny_0 : decode cX10_toldIfAny 0 = .ok ((.iload_n 1), 1) := by decide +kernel
theorem dX10_toldIfAny_1 : decode cX10_toldIfAny 1 = .ok ((.iconst (-1)), 1) := by decide +kernel
theorem dX10_toldIfAny_2 : decode cX10_toldIfAny 2 = .ok ((.if_icmp .ne 12), 3) := by decide +kernel
theorem dX10_toldIfAny_5 : decode cX10_toldIfAny 5 = .ok ((.aload_n 0), 1) := by decide +kernel
theorem dX10_toldIfAny_6 : decode cX10_toldIfAny 6 = .ok ((.bipush 8), 2) := by decide +kernel
theorem dX10_toldIfAny_8 : decode cX10_toldIfAny 8 = .ok ((.invokevirtual 153), 3) := by decide +kernel
theorem dX10_toldIfAny_11 : decode cX10_toldIfAny 11 = .ok ((.goto 8), 3) := by decide +kernel
theorem dX10_toldIfAny_14 : decode cX10_toldIfAny 14 = .ok ((.aload_n 0), 1) := by decide +kernel
theorem dX10_toldIfAny_15 : decode cX10_toldIfAny 15 = .ok ((.iload_n 1), 1) := by decide +kernel
theorem dX10_toldIfAny_16 : decode cX10_toldIfAny 16 = .ok ((.invokevirtual 173), 3) := by decide +kernel
theorem dX10_toldIfAny_19 : decode cX10_toldIfAny 19 = .ok (.ireturn, 1) := by decide +kernel
def p_X10_toldIfAny   (S : vSt) (a1 : Int32) (post : Int32 → vSt → Prop) : Prop := ((¬ a1 = (-1) → p_X10_told  S a1 (fun r6 S5 => post r6 S5)) ∧ (a1 = (-1) → p_X10_refused  S 8 (fun r8 S7 => post r8 S7)))
set_option maxHeartbeats 4000000 in
set_option maxRecDepth 100000 in
theorem c_X10_toldIfAny (l : Launch) (G : vG)    {S : vSt} (a1 : Int32) (post : Int32 → vSt → Prop) (h : p_X10_toldIfAny   S a1 post) : Met l yX10_toldIfAny (v_ws yX10_toldIfAny cX10_toldIfAny 2 (some .int)) (v_rm 1 61) (v_Pc G [.ref (G.1 0), .int a1] S) (v_Qi G post) 0 0 (v_A G) := by
  refine v_start (by decide +kernel) (Nat.le_of_ble_eq_true rfl) (fun X hl C D => ?_)
  subst hl
  have C : v_Cx X G cX10_toldIfAny RX10 2 (v_rm 1 61) := C
  show VJ X G S 0 [(0, .ref (G.1 0)), (1, .int a1)] []
  refine V_iload_n C 1 dX10_toldIfAny_0 rfl rfl ?_
  refine V_iconst (v := (-1)) C dX10_toldIfAny_1 (by decide) ?_
  refine V_icmp_ne (tgt := 14) C dX10_toldIfAny_2 (by decide) (fun c => ?_) (fun c => ?_)
  · have h := h.1 c
    refine V_aload_n C 0 dX10_toldIfAny_14 rfl rfl ?_
    refine V_iload_n C 1 dX10_toldIfAny_15 rfl rfl ?_
    refine V_callVi (As := [.int a1]) (rest := []) C (c_X10_told (v_l X) G  _ _ h) 0 10 (by decide) (by decide) (by decide) rfl KV_X10_told k_RX10_173 rfl rfl rfl (Nat.le_of_ble_eq_true rfl) ⟨Nat.le_of_ble_eq_true rfl, Nat.le_of_ble_eq_true rfl⟩ dX10_toldIfAny_16 (fun r6 S5 h => ?_)
    exact V_iret C D dX10_toldIfAny_19 h
  · have h := h.2 c
    refine V_aload_n C 0 dX10_toldIfAny_5 rfl rfl ?_
    refine V_bipush (v := 8) C dX10_toldIfAny_6 (by decide) ?_
    refine V_callVi (As := [.int 8]) (rest := []) C (c_X10_refused (v_l X) G  _ _ h) 0 10 (by decide) (by decide) (by decide) rfl KV_X10_refused k_RX10_153 rfl rfl rfl (Nat.le_of_ble_eq_true rfl) ⟨Nat.le_of_ble_eq_true rfl, Nat.le_of_ble_eq_true rfl⟩ dX10_toldIfAny_8 (fun r8 S7 h => ?_)
    refine V_goto (tgt := 19) C dX10_toldIfAny_11 (by decide) ?_
    exact V_iret C D dX10_toldIfAny_19 h
/-! HalfAccuser.tellFault(Z)Z -/
theorem dX10_tellFault_0 : decode cX10_tellFault 0 = .ok ((.aload_n 0), 1) := by decide +kernel
theorem dX10_tellFault_1 : decode cX10_tellFault 1 = .ok ((.iload_n 1), 1) := by decide +kernel
theorem dX10_tellFault_2 : decode cX10_tellFault 2 = .ok ((.ifCond .eq 7), 3) := by decide +kernel
theorem dX10_tellFault_5 : decode cX10_tellFault 5 = .ok ((.iconst 0), 1) := by decide +kernel
theorem dX10_tellFault_6 : decode cX10_tellFault 6 = .ok ((.goto 10), 3) := by decide +kernel
theorem dX10_tellFault_9 : decode cX10_tellFault 9 = .ok ((.aload_n 0), 1) := by decide +kernel
theorem dX10_tellFault_10 : decode cX10_tellFault 10 = .ok ((.getfield 19), 3) := by decide +kernel
theorem dX10_tellFault_13 : decode cX10_tellFault 13 = .ok ((.getfield 446), 3) := by decide +kernel
theorem dX10_tellFault_16 : decode cX10_tellFault 16 = .ok ((.putfield 95), 3) := by decide +kernel
theorem dX10_tellFault_19 : decode cX10_tellFault 19 = .ok ((.aload_n 0), 1) := by decide +kernel
theorem dX10_tellFault_20 : decode cX10_tellFault 20 = .ok ((.iload_n 1), 1) := by decide +kernel
theorem dX10_tellFault_21 : decode cX10_tellFault 21 = .ok ((.ifCond .eq 7), 3) := by decide +kernel
theorem dX10_tellFault_24 : decode cX10_tellFault 24 = .ok ((.iconst (-1)), 1) := by decide +kernel
theorem dX10_tellFault_25 : decode cX10_tellFault 25 = .ok ((.goto 10), 3) := by decide +kernel
theorem dX10_tellFault_28 : decode cX10_tellFault 28 = .ok ((.aload_n 0), 1) := by decide +kernel
theorem dX10_tellFault_29 : decode cX10_tellFault 29 = .ok ((.getfield 19), 3) := by decide +kernel
theorem dX10_tellFault_32 : decode cX10_tellFault 32 = .ok ((.getfield 449), 3) := by decide +kernel
theorem dX10_tellFault_35 : decode cX10_tellFault 35 = .ok ((.putfield 99), 3) := by decide +kernel
theorem dX10_tellFault_38 : decode cX10_tellFault 38 = .ok ((.aload_n 0), 1) := by decide +kernel
theorem dX10_tellFault_39 : decode cX10_tellFault 39 = .ok ((.getfield 19), 3) := by decide +kernel
theorem dX10_tellFault_42 : decode cX10_tellFault 42 = .ok ((.iconst 0), 1) := by decide +kernel
theorem dX10_tellFault_43 : decode cX10_tellFault 43 = .ok ((.putfield 150), 3) := by decide +kernel
theorem dX10_tellFault_46 : decode cX10_tellFault 46 = .ok ((.iload_n 1), 1) := by decide +kernel
theorem dX10_tellFault_47 : decode cX10_tellFault 47 = .ok (.ireturn, 1) := by decide +kernel
def p_X10_tellFault_35  (a1 : Bool)   (post : Bool → vSt → Prop) (S : vSt) (s0 : Int32) : Prop := ∀ S5, S5 = v_si S 0 16 s0 → ∀ S6, S6 = v_si S5 5 1 0 → post a1 S6
def p_X10_tellFault_16  (a1 : Bool)   (post : Bool → vSt → Prop) (S : vSt) (s0 : Int32) : Prop := ∀ S4, S4 = v_si S 0 15 s0 → ((a1 = false → p_X10_tellFault_35 a1 post S4 (S4.1 5 12)) ∧ (a1 = true → p_X10_tellFault_35 a1 post S4 (-1)))
def p_X10_tellFault   (S : vSt) (a1 : Bool) (post : Bool → vSt → Prop) : Prop := ((a1 = false → p_X10_tellFault_16 a1 post S (S.1 5 11)) ∧ (a1 = true → p_X10_tellFault_16 a1 post S 0))
set_option maxHeartbeats 4000000 in
set_option maxRecDepth 100000 in
theorem q_X10_tellFault_35 {X : vX} {G : vG}  {post : Bool → vSt → Prop} (C : v_Cx X G cX10_tellFault RX10 2 (v_rm 0 40)) (D : v_Rx X G (v_Qz G post) (some .boolean))  {a1 : Bool}   : ∀ (S : vSt) (s0 : Int32), p_X10_tellFault_35 a1 post S s0 → VJ X G S 35 [(0, .ref (G.1 0)), (1, .int (v_b a1))] [.int s0, .ref (G.1 0)] := by
  intro S s0 h
  refine V_pi C 0 (by decide) (by decide) P_10_16 k_RX10_99 dX10_tellFault_35 ?_
  refine V_topS (fun S5 eS5 => ?_)
  have h := h S5 eS5
  refine V_aload_n C 0 dX10_tellFault_38 rfl rfl ?_
  refine V_ga C 0 (by decide) (by decide) F_10_1 k_RX10_19 dX10_tellFault_39 ?_
  refine V_iconst (v := 0) C dX10_tellFault_42 (by decide) ?_
  refine V_pi C 5 (by decide) (by decide) P_6_1 k_RX10_150 dX10_tellFault_43 ?_
  refine V_topS (fun S6 eS6 => ?_)
  have h := h S6 eS6
  refine V_iload_n C 1 dX10_tellFault_46 rfl rfl ?_
  exact V_zret C D dX10_tellFault_47 h
set_option maxHeartbeats 4000000 in
set_option maxRecDepth 100000 in
theorem q_X10_tellFault_16 {X : vX} {G : vG}  {post : Bool → vSt → Prop} (C : v_Cx X G cX10_tellFault RX10 2 (v_rm 0 40)) (D : v_Rx X G (v_Qz G post) (some .boolean))  {a1 : Bool}   : ∀ (S : vSt) (s0 : Int32), p_X10_tellFault_16 a1 post S s0 → VJ X G S 16 [(0, .ref (G.1 0)), (1, .int (v_b a1))] [.int s0, .ref (G.1 0)] := by
  intro S s0 h
  refine V_pi C 0 (by decide) (by decide) P_10_15 k_RX10_95 dX10_tellFault_16 ?_
  refine V_topS (fun S4 eS4 => ?_)
  have h := h S4 eS4
  refine V_aload_n C 0 dX10_tellFault_19 rfl rfl ?_
  refine V_iload_n C 1 dX10_tellFault_20 rfl rfl ?_
  refine V_ifb_eq (tgt := 28) C dX10_tellFault_21 (by decide) (fun c => ?_) (fun c => ?_)
  · have h := h.1 c
    refine V_aload_n C 0 dX10_tellFault_28 rfl rfl ?_
    refine V_ga C 0 (by decide) (by decide) F_10_1 k_RX10_19 dX10_tellFault_29 ?_
    refine V_gi C 5 (by decide) (by decide) F_6_12 k_RX10_449 dX10_tellFault_32 ?_
    exact q_X10_tellFault_35 C D  _ _ h
  · have h := h.2 c
    refine V_iconst (v := (-1)) C dX10_tellFault_24 (by decide) ?_
    refine V_goto (tgt := 35) C dX10_tellFault_25 (by decide) ?_
    exact q_X10_tellFault_35 C D  _ _ h
set_option maxHeartbeats 4000000 in
set_option maxRecDepth 100000 in
theorem c_X10_tellFault (l : Launch) (G : vG)    {S : vSt} (a1 : Bool) (post : Bool → vSt → Prop) (h : p_X10_tellFault   S a1 post) : Met l yX10_tellFault (v_ws yX10_tellFault cX10_tellFault 2 (some .boolean)) (v_rm 0 40) (v_Pc G [.ref (G.1 0), .int (v_b a1)] S) (v_Qz G post) 0 0 (v_A G) := by
  refine v_start (by decide +kernel) (Nat.le_of_ble_eq_true rfl) (fun X hl C D => ?_)
  subst hl
  have C : v_Cx X G cX10_tellFault RX10 2 (v_rm 0 40) := C
  show VJ X G S 0 [(0, .ref (G.1 0)), (1, .int (v_b a1))] []
  refine V_aload_n C 0 dX10_tellFault_0 rfl rfl ?_
  refine V_iload_n C 1 dX10_tellFault_1 rfl rfl ?_
  refine V_ifb_eq (tgt := 9) C dX10_tellFault_2 (by decide) (fun c => ?_) (fun c => ?_)
  · have h := h.1 c
    refine V_aload_n C 0 dX10_tellFault_9 rfl rfl ?_
    refine V_ga C 0 (by decide) (by decide) F_10_1 k_RX10_19 dX10_tellFault_10 ?_
    refine V_gi C 5 (by decide) (by decide) F_6_11 k_RX10_446 dX10_tellFault_13 ?_
    exact q_X10_tellFault_16 C D  _ _ h
  · have h := h.2 c
    refine V_iconst (v := 0) C dX10_tellFault_5 (by decide) ?_
    refine V_goto (tgt := 16) C dX10_tellFault_6 (by decide) ?_
    exact q_X10_tellFault_16 C D  _ _ h
/-! HalfAccuserModel.status()I -/
theorem dX11_status_0 : decode cX11_status 0 = .ok ((.aload_n 0), 1) := by decide +kernel
theorem dX11_status_1 : decode cX11_status 1 = .ok ((.iconst 0), 1) := by decide +kernel
theorem dX11_status_2 : decode cX11_status 2 = .ok ((.putfield 60), 3) := by decide +kernel
theorem dX11_status_5 : decode cX11_status 5 = .ok ((.aload_n 0), 1) := by decide +kernel
theorem dX11_status_6 : decode cX11_status 6 = .ok ((.getfield 63), 3) := by decide +kernel
theorem dX11_status_9 : decode cX11_status 9 = .ok (.ireturn, 1) := by decide +kernel
def p_X11_status   (S : vSt)  (post : Int32 → vSt → Prop) : Prop := ∀ S2, S2 = v_si S 143 1 0 → post (S2.1 143 0) S2
set_option maxHeartbeats 4000000 in
set_option maxRecDepth 100000 in
theorem c_X11_status (l : Launch) (G : vG)    {S : vSt}  (post : Int32 → vSt → Prop) (h : p_X11_status   S  post) : Met l yX11_status (v_ws yX11_status cX11_status 1 (some .int)) (v_rm 0 40) (v_Pc G [.ref (G.1 143)] S) (v_Qi G post) 0 0 (v_A G) := by
  refine v_start (by decide +kernel) (Nat.le_of_ble_eq_true rfl) (fun X hl C D => ?_)
  subst hl
  have C : v_Cx X G cX11_status RX11 1 (v_rm 0 40) := C
  show VJ X G S 0 [(0, .ref (G.1 143))] []
  refine V_aload_n C 0 dX11_status_0 rfl rfl ?_
  refine V_iconst (v := 0) C dX11_status_1 (by decide) ?_
  refine V_pi C 143 (by decide) (by decide) P_11_1 k_RX11_60 dX11_status_2 ?_
  refine V_topS (fun S2 eS2 => ?_)
  have h := h S2 eS2
  refine V_aload_n C 0 dX11_status_5 rfl rfl ?_
  refine V_gi C 143 (by decide) (by decide) F_11_0 k_RX11_63 dX11_status_6 ?_
  exact V_iret C D dX11_status_9 h
/-! HalfAccuserModel.top()J -/
theorem dX11_top_0 : decode cX11_top 0 = .ok ((.aload_n 0), 1) := by decide +kernel
theorem dX11_top_1 : decode cX11_top 1 = .ok ((.iconst 0), 1) := by decide +kernel
theorem dX11_top_2 : decode cX11_top 2 = .ok ((.putfield 60), 3) := by decide +kernel
theorem dX11_top_5 : decode cX11_top 5 = .ok ((.aload_n 0), 1) := by decide +kernel
theorem dX11_top_6 : decode cX11_top 6 = .ok ((.getfield 66), 3) := by decide +kernel
theorem dX11_top_9 : decode cX11_top 9 = .ok (.lreturn, 1) := by decide +kernel
def p_X11_top   (S : vSt)  (post : Int64 → vSt → Prop) : Prop := ∀ S2, S2 = v_si S 143 1 0 → post (S2.2 143 2) S2
set_option maxHeartbeats 4000000 in
set_option maxRecDepth 100000 in
theorem c_X11_top (l : Launch) (G : vG)    {S : vSt}  (post : Int64 → vSt → Prop) (h : p_X11_top   S  post) : Met l yX11_top (v_ws yX11_top cX11_top 1 (some .long)) (v_rm 0 40) (v_Pc G [.ref (G.1 143)] S) (v_Ql G post) 0 0 (v_A G) := by
  refine v_start (by decide +kernel) (Nat.le_of_ble_eq_true rfl) (fun X hl C D => ?_)
  subst hl
  have C : v_Cx X G cX11_top RX11 1 (v_rm 0 40) := C
  show VJ X G S 0 [(0, .ref (G.1 143))] []
  refine V_aload_n C 0 dX11_top_0 rfl rfl ?_
  refine V_iconst (v := 0) C dX11_top_1 (by decide) ?_
  refine V_pi C 143 (by decide) (by decide) P_11_1 k_RX11_60 dX11_top_2 ?_
  refine V_topS (fun S2 eS2 => ?_)
  have h := h S2 eS2
  refine V_aload_n C 0 dX11_top_5 rfl rfl ?_
  refine V_gl C 143 (by decide) (by decide) F_11_2 k_RX11_66 dX11_top_6 ?_
  exact V_lret C D dX11_top_9 h
/-! HalfAccuserModel.bottom()J -/
theorem dX11_bottom_0 : decode cX11_bottom 0 = .ok ((.aload_n 0), 1) := by decide +kernel
theorem dX11_bottom_1 : decode cX11_bottom 1 = .ok ((.iconst 0), 1) := by decide +kernel
theorem dX11_bottom_2 : decode cX11_bottom 2 = .ok ((.putfield 60), 3) := by decide +kernel
theorem dX11_bottom_5 : decode cX11_bottom 5 = .ok ((.aload_n 0), 1) := by decide +kernel
theorem dX11_bottom_6 : decode cX11_bottom 6 = .ok ((.getfield 7), 3) := by decide +kernel
theorem dX11_bottom_9 : decode cX11_bottom 9 = .ok (.lreturn, 1) := by decide +kernel
def p_X11_bottom   (S : vSt)  (post : Int64 → vSt → Prop) : Prop := ∀ S2, S2 = v_si S 143 1 0 → post (S2.2 143 3) S2
set_option maxHeartbeats 4000000 in
set_option maxRecDepth 100000 in
theorem c_X11_bottom (l : Launch) (G : vG)    {S : vSt}  (post : Int64 → vSt → Prop) (h : p_X11_bottom   S  post) : Met l yX11_bottom (v_ws yX11_bottom cX11_bottom 1 (some .long)) (v_rm 0 40) (v_Pc G [.ref (G.1 143)] S) (v_Ql G post) 0 0 (v_A G) := by
  refine v_start (by decide +kernel) (Nat.le_of_ble_eq_true rfl) (fun X hl C D => ?_)
  subst hl
  have C : v_Cx X G cX11_bottom RX11 1 (v_rm 0 40) := C
  show VJ X G S 0 [(0, .ref (G.1 143))] []
  refine V_aload_n C 0 dX11_bottom_0 rfl rfl ?_
  refine V_iconst (v := 0) C dX11_bottom_1 (by decide) ?_
  refine V_pi C 143 (by decide) (by decide) P_11_1 k_RX11_60 dX11_bottom_2 ?_
  refine V_topS (fun S2 eS2 => ?_)
  have h := h S2 eS2
  refine V_aload_n C 0 dX11_bottom_5 rfl rfl ?_
  refine V_gl C 143 (by decide) (by decide) F_11_3 k_RX11_7 dX11_bottom_6 ?_
  exact V_lret C D dX11_bottom_9 h
/-! HalfAccuserModel.refuse(I)I -/
theorem dX11_refuse_0 : decode cX11_refuse 0 = .ok ((.aload_n 0), 1) := by decide +kernel
theorem dX11_refuse_1 : decode cX11_refuse 1 = .ok ((.iload_n 1), 1) := by decide +kernel
theorem dX11_refuse_2 : decode cX11_refuse 2 = .ok ((.putfield 63), 3) := by decide +kernel
theorem dX11_refuse_5 : decode cX11_refuse 5 = .ok ((.iconst (-1)), 1) := by decide +kernel
theorem dX11_refuse_6 : decode cX11_refuse 6 = .ok (.ireturn, 1) := by decide +kernel
def p_X11_refuse   (S : vSt) (a1 : Int32) (post : Int32 → vSt → Prop) : Prop := ∀ S2, S2 = v_si S 143 0 a1 → post (-1) S2
set_option maxHeartbeats 4000000 in
set_option maxRecDepth 100000 in
theorem c_X11_refuse (l : Launch) (G : vG)    {S : vSt} (a1 : Int32) (post : Int32 → vSt → Prop) (h : p_X11_refuse   S a1 post) : Met l yX11_refuse (v_ws yX11_refuse cX11_refuse 2 (some .int)) (v_rm 0 40) (v_Pc G [.ref (G.1 143), .int a1] S) (v_Qi G post) 0 0 (v_A G) := by
  refine v_start (by decide +kernel) (Nat.le_of_ble_eq_true rfl) (fun X hl C D => ?_)
  subst hl
  have C : v_Cx X G cX11_refuse RX11 2 (v_rm 0 40) := C
  show VJ X G S 0 [(0, .ref (G.1 143)), (1, .int a1)] []
  refine V_aload_n C 0 dX11_refuse_0 rfl rfl ?_
  refine V_iload_n C 1 dX11_refuse_1 rfl rfl ?_
  refine V_pi C 143 (by decide) (by decide) P_11_0 k_RX11_63 dX11_refuse_2 ?_
  refine V_topS (fun S2 eS2 => ?_)
  have h := h S2 eS2
  refine V_iconst (v := (-1)) C dX11_refuse_5 (by decide) ?_
  exact V_iret C D dX11_refuse_6 h
/-! HalfAccuserModel.no(I)Z -/
theorem dX11_no_0 : decode cX11_no 0 = .ok ((.aload_n 0), 1) := by decide +kernel
theorem dX11_no_1 : decode cX11_no 1 = .ok ((.iload_n 1), 1) := by decide +kernel
theorem dX11_no_2 : decode cX11_no 2 = .ok ((.putfield 63), 3) := by decide +kernel
theorem dX11_no_5 : decode cX11_no 5 = .ok ((.iconst 0), 1) := by decide +kernel
theorem dX11_no_6 : decode cX11_no 6 = .ok (.ireturn, 1) := by decide +kernel
def p_X11_no   (S : vSt) (a1 : Int32) (post : Bool → vSt → Prop) : Prop := ∀ S2, S2 = v_si S 143 0 a1 → post false S2
set_option maxHeartbeats 4000000 in
set_option maxRecDepth 100000 in
theorem c_X11_no (l : Launch) (G : vG)    {S : vSt} (a1 : Int32) (post : Bool → vSt → Prop) (h : p_X11_no   S a1 post) : Met l yX11_no (v_ws yX11_no cX11_no 2 (some .boolean)) (v_rm 0 40) (v_Pc G [.ref (G.1 143), .int a1] S) (v_Qz G post) 0 0 (v_A G) := by
  refine v_start (by decide +kernel) (Nat.le_of_ble_eq_true rfl) (fun X hl C D => ?_)
  subst hl
  have C : v_Cx X G cX11_no RX11 2 (v_rm 0 40) := C
  show VJ X G S 0 [(0, .ref (G.1 143)), (1, .int a1)] []
  refine V_aload_n C 0 dX11_no_0 rfl rfl ?_
  refine V_iload_n C 1 dX11_no_1 rfl rfl ?_
  refine V_pi C 143 (by decide) (by decide) P_11_0 k_RX11_63 dX11_no_2 ?_
  refine V_topS (fun S2 eS2 => ?_)
  have h := h S2 eS2
  refine V_iconst (v := 0) C dX11_no_5 (by decide) ?_
  exact V_zret0 C D dX11_no_6 h
/-! HalfAccuserModel.isIn(JJJ)Z -/
theorem dX11_isIn_0 : decode cX11_isIn 0 = .ok ((.lload_n 0), 1) := by decide +kernel
theorem dX11_isIn_1 : decode cX11_isIn 1 = .ok ((.lload_n 2), 1) := by decide +kernel
theorem dX11_isIn_2 : decode cX11_isIn 2 = .ok (.lcmp, 1) := by decide +kernel
theorem dX11_isIn_3 : decode cX11_isIn 3 = .ok ((.ifCond .lt 14), 3) := by decide +kernel
theorem dX11_isIn_6 : decode cX11_isIn 6 = .ok ((.lload_n 0), 1) := by decide +kernel
theorem dX11_isIn_7 : decode cX11_isIn 7 = .ok ((.lload 4), 2) := by decide +kernel
theorem dX11_isIn_9 : decode cX11_isIn 9 = .ok (.lcmp, 1) := by decide +kernel
theorem dX11_isIn_10 : decode cX11_isIn 10 = .ok ((.ifCond .gt 7), 3) := by decide +kernel
theorem dX11_isIn_13 : decode cX11_isIn 13 = .ok ((.iconst 1), 1) := by decide +kernel
theorem dX11_isIn_14 : decode cX11_isIn 14 = .ok ((.goto 4), 3) := by decide +kernel
theorem dX11_isIn_17 : decode cX11_isIn 17 = .ok ((.iconst 0), 1) := by decide +kernel
theorem dX11_isIn_18 : decode cX11_isIn 18 = .ok (.ireturn, 1) := by decide +kernel
def p_X11_isIn   (S : vSt) (a0 : Int64) (a2 : Int64) (a4 : Int64) (post : Bool → vSt → Prop) : Prop := ((a0 < a2 → post false S) ∧ (¬ a0 < a2 → ((a4 < a0 → post false S) ∧ (¬ a4 < a0 → post true S))))
set_option maxHeartbeats 4000000 in
set_option maxRecDepth 100000 in
theorem c_X11_isIn (l : Launch) (G : vG)    {S : vSt} (a0 : Int64) (a2 : Int64) (a4 : Int64) (post : Bool → vSt → Prop) (h : p_X11_isIn   S a0 a2 a4 post) : Met l yX11_isIn (v_ws yX11_isIn cX11_isIn 6 (some .boolean)) (v_rm 0 40) (v_Pc G [.long a0, .long a2, .long a4] S) (v_Qz G post) 0 0 (v_A G) := by
  refine v_start (by decide +kernel) (Nat.le_of_ble_eq_true rfl) (fun X hl C D => ?_)
  subst hl
  have C : v_Cx X G cX11_isIn RX11 6 (v_rm 0 40) := C
  show VJ X G S 0 [(0, .long a0), (2, .long a2), (4, .long a4)] []
  refine V_lload_n C 0 dX11_isIn_0 rfl rfl ?_
  refine V_lload_n C 1 dX11_isIn_1 rfl rfl ?_
  refine V_lcmp_lt (tgt := 17) C dX11_isIn_2 dX11_isIn_3 (by decide) (fun c => ?_) (fun c => ?_)
  · have h := h.1 c
    refine V_iconst (v := 0) C dX11_isIn_17 (by decide) ?_
    exact V_zret0 C D dX11_isIn_18 h
  · have h := h.2 c
    refine V_lload_n C 0 dX11_isIn_6 rfl rfl ?_
    refine V_lload C 2 dX11_isIn_7 rfl ?_
    refine V_lcmp_gt (tgt := 17) C dX11_isIn_9 dX11_isIn_10 (by decide) (fun c => ?_) (fun c => ?_)
    · have h := h.1 c
      refine V_iconst (v := 0) C dX11_isIn_17 (by decide) ?_
      exact V_zret0 C D dX11_isIn_18 h
    · have h := h.2 c
      refine V_iconst (v := 1) C dX11_isIn_13 (by decide) ?_
      refine V_goto (tgt := 18) C dX11_isIn_14 (by decide) ?_
      exact V_zret1 C D dX11_isIn_18 h
/-! HalfAccuserModel.fraction(JJ)Z -/
theorem dX11_fraction_0 : decode cX11_fraction 0 = .ok ((.lload_n 1), 1) := by decide +kernel
theorem dX11_fraction_1 : decode cX11_fraction 1 = .ok ((.invokestatic 69), 3) := by decide +kernel
theorem dX11_fraction_4 : decode cX11_fraction 4 = .ok ((.lstore 5), 2) := by decide +kernel
theorem dX11_fraction_6 : decode cX11_fraction 6 = .ok ((.lload_n 3), 1) := by decide +kernel
theorem dX11_fraction_7 : decode cX11_fraction 7 = .ok ((.lstore 7), 2) := by decide +kernel
theorem dX11_fraction_9 : decode cX11_fraction 9 = .ok ((.lload 7), 2) := by decide +kernel
theorem dX11_fraction_11 : decode cX11_fraction 11 = .ok ((.lconst 0), 1) := by decide +kernel
theorem dX11_fraction_12 : decode cX11_fraction 12 = .ok (.lcmp, 1) := by decide +kernel
theorem dX11_fraction_13 : decode cX11_fraction 13 = .ok ((.ifCond .eq 21), 3) := by decide +kernel
theorem dX11_fraction_16 : decode cX11_fraction 16 = .ok ((.lload 5), 2) := by decide +kernel
theorem dX11_fraction_18 : decode cX11_fraction 18 = .ok ((.lload 7), 2) := by decide +kernel
theorem dX11_fraction_20 : decode cX11_fraction 20 = .ok (.lrem, 1) := by decide +kernel
theorem dX11_fraction_21 : decode cX11_fraction 21 = .ok ((.lstore 9), 2) := by decide +kernel
theorem dX11_fraction_23 : decode cX11_fraction 23 = .ok ((.lload 7), 2) := by decide +kernel
theorem dX11_fraction_25 : decode cX11_fraction 25 = .ok ((.lstore 5), 2) := by decide +kernel
theorem dX11_fraction_27 : decode cX11_fraction 27 = .ok ((.lload 9), 2) := by decide +kernel
theorem dX11_fraction_29 : decode cX11_fraction 29 = .ok ((.lstore 7), 2) := by decide +kernel
theorem dX11_fraction_31 : decode cX11_fraction 31 = .ok ((.goto (-22)), 3) := by decide +kernel
theorem dX11_fraction_34 : decode cX11_fraction 34 = .ok ((.aload_n 0), 1) := by decide +kernel
theorem dX11_fraction_35 : decode cX11_fraction 35 = .ok ((.lload_n 1), 1) := by decide +kernel
theorem dX11_fraction_36 : decode cX11_fraction 36 = .ok ((.lload 5), 2) := by decide +kernel
theorem dX11_fraction_38 : decode cX11_fraction 38 = .ok (.ldiv, 1) := by decide +kernel
theorem dX11_fraction_39 : decode cX11_fraction 39 = .ok ((.putfield 66), 3) := by decide +kernel
theorem dX11_fraction_42 : decode cX11_fraction 42 = .ok ((.aload_n 0), 1) := by decide +kernel
theorem dX11_fraction_43 : decode cX11_fraction 43 = .ok ((.lload_n 3), 1) := by decide +kernel
theorem dX11_fraction_44 : decode cX11_fraction 44 = .ok ((.lload 5), 2) := by decide +kernel
theorem dX11_fraction_46 : decode cX11_fraction 46 = .ok (.ldiv, 1) := by decide +kernel
theorem dX11_fraction_47 : decode cX11_fraction 47 = .ok ((.putfield 7), 3) := by decide +kernel
theorem dX11_fraction_50 : decode cX11_fraction 50 = .ok ((.iconst 1), 1) := by decide +kernel
theorem dX11_fraction_51 : decode cX11_fraction 51 = .ok (.ireturn, 1) := by decide +kernel
def p_X11_fraction_9  (a1 : Int64) (a3 : Int64)   (post : Bool → vSt → Prop) : Nat → vSt → Int64 → Int64 → Prop
  | 0 => fun _ _ _ => False
  | fu9 + 1 => fun S x5 x7 => ((x7 = 0 → (¬ x5 = 0 ∧ ∀ S9, S9 = v_sl S 143 2 (a1 / x5) → (¬ x5 = 0 ∧ ∀ S10, S10 = v_sl S9 143 3 (a3 / x5) → post true S10))) ∧ (¬ x7 = 0 → (¬ x7 = 0 ∧ ∀ y11 : Int64, y11 = (x5 - x5 / x7 * x7) → (p_X11_fraction_9 a1 a3 post fu9) S x7 y11)))
theorem e_X11_fraction_9  (a1 : Int64) (a3 : Int64)   (post : Bool → vSt → Prop) (fu9 : Nat) (S : vSt) (x5 : Int64) (x7 : Int64) : p_X11_fraction_9 a1 a3 post (fu9 + 1) S x5 x7 = (((x7 = 0 → (¬ x5 = 0 ∧ ∀ S9, S9 = v_sl S 143 2 (a1 / x5) → (¬ x5 = 0 ∧ ∀ S10, S10 = v_sl S9 143 3 (a3 / x5) → post true S10))) ∧ (¬ x7 = 0 → (¬ x7 = 0 ∧ ∀ y11 : Int64, y11 = (x5 - x5 / x7 * x7) → (p_X11_fraction_9 a1 a3 post fu9) S x7 y11)))) := rfl
def p_X11_fraction   (S : vSt) (a1 : Int64) (a3 : Int64) (post : Bool → vSt → Prop) : Prop := ∀ y8 : Int64, y8 = (v_absl a1) → ∃ fu9, p_X11_fraction_9 a1 a3 post fu9 S y8 a3
set_option maxHeartbeats 4000000 in
set_option maxRecDepth 100000 in
theorem q_X11_fraction_9 {X : vX} {G : vG}  {post : Bool → vSt → Prop} (C : v_Cx X G cX11_fraction RX11 11 (v_rm 1 60)) (D : v_Rx X G (v_Qz G post) (some .boolean))  {a1 : Int64} {a3 : Int64}   : ∀ (fu : Nat) (S : vSt) (x5 : Int64) (x7 : Int64), p_X11_fraction_9 a1 a3 post fu S x5 x7 → VJ X G S 9 [(0, .ref (G.1 143)), (1, .long a1), (3, .long a3), (5, .long x5), (7, .long x7)] [] := by
  intro fu
  induction fu with
  | zero => intro S x5 x7 h; exact absurd h id
  | succ fu ih =>
    intro S x5 x7 h
    have hK9 := ih
    rw [e_X11_fraction_9] at h
    refine V_lload C 4 dX11_fraction_9 rfl ?_
    refine V_lconst (v := 0) C dX11_fraction_11 (by decide) ?_
    refine V_lcmp_eq (tgt := 34) C dX11_fraction_12 dX11_fraction_13 (by decide) (fun c => ?_) (fun c => ?_)
    · have h := h.1 c
      refine V_aload_n C 0 dX11_fraction_34 rfl rfl ?_
      refine V_lload_n C 1 dX11_fraction_35 rfl rfl ?_
      refine V_lload C 3 dX11_fraction_36 rfl ?_
      obtain ⟨hz, h⟩ := h
      refine V_ldiv C dX11_fraction_38 hz ?_
      refine V_pl C 143 (by decide) (by decide) P_11_2 k_RX11_66 dX11_fraction_39 ?_
      refine V_topS (fun S9 eS9 => ?_)
      have h := h S9 eS9
      refine V_aload_n C 0 dX11_fraction_42 rfl rfl ?_
      refine V_lload_n C 2 dX11_fraction_43 rfl rfl ?_
      refine V_lload C 3 dX11_fraction_44 rfl ?_
      obtain ⟨hz, h⟩ := h
      refine V_ldiv C dX11_fraction_46 hz ?_
      refine V_pl C 143 (by decide) (by decide) P_11_3 k_RX11_7 dX11_fraction_47 ?_
      refine V_topS (fun S10 eS10 => ?_)
      have h := h S10 eS10
      refine V_iconst (v := 1) C dX11_fraction_50 (by decide) ?_
      exact V_zret1 C D dX11_fraction_51 h
    · have h := h.2 c
      refine V_lload C 3 dX11_fraction_16 rfl ?_
      refine V_lload C 4 dX11_fraction_18 rfl ?_
      obtain ⟨hz, h⟩ := h
      refine V_lrem C dX11_fraction_20 hz ?_
      refine V_topl (fun y11 ey11 => ?_)
      have h := h y11 ey11
      refine V_lstore (lv' := [(0, .ref (G.1 143)), (1, .long a1), (3, .long a3), (5, .long x5), (7, .long x7), (9, .long y11)]) C [1, 2, 3, 4, 5, 0] dX11_fraction_21 (by decide) rfl ?_
      refine V_lload C 4 dX11_fraction_23 rfl ?_
      refine V_lstore (lv' := [(0, .ref (G.1 143)), (1, .long a1), (3, .long a3), (5, .long x7), (7, .long x7), (9, .long y11)]) C [1, 2, 3, 0, 4, 5] dX11_fraction_25 (by decide) rfl ?_
      refine V_lload C 5 dX11_fraction_27 rfl ?_
      refine V_lstore (lv' := [(0, .ref (G.1 143)), (1, .long a1), (3, .long a3), (5, .long x7), (7, .long y11), (9, .long y11)]) C [1, 2, 3, 4, 0, 5] dX11_fraction_29 (by decide) rfl ?_
      refine V_goto (tgt := 9) C dX11_fraction_31 (by decide) ?_
      refine V_loc (lv' := [(0, .ref (G.1 143)), (1, .long a1), (3, .long a3), (5, .long x7), (7, .long y11)]) [0, 1, 2, 3, 4] rfl ?_
      exact hK9 _ _ _ h
set_option maxHeartbeats 4000000 in
set_option maxRecDepth 100000 in
theorem c_X11_fraction (l : Launch) (G : vG)    {S : vSt} (a1 : Int64) (a3 : Int64) (post : Bool → vSt → Prop) (h : p_X11_fraction   S a1 a3 post) : Met l yX11_fraction (v_ws yX11_fraction cX11_fraction 11 (some .boolean)) (v_rm 1 60) (v_Pc G [.ref (G.1 143), .long a1, .long a3] S) (v_Qz G post) 0 0 (v_A G) := by
  refine v_start (by decide +kernel) (Nat.le_of_ble_eq_true rfl) (fun X hl C D => ?_)
  subst hl
  have C : v_Cx X G cX11_fraction RX11 11 (v_rm 1 60) := C
  show VJ X G S 0 [(0, .ref (G.1 143)), (1, .long a1), (3, .long a3)] []
  refine V_lload_n C 1 dX11_fraction_0 rfl rfl ?_
  refine V_absl C k_RX11_69 (Nat.le_of_ble_eq_true rfl) ⟨Nat.le_of_ble_eq_true rfl, Nat.le_of_ble_eq_true rfl⟩ dX11_fraction_1 ?_
  refine V_topl (fun y8 ey8 => ?_)
  have h := h y8 ey8
  refine V_lstore (lv' := [(0, .ref (G.1 143)), (1, .long a1), (3, .long a3), (5, .long y8)]) C [1, 2, 3, 0] dX11_fraction_4 (by decide) rfl ?_
  refine V_lload_n C 2 dX11_fraction_6 rfl rfl ?_
  refine V_lstore (lv' := [(0, .ref (G.1 143)), (1, .long a1), (3, .long a3), (5, .long y8), (7, .long a3)]) C [1, 2, 3, 4, 0] dX11_fraction_7 (by decide) rfl ?_
  obtain ⟨fu9, h⟩ := h
  exact q_X11_fraction_9 C D  fu9 _ _ _ h
/-! HalfAccuserModel.cut(IJ)J -/
theorem dX11_cut_0 : decode cX11_cut 0 = .ok ((.iload_n 0), 1) := by decide +kernel
theorem dX11_cut_1 : decode cX11_cut 1 = .ok ((.ifCond .ne 10), 3) := by decide +kernel
theorem dX11_cut_4 : decode cX11_cut 4 = .ok ((.lload_n 1), 1) := by decide +kernel
theorem dX11_cut_5 : decode cX11_cut 5 = .ok (.l2i, 1) := by decide +kernel
theorem dX11_cut_6 : decode cX11_cut 6 = .ok (.i2b, 1) := by decide +kernel
theorem dX11_cut_7 : decode cX11_cut 7 = .ok (.i2l, 1) := by decide +kernel
theorem dX11_cut_8 : decode cX11_cut 8 = .ok ((.goto 27), 3) := by decide +kernel
theorem dX11_cut_11 : decode cX11_cut 11 = .ok ((.iload_n 0), 1) := by decide +kernel
theorem dX11_cut_12 : decode cX11_cut 12 = .ok ((.iconst 1), 1) := by decide +kernel
theorem dX11_cut_13 : decode cX11_cut 13 = .ok ((.if_icmp .ne 10), 3) := by decide +kernel
theorem dX11_cut_16 : decode cX11_cut 16 = .ok ((.lload_n 1), 1) := by decide +kernel
theorem dX11_cut_17 : decode cX11_cut 17 = .ok (.l2i, 1) := by decide +kernel
theorem dX11_cut_18 : decode cX11_cut 18 = .ok (.i2s, 1) := by decide +kernel
theorem dX11_cut_19 : decode cX11_cut 19 = .ok (.i2l, 1) := by decide +kernel
theorem dX11_cut_20 : decode cX11_cut 20 = .ok ((.goto 15), 3) := by decide +kernel
theorem dX11_cut_23 : decode cX11_cut 23 = .ok ((.iload_n 0), 1) := by decide +kernel
theorem dX11_cut_24 : decode cX11_cut 24 = .ok ((.iconst 2), 1) := by decide +kernel
theorem dX11_cut_25 : decode cX11_cut 25 = .ok ((.if_icmp .ne 9), 3) := by decide +kernel
theorem dX11_cut_28 : decode cX11_cut 28 = .ok ((.lload_n 1), 1) := by decide +kernel
theorem dX11_cut_29 : decode cX11_cut 29 = .ok (.l2i, 1) := by decide +kernel
theorem dX11_cut_30 : decode cX11_cut 30 = .ok (.i2l, 1) := by decide +kernel
theorem dX11_cut_31 : decode cX11_cut 31 = .ok ((.goto 4), 3) := by decide +kernel
theorem dX11_cut_34 : decode cX11_cut 34 = .ok ((.lload_n 1), 1) := by decide +kernel
theorem dX11_cut_35 : decode cX11_cut 35 = .ok (.lreturn, 1) := by decide +kernel
def p_X11_cut   (S : vSt) (a0 : Int32) (a1 : Int64) (post : Int64 → vSt → Prop) : Prop := ((¬ a0 = 0 → ((¬ a0 = 1 → ((¬ a0 = 2 → post a1 S) ∧ (a0 = 2 → post (Int32.toInt64 (Int64.toInt32 a1)) S))) ∧ (a0 = 1 → post (Int32.toInt64 ((Int32.toInt16 (Int64.toInt32 a1)).toInt32)) S))) ∧ (a0 = 0 → post (Int32.toInt64 ((Int32.toInt8 (Int64.toInt32 a1)).toInt32)) S))
set_option maxHeartbeats 4000000 in
set_option maxRecDepth 100000 in
theorem c_X11_cut (l : Launch) (G : vG)    {S : vSt} (a0 : Int32) (a1 : Int64) (post : Int64 → vSt → Prop) (h : p_X11_cut   S a0 a1 post) : Met l yX11_cut (v_ws yX11_cut cX11_cut 3 (some .long)) (v_rm 0 40) (v_Pc G [.int a0, .long a1] S) (v_Ql G post) 0 0 (v_A G) := by
  refine v_start (by decide +kernel) (Nat.le_of_ble_eq_true rfl) (fun X hl C D => ?_)
  subst hl
  have C : v_Cx X G cX11_cut RX11 3 (v_rm 0 40) := C
  show VJ X G S 0 [(0, .int a0), (1, .long a1)] []
  refine V_iload_n C 0 dX11_cut_0 rfl rfl ?_
  refine V_if_ne (tgt := 11) C dX11_cut_1 (by decide) (fun c => ?_) (fun c => ?_)
  · have h := h.1 c
    refine V_iload_n C 0 dX11_cut_11 rfl rfl ?_
    refine V_iconst (v := 1) C dX11_cut_12 (by decide) ?_
    refine V_icmp_ne (tgt := 23) C dX11_cut_13 (by decide) (fun c => ?_) (fun c => ?_)
    · have h := h.1 c
      refine V_iload_n C 0 dX11_cut_23 rfl rfl ?_
      refine V_iconst (v := 2) C dX11_cut_24 (by decide) ?_
      refine V_icmp_ne (tgt := 34) C dX11_cut_25 (by decide) (fun c => ?_) (fun c => ?_)
      · have h := h.1 c
        refine V_lload_n C 1 dX11_cut_34 rfl rfl ?_
        exact V_lret C D dX11_cut_35 h
      · have h := h.2 c
        refine V_lload_n C 1 dX11_cut_28 rfl rfl ?_
        refine V_l2i C dX11_cut_29 ?_
        refine V_i2l C dX11_cut_30 ?_
        refine V_goto (tgt := 35) C dX11_cut_31 (by decide) ?_
        exact V_lret C D dX11_cut_35 h
    · have h := h.2 c
      refine V_lload_n C 1 dX11_cut_16 rfl rfl ?_
      refine V_l2i C dX11_cut_17 ?_
      refine V_i2s C dX11_cut_18 ?_
      refine V_i2l C dX11_cut_19 ?_
      refine V_goto (tgt := 35) C dX11_cut_20 (by decide) ?_
      exact V_lret C D dX11_cut_35 h
  · have h := h.2 c
    refine V_lload_n C 1 dX11_cut_4 rfl rfl ?_
    refine V_l2i C dX11_cut_5 ?_
    refine V_i2b C dX11_cut_6 ?_
    refine V_i2l C dX11_cut_7 ?_
    refine V_goto (tgt := 35) C dX11_cut_8 (by decide) ?_
    exact V_lret C D dX11_cut_35 h
/-! HalfAccuserModel.tray(III)Z -/
theorem dX11_tray_0 : decode cX11_tray 0 = .ok ((.aload_n 0), 1) := by decide +kernel
theorem dX11_tray_1 : decode cX11_tray 1 = .ok ((.iconst 0), 1) := by decide +kernel
theorem dX11_tray_2 : decode cX11_tray 2 = .ok ((.putfield 60), 3) := by decide +kernel
theorem dX11_tray_5 : decode cX11_tray 5 = .ok ((.aload_n 0), 1) := by decide +kernel
theorem dX11_tray_6 : decode cX11_tray 6 = .ok ((.iconst 0), 1) := by decide +kernel
theorem dX11_tray_7 : decode cX11_tray 7 = .ok ((.putfield 63), 3) := by decide +kernel
theorem dX11_tray_10 : decode cX11_tray 10 = .ok ((.iload_n 1), 1) := by decide +kernel
theorem dX11_tray_11 : decode cX11_tray 11 = .ok ((.ifCond .lt 17), 3) := by decide +kernel
theorem dX11_tray_14 : decode cX11_tray 14 = .ok ((.iload_n 1), 1) := by decide +kernel
theorem dX11_tray_15 : decode cX11_tray 15 = .ok ((.iconst 4), 1) := by decide +kernel
theorem dX11_tray_16 : decode cX11_tray 16 = .ok ((.if_icmp .ge 12), 3) := by decide +kernel
theorem dX11_tray_19 : decode cX11_tray 19 = .ok ((.iload_n 2), 1) := by decide +kernel
theorem dX11_tray_20 : decode cX11_tray 20 = .ok ((.ifCond .lt 8), 3) := by decide +kernel
theorem dX11_tray_23 : decode cX11_tray 23 = .ok ((.iload_n 2), 1) := by decide +kernel
theorem dX11_tray_24 : decode cX11_tray 24 = .ok ((.iconst 3), 1) := by decide +kernel
theorem dX11_tray_25 : decode cX11_tray 25 = .ok ((.if_icmp .le 9), 3) := by decide +kernel
theorem dX11_tray_28 : decode cX11_tray 28 = .ok ((.aload_n 0), 1) := by decide +kernel
theorem dX11_tray_29 : decode cX11_tray 29 = .ok ((.iconst 1), 1) := by decide +kernel
theorem dX11_tray_30 : decode cX11_tray 30 = .ok ((.invokevirtual 75), 3) := by decide +kernel
theorem dX11_tray_33 : decode cX11_tray 33 = .ok (.ireturn, 1) := by decide +kernel
theorem dX11_tray_34 : decode cX11_tray 34 = .ok ((.iload_n 3), 1) := by decide +kernel
theorem dX11_tray_35 : decode cX11_tray 35 = .ok ((.bipush 60), 2) := by decide +kernel
theorem dX11_tray_37 : decode cX11_tray 37 = .ok ((.if_icmp .le 9), 3) := by decide +kernel
theorem dX11_tray_40 : decode cX11_tray 40 = .ok ((.aload_n 0), 1) := by decide +kernel
theorem dX11_tray_41 : decode cX11_tray 41 = .ok ((.iconst 5), 1) := by decide +kernel
theorem dX11_tray_42 : decode cX11_tray 42 = .ok ((.invokevirtual 75), 3) := by decide +kernel
theorem dX11_tray_45 : decode cX11_tray 45 = .ok (.ireturn, 1) := by decide +kernel
theorem dX11_tray_46 : decode cX11_tray 46 = .ok ((.iload_n 3), 1) := by decide +kernel
theorem dX11_tray_47 : decode cX11_tray 47 = .ok ((.ifCond .ge 10), 3) := by decide +kernel
theorem dX11_tray_50 : decode cX11_tray 50 = .ok ((.aload_n 0), 1) := by decide +kernel
theorem dX11_tray_51 : decode cX11_tray 51 = .ok ((.bipush 6), 2) := by decide +kernel
theorem dX11_tray_53 : decode cX11_tray 53 = .ok ((.invokevirtual 75), 3) := by decide +kernel
theorem dX11_tray_56 : decode cX11_tray 56 = .ok (.ireturn, 1) := by decide +kernel
theorem dX11_tray_57 : decode cX11_tray 57 = .ok ((.aload_n 0), 1) := by decide +kernel
theorem dX11_tray_58 : decode cX11_tray 58 = .ok ((.getfield 13), 3) := by decide +kernel
theorem dX11_tray_61 : decode cX11_tray 61 = .ok ((.iload_n 1), 1) := by decide +kernel
theorem dX11_tray_62 : decode cX11_tray 62 = .ok ((.iload_n 2), 1) := by decide +kernel
theorem dX11_tray_63 : decode cX11_tray 63 = .ok (.iastore, 1) := by decide +kernel
theorem dX11_tray_64 : decode cX11_tray 64 = .ok ((.aload_n 0), 1) := by decide +kernel
theorem dX11_tray_65 : decode cX11_tray 65 = .ok ((.getfield 17), 3) := by decide +kernel
theorem dX11_tray_68 : decode cX11_tray 68 = .ok ((.iload_n 1), 1) := by decide +kernel
theorem dX11_tray_69 : decode cX11_tray 69 = .ok ((.iload_n 3), 1) := by decide +kernel
theorem dX11_tray_70 : decode cX11_tray 70 = .ok (.iastore, 1) := by decide +kernel
theorem dX11_tray_71 : decode cX11_tray 71 = .ok ((.iconst 0), 1) := by decide +kernel
theorem dX11_tray_72 : decode cX11_tray 72 = .ok ((.istore 4), 2) := by decide +kernel
theorem dX11_tray_74 : decode cX11_tray 74 = .ok ((.iload 4), 2) := by decide +kernel
theorem dX11_tray_76 : decode cX11_tray 76 = .ok ((.iload_n 3), 1) := by decide +kernel
theorem dX11_tray_77 : decode cX11_tray 77 = .ok ((.if_icmp .ge 22), 3) := by decide +kernel
theorem dX11_tray_80 : decode cX11_tray 80 = .ok ((.aload_n 0), 1) := by decide +kernel
theorem dX11_tray_81 : decode cX11_tray 81 = .ok ((.getfield 20), 3) := by decide +kernel
theorem dX11_tray_84 : decode cX11_tray 84 = .ok ((.bipush 60), 2) := by decide +kernel
theorem dX11_tray_86 : decode cX11_tray 86 = .ok ((.iload_n 1), 1) := by decide +kernel
theorem dX11_tray_87 : decode cX11_tray 87 = .ok (.imul, 1) := by decide +kernel
theorem dX11_tray_88 : decode cX11_tray 88 = .ok ((.iload 4), 2) := by decide +kernel
theorem dX11_tray_90 : decode cX11_tray 90 = .ok (.iadd, 1) := by decide +kernel
theorem dX11_tray_91 : decode cX11_tray 91 = .ok ((.lconst 0), 1) := by decide +kernel
theorem dX11_tray_92 : decode cX11_tray 92 = .ok (.lastore, 1) := by decide +kernel
theorem dX11_tray_93 : decode cX11_tray 93 = .ok ((.iinc 4 1), 3) := by decide +kernel
theorem dX11_tray_96 : decode cX11_tray 96 = .ok ((.goto (-22)), 3) := by decide +kernel
theorem dX11_tray_99 : decode cX11_tray 99 = .ok ((.iconst 1), 1) := by decide +kernel
theorem dX11_tray_100 : decode cX11_tray 100 = .ok (.ireturn, 1) := by decide +kernel
def p_X11_tray_28  (a1 : Int32) (a2 : Int32) (a3 : Int32)   (post : Bool → vSt → Prop) (S : vSt)  : Prop := p_X11_no  S 1 (fun r18 S17 => post r18 S17)
def p_X11_tray_74  (a1 : Int32) (a2 : Int32) (a3 : Int32)   (post : Bool → vSt → Prop) : Nat → vSt → Int32 → Prop
  | 0 => fun _ _ => False
  | fu74 + 1 => fun S x4 => ((a3 ≤ x4 → post true S) ∧ (¬ a3 ≤ x4 → (vp_in ((60 * a1) + x4) 240 ∧ ∀ S19, S19 = v_sl S 146 (Int32.toNatClampNeg ((60 * a1) + x4)) 0 → ∀ y20 : Int32, y20 = x4 + 1 → (p_X11_tray_74 a1 a2 a3 post fu74) S19 y20)))
theorem e_X11_tray_74  (a1 : Int32) (a2 : Int32) (a3 : Int32)   (post : Bool → vSt → Prop) (fu74 : Nat) (S : vSt) (x4 : Int32) : p_X11_tray_74 a1 a2 a3 post (fu74 + 1) S x4 = (((a3 ≤ x4 → post true S) ∧ (¬ a3 ≤ x4 → (vp_in ((60 * a1) + x4) 240 ∧ ∀ S19, S19 = v_sl S 146 (Int32.toNatClampNeg ((60 * a1) + x4)) 0 → ∀ y20 : Int32, y20 = x4 + 1 → (p_X11_tray_74 a1 a2 a3 post fu74) S19 y20)))) := rfl
def p_X11_tray   (S : vSt) (a1 : Int32) (a2 : Int32) (a3 : Int32) (post : Bool → vSt → Prop) : Prop := ∀ S15, S15 = v_si S 143 1 0 → ∀ S16, S16 = v_si S15 143 0 0 → ((a1 < 0 → p_X11_tray_28 a1 a2 a3 post S16 ) ∧ (¬ a1 < 0 → ((4 ≤ a1 → p_X11_tray_28 a1 a2 a3 post S16 ) ∧ (¬ 4 ≤ a1 → ((a2 < 0 → p_X11_tray_28 a1 a2 a3 post S16 ) ∧ (¬ a2 < 0 → ((a2 ≤ 3 → ((a3 ≤ 60 → ((0 ≤ a3 → (vp_in a1 4 ∧ ∀ S17, S17 = v_si S16 144 (Int32.toNatClampNeg a1) a2 → (vp_in a1 4 ∧ ∀ S18, S18 = v_si S17 145 (Int32.toNatClampNeg a1) a3 → ∃ fu74, p_X11_tray_74 a1 a2 a3 post fu74 S18 0))) ∧ (¬ 0 ≤ a3 → p_X11_no  S16 6 (fun r20 S19 => post r20 S19)))) ∧ (¬ a3 ≤ 60 → p_X11_no  S16 5 (fun r22 S21 => post r22 S21)))) ∧ (¬ a2 ≤ 3 → p_X11_tray_28 a1 a2 a3 post S16 ))))))))
set_option maxHeartbeats 4000000 in
set_option maxRecDepth 100000 in
theorem q_X11_tray_28 {X : vX} {G : vG}  {post : Bool → vSt → Prop} (C : v_Cx X G cX11_tray RX11 5 (v_rm 1 61)) (D : v_Rx X G (v_Qz G post) (some .boolean))  {a1 : Int32} {a2 : Int32} {a3 : Int32}   : ∀ (S : vSt), p_X11_tray_28 a1 a2 a3 post S  → VJ X G S 28 [(0, .ref (G.1 143))] [] := by
  intro S  h
  refine V_aload_n C 0 dX11_tray_28 rfl rfl ?_
  refine V_iconst (v := 1) C dX11_tray_29 (by decide) ?_
  refine V_callVz (As := [.int 1]) (rest := []) C (c_X11_no (v_l X) G  _ _ h) 143 11 (by decide) (by decide) (by decide) rfl KV_X11_no k_RX11_75 rfl rfl rfl (Nat.le_of_ble_eq_true rfl) ⟨Nat.le_of_ble_eq_true rfl, Nat.le_of_ble_eq_true rfl⟩ dX11_tray_30 (fun r18 S17 h => ?_)
  exact V_zret C D dX11_tray_33 h
set_option maxHeartbeats 4000000 in
set_option maxRecDepth 100000 in
theorem q_X11_tray_74 {X : vX} {G : vG}  {post : Bool → vSt → Prop} (C : v_Cx X G cX11_tray RX11 5 (v_rm 1 61)) (D : v_Rx X G (v_Qz G post) (some .boolean))  {a1 : Int32} {a2 : Int32} {a3 : Int32}   : ∀ (fu : Nat) (S : vSt) (x4 : Int32), p_X11_tray_74 a1 a2 a3 post fu S x4 → VJ X G S 74 [(0, .ref (G.1 143)), (1, .int a1), (3, .int a3), (4, .int x4)] [] := by
  intro fu
  induction fu with
  | zero => intro S x4 h; exact absurd h id
  | succ fu ih =>
    intro S x4 h
    have hK74 := ih
    rw [e_X11_tray_74] at h
    refine V_iload C 3 dX11_tray_74 rfl ?_
    refine V_iload_n C 2 dX11_tray_76 rfl rfl ?_
    refine V_icmp_ge (tgt := 99) C dX11_tray_77 (by decide) (fun c => ?_) (fun c => ?_)
    · have h := h.1 c
      refine V_iconst (v := 1) C dX11_tray_99 (by decide) ?_
      exact V_zret1 C D dX11_tray_100 h
    · have h := h.2 c
      refine V_aload_n C 0 dX11_tray_80 rfl rfl ?_
      refine V_ga C 143 (by decide) (by decide) F_11_6 k_RX11_20 dX11_tray_81 ?_
      refine V_bipush (v := 60) C dX11_tray_84 (by decide) ?_
      refine V_iload_n C 1 dX11_tray_86 rfl rfl ?_
      refine V_imul C dX11_tray_87 ?_
      refine V_iload C 3 dX11_tray_88 rfl ?_
      refine V_iadd C dX11_tray_90 ?_
      refine V_lconst (v := 0) C dX11_tray_91 (by decide) ?_
      obtain ⟨hi, h⟩ := h
      refine V_last C 146 240 (by decide) (by decide) hi dX11_tray_92 ?_
      refine V_topS (fun S19 eS19 => ?_)
      have h := h S19 eS19
      obtain ⟨y20, ey20⟩ : ∃ z : Int32, z = x4 + 1 := ⟨_, rfl⟩
      have h := h y20 ey20
      refine V_iinc (lv' := [(0, .ref (G.1 143)), (1, .int a1), (3, .int a3), (4, .int y20)]) C 3 [1, 2, 3, 0] y20 dX11_tray_93 rfl (by rw [ey20]; rfl) (by decide) rfl ?_
      refine V_goto (tgt := 74) C dX11_tray_96 (by decide) ?_
      exact hK74 _ _ h
set_option maxHeartbeats 4000000 in
set_option maxRecDepth 100000 in
theorem c_X11_tray (l : Launch) (G : vG)    {S : vSt} (a1 : Int32) (a2 : Int32) (a3 : Int32) (post : Bool → vSt → Prop) (h : p_X11_tray   S a1 a2 a3 post) : Met l yX11_tray (v_ws yX11_tray cX11_tray 5 (some .boolean)) (v_rm 1 61) (v_Pc G [.ref (G.1 143), .int a1, .int a2, .int a3] S) (v_Qz G post) 0 0 (v_A G) := by
  refine v_start (by decide +kernel) (Nat.le_of_ble_eq_true rfl) (fun X hl C D => ?_)
  subst hl
  have C : v_Cx X G cX11_tray RX11 5 (v_rm 1 61) := C
  show VJ X G S 0 [(0, .ref (G.1 143)), (1, .int a1), (2, .int a2), (3, .int a3)] []
  refine V_aload_n C 0 dX11_tray_0 rfl rfl ?_
  refine V_iconst (v := 0) C dX11_tray_1 (by decide) ?_
  refine V_pi C 143 (by decide) (by decide) P_11_1 k_RX11_60 dX11_tray_2 ?_
  refine V_topS (fun S15 eS15 => ?_)
  have h := h S15 eS15
  refine V_aload_n C 0 dX11_tray_5 rfl rfl ?_
  refine V_iconst (v := 0) C dX11_tray_6 (by decide) ?_
  refine V_pi C 143 (by decide) (by decide) P_11_0 k_RX11_63 dX11_tray_7 ?_
  refine V_topS (fun S16 eS16 => ?_)
  have h := h S16 eS16
  refine V_iload_n C 1 dX11_tray_10 rfl rfl ?_
  refine V_if_lt (tgt := 28) C dX11_tray_11 (by decide) (fun c => ?_) (fun c => ?_)
  · have h := h.1 c
    refine V_loc (lv' := [(0, .ref (G.1 143))]) [0] rfl ?_
    exact q_X11_tray_28 C D  _ h
  · have h := h.2 c
    refine V_iload_n C 1 dX11_tray_14 rfl rfl ?_
    refine V_iconst (v := 4) C dX11_tray_15 (by decide) ?_
    refine V_icmp_ge (tgt := 28) C dX11_tray_16 (by decide) (fun c => ?_) (fun c => ?_)
    · have h := h.1 c
      refine V_loc (lv' := [(0, .ref (G.1 143))]) [0] rfl ?_
      exact q_X11_tray_28 C D  _ h
    · have h := h.2 c
      refine V_iload_n C 2 dX11_tray_19 rfl rfl ?_
      refine V_if_lt (tgt := 28) C dX11_tray_20 (by decide) (fun c => ?_) (fun c => ?_)
      · have h := h.1 c
        refine V_loc (lv' := [(0, .ref (G.1 143))]) [0] rfl ?_
        exact q_X11_tray_28 C D  _ h
      · have h := h.2 c
        refine V_iload_n C 2 dX11_tray_23 rfl rfl ?_
        refine V_iconst (v := 3) C dX11_tray_24 (by decide) ?_
        refine V_icmp_le (tgt := 34) C dX11_tray_25 (by decide) (fun c => ?_) (fun c => ?_)
        · have h := h.1 c
          refine V_iload_n C 3 dX11_tray_34 rfl rfl ?_
          refine V_bipush (v := 60) C dX11_tray_35 (by decide) ?_
          refine V_icmp_le (tgt := 46) C dX11_tray_37 (by decide) (fun c => ?_) (fun c => ?_)
          · have h := h.1 c
            refine V_iload_n C 3 dX11_tray_46 rfl rfl ?_
            refine V_if_ge (tgt := 57) C dX11_tray_47 (by decide) (fun c => ?_) (fun c => ?_)
            · have h := h.1 c
              refine V_aload_n C 0 dX11_tray_57 rfl rfl ?_
              refine V_ga C 143 (by decide) (by decide) F_11_4 k_RX11_13 dX11_tray_58 ?_
              refine V_iload_n C 1 dX11_tray_61 rfl rfl ?_
              refine V_iload_n C 2 dX11_tray_62 rfl rfl ?_
              obtain ⟨hi, h⟩ := h
              refine V_iast C 144 4 (by decide) (by decide) hi dX11_tray_63 ?_
              refine V_topS (fun S17 eS17 => ?_)
              have h := h S17 eS17
              refine V_aload_n C 0 dX11_tray_64 rfl rfl ?_
              refine V_ga C 143 (by decide) (by decide) F_11_5 k_RX11_17 dX11_tray_65 ?_
              refine V_iload_n C 1 dX11_tray_68 rfl rfl ?_
              refine V_iload_n C 3 dX11_tray_69 rfl rfl ?_
              obtain ⟨hi, h⟩ := h
              refine V_iast C 145 4 (by decide) (by decide) hi dX11_tray_70 ?_
              refine V_topS (fun S18 eS18 => ?_)
              have h := h S18 eS18
              refine V_iconst (v := 0) C dX11_tray_71 (by decide) ?_
              refine V_istore (lv' := [(0, .ref (G.1 143)), (1, .int a1), (2, .int a2), (3, .int a3), (4, .int 0)]) C [1, 2, 3, 4, 0] dX11_tray_72 (by decide) rfl ?_
              refine V_loc (lv' := [(0, .ref (G.1 143)), (1, .int a1), (3, .int a3), (4, .int 0)]) [0, 1, 3, 4] rfl ?_
              obtain ⟨fu74, h⟩ := h
              exact q_X11_tray_74 C D  fu74 _ _ h
            · have h := h.2 c
              refine V_aload_n C 0 dX11_tray_50 rfl rfl ?_
              refine V_bipush (v := 6) C dX11_tray_51 (by decide) ?_
              refine V_callVz (As := [.int 6]) (rest := []) C (c_X11_no (v_l X) G  _ _ h) 143 11 (by decide) (by decide) (by decide) rfl KV_X11_no k_RX11_75 rfl rfl rfl (Nat.le_of_ble_eq_true rfl) ⟨Nat.le_of_ble_eq_true rfl, Nat.le_of_ble_eq_true rfl⟩ dX11_tray_53 (fun r20 S19 h => ?_)
              exact V_zret C D dX11_tray_56 h
          · have h := h.2 c
            refine V_aload_n C 0 dX11_tray_40 rfl rfl ?_
            refine V_iconst (v := 5) C dX11_tray_41 (by decide) ?_
            refine V_callVz (As := [.int 5]) (rest := []) C (c_X11_no (v_l X) G  _ _ h) 143 11 (by decide) (by decide) (by decide) rfl KV_X11_no k_RX11_75 rfl rfl rfl (Nat.le_of_ble_eq_true rfl) ⟨Nat.le_of_ble_eq_true rfl, Nat.le_of_ble_eq_true rfl⟩ dX11_tray_42 (fun r22 S21 h => ?_)
            exact V_zret C D dX11_tray_45 h
        · have h := h.2 c
          refine V_loc (lv' := [(0, .ref (G.1 143))]) [0] rfl ?_
          exact q_X11_tray_28 C D  _ h
/-! HalfAccuserModel.trayed(I)I -/
theorem dX11_trayed_0 : decode cX11_trayed 0 = .ok ((.iload_n 1), 1) := by decide +kernel
theorem dX11_trayed_1 : decode cX11_trayed 1 = .ok ((.ifCond .lt 8), 3) := by decide +kernel
theorem dX11_trayed_4 : decode cX11_trayed 4 = .ok ((.iload_n 1), 1) := by decide +kernel
theorem dX11_trayed_5 : decode cX11_trayed 5 = .ok ((.iconst 4), 1) := by decide +kernel
theorem dX11_trayed_6 : decode cX11_trayed 6 = .ok ((.if_icmp .lt 7), 3) := by decide +kernel
theorem dX11_trayed_9 : decode cX11_trayed 9 = .ok ((.iconst 1), 1) := by decide +kernel
theorem dX11_trayed_10 : decode cX11_trayed 10 = .ok ((.goto 17), 3) := by decide +kernel
theorem dX11_trayed_13 : decode cX11_trayed 13 = .ok ((.aload_n 0), 1) := by decide +kernel
theorem dX11_trayed_14 : decode cX11_trayed 14 = .ok ((.getfield 17), 3) := by decide +kernel
theorem dX11_trayed_17 : decode cX11_trayed 17 = .ok ((.iload_n 1), 1) := by decide +kernel
theorem dX11_trayed_18 : decode cX11_trayed 18 = .ok (.iaload, 1) := by decide +kernel
theorem dX11_trayed_19 : decode cX11_trayed 19 = .ok ((.ifCond .ge 7), 3) := by decide +kernel
theorem dX11_trayed_22 : decode cX11_trayed 22 = .ok ((.iconst 3), 1) := by decide +kernel
theorem dX11_trayed_23 : decode cX11_trayed 23 = .ok ((.goto 4), 3) := by decide +kernel
theorem dX11_trayed_26 : decode cX11_trayed 26 = .ok ((.iconst 0), 1) := by decide +kernel
theorem dX11_trayed_27 : decode cX11_trayed 27 = .ok (.ireturn, 1) := by decide +kernel
def p_X11_trayed   (S : vSt) (a1 : Int32) (post : Int32 → vSt → Prop) : Prop := ((a1 < 0 → post 1 S) ∧ (¬ a1 < 0 → ((a1 < 4 → (vp_in a1 4 ∧ ((0 ≤ (S.1 145 (Int32.toNatClampNeg a1)) → post 0 S) ∧ (¬ 0 ≤ (S.1 145 (Int32.toNatClampNeg a1)) → post 3 S)))) ∧ (¬ a1 < 4 → post 1 S))))
set_option maxHeartbeats 4000000 in
set_option maxRecDepth 100000 in
theorem c_X11_trayed (l : Launch) (G : vG)    {S : vSt} (a1 : Int32) (post : Int32 → vSt → Prop) (h : p_X11_trayed   S a1 post) : Met l yX11_trayed (v_ws yX11_trayed cX11_trayed 2 (some .int)) (v_rm 0 40) (v_Pc G [.ref (G.1 143), .int a1] S) (v_Qi G post) 0 0 (v_A G) := by
  refine v_start (by decide +kernel) (Nat.le_of_ble_eq_true rfl) (fun X hl C D => ?_)
  subst hl
  have C : v_Cx X G cX11_trayed RX11 2 (v_rm 0 40) := C
  show VJ X G S 0 [(0, .ref (G.1 143)), (1, .int a1)] []
  refine V_iload_n C 1 dX11_trayed_0 rfl rfl ?_
  refine V_if_lt (tgt := 9) C dX11_trayed_1 (by decide) (fun c => ?_) (fun c => ?_)
  · have h := h.1 c
    refine V_iconst (v := 1) C dX11_trayed_9 (by decide) ?_
    refine V_goto (tgt := 27) C dX11_trayed_10 (by decide) ?_
    exact V_iret C D dX11_trayed_27 h
  · have h := h.2 c
    refine V_iload_n C 1 dX11_trayed_4 rfl rfl ?_
    refine V_iconst (v := 4) C dX11_trayed_5 (by decide) ?_
    refine V_icmp_lt (tgt := 13) C dX11_trayed_6 (by decide) (fun c => ?_) (fun c => ?_)
    · have h := h.1 c
      refine V_aload_n C 0 dX11_trayed_13 rfl rfl ?_
      refine V_ga C 143 (by decide) (by decide) F_11_5 k_RX11_17 dX11_trayed_14 ?_
      refine V_iload_n C 1 dX11_trayed_17 rfl rfl ?_
      obtain ⟨hi, h⟩ := h
      refine V_iald C 145 4 (by decide) (by decide) hi dX11_trayed_18 ?_
      refine V_if_ge (tgt := 26) C dX11_trayed_19 (by decide) (fun c => ?_) (fun c => ?_)
      · have h := h.1 c
        refine V_iconst (v := 0) C dX11_trayed_26 (by decide) ?_
        exact V_iret C D dX11_trayed_27 h
      · have h := h.2 c
        refine V_iconst (v := 3) C dX11_trayed_22 (by decide) ?_
        refine V_goto (tgt := 27) C dX11_trayed_23 (by decide) ?_
        exact V_iret C D dX11_trayed_27 h
    · have h := h.2 c
      refine V_iconst (v := 1) C dX11_trayed_9 (by decide) ?_
      refine V_goto (tgt := 27) C dX11_trayed_10 (by decide) ?_
      exact V_iret C D dX11_trayed_27 h
/-! HalfAccuserModel.placed(II)I -/
theorem dX11_placed_0 : decode cX11_placed 0 = .ok ((.aload_n 0), 1) := by decide +kernel
theorem dX11_placed_1 : decode cX11_placed 1 = .ok ((.iload_n 1), 1) := by decide +kernel
theorem dX11_placed_2 : decode cX11_placed 2 = .ok ((.invokevirtual 79), 3) := by decide +kernel
theorem dX11_placed_5 : decode cX11_placed 5 = .ok ((.istore_n 3), 1) := by decide +kernel
theorem dX11_placed_6 : decode cX11_placed 6 = .ok ((.iload_n 3), 1) := by decide +kernel
theorem dX11_placed_7 : decode cX11_placed 7 = .ok ((.ifCond .le 7), 3) := by decide +kernel
theorem dX11_placed_10 : decode cX11_placed 10 = .ok ((.iload_n 3), 1) := by decide +kernel
theorem dX11_placed_11 : decode cX11_placed 11 = .ok ((.goto 22), 3) := by decide +kernel
theorem dX11_placed_14 : decode cX11_placed 14 = .ok ((.iload_n 2), 1) := by decide +kernel
theorem dX11_placed_15 : decode cX11_placed 15 = .ok ((.ifCond .lt 13), 3) := by decide +kernel
theorem dX11_placed_18 : decode cX11_placed 18 = .ok ((.iload_n 2), 1) := by decide +kernel
theorem dX11_placed_19 : decode cX11_placed 19 = .ok ((.aload_n 0), 1) := by decide +kernel
theorem dX11_placed_20 : decode cX11_placed 20 = .ok ((.getfield 17), 3) := by decide +kernel
theorem dX11_placed_23 : decode cX11_placed 23 = .ok ((.iload_n 1), 1) := by decide +kernel
theorem dX11_placed_24 : decode cX11_placed 24 = .ok (.iaload, 1) := by decide +kernel
theorem dX11_placed_25 : decode cX11_placed 25 = .ok ((.if_icmp .lt 7), 3) := by decide +kernel
theorem dX11_placed_28 : decode cX11_placed 28 = .ok ((.iconst 4), 1) := by decide +kernel
theorem dX11_placed_29 : decode cX11_placed 29 = .ok ((.goto 4), 3) := by decide +kernel
theorem dX11_placed_32 : decode cX11_placed 32 = .ok ((.iconst 0), 1) := by decide +kernel
theorem dX11_placed_33 : decode cX11_placed 33 = .ok (.ireturn, 1) := by decide +kernel
def p_X11_placed   (S : vSt) (a1 : Int32) (a2 : Int32) (post : Int32 → vSt → Prop) : Prop := p_X11_trayed  S a1 (fun r4 S3 => ((r4 ≤ 0 → ((a2 < 0 → post 4 S3) ∧ (¬ a2 < 0 → (vp_in a1 4 ∧ ((a2 < (S3.1 145 (Int32.toNatClampNeg a1)) → post 0 S3) ∧ (¬ a2 < (S3.1 145 (Int32.toNatClampNeg a1)) → post 4 S3)))))) ∧ (¬ r4 ≤ 0 → post r4 S3)))
set_option maxHeartbeats 4000000 in
set_option maxRecDepth 100000 in
theorem c_X11_placed (l : Launch) (G : vG)    {S : vSt} (a1 : Int32) (a2 : Int32) (post : Int32 → vSt → Prop) (h : p_X11_placed   S a1 a2 post) : Met l yX11_placed (v_ws yX11_placed cX11_placed 4 (some .int)) (v_rm 1 61) (v_Pc G [.ref (G.1 143), .int a1, .int a2] S) (v_Qi G post) 0 0 (v_A G) := by
  refine v_start (by decide +kernel) (Nat.le_of_ble_eq_true rfl) (fun X hl C D => ?_)
  subst hl
  have C : v_Cx X G cX11_placed RX11 4 (v_rm 1 61) := C
  show VJ X G S 0 [(0, .ref (G.1 143)), (1, .int a1), (2, .int a2)] []
  refine V_aload_n C 0 dX11_placed_0 rfl rfl ?_
  refine V_iload_n C 1 dX11_placed_1 rfl rfl ?_
  refine V_callVi (As := [.int a1]) (rest := []) C (c_X11_trayed (v_l X) G  _ _ h) 143 11 (by decide) (by decide) (by decide) rfl KV_X11_trayed k_RX11_79 rfl rfl rfl (Nat.le_of_ble_eq_true rfl) ⟨Nat.le_of_ble_eq_true rfl, Nat.le_of_ble_eq_true rfl⟩ dX11_placed_2 (fun r4 S3 h => ?_)
  refine V_istore_n (lv' := [(0, .ref (G.1 143)), (1, .int a1), (2, .int a2), (3, .int r4)]) C [1, 2, 3, 0] dX11_placed_5 rfl (by decide) rfl ?_
  refine V_iload_n C 3 dX11_placed_6 rfl rfl ?_
  refine V_if_le (tgt := 14) C dX11_placed_7 (by decide) (fun c => ?_) (fun c => ?_)
  · have h := h.1 c
    refine V_iload_n C 2 dX11_placed_14 rfl rfl ?_
    refine V_if_lt (tgt := 28) C dX11_placed_15 (by decide) (fun c => ?_) (fun c => ?_)
    · have h := h.1 c
      refine V_iconst (v := 4) C dX11_placed_28 (by decide) ?_
      refine V_goto (tgt := 33) C dX11_placed_29 (by decide) ?_
      exact V_iret C D dX11_placed_33 h
    · have h := h.2 c
      refine V_iload_n C 2 dX11_placed_18 rfl rfl ?_
      refine V_aload_n C 0 dX11_placed_19 rfl rfl ?_
      refine V_ga C 143 (by decide) (by decide) F_11_5 k_RX11_17 dX11_placed_20 ?_
      refine V_iload_n C 1 dX11_placed_23 rfl rfl ?_
      obtain ⟨hi, h⟩ := h
      refine V_iald C 145 4 (by decide) (by decide) hi dX11_placed_24 ?_
      refine V_icmp_lt (tgt := 32) C dX11_placed_25 (by decide) (fun c => ?_) (fun c => ?_)
      · have h := h.1 c
        refine V_iconst (v := 0) C dX11_placed_32 (by decide) ?_
        exact V_iret C D dX11_placed_33 h
      · have h := h.2 c
        refine V_iconst (v := 4) C dX11_placed_28 (by decide) ?_
        refine V_goto (tgt := 33) C dX11_placed_29 (by decide) ?_
        exact V_iret C D dX11_placed_33 h
  · have h := h.2 c
    refine V_iload_n C 3 dX11_placed_10 rfl rfl ?_
    refine V_goto (tgt := 33) C dX11_placed_11 (by decide) ?_
    exact V_iret C D dX11_placed_33 h
/-! HalfAccuserModel.write(IIJ)Z -/
theorem dX11_write_0 : decode cX11_write 0 = .ok ((.aload_n 0), 1) := by decide +kernel
theorem dX11_write_1 : decode cX11_write 1 = .ok ((.iconst 0), 1) := by decide +kernel
theorem dX11_write_2 : decode cX11_write 2 = .ok ((.putfield 60), 3) := by decide +kernel
theorem dX11_write_5 : decode cX11_write 5 = .ok ((.aload_n 0), 1) := by decide +kernel
theorem dX11_write_6 : decode cX11_write 6 = .ok ((.aload_n 0), 1) := by decide +kernel
theorem dX11_write_7 : decode cX11_write 7 = .ok ((.iload_n 1), 1) := by decide +kernel
theorem dX11_write_8 : decode cX11_write 8 = .ok ((.iload_n 2), 1) := by decide +kernel
theorem dX11_write_9 : decode cX11_write 9 = .ok ((.invokevirtual 83), 3) := by decide +kernel
theorem dX11_write_12 : decode cX11_write 12 = .ok ((.putfield 63), 3) := by decide +kernel
theorem dX11_write_15 : decode cX11_write 15 = .ok ((.aload_n 0), 1) := by decide +kernel
theorem dX11_write_16 : decode cX11_write 16 = .ok ((.getfield 63), 3) := by decide +kernel
theorem dX11_write_19 : decode cX11_write 19 = .ok ((.ifCond .le 5), 3) := by decide +kernel
theorem dX11_write_22 : decode cX11_write 22 = .ok ((.iconst 0), 1) := by decide +kernel
theorem dX11_write_23 : decode cX11_write 23 = .ok (.ireturn, 1) := by decide +kernel
theorem dX11_write_24 : decode cX11_write 24 = .ok ((.aload_n 0), 1) := by decide +kernel
theorem dX11_write_25 : decode cX11_write 25 = .ok ((.getfield 20), 3) := by decide +kernel
theorem dX11_write_28 : decode cX11_write 28 = .ok ((.bipush 60), 2) := by decide +kernel
theorem dX11_write_30 : decode cX11_write 30 = .ok ((.iload_n 1), 1) := by decide +kernel
theorem dX11_write_31 : decode cX11_write 31 = .ok (.imul, 1) := by decide +kernel
theorem dX11_write_32 : decode cX11_write 32 = .ok ((.iload_n 2), 1) := by decide +kernel
theorem dX11_write_33 : decode cX11_write 33 = .ok (.iadd, 1) := by decide +kernel
theorem dX11_write_34 : decode cX11_write 34 = .ok ((.aload_n 0), 1) := by decide +kernel
theorem dX11_write_35 : decode cX11_write 35 = .ok ((.getfield 13), 3) := by decide +kernel
theorem dX11_write_38 : decode cX11_write 38 = .ok ((.iload_n 1), 1) := by decide +kernel
theorem dX11_write_39 : decode cX11_write 39 = .ok (.iaload, 1) := by decide +kernel
theorem dX11_write_40 : decode cX11_write 40 = .ok ((.lload_n 3), 1) := by decide +kernel
theorem dX11_write_41 : decode cX11_write 41 = .ok ((.invokestatic 87), 3) := by decide +kernel
theorem dX11_write_44 : decode cX11_write 44 = .ok (.lastore, 1) := by decide +kernel
theorem dX11_write_45 : decode cX11_write 45 = .ok ((.iconst 1), 1) := by decide +kernel
theorem dX11_write_46 : decode cX11_write 46 = .ok (.ireturn, 1) := by decide +kernel
def p_X11_write   (S : vSt) (a1 : Int32) (a2 : Int32) (a3 : Int64) (post : Bool → vSt → Prop) : Prop := ∀ S8, S8 = v_si S 143 1 0 → p_X11_placed  S8 a1 a2 (fun r10 S9 => ∀ S11, S11 = v_si S9 143 0 r10 → (((S11.1 143 0) ≤ 0 → (vp_in a1 4 ∧ p_X11_cut  S11 (S11.1 144 (Int32.toNatClampNeg a1)) a3 (fun r13 S12 => (vp_in ((60 * a1) + a2) 240 ∧ ∀ S14, S14 = v_sl S12 146 (Int32.toNatClampNeg ((60 * a1) + a2)) r13 → post true S14)))) ∧ (¬ (S11.1 143 0) ≤ 0 → post false S11)))
set_option maxHeartbeats 4000000 in
set_option maxRecDepth 100000 in
theorem c_X11_write (l : Launch) (G : vG)    {S : vSt} (a1 : Int32) (a2 : Int32) (a3 : Int64) (post : Bool → vSt → Prop) (h : p_X11_write   S a1 a2 a3 post) : Met l yX11_write (v_ws yX11_write cX11_write 5 (some .boolean)) (v_rm 2 84) (v_Pc G [.ref (G.1 143), .int a1, .int a2, .long a3] S) (v_Qz G post) 0 0 (v_A G) := by
  refine v_start (by decide +kernel) (Nat.le_of_ble_eq_true rfl) (fun X hl C D => ?_)
  subst hl
  have C : v_Cx X G cX11_write RX11 5 (v_rm 2 84) := C
  show VJ X G S 0 [(0, .ref (G.1 143)), (1, .int a1), (2, .int a2), (3, .long a3)] []
  refine V_aload_n C 0 dX11_write_0 rfl rfl ?_
  refine V_iconst (v := 0) C dX11_write_1 (by decide) ?_
  refine V_pi C 143 (by decide) (by decide) P_11_1 k_RX11_60 dX11_write_2 ?_
  refine V_topS (fun S8 eS8 => ?_)
  have h := h S8 eS8
  refine V_aload_n C 0 dX11_write_5 rfl rfl ?_
  refine V_aload_n C 0 dX11_write_6 rfl rfl ?_
  refine V_iload_n C 1 dX11_write_7 rfl rfl ?_
  refine V_iload_n C 2 dX11_write_8 rfl rfl ?_
  refine V_callVi (As := [.int a1, .int a2]) (rest := [.ref (G.1 143)]) C (c_X11_placed (v_l X) G  _ _ _ h) 143 11 (by decide) (by decide) (by decide) rfl KV_X11_placed k_RX11_83 rfl rfl rfl (Nat.le_of_ble_eq_true rfl) ⟨Nat.le_of_ble_eq_true rfl, Nat.le_of_ble_eq_true rfl⟩ dX11_write_9 (fun r10 S9 h => ?_)
  refine V_pi C 143 (by decide) (by decide) P_11_0 k_RX11_63 dX11_write_12 ?_
  refine V_topS (fun S11 eS11 => ?_)
  have h := h S11 eS11
  refine V_aload_n C 0 dX11_write_15 rfl rfl ?_
  refine V_gi C 143 (by decide) (by decide) F_11_0 k_RX11_63 dX11_write_16 ?_
  refine V_if_le (tgt := 24) C dX11_write_19 (by decide) (fun c => ?_) (fun c => ?_)
  · have h := h.1 c
    refine V_aload_n C 0 dX11_write_24 rfl rfl ?_
    refine V_ga C 143 (by decide) (by decide) F_11_6 k_RX11_20 dX11_write_25 ?_
    refine V_bipush (v := 60) C dX11_write_28 (by decide) ?_
    refine V_iload_n C 1 dX11_write_30 rfl rfl ?_
    refine V_imul C dX11_write_31 ?_
    refine V_iload_n C 2 dX11_write_32 rfl rfl ?_
    refine V_iadd C dX11_write_33 ?_
    refine V_aload_n C 0 dX11_write_34 rfl rfl ?_
    refine V_ga C 143 (by decide) (by decide) F_11_4 k_RX11_13 dX11_write_35 ?_
    refine V_iload_n C 1 dX11_write_38 rfl rfl ?_
    obtain ⟨hi, h⟩ := h
    refine V_iald C 144 4 (by decide) (by decide) hi dX11_write_39 ?_
    refine V_lload_n C 3 dX11_write_40 rfl rfl ?_
    refine V_callSl (As := [.int (S11.1 144 (Int32.toNatClampNeg a1)), .long a3]) (rest := [.int ((60 * a1) + a2), .ref (G.1 146)]) C (c_X11_cut (v_l X) G  _ _ _ h) KV_X11_cut k_RX11_87 rfl rfl rfl (Nat.le_of_ble_eq_true rfl) ⟨Nat.le_of_ble_eq_true rfl, Nat.le_of_ble_eq_true rfl⟩ dX11_write_41 (fun r13 S12 h => ?_)
    obtain ⟨hi, h⟩ := h
    refine V_last C 146 240 (by decide) (by decide) hi dX11_write_44 ?_
    refine V_topS (fun S14 eS14 => ?_)
    have h := h S14 eS14
    refine V_iconst (v := 1) C dX11_write_45 (by decide) ?_
    exact V_zret1 C D dX11_write_46 h
  · have h := h.2 c
    refine V_iconst (v := 0) C dX11_write_22 (by decide) ?_
    exact V_zret0 C D dX11_write_23 h
/-! HalfAccuserModel.read(II)J -/
theorem dX11_read_0 : decode cX11_read 0 = .ok ((.aload_n 0), 1) := by decide +kernel
theorem dX11_read_1 : decode cX11_read 1 = .ok ((.iconst 0), 1) := by decide +kernel
theorem dX11_read_2 : decode cX11_read 2 = .ok ((.putfield 60), 3) := by decide +kernel
theorem dX11_read_5 : decode cX11_read 5 = .ok ((.aload_n 0), 1) := by decide +kernel
theorem dX11_read_6 : decode cX11_read 6 = .ok ((.aload_n 0), 1) := by decide +kernel
theorem dX11_read_7 : decode cX11_read 7 = .ok ((.iload_n 1), 1) := by decide +kernel
theorem dX11_read_8 : decode cX11_read 8 = .ok ((.iload_n 2), 1) := by decide +kernel
theorem dX11_read_9 : decode cX11_read 9 = .ok ((.invokevirtual 83), 3) := by decide +kernel
theorem dX11_read_12 : decode cX11_read 12 = .ok ((.putfield 63), 3) := by decide +kernel
theorem dX11_read_15 : decode cX11_read 15 = .ok ((.aload_n 0), 1) := by decide +kernel
theorem dX11_read_16 : decode cX11_read 16 = .ok ((.getfield 63), 3) := by decide +kernel
theorem dX11_read_19 : decode cX11_read 19 = .ok ((.ifCond .le 9), 3) := by decide +kernel
theorem dX11_read_22 : decode cX11_read 22 = .ok ((.ldc2_w 91), 3) := by decide +kernel
theorem dX11_read_25 : decode cX11_read 25 = .ok ((.goto 14), 3) := by decide +kernel
theorem dX11_read_28 : decode cX11_read 28 = .ok ((.aload_n 0), 1) := by decide +kernel
theorem dX11_read_29 : decode cX11_read 29 = .ok ((.getfield 20), 3) := by decide +kernel
theorem dX11_read_32 : decode cX11_read 32 = .ok ((.bipush 60), 2) := by decide +kernel
theorem dX11_read_34 : decode cX11_read 34 = .ok ((.iload_n 1), 1) := by decide +kernel
theorem dX11_read_35 : decode cX11_read 35 = .ok (.imul, 1) := by decide +kernel
theorem dX11_read_36 : decode cX11_read 36 = .ok ((.iload_n 2), 1) := by decide +kernel
theorem dX11_read_37 : decode cX11_read 37 = .ok (.iadd, 1) := by decide +kernel
theorem dX11_read_38 : decode cX11_read 38 = .ok (.laload, 1) := by decide +kernel
theorem dX11_read_39 : decode cX11_read 39 = .ok (.lreturn, 1) := by decide +kernel
def p_X11_read   (S : vSt) (a1 : Int32) (a2 : Int32) (post : Int64 → vSt → Prop) : Prop := ∀ S5, S5 = v_si S 143 1 0 → p_X11_placed  S5 a1 a2 (fun r7 S6 => ∀ S8, S8 = v_si S6 143 0 r7 → (((S8.1 143 0) ≤ 0 → (vp_in ((60 * a1) + a2) 240 ∧ post (S8.2 146 (Int32.toNatClampNeg ((60 * a1) + a2))) S8)) ∧ (¬ (S8.1 143 0) ≤ 0 → post (-1) S8)))
set_option maxHeartbeats 4000000 in
set_option maxRecDepth 100000 in
theorem c_X11_read (l : Launch) (G : vG)    {S : vSt} (a1 : Int32) (a2 : Int32) (post : Int64 → vSt → Prop) (h : p_X11_read   S a1 a2 post) : Met l yX11_read (v_ws yX11_read cX11_read 3 (some .long)) (v_rm 2 84) (v_Pc G [.ref (G.1 143), .int a1, .int a2] S) (v_Ql G post) 0 0 (v_A G) := by
  refine v_start (by decide +kernel) (Nat.le_of_ble_eq_true rfl) (fun X hl C D => ?_)
  subst hl
  have C : v_Cx X G cX11_read RX11 3 (v_rm 2 84) := C
  show VJ X G S 0 [(0, .ref (G.1 143)), (1, .int a1), (2, .int a2)] []
  refine V_aload_n C 0 dX11_read_0 rfl rfl ?_
  refine V_iconst (v := 0) C dX11_read_1 (by decide) ?_
  refine V_pi C 143 (by decide) (by decide) P_11_1 k_RX11_60 dX11_read_2 ?_
  refine V_topS (fun S5 eS5 => ?_)
  have h := h S5 eS5
  refine V_aload_n C 0 dX11_read_5 rfl rfl ?_
  refine V_aload_n C 0 dX11_read_6 rfl rfl ?_
  refine V_iload_n C 1 dX11_read_7 rfl rfl ?_
  refine V_iload_n C 2 dX11_read_8 rfl rfl ?_
  refine V_callVi (As := [.int a1, .int a2]) (rest := [.ref (G.1 143)]) C (c_X11_placed (v_l X) G  _ _ _ h) 143 11 (by decide) (by decide) (by decide) rfl KV_X11_placed k_RX11_83 rfl rfl rfl (Nat.le_of_ble_eq_true rfl) ⟨Nat.le_of_ble_eq_true rfl, Nat.le_of_ble_eq_true rfl⟩ dX11_read_9 (fun r7 S6 h => ?_)
  refine V_pi C 143 (by decide) (by decide) P_11_0 k_RX11_63 dX11_read_12 ?_
  refine V_topS (fun S8 eS8 => ?_)
  have h := h S8 eS8
  refine V_aload_n C 0 dX11_read_15 rfl rfl ?_
  refine V_gi C 143 (by decide) (by decide) F_11_0 k_RX11_63 dX11_read_16 ?_
  refine V_if_le (tgt := 28) C dX11_read_19 (by decide) (fun c => ?_) (fun c => ?_)
  · have h := h.1 c
    refine V_aload_n C 0 dX11_read_28 rfl rfl ?_
    refine V_ga C 143 (by decide) (by decide) F_11_6 k_RX11_20 dX11_read_29 ?_
    refine V_bipush (v := 60) C dX11_read_32 (by decide) ?_
    refine V_iload_n C 1 dX11_read_34 rfl rfl ?_
    refine V_imul C dX11_read_35 ?_
    refine V_iload_n C 2 dX11_read_36 rfl rfl ?_
    refine V_iadd C dX11_read_37 ?_
    obtain ⟨hi, h⟩ := h
    refine V_lald C 146 240 (by decide) (by decide) hi dX11_read_38 ?_
    exact V_lret C D dX11_read_39 h
  · have h := h.2 c
    refine V_ldc2 (v := (-1)) C k_RX11_91 dX11_read_22 ?_
    refine V_goto (tgt := 39) C dX11_read_25 (by decide) ?_
    exact V_lret C D dX11_read_39 h
/-! HalfAccuserModel.pour(IIIII)Z -/
theorem dX11_pour_0 : decode cX11_pour 0 = .ok ((.aload_n 0), 1) := by decide +kernel
theorem dX11_pour_1 : decode cX11_pour 1 = .ok ((.iconst 0), 1) := by decide +kernel
theorem dX11_pour_2 : decode cX11_pour 2 = .ok ((.putfield 60), 3) := by decide +kernel
theorem dX11_pour_5 : decode cX11_pour 5 = .ok ((.aload_n 0), 1) := by decide +kernel
theorem dX11_pour_6 : decode cX11_pour 6 = .ok ((.iconst 0), 1) := by decide +kernel
theorem dX11_pour_7 : decode cX11_pour 7 = .ok ((.putfield 63), 3) := by decide +kernel
theorem dX11_pour_10 : decode cX11_pour 10 = .ok ((.iload_n 1), 1) := by decide +kernel
theorem dX11_pour_11 : decode cX11_pour 11 = .ok ((.ifCond .lt 17), 3) := by decide +kernel
theorem dX11_pour_14 : decode cX11_pour 14 = .ok ((.iload_n 1), 1) := by decide +kernel
theorem dX11_pour_15 : decode cX11_pour 15 = .ok ((.iconst 4), 1) := by decide +kernel
theorem dX11_pour_16 : decode cX11_pour 16 = .ok ((.if_icmp .ge 12), 3) := by decide +kernel
theorem dX11_pour_19 : decode cX11_pour 19 = .ok ((.iload_n 3), 1) := by decide +kernel
theorem dX11_pour_20 : decode cX11_pour 20 = .ok ((.ifCond .lt 8), 3) := by decide +kernel
theorem dX11_pour_23 : decode cX11_pour 23 = .ok ((.iload_n 3), 1) := by decide +kernel
theorem dX11_pour_24 : decode cX11_pour 24 = .ok ((.iconst 4), 1) := by decide +kernel
theorem dX11_pour_25 : decode cX11_pour 25 = .ok ((.if_icmp .lt 9), 3) := by decide +kernel
theorem dX11_pour_28 : decode cX11_pour 28 = .ok ((.aload_n 0), 1) := by decide +kernel
theorem dX11_pour_29 : decode cX11_pour 29 = .ok ((.iconst 1), 1) := by decide +kernel
theorem dX11_pour_30 : decode cX11_pour 30 = .ok ((.invokevirtual 75), 3) := by decide +kernel
theorem dX11_pour_33 : decode cX11_pour 33 = .ok (.ireturn, 1) := by decide +kernel
theorem dX11_pour_34 : decode cX11_pour 34 = .ok ((.aload_n 0), 1) := by decide +kernel
theorem dX11_pour_35 : decode cX11_pour 35 = .ok ((.getfield 17), 3) := by decide +kernel
theorem dX11_pour_38 : decode cX11_pour 38 = .ok ((.iload_n 1), 1) := by decide +kernel
theorem dX11_pour_39 : decode cX11_pour 39 = .ok (.iaload, 1) := by decide +kernel
theorem dX11_pour_40 : decode cX11_pour 40 = .ok ((.ifCond .lt 12), 3) := by decide +kernel
theorem dX11_pour_43 : decode cX11_pour 43 = .ok ((.aload_n 0), 1) := by decide +kernel
theorem dX11_pour_44 : decode cX11_pour 44 = .ok ((.getfield 17), 3) := by decide +kernel
theorem dX11_pour_47 : decode cX11_pour 47 = .ok ((.iload_n 3), 1) := by decide +kernel
theorem dX11_pour_48 : decode cX11_pour 48 = .ok (.iaload, 1) := by decide +kernel
theorem dX11_pour_49 : decode cX11_pour 49 = .ok ((.ifCond .ge 9), 3) := by decide +kernel
theorem dX11_pour_52 : decode cX11_pour 52 = .ok ((.aload_n 0), 1) := by decide +kernel
theorem dX11_pour_53 : decode cX11_pour 53 = .ok ((.iconst 3), 1) := by decide +kernel
theorem dX11_pour_54 : decode cX11_pour 54 = .ok ((.invokevirtual 75), 3) := by decide +kernel
theorem dX11_pour_57 : decode cX11_pour 57 = .ok (.ireturn, 1) := by decide +kernel
theorem dX11_pour_58 : decode cX11_pour 58 = .ok ((.aload_n 0), 1) := by decide +kernel
theorem dX11_pour_59 : decode cX11_pour 59 = .ok ((.getfield 13), 3) := by decide +kernel
theorem dX11_pour_62 : decode cX11_pour 62 = .ok ((.iload_n 1), 1) := by decide +kernel
theorem dX11_pour_63 : decode cX11_pour 63 = .ok (.iaload, 1) := by decide +kernel
theorem dX11_pour_64 : decode cX11_pour 64 = .ok ((.aload_n 0), 1) := by decide +kernel
theorem dX11_pour_65 : decode cX11_pour 65 = .ok ((.getfield 13), 3) := by decide +kernel
theorem dX11_pour_68 : decode cX11_pour 68 = .ok ((.iload_n 3), 1) := by decide +kernel
theorem dX11_pour_69 : decode cX11_pour 69 = .ok (.iaload, 1) := by decide +kernel
theorem dX11_pour_70 : decode cX11_pour 70 = .ok ((.if_icmp .eq 10), 3) := by decide +kernel
theorem dX11_pour_73 : decode cX11_pour 73 = .ok ((.aload_n 0), 1) := by decide +kernel
theorem dX11_pour_74 : decode cX11_pour 74 = .ok ((.bipush 11), 2) := by decide +kernel
theorem dX11_pour_76 : decode cX11_pour 76 = .ok ((.invokevirtual 75), 3) := by decide +kernel
theorem dX11_pour_79 : decode cX11_pour 79 = .ok (.ireturn, 1) := by decide +kernel
theorem dX11_pour_80 : decode cX11_pour 80 = .ok ((.iload 5), 2) := by decide +kernel
theorem dX11_pour_82 : decode cX11_pour 82 = .ok ((.ifCond .ge 10), 3) := by decide +kernel
theorem dX11_pour_85 : decode cX11_pour 85 = .ok ((.aload_n 0), 1) := by decide +kernel
theorem dX11_pour_86 : decode cX11_pour 86 = .ok ((.bipush 6), 2) := by decide +kernel
theorem dX11_pour_88 : decode cX11_pour 88 = .ok ((.invokevirtual 75), 3) := by decide +kernel
theorem dX11_pour_91 : decode cX11_pour 91 = .ok (.ireturn, 1) := by decide +kernel
theorem dX11_pour_92 : decode cX11_pour 92 = .ok ((.iload_n 2), 1) := by decide +kernel
theorem dX11_pour_93 : decode cX11_pour 93 = .ok ((.ifCond .lt 43), 3) := by decide +kernel
theorem dX11_pour_96 : decode cX11_pour 96 = .ok ((.iload 4), 2) := by decide +kernel
theorem dX11_pour_98 : decode cX11_pour 98 = .ok ((.ifCond .lt 38), 3) := by decide +kernel
theorem dX11_pour_101 : decode cX11_pour 101 = .ok ((.iload_n 2), 1) := by decide +kernel
theorem dX11_pour_102 : decode cX11_pour 102 = .ok (.i2l, 1) := by decide +kernel
theorem dX11_pour_103 : decode cX11_pour 103 = .ok ((.iload 5), 2) := by decide +kernel
theorem dX11_pour_105 : decode cX11_pour 105 = .ok (.i2l, 1) := by decide +kernel
theorem dX11_pour_106 : decode cX11_pour 106 = .ok (.ladd, 1) := by decide +kernel
theorem dX11_pour_107 : decode cX11_pour 107 = .ok ((.aload_n 0), 1) := by decide +kernel
theorem dX11_pour_108 : decode cX11_pour 108 = .ok ((.getfield 17), 3) := by decide +kernel
theorem dX11_pour_111 : decode cX11_pour 111 = .ok ((.iload_n 1), 1) := by decide +kernel
theorem dX11_pour_112 : decode cX11_pour 112 = .ok (.iaload, 1) := by decide +kernel
theorem dX11_pour_113 : decode cX11_pour 113 = .ok (.i2l, 1) := by decide +kernel
theorem dX11_pour_114 : decode cX11_pour 114 = .ok (.lcmp, 1) := by decide +kernel
theorem dX11_pour_115 : decode cX11_pour 115 = .ok ((.ifCond .gt 21), 3) := by decide +kernel
theorem dX11_pour_118 : decode cX11_pour 118 = .ok ((.iload 4), 2) := by decide +kernel
theorem dX11_pour_120 : decode cX11_pour 120 = .ok (.i2l, 1) := by decide +kernel
theorem dX11_pour_121 : decode cX11_pour 121 = .ok ((.iload 5), 2) := by decide +kernel
theorem dX11_pour_123 : decode cX11_pour 123 = .ok (.i2l, 1) := by decide +kernel
theorem dX11_pour_124 : decode cX11_pour 124 = .ok (.ladd, 1) := by decide +kernel
theorem dX11_pour_125 : decode cX11_pour 125 = .ok ((.aload_n 0), 1) := by decide +kernel
theorem dX11_pour_126 : decode cX11_pour 126 = .ok ((.getfield 17), 3) := by decide +kernel
theorem dX11_pour_129 : decode cX11_pour 129 = .ok ((.iload_n 3), 1) := by decide +kernel
theorem dX11_pour_130 : decode cX11_pour 130 = .ok (.iaload, 1) := by decide +kernel
theorem dX11_pour_131 : decode cX11_pour 131 = .ok (.i2l, 1) := by decide +kernel
theorem dX11_pour_132 : decode cX11_pour 132 = .ok (.lcmp, 1) := by decide +kernel
theorem dX11_pour_133 : decode cX11_pour 133 = .ok ((.ifCond .le 9), 3) := by decide +kernel
theorem dX11_pour_136 : decode cX11_pour 136 = .ok ((.aload_n 0), 1) := by decide +kernel
theorem dX11_pour_137 : decode cX11_pour 137 = .ok ((.iconst 4), 1) := by decide +kernel
theorem dX11_pour_138 : decode cX11_pour 138 = .ok ((.invokevirtual 75), 3) := by decide +kernel
theorem dX11_pour_141 : decode cX11_pour 141 = .ok (.ireturn, 1) := by decide +kernel
theorem dX11_pour_142 : decode cX11_pour 142 = .ok ((.iload_n 2), 1) := by decide +kernel
theorem dX11_pour_143 : decode cX11_pour 143 = .ok ((.iload 4), 2) := by decide +kernel
theorem dX11_pour_145 : decode cX11_pour 145 = .ok ((.if_icmp .ge 7), 3) := by decide +kernel
theorem dX11_pour_148 : decode cX11_pour 148 = .ok ((.iconst 1), 1) := by decide +kernel
theorem dX11_pour_149 : decode cX11_pour 149 = .ok ((.goto 4), 3) := by decide +kernel
theorem dX11_pour_152 : decode cX11_pour 152 = .ok ((.iconst 0), 1) := by decide +kernel
theorem dX11_pour_153 : decode cX11_pour 153 = .ok ((.istore 6), 2) := by decide +kernel
theorem dX11_pour_155 : decode cX11_pour 155 = .ok ((.iconst 0), 1) := by decide +kernel
theorem dX11_pour_156 : decode cX11_pour 156 = .ok ((.istore 7), 2) := by decide +kernel
theorem dX11_pour_158 : decode cX11_pour 158 = .ok ((.iload 7), 2) := by decide +kernel
theorem dX11_pour_160 : decode cX11_pour 160 = .ok ((.iload 5), 2) := by decide +kernel
theorem dX11_pour_162 : decode cX11_pour 162 = .ok ((.if_icmp .ge 57), 3) := by decide +kernel
theorem dX11_pour_165 : decode cX11_pour 165 = .ok ((.iload 6), 2) := by decide +kernel
theorem dX11_pour_167 : decode cX11_pour 167 = .ok ((.ifCond .eq 13), 3) := by decide +kernel
theorem dX11_pour_170 : decode cX11_pour 170 = .ok ((.iload 5), 2) := by decide +kernel
theorem dX11_pour_172 : decode cX11_pour 172 = .ok ((.iconst 1), 1) := by decide +kernel
theorem dX11_pour_173 : decode cX11_pour 173 = .ok (.isub, 1) := by decide +kernel
theorem dX11_pour_174 : decode cX11_pour 174 = .ok ((.iload 7), 2) := by decide +kernel
theorem dX11_pour_176 : decode cX11_pour 176 = .ok (.isub, 1) := by decide +kernel
theorem dX11_pour_177 : decode cX11_pour 177 = .ok ((.goto 5), 3) := by decide +kernel
theorem dX11_pour_180 : decode cX11_pour 180 = .ok ((.iload 7), 2) := by decide +kernel
theorem dX11_pour_182 : decode cX11_pour 182 = .ok ((.istore 8), 2) := by decide +kernel
theorem dX11_pour_184 : decode cX11_pour 184 = .ok ((.aload_n 0), 1) := by decide +kernel
theorem dX11_pour_185 : decode cX11_pour 185 = .ok ((.getfield 20), 3) := by decide +kernel
theorem dX11_pour_188 : decode cX11_pour 188 = .ok ((.bipush 60), 2) := by decide +kernel
theorem dX11_pour_190 : decode cX11_pour 190 = .ok ((.iload_n 3), 1) := by decide +kernel
theorem dX11_pour_191 : decode cX11_pour 191 = .ok (.imul, 1) := by decide +kernel
theorem dX11_pour_192 : decode cX11_pour 192 = .ok ((.iload 4), 2) := by decide +kernel
theorem dX11_pour_194 : decode cX11_pour 194 = .ok (.iadd, 1) := by decide +kernel
theorem dX11_pour_195 : decode cX11_pour 195 = .ok ((.iload 8), 2) := by decide +kernel
theorem dX11_pour_197 : decode cX11_pour 197 = .ok (.iadd, 1) := by decide +kernel
theorem dX11_pour_198 : decode cX11_pour 198 = .ok ((.aload_n 0), 1) := by decide +kernel
theorem dX11_pour_199 : decode cX11_pour 199 = .ok ((.getfield 20), 3) := by decide +kernel
theorem dX11_pour_202 : decode cX11_pour 202 = .ok ((.bipush 60), 2) := by decide +kernel
theorem dX11_pour_204 : decode cX11_pour 204 = .ok ((.iload_n 1), 1) := by decide +kernel
theorem dX11_pour_205 : decode cX11_pour 205 = .ok (.imul, 1) := by decide +kernel
theorem dX11_pour_206 : decode cX11_pour 206 = .ok ((.iload_n 2), 1) := by decide +kernel
theorem dX11_pour_207 : decode cX11_pour 207 = .ok (.iadd, 1) := by decide +kernel
theorem dX11_pour_208 : decode cX11_pour 208 = .ok ((.iload 8), 2) := by decide +kernel
theorem dX11_pour_210 : decode cX11_pour 210 = .ok (.iadd, 1) := by decide +kernel
theorem dX11_pour_211 : decode cX11_pour 211 = .ok (.laload, 1) := by decide +kernel
theorem dX11_pour_212 : decode cX11_pour 212 = .ok (.lastore, 1) := by decide +kernel
theorem dX11_pour_213 : decode cX11_pour 213 = .ok ((.iinc 7 1), 3) := by decide +kernel
theorem dX11_pour_216 : decode cX11_pour 216 = .ok ((.goto (-58)), 3) := by decide +kernel
theorem dX11_pour_219 : decode cX11_pour 219 = .ok ((.iconst 1), 1) := by decide +kernel
theorem dX11_pour_220 : decode cX11_pour 220 = .ok (.ireturn, 1) := by decide +kernel
def p_X11_pour_28  (a1 : Int32) (a2 : Int32) (a3 : Int32) (a4 : Int32) (a5 : Int32)   (post : Bool → vSt → Prop) (S : vSt)  : Prop := p_X11_no  S 1 (fun r20 S19 => post r20 S19)
def p_X11_pour_52  (a1 : Int32) (a2 : Int32) (a3 : Int32) (a4 : Int32) (a5 : Int32)   (post : Bool → vSt → Prop) (S : vSt)  : Prop := p_X11_no  S 3 (fun r20 S19 => post r20 S19)
def p_X11_pour_136  (a1 : Int32) (a2 : Int32) (a3 : Int32) (a4 : Int32) (a5 : Int32)   (post : Bool → vSt → Prop) (S : vSt)  : Prop := p_X11_no  S 4 (fun r20 S19 => post r20 S19)
def p_X11_pour_182  (a1 : Int32) (a2 : Int32) (a3 : Int32) (a4 : Int32) (a5 : Int32)  (K158 : vSt → Bool → Int32 → Prop) (post : Bool → vSt → Prop) (S : vSt) (x6 : Bool) (x7 : Int32) (s0 : Int32) : Prop := (vp_in (((60 * a1) + a2) + s0) 240 ∧ (vp_in (((60 * a3) + a4) + s0) 240 ∧ ∀ S19, S19 = v_sl S 146 (Int32.toNatClampNeg (((60 * a3) + a4) + s0)) (S.2 146 (Int32.toNatClampNeg (((60 * a1) + a2) + s0))) → ∀ y20 : Int32, y20 = x7 + 1 → K158 S19 x6 y20))
def p_X11_pour_158  (a1 : Int32) (a2 : Int32) (a3 : Int32) (a4 : Int32) (a5 : Int32)   (post : Bool → vSt → Prop) : Nat → vSt → Bool → Int32 → Prop
  | 0 => fun _ _ _ => False
  | fu158 + 1 => fun S x6 x7 => ((a5 ≤ x7 → post true S) ∧ (¬ a5 ≤ x7 → ((x6 = false → p_X11_pour_182 a1 a2 a3 a4 a5 (p_X11_pour_158 a1 a2 a3 a4 a5 post fu158) post S x6 x7 x7) ∧ (x6 = true → p_X11_pour_182 a1 a2 a3 a4 a5 (p_X11_pour_158 a1 a2 a3 a4 a5 post fu158) post S x6 x7 ((a5 - 1) - x7)))))
theorem e_X11_pour_158  (a1 : Int32) (a2 : Int32) (a3 : Int32) (a4 : Int32) (a5 : Int32)   (post : Bool → vSt → Prop) (fu158 : Nat) (S : vSt) (x6 : Bool) (x7 : Int32) : p_X11_pour_158 a1 a2 a3 a4 a5 post (fu158 + 1) S x6 x7 = (((a5 ≤ x7 → post true S) ∧ (¬ a5 ≤ x7 → ((x6 = false → p_X11_pour_182 a1 a2 a3 a4 a5 (p_X11_pour_158 a1 a2 a3 a4 a5 post fu158) post S x6 x7 x7) ∧ (x6 = true → p_X11_pour_182 a1 a2 a3 a4 a5 (p_X11_pour_158 a1 a2 a3 a4 a5 post fu158) post S x6 x7 ((a5 - 1) - x7)))))) := rfl
def p_X11_pour_153  (a1 : Int32) (a2 : Int32) (a3 : Int32) (a4 : Int32) (a5 : Int32)   (post : Bool → vSt → Prop) (S : vSt) (s0 : Bool) : Prop := ∃ fu158, p_X11_pour_158 a1 a2 a3 a4 a5 post fu158 S s0 0
def p_X11_pour   (S : vSt) (a1 : Int32) (a2 : Int32) (a3 : Int32) (a4 : Int32) (a5 : Int32) (post : Bool → vSt → Prop) : Prop := ∀ S17, S17 = v_si S 143 1 0 → ∀ S18, S18 = v_si S17 143 0 0 → ((a1 < 0 → p_X11_pour_28 a1 a2 a3 a4 a5 post S18 ) ∧ (¬ a1 < 0 → ((4 ≤ a1 → p_X11_pour_28 a1 a2 a3 a4 a5 post S18 ) ∧ (¬ 4 ≤ a1 → ((a3 < 0 → p_X11_pour_28 a1 a2 a3 a4 a5 post S18 ) ∧ (¬ a3 < 0 → ((a3 < 4 → (vp_in a1 4 ∧ (((S18.1 145 (Int32.toNatClampNeg a1)) < 0 → p_X11_pour_52 a1 a2 a3 a4 a5 post S18 ) ∧ (¬ (S18.1 145 (Int32.toNatClampNeg a1)) < 0 → (vp_in a3 4 ∧ ((0 ≤ (S18.1 145 (Int32.toNatClampNeg a3)) → (vp_in a1 4 ∧ (vp_in a3 4 ∧ (((S18.1 144 (Int32.toNatClampNeg a1)) = (S18.1 144 (Int32.toNatClampNeg a3)) → ((0 ≤ a5 → ((a2 < 0 → p_X11_pour_136 a1 a2 a3 a4 a5 post S18 ) ∧ (¬ a2 < 0 → ((a4 < 0 → p_X11_pour_136 a1 a2 a3 a4 a5 post S18 ) ∧ (¬ a4 < 0 → (vp_in a1 4 ∧ (((Int32.toInt64 (S18.1 145 (Int32.toNatClampNeg a1))) < ((Int32.toInt64 a2) + (Int32.toInt64 a5)) → p_X11_pour_136 a1 a2 a3 a4 a5 post S18 ) ∧ (¬ (Int32.toInt64 (S18.1 145 (Int32.toNatClampNeg a1))) < ((Int32.toInt64 a2) + (Int32.toInt64 a5)) → (vp_in a3 4 ∧ ((((Int32.toInt64 a4) + (Int32.toInt64 a5)) ≤ (Int32.toInt64 (S18.1 145 (Int32.toNatClampNeg a3))) → ((a4 ≤ a2 → p_X11_pour_153 a1 a2 a3 a4 a5 post S18 false) ∧ (¬ a4 ≤ a2 → p_X11_pour_153 a1 a2 a3 a4 a5 post S18 true))) ∧ (¬ ((Int32.toInt64 a4) + (Int32.toInt64 a5)) ≤ (Int32.toInt64 (S18.1 145 (Int32.toNatClampNeg a3))) → p_X11_pour_136 a1 a2 a3 a4 a5 post S18 ))))))))))) ∧ (¬ 0 ≤ a5 → p_X11_no  S18 6 (fun r20 S19 => post r20 S19)))) ∧ (¬ (S18.1 144 (Int32.toNatClampNeg a1)) = (S18.1 144 (Int32.toNatClampNeg a3)) → p_X11_no  S18 11 (fun r22 S21 => post r22 S21)))))) ∧ (¬ 0 ≤ (S18.1 145 (Int32.toNatClampNeg a3)) → p_X11_pour_52 a1 a2 a3 a4 a5 post S18 ))))))) ∧ (¬ a3 < 4 → p_X11_pour_28 a1 a2 a3 a4 a5 post S18 ))))))))
set_option maxHeartbeats 4000000 in
set_option maxRecDepth 100000 in
theorem q_X11_pour_28 {X : vX} {G : vG}  {post : Bool → vSt → Prop} (C : v_Cx X G cX11_pour RX11 9 (v_rm 1 61)) (D : v_Rx X G (v_Qz G post) (some .boolean))  {a1 : Int32} {a2 : Int32} {a3 : Int32} {a4 : Int32} {a5 : Int32}   : ∀ (S : vSt), p_X11_pour_28 a1 a2 a3 a4 a5 post S  → VJ X G S 28 [(0, .ref (G.1 143))] [] := by
  intro S  h
  refine V_aload_n C 0 dX11_pour_28 rfl rfl ?_
  refine V_iconst (v := 1) C dX11_pour_29 (by decide) ?_
  refine V_callVz (As := [.int 1]) (rest := []) C (c_X11_no (v_l X) G  _ _ h) 143 11 (by decide) (by decide) (by decide) rfl KV_X11_no k_RX11_75 rfl rfl rfl (Nat.le_of_ble_eq_true rfl) ⟨Nat.le_of_ble_eq_true rfl, Nat.le_of_ble_eq_true rfl⟩ dX11_pour_30 (fun r20 S19 h => ?_)
  exact V_zret C D dX11_pour_33 h
set_option maxHeartbeats 4000000 in
set_option maxRecDepth 100000 in
theorem q_X11_pour_52 {X : vX} {G : vG}  {post : Bool → vSt → Prop} (C : v_Cx X G cX11_pour RX11 9 (v_rm 1 61)) (D : v_Rx X G (v_Qz G post) (some .boolean))  {a1 : Int32} {a2 : Int32} {a3 : Int32} {a4 : Int32} {a5 : Int32}   : ∀ (S : vSt), p_X11_pour_52 a1 a2 a3 a4 a5 post S  → VJ X G S 52 [(0, .ref (G.1 143))] [] := by
  intro S  h
  refine V_aload_n C 0 dX11_pour_52 rfl rfl ?_
  refine V_iconst (v := 3) C dX11_pour_53 (by decide) ?_
  refine V_callVz (As := [.int 3]) (rest := []) C (c_X11_no (v_l X) G  _ _ h) 143 11 (by decide) (by decide) (by decide) rfl KV_X11_no k_RX11_75 rfl rfl rfl (Nat.le_of_ble_eq_true rfl) ⟨Nat.le_of_ble_eq_true rfl, Nat.le_of_ble_eq_true rfl⟩ dX11_pour_54 (fun r20 S19 h => ?_)
  exact V_zret C D dX11_pour_57 h
set_option maxHeartbeats 4000000 in
set_option maxRecDepth 100000 in
theorem q_X11_pour_136 {X : vX} {G : vG}  {post : Bool → vSt → Prop} (C : v_Cx X G cX11_pour RX11 9 (v_rm 1 61)) (D : v_Rx X G (v_Qz G post) (some .boolean))  {a1 : Int32} {a2 : Int32} {a3 : Int32} {a4 : Int32} {a5 : Int32}   : ∀ (S : vSt), p_X11_pour_136 a1 a2 a3 a4 a5 post S  → VJ X G S 136 [(0, .ref (G.1 143))] [] := by
  intro S  h
  refine V_aload_n C 0 dX11_pour_136 rfl rfl ?_
  refine V_iconst (v := 4) C dX11_pour_137 (by decide) ?_
  refine V_callVz (As := [.int 4]) (rest := []) C (c_X11_no (v_l X) G  _ _ h) 143 11 (by decide) (by decide) (by decide) rfl KV_X11_no k_RX11_75 rfl rfl rfl (Nat.le_of_ble_eq_true rfl) ⟨Nat.le_of_ble_eq_true rfl, Nat.le_of_ble_eq_true rfl⟩ dX11_pour_138 (fun r20 S19 h => ?_)
  exact V_zret C D dX11_pour_141 h
set_option maxHeartbeats 4000000 in
set_option maxRecDepth 100000 in
theorem q_X11_pour_182 {X : vX} {G : vG}  {post : Bool → vSt → Prop} (C : v_Cx X G cX11_pour RX11 9 (v_rm 1 61)) (D : v_Rx X G (v_Qz G post) (some .boolean))  {a1 : Int32} {a2 : Int32} {a3 : Int32} {a4 : Int32} {a5 : Int32}  {K158 : vSt → Bool → Int32 → Prop} (hK158 : ∀ S x6 x7, K158 S x6 x7 → VJ X G S 158 [(0, .ref (G.1 143)), (1, .int a1), (2, .int a2), (3, .int a3), (4, .int a4), (5, .int a5), (6, .int (v_b x6)), (7, .int x7)] []) : ∀ (S : vSt) (x6 : Bool) (x7 : Int32) (s0 : Int32), p_X11_pour_182 a1 a2 a3 a4 a5 K158 post S x6 x7 s0 → VJ X G S 182 [(0, .ref (G.1 143)), (1, .int a1), (2, .int a2), (3, .int a3), (4, .int a4), (5, .int a5), (6, .int (v_b x6)), (7, .int x7)] [.int s0] := by
  intro S x6 x7 s0 h
  refine V_istore (lv' := [(0, .ref (G.1 143)), (1, .int a1), (2, .int a2), (3, .int a3), (4, .int a4), (5, .int a5), (6, .int (v_b x6)), (7, .int x7), (8, .int s0)]) C [1, 2, 3, 4, 5, 6, 7, 8, 0] dX11_pour_182 (by decide) rfl ?_
  refine V_aload_n C 0 dX11_pour_184 rfl rfl ?_
  refine V_ga C 143 (by decide) (by decide) F_11_6 k_RX11_20 dX11_pour_185 ?_
  refine V_bipush (v := 60) C dX11_pour_188 (by decide) ?_
  refine V_iload_n C 3 dX11_pour_190 rfl rfl ?_
  refine V_imul C dX11_pour_191 ?_
  refine V_iload C 4 dX11_pour_192 rfl ?_
  refine V_iadd C dX11_pour_194 ?_
  refine V_iload C 8 dX11_pour_195 rfl ?_
  refine V_iadd C dX11_pour_197 ?_
  refine V_aload_n C 0 dX11_pour_198 rfl rfl ?_
  refine V_ga C 143 (by decide) (by decide) F_11_6 k_RX11_20 dX11_pour_199 ?_
  refine V_bipush (v := 60) C dX11_pour_202 (by decide) ?_
  refine V_iload_n C 1 dX11_pour_204 rfl rfl ?_
  refine V_imul C dX11_pour_205 ?_
  refine V_iload_n C 2 dX11_pour_206 rfl rfl ?_
  refine V_iadd C dX11_pour_207 ?_
  refine V_iload C 8 dX11_pour_208 rfl ?_
  refine V_iadd C dX11_pour_210 ?_
  obtain ⟨hi, h⟩ := h
  refine V_lald C 146 240 (by decide) (by decide) hi dX11_pour_211 ?_
  obtain ⟨hi, h⟩ := h
  refine V_last C 146 240 (by decide) (by decide) hi dX11_pour_212 ?_
  refine V_topS (fun S19 eS19 => ?_)
  have h := h S19 eS19
  obtain ⟨y20, ey20⟩ : ∃ z : Int32, z = x7 + 1 := ⟨_, rfl⟩
  have h := h y20 ey20
  refine V_iinc (lv' := [(0, .ref (G.1 143)), (1, .int a1), (2, .int a2), (3, .int a3), (4, .int a4), (5, .int a5), (6, .int (v_b x6)), (7, .int y20), (8, .int s0)]) C 7 [1, 2, 3, 4, 5, 6, 7, 0, 8] y20 dX11_pour_213 rfl (by rw [ey20]; rfl) (by decide) rfl ?_
  refine V_goto (tgt := 158) C dX11_pour_216 (by decide) ?_
  refine V_loc (lv' := [(0, .ref (G.1 143)), (1, .int a1), (2, .int a2), (3, .int a3), (4, .int a4), (5, .int a5), (6, .int (v_b x6)), (7, .int y20)]) [0, 1, 2, 3, 4, 5, 6, 7] rfl ?_
  exact hK158 _ _ _ h
set_option maxHeartbeats 4000000 in
set_option maxRecDepth 100000 in
theorem q_X11_pour_158 {X : vX} {G : vG}  {post : Bool → vSt → Prop} (C : v_Cx X G cX11_pour RX11 9 (v_rm 1 61)) (D : v_Rx X G (v_Qz G post) (some .boolean))  {a1 : Int32} {a2 : Int32} {a3 : Int32} {a4 : Int32} {a5 : Int32}   : ∀ (fu : Nat) (S : vSt) (x6 : Bool) (x7 : Int32), p_X11_pour_158 a1 a2 a3 a4 a5 post fu S x6 x7 → VJ X G S 158 [(0, .ref (G.1 143)), (1, .int a1), (2, .int a2), (3, .int a3), (4, .int a4), (5, .int a5), (6, .int (v_b x6)), (7, .int x7)] [] := by
  intro fu
  induction fu with
  | zero => intro S x6 x7 h; exact absurd h id
  | succ fu ih =>
    intro S x6 x7 h
    have hK158 := ih
    rw [e_X11_pour_158] at h
    refine V_iload C 7 dX11_pour_158 rfl ?_
    refine V_iload C 5 dX11_pour_160 rfl ?_
    refine V_icmp_ge (tgt := 219) C dX11_pour_162 (by decide) (fun c => ?_) (fun c => ?_)
    · have h := h.1 c
      refine V_iconst (v := 1) C dX11_pour_219 (by decide) ?_
      exact V_zret1 C D dX11_pour_220 h
    · have h := h.2 c
      refine V_iload C 6 dX11_pour_165 rfl ?_
      refine V_ifb_eq (tgt := 180) C dX11_pour_167 (by decide) (fun c => ?_) (fun c => ?_)
      · have h := h.1 c
        refine V_iload C 7 dX11_pour_180 rfl ?_
        exact q_X11_pour_182 C D hK158 _ _ _ _ h
      · have h := h.2 c
        refine V_iload C 5 dX11_pour_170 rfl ?_
        refine V_iconst (v := 1) C dX11_pour_172 (by decide) ?_
        refine V_isub C dX11_pour_173 ?_
        refine V_iload C 7 dX11_pour_174 rfl ?_
        refine V_isub C dX11_pour_176 ?_
        refine V_goto (tgt := 182) C dX11_pour_177 (by decide) ?_
        exact q_X11_pour_182 C D hK158 _ _ _ _ h
set_option maxHeartbeats 4000000 in
set_option maxRecDepth 100000 in
theorem q_X11_pour_153 {X : vX} {G : vG}  {post : Bool → vSt → Prop} (C : v_Cx X G cX11_pour RX11 9 (v_rm 1 61)) (D : v_Rx X G (v_Qz G post) (some .boolean))  {a1 : Int32} {a2 : Int32} {a3 : Int32} {a4 : Int32} {a5 : Int32}   : ∀ (S : vSt) (s0 : Bool), p_X11_pour_153 a1 a2 a3 a4 a5 post S s0 → VJ X G S 153 [(0, .ref (G.1 143)), (1, .int a1), (2, .int a2), (3, .int a3), (4, .int a4), (5, .int a5)] [.int (v_b s0)] := by
  intro S s0 h
  refine V_istore (lv' := [(0, .ref (G.1 143)), (1, .int a1), (2, .int a2), (3, .int a3), (4, .int a4), (5, .int a5), (6, .int (v_b s0))]) C [1, 2, 3, 4, 5, 6, 0] dX11_pour_153 (by decide) rfl ?_
  refine V_iconst (v := 0) C dX11_pour_155 (by decide) ?_
  refine V_istore (lv' := [(0, .ref (G.1 143)), (1, .int a1), (2, .int a2), (3, .int a3), (4, .int a4), (5, .int a5), (6, .int (v_b s0)), (7, .int 0)]) C [1, 2, 3, 4, 5, 6, 7, 0] dX11_pour_156 (by decide) rfl ?_
  obtain ⟨fu158, h⟩ := h
  exact q_X11_pour_158 C D  fu158 _ _ _ h
set_option maxHeartbeats 4000000 in
set_option maxRecDepth 100000 in
theorem c_X11_pour (l : Launch) (G : vG)    {S : vSt} (a1 : Int32) (a2 : Int32) (a3 : Int32) (a4 : Int32) (a5 : Int32) (post : Bool → vSt → Prop) (h : p_X11_pour   S a1 a2 a3 a4 a5 post) : Met l yX11_pour (v_ws yX11_pour cX11_pour 9 (some .boolean)) (v_rm 1 61) (v_Pc G [.ref (G.1 143), .int a1, .int a2, .int a3, .int a4, .int a5] S) (v_Qz G post) 0 0 (v_A G) := by
  refine v_start (by decide +kernel) (Nat.le_of_ble_eq_true rfl) (fun X hl C D => ?_)
  subst hl
  have C : v_Cx X G cX11_pour RX11 9 (v_rm 1 61) := C
  show VJ X G S 0 [(0, .ref (G.1 143)), (1, .int a1), (2, .int a2), (3, .int a3), (4, .int a4), (5, .int a5)] []
  refine V_aload_n C 0 dX11_pour_0 rfl rfl ?_
  refine V_iconst (v := 0) C dX11_pour_1 (by decide) ?_
  refine V_pi C 143 (by decide) (by decide) P_11_1 k_RX11_60 dX11_pour_2 ?_
  refine V_topS (fun S17 eS17 => ?_)
  have h := h S17 eS17
  refine V_aload_n C 0 dX11_pour_5 rfl rfl ?_
  refine V_iconst (v := 0) C dX11_pour_6 (by decide) ?_
  refine V_pi C 143 (by decide) (by decide) P_11_0 k_RX11_63 dX11_pour_7 ?_
  refine V_topS (fun S18 eS18 => ?_)
  have h := h S18 eS18
  refine V_iload_n C 1 dX11_pour_10 rfl rfl ?_
  refine V_if_lt (tgt := 28) C dX11_pour_11 (by decide) (fun c => ?_) (fun c => ?_)
  · have h := h.1 c
    refine V_loc (lv' := [(0, .ref (G.1 143))]) [0] rfl ?_
    exact q_X11_pour_28 C D  _ h
  · have h := h.2 c
    refine V_iload_n C 1 dX11_pour_14 rfl rfl ?_
    refine V_iconst (v := 4) C dX11_pour_15 (by decide) ?_
    refine V_icmp_ge (tgt := 28) C dX11_pour_16 (by decide) (fun c => ?_) (fun c => ?_)
    · have h := h.1 c
      refine V_loc (lv' := [(0, .ref (G.1 143))]) [0] rfl ?_
      exact q_X11_pour_28 C D  _ h
    · have h := h.2 c
      refine V_iload_n C 3 dX11_pour_19 rfl rfl ?_
      refine V_if_lt (tgt := 28) C dX11_pour_20 (by decide) (fun c => ?_) (fun c => ?_)
      · have h := h.1 c
        refine V_loc (lv' := [(0, .ref (G.1 143))]) [0] rfl ?_
        exact q_X11_pour_28 C D  _ h
      · have h := h.2 c
        refine V_iload_n C 3 dX11_pour_23 rfl rfl ?_
        refine V_iconst (v := 4) C dX11_pour_24 (by decide) ?_
        refine V_icmp_lt (tgt := 34) C dX11_pour_25 (by decide) (fun c => ?_) (fun c => ?_)
        · have h := h.1 c
          refine V_aload_n C 0 dX11_pour_34 rfl rfl ?_
          refine V_ga C 143 (by decide) (by decide) F_11_5 k_RX11_17 dX11_pour_35 ?_
          refine V_iload_n C 1 dX11_pour_38 rfl rfl ?_
          obtain ⟨hi, h⟩ := h
          refine V_iald C 145 4 (by decide) (by decide) hi dX11_pour_39 ?_
          refine V_if_lt (tgt := 52) C dX11_pour_40 (by decide) (fun c => ?_) (fun c => ?_)
          · have h := h.1 c
            refine V_loc (lv' := [(0, .ref (G.1 143))]) [0] rfl ?_
            exact q_X11_pour_52 C D  _ h
          · have h := h.2 c
            refine V_aload_n C 0 dX11_pour_43 rfl rfl ?_
            refine V_ga C 143 (by decide) (by decide) F_11_5 k_RX11_17 dX11_pour_44 ?_
            refine V_iload_n C 3 dX11_pour_47 rfl rfl ?_
            obtain ⟨hi, h⟩ := h
            refine V_iald C 145 4 (by decide) (by decide) hi dX11_pour_48 ?_
            refine V_if_ge (tgt := 58) C dX11_pour_49 (by decide) (fun c => ?_) (fun c => ?_)
            · have h := h.1 c
              refine V_aload_n C 0 dX11_pour_58 rfl rfl ?_
              refine V_ga C 143 (by decide) (by decide) F_11_4 k_RX11_13 dX11_pour_59 ?_
              refine V_iload_n C 1 dX11_pour_62 rfl rfl ?_
              obtain ⟨hi, h⟩ := h
              refine V_iald C 144 4 (by decide) (by decide) hi dX11_pour_63 ?_
              refine V_aload_n C 0 dX11_pour_64 rfl rfl ?_
              refine V_ga C 143 (by decide) (by decide) F_11_4 k_RX11_13 dX11_pour_65 ?_
              refine V_iload_n C 3 dX11_pour_68 rfl rfl ?_
              obtain ⟨hi, h⟩ := h
              refine V_iald C 144 4 (by decide) (by decide) hi dX11_pour_69 ?_
              refine V_icmp_eq (tgt := 80) C dX11_pour_70 (by decide) (fun c => ?_) (fun c => ?_)
              · have h := h.1 c
                refine V_iload C 5 dX11_pour_80 rfl ?_
                refine V_if_ge (tgt := 92) C dX11_pour_82 (by decide) (fun c => ?_) (fun c => ?_)
                · have h := h.1 c
                  refine V_iload_n C 2 dX11_pour_92 rfl rfl ?_
                  refine V_if_lt (tgt := 136) C dX11_pour_93 (by decide) (fun c => ?_) (fun c => ?_)
                  · have h := h.1 c
                    refine V_loc (lv' := [(0, .ref (G.1 143))]) [0] rfl ?_
                    exact q_X11_pour_136 C D  _ h
                  · have h := h.2 c
                    refine V_iload C 4 dX11_pour_96 rfl ?_
                    refine V_if_lt (tgt := 136) C dX11_pour_98 (by decide) (fun c => ?_) (fun c => ?_)
                    · have h := h.1 c
                      refine V_loc (lv' := [(0, .ref (G.1 143))]) [0] rfl ?_
                      exact q_X11_pour_136 C D  _ h
                    · have h := h.2 c
                      refine V_iload_n C 2 dX11_pour_101 rfl rfl ?_
                      refine V_i2l C dX11_pour_102 ?_
                      refine V_iload C 5 dX11_pour_103 rfl ?_
                      refine V_i2l C dX11_pour_105 ?_
                      refine V_ladd C dX11_pour_106 ?_
                      refine V_aload_n C 0 dX11_pour_107 rfl rfl ?_
                      refine V_ga C 143 (by decide) (by decide) F_11_5 k_RX11_17 dX11_pour_108 ?_
                      refine V_iload_n C 1 dX11_pour_111 rfl rfl ?_
                      obtain ⟨hi, h⟩ := h
                      refine V_iald C 145 4 (by decide) (by decide) hi dX11_pour_112 ?_
                      refine V_i2l C dX11_pour_113 ?_
                      refine V_lcmp_gt (tgt := 136) C dX11_pour_114 dX11_pour_115 (by decide) (fun c => ?_) (fun c => ?_)
                      · have h := h.1 c
                        refine V_loc (lv' := [(0, .ref (G.1 143))]) [0] rfl ?_
                        exact q_X11_pour_136 C D  _ h
                      · have h := h.2 c
                        refine V_iload C 4 dX11_pour_118 rfl ?_
                        refine V_i2l C dX11_pour_120 ?_
                        refine V_iload C 5 dX11_pour_121 rfl ?_
                        refine V_i2l C dX11_pour_123 ?_
                        refine V_ladd C dX11_pour_124 ?_
                        refine V_aload_n C 0 dX11_pour_125 rfl rfl ?_
                        refine V_ga C 143 (by decide) (by decide) F_11_5 k_RX11_17 dX11_pour_126 ?_
                        refine V_iload_n C 3 dX11_pour_129 rfl rfl ?_
                        obtain ⟨hi, h⟩ := h
                        refine V_iald C 145 4 (by decide) (by decide) hi dX11_pour_130 ?_
                        refine V_i2l C dX11_pour_131 ?_
                        refine V_lcmp_le (tgt := 142) C dX11_pour_132 dX11_pour_133 (by decide) (fun c => ?_) (fun c => ?_)
                        · have h := h.1 c
                          refine V_iload_n C 2 dX11_pour_142 rfl rfl ?_
                          refine V_iload C 4 dX11_pour_143 rfl ?_
                          refine V_icmp_ge (tgt := 152) C dX11_pour_145 (by decide) (fun c => ?_) (fun c => ?_)
                          · have h := h.1 c
                            refine V_iconst (v := 0) C dX11_pour_152 (by decide) ?_
                            exact q_X11_pour_153 C D  _ _ h
                          · have h := h.2 c
                            refine V_iconst (v := 1) C dX11_pour_148 (by decide) ?_
                            refine V_goto (tgt := 153) C dX11_pour_149 (by decide) ?_
                            exact q_X11_pour_153 C D  _ _ h
                        · have h := h.2 c
                          refine V_loc (lv' := [(0, .ref (G.1 143))]) [0] rfl ?_
                          exact q_X11_pour_136 C D  _ h
                · have h := h.2 c
                  refine V_aload_n C 0 dX11_pour_85 rfl rfl ?_
                  refine V_bipush (v := 6) C dX11_pour_86 (by decide) ?_
                  refine V_callVz (As := [.int 6]) (rest := []) C (c_X11_no (v_l X) G  _ _ h) 143 11 (by decide) (by decide) (by decide) rfl KV_X11_no k_RX11_75 rfl rfl rfl (Nat.le_of_ble_eq_true rfl) ⟨Nat.le_of_ble_eq_true rfl, Nat.le_of_ble_eq_true rfl⟩ dX11_pour_88 (fun r20 S19 h => ?_)
                  exact V_zret C D dX11_pour_91 h
              · have h := h.2 c
                refine V_aload_n C 0 dX11_pour_73 rfl rfl ?_
                refine V_bipush (v := 11) C dX11_pour_74 (by decide) ?_
                refine V_callVz (As := [.int 11]) (rest := []) C (c_X11_no (v_l X) G  _ _ h) 143 11 (by decide) (by decide) (by decide) rfl KV_X11_no k_RX11_75 rfl rfl rfl (Nat.le_of_ble_eq_true rfl) ⟨Nat.le_of_ble_eq_true rfl, Nat.le_of_ble_eq_true rfl⟩ dX11_pour_76 (fun r22 S21 h => ?_)
                exact V_zret C D dX11_pour_79 h
            · have h := h.2 c
              refine V_loc (lv' := [(0, .ref (G.1 143))]) [0] rfl ?_
              exact q_X11_pour_52 C D  _ h
        · have h := h.2 c
          refine V_loc (lv' := [(0, .ref (G.1 143))]) [0] rfl ?_
          exact q_X11_pour_28 C D  _ h
/-! HalfAccuserModel.isTray(I)Z -/
theorem dX11_isTray_0 : decode cX11_isTray 0 = .ok ((.iload_n 1), 1) := by decide +kernel
theorem dX11_isTray_1 : decode cX11_isTray 1 = .ok (.i2l, 1) := by decide +kernel
theorem dX11_isTray_2 : decode cX11_isTray 2 = .ok ((.lconst 0), 1) := by decide +kernel
theorem dX11_isTray_3 : decode cX11_isTray 3 = .ok ((.ldc2_w 93), 3) := by decide +kernel
theorem dX11_isTray_6 : decode cX11_isTray 6 = .ok ((.invokestatic 95), 3) := by decide +kernel
theorem dX11_isTray_9 : decode cX11_isTray 9 = .ok (.ireturn, 1) := by decide +kernel
def p_X11_isTray   (S : vSt) (a1 : Int32) (post : Bool → vSt → Prop) : Prop := p_X11_isIn  S (Int32.toInt64 a1) 0 3 (fun r4 S3 => post r4 S3)
set_option maxHeartbeats 4000000 in
set_option maxRecDepth 100000 in
theorem c_X11_isTray (l : Launch) (G : vG)    {S : vSt} (a1 : Int32) (post : Bool → vSt → Prop) (h : p_X11_isTray   S a1 post) : Met l yX11_isTray (v_ws yX11_isTray cX11_isTray 2 (some .boolean)) (v_rm 1 65) (v_Pc G [.ref (G.1 143), .int a1] S) (v_Qz G post) 0 0 (v_A G) := by
  refine v_start (by decide +kernel) (Nat.le_of_ble_eq_true rfl) (fun X hl C D => ?_)
  subst hl
  have C : v_Cx X G cX11_isTray RX11 2 (v_rm 1 65) := C
  show VJ X G S 0 [(0, .ref (G.1 143)), (1, .int a1)] []
  refine V_iload_n C 1 dX11_isTray_0 rfl rfl ?_
  refine V_i2l C dX11_isTray_1 ?_
  refine V_lconst (v := 0) C dX11_isTray_2 (by decide) ?_
  refine V_ldc2 (v := 3) C k_RX11_93 dX11_isTray_3 ?_
  refine V_callSz (As := [.long (Int32.toInt64 a1), .long 0, .long 3]) (rest := []) C (c_X11_isIn (v_l X) G  _ _ _ _ h) KV_X11_isIn k_RX11_95 rfl rfl rfl (Nat.le_of_ble_eq_true rfl) ⟨Nat.le_of_ble_eq_true rfl, Nat.le_of_ble_eq_true rfl⟩ dX11_isTray_6 (fun r4 S3 h => ?_)
  exact V_zret C D dX11_isTray_9 h
/-! HalfAccuserModel.has(II)Z -/
theorem dX11_has_0 : decode cX11_has 0 = .ok ((.iload_n 0), 1) := by decide +kernel
theorem dX11_has_1 : decode cX11_has 1 = .ok ((.iload_n 1), 1) := by decide +kernel
theorem dX11_has_2 : decode cX11_has 2 = .ok (.ishr, 1) := by decide +kernel
theorem dX11_has_3 : decode cX11_has 3 = .ok ((.iconst 1), 1) := by decide +kernel
theorem dX11_has_4 : decode cX11_has 4 = .ok (.iand, 1) := by decide +kernel
theorem dX11_has_5 : decode cX11_has 5 = .ok ((.iconst 1), 1) := by decide +kernel
theorem dX11_has_6 : decode cX11_has 6 = .ok ((.if_icmp .ne 7), 3) := by decide +kernel
theorem dX11_has_9 : decode cX11_has 9 = .ok ((.iconst 1), 1) := by decide +kernel
theorem dX11_has_10 : decode cX11_has 10 = .ok ((.goto 4), 3) := by decide +kernel
theorem dX11_has_13 : decode cX11_has 13 = .ok ((.iconst 0), 1) := by decide +kernel
theorem dX11_has_14 : decode cX11_has 14 = .ok (.ireturn, 1) := by decide +kernel
def p_X11_has   (S : vSt) (a0 : Int32) (a1 : Int32) (post : Bool → vSt → Prop) : Prop := ((¬ ((a0 >>> (a1 &&& 31)) &&& 1) = 1 → post false S) ∧ (((a0 >>> (a1 &&& 31)) &&& 1) = 1 → post true S))
set_option maxHeartbeats 4000000 in
set_option maxRecDepth 100000 in
theorem c_X11_has (l : Launch) (G : vG)    {S : vSt} (a0 : Int32) (a1 : Int32) (post : Bool → vSt → Prop) (h : p_X11_has   S a0 a1 post) : Met l yX11_has (v_ws yX11_has cX11_has 2 (some .boolean)) (v_rm 0 40) (v_Pc G [.int a0, .int a1] S) (v_Qz G post) 0 0 (v_A G) := by
  refine v_start (by decide +kernel) (Nat.le_of_ble_eq_true rfl) (fun X hl C D => ?_)
  subst hl
  have C : v_Cx X G cX11_has RX11 2 (v_rm 0 40) := C
  show VJ X G S 0 [(0, .int a0), (1, .int a1)] []
  refine V_iload_n C 0 dX11_has_0 rfl rfl ?_
  refine V_iload_n C 1 dX11_has_1 rfl rfl ?_
  refine V_ishr C dX11_has_2 ?_
  refine V_iconst (v := 1) C dX11_has_3 (by decide) ?_
  refine V_iand C dX11_has_4 ?_
  refine V_iconst (v := 1) C dX11_has_5 (by decide) ?_
  refine V_icmp_ne (tgt := 13) C dX11_has_6 (by decide) (fun c => ?_) (fun c => ?_)
  · have h := h.1 c
    refine V_iconst (v := 0) C dX11_has_13 (by decide) ?_
    exact V_zret0 C D dX11_has_14 h
  · have h := h.2 c
    refine V_iconst (v := 1) C dX11_has_9 (by decide) ?_
    refine V_goto (tgt := 14) C dX11_has_10 (by decide) ?_
    exact V_zret1 C D dX11_has_14 h
/-! HalfAccuserModel.sizeOf(I)I -/
theorem dX11_sizeOf_0 : decode cX11_sizeOf 0 = .ok ((.iconst 0), 1) := by decide +kernel
theorem dX11_sizeOf_1 : decode cX11_sizeOf 1 = .ok ((.istore_n 1), 1) := by decide +kernel
theorem dX11_sizeOf_2 : decode cX11_sizeOf 2 = .ok ((.iconst 0), 1) := by decide +kernel
theorem dX11_sizeOf_3 : decode cX11_sizeOf 3 = .ok ((.istore_n 2), 1) := by decide +kernel
theorem dX11_sizeOf_4 : decode cX11_sizeOf 4 = .ok ((.iload_n 2), 1) := by decide +kernel
theorem dX11_sizeOf_5 : decode cX11_sizeOf 5 = .ok ((.bipush 10), 2) := by decide +kernel
theorem dX11_sizeOf_7 : decode cX11_sizeOf 7 = .ok ((.if_icmp .ge 25), 3) := by decide +kernel
theorem dX11_sizeOf_10 : decode cX11_sizeOf 10 = .ok ((.iload_n 1), 1) := by decide +kernel
theorem dX11_sizeOf_11 : decode cX11_sizeOf 11 = .ok ((.iload_n 0), 1) := by decide +kernel
theorem dX11_sizeOf_12 : decode cX11_sizeOf 12 = .ok ((.iload_n 2), 1) := by decide +kernel
theorem dX11_sizeOf_13 : decode cX11_sizeOf 13 = .ok ((.invokestatic 99), 3) := by decide +kernel
theorem dX11_sizeOf_16 : decode cX11_sizeOf 16 = .ok ((.ifCond .eq 7), 3) := by decide +kernel
theorem dX11_sizeOf_19 : decode cX11_sizeOf 19 = .ok ((.iconst 1), 1) := by decide +kernel
theorem dX11_sizeOf_20 : decode cX11_sizeOf 20 = .ok ((.goto 4), 3) := by decide +kernel
theorem dX11_sizeOf_23 : decode cX11_sizeOf 23 = .ok ((.iconst 0), 1) := by decide +kernel
theorem dX11_sizeOf_24 : decode cX11_sizeOf 24 = .ok (.iadd, 1) := by decide +kernel
theorem dX11_sizeOf_25 : decode cX11_sizeOf 25 = .ok ((.istore_n 1), 1) := by decide +kernel
theorem dX11_sizeOf_26 : decode cX11_sizeOf 26 = .ok ((.iinc 2 1), 3) := by decide +kernel
theorem dX11_sizeOf_29 : decode cX11_sizeOf 29 = .ok ((.goto (-25)), 3) := by decide +kernel
theorem dX11_sizeOf_32 : decode cX11_sizeOf 32 = .ok ((.iload_n 1), 1) := by decide +kernel
theorem dX11_sizeOf_33 : decode cX11_sizeOf 33 = .ok (.ireturn, 1) := by decide +kernel
def p_X11_sizeOf_24  (a0 : Int32)  (K4 : vSt → Int32 → Int32 → Prop) (post : Int32 → vSt → Prop) (S : vSt) (x2 : Int32) (s0 : Bool) (s1 : Int32) : Prop := ∀ y11 : Int32, y11 = (s1 + (v_b s0)) → ∀ y12 : Int32, y12 = x2 + 1 → K4 S y11 y12
def p_X11_sizeOf_4  (a0 : Int32)   (post : Int32 → vSt → Prop) : Nat → vSt → Int32 → Int32 → Prop
  | 0 => fun _ _ _ => False
  | fu4 + 1 => fun S x1 x2 => ((10 ≤ x2 → post x1 S) ∧ (¬ 10 ≤ x2 → p_X11_has  S a0 x2 (fun r10 S9 => ((r10 = false → p_X11_sizeOf_24 a0 (p_X11_sizeOf_4 a0 post fu4) post S9 x2 false x1) ∧ (r10 = true → p_X11_sizeOf_24 a0 (p_X11_sizeOf_4 a0 post fu4) post S9 x2 true x1)))))
theorem e_X11_sizeOf_4  (a0 : Int32)   (post : Int32 → vSt → Prop) (fu4 : Nat) (S : vSt) (x1 : Int32) (x2 : Int32) : p_X11_sizeOf_4 a0 post (fu4 + 1) S x1 x2 = (((10 ≤ x2 → post x1 S) ∧ (¬ 10 ≤ x2 → p_X11_has  S a0 x2 (fun r10 S9 => ((r10 = false → p_X11_sizeOf_24 a0 (p_X11_sizeOf_4 a0 post fu4) post S9 x2 false x1) ∧ (r10 = true → p_X11_sizeOf_24 a0 (p_X11_sizeOf_4 a0 post fu4) post S9 x2 true x1)))))) := rfl
def p_X11_sizeOf   (S : vSt) (a0 : Int32) (post : Int32 → vSt → Prop) : Prop := ∃ fu4, p_X11_sizeOf_4 a0 post fu4 S 0 0
set_option maxHeartbeats 4000000 in
set_option maxRecDepth 100000 in
theorem q_X11_sizeOf_24 {X : vX} {G : vG}  {post : Int32 → vSt → Prop} (C : v_Cx X G cX11_sizeOf RX11 3 (v_rm 1 61)) (D : v_Rx X G (v_Qi G post) (some .int))  {a0 : Int32}  {K4 : vSt → Int32 → Int32 → Prop} (hK4 : ∀ S x1 x2, K4 S x1 x2 → VJ X G S 4 [(0, .int a0), (1, .int x1), (2, .int x2)] []) : ∀ (S : vSt) (x2 : Int32) (s0 : Bool) (s1 : Int32), p_X11_sizeOf_24 a0 K4 post S x2 s0 s1 → VJ X G S 24 [(0, .int a0), (2, .int x2)] [.int (v_b s0), .int s1] := by
  intro S x2 s0 s1 h
  refine V_iadd C dX11_sizeOf_24 ?_
  refine V_topi (fun y11 ey11 => ?_)
  have h := h y11 ey11
  refine V_istore_n (lv' := [(0, .int a0), (1, .int y11), (2, .int x2)]) C [1, 0, 2] dX11_sizeOf_25 rfl (by decide) rfl ?_
  obtain ⟨y12, ey12⟩ : ∃ z : Int32, z = x2 + 1 := ⟨_, rfl⟩
  have h := h y12 ey12
  refine V_iinc (lv' := [(0, .int a0), (1, .int y11), (2, .int y12)]) C 2 [1, 2, 0] y12 dX11_sizeOf_26 rfl (by rw [ey12]; rfl) (by decide) rfl ?_
  refine V_goto (tgt := 4) C dX11_sizeOf_29 (by decide) ?_
  exact hK4 _ _ _ h
set_option maxHeartbeats 4000000 in
set_option maxRecDepth 100000 in
theorem q_X11_sizeOf_4 {X : vX} {G : vG}  {post : Int32 → vSt → Prop} (C : v_Cx X G cX11_sizeOf RX11 3 (v_rm 1 61)) (D : v_Rx X G (v_Qi G post) (some .int))  {a0 : Int32}   : ∀ (fu : Nat) (S : vSt) (x1 : Int32) (x2 : Int32), p_X11_sizeOf_4 a0 post fu S x1 x2 → VJ X G S 4 [(0, .int a0), (1, .int x1), (2, .int x2)] [] := by
  intro fu
  induction fu with
  | zero => intro S x1 x2 h; exact absurd h id
  | succ fu ih =>
    intro S x1 x2 h
    have hK4 := ih
    rw [e_X11_sizeOf_4] at h
    refine V_iload_n C 2 dX11_sizeOf_4 rfl rfl ?_
    refine V_bipush (v := 10) C dX11_sizeOf_5 (by decide) ?_
    refine V_icmp_ge (tgt := 32) C dX11_sizeOf_7 (by decide) (fun c => ?_) (fun c => ?_)
    · have h := h.1 c
      refine V_iload_n C 1 dX11_sizeOf_32 rfl rfl ?_
      exact V_iret C D dX11_sizeOf_33 h
    · have h := h.2 c
      refine V_iload_n C 1 dX11_sizeOf_10 rfl rfl ?_
      refine V_iload_n C 0 dX11_sizeOf_11 rfl rfl ?_
      refine V_iload_n C 2 dX11_sizeOf_12 rfl rfl ?_
      refine V_callSz (As := [.int a0, .int x2]) (rest := [.int x1]) C (c_X11_has (v_l X) G  _ _ _ h) KV_X11_has k_RX11_99 rfl rfl rfl (Nat.le_of_ble_eq_true rfl) ⟨Nat.le_of_ble_eq_true rfl, Nat.le_of_ble_eq_true rfl⟩ dX11_sizeOf_13 (fun r10 S9 h => ?_)
      refine V_ifb_eq (tgt := 23) C dX11_sizeOf_16 (by decide) (fun c => ?_) (fun c => ?_)
      · have h := h.1 c
        refine V_iconst (v := 0) C dX11_sizeOf_23 (by decide) ?_
        refine V_loc (lv' := [(0, .int a0), (2, .int x2)]) [0, 2] rfl ?_
        exact q_X11_sizeOf_24 C D hK4 _ _ _ _ h
      · have h := h.2 c
        refine V_iconst (v := 1) C dX11_sizeOf_19 (by decide) ?_
        refine V_goto (tgt := 24) C dX11_sizeOf_20 (by decide) ?_
        refine V_loc (lv' := [(0, .int a0), (2, .int x2)]) [0, 2] rfl ?_
        exact q_X11_sizeOf_24 C D hK4 _ _ _ _ h
set_option maxHeartbeats 4000000 in
set_option maxRecDepth 100000 in
theorem c_X11_sizeOf (l : Launch) (G : vG)    {S : vSt} (a0 : Int32) (post : Int32 → vSt → Prop) (h : p_X11_sizeOf   S a0 post) : Met l yX11_sizeOf (v_ws yX11_sizeOf cX11_sizeOf 3 (some .int)) (v_rm 1 61) (v_Pc G [.int a0] S) (v_Qi G post) 0 0 (v_A G) := by
  refine v_start (by decide +kernel) (Nat.le_of_ble_eq_true rfl) (fun X hl C D => ?_)
  subst hl
  have C : v_Cx X G cX11_sizeOf RX11 3 (v_rm 1 61) := C
  show VJ X G S 0 [(0, .int a0)] []
  refine V_iconst (v := 0) C dX11_sizeOf_0 (by decide) ?_
  refine V_istore_n (lv' := [(0, .int a0), (1, .int 0)]) C [1, 0] dX11_sizeOf_1 rfl (by decide) rfl ?_
  refine V_iconst (v := 0) C dX11_sizeOf_2 (by decide) ?_
  refine V_istore_n (lv' := [(0, .int a0), (1, .int 0), (2, .int 0)]) C [1, 2, 0] dX11_sizeOf_3 rfl (by decide) rfl ?_
  obtain ⟨fu4, h⟩ := h
  exact q_X11_sizeOf_4 C D  fu4 _ _ _ h
/-! HalfAccuserModel.look2(I)I -/
theorem dX11_look2_0 : decode cX11_look2 0 = .ok ((.iload_n 1), 1) := by decide +kernel
theorem dX11_look2_1 : decode cX11_look2 1 = .ok ((.aload_n 0), 1) := by decide +kernel
theorem dX11_look2_2 : decode cX11_look2 2 = .ok ((.getfield 103), 3) := by decide +kernel
theorem dX11_look2_5 : decode cX11_look2 5 = .ok ((.if_icmp .ge 16), 3) := by decide +kernel
theorem dX11_look2_8 : decode cX11_look2 8 = .ok ((.aload_n 0), 1) := by decide +kernel
theorem dX11_look2_9 : decode cX11_look2 9 = .ok ((.getfield 24), 3) := by decide +kernel
theorem dX11_look2_12 : decode cX11_look2 12 = .ok ((.iload_n 1), 1) := by decide +kernel
theorem dX11_look2_13 : decode cX11_look2 13 = .ok (.baload, 1) := by decide +kernel
theorem dX11_look2_14 : decode cX11_look2 14 = .ok ((.sipush 255), 3) := by decide +kernel
theorem dX11_look2_17 : decode cX11_look2 17 = .ok (.iand, 1) := by decide +kernel
theorem dX11_look2_18 : decode cX11_look2 18 = .ok ((.goto 4), 3) := by decide +kernel
theorem dX11_look2_21 : decode cX11_look2 21 = .ok ((.iconst 0), 1) := by decide +kernel
theorem dX11_look2_22 : decode cX11_look2 22 = .ok (.ireturn, 1) := by decide +kernel
def p_X11_look2   (S : vSt) (a1 : Int32) (post : Int32 → vSt → Prop) : Prop := (((S.1 143 9) ≤ a1 → post 0 S) ∧ (¬ (S.1 143 9) ≤ a1 → (vp_in a1 900 ∧ post ((S.1 147 (Int32.toNatClampNeg a1)) &&& 255) S)))
set_option maxHeartbeats 4000000 in
set_option maxRecDepth 100000 in
theorem c_X11_look2 (l : Launch) (G : vG)    {S : vSt} (a1 : Int32) (post : Int32 → vSt → Prop) (h : p_X11_look2   S a1 post) : Met l yX11_look2 (v_ws yX11_look2 cX11_look2 2 (some .int)) (v_rm 0 40) (v_Pc G [.ref (G.1 143), .int a1] S) (v_Qi G post) 0 0 (v_A G) := by
  refine v_start (by decide +kernel) (Nat.le_of_ble_eq_true rfl) (fun X hl C D => ?_)
  subst hl
  have C : v_Cx X G cX11_look2 RX11 2 (v_rm 0 40) := C
  show VJ X G S 0 [(0, .ref (G.1 143)), (1, .int a1)] []
  refine V_iload_n C 1 dX11_look2_0 rfl rfl ?_
  refine V_aload_n C 0 dX11_look2_1 rfl rfl ?_
  refine V_gi C 143 (by decide) (by decide) F_11_9 k_RX11_103 dX11_look2_2 ?_
  refine V_icmp_ge (tgt := 21) C dX11_look2_5 (by decide) (fun c => ?_) (fun c => ?_)
  · have h := h.1 c
    refine V_iconst (v := 0) C dX11_look2_21 (by decide) ?_
    exact V_iret C D dX11_look2_22 h
  · have h := h.2 c
    refine V_aload_n C 0 dX11_look2_8 rfl rfl ?_
    refine V_ga C 143 (by decide) (by decide) F_11_7 k_RX11_24 dX11_look2_9 ?_
    refine V_iload_n C 1 dX11_look2_12 rfl rfl ?_
    obtain ⟨hi, h⟩ := h
    refine V_bald C 147 900 (by decide) (by decide) hi dX11_look2_13 ?_
    refine V_sipush (v := 255) C dX11_look2_14 (by decide) ?_
    refine V_iand C dX11_look2_17 ?_
    refine V_goto (tgt := 22) C dX11_look2_18 (by decide) ?_
    exact V_iret C D dX11_look2_22 h
/-! HalfAccuserModel.isLetter(I)Z -/
theorem dX11_isLetter_0 : decode cX11_isLetter 0 = .ok ((.iload_n 0), 1) := by decide +kernel
theorem dX11_isLetter_1 : decode cX11_isLetter 1 = .ok ((.bipush 97), 2) := by decide +kernel
theorem dX11_isLetter_3 : decode cX11_isLetter 3 = .ok ((.if_icmp .lt 13), 3) := by decide +kernel
theorem dX11_isLetter_6 : decode cX11_isLetter 6 = .ok ((.iload_n 0), 1) := by decide +kernel
theorem dX11_isLetter_7 : decode cX11_isLetter 7 = .ok ((.bipush 122), 2) := by decide +kernel
theorem dX11_isLetter_9 : decode cX11_isLetter 9 = .ok ((.if_icmp .gt 7), 3) := by decide +kernel
theorem dX11_isLetter_12 : decode cX11_isLetter 12 = .ok ((.iconst 1), 1) := by decide +kernel
theorem dX11_isLetter_13 : decode cX11_isLetter 13 = .ok ((.goto 4), 3) := by decide +kernel
theorem dX11_isLetter_16 : decode cX11_isLetter 16 = .ok ((.iconst 0), 1) := by decide +kernel
theorem dX11_isLetter_17 : decode cX11_isLetter 17 = .ok (.ireturn, 1) := by decide +kernel
def p_X11_isLetter   (S : vSt) (a0 : Int32) (post : Bool → vSt → Prop) : Prop := ((a0 < 97 → post false S) ∧ (¬ a0 < 97 → ((122 < a0 → post false S) ∧ (¬ 122 < a0 → post true S))))
set_option maxHeartbeats 4000000 in
set_option maxRecDepth 100000 in
theorem c_X11_isLetter (l : Launch) (G : vG)    {S : vSt} (a0 : Int32) (post : Bool → vSt → Prop) (h : p_X11_isLetter   S a0 post) : Met l yX11_isLetter (v_ws yX11_isLetter cX11_isLetter 1 (some .boolean)) (v_rm 0 40) (v_Pc G [.int a0] S) (v_Qz G post) 0 0 (v_A G) := by
  refine v_start (by decide +kernel) (Nat.le_of_ble_eq_true rfl) (fun X hl C D => ?_)
  subst hl
  have C : v_Cx X G cX11_isLetter RX11 1 (v_rm 0 40) := C
  show VJ X G S 0 [(0, .int a0)] []
  refine V_iload_n C 0 dX11_isLetter_0 rfl rfl ?_
  refine V_bipush (v := 97) C dX11_isLetter_1 (by decide) ?_
  refine V_icmp_lt (tgt := 16) C dX11_isLetter_3 (by decide) (fun c => ?_) (fun c => ?_)
  · have h := h.1 c
    refine V_iconst (v := 0) C dX11_isLetter_16 (by decide) ?_
    exact V_zret0 C D dX11_isLetter_17 h
  · have h := h.2 c
    refine V_iload_n C 0 dX11_isLetter_6 rfl rfl ?_
    refine V_bipush (v := 122) C dX11_isLetter_7 (by decide) ?_
    refine V_icmp_gt (tgt := 16) C dX11_isLetter_9 (by decide) (fun c => ?_) (fun c => ?_)
    · have h := h.1 c
      refine V_iconst (v := 0) C dX11_isLetter_16 (by decide) ?_
      exact V_zret0 C D dX11_isLetter_17 h
    · have h := h.2 c
      refine V_iconst (v := 1) C dX11_isLetter_12 (by decide) ?_
      refine V_goto (tgt := 17) C dX11_isLetter_13 (by decide) ?_
      exact V_zret1 C D dX11_isLetter_17 h
/-! HalfAccuserModel.isDigit(I)Z -/
theorem dX11_isDigit_0 : decode cX11_isDigit 0 = .ok ((.iload_n 0), 1) := by decide +kernel
theorem dX11_isDigit_1 : decode cX11_isDigit 1 = .ok ((.bipush 48), 2) := by decide +kernel
theorem dX11_isDigit_3 : decode cX11_isDigit 3 = .ok ((.if_icmp .lt 13), 3) := by decide +kernel
theorem dX11_isDigit_6 : decode cX11_isDigit 6 = .ok ((.iload_n 0), 1) := by decide +kernel
theorem dX11_isDigit_7 : decode cX11_isDigit 7 = .ok ((.bipush 57), 2) := by decide +kernel
theorem dX11_isDigit_9 : decode cX11_isDigit 9 = .ok ((.if_icmp .gt 7), 3) := by decide +kernel
theorem dX11_isDigit_12 : decode cX11_isDigit 12 = .ok ((.iconst 1), 1) := by decide +kernel
theorem dX11_isDigit_13 : decode cX11_isDigit 13 = .ok ((.goto 4), 3) := by decide +kernel
theorem dX11_isDigit_16 : decode cX11_isDigit 16 = .ok ((.iconst 0), 1) := by decide +kernel
theorem dX11_isDigit_17 : decode cX11_isDigit 17 = .ok (.ireturn, 1) := by decide +kernel
def p_X11_isDigit   (S : vSt) (a0 : Int32) (post : Bool → vSt → Prop) : Prop := ((a0 < 48 → post false S) ∧ (¬ a0 < 48 → ((57 < a0 → post false S) ∧ (¬ 57 < a0 → post true S))))
set_option maxHeartbeats 4000000 in
set_option maxRecDepth 100000 in
theorem c_X11_isDigit (l : Launch) (G : vG)    {S : vSt} (a0 : Int32) (post : Bool → vSt → Prop) (h : p_X11_isDigit   S a0 post) : Met l yX11_isDigit (v_ws yX11_isDigit cX11_isDigit 1 (some .boolean)) (v_rm 0 40) (v_Pc G [.int a0] S) (v_Qz G post) 0 0 (v_A G) := by
  refine v_start (by decide +kernel) (Nat.le_of_ble_eq_true rfl) (fun X hl C D => ?_)
  subst hl
  have C : v_Cx X G cX11_isDigit RX11 1 (v_rm 0 40) := C
  show VJ X G S 0 [(0, .int a0)] []
  refine V_iload_n C 0 dX11_isDigit_0 rfl rfl ?_
  refine V_bipush (v := 48) C dX11_isDigit_1 (by decide) ?_
  refine V_icmp_lt (tgt := 16) C dX11_isDigit_3 (by decide) (fun c => ?_) (fun c => ?_)
  · have h := h.1 c
    refine V_iconst (v := 0) C dX11_isDigit_16 (by decide) ?_
    exact V_zret0 C D dX11_isDigit_17 h
  · have h := h.2 c
    refine V_iload_n C 0 dX11_isDigit_6 rfl rfl ?_
    refine V_bipush (v := 57) C dX11_isDigit_7 (by decide) ?_
    refine V_icmp_gt (tgt := 16) C dX11_isDigit_9 (by decide) (fun c => ?_) (fun c => ?_)
    · have h := h.1 c
      refine V_iconst (v := 0) C dX11_isDigit_16 (by decide) ?_
      exact V_zret0 C D dX11_isDigit_17 h
    · have h := h.2 c
      refine V_iconst (v := 1) C dX11_isDigit_12 (by decide) ?_
      refine V_goto (tgt := 17) C dX11_isDigit_13 (by decide) ?_
      exact V_zret1 C D dX11_isDigit_17 h
/-! HalfAccuserModel.isSignByte(I)Z -/
theorem dX11_isSignByte_0 : decode cX11_isSignByte 0 = .ok ((.iload_n 1), 1) := by decide +kernel
theorem dX11_isSignByte_1 : decode cX11_isSignByte 1 = .ok ((.bipush 59), 2) := by decide +kernel
theorem dX11_isSignByte_3 : decode cX11_isSignByte 3 = .ok ((.if_icmp .eq 21), 3) := by decide +kernel
theorem dX11_isSignByte_6 : decode cX11_isSignByte 6 = .ok ((.iload_n 1), 1) := by decide +kernel
theorem dX11_isSignByte_7 : decode cX11_isSignByte 7 = .ok ((.bipush 60), 2) := by decide +kernel
theorem dX11_isSignByte_9 : decode cX11_isSignByte 9 = .ok ((.if_icmp .eq 15), 3) := by decide +kernel
theorem dX11_isSignByte_12 : decode cX11_isSignByte 12 = .ok ((.iload_n 1), 1) := by decide +kernel
theorem dX11_isSignByte_13 : decode cX11_isSignByte 13 = .ok ((.bipush 62), 2) := by decide +kernel
theorem dX11_isSignByte_15 : decode cX11_isSignByte 15 = .ok ((.if_icmp .eq 9), 3) := by decide +kernel
theorem dX11_isSignByte_18 : decode cX11_isSignByte 18 = .ok ((.iload_n 1), 1) := by decide +kernel
theorem dX11_isSignByte_19 : decode cX11_isSignByte 19 = .ok ((.bipush 61), 2) := by decide +kernel
theorem dX11_isSignByte_21 : decode cX11_isSignByte 21 = .ok ((.if_icmp .ne 7), 3) := by decide +kernel
theorem dX11_isSignByte_24 : decode cX11_isSignByte 24 = .ok ((.iconst 1), 1) := by decide +kernel
theorem dX11_isSignByte_25 : decode cX11_isSignByte 25 = .ok ((.goto 4), 3) := by decide +kernel
theorem dX11_isSignByte_28 : decode cX11_isSignByte 28 = .ok ((.iconst 0), 1) := by decide +kernel
theorem dX11_isSignByte_29 : decode cX11_isSignByte 29 = .ok (.ireturn, 1) := by decide +kernel
def p_X11_isSignByte   (S : vSt) (a1 : Int32) (post : Bool → vSt → Prop) : Prop := ((a1 = 59 → post true S) ∧ (¬ a1 = 59 → ((a1 = 60 → post true S) ∧ (¬ a1 = 60 → ((a1 = 62 → post true S) ∧ (¬ a1 = 62 → ((¬ a1 = 61 → post false S) ∧ (a1 = 61 → post true S))))))))
set_option maxHeartbeats 4000000 in
set_option maxRecDepth 100000 in
theorem c_X11_isSignByte (l : Launch) (G : vG)    {S : vSt} (a1 : Int32) (post : Bool → vSt → Prop) (h : p_X11_isSignByte   S a1 post) : Met l yX11_isSignByte (v_ws yX11_isSignByte cX11_isSignByte 2 (some .boolean)) (v_rm 0 40) (v_Pc G [.ref (G.1 143), .int a1] S) (v_Qz G post) 0 0 (v_A G) := by
  refine v_start (by decide +kernel) (Nat.le_of_ble_eq_true rfl) (fun X hl C D => ?_)
  subst hl
  have C : v_Cx X G cX11_isSignByte RX11 2 (v_rm 0 40) := C
  show VJ X G S 0 [(0, .ref (G.1 143)), (1, .int a1)] []
  refine V_iload_n C 1 dX11_isSignByte_0 rfl rfl ?_
  refine V_bipush (v := 59) C dX11_isSignByte_1 (by decide) ?_
  refine V_icmp_eq (tgt := 24) C dX11_isSignByte_3 (by decide) (fun c => ?_) (fun c => ?_)
  · have h := h.1 c
    refine V_iconst (v := 1) C dX11_isSignByte_24 (by decide) ?_
    refine V_goto (tgt := 29) C dX11_isSignByte_25 (by decide) ?_
    exact V_zret1 C D dX11_isSignByte_29 h
  · have h := h.2 c
    refine V_iload_n C 1 dX11_isSignByte_6 rfl rfl ?_
    refine V_bipush (v := 60) C dX11_isSignByte_7 (by decide) ?_
    refine V_icmp_eq (tgt := 24) C dX11_isSignByte_9 (by decide) (fun c => ?_) (fun c => ?_)
    · have h := h.1 c
      refine V_iconst (v := 1) C dX11_isSignByte_24 (by decide) ?_
      refine V_goto (tgt := 29) C dX11_isSignByte_25 (by decide) ?_
      exact V_zret1 C D dX11_isSignByte_29 h
    · have h := h.2 c
      refine V_iload_n C 1 dX11_isSignByte_12 rfl rfl ?_
      refine V_bipush (v := 62) C dX11_isSignByte_13 (by decide) ?_
      refine V_icmp_eq (tgt := 24) C dX11_isSignByte_15 (by decide) (fun c => ?_) (fun c => ?_)
      · have h := h.1 c
        refine V_iconst (v := 1) C dX11_isSignByte_24 (by decide) ?_
        refine V_goto (tgt := 29) C dX11_isSignByte_25 (by decide) ?_
        exact V_zret1 C D dX11_isSignByte_29 h
      · have h := h.2 c
        refine V_iload_n C 1 dX11_isSignByte_18 rfl rfl ?_
        refine V_bipush (v := 61) C dX11_isSignByte_19 (by decide) ?_
        refine V_icmp_ne (tgt := 28) C dX11_isSignByte_21 (by decide) (fun c => ?_) (fun c => ?_)
        · have h := h.1 c
          refine V_iconst (v := 0) C dX11_isSignByte_28 (by decide) ?_
          exact V_zret0 C D dX11_isSignByte_29 h
        · have h := h.2 c
          refine V_iconst (v := 1) C dX11_isSignByte_24 (by decide) ?_
          refine V_goto (tgt := 29) C dX11_isSignByte_25 (by decide) ?_
          exact V_zret1 C D dX11_isSignByte_29 h
/-! HalfAccuserModel.advance()V -/
theorem dX11_advance_0 : decode cX11_advance 0 = .ok ((.aload_n 0), 1) := by decide +kernel
theorem dX11_advance_1 : decode cX11_advance 1 = .ok ((.aload_n 0), 1) := by decide +kernel
theorem dX11_advance_2 : decode cX11_advance 2 = .ok ((.getfield 106), 3) := by decide +kernel
theorem dX11_advance_5 : decode cX11_advance 5 = .ok ((.putfield 109), 3) := by decide +kernel
theorem dX11_advance_8 : decode cX11_advance 8 = .ok ((.aload_n 0), 1) := by decide +kernel
theorem dX11_advance_9 : decode cX11_advance 9 = .ok ((.getfield 109), 3) := by decide +kernel
theorem dX11_advance_12 : decode cX11_advance 12 = .ok ((.aload_n 0), 1) := by decide +kernel
theorem dX11_advance_13 : decode cX11_advance 13 = .ok ((.getfield 103), 3) := by decide +kernel
theorem dX11_advance_16 : decode cX11_advance 16 = .ok ((.if_icmp .ge 42), 3) := by decide +kernel
theorem dX11_advance_19 : decode cX11_advance 19 = .ok ((.aload_n 0), 1) := by decide +kernel
theorem dX11_advance_20 : decode cX11_advance 20 = .ok ((.aload_n 0), 1) := by decide +kernel
theorem dX11_advance_21 : decode cX11_advance 21 = .ok ((.getfield 109), 3) := by decide +kernel
theorem dX11_advance_24 : decode cX11_advance 24 = .ok ((.invokevirtual 112), 3) := by decide +kernel
theorem dX11_advance_27 : decode cX11_advance 27 = .ok ((.bipush 10), 2) := by decide +kernel
theorem dX11_advance_29 : decode cX11_advance 29 = .ok ((.if_icmp .eq 16), 3) := by decide +kernel
theorem dX11_advance_32 : decode cX11_advance 32 = .ok ((.aload_n 0), 1) := by decide +kernel
theorem dX11_advance_33 : decode cX11_advance 33 = .ok ((.aload_n 0), 1) := by decide +kernel
theorem dX11_advance_34 : decode cX11_advance 34 = .ok ((.getfield 109), 3) := by decide +kernel
theorem dX11_advance_37 : decode cX11_advance 37 = .ok ((.invokevirtual 112), 3) := by decide +kernel
theorem dX11_advance_40 : decode cX11_advance 40 = .ok ((.bipush 32), 2) := by decide +kernel
theorem dX11_advance_42 : decode cX11_advance 42 = .ok ((.if_icmp .ne 16), 3) := by decide +kernel
theorem dX11_advance_45 : decode cX11_advance 45 = .ok ((.aload_n 0), 1) := by decide +kernel
theorem dX11_advance_46 : decode cX11_advance 46 = .ok (.dup, 1) := by decide +kernel
theorem dX11_advance_47 : decode cX11_advance 47 = .ok ((.getfield 109), 3) := by decide +kernel
theorem dX11_advance_50 : decode cX11_advance 50 = .ok ((.iconst 1), 1) := by decide +kernel
theorem dX11_advance_51 : decode cX11_advance 51 = .ok (.iadd, 1) := by decide +kernel
theorem dX11_advance_52 : decode cX11_advance 52 = .ok ((.putfield 109), 3) := by decide +kernel
theorem dX11_advance_55 : decode cX11_advance 55 = .ok ((.goto (-47)), 3) := by decide +kernel
theorem dX11_advance_58 : decode cX11_advance 58 = .ok ((.aload_n 0), 1) := by decide +kernel
theorem dX11_advance_59 : decode cX11_advance 59 = .ok ((.aload_n 0), 1) := by decide +kernel
theorem dX11_advance_60 : decode cX11_advance 60 = .ok ((.getfield 109), 3) := by decide +kernel
theorem dX11_advance_63 : decode cX11_advance 63 = .ok ((.putfield 106), 3) := by decide +kernel
theorem dX11_advance_66 : decode cX11_advance 66 = .ok ((.aload_n 0), 1) := by decide +kernel
theorem dX11_advance_67 : decode cX11_advance 67 = .ok ((.getfield 109), 3) := by decide +kernel
theorem dX11_advance_70 : decode cX11_advance 70 = .ok ((.aload_n 0), 1) := by decide +kernel
theorem dX11_advance_71 : decode cX11_advance 71 = .ok ((.getfield 103), 3) := by decide +kernel
theorem dX11_advance_74 : decode cX11_advance 74 = .ok ((.if_icmp .lt 9), 3) := by decide +kernel
theorem dX11_advance_77 : decode cX11_advance 77 = .ok ((.aload_n 0), 1) := by decide +kernel
theorem dX11_advance_78 : decode cX11_advance 78 = .ok ((.iconst 0), 1) := by decide +kernel
theorem dX11_advance_79 : decode cX11_advance 79 = .ok ((.putfield 115), 3) := by decide +kernel
theorem dX11_advance_82 : decode cX11_advance 82 = .ok (.return_, 1) := by decide +kernel
theorem dX11_advance_83 : decode cX11_advance 83 = .ok ((.aload_n 0), 1) := by decide +kernel
theorem dX11_advance_84 : decode cX11_advance 84 = .ok ((.aload_n 0), 1) := by decide +kernel
theorem dX11_advance_85 : decode cX11_advance 85 = .ok ((.getfield 109), 3) := by decide +kernel
theorem dX11_advance_88 : decode cX11_advance 88 = .ok ((.invokevirtual 112), 3) := by decide +kernel
theorem dX11_advance_91 : decode cX11_advance 91 = .ok ((.istore_n 1), 1) := by decide +kernel
theorem dX11_advance_92 : decode cX11_advance 92 = .ok ((.iload_n 1), 1) := by decide +kernel
theorem dX11_advance_93 : decode cX11_advance 93 = .ok ((.invokestatic 118), 3) := by decide +kernel
theorem dX11_advance_96 : decode cX11_advance 96 = .ok ((.ifCond .eq 102), 3) := by decide +kernel
theorem dX11_advance_99 : decode cX11_advance 99 = .ok ((.aload_n 0), 1) := by decide +kernel
theorem dX11_advance_100 : decode cX11_advance 100 = .ok ((.iconst 1), 1) := by decide +kernel
theorem dX11_advance_101 : decode cX11_advance 101 = .ok ((.putfield 115), 3) := by decide +kernel
theorem dX11_advance_104 : decode cX11_advance 104 = .ok ((.aload_n 0), 1) := by decide +kernel
theorem dX11_advance_105 : decode cX11_advance 105 = .ok ((.lconst 0), 1) := by decide +kernel
theorem dX11_advance_106 : decode cX11_advance 106 = .ok ((.putfield 121), 3) := by decide +kernel
theorem dX11_advance_109 : decode cX11_advance 109 = .ok ((.aload_n 0), 1) := by decide +kernel
theorem dX11_advance_110 : decode cX11_advance 110 = .ok ((.aload_n 0), 1) := by decide +kernel
theorem dX11_advance_111 : decode cX11_advance 111 = .ok ((.getfield 106), 3) := by decide +kernel
theorem dX11_advance_114 : decode cX11_advance 114 = .ok ((.invokevirtual 112), 3) := by decide +kernel
theorem dX11_advance_117 : decode cX11_advance 117 = .ok ((.invokestatic 118), 3) := by decide +kernel
theorem dX11_advance_120 : decode cX11_advance 120 = .ok ((.ifCond .eq 62), 3) := by decide +kernel
theorem dX11_advance_123 : decode cX11_advance 123 = .ok ((.aload_n 0), 1) := by decide +kernel
theorem dX11_advance_124 : decode cX11_advance 124 = .ok ((.aload_n 0), 1) := by decide +kernel
theorem dX11_advance_125 : decode cX11_advance 125 = .ok ((.getfield 106), 3) := by decide +kernel
theorem dX11_advance_128 : decode cX11_advance 128 = .ok ((.aload_n 0), 1) := by decide +kernel
theorem dX11_advance_129 : decode cX11_advance 129 = .ok ((.getfield 109), 3) := by decide +kernel
theorem dX11_advance_132 : decode cX11_advance 132 = .ok (.isub, 1) := by decide +kernel
theorem dX11_advance_133 : decode cX11_advance 133 = .ok ((.bipush 8), 2) := by decide +kernel
theorem dX11_advance_135 : decode cX11_advance 135 = .ok ((.if_icmp .ge 28), 3) := by decide +kernel
theorem dX11_advance_138 : decode cX11_advance 138 = .ok ((.aload_n 0), 1) := by decide +kernel
theorem dX11_advance_139 : decode cX11_advance 139 = .ok ((.getfield 121), 3) := by decide +kernel
theorem dX11_advance_142 : decode cX11_advance 142 = .ok ((.ldc2_w 124), 3) := by decide +kernel
theorem dX11_advance_145 : decode cX11_advance 145 = .ok (.lmul, 1) := by decide +kernel
theorem dX11_advance_146 : decode cX11_advance 146 = .ok ((.aload_n 0), 1) := by decide +kernel
theorem dX11_advance_147 : decode cX11_advance 147 = .ok ((.aload_n 0), 1) := by decide +kernel
theorem dX11_advance_148 : decode cX11_advance 148 = .ok ((.getfield 106), 3) := by decide +kernel
theorem dX11_advance_151 : decode cX11_advance 151 = .ok ((.invokevirtual 112), 3) := by decide +kernel
theorem dX11_advance_154 : decode cX11_advance 154 = .ok (.i2l, 1) := by decide +kernel
theorem dX11_advance_155 : decode cX11_advance 155 = .ok (.ladd, 1) := by decide +kernel
theorem dX11_advance_156 : decode cX11_advance 156 = .ok ((.ldc2_w 126), 3) := by decide +kernel
theorem dX11_advance_159 : decode cX11_advance 159 = .ok (.lsub, 1) := by decide +kernel
theorem dX11_advance_160 : decode cX11_advance 160 = .ok ((.goto 6), 3) := by decide +kernel
theorem dX11_advance_163 : decode cX11_advance 163 = .ok ((.ldc2_w 91), 3) := by decide +kernel
theorem dX11_advance_166 : decode cX11_advance 166 = .ok ((.putfield 121), 3) := by decide +kernel
theorem dX11_advance_169 : decode cX11_advance 169 = .ok ((.aload_n 0), 1) := by decide +kernel
theorem dX11_advance_170 : decode cX11_advance 170 = .ok (.dup, 1) := by decide +kernel
theorem dX11_advance_171 : decode cX11_advance 171 = .ok ((.getfield 106), 3) := by decide +kernel
theorem dX11_advance_174 : decode cX11_advance 174 = .ok ((.iconst 1), 1) := by decide +kernel
theorem dX11_advance_175 : decode cX11_advance 175 = .ok (.iadd, 1) := by decide +kernel
theorem dX11_advance_176 : decode cX11_advance 176 = .ok ((.putfield 106), 3) := by decide +kernel
theorem dX11_advance_179 : decode cX11_advance 179 = .ok ((.goto (-70)), 3) := by decide +kernel
theorem dX11_advance_182 : decode cX11_advance 182 = .ok ((.aload_n 0), 1) := by decide +kernel
theorem dX11_advance_183 : decode cX11_advance 183 = .ok ((.aload_n 0), 1) := by decide +kernel
theorem dX11_advance_184 : decode cX11_advance 184 = .ok ((.getfield 106), 3) := by decide +kernel
theorem dX11_advance_187 : decode cX11_advance 187 = .ok ((.aload_n 0), 1) := by decide +kernel
theorem dX11_advance_188 : decode cX11_advance 188 = .ok ((.getfield 109), 3) := by decide +kernel
theorem dX11_advance_191 : decode cX11_advance 191 = .ok (.isub, 1) := by decide +kernel
theorem dX11_advance_192 : decode cX11_advance 192 = .ok ((.putfield 128), 3) := by decide +kernel
theorem dX11_advance_195 : decode cX11_advance 195 = .ok ((.goto 135), 3) := by decide +kernel
theorem dX11_advance_198 : decode cX11_advance 198 = .ok ((.iload_n 1), 1) := by decide +kernel
theorem dX11_advance_199 : decode cX11_advance 199 = .ok ((.invokestatic 131), 3) := by decide +kernel
theorem dX11_advance_202 : decode cX11_advance 202 = .ok ((.ifCond .eq 96), 3) := by decide +kernel
theorem dX11_advance_205 : decode cX11_advance 205 = .ok ((.aload_n 0), 1) := by decide +kernel
theorem dX11_advance_206 : decode cX11_advance 206 = .ok ((.iconst 0), 1) := by decide +kernel
theorem dX11_advance_207 : decode cX11_advance 207 = .ok ((.putfield 134), 3) := by decide +kernel
theorem dX11_advance_210 : decode cX11_advance 210 = .ok ((.aload_n 0), 1) := by decide +kernel
theorem dX11_advance_211 : decode cX11_advance 211 = .ok ((.aload_n 0), 1) := by decide +kernel
theorem dX11_advance_212 : decode cX11_advance 212 = .ok ((.getfield 106), 3) := by decide +kernel
theorem dX11_advance_215 : decode cX11_advance 215 = .ok ((.invokevirtual 112), 3) := by decide +kernel
theorem dX11_advance_218 : decode cX11_advance 218 = .ok ((.invokestatic 131), 3) := by decide +kernel
theorem dX11_advance_221 : decode cX11_advance 221 = .ok ((.ifCond .eq 52), 3) := by decide +kernel
theorem dX11_advance_224 : decode cX11_advance 224 = .ok ((.aload_n 0), 1) := by decide +kernel
theorem dX11_advance_225 : decode cX11_advance 225 = .ok ((.getfield 106), 3) := by decide +kernel
theorem dX11_advance_228 : decode cX11_advance 228 = .ok ((.aload_n 0), 1) := by decide +kernel
theorem dX11_advance_229 : decode cX11_advance 229 = .ok ((.getfield 109), 3) := by decide +kernel
theorem dX11_advance_232 : decode cX11_advance 232 = .ok (.isub, 1) := by decide +kernel
theorem dX11_advance_233 : decode cX11_advance 233 = .ok ((.iconst 4), 1) := by decide +kernel
theorem dX11_advance_234 : decode cX11_advance 234 = .ok ((.if_icmp .ge 26), 3) := by decide +kernel
theorem dX11_advance_237 : decode cX11_advance 237 = .ok ((.aload_n 0), 1) := by decide +kernel
theorem dX11_advance_238 : decode cX11_advance 238 = .ok ((.bipush 10), 2) := by decide +kernel
theorem dX11_advance_240 : decode cX11_advance 240 = .ok ((.aload_n 0), 1) := by decide +kernel
theorem dX11_advance_241 : decode cX11_advance 241 = .ok ((.getfield 134), 3) := by decide +kernel
theorem dX11_advance_244 : decode cX11_advance 244 = .ok (.imul, 1) := by decide +kernel
theorem dX11_advance_245 : decode cX11_advance 245 = .ok ((.aload_n 0), 1) := by decide +kernel
theorem dX11_advance_246 : decode cX11_advance 246 = .ok ((.aload_n 0), 1) := by decide +kernel
theorem dX11_advance_247 : decode cX11_advance 247 = .ok ((.getfield 106), 3) := by decide +kernel
theorem dX11_advance_250 : decode cX11_advance 250 = .ok ((.invokevirtual 112), 3) := by decide +kernel
theorem dX11_advance_253 : decode cX11_advance 253 = .ok (.iadd, 1) := by decide +kernel
theorem dX11_advance_254 : decode cX11_advance 254 = .ok ((.bipush 48), 2) := by decide +kernel
theorem dX11_advance_256 : decode cX11_advance 256 = .ok (.isub, 1) := by decide +kernel
theorem dX11_advance_257 : decode cX11_advance 257 = .ok ((.putfield 134), 3) := by decide +kernel
theorem dX11_advance_260 : decode cX11_advance 260 = .ok ((.aload_n 0), 1) := by decide +kernel
theorem dX11_advance_261 : decode cX11_advance 261 = .ok (.dup, 1) := by decide +kernel
theorem dX11_advance_262 : decode cX11_advance 262 = .ok ((.getfield 106), 3) := by decide +kernel
theorem dX11_advance_265 : decode cX11_advance 265 = .ok ((.iconst 1), 1) := by decide +kernel
theorem dX11_advance_266 : decode cX11_advance 266 = .ok (.iadd, 1) := by decide +kernel
theorem dX11_advance_267 : decode cX11_advance 267 = .ok ((.putfield 106), 3) := by decide +kernel
theorem dX11_advance_270 : decode cX11_advance 270 = .ok ((.goto (-60)), 3) := by decide +kernel
theorem dX11_advance_273 : decode cX11_advance 273 = .ok ((.aload_n 0), 1) := by decide +kernel
theorem dX11_advance_274 : decode cX11_advance 274 = .ok ((.aload_n 0), 1) := by decide +kernel
theorem dX11_advance_275 : decode cX11_advance 275 = .ok ((.getfield 106), 3) := by decide +kernel
theorem dX11_advance_278 : decode cX11_advance 278 = .ok ((.aload_n 0), 1) := by decide +kernel
theorem dX11_advance_279 : decode cX11_advance 279 = .ok ((.getfield 109), 3) := by decide +kernel
theorem dX11_advance_282 : decode cX11_advance 282 = .ok (.isub, 1) := by decide +kernel
theorem dX11_advance_283 : decode cX11_advance 283 = .ok ((.iconst 4), 1) := by decide +kernel
theorem dX11_advance_284 : decode cX11_advance 284 = .ok ((.if_icmp .le 7), 3) := by decide +kernel
theorem dX11_advance_287 : decode cX11_advance 287 = .ok ((.iconst 4), 1) := by decide +kernel
theorem dX11_advance_288 : decode cX11_advance 288 = .ok ((.goto 4), 3) := by decide +kernel
theorem dX11_advance_291 : decode cX11_advance 291 = .ok ((.iconst 2), 1) := by decide +kernel
theorem dX11_advance_292 : decode cX11_advance 292 = .ok ((.putfield 115), 3) := by decide +kernel
theorem dX11_advance_295 : decode cX11_advance 295 = .ok ((.goto 35), 3) := by decide +kernel
theorem dX11_advance_298 : decode cX11_advance 298 = .ok ((.aload_n 0), 1) := by decide +kernel
theorem dX11_advance_299 : decode cX11_advance 299 = .ok ((.aload_n 0), 1) := by decide +kernel
theorem dX11_advance_300 : decode cX11_advance 300 = .ok ((.getfield 109), 3) := by decide +kernel
theorem dX11_advance_303 : decode cX11_advance 303 = .ok ((.iconst 1), 1) := by decide +kernel
theorem dX11_advance_304 : decode cX11_advance 304 = .ok (.iadd, 1) := by decide +kernel
theorem dX11_advance_305 : decode cX11_advance 305 = .ok ((.putfield 106), 3) := by decide +kernel
theorem dX11_advance_308 : decode cX11_advance 308 = .ok ((.aload_n 0), 1) := by decide +kernel
theorem dX11_advance_309 : decode cX11_advance 309 = .ok ((.iload_n 1), 1) := by decide +kernel
theorem dX11_advance_310 : decode cX11_advance 310 = .ok ((.putfield 134), 3) := by decide +kernel
theorem dX11_advance_313 : decode cX11_advance 313 = .ok ((.aload_n 0), 1) := by decide +kernel
theorem dX11_advance_314 : decode cX11_advance 314 = .ok ((.aload_n 0), 1) := by decide +kernel
theorem dX11_advance_315 : decode cX11_advance 315 = .ok ((.iload_n 1), 1) := by decide +kernel
theorem dX11_advance_316 : decode cX11_advance 316 = .ok ((.invokevirtual 137), 3) := by decide +kernel
theorem dX11_advance_319 : decode cX11_advance 319 = .ok ((.ifCond .eq 7), 3) := by decide +kernel
theorem dX11_advance_322 : decode cX11_advance 322 = .ok ((.iconst 3), 1) := by decide +kernel
theorem dX11_advance_323 : decode cX11_advance 323 = .ok ((.goto 4), 3) := by decide +kernel
theorem dX11_advance_326 : decode cX11_advance 326 = .ok ((.iconst 4), 1) := by decide +kernel
theorem dX11_advance_327 : decode cX11_advance 327 = .ok ((.putfield 115), 3) := by decide +kernel
theorem dX11_advance_330 : decode cX11_advance 330 = .ok (.return_, 1) := by decide +kernel
def p_X11_advance_260    (K210 : vSt → Prop) (post : vSt → Prop) (S : vSt)  : Prop := ∀ S64, S64 = v_si S 143 16 ((S.1 143 16) + 1) → K210 S64 
def p_X11_advance_210     (post : vSt → Prop) : Nat → vSt → Prop
  | 0 => fun _ => False
  | fu210 + 1 => fun S  => p_X11_look2  S (S.1 143 16) (fun r59 S58 => p_X11_isDigit  S58 r59 (fun r61 S60 => ((r61 = false → ((((S60.1 143 16) - (S60.1 143 15)) ≤ 4 → ∀ S62, S62 = v_si S60 143 14 2 → post S62) ∧ (¬ ((S60.1 143 16) - (S60.1 143 15)) ≤ 4 → ∀ S63, S63 = v_si S60 143 14 4 → post S63))) ∧ (r61 = true → ((4 ≤ ((S60.1 143 16) - (S60.1 143 15)) → p_X11_advance_260 (p_X11_advance_210  post fu210) post S60 ) ∧ (¬ 4 ≤ ((S60.1 143 16) - (S60.1 143 15)) → p_X11_look2  S60 (S60.1 143 16) (fun r65 S64 => ∀ S66, S66 = v_si S64 143 17 (((10 * (S60.1 143 17)) + r65) - 48) → p_X11_advance_260 (p_X11_advance_210  post fu210) post S66 )))))))
theorem e_X11_advance_210     (post : vSt → Prop) (fu210 : Nat) (S : vSt)  : p_X11_advance_210  post (fu210 + 1) S  = (p_X11_look2  S (S.1 143 16) (fun r59 S58 => p_X11_isDigit  S58 r59 (fun r61 S60 => ((r61 = false → ((((S60.1 143 16) - (S60.1 143 15)) ≤ 4 → ∀ S62, S62 = v_si S60 143 14 2 → post S62) ∧ (¬ ((S60.1 143 16) - (S60.1 143 15)) ≤ 4 → ∀ S63, S63 = v_si S60 143 14 4 → post S63))) ∧ (r61 = true → ((4 ≤ ((S60.1 143 16) - (S60.1 143 15)) → p_X11_advance_260 (p_X11_advance_210  post fu210) post S60 ) ∧ (¬ 4 ≤ ((S60.1 143 16) - (S60.1 143 15)) → p_X11_look2  S60 (S60.1 143 16) (fun r65 S64 => ∀ S66, S66 = v_si S64 143 17 (((10 * (S60.1 143 17)) + r65) - 48) → p_X11_advance_260 (p_X11_advance_210  post fu210) post S66 )))))))) := rfl
def p_X11_advance_166    (K109 : vSt → Prop) (post : vSt → Prop) (S : vSt) (s0 : Int64) : Prop := ∀ S65, S65 = v_sl S 143 19 s0 → ∀ S66, S66 = v_si S65 143 16 ((S65.1 143 16) + 1) → K109 S66 
def p_X11_advance_109     (post : vSt → Prop) : Nat → vSt → Prop
  | 0 => fun _ => False
  | fu109 + 1 => fun S  => p_X11_look2  S (S.1 143 16) (fun r61 S60 => p_X11_isLetter  S60 r61 (fun r63 S62 => ((r63 = false → ∀ S64, S64 = v_si S62 143 18 ((S62.1 143 16) - (S62.1 143 15)) → post S64) ∧ (r63 = true → ((8 ≤ ((S62.1 143 16) - (S62.1 143 15)) → p_X11_advance_166 (p_X11_advance_109  post fu109) post S62 (-1)) ∧ (¬ 8 ≤ ((S62.1 143 16) - (S62.1 143 15)) → p_X11_look2  S62 (S62.1 143 16) (fun r66 S65 => p_X11_advance_166 (p_X11_advance_109  post fu109) post S65 ((((S62.2 143 19) * 32) + (Int32.toInt64 r66)) - 96))))))))
theorem e_X11_advance_109     (post : vSt → Prop) (fu109 : Nat) (S : vSt)  : p_X11_advance_109  post (fu109 + 1) S  = (p_X11_look2  S (S.1 143 16) (fun r61 S60 => p_X11_isLetter  S60 r61 (fun r63 S62 => ((r63 = false → ∀ S64, S64 = v_si S62 143 18 ((S62.1 143 16) - (S62.1 143 15)) → post S64) ∧ (r63 = true → ((8 ≤ ((S62.1 143 16) - (S62.1 143 15)) → p_X11_advance_166 (p_X11_advance_109  post fu109) post S62 (-1)) ∧ (¬ 8 ≤ ((S62.1 143 16) - (S62.1 143 15)) → p_X11_look2  S62 (S62.1 143 16) (fun r66 S65 => p_X11_advance_166 (p_X11_advance_109  post fu109) post S65 ((((S62.2 143 19) * 32) + (Int32.toInt64 r66)) - 96))))))))) := rfl
def p_X11_advance_58     (post : vSt → Prop) (S : vSt)  : Prop := ∀ S44, S44 = v_si S 143 16 (S.1 143 15) → (((S44.1 143 15) < (S44.1 143 9) → p_X11_look2  S44 (S44.1 143 15) (fun r46 S45 => p_X11_isLetter  S45 r46 (fun r48 S47 => ((r48 = false → p_X11_isDigit  S47 r46 (fun r50 S49 => ((r50 = false → ∀ S51, S51 = v_si S49 143 16 ((S49.1 143 15) + 1) → ∀ S52, S52 = v_si S51 143 17 r46 → p_X11_isSignByte  S52 r46 (fun r54 S53 => ((r54 = false → ∀ S55, S55 = v_si S53 143 14 4 → post S55) ∧ (r54 = true → ∀ S56, S56 = v_si S53 143 14 3 → post S56)))) ∧ (r50 = true → ∀ S57, S57 = v_si S49 143 17 0 → ∃ fu210, p_X11_advance_210  post fu210 S57 )))) ∧ (r48 = true → ∀ S58, S58 = v_si S47 143 14 1 → ∀ S59, S59 = v_sl S58 143 19 0 → ∃ fu109, p_X11_advance_109  post fu109 S59 ))))) ∧ (¬ (S44.1 143 15) < (S44.1 143 9) → ∀ S60, S60 = v_si S44 143 14 0 → post S60))
def p_X11_advance_45    (K8 : vSt → Prop) (post : vSt → Prop) (S : vSt)  : Prop := ∀ S46, S46 = v_si S 143 15 ((S.1 143 15) + 1) → K8 S46 
def p_X11_advance_8     (post : vSt → Prop) : Nat → vSt → Prop
  | 0 => fun _ => False
  | fu8 + 1 => fun S  => (((S.1 143 9) ≤ (S.1 143 15) → p_X11_advance_58  post S ) ∧ (¬ (S.1 143 9) ≤ (S.1 143 15) → p_X11_look2  S (S.1 143 15) (fun r45 S44 => ((r45 = 10 → p_X11_advance_45 (p_X11_advance_8  post fu8) post S44 ) ∧ (¬ r45 = 10 → p_X11_look2  S44 (S44.1 143 15) (fun r47 S46 => ((¬ r47 = 32 → p_X11_advance_58  post S46 ) ∧ (r47 = 32 → p_X11_advance_45 (p_X11_advance_8  post fu8) post S46 ))))))))
theorem e_X11_advance_8     (post : vSt → Prop) (fu8 : Nat) (S : vSt)  : p_X11_advance_8  post (fu8 + 1) S  = ((((S.1 143 9) ≤ (S.1 143 15) → p_X11_advance_58  post S ) ∧ (¬ (S.1 143 9) ≤ (S.1 143 15) → p_X11_look2  S (S.1 143 15) (fun r45 S44 => ((r45 = 10 → p_X11_advance_45 (p_X11_advance_8  post fu8) post S44 ) ∧ (¬ r45 = 10 → p_X11_look2  S44 (S44.1 143 15) (fun r47 S46 => ((¬ r47 = 32 → p_X11_advance_58  post S46 ) ∧ (r47 = 32 → p_X11_advance_45 (p_X11_advance_8  post fu8) post S46 ))))))))) := rfl
def p_X11_advance   (S : vSt)  (post : vSt → Prop) : Prop := ∀ S43, S43 = v_si S 143 15 (S.1 143 16) → ∃ fu8, p_X11_advance_8  post fu8 S43 
set_option maxHeartbeats 4000000 in
set_option maxRecDepth 100000 in
theorem q_X11_advance_260 {X : vX} {G : vG}  {post : vSt → Prop} (C : v_Cx X G cX11_advance RX11 2 (v_rm 1 61)) (D : v_Rx X G (v_Qv G post) none)    {K210 : vSt → Prop} (hK210 : ∀ S , K210 S  → VJ X G S 210 [(0, .ref (G.1 143))] []) : ∀ (S : vSt), p_X11_advance_260 K210 post S  → VJ X G S 260 [(0, .ref (G.1 143))] [] := by
  intro S  h
  refine V_aload_n C 0 dX11_advance_260 rfl rfl ?_
  refine V_dup C dX11_advance_261 rfl ?_
  refine V_gi C 143 (by decide) (by decide) F_11_16 k_RX11_106 dX11_advance_262 ?_
  refine V_iconst (v := 1) C dX11_advance_265 (by decide) ?_
  refine V_iadd C dX11_advance_266 ?_
  refine V_pi C 143 (by decide) (by decide) P_11_16 k_RX11_106 dX11_advance_267 ?_
  refine V_topS (fun S64 eS64 => ?_)
  have h := h S64 eS64
  refine V_goto (tgt := 210) C dX11_advance_270 (by decide) ?_
  exact hK210 _ h
set_option maxHeartbeats 4000000 in
set_option maxRecDepth 100000 in
theorem q_X11_advance_210 {X : vX} {G : vG}  {post : vSt → Prop} (C : v_Cx X G cX11_advance RX11 2 (v_rm 1 61)) (D : v_Rx X G (v_Qv G post) none)     : ∀ (fu : Nat) (S : vSt) , p_X11_advance_210  post fu S  → VJ X G S 210 [(0, .ref (G.1 143))] [] := by
  intro fu
  induction fu with
  | zero => intro S  h; exact absurd h id
  | succ fu ih =>
    intro S  h
    have hK210 := ih
    rw [e_X11_advance_210] at h
    refine V_aload_n C 0 dX11_advance_210 rfl rfl ?_
    refine V_aload_n C 0 dX11_advance_211 rfl rfl ?_
    refine V_gi C 143 (by decide) (by decide) F_11_16 k_RX11_106 dX11_advance_212 ?_
    refine V_callVi (As := [.int (S.1 143 16)]) (rest := []) C (c_X11_look2 (v_l X) G  _ _ h) 143 11 (by decide) (by decide) (by decide) rfl KV_X11_look2 k_RX11_112 rfl rfl rfl (Nat.le_of_ble_eq_true rfl) ⟨Nat.le_of_ble_eq_true rfl, Nat.le_of_ble_eq_true rfl⟩ dX11_advance_215 (fun r59 S58 h => ?_)
    refine V_callSz (As := [.int r59]) (rest := []) C (c_X11_isDigit (v_l X) G  _ _ h) KV_X11_isDigit k_RX11_131 rfl rfl rfl (Nat.le_of_ble_eq_true rfl) ⟨Nat.le_of_ble_eq_true rfl, Nat.le_of_ble_eq_true rfl⟩ dX11_advance_218 (fun r61 S60 h => ?_)
    refine V_ifb_eq (tgt := 273) C dX11_advance_221 (by decide) (fun c => ?_) (fun c => ?_)
    · have h := h.1 c
      refine V_aload_n C 0 dX11_advance_273 rfl rfl ?_
      refine V_aload_n C 0 dX11_advance_274 rfl rfl ?_
      refine V_gi C 143 (by decide) (by decide) F_11_16 k_RX11_106 dX11_advance_275 ?_
      refine V_aload_n C 0 dX11_advance_278 rfl rfl ?_
      refine V_gi C 143 (by decide) (by decide) F_11_15 k_RX11_109 dX11_advance_279 ?_
      refine V_isub C dX11_advance_282 ?_
      refine V_iconst (v := 4) C dX11_advance_283 (by decide) ?_
      refine V_icmp_le (tgt := 291) C dX11_advance_284 (by decide) (fun c => ?_) (fun c => ?_)
      · have h := h.1 c
        refine V_iconst (v := 2) C dX11_advance_291 (by decide) ?_
        refine V_pi C 143 (by decide) (by decide) P_11_14 k_RX11_115 dX11_advance_292 ?_
        refine V_topS (fun S62 eS62 => ?_)
        have h := h S62 eS62
        refine V_goto (tgt := 330) C dX11_advance_295 (by decide) ?_
        exact V_vret C D dX11_advance_330 h
      · have h := h.2 c
        refine V_iconst (v := 4) C dX11_advance_287 (by decide) ?_
        refine V_goto (tgt := 292) C dX11_advance_288 (by decide) ?_
        refine V_pi C 143 (by decide) (by decide) P_11_14 k_RX11_115 dX11_advance_292 ?_
        refine V_topS (fun S63 eS63 => ?_)
        have h := h S63 eS63
        refine V_goto (tgt := 330) C dX11_advance_295 (by decide) ?_
        exact V_vret C D dX11_advance_330 h
    · have h := h.2 c
      refine V_aload_n C 0 dX11_advance_224 rfl rfl ?_
      refine V_gi C 143 (by decide) (by decide) F_11_16 k_RX11_106 dX11_advance_225 ?_
      refine V_aload_n C 0 dX11_advance_228 rfl rfl ?_
      refine V_gi C 143 (by decide) (by decide) F_11_15 k_RX11_109 dX11_advance_229 ?_
      refine V_isub C dX11_advance_232 ?_
      refine V_iconst (v := 4) C dX11_advance_233 (by decide) ?_
      refine V_icmp_ge (tgt := 260) C dX11_advance_234 (by decide) (fun c => ?_) (fun c => ?_)
      · have h := h.1 c
        exact q_X11_advance_260 C D hK210 _ h
      · have h := h.2 c
        refine V_aload_n C 0 dX11_advance_237 rfl rfl ?_
        refine V_bipush (v := 10) C dX11_advance_238 (by decide) ?_
        refine V_aload_n C 0 dX11_advance_240 rfl rfl ?_
        refine V_gi C 143 (by decide) (by decide) F_11_17 k_RX11_134 dX11_advance_241 ?_
        refine V_imul C dX11_advance_244 ?_
        refine V_aload_n C 0 dX11_advance_245 rfl rfl ?_
        refine V_aload_n C 0 dX11_advance_246 rfl rfl ?_
        refine V_gi C 143 (by decide) (by decide) F_11_16 k_RX11_106 dX11_advance_247 ?_
        refine V_callVi (As := [.int (S60.1 143 16)]) (rest := [.int (10 * (S60.1 143 17)), .ref (G.1 143)]) C (c_X11_look2 (v_l X) G  _ _ h) 143 11 (by decide) (by decide) (by decide) rfl KV_X11_look2 k_RX11_112 rfl rfl rfl (Nat.le_of_ble_eq_true rfl) ⟨Nat.le_of_ble_eq_true rfl, Nat.le_of_ble_eq_true rfl⟩ dX11_advance_250 (fun r65 S64 h => ?_)
        refine V_iadd C dX11_advance_253 ?_
        refine V_bipush (v := 48) C dX11_advance_254 (by decide) ?_
        refine V_isub C dX11_advance_256 ?_
        refine V_pi C 143 (by decide) (by decide) P_11_17 k_RX11_134 dX11_advance_257 ?_
        refine V_topS (fun S66 eS66 => ?_)
        have h := h S66 eS66
        exact q_X11_advance_260 C D hK210 _ h
set_option maxHeartbeats 4000000 in
set_option maxRecDepth 100000 in
theorem q_X11_advance_166 {X : vX} {G : vG}  {post : vSt → Prop} (C : v_Cx X G cX11_advance RX11 2 (v_rm 1 61)) (D : v_Rx X G (v_Qv G post) none)    {K109 : vSt → Prop} (hK109 : ∀ S , K109 S  → VJ X G S 109 [(0, .ref (G.1 143))] []) : ∀ (S : vSt) (s0 : Int64), p_X11_advance_166 K109 post S s0 → VJ X G S 166 [(0, .ref (G.1 143))] [.long s0, .ref (G.1 143)] := by
  intro S s0 h
  refine V_pl C 143 (by decide) (by decide) P_11_19 k_RX11_121 dX11_advance_166 ?_
  refine V_topS (fun S65 eS65 => ?_)
  have h := h S65 eS65
  refine V_aload_n C 0 dX11_advance_169 rfl rfl ?_
  refine V_dup C dX11_advance_170 rfl ?_
  refine V_gi C 143 (by decide) (by decide) F_11_16 k_RX11_106 dX11_advance_171 ?_
  refine V_iconst (v := 1) C dX11_advance_174 (by decide) ?_
  refine V_iadd C dX11_advance_175 ?_
  refine V_pi C 143 (by decide) (by decide) P_11_16 k_RX11_106 dX11_advance_176 ?_
  refine V_topS (fun S66 eS66 => ?_)
  have h := h S66 eS66
  refine V_goto (tgt := 109) C dX11_advance_179 (by decide) ?_
  exact hK109 _ h
set_option maxHeartbeats 4000000 in
set_option maxRecDepth 100000 in
theorem q_X11_advance_109 {X : vX} {G : vG}  {post : vSt → Prop} (C : v_Cx X G cX11_advance RX11 2 (v_rm 1 61)) (D : v_Rx X G (v_Qv G post) none)     : ∀ (fu : Nat) (S : vSt) , p_X11_advance_109  post fu S  → VJ X G S 109 [(0, .ref (G.1 143))] [] := by
  intro fu
  induction fu with
  | zero => intro S  h; exact absurd h id
  | succ fu ih =>
    intro S  h
    have hK109 := ih
    rw [e_X11_advance_109] at h
    refine V_aload_n C 0 dX11_advance_109 rfl rfl ?_
    refine V_aload_n C 0 dX11_advance_110 rfl rfl ?_
    refine V_gi C 143 (by decide) (by decide) F_11_16 k_RX11_106 dX11_advance_111 ?_
    refine V_callVi (As := [.int (S.1 143 16)]) (rest := []) C (c_X11_look2 (v_l X) G  _ _ h) 143 11 (by decide) (by decide) (by decide) rfl KV_X11_look2 k_RX11_112 rfl rfl rfl (Nat.le_of_ble_eq_true rfl) ⟨Nat.le_of_ble_eq_true rfl, Nat.le_of_ble_eq_true rfl⟩ dX11_advance_114 (fun r61 S60 h => ?_)
    refine V_callSz (As := [.int r61]) (rest := []) C (c_X11_isLetter (v_l X) G  _ _ h) KV_X11_isLetter k_RX11_118 rfl rfl rfl (Nat.le_of_ble_eq_true rfl) ⟨Nat.le_of_ble_eq_true rfl, Nat.le_of_ble_eq_true rfl⟩ dX11_advance_117 (fun r63 S62 h => ?_)
    refine V_ifb_eq (tgt := 182) C dX11_advance_120 (by decide) (fun c => ?_) (fun c => ?_)
    · have h := h.1 c
      refine V_aload_n C 0 dX11_advance_182 rfl rfl ?_
      refine V_aload_n C 0 dX11_advance_183 rfl rfl ?_
      refine V_gi C 143 (by decide) (by decide) F_11_16 k_RX11_106 dX11_advance_184 ?_
      refine V_aload_n C 0 dX11_advance_187 rfl rfl ?_
      refine V_gi C 143 (by decide) (by decide) F_11_15 k_RX11_109 dX11_advance_188 ?_
      refine V_isub C dX11_advance_191 ?_
      refine V_pi C 143 (by decide) (by decide) P_11_18 k_RX11_128 dX11_advance_192 ?_
      refine V_topS (fun S64 eS64 => ?_)
      have h := h S64 eS64
      refine V_goto (tgt := 330) C dX11_advance_195 (by decide) ?_
      exact V_vret C D dX11_advance_330 h
    · have h := h.2 c
      refine V_aload_n C 0 dX11_advance_123 rfl rfl ?_
      refine V_aload_n C 0 dX11_advance_124 rfl rfl ?_
      refine V_gi C 143 (by decide) (by decide) F_11_16 k_RX11_106 dX11_advance_125 ?_
      refine V_aload_n C 0 dX11_advance_128 rfl rfl ?_
      refine V_gi C 143 (by decide) (by decide) F_11_15 k_RX11_109 dX11_advance_129 ?_
      refine V_isub C dX11_advance_132 ?_
      refine V_bipush (v := 8) C dX11_advance_133 (by decide) ?_
      refine V_icmp_ge (tgt := 163) C dX11_advance_135 (by decide) (fun c => ?_) (fun c => ?_)
      · have h := h.1 c
        refine V_ldc2 (v := (-1)) C k_RX11_91 dX11_advance_163 ?_
        exact q_X11_advance_166 C D hK109 _ _ h
      · have h := h.2 c
        refine V_aload_n C 0 dX11_advance_138 rfl rfl ?_
        refine V_gl C 143 (by decide) (by decide) F_11_19 k_RX11_121 dX11_advance_139 ?_
        refine V_ldc2 (v := 32) C k_RX11_124 dX11_advance_142 ?_
        refine V_lmul C dX11_advance_145 ?_
        refine V_aload_n C 0 dX11_advance_146 rfl rfl ?_
        refine V_aload_n C 0 dX11_advance_147 rfl rfl ?_
        refine V_gi C 143 (by decide) (by decide) F_11_16 k_RX11_106 dX11_advance_148 ?_
        refine V_callVi (As := [.int (S62.1 143 16)]) (rest := [.long ((S62.2 143 19) * 32), .ref (G.1 143)]) C (c_X11_look2 (v_l X) G  _ _ h) 143 11 (by decide) (by decide) (by decide) rfl KV_X11_look2 k_RX11_112 rfl rfl rfl (Nat.le_of_ble_eq_true rfl) ⟨Nat.le_of_ble_eq_true rfl, Nat.le_of_ble_eq_true rfl⟩ dX11_advance_151 (fun r66 S65 h => ?_)
        refine V_i2l C dX11_advance_154 ?_
        refine V_ladd C dX11_advance_155 ?_
        refine V_ldc2 (v := 96) C k_RX11_126 dX11_advance_156 ?_
        refine V_lsub C dX11_advance_159 ?_
        refine V_goto (tgt := 166) C dX11_advance_160 (by decide) ?_
        exact q_X11_advance_166 C D hK109 _ _ h
set_option maxHeartbeats 4000000 in
set_option maxRecDepth 100000 in
theorem q_X11_advance_58 {X : vX} {G : vG}  {post : vSt → Prop} (C : v_Cx X G cX11_advance RX11 2 (v_rm 1 61)) (D : v_Rx X G (v_Qv G post) none)     : ∀ (S : vSt), p_X11_advance_58  post S  → VJ X G S 58 [(0, .ref (G.1 143))] [] := by
  intro S  h
  refine V_aload_n C 0 dX11_advance_58 rfl rfl ?_
  refine V_aload_n C 0 dX11_advance_59 rfl rfl ?_
  refine V_gi C 143 (by decide) (by decide) F_11_15 k_RX11_109 dX11_advance_60 ?_
  refine V_pi C 143 (by decide) (by decide) P_11_16 k_RX11_106 dX11_advance_63 ?_
  refine V_topS (fun S44 eS44 => ?_)
  have h := h S44 eS44
  refine V_aload_n C 0 dX11_advance_66 rfl rfl ?_
  refine V_gi C 143 (by decide) (by decide) F_11_15 k_RX11_109 dX11_advance_67 ?_
  refine V_aload_n C 0 dX11_advance_70 rfl rfl ?_
  refine V_gi C 143 (by decide) (by decide) F_11_9 k_RX11_103 dX11_advance_71 ?_
  refine V_icmp_lt (tgt := 83) C dX11_advance_74 (by decide) (fun c => ?_) (fun c => ?_)
  · have h := h.1 c
    refine V_aload_n C 0 dX11_advance_83 rfl rfl ?_
    refine V_aload_n C 0 dX11_advance_84 rfl rfl ?_
    refine V_gi C 143 (by decide) (by decide) F_11_15 k_RX11_109 dX11_advance_85 ?_
    refine V_callVi (As := [.int (S44.1 143 15)]) (rest := []) C (c_X11_look2 (v_l X) G  _ _ h) 143 11 (by decide) (by decide) (by decide) rfl KV_X11_look2 k_RX11_112 rfl rfl rfl (Nat.le_of_ble_eq_true rfl) ⟨Nat.le_of_ble_eq_true rfl, Nat.le_of_ble_eq_true rfl⟩ dX11_advance_88 (fun r46 S45 h => ?_)
    refine V_istore_n (lv' := [(0, .ref (G.1 143)), (1, .int r46)]) C [1, 0] dX11_advance_91 rfl (by decide) rfl ?_
    refine V_iload_n C 1 dX11_advance_92 rfl rfl ?_
    refine V_callSz (As := [.int r46]) (rest := []) C (c_X11_isLetter (v_l X) G  _ _ h) KV_X11_isLetter k_RX11_118 rfl rfl rfl (Nat.le_of_ble_eq_true rfl) ⟨Nat.le_of_ble_eq_true rfl, Nat.le_of_ble_eq_true rfl⟩ dX11_advance_93 (fun r48 S47 h => ?_)
    refine V_ifb_eq (tgt := 198) C dX11_advance_96 (by decide) (fun c => ?_) (fun c => ?_)
    · have h := h.1 c
      refine V_iload_n C 1 dX11_advance_198 rfl rfl ?_
      refine V_callSz (As := [.int r46]) (rest := []) C (c_X11_isDigit (v_l X) G  _ _ h) KV_X11_isDigit k_RX11_131 rfl rfl rfl (Nat.le_of_ble_eq_true rfl) ⟨Nat.le_of_ble_eq_true rfl, Nat.le_of_ble_eq_true rfl⟩ dX11_advance_199 (fun r50 S49 h => ?_)
      refine V_ifb_eq (tgt := 298) C dX11_advance_202 (by decide) (fun c => ?_) (fun c => ?_)
      · have h := h.1 c
        refine V_aload_n C 0 dX11_advance_298 rfl rfl ?_
        refine V_aload_n C 0 dX11_advance_299 rfl rfl ?_
        refine V_gi C 143 (by decide) (by decide) F_11_15 k_RX11_109 dX11_advance_300 ?_
        refine V_iconst (v := 1) C dX11_advance_303 (by decide) ?_
        refine V_iadd C dX11_advance_304 ?_
        refine V_pi C 143 (by decide) (by decide) P_11_16 k_RX11_106 dX11_advance_305 ?_
        refine V_topS (fun S51 eS51 => ?_)
        have h := h S51 eS51
        refine V_aload_n C 0 dX11_advance_308 rfl rfl ?_
        refine V_iload_n C 1 dX11_advance_309 rfl rfl ?_
        refine V_pi C 143 (by decide) (by decide) P_11_17 k_RX11_134 dX11_advance_310 ?_
        refine V_topS (fun S52 eS52 => ?_)
        have h := h S52 eS52
        refine V_aload_n C 0 dX11_advance_313 rfl rfl ?_
        refine V_aload_n C 0 dX11_advance_314 rfl rfl ?_
        refine V_iload_n C 1 dX11_advance_315 rfl rfl ?_
        refine V_callVz (As := [.int r46]) (rest := [.ref (G.1 143)]) C (c_X11_isSignByte (v_l X) G  _ _ h) 143 11 (by decide) (by decide) (by decide) rfl KV_X11_isSignByte k_RX11_137 rfl rfl rfl (Nat.le_of_ble_eq_true rfl) ⟨Nat.le_of_ble_eq_true rfl, Nat.le_of_ble_eq_true rfl⟩ dX11_advance_316 (fun r54 S53 h => ?_)
        refine V_ifb_eq (tgt := 326) C dX11_advance_319 (by decide) (fun c => ?_) (fun c => ?_)
        · have h := h.1 c
          refine V_iconst (v := 4) C dX11_advance_326 (by decide) ?_
          refine V_pi C 143 (by decide) (by decide) P_11_14 k_RX11_115 dX11_advance_327 ?_
          refine V_topS (fun S55 eS55 => ?_)
          have h := h S55 eS55
          exact V_vret C D dX11_advance_330 h
        · have h := h.2 c
          refine V_iconst (v := 3) C dX11_advance_322 (by decide) ?_
          refine V_goto (tgt := 327) C dX11_advance_323 (by decide) ?_
          refine V_pi C 143 (by decide) (by decide) P_11_14 k_RX11_115 dX11_advance_327 ?_
          refine V_topS (fun S56 eS56 => ?_)
          have h := h S56 eS56
          exact V_vret C D dX11_advance_330 h
      · have h := h.2 c
        refine V_aload_n C 0 dX11_advance_205 rfl rfl ?_
        refine V_iconst (v := 0) C dX11_advance_206 (by decide) ?_
        refine V_pi C 143 (by decide) (by decide) P_11_17 k_RX11_134 dX11_advance_207 ?_
        refine V_topS (fun S57 eS57 => ?_)
        have h := h S57 eS57
        refine V_loc (lv' := [(0, .ref (G.1 143))]) [0] rfl ?_
        obtain ⟨fu210, h⟩ := h
        exact q_X11_advance_210 C D  fu210 _ h
    · have h := h.2 c
      refine V_aload_n C 0 dX11_advance_99 rfl rfl ?_
      refine V_iconst (v := 1) C dX11_advance_100 (by decide) ?_
      refine V_pi C 143 (by decide) (by decide) P_11_14 k_RX11_115 dX11_advance_101 ?_
      refine V_topS (fun S58 eS58 => ?_)
      have h := h S58 eS58
      refine V_aload_n C 0 dX11_advance_104 rfl rfl ?_
      refine V_lconst (v := 0) C dX11_advance_105 (by decide) ?_
      refine V_pl C 143 (by decide) (by decide) P_11_19 k_RX11_121 dX11_advance_106 ?_
      refine V_topS (fun S59 eS59 => ?_)
      have h := h S59 eS59
      refine V_loc (lv' := [(0, .ref (G.1 143))]) [0] rfl ?_
      obtain ⟨fu109, h⟩ := h
      exact q_X11_advance_109 C D  fu109 _ h
  · have h := h.2 c
    refine V_aload_n C 0 dX11_advance_77 rfl rfl ?_
    refine V_iconst (v := 0) C dX11_advance_78 (by decide) ?_
    refine V_pi C 143 (by decide) (by decide) P_11_14 k_RX11_115 dX11_advance_79 ?_
    refine V_topS (fun S60 eS60 => ?_)
    have h := h S60 eS60
    exact V_vret C D dX11_advance_82 h
set_option maxHeartbeats 4000000 in
set_option maxRecDepth 100000 in
theorem q_X11_advance_45 {X : vX} {G : vG}  {post : vSt → Prop} (C : v_Cx X G cX11_advance RX11 2 (v_rm 1 61)) (D : v_Rx X G (v_Qv G post) none)    {K8 : vSt → Prop} (hK8 : ∀ S , K8 S  → VJ X G S 8 [(0, .ref (G.1 143))] []) : ∀ (S : vSt), p_X11_advance_45 K8 post S  → VJ X G S 45 [(0, .ref (G.1 143))] [] := by
  intro S  h
  refine V_aload_n C 0 dX11_advance_45 rfl rfl ?_
  refine V_dup C dX11_advance_46 rfl ?_
  refine V_gi C 143 (by decide) (by decide) F_11_15 k_RX11_109 dX11_advance_47 ?_
  refine V_iconst (v := 1) C dX11_advance_50 (by decide) ?_
  refine V_iadd C dX11_advance_51 ?_
  refine V_pi C 143 (by decide) (by decide) P_11_15 k_RX11_109 dX11_advance_52 ?_
  refine V_topS (fun S46 eS46 => ?_)
  have h := h S46 eS46
  refine V_goto (tgt := 8) C dX11_advance_55 (by decide) ?_
  exact hK8 _ h
set_option maxHeartbeats 4000000 in
set_option maxRecDepth 100000 in
theorem q_X11_advance_8 {X : vX} {G : vG}  {post : vSt → Prop} (C : v_Cx X G cX11_advance RX11 2 (v_rm 1 61)) (D : v_Rx X G (v_Qv G post) none)     : ∀ (fu : Nat) (S : vSt) , p_X11_advance_8  post fu S  → VJ X G S 8 [(0, .ref (G.1 143))] [] := by
  intro fu
  induction fu with
  | zero => intro S  h; exact absurd h id
  | succ fu ih =>
    intro S  h
    have hK8 := ih
    rw [e_X11_advance_8] at h
    refine V_aload_n C 0 dX11_advance_8 rfl rfl ?_
    refine V_gi C 143 (by decide) (by decide) F_11_15 k_RX11_109 dX11_advance_9 ?_
    refine V_aload_n C 0 dX11_advance_12 rfl rfl ?_
    refine V_gi C 143 (by decide) (by decide) F_11_9 k_RX11_103 dX11_advance_13 ?_
    refine V_icmp_ge (tgt := 58) C dX11_advance_16 (by decide) (fun c => ?_) (fun c => ?_)
    · have h := h.1 c
      exact q_X11_advance_58 C D  _ h
    · have h := h.2 c
      refine V_aload_n C 0 dX11_advance_19 rfl rfl ?_
      refine V_aload_n C 0 dX11_advance_20 rfl rfl ?_
      refine V_gi C 143 (by decide) (by decide) F_11_15 k_RX11_109 dX11_advance_21 ?_
      refine V_callVi (As := [.int (S.1 143 15)]) (rest := []) C (c_X11_look2 (v_l X) G  _ _ h) 143 11 (by decide) (by decide) (by decide) rfl KV_X11_look2 k_RX11_112 rfl rfl rfl (Nat.le_of_ble_eq_true rfl) ⟨Nat.le_of_ble_eq_true rfl, Nat.le_of_ble_eq_true rfl⟩ dX11_advance_24 (fun r45 S44 h => ?_)
      refine V_bipush (v := 10) C dX11_advance_27 (by decide) ?_
      refine V_icmp_eq (tgt := 45) C dX11_advance_29 (by decide) (fun c => ?_) (fun c => ?_)
      · have h := h.1 c
        exact q_X11_advance_45 C D hK8 _ h
      · have h := h.2 c
        refine V_aload_n C 0 dX11_advance_32 rfl rfl ?_
        refine V_aload_n C 0 dX11_advance_33 rfl rfl ?_
        refine V_gi C 143 (by decide) (by decide) F_11_15 k_RX11_109 dX11_advance_34 ?_
        refine V_callVi (As := [.int (S44.1 143 15)]) (rest := []) C (c_X11_look2 (v_l X) G  _ _ h) 143 11 (by decide) (by decide) (by decide) rfl KV_X11_look2 k_RX11_112 rfl rfl rfl (Nat.le_of_ble_eq_true rfl) ⟨Nat.le_of_ble_eq_true rfl, Nat.le_of_ble_eq_true rfl⟩ dX11_advance_37 (fun r47 S46 h => ?_)
        refine V_bipush (v := 32) C dX11_advance_40 (by decide) ?_
        refine V_icmp_ne (tgt := 58) C dX11_advance_42 (by decide) (fun c => ?_) (fun c => ?_)
        · have h := h.1 c
          exact q_X11_advance_58 C D  _ h
        · have h := h.2 c
          exact q_X11_advance_45 C D hK8 _ h
set_option maxHeartbeats 4000000 in
set_option maxRecDepth 100000 in
theorem c_X11_advance (l : Launch) (G : vG)    {S : vSt}  (post : vSt → Prop) (h : p_X11_advance   S  post) : Met l yX11_advance (v_ws yX11_advance cX11_advance 2 none) (v_rm 1 61) (v_Pc G [.ref (G.1 143)] S) (v_Qv G post) 0 0 (v_A G) := by
  refine v_start (by decide +kernel) (Nat.le_of_ble_eq_true rfl) (fun X hl C D => ?_)
  subst hl
  have C : v_Cx X G cX11_advance RX11 2 (v_rm 1 61) := C
  show VJ X G S 0 [(0, .ref (G.1 143))] []
  refine V_aload_n C 0 dX11_advance_0 rfl rfl ?_
  refine V_aload_n C 0 dX11_advance_1 rfl rfl ?_
  refine V_gi C 143 (by decide) (by decide) F_11_16 k_RX11_106 dX11_advance_2 ?_
  refine V_pi C 143 (by decide) (by decide) P_11_15 k_RX11_109 dX11_advance_5 ?_
  refine V_topS (fun S43 eS43 => ?_)
  have h := h S43 eS43
  obtain ⟨fu8, h⟩ := h
  exact q_X11_advance_8 C D  fu8 _ h
/-! HalfAccuserModel.isSign(I)Z -/
theorem dX11_isSign_0 : decode cX11_isSign 0 = .ok ((.aload_n 0), 1) := by decide +kernel
theorem dX11_isSign_1 : decode cX11_isSign 1 = .ok ((.getfield 115), 3) := by decide +kernel
theorem dX11_isSign_4 : decode cX11_isSign 4 = .ok ((.iconst 3), 1) := by decide +kernel
theorem dX11_isSign_5 : decode cX11_isSign 5 = .ok ((.if_icmp .ne 15), 3) := by decide +kernel
theorem dX11_isSign_8 : decode cX11_isSign 8 = .ok ((.aload_n 0), 1) := by decide +kernel
theorem dX11_isSign_9 : decode cX11_isSign 9 = .ok ((.getfield 134), 3) := by decide +kernel
theorem dX11_isSign_12 : decode cX11_isSign 12 = .ok ((.iload_n 1), 1) := by decide +kernel
theorem dX11_isSign_13 : decode cX11_isSign 13 = .ok ((.if_icmp .ne 7), 3) := by decide +kernel
theorem dX11_isSign_16 : decode cX11_isSign 16 = .ok ((.iconst 1), 1) := by decide +kernel
theorem dX11_isSign_17 : decode cX11_isSign 17 = .ok ((.goto 4), 3) := by decide +kernel
theorem dX11_isSign_20 : decode cX11_isSign 20 = .ok ((.iconst 0), 1) := by decide +kernel
theorem dX11_isSign_21 : decode cX11_isSign 21 = .ok (.ireturn, 1) := by decide +kernel
def p_X11_isSign   (S : vSt) (a1 : Int32) (post : Bool → vSt → Prop) : Prop := ((¬ (S.1 143 14) = 3 → post false S) ∧ ((S.1 143 14) = 3 → ((¬ (S.1 143 17) = a1 → post false S) ∧ ((S.1 143 17) = a1 → post true S))))
set_option maxHeartbeats 4000000 in
set_option maxRecDepth 100000 in
theorem c_X11_isSign (l : Launch) (G : vG)    {S : vSt} (a1 : Int32) (post : Bool → vSt → Prop) (h : p_X11_isSign   S a1 post) : Met l yX11_isSign (v_ws yX11_isSign cX11_isSign 2 (some .boolean)) (v_rm 0 40) (v_Pc G [.ref (G.1 143), .int a1] S) (v_Qz G post) 0 0 (v_A G) := by
  refine v_start (by decide +kernel) (Nat.le_of_ble_eq_true rfl) (fun X hl C D => ?_)
  subst hl
  have C : v_Cx X G cX11_isSign RX11 2 (v_rm 0 40) := C
  show VJ X G S 0 [(0, .ref (G.1 143)), (1, .int a1)] []
  refine V_aload_n C 0 dX11_isSign_0 rfl rfl ?_
  refine V_gi C 143 (by decide) (by decide) F_11_14 k_RX11_115 dX11_isSign_1 ?_
  refine V_iconst (v := 3) C dX11_isSign_4 (by decide) ?_
  refine V_icmp_ne (tgt := 20) C dX11_isSign_5 (by decide) (fun c => ?_) (fun c => ?_)
  · have h := h.1 c
    refine V_iconst (v := 0) C dX11_isSign_20 (by decide) ?_
    exact V_zret0 C D dX11_isSign_21 h
  · have h := h.2 c
    refine V_aload_n C 0 dX11_isSign_8 rfl rfl ?_
    refine V_gi C 143 (by decide) (by decide) F_11_17 k_RX11_134 dX11_isSign_9 ?_
    refine V_iload_n C 1 dX11_isSign_12 rfl rfl ?_
    refine V_icmp_ne (tgt := 20) C dX11_isSign_13 (by decide) (fun c => ?_) (fun c => ?_)
    · have h := h.1 c
      refine V_iconst (v := 0) C dX11_isSign_20 (by decide) ?_
      exact V_zret0 C D dX11_isSign_21 h
    · have h := h.2 c
      refine V_iconst (v := 1) C dX11_isSign_16 (by decide) ?_
      refine V_goto (tgt := 21) C dX11_isSign_17 (by decide) ?_
      exact V_zret1 C D dX11_isSign_21 h
/-! HalfAccuserModel.spelled(IIIIII)J -/
theorem dX11_spelled_0 : decode cX11_spelled 0 = .ok ((.iload_n 0), 1) := by decide +kernel
theorem dX11_spelled_1 : decode cX11_spelled 1 = .ok (.i2l, 1) := by decide +kernel
theorem dX11_spelled_2 : decode cX11_spelled 2 = .ok ((.ldc2_w 126), 3) := by decide +kernel
theorem dX11_spelled_5 : decode cX11_spelled 5 = .ok (.lsub, 1) := by decide +kernel
theorem dX11_spelled_6 : decode cX11_spelled 6 = .ok ((.ldc2_w 124), 3) := by decide +kernel
theorem dX11_spelled_9 : decode cX11_spelled 9 = .ok (.lmul, 1) := by decide +kernel
theorem dX11_spelled_10 : decode cX11_spelled 10 = .ok ((.iload_n 1), 1) := by decide +kernel
theorem dX11_spelled_11 : decode cX11_spelled 11 = .ok (.i2l, 1) := by decide +kernel
theorem dX11_spelled_12 : decode cX11_spelled 12 = .ok (.ladd, 1) := by decide +kernel
theorem dX11_spelled_13 : decode cX11_spelled 13 = .ok ((.ldc2_w 126), 3) := by decide +kernel
theorem dX11_spelled_16 : decode cX11_spelled 16 = .ok (.lsub, 1) := by decide +kernel
theorem dX11_spelled_17 : decode cX11_spelled 17 = .ok ((.lstore 6), 2) := by decide +kernel
theorem dX11_spelled_19 : decode cX11_spelled 19 = .ok ((.iload_n 2), 1) := by decide +kernel
theorem dX11_spelled_20 : decode cX11_spelled 20 = .ok ((.ifCond .le 19), 3) := by decide +kernel
theorem dX11_spelled_23 : decode cX11_spelled 23 = .ok ((.lload 6), 2) := by decide +kernel
theorem dX11_spelled_25 : decode cX11_spelled 25 = .ok ((.ldc2_w 124), 3) := by decide +kernel
theorem dX11_spelled_28 : decode cX11_spelled 28 = .ok (.lmul, 1) := by decide +kernel
theorem dX11_spelled_29 : decode cX11_spelled 29 = .ok ((.iload_n 2), 1) := by decide +kernel
theorem dX11_spelled_30 : decode cX11_spelled 30 = .ok (.i2l, 1) := by decide +kernel
theorem dX11_spelled_31 : decode cX11_spelled 31 = .ok (.ladd, 1) := by decide +kernel
theorem dX11_spelled_32 : decode cX11_spelled 32 = .ok ((.ldc2_w 126), 3) := by decide +kernel
theorem dX11_spelled_35 : decode cX11_spelled 35 = .ok (.lsub, 1) := by decide +kernel
theorem dX11_spelled_36 : decode cX11_spelled 36 = .ok ((.goto 5), 3) := by decide +kernel
theorem dX11_spelled_39 : decode cX11_spelled 39 = .ok ((.lload 6), 2) := by decide +kernel
theorem dX11_spelled_41 : decode cX11_spelled 41 = .ok ((.lstore 6), 2) := by decide +kernel
theorem dX11_spelled_43 : decode cX11_spelled 43 = .ok ((.iload_n 3), 1) := by decide +kernel
theorem dX11_spelled_44 : decode cX11_spelled 44 = .ok ((.ifCond .le 19), 3) := by decide +kernel
theorem dX11_spelled_47 : decode cX11_spelled 47 = .ok ((.lload 6), 2) := by decide +kernel
theorem dX11_spelled_49 : decode cX11_spelled 49 = .ok ((.ldc2_w 124), 3) := by decide +kernel
theorem dX11_spelled_52 : decode cX11_spelled 52 = .ok (.lmul, 1) := by decide +kernel
theorem dX11_spelled_53 : decode cX11_spelled 53 = .ok ((.iload_n 3), 1) := by decide +kernel
theorem dX11_spelled_54 : decode cX11_spelled 54 = .ok (.i2l, 1) := by decide +kernel
theorem dX11_spelled_55 : decode cX11_spelled 55 = .ok (.ladd, 1) := by decide +kernel
theorem dX11_spelled_56 : decode cX11_spelled 56 = .ok ((.ldc2_w 126), 3) := by decide +kernel
theorem dX11_spelled_59 : decode cX11_spelled 59 = .ok (.lsub, 1) := by decide +kernel
theorem dX11_spelled_60 : decode cX11_spelled 60 = .ok ((.goto 5), 3) := by decide +kernel
theorem dX11_spelled_63 : decode cX11_spelled 63 = .ok ((.lload 6), 2) := by decide +kernel
theorem dX11_spelled_65 : decode cX11_spelled 65 = .ok ((.lstore 6), 2) := by decide +kernel
theorem dX11_spelled_67 : decode cX11_spelled 67 = .ok ((.iload 4), 2) := by decide +kernel
theorem dX11_spelled_69 : decode cX11_spelled 69 = .ok ((.ifCond .le 20), 3) := by decide +kernel
theorem dX11_spelled_72 : decode cX11_spelled 72 = .ok ((.lload 6), 2) := by decide +kernel
theorem dX11_spelled_74 : decode cX11_spelled 74 = .ok ((.ldc2_w 124), 3) := by decide +kernel
theorem dX11_spelled_77 : decode cX11_spelled 77 = .ok (.lmul, 1) := by decide +kernel
theorem dX11_spelled_78 : decode cX11_spelled 78 = .ok ((.iload 4), 2) := by decide +kernel
theorem dX11_spelled_80 : decode cX11_spelled 80 = .ok (.i2l, 1) := by decide +kernel
theorem dX11_spelled_81 : decode cX11_spelled 81 = .ok (.ladd, 1) := by decide +kernel
theorem dX11_spelled_82 : decode cX11_spelled 82 = .ok ((.ldc2_w 126), 3) := by decide +kernel
theorem dX11_spelled_85 : decode cX11_spelled 85 = .ok (.lsub, 1) := by decide +kernel
theorem dX11_spelled_86 : decode cX11_spelled 86 = .ok ((.goto 5), 3) := by decide +kernel
theorem dX11_spelled_89 : decode cX11_spelled 89 = .ok ((.lload 6), 2) := by decide +kernel
theorem dX11_spelled_91 : decode cX11_spelled 91 = .ok ((.lstore 6), 2) := by decide +kernel
theorem dX11_spelled_93 : decode cX11_spelled 93 = .ok ((.iload 5), 2) := by decide +kernel
theorem dX11_spelled_95 : decode cX11_spelled 95 = .ok ((.ifCond .le 20), 3) := by decide +kernel
theorem dX11_spelled_98 : decode cX11_spelled 98 = .ok ((.lload 6), 2) := by decide +kernel
theorem dX11_spelled_100 : decode cX11_spelled 100 = .ok ((.ldc2_w 124), 3) := by decide +kernel
theorem dX11_spelled_103 : decode cX11_spelled 103 = .ok (.lmul, 1) := by decide +kernel
theorem dX11_spelled_104 : decode cX11_spelled 104 = .ok ((.iload 5), 2) := by decide +kernel
theorem dX11_spelled_106 : decode cX11_spelled 106 = .ok (.i2l, 1) := by decide +kernel
theorem dX11_spelled_107 : decode cX11_spelled 107 = .ok (.ladd, 1) := by decide +kernel
theorem dX11_spelled_108 : decode cX11_spelled 108 = .ok ((.ldc2_w 126), 3) := by decide +kernel
theorem dX11_spelled_111 : decode cX11_spelled 111 = .ok (.lsub, 1) := by decide +kernel
theorem dX11_spelled_112 : decode cX11_spelled 112 = .ok ((.goto 5), 3) := by decide +kernel
theorem dX11_spelled_115 : decode cX11_spelled 115 = .ok ((.lload 6), 2) := by decide +kernel
theorem dX11_spelled_117 : decode cX11_spelled 117 = .ok (.lreturn, 1) := by decide +kernel
def p_X11_spelled_91  (a0 : Int32) (a1 : Int32) (a2 : Int32) (a3 : Int32) (a4 : Int32) (a5 : Int32)   (post : Int64 → vSt → Prop) (S : vSt) (s0 : Int64) : Prop := ((a5 ≤ 0 → post s0 S) ∧ (¬ a5 ≤ 0 → post (((s0 * 32) + (Int32.toInt64 a5)) - 96) S))
def p_X11_spelled_65  (a0 : Int32) (a1 : Int32) (a2 : Int32) (a3 : Int32) (a4 : Int32) (a5 : Int32)   (post : Int64 → vSt → Prop) (S : vSt) (s0 : Int64) : Prop := ((a4 ≤ 0 → p_X11_spelled_91 a0 a1 a2 a3 a4 a5 post S s0) ∧ (¬ a4 ≤ 0 → p_X11_spelled_91 a0 a1 a2 a3 a4 a5 post S (((s0 * 32) + (Int32.toInt64 a4)) - 96)))
def p_X11_spelled_41  (a0 : Int32) (a1 : Int32) (a2 : Int32) (a3 : Int32) (a4 : Int32) (a5 : Int32)   (post : Int64 → vSt → Prop) (S : vSt) (s0 : Int64) : Prop := ((a3 ≤ 0 → p_X11_spelled_65 a0 a1 a2 a3 a4 a5 post S s0) ∧ (¬ a3 ≤ 0 → p_X11_spelled_65 a0 a1 a2 a3 a4 a5 post S (((s0 * 32) + (Int32.toInt64 a3)) - 96)))
def p_X11_spelled   (S : vSt) (a0 : Int32) (a1 : Int32) (a2 : Int32) (a3 : Int32) (a4 : Int32) (a5 : Int32) (post : Int64 → vSt → Prop) : Prop := ∀ y2 : Int64, y2 = (((((Int32.toInt64 a0) - 96) * 32) + (Int32.toInt64 a1)) - 96) → ((a2 ≤ 0 → p_X11_spelled_41 a0 a1 a2 a3 a4 a5 post S y2) ∧ (¬ a2 ≤ 0 → p_X11_spelled_41 a0 a1 a2 a3 a4 a5 post S (((y2 * 32) + (Int32.toInt64 a2)) - 96)))
set_option maxHeartbeats 4000000 in
set_option maxRecDepth 100000 in
theorem q_X11_spelled_91 {X : vX} {G : vG}  {post : Int64 → vSt → Prop} (C : v_Cx X G cX11_spelled RX11 8 (v_rm 0 40)) (D : v_Rx X G (v_Ql G post) (some .long))  {a0 : Int32} {a1 : Int32} {a2 : Int32} {a3 : Int32} {a4 : Int32} {a5 : Int32}   : ∀ (S : vSt) (s0 : Int64), p_X11_spelled_91 a0 a1 a2 a3 a4 a5 post S s0 → VJ X G S 91 [(5, .int a5)] [.long s0] := by
  intro S s0 h
  refine V_lstore (lv' := [(5, .int a5), (6, .long s0)]) C [1, 0] dX11_spelled_91 (by decide) rfl ?_
  refine V_iload C 0 dX11_spelled_93 rfl ?_
  refine V_if_le (tgt := 115) C dX11_spelled_95 (by decide) (fun c => ?_) (fun c => ?_)
  · have h := h.1 c
    refine V_lload C 1 dX11_spelled_115 rfl ?_
    exact V_lret C D dX11_spelled_117 h
  · have h := h.2 c
    refine V_lload C 1 dX11_spelled_98 rfl ?_
    refine V_ldc2 (v := 32) C k_RX11_124 dX11_spelled_100 ?_
    refine V_lmul C dX11_spelled_103 ?_
    refine V_iload C 0 dX11_spelled_104 rfl ?_
    refine V_i2l C dX11_spelled_106 ?_
    refine V_ladd C dX11_spelled_107 ?_
    refine V_ldc2 (v := 96) C k_RX11_126 dX11_spelled_108 ?_
    refine V_lsub C dX11_spelled_111 ?_
    refine V_goto (tgt := 117) C dX11_spelled_112 (by decide) ?_
    exact V_lret C D dX11_spelled_117 h
set_option maxHeartbeats 4000000 in
set_option maxRecDepth 100000 in
theorem q_X11_spelled_65 {X : vX} {G : vG}  {post : Int64 → vSt → Prop} (C : v_Cx X G cX11_spelled RX11 8 (v_rm 0 40)) (D : v_Rx X G (v_Ql G post) (some .long))  {a0 : Int32} {a1 : Int32} {a2 : Int32} {a3 : Int32} {a4 : Int32} {a5 : Int32}   : ∀ (S : vSt) (s0 : Int64), p_X11_spelled_65 a0 a1 a2 a3 a4 a5 post S s0 → VJ X G S 65 [(4, .int a4), (5, .int a5)] [.long s0] := by
  intro S s0 h
  refine V_lstore (lv' := [(4, .int a4), (5, .int a5), (6, .long s0)]) C [1, 2, 0] dX11_spelled_65 (by decide) rfl ?_
  refine V_iload C 0 dX11_spelled_67 rfl ?_
  refine V_if_le (tgt := 89) C dX11_spelled_69 (by decide) (fun c => ?_) (fun c => ?_)
  · have h := h.1 c
    refine V_lload C 2 dX11_spelled_89 rfl ?_
    refine V_loc (lv' := [(5, .int a5)]) [1] rfl ?_
    exact q_X11_spelled_91 C D  _ _ h
  · have h := h.2 c
    refine V_lload C 2 dX11_spelled_72 rfl ?_
    refine V_ldc2 (v := 32) C k_RX11_124 dX11_spelled_74 ?_
    refine V_lmul C dX11_spelled_77 ?_
    refine V_iload C 0 dX11_spelled_78 rfl ?_
    refine V_i2l C dX11_spelled_80 ?_
    refine V_ladd C dX11_spelled_81 ?_
    refine V_ldc2 (v := 96) C k_RX11_126 dX11_spelled_82 ?_
    refine V_lsub C dX11_spelled_85 ?_
    refine V_goto (tgt := 91) C dX11_spelled_86 (by decide) ?_
    refine V_loc (lv' := [(5, .int a5)]) [1] rfl ?_
    exact q_X11_spelled_91 C D  _ _ h
set_option maxHeartbeats 4000000 in
set_option maxRecDepth 100000 in
theorem q_X11_spelled_41 {X : vX} {G : vG}  {post : Int64 → vSt → Prop} (C : v_Cx X G cX11_spelled RX11 8 (v_rm 0 40)) (D : v_Rx X G (v_Ql G post) (some .long))  {a0 : Int32} {a1 : Int32} {a2 : Int32} {a3 : Int32} {a4 : Int32} {a5 : Int32}   : ∀ (S : vSt) (s0 : Int64), p_X11_spelled_41 a0 a1 a2 a3 a4 a5 post S s0 → VJ X G S 41 [(3, .int a3), (4, .int a4), (5, .int a5)] [.long s0] := by
  intro S s0 h
  refine V_lstore (lv' := [(3, .int a3), (4, .int a4), (5, .int a5), (6, .long s0)]) C [1, 2, 3, 0] dX11_spelled_41 (by decide) rfl ?_
  refine V_iload_n C 0 dX11_spelled_43 rfl rfl ?_
  refine V_if_le (tgt := 63) C dX11_spelled_44 (by decide) (fun c => ?_) (fun c => ?_)
  · have h := h.1 c
    refine V_lload C 3 dX11_spelled_63 rfl ?_
    refine V_loc (lv' := [(4, .int a4), (5, .int a5)]) [1, 2] rfl ?_
    exact q_X11_spelled_65 C D  _ _ h
  · have h := h.2 c
    refine V_lload C 3 dX11_spelled_47 rfl ?_
    refine V_ldc2 (v := 32) C k_RX11_124 dX11_spelled_49 ?_
    refine V_lmul C dX11_spelled_52 ?_
    refine V_iload_n C 0 dX11_spelled_53 rfl rfl ?_
    refine V_i2l C dX11_spelled_54 ?_
    refine V_ladd C dX11_spelled_55 ?_
    refine V_ldc2 (v := 96) C k_RX11_126 dX11_spelled_56 ?_
    refine V_lsub C dX11_spelled_59 ?_
    refine V_goto (tgt := 65) C dX11_spelled_60 (by decide) ?_
    refine V_loc (lv' := [(4, .int a4), (5, .int a5)]) [1, 2] rfl ?_
    exact q_X11_spelled_65 C D  _ _ h
set_option maxHeartbeats 4000000 in
set_option maxRecDepth 100000 in
theorem c_X11_spelled (l : Launch) (G : vG)    {S : vSt} (a0 : Int32) (a1 : Int32) (a2 : Int32) (a3 : Int32) (a4 : Int32) (a5 : Int32) (post : Int64 → vSt → Prop) (h : p_X11_spelled   S a0 a1 a2 a3 a4 a5 post) : Met l yX11_spelled (v_ws yX11_spelled cX11_spelled 8 (some .long)) (v_rm 0 40) (v_Pc G [.int a0, .int a1, .int a2, .int a3, .int a4, .int a5] S) (v_Ql G post) 0 0 (v_A G) := by
  refine v_start (by decide +kernel) (Nat.le_of_ble_eq_true rfl) (fun X hl C D => ?_)
  subst hl
  have C : v_Cx X G cX11_spelled RX11 8 (v_rm 0 40) := C
  show VJ X G S 0 [(0, .int a0), (1, .int a1), (2, .int a2), (3, .int a3), (4, .int a4), (5, .int a5)] []
  refine V_iload_n C 0 dX11_spelled_0 rfl rfl ?_
  refine V_i2l C dX11_spelled_1 ?_
  refine V_ldc2 (v := 96) C k_RX11_126 dX11_spelled_2 ?_
  refine V_lsub C dX11_spelled_5 ?_
  refine V_ldc2 (v := 32) C k_RX11_124 dX11_spelled_6 ?_
  refine V_lmul C dX11_spelled_9 ?_
  refine V_iload_n C 1 dX11_spelled_10 rfl rfl ?_
  refine V_i2l C dX11_spelled_11 ?_
  refine V_ladd C dX11_spelled_12 ?_
  refine V_ldc2 (v := 96) C k_RX11_126 dX11_spelled_13 ?_
  refine V_lsub C dX11_spelled_16 ?_
  refine V_topl (fun y2 ey2 => ?_)
  have h := h y2 ey2
  refine V_lstore (lv' := [(0, .int a0), (1, .int a1), (2, .int a2), (3, .int a3), (4, .int a4), (5, .int a5), (6, .long y2)]) C [1, 2, 3, 4, 5, 6, 0] dX11_spelled_17 (by decide) rfl ?_
  refine V_iload_n C 2 dX11_spelled_19 rfl rfl ?_
  refine V_if_le (tgt := 39) C dX11_spelled_20 (by decide) (fun c => ?_) (fun c => ?_)
  · have h := h.1 c
    refine V_lload C 6 dX11_spelled_39 rfl ?_
    refine V_loc (lv' := [(3, .int a3), (4, .int a4), (5, .int a5)]) [3, 4, 5] rfl ?_
    exact q_X11_spelled_41 C D  _ _ h
  · have h := h.2 c
    refine V_lload C 6 dX11_spelled_23 rfl ?_
    refine V_ldc2 (v := 32) C k_RX11_124 dX11_spelled_25 ?_
    refine V_lmul C dX11_spelled_28 ?_
    refine V_iload_n C 2 dX11_spelled_29 rfl rfl ?_
    refine V_i2l C dX11_spelled_30 ?_
    refine V_ladd C dX11_spelled_31 ?_
    refine V_ldc2 (v := 96) C k_RX11_126 dX11_spelled_32 ?_
    refine V_lsub C dX11_spelled_35 ?_
    refine V_goto (tgt := 41) C dX11_spelled_36 (by decide) ?_
    refine V_loc (lv' := [(3, .int a3), (4, .int a4), (5, .int a5)]) [3, 4, 5] rfl ?_
    exact q_X11_spelled_41 C D  _ _ h
/-! HalfAccuserModel.isWord(J)Z -/
theorem dX11_isWord_0 : decode cX11_isWord 0 = .ok ((.aload_n 0), 1) := by decide +kernel
theorem dX11_isWord_1 : decode cX11_isWord 1 = .ok ((.getfield 115), 3) := by decide +kernel
theorem dX11_isWord_4 : decode cX11_isWord 4 = .ok ((.iconst 1), 1) := by decide +kernel
theorem dX11_isWord_5 : decode cX11_isWord 5 = .ok ((.if_icmp .ne 16), 3) := by decide +kernel
theorem dX11_isWord_8 : decode cX11_isWord 8 = .ok ((.aload_n 0), 1) := by decide +kernel
theorem dX11_isWord_9 : decode cX11_isWord 9 = .ok ((.getfield 121), 3) := by decide +kernel
theorem dX11_isWord_12 : decode cX11_isWord 12 = .ok ((.lload_n 1), 1) := by decide +kernel
theorem dX11_isWord_13 : decode cX11_isWord 13 = .ok (.lcmp, 1) := by decide +kernel
theorem dX11_isWord_14 : decode cX11_isWord 14 = .ok ((.ifCond .ne 7), 3) := by decide +kernel
theorem dX11_isWord_17 : decode cX11_isWord 17 = .ok ((.iconst 1), 1) := by decide +kernel
theorem dX11_isWord_18 : decode cX11_isWord 18 = .ok ((.goto 4), 3) := by decide +kernel
theorem dX11_isWord_21 : decode cX11_isWord 21 = .ok ((.iconst 0), 1) := by decide +kernel
theorem dX11_isWord_22 : decode cX11_isWord 22 = .ok (.ireturn, 1) := by decide +kernel
def p_X11_isWord   (S : vSt) (a1 : Int64) (post : Bool → vSt → Prop) : Prop := ((¬ (S.1 143 14) = 1 → post false S) ∧ ((S.1 143 14) = 1 → ((¬ (S.2 143 19) = a1 → post false S) ∧ ((S.2 143 19) = a1 → post true S))))
set_option maxHeartbeats 4000000 in
set_option maxRecDepth 100000 in
theorem c_X11_isWord (l : Launch) (G : vG)    {S : vSt} (a1 : Int64) (post : Bool → vSt → Prop) (h : p_X11_isWord   S a1 post) : Met l yX11_isWord (v_ws yX11_isWord cX11_isWord 3 (some .boolean)) (v_rm 0 40) (v_Pc G [.ref (G.1 143), .long a1] S) (v_Qz G post) 0 0 (v_A G) := by
  refine v_start (by decide +kernel) (Nat.le_of_ble_eq_true rfl) (fun X hl C D => ?_)
  subst hl
  have C : v_Cx X G cX11_isWord RX11 3 (v_rm 0 40) := C
  show VJ X G S 0 [(0, .ref (G.1 143)), (1, .long a1)] []
  refine V_aload_n C 0 dX11_isWord_0 rfl rfl ?_
  refine V_gi C 143 (by decide) (by decide) F_11_14 k_RX11_115 dX11_isWord_1 ?_
  refine V_iconst (v := 1) C dX11_isWord_4 (by decide) ?_
  refine V_icmp_ne (tgt := 21) C dX11_isWord_5 (by decide) (fun c => ?_) (fun c => ?_)
  · have h := h.1 c
    refine V_iconst (v := 0) C dX11_isWord_21 (by decide) ?_
    exact V_zret0 C D dX11_isWord_22 h
  · have h := h.2 c
    refine V_aload_n C 0 dX11_isWord_8 rfl rfl ?_
    refine V_gl C 143 (by decide) (by decide) F_11_19 k_RX11_121 dX11_isWord_9 ?_
    refine V_lload_n C 1 dX11_isWord_12 rfl rfl ?_
    refine V_lcmp_ne (tgt := 21) C dX11_isWord_13 dX11_isWord_14 (by decide) (fun c => ?_) (fun c => ?_)
    · have h := h.1 c
      refine V_iconst (v := 0) C dX11_isWord_21 (by decide) ?_
      exact V_zret0 C D dX11_isWord_22 h
    · have h := h.2 c
      refine V_iconst (v := 1) C dX11_isWord_17 (by decide) ?_
      refine V_goto (tgt := 22) C dX11_isWord_18 (by decide) ?_
      exact V_zret1 C D dX11_isWord_22 h
/-! HalfAccuserModel.isJurors()Z -/
theorem dX11_isJurors_0 : decode cX11_isJurors 0 = .ok ((.aload_n 0), 1) := by decide +kernel
theorem dX11_isJurors_1 : decode cX11_isJurors 1 = .ok ((.bipush 106), 2) := by decide +kernel
theorem dX11_isJurors_3 : decode cX11_isJurors 3 = .ok ((.bipush 117), 2) := by decide +kernel
theorem dX11_isJurors_5 : decode cX11_isJurors 5 = .ok ((.bipush 114), 2) := by decide +kernel
theorem dX11_isJurors_7 : decode cX11_isJurors 7 = .ok ((.bipush 111), 2) := by decide +kernel
theorem dX11_isJurors_9 : decode cX11_isJurors 9 = .ok ((.bipush 114), 2) := by decide +kernel
theorem dX11_isJurors_11 : decode cX11_isJurors 11 = .ok ((.bipush 115), 2) := by decide +kernel
theorem dX11_isJurors_13 : decode cX11_isJurors 13 = .ok ((.invokestatic 140), 3) := by decide +kernel
theorem dX11_isJurors_16 : decode cX11_isJurors 16 = .ok ((.invokevirtual 144), 3) := by decide +kernel
theorem dX11_isJurors_19 : decode cX11_isJurors 19 = .ok (.ireturn, 1) := by decide +kernel
def p_X11_isJurors   (S : vSt)  (post : Bool → vSt → Prop) : Prop := p_X11_spelled  S 106 117 114 111 114 115 (fun r6 S5 => p_X11_isWord  S5 r6 (fun r8 S7 => post r8 S7))
set_option maxHeartbeats 4000000 in
set_option maxRecDepth 100000 in
theorem c_X11_isJurors (l : Launch) (G : vG)    {S : vSt}  (post : Bool → vSt → Prop) (h : p_X11_isJurors   S  post) : Met l yX11_isJurors (v_ws yX11_isJurors cX11_isJurors 1 (some .boolean)) (v_rm 1 67) (v_Pc G [.ref (G.1 143)] S) (v_Qz G post) 0 0 (v_A G) := by
  refine v_start (by decide +kernel) (Nat.le_of_ble_eq_true rfl) (fun X hl C D => ?_)
  subst hl
  have C : v_Cx X G cX11_isJurors RX11 1 (v_rm 1 67) := C
  show VJ X G S 0 [(0, .ref (G.1 143))] []
  refine V_aload_n C 0 dX11_isJurors_0 rfl rfl ?_
  refine V_bipush (v := 106) C dX11_isJurors_1 (by decide) ?_
  refine V_bipush (v := 117) C dX11_isJurors_3 (by decide) ?_
  refine V_bipush (v := 114) C dX11_isJurors_5 (by decide) ?_
  refine V_bipush (v := 111) C dX11_isJurors_7 (by decide) ?_
  refine V_bipush (v := 114) C dX11_isJurors_9 (by decide) ?_
  refine V_bipush (v := 115) C dX11_isJurors_11 (by decide) ?_
  refine V_callSl (As := [.int 106, .int 117, .int 114, .int 111, .int 114, .int 115]) (rest := [.ref (G.1 143)]) C (c_X11_spelled (v_l X) G  _ _ _ _ _ _ _ h) KV_X11_spelled k_RX11_140 rfl rfl rfl (Nat.le_of_ble_eq_true rfl) ⟨Nat.le_of_ble_eq_true rfl, Nat.le_of_ble_eq_true rfl⟩ dX11_isJurors_13 (fun r6 S5 h => ?_)
  refine V_callVz (As := [.long r6]) (rest := []) C (c_X11_isWord (v_l X) G  _ _ h) 143 11 (by decide) (by decide) (by decide) rfl KV_X11_isWord k_RX11_144 rfl rfl rfl (Nat.le_of_ble_eq_true rfl) ⟨Nat.le_of_ble_eq_true rfl, Nat.le_of_ble_eq_true rfl⟩ dX11_isJurors_16 (fun r8 S7 h => ?_)
  exact V_zret C D dX11_isJurors_19 h
/-! HalfAccuserModel.isFifth()Z -/
theorem dX11_isFifth_0 : decode cX11_isFifth 0 = .ok ((.aload_n 0), 1) := by decide +kernel
theorem dX11_isFifth_1 : decode cX11_isFifth 1 = .ok ((.bipush 102), 2) := by decide +kernel
theorem dX11_isFifth_3 : decode cX11_isFifth 3 = .ok ((.bipush 105), 2) := by decide +kernel
theorem dX11_isFifth_5 : decode cX11_isFifth 5 = .ok ((.bipush 102), 2) := by decide +kernel
theorem dX11_isFifth_7 : decode cX11_isFifth 7 = .ok ((.bipush 116), 2) := by decide +kernel
theorem dX11_isFifth_9 : decode cX11_isFifth 9 = .ok ((.bipush 104), 2) := by decide +kernel
theorem dX11_isFifth_11 : decode cX11_isFifth 11 = .ok ((.iconst 0), 1) := by decide +kernel
theorem dX11_isFifth_12 : decode cX11_isFifth 12 = .ok ((.invokestatic 140), 3) := by decide +kernel
theorem dX11_isFifth_15 : decode cX11_isFifth 15 = .ok ((.invokevirtual 144), 3) := by decide +kernel
theorem dX11_isFifth_18 : decode cX11_isFifth 18 = .ok (.ireturn, 1) := by decide +kernel
def p_X11_isFifth   (S : vSt)  (post : Bool → vSt → Prop) : Prop := p_X11_spelled  S 102 105 102 116 104 0 (fun r6 S5 => p_X11_isWord  S5 r6 (fun r8 S7 => post r8 S7))
set_option maxHeartbeats 4000000 in
set_option maxRecDepth 100000 in
theorem c_X11_isFifth (l : Launch) (G : vG)    {S : vSt}  (post : Bool → vSt → Prop) (h : p_X11_isFifth   S  post) : Met l yX11_isFifth (v_ws yX11_isFifth cX11_isFifth 1 (some .boolean)) (v_rm 1 67) (v_Pc G [.ref (G.1 143)] S) (v_Qz G post) 0 0 (v_A G) := by
  refine v_start (by decide +kernel) (Nat.le_of_ble_eq_true rfl) (fun X hl C D => ?_)
  subst hl
  have C : v_Cx X G cX11_isFifth RX11 1 (v_rm 1 67) := C
  show VJ X G S 0 [(0, .ref (G.1 143))] []
  refine V_aload_n C 0 dX11_isFifth_0 rfl rfl ?_
  refine V_bipush (v := 102) C dX11_isFifth_1 (by decide) ?_
  refine V_bipush (v := 105) C dX11_isFifth_3 (by decide) ?_
  refine V_bipush (v := 102) C dX11_isFifth_5 (by decide) ?_
  refine V_bipush (v := 116) C dX11_isFifth_7 (by decide) ?_
  refine V_bipush (v := 104) C dX11_isFifth_9 (by decide) ?_
  refine V_iconst (v := 0) C dX11_isFifth_11 (by decide) ?_
  refine V_callSl (As := [.int 102, .int 105, .int 102, .int 116, .int 104, .int 0]) (rest := [.ref (G.1 143)]) C (c_X11_spelled (v_l X) G  _ _ _ _ _ _ _ h) KV_X11_spelled k_RX11_140 rfl rfl rfl (Nat.le_of_ble_eq_true rfl) ⟨Nat.le_of_ble_eq_true rfl, Nat.le_of_ble_eq_true rfl⟩ dX11_isFifth_12 (fun r6 S5 h => ?_)
  refine V_callVz (As := [.long r6]) (rest := []) C (c_X11_isWord (v_l X) G  _ _ h) 143 11 (by decide) (by decide) (by decide) rfl KV_X11_isWord k_RX11_144 rfl rfl rfl (Nat.le_of_ble_eq_true rfl) ⟨Nat.le_of_ble_eq_true rfl, Nat.le_of_ble_eq_true rfl⟩ dX11_isFifth_15 (fun r8 S7 h => ?_)
  exact V_zret C D dX11_isFifth_18 h
/-! HalfAccuserModel.isPenalty()Z -/
theorem dX11_isPenalty_0 : decode cX11_isPenalty 0 = .ok ((.aload_n 0), 1) := by decide +kernel
theorem dX11_isPenalty_1 : decode cX11_isPenalty 1 = .ok ((.bipush 112), 2) := by decide +kernel
theorem dX11_isPenalty_3 : decode cX11_isPenalty 3 = .ok ((.bipush 101), 2) := by decide +kernel
theorem dX11_isPenalty_5 : decode cX11_isPenalty 5 = .ok ((.bipush 110), 2) := by decide +kernel
theorem dX11_isPenalty_7 : decode cX11_isPenalty 7 = .ok ((.bipush 97), 2) := by decide +kernel
theorem dX11_isPenalty_9 : decode cX11_isPenalty 9 = .ok ((.bipush 108), 2) := by decide +kernel
theorem dX11_isPenalty_11 : decode cX11_isPenalty 11 = .ok ((.bipush 116), 2) := by decide +kernel
theorem dX11_isPenalty_13 : decode cX11_isPenalty 13 = .ok ((.invokestatic 140), 3) := by decide +kernel
theorem dX11_isPenalty_16 : decode cX11_isPenalty 16 = .ok ((.ldc2_w 124), 3) := by decide +kernel
theorem dX11_isPenalty_19 : decode cX11_isPenalty 19 = .ok (.lmul, 1) := by decide +kernel
theorem dX11_isPenalty_20 : decode cX11_isPenalty 20 = .ok ((.ldc2_w 148), 3) := by decide +kernel
theorem dX11_isPenalty_23 : decode cX11_isPenalty 23 = .ok (.ladd, 1) := by decide +kernel
theorem dX11_isPenalty_24 : decode cX11_isPenalty 24 = .ok ((.invokevirtual 144), 3) := by decide +kernel
theorem dX11_isPenalty_27 : decode cX11_isPenalty 27 = .ok (.ireturn, 1) := by decide +kernel
def p_X11_isPenalty   (S : vSt)  (post : Bool → vSt → Prop) : Prop := p_X11_spelled  S 112 101 110 97 108 116 (fun r6 S5 => p_X11_isWord  S5 ((r6 * 32) + 25) (fun r8 S7 => post r8 S7))
set_option maxHeartbeats 4000000 in
set_option maxRecDepth 100000 in
theorem c_X11_isPenalty (l : Launch) (G : vG)    {S : vSt}  (post : Bool → vSt → Prop) (h : p_X11_isPenalty   S  post) : Met l yX11_isPenalty (v_ws yX11_isPenalty cX11_isPenalty 1 (some .boolean)) (v_rm 1 67) (v_Pc G [.ref (G.1 143)] S) (v_Qz G post) 0 0 (v_A G) := by
  refine v_start (by decide +kernel) (Nat.le_of_ble_eq_true rfl) (fun X hl C D => ?_)
  subst hl
  have C : v_Cx X G cX11_isPenalty RX11 1 (v_rm 1 67) := C
  show VJ X G S 0 [(0, .ref (G.1 143))] []
  refine V_aload_n C 0 dX11_isPenalty_0 rfl rfl ?_
  refine V_bipush (v := 112) C dX11_isPenalty_1 (by decide) ?_
  refine V_bipush (v := 101) C dX11_isPenalty_3 (by decide) ?_
  refine V_bipush (v := 110) C dX11_isPenalty_5 (by decide) ?_
  refine V_bipush (v := 97) C dX11_isPenalty_7 (by decide) ?_
  refine V_bipush (v := 108) C dX11_isPenalty_9 (by decide) ?_
  refine V_bipush (v := 116) C dX11_isPenalty_11 (by decide) ?_
  refine V_callSl (As := [.int 112, .int 101, .int 110, .int 97, .int 108, .int 116]) (rest := [.ref (G.1 143)]) C (c_X11_spelled (v_l X) G  _ _ _ _ _ _ _ h) KV_X11_spelled k_RX11_140 rfl rfl rfl (Nat.le_of_ble_eq_true rfl) ⟨Nat.le_of_ble_eq_true rfl, Nat.le_of_ble_eq_true rfl⟩ dX11_isPenalty_13 (fun r6 S5 h => ?_)
  refine V_ldc2 (v := 32) C k_RX11_124 dX11_isPenalty_16 ?_
  refine V_lmul C dX11_isPenalty_19 ?_
  refine V_ldc2 (v := 25) C k_RX11_148 dX11_isPenalty_20 ?_
  refine V_ladd C dX11_isPenalty_23 ?_
  refine V_callVz (As := [.long ((r6 * 32) + 25)]) (rest := []) C (c_X11_isWord (v_l X) G  _ _ h) 143 11 (by decide) (by decide) (by decide) rfl KV_X11_isWord k_RX11_144 rfl rfl rfl (Nat.le_of_ble_eq_true rfl) ⟨Nat.le_of_ble_eq_true rfl, Nat.le_of_ble_eq_true rfl⟩ dX11_isPenalty_24 (fun r8 S7 h => ?_)
  exact V_zret C D dX11_isPenalty_27 h
/-! HalfAccuserModel.isShare()Z -/
theorem dX11_isShare_0 : decode cX11_isShare 0 = .ok ((.aload_n 0), 1) := by decide +kernel
theorem dX11_isShare_1 : decode cX11_isShare 1 = .ok ((.bipush 115), 2) := by decide +kernel
theorem dX11_isShare_3 : decode cX11_isShare 3 = .ok ((.bipush 104), 2) := by decide +kernel
theorem dX11_isShare_5 : decode cX11_isShare 5 = .ok ((.bipush 97), 2) := by decide +kernel
theorem dX11_isShare_7 : decode cX11_isShare 7 = .ok ((.bipush 114), 2) := by decide +kernel
theorem dX11_isShare_9 : decode cX11_isShare 9 = .ok ((.bipush 101), 2) := by decide +kernel
theorem dX11_isShare_11 : decode cX11_isShare 11 = .ok ((.iconst 0), 1) := by decide +kernel
theorem dX11_isShare_12 : decode cX11_isShare 12 = .ok ((.invokestatic 140), 3) := by decide +kernel
theorem dX11_isShare_15 : decode cX11_isShare 15 = .ok ((.invokevirtual 144), 3) := by decide +kernel
theorem dX11_isShare_18 : decode cX11_isShare 18 = .ok (.ireturn, 1) := by decide +kernel
def p_X11_isShare   (S : vSt)  (post : Bool → vSt → Prop) : Prop := p_X11_spelled  S 115 104 97 114 101 0 (fun r6 S5 => p_X11_isWord  S5 r6 (fun r8 S7 => post r8 S7))
set_option maxHeartbeats 4000000 in
set_option maxRecDepth 100000 in
theorem c_X11_isShare (l : Launch) (G : vG)    {S : vSt}  (post : Bool → vSt → Prop) (h : p_X11_isShare   S  post) : Met l yX11_isShare (v_ws yX11_isShare cX11_isShare 1 (some .boolean)) (v_rm 1 67) (v_Pc G [.ref (G.1 143)] S) (v_Qz G post) 0 0 (v_A G) := by
  refine v_start (by decide +kernel) (Nat.le_of_ble_eq_true rfl) (fun X hl C D => ?_)
  subst hl
  have C : v_Cx X G cX11_isShare RX11 1 (v_rm 1 67) := C
  show VJ X G S 0 [(0, .ref (G.1 143))] []
  refine V_aload_n C 0 dX11_isShare_0 rfl rfl ?_
  refine V_bipush (v := 115) C dX11_isShare_1 (by decide) ?_
  refine V_bipush (v := 104) C dX11_isShare_3 (by decide) ?_
  refine V_bipush (v := 97) C dX11_isShare_5 (by decide) ?_
  refine V_bipush (v := 114) C dX11_isShare_7 (by decide) ?_
  refine V_bipush (v := 101) C dX11_isShare_9 (by decide) ?_
  refine V_iconst (v := 0) C dX11_isShare_11 (by decide) ?_
  refine V_callSl (As := [.int 115, .int 104, .int 97, .int 114, .int 101, .int 0]) (rest := [.ref (G.1 143)]) C (c_X11_spelled (v_l X) G  _ _ _ _ _ _ _ h) KV_X11_spelled k_RX11_140 rfl rfl rfl (Nat.le_of_ble_eq_true rfl) ⟨Nat.le_of_ble_eq_true rfl, Nat.le_of_ble_eq_true rfl⟩ dX11_isShare_12 (fun r6 S5 h => ?_)
  refine V_callVz (As := [.long r6]) (rest := []) C (c_X11_isWord (v_l X) G  _ _ h) 143 11 (by decide) (by decide) (by decide) rfl KV_X11_isWord k_RX11_144 rfl rfl rfl (Nat.le_of_ble_eq_true rfl) ⟨Nat.le_of_ble_eq_true rfl, Nat.le_of_ble_eq_true rfl⟩ dX11_isShare_15 (fun r8 S7 h => ?_)
  exact V_zret C D dX11_isShare_18 h
/-! HalfAccuserModel.isPerson()Z -/
theorem dX11_isPerson_0 : decode cX11_isPerson 0 = .ok ((.aload_n 0), 1) := by decide +kernel
theorem dX11_isPerson_1 : decode cX11_isPerson 1 = .ok ((.bipush 112), 2) := by decide +kernel
theorem dX11_isPerson_3 : decode cX11_isPerson 3 = .ok ((.bipush 101), 2) := by decide +kernel
theorem dX11_isPerson_5 : decode cX11_isPerson 5 = .ok ((.bipush 114), 2) := by decide +kernel
theorem dX11_isPerson_7 : decode cX11_isPerson 7 = .ok ((.bipush 115), 2) := by decide +kernel
theorem dX11_isPerson_9 : decode cX11_isPerson 9 = .ok ((.bipush 111), 2) := by decide +kernel
theorem dX11_isPerson_11 : decode cX11_isPerson 11 = .ok ((.bipush 110), 2) := by decide +kernel
theorem dX11_isPerson_13 : decode cX11_isPerson 13 = .ok ((.invokestatic 140), 3) := by decide +kernel
theorem dX11_isPerson_16 : decode cX11_isPerson 16 = .ok ((.invokevirtual 144), 3) := by decide +kernel
theorem dX11_isPerson_19 : decode cX11_isPerson 19 = .ok (.ireturn, 1) := by decide +kernel
def p_X11_isPerson   (S : vSt)  (post : Bool → vSt → Prop) : Prop := p_X11_spelled  S 112 101 114 115 111 110 (fun r6 S5 => p_X11_isWord  S5 r6 (fun r8 S7 => post r8 S7))
set_option maxHeartbeats 4000000 in
set_option maxRecDepth 100000 in
theorem c_X11_isPerson (l : Launch) (G : vG)    {S : vSt}  (post : Bool → vSt → Prop) (h : p_X11_isPerson   S  post) : Met l yX11_isPerson (v_ws yX11_isPerson cX11_isPerson 1 (some .boolean)) (v_rm 1 67) (v_Pc G [.ref (G.1 143)] S) (v_Qz G post) 0 0 (v_A G) := by
  refine v_start (by decide +kernel) (Nat.le_of_ble_eq_true rfl) (fun X hl C D => ?_)
  subst hl
  have C : v_Cx X G cX11_isPerson RX11 1 (v_rm 1 67) := C
  show VJ X G S 0 [(0, .ref (G.1 143))] []
  refine V_aload_n C 0 dX11_isPerson_0 rfl rfl ?_
  refine V_bipush (v := 112) C dX11_isPerson_1 (by decide) ?_
  refine V_bipush (v := 101) C dX11_isPerson_3 (by decide) ?_
  refine V_bipush (v := 114) C dX11_isPerson_5 (by decide) ?_
  refine V_bipush (v := 115) C dX11_isPerson_7 (by decide) ?_
  refine V_bipush (v := 111) C dX11_isPerson_9 (by decide) ?_
  refine V_bipush (v := 110) C dX11_isPerson_11 (by decide) ?_
  refine V_callSl (As := [.int 112, .int 101, .int 114, .int 115, .int 111, .int 110]) (rest := [.ref (G.1 143)]) C (c_X11_spelled (v_l X) G  _ _ _ _ _ _ _ h) KV_X11_spelled k_RX11_140 rfl rfl rfl (Nat.le_of_ble_eq_true rfl) ⟨Nat.le_of_ble_eq_true rfl, Nat.le_of_ble_eq_true rfl⟩ dX11_isPerson_13 (fun r6 S5 h => ?_)
  refine V_callVz (As := [.long r6]) (rest := []) C (c_X11_isWord (v_l X) G  _ _ h) 143 11 (by decide) (by decide) (by decide) rfl KV_X11_isWord k_RX11_144 rfl rfl rfl (Nat.le_of_ble_eq_true rfl) ⟨Nat.le_of_ble_eq_true rfl, Nat.le_of_ble_eq_true rfl⟩ dX11_isPerson_16 (fun r8 S7 h => ?_)
  exact V_zret C D dX11_isPerson_19 h
/-! HalfAccuserModel.isSkill()Z -/
theorem dX11_isSkill_0 : decode cX11_isSkill 0 = .ok ((.aload_n 0), 1) := by decide +kernel
theorem dX11_isSkill_1 : decode cX11_isSkill 1 = .ok ((.bipush 115), 2) := by decide +kernel
theorem dX11_isSkill_3 : decode cX11_isSkill 3 = .ok ((.bipush 107), 2) := by decide +kernel
theorem dX11_isSkill_5 : decode cX11_isSkill 5 = .ok ((.bipush 105), 2) := by decide +kernel
theorem dX11_isSkill_7 : decode cX11_isSkill 7 = .ok ((.bipush 108), 2) := by decide +kernel
theorem dX11_isSkill_9 : decode cX11_isSkill 9 = .ok ((.bipush 108), 2) := by decide +kernel
theorem dX11_isSkill_11 : decode cX11_isSkill 11 = .ok ((.iconst 0), 1) := by decide +kernel
theorem dX11_isSkill_12 : decode cX11_isSkill 12 = .ok ((.invokestatic 140), 3) := by decide +kernel
theorem dX11_isSkill_15 : decode cX11_isSkill 15 = .ok ((.invokevirtual 144), 3) := by decide +kernel
theorem dX11_isSkill_18 : decode cX11_isSkill 18 = .ok (.ireturn, 1) := by decide +kernel
def p_X11_isSkill   (S : vSt)  (post : Bool → vSt → Prop) : Prop := p_X11_spelled  S 115 107 105 108 108 0 (fun r6 S5 => p_X11_isWord  S5 r6 (fun r8 S7 => post r8 S7))
set_option maxHeartbeats 4000000 in
set_option maxRecDepth 100000 in
theorem c_X11_isSkill (l : Launch) (G : vG)    {S : vSt}  (post : Bool → vSt → Prop) (h : p_X11_isSkill   S  post) : Met l yX11_isSkill (v_ws yX11_isSkill cX11_isSkill 1 (some .boolean)) (v_rm 1 67) (v_Pc G [.ref (G.1 143)] S) (v_Qz G post) 0 0 (v_A G) := by
  refine v_start (by decide +kernel) (Nat.le_of_ble_eq_true rfl) (fun X hl C D => ?_)
  subst hl
  have C : v_Cx X G cX11_isSkill RX11 1 (v_rm 1 67) := C
  show VJ X G S 0 [(0, .ref (G.1 143))] []
  refine V_aload_n C 0 dX11_isSkill_0 rfl rfl ?_
  refine V_bipush (v := 115) C dX11_isSkill_1 (by decide) ?_
  refine V_bipush (v := 107) C dX11_isSkill_3 (by decide) ?_
  refine V_bipush (v := 105) C dX11_isSkill_5 (by decide) ?_
  refine V_bipush (v := 108) C dX11_isSkill_7 (by decide) ?_
  refine V_bipush (v := 108) C dX11_isSkill_9 (by decide) ?_
  refine V_iconst (v := 0) C dX11_isSkill_11 (by decide) ?_
  refine V_callSl (As := [.int 115, .int 107, .int 105, .int 108, .int 108, .int 0]) (rest := [.ref (G.1 143)]) C (c_X11_spelled (v_l X) G  _ _ _ _ _ _ _ h) KV_X11_spelled k_RX11_140 rfl rfl rfl (Nat.le_of_ble_eq_true rfl) ⟨Nat.le_of_ble_eq_true rfl, Nat.le_of_ble_eq_true rfl⟩ dX11_isSkill_12 (fun r6 S5 h => ?_)
  refine V_callVz (As := [.long r6]) (rest := []) C (c_X11_isWord (v_l X) G  _ _ h) 143 11 (by decide) (by decide) (by decide) rfl KV_X11_isWord k_RX11_144 rfl rfl rfl (Nat.le_of_ble_eq_true rfl) ⟨Nat.le_of_ble_eq_true rfl, Nat.le_of_ble_eq_true rfl⟩ dX11_isSkill_15 (fun r8 S7 h => ?_)
  exact V_zret C D dX11_isSkill_18 h
/-! HalfAccuserModel.isDeed()Z -/
theorem dX11_isDeed_0 : decode cX11_isDeed 0 = .ok ((.aload_n 0), 1) := by decide +kernel
theorem dX11_isDeed_1 : decode cX11_isDeed 1 = .ok ((.bipush 100), 2) := by decide +kernel
theorem dX11_isDeed_3 : decode cX11_isDeed 3 = .ok ((.bipush 101), 2) := by decide +kernel
theorem dX11_isDeed_5 : decode cX11_isDeed 5 = .ok ((.bipush 101), 2) := by decide +kernel
theorem dX11_isDeed_7 : decode cX11_isDeed 7 = .ok ((.bipush 100), 2) := by decide +kernel
theorem dX11_isDeed_9 : decode cX11_isDeed 9 = .ok ((.iconst 0), 1) := by decide +kernel
theorem dX11_isDeed_10 : decode cX11_isDeed 10 = .ok ((.iconst 0), 1) := by decide +kernel
theorem dX11_isDeed_11 : decode cX11_isDeed 11 = .ok ((.invokestatic 140), 3) := by decide +kernel
theorem dX11_isDeed_14 : decode cX11_isDeed 14 = .ok ((.invokevirtual 144), 3) := by decide +kernel
theorem dX11_isDeed_17 : decode cX11_isDeed 17 = .ok (.ireturn, 1) := by decide +kernel
def p_X11_isDeed   (S : vSt)  (post : Bool → vSt → Prop) : Prop := p_X11_spelled  S 100 101 101 100 0 0 (fun r6 S5 => p_X11_isWord  S5 r6 (fun r8 S7 => post r8 S7))
set_option maxHeartbeats 4000000 in
set_option maxRecDepth 100000 in
theorem c_X11_isDeed (l : Launch) (G : vG)    {S : vSt}  (post : Bool → vSt → Prop) (h : p_X11_isDeed   S  post) : Met l yX11_isDeed (v_ws yX11_isDeed cX11_isDeed 1 (some .boolean)) (v_rm 1 67) (v_Pc G [.ref (G.1 143)] S) (v_Qz G post) 0 0 (v_A G) := by
  refine v_start (by decide +kernel) (Nat.le_of_ble_eq_true rfl) (fun X hl C D => ?_)
  subst hl
  have C : v_Cx X G cX11_isDeed RX11 1 (v_rm 1 67) := C
  show VJ X G S 0 [(0, .ref (G.1 143))] []
  refine V_aload_n C 0 dX11_isDeed_0 rfl rfl ?_
  refine V_bipush (v := 100) C dX11_isDeed_1 (by decide) ?_
  refine V_bipush (v := 101) C dX11_isDeed_3 (by decide) ?_
  refine V_bipush (v := 101) C dX11_isDeed_5 (by decide) ?_
  refine V_bipush (v := 100) C dX11_isDeed_7 (by decide) ?_
  refine V_iconst (v := 0) C dX11_isDeed_9 (by decide) ?_
  refine V_iconst (v := 0) C dX11_isDeed_10 (by decide) ?_
  refine V_callSl (As := [.int 100, .int 101, .int 101, .int 100, .int 0, .int 0]) (rest := [.ref (G.1 143)]) C (c_X11_spelled (v_l X) G  _ _ _ _ _ _ _ h) KV_X11_spelled k_RX11_140 rfl rfl rfl (Nat.le_of_ble_eq_true rfl) ⟨Nat.le_of_ble_eq_true rfl, Nat.le_of_ble_eq_true rfl⟩ dX11_isDeed_11 (fun r6 S5 h => ?_)
  refine V_callVz (As := [.long r6]) (rest := []) C (c_X11_isWord (v_l X) G  _ _ h) 143 11 (by decide) (by decide) (by decide) rfl KV_X11_isWord k_RX11_144 rfl rfl rfl (Nat.le_of_ble_eq_true rfl) ⟨Nat.le_of_ble_eq_true rfl, Nat.le_of_ble_eq_true rfl⟩ dX11_isDeed_14 (fun r8 S7 h => ?_)
  exact V_zret C D dX11_isDeed_17 h
/-! HalfAccuserModel.isOf()Z -/
theorem dX11_isOf_0 : decode cX11_isOf 0 = .ok ((.aload_n 0), 1) := by decide +kernel
theorem dX11_isOf_1 : decode cX11_isOf 1 = .ok ((.bipush 111), 2) := by decide +kernel
theorem dX11_isOf_3 : decode cX11_isOf 3 = .ok ((.bipush 102), 2) := by decide +kernel
theorem dX11_isOf_5 : decode cX11_isOf 5 = .ok ((.iconst 0), 1) := by decide +kernel
theorem dX11_isOf_6 : decode cX11_isOf 6 = .ok ((.iconst 0), 1) := by decide +kernel
theorem dX11_isOf_7 : decode cX11_isOf 7 = .ok ((.iconst 0), 1) := by decide +kernel
theorem dX11_isOf_8 : decode cX11_isOf 8 = .ok ((.iconst 0), 1) := by decide +kernel
theorem dX11_isOf_9 : decode cX11_isOf 9 = .ok ((.invokestatic 140), 3) := by decide +kernel
theorem dX11_isOf_12 : decode cX11_isOf 12 = .ok ((.invokevirtual 144), 3) := by decide +kernel
theorem dX11_isOf_15 : decode cX11_isOf 15 = .ok (.ireturn, 1) := by decide +kernel
def p_X11_isOf   (S : vSt)  (post : Bool → vSt → Prop) : Prop := p_X11_spelled  S 111 102 0 0 0 0 (fun r6 S5 => p_X11_isWord  S5 r6 (fun r8 S7 => post r8 S7))
set_option maxHeartbeats 4000000 in
set_option maxRecDepth 100000 in
theorem c_X11_isOf (l : Launch) (G : vG)    {S : vSt}  (post : Bool → vSt → Prop) (h : p_X11_isOf   S  post) : Met l yX11_isOf (v_ws yX11_isOf cX11_isOf 1 (some .boolean)) (v_rm 1 67) (v_Pc G [.ref (G.1 143)] S) (v_Qz G post) 0 0 (v_A G) := by
  refine v_start (by decide +kernel) (Nat.le_of_ble_eq_true rfl) (fun X hl C D => ?_)
  subst hl
  have C : v_Cx X G cX11_isOf RX11 1 (v_rm 1 67) := C
  show VJ X G S 0 [(0, .ref (G.1 143))] []
  refine V_aload_n C 0 dX11_isOf_0 rfl rfl ?_
  refine V_bipush (v := 111) C dX11_isOf_1 (by decide) ?_
  refine V_bipush (v := 102) C dX11_isOf_3 (by decide) ?_
  refine V_iconst (v := 0) C dX11_isOf_5 (by decide) ?_
  refine V_iconst (v := 0) C dX11_isOf_6 (by decide) ?_
  refine V_iconst (v := 0) C dX11_isOf_7 (by decide) ?_
  refine V_iconst (v := 0) C dX11_isOf_8 (by decide) ?_
  refine V_callSl (As := [.int 111, .int 102, .int 0, .int 0, .int 0, .int 0]) (rest := [.ref (G.1 143)]) C (c_X11_spelled (v_l X) G  _ _ _ _ _ _ _ h) KV_X11_spelled k_RX11_140 rfl rfl rfl (Nat.le_of_ble_eq_true rfl) ⟨Nat.le_of_ble_eq_true rfl, Nat.le_of_ble_eq_true rfl⟩ dX11_isOf_9 (fun r6 S5 h => ?_)
  refine V_callVz (As := [.long r6]) (rest := []) C (c_X11_isWord (v_l X) G  _ _ h) 143 11 (by decide) (by decide) (by decide) rfl KV_X11_isWord k_RX11_144 rfl rfl rfl (Nat.le_of_ble_eq_true rfl) ⟨Nat.le_of_ble_eq_true rfl, Nat.le_of_ble_eq_true rfl⟩ dX11_isOf_12 (fun r8 S7 h => ?_)
  exact V_zret C D dX11_isOf_15 h
/-! HalfAccuserModel.isFine()Z -/
theorem dX11_isFine_0 : decode cX11_isFine 0 = .ok ((.aload_n 0), 1) := by decide +kernel
theorem dX11_isFine_1 : decode cX11_isFine 1 = .ok ((.bipush 102), 2) := by decide +kernel
theorem dX11_isFine_3 : decode cX11_isFine 3 = .ok ((.bipush 105), 2) := by decide +kernel
theorem dX11_isFine_5 : decode cX11_isFine 5 = .ok ((.bipush 110), 2) := by decide +kernel
theorem dX11_isFine_7 : decode cX11_isFine 7 = .ok ((.bipush 101), 2) := by decide +kernel
theorem dX11_isFine_9 : decode cX11_isFine 9 = .ok ((.iconst 0), 1) := by decide +kernel
theorem dX11_isFine_10 : decode cX11_isFine 10 = .ok ((.iconst 0), 1) := by decide +kernel
theorem dX11_isFine_11 : decode cX11_isFine 11 = .ok ((.invokestatic 140), 3) := by decide +kernel
theorem dX11_isFine_14 : decode cX11_isFine 14 = .ok ((.invokevirtual 144), 3) := by decide +kernel
theorem dX11_isFine_17 : decode cX11_isFine 17 = .ok (.ireturn, 1) := by decide +kernel
def p_X11_isFine   (S : vSt)  (post : Bool → vSt → Prop) : Prop := p_X11_spelled  S 102 105 110 101 0 0 (fun r6 S5 => p_X11_isWord  S5 r6 (fun r8 S7 => post r8 S7))
set_option maxHeartbeats 4000000 in
set_option maxRecDepth 100000 in
theorem c_X11_isFine (l : Launch) (G : vG)    {S : vSt}  (post : Bool → vSt → Prop) (h : p_X11_isFine   S  post) : Met l yX11_isFine (v_ws yX11_isFine cX11_isFine 1 (some .boolean)) (v_rm 1 67) (v_Pc G [.ref (G.1 143)] S) (v_Qz G post) 0 0 (v_A G) := by
  refine v_start (by decide +kernel) (Nat.le_of_ble_eq_true rfl) (fun X hl C D => ?_)
  subst hl
  have C : v_Cx X G cX11_isFine RX11 1 (v_rm 1 67) := C
  show VJ X G S 0 [(0, .ref (G.1 143))] []
  refine V_aload_n C 0 dX11_isFine_0 rfl rfl ?_
  refine V_bipush (v := 102) C dX11_isFine_1 (by decide) ?_
  refine V_bipush (v := 105) C dX11_isFine_3 (by decide) ?_
  refine V_bipush (v := 110) C dX11_isFine_5 (by decide) ?_
  refine V_bipush (v := 101) C dX11_isFine_7 (by decide) ?_
  refine V_iconst (v := 0) C dX11_isFine_9 (by decide) ?_
  refine V_iconst (v := 0) C dX11_isFine_10 (by decide) ?_
  refine V_callSl (As := [.int 102, .int 105, .int 110, .int 101, .int 0, .int 0]) (rest := [.ref (G.1 143)]) C (c_X11_spelled (v_l X) G  _ _ _ _ _ _ _ h) KV_X11_spelled k_RX11_140 rfl rfl rfl (Nat.le_of_ble_eq_true rfl) ⟨Nat.le_of_ble_eq_true rfl, Nat.le_of_ble_eq_true rfl⟩ dX11_isFine_11 (fun r6 S5 h => ?_)
  refine V_callVz (As := [.long r6]) (rest := []) C (c_X11_isWord (v_l X) G  _ _ h) 143 11 (by decide) (by decide) (by decide) rfl KV_X11_isWord k_RX11_144 rfl rfl rfl (Nat.le_of_ble_eq_true rfl) ⟨Nat.le_of_ble_eq_true rfl, Nat.le_of_ble_eq_true rfl⟩ dX11_isFine_14 (fun r8 S7 h => ?_)
  exact V_zret C D dX11_isFine_17 h
/-! HalfAccuserModel.isOdds()Z -/
theorem dX11_isOdds_0 : decode cX11_isOdds 0 = .ok ((.aload_n 0), 1) := by decide +kernel
theorem dX11_isOdds_1 : decode cX11_isOdds 1 = .ok ((.bipush 111), 2) := by decide +kernel
theorem dX11_isOdds_3 : decode cX11_isOdds 3 = .ok ((.bipush 100), 2) := by decide +kernel
theorem dX11_isOdds_5 : decode cX11_isOdds 5 = .ok ((.bipush 100), 2) := by decide +kernel
theorem dX11_isOdds_7 : decode cX11_isOdds 7 = .ok ((.bipush 115), 2) := by decide +kernel
theorem dX11_isOdds_9 : decode cX11_isOdds 9 = .ok ((.iconst 0), 1) := by decide +kernel
theorem dX11_isOdds_10 : decode cX11_isOdds 10 = .ok ((.iconst 0), 1) := by decide +kernel
theorem dX11_isOdds_11 : decode cX11_isOdds 11 = .ok ((.invokestatic 140), 3) := by decide +kernel
theorem dX11_isOdds_14 : decode cX11_isOdds 14 = .ok ((.invokevirtual 144), 3) := by decide +kernel
theorem dX11_isOdds_17 : decode cX11_isOdds 17 = .ok (.ireturn, 1) := by decide +kernel
def p_X11_isOdds   (S : vSt)  (post : Bool → vSt → Prop) : Prop := p_X11_spelled  S 111 100 100 115 0 0 (fun r6 S5 => p_X11_isWord  S5 r6 (fun r8 S7 => post r8 S7))
set_option maxHeartbeats 4000000 in
set_option maxRecDepth 100000 in
theorem c_X11_isOdds (l : Launch) (G : vG)    {S : vSt}  (post : Bool → vSt → Prop) (h : p_X11_isOdds   S  post) : Met l yX11_isOdds (v_ws yX11_isOdds cX11_isOdds 1 (some .boolean)) (v_rm 1 67) (v_Pc G [.ref (G.1 143)] S) (v_Qz G post) 0 0 (v_A G) := by
  refine v_start (by decide +kernel) (Nat.le_of_ble_eq_true rfl) (fun X hl C D => ?_)
  subst hl
  have C : v_Cx X G cX11_isOdds RX11 1 (v_rm 1 67) := C
  show VJ X G S 0 [(0, .ref (G.1 143))] []
  refine V_aload_n C 0 dX11_isOdds_0 rfl rfl ?_
  refine V_bipush (v := 111) C dX11_isOdds_1 (by decide) ?_
  refine V_bipush (v := 100) C dX11_isOdds_3 (by decide) ?_
  refine V_bipush (v := 100) C dX11_isOdds_5 (by decide) ?_
  refine V_bipush (v := 115) C dX11_isOdds_7 (by decide) ?_
  refine V_iconst (v := 0) C dX11_isOdds_9 (by decide) ?_
  refine V_iconst (v := 0) C dX11_isOdds_10 (by decide) ?_
  refine V_callSl (As := [.int 111, .int 100, .int 100, .int 115, .int 0, .int 0]) (rest := [.ref (G.1 143)]) C (c_X11_spelled (v_l X) G  _ _ _ _ _ _ _ h) KV_X11_spelled k_RX11_140 rfl rfl rfl (Nat.le_of_ble_eq_true rfl) ⟨Nat.le_of_ble_eq_true rfl, Nat.le_of_ble_eq_true rfl⟩ dX11_isOdds_11 (fun r6 S5 h => ?_)
  refine V_callVz (As := [.long r6]) (rest := []) C (c_X11_isWord (v_l X) G  _ _ h) 143 11 (by decide) (by decide) (by decide) rfl KV_X11_isWord k_RX11_144 rfl rfl rfl (Nat.le_of_ble_eq_true rfl) ⟨Nat.le_of_ble_eq_true rfl, Nat.le_of_ble_eq_true rfl⟩ dX11_isOdds_14 (fun r8 S7 h => ?_)
  exact V_zret C D dX11_isOdds_17 h
/-! HalfAccuserModel.isFor()Z -/
theorem dX11_isFor_0 : decode cX11_isFor 0 = .ok ((.aload_n 0), 1) := by decide +kernel
theorem dX11_isFor_1 : decode cX11_isFor 1 = .ok ((.bipush 102), 2) := by decide +kernel
theorem dX11_isFor_3 : decode cX11_isFor 3 = .ok ((.bipush 111), 2) := by decide +kernel
theorem dX11_isFor_5 : decode cX11_isFor 5 = .ok ((.bipush 114), 2) := by decide +kernel
theorem dX11_isFor_7 : decode cX11_isFor 7 = .ok ((.iconst 0), 1) := by decide +kernel
theorem dX11_isFor_8 : decode cX11_isFor 8 = .ok ((.iconst 0), 1) := by decide +kernel
theorem dX11_isFor_9 : decode cX11_isFor 9 = .ok ((.iconst 0), 1) := by decide +kernel
theorem dX11_isFor_10 : decode cX11_isFor 10 = .ok ((.invokestatic 140), 3) := by decide +kernel
theorem dX11_isFor_13 : decode cX11_isFor 13 = .ok ((.invokevirtual 144), 3) := by decide +kernel
theorem dX11_isFor_16 : decode cX11_isFor 16 = .ok (.ireturn, 1) := by decide +kernel
def p_X11_isFor   (S : vSt)  (post : Bool → vSt → Prop) : Prop := p_X11_spelled  S 102 111 114 0 0 0 (fun r6 S5 => p_X11_isWord  S5 r6 (fun r8 S7 => post r8 S7))
set_option maxHeartbeats 4000000 in
set_option maxRecDepth 100000 in
theorem c_X11_isFor (l : Launch) (G : vG)    {S : vSt}  (post : Bool → vSt → Prop) (h : p_X11_isFor   S  post) : Met l yX11_isFor (v_ws yX11_isFor cX11_isFor 1 (some .boolean)) (v_rm 1 67) (v_Pc G [.ref (G.1 143)] S) (v_Qz G post) 0 0 (v_A G) := by
  refine v_start (by decide +kernel) (Nat.le_of_ble_eq_true rfl) (fun X hl C D => ?_)
  subst hl
  have C : v_Cx X G cX11_isFor RX11 1 (v_rm 1 67) := C
  show VJ X G S 0 [(0, .ref (G.1 143))] []
  refine V_aload_n C 0 dX11_isFor_0 rfl rfl ?_
  refine V_bipush (v := 102) C dX11_isFor_1 (by decide) ?_
  refine V_bipush (v := 111) C dX11_isFor_3 (by decide) ?_
  refine V_bipush (v := 114) C dX11_isFor_5 (by decide) ?_
  refine V_iconst (v := 0) C dX11_isFor_7 (by decide) ?_
  refine V_iconst (v := 0) C dX11_isFor_8 (by decide) ?_
  refine V_iconst (v := 0) C dX11_isFor_9 (by decide) ?_
  refine V_callSl (As := [.int 102, .int 111, .int 114, .int 0, .int 0, .int 0]) (rest := [.ref (G.1 143)]) C (c_X11_spelled (v_l X) G  _ _ _ _ _ _ _ h) KV_X11_spelled k_RX11_140 rfl rfl rfl (Nat.le_of_ble_eq_true rfl) ⟨Nat.le_of_ble_eq_true rfl, Nat.le_of_ble_eq_true rfl⟩ dX11_isFor_10 (fun r6 S5 h => ?_)
  refine V_callVz (As := [.long r6]) (rest := []) C (c_X11_isWord (v_l X) G  _ _ h) 143 11 (by decide) (by decide) (by decide) rfl KV_X11_isWord k_RX11_144 rfl rfl rfl (Nat.le_of_ble_eq_true rfl) ⟨Nat.le_of_ble_eq_true rfl, Nat.le_of_ble_eq_true rfl⟩ dX11_isFor_13 (fun r8 S7 h => ?_)
  exact V_zret C D dX11_isFor_16 h
/-! HalfAccuserModel.stepWord()I -/
theorem dX11_stepWord_0 : decode cX11_stepWord 0 = .ok ((.aload_n 0), 1) := by decide +kernel
theorem dX11_stepWord_1 : decode cX11_stepWord 1 = .ok ((.bipush 99), 2) := by decide +kernel
theorem dX11_stepWord_3 : decode cX11_stepWord 3 = .ok ((.bipush 104), 2) := by decide +kernel
theorem dX11_stepWord_5 : decode cX11_stepWord 5 = .ok ((.bipush 97), 2) := by decide +kernel
theorem dX11_stepWord_7 : decode cX11_stepWord 7 = .ok ((.bipush 114), 2) := by decide +kernel
theorem dX11_stepWord_9 : decode cX11_stepWord 9 = .ok ((.bipush 103), 2) := by decide +kernel
theorem dX11_stepWord_11 : decode cX11_stepWord 11 = .ok ((.bipush 101), 2) := by decide +kernel
theorem dX11_stepWord_13 : decode cX11_stepWord 13 = .ok ((.invokestatic 140), 3) := by decide +kernel
theorem dX11_stepWord_16 : decode cX11_stepWord 16 = .ok ((.invokevirtual 144), 3) := by decide +kernel
theorem dX11_stepWord_19 : decode cX11_stepWord 19 = .ok ((.ifCond .eq 5), 3) := by decide +kernel
theorem dX11_stepWord_22 : decode cX11_stepWord 22 = .ok ((.iconst 0), 1) := by decide +kernel
theorem dX11_stepWord_23 : decode cX11_stepWord 23 = .ok (.ireturn, 1) := by decide +kernel
theorem dX11_stepWord_24 : decode cX11_stepWord 24 = .ok ((.aload_n 0), 1) := by decide +kernel
theorem dX11_stepWord_25 : decode cX11_stepWord 25 = .ok ((.bipush 100), 2) := by decide +kernel
theorem dX11_stepWord_27 : decode cX11_stepWord 27 = .ok ((.bipush 114), 2) := by decide +kernel
theorem dX11_stepWord_29 : decode cX11_stepWord 29 = .ok ((.bipush 111), 2) := by decide +kernel
theorem dX11_stepWord_31 : decode cX11_stepWord 31 = .ok ((.bipush 112), 2) := by decide +kernel
theorem dX11_stepWord_33 : decode cX11_stepWord 33 = .ok ((.iconst 0), 1) := by decide +kernel
theorem dX11_stepWord_34 : decode cX11_stepWord 34 = .ok ((.iconst 0), 1) := by decide +kernel
theorem dX11_stepWord_35 : decode cX11_stepWord 35 = .ok ((.invokestatic 140), 3) := by decide +kernel
theorem dX11_stepWord_38 : decode cX11_stepWord 38 = .ok ((.invokevirtual 144), 3) := by decide +kernel
theorem dX11_stepWord_41 : decode cX11_stepWord 41 = .ok ((.ifCond .eq 5), 3) := by decide +kernel
theorem dX11_stepWord_44 : decode cX11_stepWord 44 = .ok ((.iconst 1), 1) := by decide +kernel
theorem dX11_stepWord_45 : decode cX11_stepWord 45 = .ok (.ireturn, 1) := by decide +kernel
theorem dX11_stepWord_46 : decode cX11_stepWord 46 = .ok ((.aload_n 0), 1) := by decide +kernel
theorem dX11_stepWord_47 : decode cX11_stepWord 47 = .ok ((.bipush 101), 2) := by decide +kernel
theorem dX11_stepWord_49 : decode cX11_stepWord 49 = .ok ((.bipush 97), 2) := by decide +kernel
theorem dX11_stepWord_51 : decode cX11_stepWord 51 = .ok ((.bipush 114), 2) := by decide +kernel
theorem dX11_stepWord_53 : decode cX11_stepWord 53 = .ok ((.bipush 110), 2) := by decide +kernel
theorem dX11_stepWord_55 : decode cX11_stepWord 55 = .ok ((.iconst 0), 1) := by decide +kernel
theorem dX11_stepWord_56 : decode cX11_stepWord 56 = .ok ((.iconst 0), 1) := by decide +kernel
theorem dX11_stepWord_57 : decode cX11_stepWord 57 = .ok ((.invokestatic 140), 3) := by decide +kernel
theorem dX11_stepWord_60 : decode cX11_stepWord 60 = .ok ((.invokevirtual 144), 3) := by decide +kernel
theorem dX11_stepWord_63 : decode cX11_stepWord 63 = .ok ((.ifCond .eq 5), 3) := by decide +kernel
theorem dX11_stepWord_66 : decode cX11_stepWord 66 = .ok ((.iconst 2), 1) := by decide +kernel
theorem dX11_stepWord_67 : decode cX11_stepWord 67 = .ok (.ireturn, 1) := by decide +kernel
theorem dX11_stepWord_68 : decode cX11_stepWord 68 = .ok ((.aload_n 0), 1) := by decide +kernel
theorem dX11_stepWord_69 : decode cX11_stepWord 69 = .ok ((.bipush 97), 2) := by decide +kernel
theorem dX11_stepWord_71 : decode cX11_stepWord 71 = .ok ((.bipush 110), 2) := by decide +kernel
theorem dX11_stepWord_73 : decode cX11_stepWord 73 = .ok ((.bipush 121), 2) := by decide +kernel
theorem dX11_stepWord_75 : decode cX11_stepWord 75 = .ok ((.iconst 0), 1) := by decide +kernel
theorem dX11_stepWord_76 : decode cX11_stepWord 76 = .ok ((.iconst 0), 1) := by decide +kernel
theorem dX11_stepWord_77 : decode cX11_stepWord 77 = .ok ((.iconst 0), 1) := by decide +kernel
theorem dX11_stepWord_78 : decode cX11_stepWord 78 = .ok ((.invokestatic 140), 3) := by decide +kernel
theorem dX11_stepWord_81 : decode cX11_stepWord 81 = .ok ((.invokevirtual 144), 3) := by decide +kernel
theorem dX11_stepWord_84 : decode cX11_stepWord 84 = .ok ((.ifCond .eq 5), 3) := by decide +kernel
theorem dX11_stepWord_87 : decode cX11_stepWord 87 = .ok ((.iconst 3), 1) := by decide +kernel
theorem dX11_stepWord_88 : decode cX11_stepWord 88 = .ok (.ireturn, 1) := by decide +kernel
theorem dX11_stepWord_89 : decode cX11_stepWord 89 = .ok ((.aload_n 0), 1) := by decide +kernel
theorem dX11_stepWord_90 : decode cX11_stepWord 90 = .ok ((.bipush 119), 2) := by decide +kernel
theorem dX11_stepWord_92 : decode cX11_stepWord 92 = .ok ((.bipush 104), 2) := by decide +kernel
theorem dX11_stepWord_94 : decode cX11_stepWord 94 = .ok ((.bipush 101), 2) := by decide +kernel
theorem dX11_stepWord_96 : decode cX11_stepWord 96 = .ok ((.bipush 110), 2) := by decide +kernel
theorem dX11_stepWord_98 : decode cX11_stepWord 98 = .ok ((.iconst 0), 1) := by decide +kernel
theorem dX11_stepWord_99 : decode cX11_stepWord 99 = .ok ((.iconst 0), 1) := by decide +kernel
theorem dX11_stepWord_100 : decode cX11_stepWord 100 = .ok ((.invokestatic 140), 3) := by decide +kernel
theorem dX11_stepWord_103 : decode cX11_stepWord 103 = .ok ((.invokevirtual 144), 3) := by decide +kernel
theorem dX11_stepWord_106 : decode cX11_stepWord 106 = .ok ((.ifCond .eq 5), 3) := by decide +kernel
theorem dX11_stepWord_109 : decode cX11_stepWord 109 = .ok ((.iconst 4), 1) := by decide +kernel
theorem dX11_stepWord_110 : decode cX11_stepWord 110 = .ok (.ireturn, 1) := by decide +kernel
theorem dX11_stepWord_111 : decode cX11_stepWord 111 = .ok ((.aload_n 0), 1) := by decide +kernel
theorem dX11_stepWord_112 : decode cX11_stepWord 112 = .ok ((.bipush 108), 2) := by decide +kernel
theorem dX11_stepWord_114 : decode cX11_stepWord 114 = .ok ((.bipush 111), 2) := by decide +kernel
theorem dX11_stepWord_116 : decode cX11_stepWord 116 = .ok ((.bipush 111), 2) := by decide +kernel
theorem dX11_stepWord_118 : decode cX11_stepWord 118 = .ok ((.bipush 112), 2) := by decide +kernel
theorem dX11_stepWord_120 : decode cX11_stepWord 120 = .ok ((.iconst 0), 1) := by decide +kernel
theorem dX11_stepWord_121 : decode cX11_stepWord 121 = .ok ((.iconst 0), 1) := by decide +kernel
theorem dX11_stepWord_122 : decode cX11_stepWord 122 = .ok ((.invokestatic 140), 3) := by decide +kernel
theorem dX11_stepWord_125 : decode cX11_stepWord 125 = .ok ((.invokevirtual 144), 3) := by decide +kernel
theorem dX11_stepWord_128 : decode cX11_stepWord 128 = .ok ((.ifCond .eq 5), 3) := by decide +kernel
theorem dX11_stepWord_131 : decode cX11_stepWord 131 = .ok ((.iconst 5), 1) := by decide +kernel
theorem dX11_stepWord_132 : decode cX11_stepWord 132 = .ok (.ireturn, 1) := by decide +kernel
theorem dX11_stepWord_133 : decode cX11_stepWord 133 = .ok ((.aload_n 0), 1) := by decide +kernel
theorem dX11_stepWord_134 : decode cX11_stepWord 134 = .ok ((.bipush 115), 2) := by decide +kernel
theorem dX11_stepWord_136 : decode cX11_stepWord 136 = .ok ((.bipush 116), 2) := by decide +kernel
theorem dX11_stepWord_138 : decode cX11_stepWord 138 = .ok ((.bipush 111), 2) := by decide +kernel
theorem dX11_stepWord_140 : decode cX11_stepWord 140 = .ok ((.bipush 112), 2) := by decide +kernel
theorem dX11_stepWord_142 : decode cX11_stepWord 142 = .ok ((.iconst 0), 1) := by decide +kernel
theorem dX11_stepWord_143 : decode cX11_stepWord 143 = .ok ((.iconst 0), 1) := by decide +kernel
theorem dX11_stepWord_144 : decode cX11_stepWord 144 = .ok ((.invokestatic 140), 3) := by decide +kernel
theorem dX11_stepWord_147 : decode cX11_stepWord 147 = .ok ((.invokevirtual 144), 3) := by decide +kernel
theorem dX11_stepWord_150 : decode cX11_stepWord 150 = .ok ((.ifCond .eq 8), 3) := by decide +kernel
theorem dX11_stepWord_153 : decode cX11_stepWord 153 = .ok ((.bipush 6), 2) := by decide +kernel
theorem dX11_stepWord_155 : decode cX11_stepWord 155 = .ok ((.goto 4), 3) := by decide +kernel
theorem dX11_stepWord_158 : decode cX11_stepWord 158 = .ok ((.iconst (-1)), 1) := by decide +kernel
theorem dX11_stepWord_159 : decode cX11_stepWord 159 = .ok (.ireturn, 1) := by decide +kernel
def p_X11_stepWord   (S : vSt)  (post : Int32 → vSt → Prop) : Prop := p_X11_spelled  S 99 104 97 114 103 101 (fun r30 S29 => p_X11_isWord  S29 r30 (fun r32 S31 => ((r32 = false → p_X11_spelled  S31 100 114 111 112 0 0 (fun r34 S33 => p_X11_isWord  S33 r34 (fun r36 S35 => ((r36 = false → p_X11_spelled  S35 101 97 114 110 0 0 (fun r38 S37 => p_X11_isWord  S37 r38 (fun r40 S39 => ((r40 = false → p_X11_spelled  S39 97 110 121 0 0 0 (fun r42 S41 => p_X11_isWord  S41 r42 (fun r44 S43 => ((r44 = false → p_X11_spelled  S43 119 104 101 110 0 0 (fun r46 S45 => p_X11_isWord  S45 r46 (fun r48 S47 => ((r48 = false → p_X11_spelled  S47 108 111 111 112 0 0 (fun r50 S49 => p_X11_isWord  S49 r50 (fun r52 S51 => ((r52 = false → p_X11_spelled  S51 115 116 111 112 0 0 (fun r54 S53 => p_X11_isWord  S53 r54 (fun r56 S55 => ((r56 = false → post (-1) S55) ∧ (r56 = true → post 6 S55))))) ∧ (r52 = true → post 5 S51))))) ∧ (r48 = true → post 4 S47))))) ∧ (r44 = true → post 3 S43))))) ∧ (r40 = true → post 2 S39))))) ∧ (r36 = true → post 1 S35))))) ∧ (r32 = true → post 0 S31))))
set_option maxHeartbeats 4000000 in
set_option maxRecDepth 100000 in
theorem c_X11_stepWord (l : Launch) (G : vG)    {S : vSt}  (post : Int32 → vSt → Prop) (h : p_X11_stepWord   S  post) : Met l yX11_stepWord (v_ws yX11_stepWord cX11_stepWord 1 (some .int)) (v_rm 1 67) (v_Pc G [.ref (G.1 143)] S) (v_Qi G post) 0 0 (v_A G) := by
  refine v_start (by decide +kernel) (Nat.le_of_ble_eq_true rfl) (fun X hl C D => ?_)
  subst hl
  have C : v_Cx X G cX11_stepWord RX11 1 (v_rm 1 67) := C
  show VJ X G S 0 [(0, .ref (G.1 143))] []
  refine V_aload_n C 0 dX11_stepWord_0 rfl rfl ?_
  refine V_bipush (v := 99) C dX11_stepWord_1 (by decide) ?_
  refine V_bipush (v := 104) C dX11_stepWord_3 (by decide) ?_
  refine V_bipush (v := 97) C dX11_stepWord_5 (by decide) ?_
  refine V_bipush (v := 114) C dX11_stepWord_7 (by decide) ?_
  refine V_bipush (v := 103) C dX11_stepWord_9 (by decide) ?_
  refine V_bipush (v := 101) C dX11_stepWord_11 (by decide) ?_
  refine V_callSl (As := [.int 99, .int 104, .int 97, .int 114, .int 103, .int 101]) (rest := [.ref (G.1 143)]) C (c_X11_spelled (v_l X) G  _ _ _ _ _ _ _ h) KV_X11_spelled k_RX11_140 rfl rfl rfl (Nat.le_of_ble_eq_true rfl) ⟨Nat.le_of_ble_eq_true rfl, Nat.le_of_ble_eq_true rfl⟩ dX11_stepWord_13 (fun r30 S29 h => ?_)
  refine V_callVz (As := [.long r30]) (rest := []) C (c_X11_isWord (v_l X) G  _ _ h) 143 11 (by decide) (by decide) (by decide) rfl KV_X11_isWord k_RX11_144 rfl rfl rfl (Nat.le_of_ble_eq_true rfl) ⟨Nat.le_of_ble_eq_true rfl, Nat.le_of_ble_eq_true rfl⟩ dX11_stepWord_16 (fun r32 S31 h => ?_)
  refine V_ifb_eq (tgt := 24) C dX11_stepWord_19 (by decide) (fun c => ?_) (fun c => ?_)
  · have h := h.1 c
    refine V_aload_n C 0 dX11_stepWord_24 rfl rfl ?_
    refine V_bipush (v := 100) C dX11_stepWord_25 (by decide) ?_
    refine V_bipush (v := 114) C dX11_stepWord_27 (by decide) ?_
    refine V_bipush (v := 111) C dX11_stepWord_29 (by decide) ?_
    refine V_bipush (v := 112) C dX11_stepWord_31 (by decide) ?_
    refine V_iconst (v := 0) C dX11_stepWord_33 (by decide) ?_
    refine V_iconst (v := 0) C dX11_stepWord_34 (by decide) ?_
    refine V_callSl (As := [.int 100, .int 114, .int 111, .int 112, .int 0, .int 0]) (rest := [.ref (G.1 143)]) C (c_X11_spelled (v_l X) G  _ _ _ _ _ _ _ h) KV_X11_spelled k_RX11_140 rfl rfl rfl (Nat.le_of_ble_eq_true rfl) ⟨Nat.le_of_ble_eq_true rfl, Nat.le_of_ble_eq_true rfl⟩ dX11_stepWord_35 (fun r34 S33 h => ?_)
    refine V_callVz (As := [.long r34]) (rest := []) C (c_X11_isWord (v_l X) G  _ _ h) 143 11 (by decide) (by decide) (by decide) rfl KV_X11_isWord k_RX11_144 rfl rfl rfl (Nat.le_of_ble_eq_true rfl) ⟨Nat.le_of_ble_eq_true rfl, Nat.le_of_ble_eq_true rfl⟩ dX11_stepWord_38 (fun r36 S35 h => ?_)
    refine V_ifb_eq (tgt := 46) C dX11_stepWord_41 (by decide) (fun c => ?_) (fun c => ?_)
    · have h := h.1 c
      refine V_aload_n C 0 dX11_stepWord_46 rfl rfl ?_
      refine V_bipush (v := 101) C dX11_stepWord_47 (by decide) ?_
      refine V_bipush (v := 97) C dX11_stepWord_49 (by decide) ?_
      refine V_bipush (v := 114) C dX11_stepWord_51 (by decide) ?_
      refine V_bipush (v := 110) C dX11_stepWord_53 (by decide) ?_
      refine V_iconst (v := 0) C dX11_stepWord_55 (by decide) ?_
      refine V_iconst (v := 0) C dX11_stepWord_56 (by decide) ?_
      refine V_callSl (As := [.int 101, .int 97, .int 114, .int 110, .int 0, .int 0]) (rest := [.ref (G.1 143)]) C (c_X11_spelled (v_l X) G  _ _ _ _ _ _ _ h) KV_X11_spelled k_RX11_140 rfl rfl rfl (Nat.le_of_ble_eq_true rfl) ⟨Nat.le_of_ble_eq_true rfl, Nat.le_of_ble_eq_true rfl⟩ dX11_stepWord_57 (fun r38 S37 h => ?_)
      refine V_callVz (As := [.long r38]) (rest := []) C (c_X11_isWord (v_l X) G  _ _ h) 143 11 (by decide) (by decide) (by decide) rfl KV_X11_isWord k_RX11_144 rfl rfl rfl (Nat.le_of_ble_eq_true rfl) ⟨Nat.le_of_ble_eq_true rfl, Nat.le_of_ble_eq_true rfl⟩ dX11_stepWord_60 (fun r40 S39 h => ?_)
      refine V_ifb_eq (tgt := 68) C dX11_stepWord_63 (by decide) (fun c => ?_) (fun c => ?_)
      · have h := h.1 c
        refine V_aload_n C 0 dX11_stepWord_68 rfl rfl ?_
        refine V_bipush (v := 97) C dX11_stepWord_69 (by decide) ?_
        refine V_bipush (v := 110) C dX11_stepWord_71 (by decide) ?_
        refine V_bipush (v := 121) C dX11_stepWord_73 (by decide) ?_
        refine V_iconst (v := 0) C dX11_stepWord_75 (by decide) ?_
        refine V_iconst (v := 0) C dX11_stepWord_76 (by decide) ?_
        refine V_iconst (v := 0) C dX11_stepWord_77 (by decide) ?_
        refine V_callSl (As := [.int 97, .int 110, .int 121, .int 0, .int 0, .int 0]) (rest := [.ref (G.1 143)]) C (c_X11_spelled (v_l X) G  _ _ _ _ _ _ _ h) KV_X11_spelled k_RX11_140 rfl rfl rfl (Nat.le_of_ble_eq_true rfl) ⟨Nat.le_of_ble_eq_true rfl, Nat.le_of_ble_eq_true rfl⟩ dX11_stepWord_78 (fun r42 S41 h => ?_)
        refine V_callVz (As := [.long r42]) (rest := []) C (c_X11_isWord (v_l X) G  _ _ h) 143 11 (by decide) (by decide) (by decide) rfl KV_X11_isWord k_RX11_144 rfl rfl rfl (Nat.le_of_ble_eq_true rfl) ⟨Nat.le_of_ble_eq_true rfl, Nat.le_of_ble_eq_true rfl⟩ dX11_stepWord_81 (fun r44 S43 h => ?_)
        refine V_ifb_eq (tgt := 89) C dX11_stepWord_84 (by decide) (fun c => ?_) (fun c => ?_)
        · have h := h.1 c
          refine V_aload_n C 0 dX11_stepWord_89 rfl rfl ?_
          refine V_bipush (v := 119) C dX11_stepWord_90 (by decide) ?_
          refine V_bipush (v := 104) C dX11_stepWord_92 (by decide) ?_
          refine V_bipush (v := 101) C dX11_stepWord_94 (by decide) ?_
          refine V_bipush (v := 110) C dX11_stepWord_96 (by decide) ?_
          refine V_iconst (v := 0) C dX11_stepWord_98 (by decide) ?_
          refine V_iconst (v := 0) C dX11_stepWord_99 (by decide) ?_
          refine V_callSl (As := [.int 119, .int 104, .int 101, .int 110, .int 0, .int 0]) (rest := [.ref (G.1 143)]) C (c_X11_spelled (v_l X) G  _ _ _ _ _ _ _ h) KV_X11_spelled k_RX11_140 rfl rfl rfl (Nat.le_of_ble_eq_true rfl) ⟨Nat.le_of_ble_eq_true rfl, Nat.le_of_ble_eq_true rfl⟩ dX11_stepWord_100 (fun r46 S45 h => ?_)
          refine V_callVz (As := [.long r46]) (rest := []) C (c_X11_isWord (v_l X) G  _ _ h) 143 11 (by decide) (by decide) (by decide) rfl KV_X11_isWord k_RX11_144 rfl rfl rfl (Nat.le_of_ble_eq_true rfl) ⟨Nat.le_of_ble_eq_true rfl, Nat.le_of_ble_eq_true rfl⟩ dX11_stepWord_103 (fun r48 S47 h => ?_)
          refine V_ifb_eq (tgt := 111) C dX11_stepWord_106 (by decide) (fun c => ?_) (fun c => ?_)
          · have h := h.1 c
            refine V_aload_n C 0 dX11_stepWord_111 rfl rfl ?_
            refine V_bipush (v := 108) C dX11_stepWord_112 (by decide) ?_
            refine V_bipush (v := 111) C dX11_stepWord_114 (by decide) ?_
            refine V_bipush (v := 111) C dX11_stepWord_116 (by decide) ?_
            refine V_bipush (v := 112) C dX11_stepWord_118 (by decide) ?_
            refine V_iconst (v := 0) C dX11_stepWord_120 (by decide) ?_
            refine V_iconst (v := 0) C dX11_stepWord_121 (by decide) ?_
            refine V_callSl (As := [.int 108, .int 111, .int 111, .int 112, .int 0, .int 0]) (rest := [.ref (G.1 143)]) C (c_X11_spelled (v_l X) G  _ _ _ _ _ _ _ h) KV_X11_spelled k_RX11_140 rfl rfl rfl (Nat.le_of_ble_eq_true rfl) ⟨Nat.le_of_ble_eq_true rfl, Nat.le_of_ble_eq_true rfl⟩ dX11_stepWord_122 (fun r50 S49 h => ?_)
            refine V_callVz (As := [.long r50]) (rest := []) C (c_X11_isWord (v_l X) G  _ _ h) 143 11 (by decide) (by decide) (by decide) rfl KV_X11_isWord k_RX11_144 rfl rfl rfl (Nat.le_of_ble_eq_true rfl) ⟨Nat.le_of_ble_eq_true rfl, Nat.le_of_ble_eq_true rfl⟩ dX11_stepWord_125 (fun r52 S51 h => ?_)
            refine V_ifb_eq (tgt := 133) C dX11_stepWord_128 (by decide) (fun c => ?_) (fun c => ?_)
            · have h := h.1 c
              refine V_aload_n C 0 dX11_stepWord_133 rfl rfl ?_
              refine V_bipush (v := 115) C dX11_stepWord_134 (by decide) ?_
              refine V_bipush (v := 116) C dX11_stepWord_136 (by decide) ?_
              refine V_bipush (v := 111) C dX11_stepWord_138 (by decide) ?_
              refine V_bipush (v := 112) C dX11_stepWord_140 (by decide) ?_
              refine V_iconst (v := 0) C dX11_stepWord_142 (by decide) ?_
              refine V_iconst (v := 0) C dX11_stepWord_143 (by decide) ?_
              refine V_callSl (As := [.int 115, .int 116, .int 111, .int 112, .int 0, .int 0]) (rest := [.ref (G.1 143)]) C (c_X11_spelled (v_l X) G  _ _ _ _ _ _ _ h) KV_X11_spelled k_RX11_140 rfl rfl rfl (Nat.le_of_ble_eq_true rfl) ⟨Nat.le_of_ble_eq_true rfl, Nat.le_of_ble_eq_true rfl⟩ dX11_stepWord_144 (fun r54 S53 h => ?_)
              refine V_callVz (As := [.long r54]) (rest := []) C (c_X11_isWord (v_l X) G  _ _ h) 143 11 (by decide) (by decide) (by decide) rfl KV_X11_isWord k_RX11_144 rfl rfl rfl (Nat.le_of_ble_eq_true rfl) ⟨Nat.le_of_ble_eq_true rfl, Nat.le_of_ble_eq_true rfl⟩ dX11_stepWord_147 (fun r56 S55 h => ?_)
              refine V_ifb_eq (tgt := 158) C dX11_stepWord_150 (by decide) (fun c => ?_) (fun c => ?_)
              · have h := h.1 c
                refine V_iconst (v := (-1)) C dX11_stepWord_158 (by decide) ?_
                exact V_iret C D dX11_stepWord_159 h
              · have h := h.2 c
                refine V_bipush (v := 6) C dX11_stepWord_153 (by decide) ?_
                refine V_goto (tgt := 159) C dX11_stepWord_155 (by decide) ?_
                exact V_iret C D dX11_stepWord_159 h
            · have h := h.2 c
              refine V_iconst (v := 5) C dX11_stepWord_131 (by decide) ?_
              exact V_iret C D dX11_stepWord_132 h
          · have h := h.2 c
            refine V_iconst (v := 4) C dX11_stepWord_109 (by decide) ?_
            exact V_iret C D dX11_stepWord_110 h
        · have h := h.2 c
          refine V_iconst (v := 3) C dX11_stepWord_87 (by decide) ?_
          exact V_iret C D dX11_stepWord_88 h
      · have h := h.2 c
        refine V_iconst (v := 2) C dX11_stepWord_66 (by decide) ?_
        exact V_iret C D dX11_stepWord_67 h
    · have h := h.2 c
      refine V_iconst (v := 1) C dX11_stepWord_44 (by decide) ?_
      exact V_iret C D dX11_stepWord_45 h
  · have h := h.2 c
    refine V_iconst (v := 0) C dX11_stepWord_22 (by decide) ?_
    exact V_iret C D dX11_stepWord_23 h
/-! HalfAccuserModel.testWord()I -/
theorem dX11_testWord_0 : decode cX11_testWord 0 = .ok ((.aload_n 0), 1) := by decide +kernel
theorem dX11_testWord_1 : decode cX11_testWord 1 = .ok ((.bipush 111), 2) := by decide +kernel
theorem dX11_testWord_3 : decode cX11_testWord 3 = .ok ((.bipush 112), 2) := by decide +kernel
theorem dX11_testWord_5 : decode cX11_testWord 5 = .ok ((.bipush 101), 2) := by decide +kernel
theorem dX11_testWord_7 : decode cX11_testWord 7 = .ok ((.bipush 110), 2) := by decide +kernel
theorem dX11_testWord_9 : decode cX11_testWord 9 = .ok ((.iconst 0), 1) := by decide +kernel
theorem dX11_testWord_10 : decode cX11_testWord 10 = .ok ((.iconst 0), 1) := by decide +kernel
theorem dX11_testWord_11 : decode cX11_testWord 11 = .ok ((.invokestatic 140), 3) := by decide +kernel
theorem dX11_testWord_14 : decode cX11_testWord 14 = .ok ((.invokevirtual 144), 3) := by decide +kernel
theorem dX11_testWord_17 : decode cX11_testWord 17 = .ok ((.ifCond .eq 5), 3) := by decide +kernel
theorem dX11_testWord_20 : decode cX11_testWord 20 = .ok ((.iconst 0), 1) := by decide +kernel
theorem dX11_testWord_21 : decode cX11_testWord 21 = .ok (.ireturn, 1) := by decide +kernel
theorem dX11_testWord_22 : decode cX11_testWord 22 = .ok ((.aload_n 0), 1) := by decide +kernel
theorem dX11_testWord_23 : decode cX11_testWord 23 = .ok ((.bipush 114), 2) := by decide +kernel
theorem dX11_testWord_25 : decode cX11_testWord 25 = .ok ((.bipush 117), 2) := by decide +kernel
theorem dX11_testWord_27 : decode cX11_testWord 27 = .ok ((.bipush 105), 2) := by decide +kernel
theorem dX11_testWord_29 : decode cX11_testWord 29 = .ok ((.bipush 110), 2) := by decide +kernel
theorem dX11_testWord_31 : decode cX11_testWord 31 = .ok ((.bipush 101), 2) := by decide +kernel
theorem dX11_testWord_33 : decode cX11_testWord 33 = .ok ((.bipush 100), 2) := by decide +kernel
theorem dX11_testWord_35 : decode cX11_testWord 35 = .ok ((.invokestatic 140), 3) := by decide +kernel
theorem dX11_testWord_38 : decode cX11_testWord 38 = .ok ((.invokevirtual 144), 3) := by decide +kernel
theorem dX11_testWord_41 : decode cX11_testWord 41 = .ok ((.ifCond .eq 5), 3) := by decide +kernel
theorem dX11_testWord_44 : decode cX11_testWord 44 = .ok ((.iconst 1), 1) := by decide +kernel
theorem dX11_testWord_45 : decode cX11_testWord 45 = .ok (.ireturn, 1) := by decide +kernel
theorem dX11_testWord_46 : decode cX11_testWord 46 = .ok ((.aload_n 0), 1) := by decide +kernel
theorem dX11_testWord_47 : decode cX11_testWord 47 = .ok ((.bipush 99), 2) := by decide +kernel
theorem dX11_testWord_49 : decode cX11_testWord 49 = .ok ((.bipush 111), 2) := by decide +kernel
theorem dX11_testWord_51 : decode cX11_testWord 51 = .ok ((.bipush 105), 2) := by decide +kernel
theorem dX11_testWord_53 : decode cX11_testWord 53 = .ok ((.bipush 110), 2) := by decide +kernel
theorem dX11_testWord_55 : decode cX11_testWord 55 = .ok ((.bipush 115), 2) := by decide +kernel
theorem dX11_testWord_57 : decode cX11_testWord 57 = .ok ((.iconst 0), 1) := by decide +kernel
theorem dX11_testWord_58 : decode cX11_testWord 58 = .ok ((.invokestatic 140), 3) := by decide +kernel
theorem dX11_testWord_61 : decode cX11_testWord 61 = .ok ((.invokevirtual 144), 3) := by decide +kernel
theorem dX11_testWord_64 : decode cX11_testWord 64 = .ok ((.ifCond .eq 7), 3) := by decide +kernel
theorem dX11_testWord_67 : decode cX11_testWord 67 = .ok ((.iconst 2), 1) := by decide +kernel
theorem dX11_testWord_68 : decode cX11_testWord 68 = .ok ((.goto 4), 3) := by decide +kernel
theorem dX11_testWord_71 : decode cX11_testWord 71 = .ok ((.iconst (-1)), 1) := by decide +kernel
theorem dX11_testWord_72 : decode cX11_testWord 72 = .ok (.ireturn, 1) := by decide +kernel
def p_X11_testWord   (S : vSt)  (post : Int32 → vSt → Prop) : Prop := p_X11_spelled  S 111 112 101 110 0 0 (fun r14 S13 => p_X11_isWord  S13 r14 (fun r16 S15 => ((r16 = false → p_X11_spelled  S15 114 117 105 110 101 100 (fun r18 S17 => p_X11_isWord  S17 r18 (fun r20 S19 => ((r20 = false → p_X11_spelled  S19 99 111 105 110 115 0 (fun r22 S21 => p_X11_isWord  S21 r22 (fun r24 S23 => ((r24 = false → post (-1) S23) ∧ (r24 = true → post 2 S23))))) ∧ (r20 = true → post 1 S19))))) ∧ (r16 = true → post 0 S15))))
set_option maxHeartbeats 4000000 in
set_option maxRecDepth 100000 in
theorem c_X11_testWord (l : Launch) (G : vG)    {S : vSt}  (post : Int32 → vSt → Prop) (h : p_X11_testWord   S  post) : Met l yX11_testWord (v_ws yX11_testWord cX11_testWord 1 (some .int)) (v_rm 1 67) (v_Pc G [.ref (G.1 143)] S) (v_Qi G post) 0 0 (v_A G) := by
  refine v_start (by decide +kernel) (Nat.le_of_ble_eq_true rfl) (fun X hl C D => ?_)
  subst hl
  have C : v_Cx X G cX11_testWord RX11 1 (v_rm 1 67) := C
  show VJ X G S 0 [(0, .ref (G.1 143))] []
  refine V_aload_n C 0 dX11_testWord_0 rfl rfl ?_
  refine V_bipush (v := 111) C dX11_testWord_1 (by decide) ?_
  refine V_bipush (v := 112) C dX11_testWord_3 (by decide) ?_
  refine V_bipush (v := 101) C dX11_testWord_5 (by decide) ?_
  refine V_bipush (v := 110) C dX11_testWord_7 (by decide) ?_
  refine V_iconst (v := 0) C dX11_testWord_9 (by decide) ?_
  refine V_iconst (v := 0) C dX11_testWord_10 (by decide) ?_
  refine V_callSl (As := [.int 111, .int 112, .int 101, .int 110, .int 0, .int 0]) (rest := [.ref (G.1 143)]) C (c_X11_spelled (v_l X) G  _ _ _ _ _ _ _ h) KV_X11_spelled k_RX11_140 rfl rfl rfl (Nat.le_of_ble_eq_true rfl) ⟨Nat.le_of_ble_eq_true rfl, Nat.le_of_ble_eq_true rfl⟩ dX11_testWord_11 (fun r14 S13 h => ?_)
  refine V_callVz (As := [.long r14]) (rest := []) C (c_X11_isWord (v_l X) G  _ _ h) 143 11 (by decide) (by decide) (by decide) rfl KV_X11_isWord k_RX11_144 rfl rfl rfl (Nat.le_of_ble_eq_true rfl) ⟨Nat.le_of_ble_eq_true rfl, Nat.le_of_ble_eq_true rfl⟩ dX11_testWord_14 (fun r16 S15 h => ?_)
  refine V_ifb_eq (tgt := 22) C dX11_testWord_17 (by decide) (fun c => ?_) (fun c => ?_)
  · have h := h.1 c
    refine V_aload_n C 0 dX11_testWord_22 rfl rfl ?_
    refine V_bipush (v := 114) C dX11_testWord_23 (by decide) ?_
    refine V_bipush (v := 117) C dX11_testWord_25 (by decide) ?_
    refine V_bipush (v := 105) C dX11_testWord_27 (by decide) ?_
    refine V_bipush (v := 110) C dX11_testWord_29 (by decide) ?_
    refine V_bipush (v := 101) C dX11_testWord_31 (by decide) ?_
    refine V_bipush (v := 100) C dX11_testWord_33 (by decide) ?_
    refine V_callSl (As := [.int 114, .int 117, .int 105, .int 110, .int 101, .int 100]) (rest := [.ref (G.1 143)]) C (c_X11_spelled (v_l X) G  _ _ _ _ _ _ _ h) KV_X11_spelled k_RX11_140 rfl rfl rfl (Nat.le_of_ble_eq_true rfl) ⟨Nat.le_of_ble_eq_true rfl, Nat.le_of_ble_eq_true rfl⟩ dX11_testWord_35 (fun r18 S17 h => ?_)
    refine V_callVz (As := [.long r18]) (rest := []) C (c_X11_isWord (v_l X) G  _ _ h) 143 11 (by decide) (by decide) (by decide) rfl KV_X11_isWord k_RX11_144 rfl rfl rfl (Nat.le_of_ble_eq_true rfl) ⟨Nat.le_of_ble_eq_true rfl, Nat.le_of_ble_eq_true rfl⟩ dX11_testWord_38 (fun r20 S19 h => ?_)
    refine V_ifb_eq (tgt := 46) C dX11_testWord_41 (by decide) (fun c => ?_) (fun c => ?_)
    · have h := h.1 c
      refine V_aload_n C 0 dX11_testWord_46 rfl rfl ?_
      refine V_bipush (v := 99) C dX11_testWord_47 (by decide) ?_
      refine V_bipush (v := 111) C dX11_testWord_49 (by decide) ?_
      refine V_bipush (v := 105) C dX11_testWord_51 (by decide) ?_
      refine V_bipush (v := 110) C dX11_testWord_53 (by decide) ?_
      refine V_bipush (v := 115) C dX11_testWord_55 (by decide) ?_
      refine V_iconst (v := 0) C dX11_testWord_57 (by decide) ?_
      refine V_callSl (As := [.int 99, .int 111, .int 105, .int 110, .int 115, .int 0]) (rest := [.ref (G.1 143)]) C (c_X11_spelled (v_l X) G  _ _ _ _ _ _ _ h) KV_X11_spelled k_RX11_140 rfl rfl rfl (Nat.le_of_ble_eq_true rfl) ⟨Nat.le_of_ble_eq_true rfl, Nat.le_of_ble_eq_true rfl⟩ dX11_testWord_58 (fun r22 S21 h => ?_)
      refine V_callVz (As := [.long r22]) (rest := []) C (c_X11_isWord (v_l X) G  _ _ h) 143 11 (by decide) (by decide) (by decide) rfl KV_X11_isWord k_RX11_144 rfl rfl rfl (Nat.le_of_ble_eq_true rfl) ⟨Nat.le_of_ble_eq_true rfl, Nat.le_of_ble_eq_true rfl⟩ dX11_testWord_61 (fun r24 S23 h => ?_)
      refine V_ifb_eq (tgt := 71) C dX11_testWord_64 (by decide) (fun c => ?_) (fun c => ?_)
      · have h := h.1 c
        refine V_iconst (v := (-1)) C dX11_testWord_71 (by decide) ?_
        exact V_iret C D dX11_testWord_72 h
      · have h := h.2 c
        refine V_iconst (v := 2) C dX11_testWord_67 (by decide) ?_
        refine V_goto (tgt := 72) C dX11_testWord_68 (by decide) ?_
        exact V_iret C D dX11_testWord_72 h
    · have h := h.2 c
      refine V_iconst (v := 1) C dX11_testWord_44 (by decide) ?_
      exact V_iret C D dX11_testWord_45 h
  · have h := h.2 c
    refine V_iconst (v := 0) C dX11_testWord_20 (by decide) ?_
    exact V_iret C D dX11_testWord_21 h
/-! HalfAccuserModel.isEnd()Z -/
theorem dX11_isEnd_0 : decode cX11_isEnd 0 = .ok ((.aload_n 0), 1) := by decide +kernel
theorem dX11_isEnd_1 : decode cX11_isEnd 1 = .ok ((.bipush 101), 2) := by decide +kernel
theorem dX11_isEnd_3 : decode cX11_isEnd 3 = .ok ((.bipush 110), 2) := by decide +kernel
theorem dX11_isEnd_5 : decode cX11_isEnd 5 = .ok ((.bipush 100), 2) := by decide +kernel
theorem dX11_isEnd_7 : decode cX11_isEnd 7 = .ok ((.iconst 0), 1) := by decide +kernel
theorem dX11_isEnd_8 : decode cX11_isEnd 8 = .ok ((.iconst 0), 1) := by decide +kernel
theorem dX11_isEnd_9 : decode cX11_isEnd 9 = .ok ((.iconst 0), 1) := by decide +kernel
theorem dX11_isEnd_10 : decode cX11_isEnd 10 = .ok ((.invokestatic 140), 3) := by decide +kernel
theorem dX11_isEnd_13 : decode cX11_isEnd 13 = .ok ((.invokevirtual 144), 3) := by decide +kernel
theorem dX11_isEnd_16 : decode cX11_isEnd 16 = .ok (.ireturn, 1) := by decide +kernel
def p_X11_isEnd   (S : vSt)  (post : Bool → vSt → Prop) : Prop := p_X11_spelled  S 101 110 100 0 0 0 (fun r6 S5 => p_X11_isWord  S5 r6 (fun r8 S7 => post r8 S7))
set_option maxHeartbeats 4000000 in
set_option maxRecDepth 100000 in
theorem c_X11_isEnd (l : Launch) (G : vG)    {S : vSt}  (post : Bool → vSt → Prop) (h : p_X11_isEnd   S  post) : Met l yX11_isEnd (v_ws yX11_isEnd cX11_isEnd 1 (some .boolean)) (v_rm 1 67) (v_Pc G [.ref (G.1 143)] S) (v_Qz G post) 0 0 (v_A G) := by
  refine v_start (by decide +kernel) (Nat.le_of_ble_eq_true rfl) (fun X hl C D => ?_)
  subst hl
  have C : v_Cx X G cX11_isEnd RX11 1 (v_rm 1 67) := C
  show VJ X G S 0 [(0, .ref (G.1 143))] []
  refine V_aload_n C 0 dX11_isEnd_0 rfl rfl ?_
  refine V_bipush (v := 101) C dX11_isEnd_1 (by decide) ?_
  refine V_bipush (v := 110) C dX11_isEnd_3 (by decide) ?_
  refine V_bipush (v := 100) C dX11_isEnd_5 (by decide) ?_
  refine V_iconst (v := 0) C dX11_isEnd_7 (by decide) ?_
  refine V_iconst (v := 0) C dX11_isEnd_8 (by decide) ?_
  refine V_iconst (v := 0) C dX11_isEnd_9 (by decide) ?_
  refine V_callSl (As := [.int 101, .int 110, .int 100, .int 0, .int 0, .int 0]) (rest := [.ref (G.1 143)]) C (c_X11_spelled (v_l X) G  _ _ _ _ _ _ _ h) KV_X11_spelled k_RX11_140 rfl rfl rfl (Nat.le_of_ble_eq_true rfl) ⟨Nat.le_of_ble_eq_true rfl, Nat.le_of_ble_eq_true rfl⟩ dX11_isEnd_10 (fun r6 S5 h => ?_)
  refine V_callVz (As := [.long r6]) (rest := []) C (c_X11_isWord (v_l X) G  _ _ h) 143 11 (by decide) (by decide) (by decide) rfl KV_X11_isWord k_RX11_144 rfl rfl rfl (Nat.le_of_ble_eq_true rfl) ⟨Nat.le_of_ble_eq_true rfl, Nat.le_of_ble_eq_true rfl⟩ dX11_isEnd_13 (fun r8 S7 h => ?_)
  exact V_zret C D dX11_isEnd_16 h
/-! HalfAccuserModel.isKept()Z -/
theorem dX11_isKept_0 : decode cX11_isKept 0 = .ok ((.aload_n 0), 1) := by decide +kernel
theorem dX11_isKept_1 : decode cX11_isKept 1 = .ok ((.invokevirtual 150), 3) := by decide +kernel
theorem dX11_isKept_4 : decode cX11_isKept 4 = .ok ((.ifCond .ne 73), 3) := by decide +kernel
theorem dX11_isKept_7 : decode cX11_isKept 7 = .ok ((.aload_n 0), 1) := by decide +kernel
theorem dX11_isKept_8 : decode cX11_isKept 8 = .ok ((.invokevirtual 154), 3) := by decide +kernel
theorem dX11_isKept_11 : decode cX11_isKept 11 = .ok ((.ifCond .ne 66), 3) := by decide +kernel
theorem dX11_isKept_14 : decode cX11_isKept 14 = .ok ((.aload_n 0), 1) := by decide +kernel
theorem dX11_isKept_15 : decode cX11_isKept 15 = .ok ((.invokevirtual 157), 3) := by decide +kernel
theorem dX11_isKept_18 : decode cX11_isKept 18 = .ok ((.ifCond .ne 59), 3) := by decide +kernel
theorem dX11_isKept_21 : decode cX11_isKept 21 = .ok ((.aload_n 0), 1) := by decide +kernel
theorem dX11_isKept_22 : decode cX11_isKept 22 = .ok ((.invokevirtual 160), 3) := by decide +kernel
theorem dX11_isKept_25 : decode cX11_isKept 25 = .ok ((.ifCond .ne 52), 3) := by decide +kernel
theorem dX11_isKept_28 : decode cX11_isKept 28 = .ok ((.aload_n 0), 1) := by decide +kernel
theorem dX11_isKept_29 : decode cX11_isKept 29 = .ok ((.invokevirtual 163), 3) := by decide +kernel
theorem dX11_isKept_32 : decode cX11_isKept 32 = .ok ((.ifCond .ne 45), 3) := by decide +kernel
theorem dX11_isKept_35 : decode cX11_isKept 35 = .ok ((.aload_n 0), 1) := by decide +kernel
theorem dX11_isKept_36 : decode cX11_isKept 36 = .ok ((.invokevirtual 166), 3) := by decide +kernel
theorem dX11_isKept_39 : decode cX11_isKept 39 = .ok ((.ifCond .ne 38), 3) := by decide +kernel
theorem dX11_isKept_42 : decode cX11_isKept 42 = .ok ((.aload_n 0), 1) := by decide +kernel
theorem dX11_isKept_43 : decode cX11_isKept 43 = .ok ((.invokevirtual 169), 3) := by decide +kernel
theorem dX11_isKept_46 : decode cX11_isKept 46 = .ok ((.ifCond .ne 31), 3) := by decide +kernel
theorem dX11_isKept_49 : decode cX11_isKept 49 = .ok ((.aload_n 0), 1) := by decide +kernel
theorem dX11_isKept_50 : decode cX11_isKept 50 = .ok ((.invokevirtual 172), 3) := by decide +kernel
theorem dX11_isKept_53 : decode cX11_isKept 53 = .ok ((.ifCond .ne 24), 3) := by decide +kernel
theorem dX11_isKept_56 : decode cX11_isKept 56 = .ok ((.aload_n 0), 1) := by decide +kernel
theorem dX11_isKept_57 : decode cX11_isKept 57 = .ok ((.invokevirtual 175), 3) := by decide +kernel
theorem dX11_isKept_60 : decode cX11_isKept 60 = .ok ((.ifCond .ne 17), 3) := by decide +kernel
theorem dX11_isKept_63 : decode cX11_isKept 63 = .ok ((.aload_n 0), 1) := by decide +kernel
theorem dX11_isKept_64 : decode cX11_isKept 64 = .ok ((.invokevirtual 178), 3) := by decide +kernel
theorem dX11_isKept_67 : decode cX11_isKept 67 = .ok ((.ifCond .ne 10), 3) := by decide +kernel
theorem dX11_isKept_70 : decode cX11_isKept 70 = .ok ((.aload_n 0), 1) := by decide +kernel
theorem dX11_isKept_71 : decode cX11_isKept 71 = .ok ((.invokevirtual 181), 3) := by decide +kernel
theorem dX11_isKept_74 : decode cX11_isKept 74 = .ok ((.ifCond .eq 5), 3) := by decide +kernel
theorem dX11_isKept_77 : decode cX11_isKept 77 = .ok ((.iconst 1), 1) := by decide +kernel
theorem dX11_isKept_78 : decode cX11_isKept 78 = .ok (.ireturn, 1) := by decide +kernel
theorem dX11_isKept_79 : decode cX11_isKept 79 = .ok ((.aload_n 0), 1) := by decide +kernel
theorem dX11_isKept_80 : decode cX11_isKept 80 = .ok ((.invokevirtual 184), 3) := by decide +kernel
theorem dX11_isKept_83 : decode cX11_isKept 83 = .ok ((.ifCond .ge 17), 3) := by decide +kernel
theorem dX11_isKept_86 : decode cX11_isKept 86 = .ok ((.aload_n 0), 1) := by decide +kernel
theorem dX11_isKept_87 : decode cX11_isKept 87 = .ok ((.invokevirtual 188), 3) := by decide +kernel
theorem dX11_isKept_90 : decode cX11_isKept 90 = .ok ((.ifCond .ge 10), 3) := by decide +kernel
theorem dX11_isKept_93 : decode cX11_isKept 93 = .ok ((.aload_n 0), 1) := by decide +kernel
theorem dX11_isKept_94 : decode cX11_isKept 94 = .ok ((.invokevirtual 191), 3) := by decide +kernel
theorem dX11_isKept_97 : decode cX11_isKept 97 = .ok ((.ifCond .eq 7), 3) := by decide +kernel
theorem dX11_isKept_100 : decode cX11_isKept 100 = .ok ((.iconst 1), 1) := by decide +kernel
theorem dX11_isKept_101 : decode cX11_isKept 101 = .ok ((.goto 4), 3) := by decide +kernel
theorem dX11_isKept_104 : decode cX11_isKept 104 = .ok ((.iconst 0), 1) := by decide +kernel
theorem dX11_isKept_105 : decode cX11_isKept 105 = .ok (.ireturn, 1) := by decide +kernel
def p_X11_isKept   (S : vSt)  (post : Bool → vSt → Prop) : Prop := p_X11_isJurors  S  (fun r30 S29 => ((r30 = true → post true S29) ∧ (r30 = false → p_X11_isFifth  S29  (fun r32 S31 => ((r32 = true → post true S31) ∧ (r32 = false → p_X11_isPenalty  S31  (fun r34 S33 => ((r34 = true → post true S33) ∧ (r34 = false → p_X11_isShare  S33  (fun r36 S35 => ((r36 = true → post true S35) ∧ (r36 = false → p_X11_isPerson  S35  (fun r38 S37 => ((r38 = true → post true S37) ∧ (r38 = false → p_X11_isSkill  S37  (fun r40 S39 => ((r40 = true → post true S39) ∧ (r40 = false → p_X11_isDeed  S39  (fun r42 S41 => ((r42 = true → post true S41) ∧ (r42 = false → p_X11_isOf  S41  (fun r44 S43 => ((r44 = true → post true S43) ∧ (r44 = false → p_X11_isFine  S43  (fun r46 S45 => ((r46 = true → post true S45) ∧ (r46 = false → p_X11_isOdds  S45  (fun r48 S47 => ((r48 = true → post true S47) ∧ (r48 = false → p_X11_isFor  S47  (fun r50 S49 => ((r50 = false → p_X11_stepWord  S49  (fun r52 S51 => ((0 ≤ r52 → post true S51) ∧ (¬ 0 ≤ r52 → p_X11_testWord  S51  (fun r54 S53 => ((0 ≤ r54 → post true S53) ∧ (¬ 0 ≤ r54 → p_X11_isEnd  S53  (fun r56 S55 => ((r56 = false → post false S55) ∧ (r56 = true → post true S55)))))))))) ∧ (r50 = true → post true S49)))))))))))))))))))))))))))))))))
set_option maxHeartbeats 4000000 in
set_option maxRecDepth 100000 in
theorem c_X11_isKept (l : Launch) (G : vG)    {S : vSt}  (post : Bool → vSt → Prop) (h : p_X11_isKept   S  post) : Met l yX11_isKept (v_ws yX11_isKept cX11_isKept 1 (some .boolean)) (v_rm 2 87) (v_Pc G [.ref (G.1 143)] S) (v_Qz G post) 0 0 (v_A G) := by
  refine v_start (by decide +kernel) (Nat.le_of_ble_eq_true rfl) (fun X hl C D => ?_)
  subst hl
  have C : v_Cx X G cX11_isKept RX11 1 (v_rm 2 87) := C
  show VJ X G S 0 [(0, .ref (G.1 143))] []
  refine V_aload_n C 0 dX11_isKept_0 rfl rfl ?_
  refine V_callVz (As := []) (rest := []) C (c_X11_isJurors (v_l X) G  _ h) 143 11 (by decide) (by decide) (by decide) rfl KV_X11_isJurors k_RX11_150 rfl rfl rfl (Nat.le_of_ble_eq_true rfl) ⟨Nat.le_of_ble_eq_true rfl, Nat.le_of_ble_eq_true rfl⟩ dX11_isKept_1 (fun r30 S29 h => ?_)
  refine V_ifb_ne (tgt := 77) C dX11_isKept_4 (by decide) (fun c => ?_) (fun c => ?_)
  · have h := h.1 c
    refine V_iconst (v := 1) C dX11_isKept_77 (by decide) ?_
    exact V_zret1 C D dX11_isKept_78 h
  · have h := h.2 c
    refine V_aload_n C 0 dX11_isKept_7 rfl rfl ?_
    refine V_callVz (As := []) (rest := []) C (c_X11_isFifth (v_l X) G  _ h) 143 11 (by decide) (by decide) (by decide) rfl KV_X11_isFifth k_RX11_154 rfl rfl rfl (Nat.le_of_ble_eq_true rfl) ⟨Nat.le_of_ble_eq_true rfl, Nat.le_of_ble_eq_true rfl⟩ dX11_isKept_8 (fun r32 S31 h => ?_)
    refine V_ifb_ne (tgt := 77) C dX11_isKept_11 (by decide) (fun c => ?_) (fun c => ?_)
    · have h := h.1 c
      refine V_iconst (v := 1) C dX11_isKept_77 (by decide) ?_
      exact V_zret1 C D dX11_isKept_78 h
    · have h := h.2 c
      refine V_aload_n C 0 dX11_isKept_14 rfl rfl ?_
      refine V_callVz (As := []) (rest := []) C (c_X11_isPenalty (v_l X) G  _ h) 143 11 (by decide) (by decide) (by decide) rfl KV_X11_isPenalty k_RX11_157 rfl rfl rfl (Nat.le_of_ble_eq_true rfl) ⟨Nat.le_of_ble_eq_true rfl, Nat.le_of_ble_eq_true rfl⟩ dX11_isKept_15 (fun r34 S33 h => ?_)
      refine V_ifb_ne (tgt := 77) C dX11_isKept_18 (by decide) (fun c => ?_) (fun c => ?_)
      · have h := h.1 c
        refine V_iconst (v := 1) C dX11_isKept_77 (by decide) ?_
        exact V_zret1 C D dX11_isKept_78 h
      · have h := h.2 c
        refine V_aload_n C 0 dX11_isKept_21 rfl rfl ?_
        refine V_callVz (As := []) (rest := []) C (c_X11_isShare (v_l X) G  _ h) 143 11 (by decide) (by decide) (by decide) rfl KV_X11_isShare k_RX11_160 rfl rfl rfl (Nat.le_of_ble_eq_true rfl) ⟨Nat.le_of_ble_eq_true rfl, Nat.le_of_ble_eq_true rfl⟩ dX11_isKept_22 (fun r36 S35 h => ?_)
        refine V_ifb_ne (tgt := 77) C dX11_isKept_25 (by decide) (fun c => ?_) (fun c => ?_)
        · have h := h.1 c
          refine V_iconst (v := 1) C dX11_isKept_77 (by decide) ?_
          exact V_zret1 C D dX11_isKept_78 h
        · have h := h.2 c
          refine V_aload_n C 0 dX11_isKept_28 rfl rfl ?_
          refine V_callVz (As := []) (rest := []) C (c_X11_isPerson (v_l X) G  _ h) 143 11 (by decide) (by decide) (by decide) rfl KV_X11_isPerson k_RX11_163 rfl rfl rfl (Nat.le_of_ble_eq_true rfl) ⟨Nat.le_of_ble_eq_true rfl, Nat.le_of_ble_eq_true rfl⟩ dX11_isKept_29 (fun r38 S37 h => ?_)
          refine V_ifb_ne (tgt := 77) C dX11_isKept_32 (by decide) (fun c => ?_) (fun c => ?_)
          · have h := h.1 c
            refine V_iconst (v := 1) C dX11_isKept_77 (by decide) ?_
            exact V_zret1 C D dX11_isKept_78 h
          · have h := h.2 c
            refine V_aload_n C 0 dX11_isKept_35 rfl rfl ?_
            refine V_callVz (As := []) (rest := []) C (c_X11_isSkill (v_l X) G  _ h) 143 11 (by decide) (by decide) (by decide) rfl KV_X11_isSkill k_RX11_166 rfl rfl rfl (Nat.le_of_ble_eq_true rfl) ⟨Nat.le_of_ble_eq_true rfl, Nat.le_of_ble_eq_true rfl⟩ dX11_isKept_36 (fun r40 S39 h => ?_)
            refine V_ifb_ne (tgt := 77) C dX11_isKept_39 (by decide) (fun c => ?_) (fun c => ?_)
            · have h := h.1 c
              refine V_iconst (v := 1) C dX11_isKept_77 (by decide) ?_
              exact V_zret1 C D dX11_isKept_78 h
            · have h := h.2 c
              refine V_aload_n C 0 dX11_isKept_42 rfl rfl ?_
              refine V_callVz (As := []) (rest := []) C (c_X11_isDeed (v_l X) G  _ h) 143 11 (by decide) (by decide) (by decide) rfl KV_X11_isDeed k_RX11_169 rfl rfl rfl (Nat.le_of_ble_eq_true rfl) ⟨Nat.le_of_ble_eq_true rfl, Nat.le_of_ble_eq_true rfl⟩ dX11_isKept_43 (fun r42 S41 h => ?_)
              refine V_ifb_ne (tgt := 77) C dX11_isKept_46 (by decide) (fun c => ?_) (fun c => ?_)
              · have h := h.1 c
                refine V_iconst (v := 1) C dX11_isKept_77 (by decide) ?_
                exact V_zret1 C D dX11_isKept_78 h
              · have h := h.2 c
                refine V_aload_n C 0 dX11_isKept_49 rfl rfl ?_
                refine V_callVz (As := []) (rest := []) C (c_X11_isOf (v_l X) G  _ h) 143 11 (by decide) (by decide) (by decide) rfl KV_X11_isOf k_RX11_172 rfl rfl rfl (Nat.le_of_ble_eq_true rfl) ⟨Nat.le_of_ble_eq_true rfl, Nat.le_of_ble_eq_true rfl⟩ dX11_isKept_50 (fun r44 S43 h => ?_)
                refine V_ifb_ne (tgt := 77) C dX11_isKept_53 (by decide) (fun c => ?_) (fun c => ?_)
                · have h := h.1 c
                  refine V_iconst (v := 1) C dX11_isKept_77 (by decide) ?_
                  exact V_zret1 C D dX11_isKept_78 h
                · have h := h.2 c
                  refine V_aload_n C 0 dX11_isKept_56 rfl rfl ?_
                  refine V_callVz (As := []) (rest := []) C (c_X11_isFine (v_l X) G  _ h) 143 11 (by decide) (by decide) (by decide) rfl KV_X11_isFine k_RX11_175 rfl rfl rfl (Nat.le_of_ble_eq_true rfl) ⟨Nat.le_of_ble_eq_true rfl, Nat.le_of_ble_eq_true rfl⟩ dX11_isKept_57 (fun r46 S45 h => ?_)
                  refine V_ifb_ne (tgt := 77) C dX11_isKept_60 (by decide) (fun c => ?_) (fun c => ?_)
                  · have h := h.1 c
                    refine V_iconst (v := 1) C dX11_isKept_77 (by decide) ?_
                    exact V_zret1 C D dX11_isKept_78 h
                  · have h := h.2 c
                    refine V_aload_n C 0 dX11_isKept_63 rfl rfl ?_
                    refine V_callVz (As := []) (rest := []) C (c_X11_isOdds (v_l X) G  _ h) 143 11 (by decide) (by decide) (by decide) rfl KV_X11_isOdds k_RX11_178 rfl rfl rfl (Nat.le_of_ble_eq_true rfl) ⟨Nat.le_of_ble_eq_true rfl, Nat.le_of_ble_eq_true rfl⟩ dX11_isKept_64 (fun r48 S47 h => ?_)
                    refine V_ifb_ne (tgt := 77) C dX11_isKept_67 (by decide) (fun c => ?_) (fun c => ?_)
                    · have h := h.1 c
                      refine V_iconst (v := 1) C dX11_isKept_77 (by decide) ?_
                      exact V_zret1 C D dX11_isKept_78 h
                    · have h := h.2 c
                      refine V_aload_n C 0 dX11_isKept_70 rfl rfl ?_
                      refine V_callVz (As := []) (rest := []) C (c_X11_isFor (v_l X) G  _ h) 143 11 (by decide) (by decide) (by decide) rfl KV_X11_isFor k_RX11_181 rfl rfl rfl (Nat.le_of_ble_eq_true rfl) ⟨Nat.le_of_ble_eq_true rfl, Nat.le_of_ble_eq_true rfl⟩ dX11_isKept_71 (fun r50 S49 h => ?_)
                      refine V_ifb_eq (tgt := 79) C dX11_isKept_74 (by decide) (fun c => ?_) (fun c => ?_)
                      · have h := h.1 c
                        refine V_aload_n C 0 dX11_isKept_79 rfl rfl ?_
                        refine V_callVi (As := []) (rest := []) C (c_X11_stepWord (v_l X) G  _ h) 143 11 (by decide) (by decide) (by decide) rfl KV_X11_stepWord k_RX11_184 rfl rfl rfl (Nat.le_of_ble_eq_true rfl) ⟨Nat.le_of_ble_eq_true rfl, Nat.le_of_ble_eq_true rfl⟩ dX11_isKept_80 (fun r52 S51 h => ?_)
                        refine V_if_ge (tgt := 100) C dX11_isKept_83 (by decide) (fun c => ?_) (fun c => ?_)
                        · have h := h.1 c
                          refine V_iconst (v := 1) C dX11_isKept_100 (by decide) ?_
                          refine V_goto (tgt := 105) C dX11_isKept_101 (by decide) ?_
                          exact V_zret1 C D dX11_isKept_105 h
                        · have h := h.2 c
                          refine V_aload_n C 0 dX11_isKept_86 rfl rfl ?_
                          refine V_callVi (As := []) (rest := []) C (c_X11_testWord (v_l X) G  _ h) 143 11 (by decide) (by decide) (by decide) rfl KV_X11_testWord k_RX11_188 rfl rfl rfl (Nat.le_of_ble_eq_true rfl) ⟨Nat.le_of_ble_eq_true rfl, Nat.le_of_ble_eq_true rfl⟩ dX11_isKept_87 (fun r54 S53 h => ?_)
                          refine V_if_ge (tgt := 100) C dX11_isKept_90 (by decide) (fun c => ?_) (fun c => ?_)
                          · have h := h.1 c
                            refine V_iconst (v := 1) C dX11_isKept_100 (by decide) ?_
                            refine V_goto (tgt := 105) C dX11_isKept_101 (by decide) ?_
                            exact V_zret1 C D dX11_isKept_105 h
                          · have h := h.2 c
                            refine V_aload_n C 0 dX11_isKept_93 rfl rfl ?_
                            refine V_callVz (As := []) (rest := []) C (c_X11_isEnd (v_l X) G  _ h) 143 11 (by decide) (by decide) (by decide) rfl KV_X11_isEnd k_RX11_191 rfl rfl rfl (Nat.le_of_ble_eq_true rfl) ⟨Nat.le_of_ble_eq_true rfl, Nat.le_of_ble_eq_true rfl⟩ dX11_isKept_94 (fun r56 S55 h => ?_)
                            refine V_ifb_eq (tgt := 104) C dX11_isKept_97 (by decide) (fun c => ?_) (fun c => ?_)
                            · have h := h.1 c
                              refine V_iconst (v := 0) C dX11_isKept_104 (by decide) ?_
                              exact V_zret0 C D dX11_isKept_105 h
                            · have h := h.2 c
                              refine V_iconst (v := 1) C dX11_isKept_100 (by decide) ?_
                              refine V_goto (tgt := 105) C dX11_isKept_101 (by decide) ?_
                              exact V_zret1 C D dX11_isKept_105 h
                      · have h := h.2 c
                        refine V_iconst (v := 1) C dX11_isKept_77 (by decide) ?_
                        exact V_zret1 C D dX11_isKept_78 h
/-! HalfAccuserModel.isName()Z -/
theorem dX11_isName_0 : decode cX11_isName 0 = .ok ((.aload_n 0), 1) := by decide +kernel
theorem dX11_isName_1 : decode cX11_isName 1 = .ok ((.getfield 115), 3) := by decide +kernel
theorem dX11_isName_4 : decode cX11_isName 4 = .ok ((.iconst 1), 1) := by decide +kernel
theorem dX11_isName_5 : decode cX11_isName 5 = .ok ((.if_icmp .ne 23), 3) := by decide +kernel
theorem dX11_isName_8 : decode cX11_isName 8 = .ok ((.aload_n 0), 1) := by decide +kernel
theorem dX11_isName_9 : decode cX11_isName 9 = .ok ((.getfield 128), 3) := by decide +kernel
theorem dX11_isName_12 : decode cX11_isName 12 = .ok ((.bipush 8), 2) := by decide +kernel
theorem dX11_isName_14 : decode cX11_isName 14 = .ok ((.if_icmp .gt 14), 3) := by decide +kernel
theorem dX11_isName_17 : decode cX11_isName 17 = .ok ((.aload_n 0), 1) := by decide +kernel
theorem dX11_isName_18 : decode cX11_isName 18 = .ok ((.invokevirtual 194), 3) := by decide +kernel
theorem dX11_isName_21 : decode cX11_isName 21 = .ok ((.ifCond .ne 7), 3) := by decide +kernel
theorem dX11_isName_24 : decode cX11_isName 24 = .ok ((.iconst 1), 1) := by decide +kernel
theorem dX11_isName_25 : decode cX11_isName 25 = .ok ((.goto 4), 3) := by decide +kernel
theorem dX11_isName_28 : decode cX11_isName 28 = .ok ((.iconst 0), 1) := by decide +kernel
theorem dX11_isName_29 : decode cX11_isName 29 = .ok (.ireturn, 1) := by decide +kernel
def p_X11_isName   (S : vSt)  (post : Bool → vSt → Prop) : Prop := ((¬ (S.1 143 14) = 1 → post false S) ∧ ((S.1 143 14) = 1 → ((8 < (S.1 143 18) → post false S) ∧ (¬ 8 < (S.1 143 18) → p_X11_isKept  S  (fun r4 S3 => ((r4 = true → post false S3) ∧ (r4 = false → post true S3)))))))
set_option maxHeartbeats 4000000 in
set_option maxRecDepth 100000 in
theorem c_X11_isName (l : Launch) (G : vG)    {S : vSt}  (post : Bool → vSt → Prop) (h : p_X11_isName   S  post) : Met l yX11_isName (v_ws yX11_isName cX11_isName 1 (some .boolean)) (v_rm 3 107) (v_Pc G [.ref (G.1 143)] S) (v_Qz G post) 0 0 (v_A G) := by
  refine v_start (by decide +kernel) (Nat.le_of_ble_eq_true rfl) (fun X hl C D => ?_)
  subst hl
  have C : v_Cx X G cX11_isName RX11 1 (v_rm 3 107) := C
  show VJ X G S 0 [(0, .ref (G.1 143))] []
  refine V_aload_n C 0 dX11_isName_0 rfl rfl ?_
  refine V_gi C 143 (by decide) (by decide) F_11_14 k_RX11_115 dX11_isName_1 ?_
  refine V_iconst (v := 1) C dX11_isName_4 (by decide) ?_
  refine V_icmp_ne (tgt := 28) C dX11_isName_5 (by decide) (fun c => ?_) (fun c => ?_)
  · have h := h.1 c
    refine V_iconst (v := 0) C dX11_isName_28 (by decide) ?_
    exact V_zret0 C D dX11_isName_29 h
  · have h := h.2 c
    refine V_aload_n C 0 dX11_isName_8 rfl rfl ?_
    refine V_gi C 143 (by decide) (by decide) F_11_18 k_RX11_128 dX11_isName_9 ?_
    refine V_bipush (v := 8) C dX11_isName_12 (by decide) ?_
    refine V_icmp_gt (tgt := 28) C dX11_isName_14 (by decide) (fun c => ?_) (fun c => ?_)
    · have h := h.1 c
      refine V_iconst (v := 0) C dX11_isName_28 (by decide) ?_
      exact V_zret0 C D dX11_isName_29 h
    · have h := h.2 c
      refine V_aload_n C 0 dX11_isName_17 rfl rfl ?_
      refine V_callVz (As := []) (rest := []) C (c_X11_isKept (v_l X) G  _ h) 143 11 (by decide) (by decide) (by decide) rfl KV_X11_isKept k_RX11_194 rfl rfl rfl (Nat.le_of_ble_eq_true rfl) ⟨Nat.le_of_ble_eq_true rfl, Nat.le_of_ble_eq_true rfl⟩ dX11_isName_18 (fun r4 S3 h => ?_)
      refine V_ifb_ne (tgt := 28) C dX11_isName_21 (by decide) (fun c => ?_) (fun c => ?_)
      · have h := h.1 c
        refine V_iconst (v := 0) C dX11_isName_28 (by decide) ?_
        exact V_zret0 C D dX11_isName_29 h
      · have h := h.2 c
        refine V_iconst (v := 1) C dX11_isName_24 (by decide) ?_
        refine V_goto (tgt := 29) C dX11_isName_25 (by decide) ?_
        exact V_zret1 C D dX11_isName_29 h
/-! HalfAccuserModel.fail(II)V -/
theorem dX11_fail_0 : decode cX11_fail 0 = .ok ((.aload_n 0), 1) := by decide +kernel
theorem dX11_fail_1 : decode cX11_fail 1 = .ok ((.getfield 197), 3) := by decide +kernel
theorem dX11_fail_4 : decode cX11_fail 4 = .ok ((.ifCond .le 4), 3) := by decide +kernel
theorem dX11_fail_7 : decode cX11_fail 7 = .ok (.return_, 1) := by decide +kernel
theorem dX11_fail_8 : decode cX11_fail 8 = .ok ((.aload_n 0), 1) := by decide +kernel
theorem dX11_fail_9 : decode cX11_fail 9 = .ok ((.iload_n 1), 1) := by decide +kernel
theorem dX11_fail_10 : decode cX11_fail 10 = .ok ((.putfield 197), 3) := by decide +kernel
theorem dX11_fail_13 : decode cX11_fail 13 = .ok ((.aload_n 0), 1) := by decide +kernel
theorem dX11_fail_14 : decode cX11_fail 14 = .ok ((.iload_n 2), 1) := by decide +kernel
theorem dX11_fail_15 : decode cX11_fail 15 = .ok ((.putfield 200), 3) := by decide +kernel
theorem dX11_fail_18 : decode cX11_fail 18 = .ok (.return_, 1) := by decide +kernel
def p_X11_fail   (S : vSt) (a1 : Int32) (a2 : Int32) (post : vSt → Prop) : Prop := (((S.1 143 12) ≤ 0 → ∀ S3, S3 = v_si S 143 12 a1 → ∀ S4, S4 = v_si S3 143 13 a2 → post S4) ∧ (¬ (S.1 143 12) ≤ 0 → post S))
set_option maxHeartbeats 4000000 in
set_option maxRecDepth 100000 in
theorem c_X11_fail (l : Launch) (G : vG)    {S : vSt} (a1 : Int32) (a2 : Int32) (post : vSt → Prop) (h : p_X11_fail   S a1 a2 post) : Met l yX11_fail (v_ws yX11_fail cX11_fail 3 none) (v_rm 0 40) (v_Pc G [.ref (G.1 143), .int a1, .int a2] S) (v_Qv G post) 0 0 (v_A G) := by
  refine v_start (by decide +kernel) (Nat.le_of_ble_eq_true rfl) (fun X hl C D => ?_)
  subst hl
  have C : v_Cx X G cX11_fail RX11 3 (v_rm 0 40) := C
  show VJ X G S 0 [(0, .ref (G.1 143)), (1, .int a1), (2, .int a2)] []
  refine V_aload_n C 0 dX11_fail_0 rfl rfl ?_
  refine V_gi C 143 (by decide) (by decide) F_11_12 k_RX11_197 dX11_fail_1 ?_
  refine V_if_le (tgt := 8) C dX11_fail_4 (by decide) (fun c => ?_) (fun c => ?_)
  · have h := h.1 c
    refine V_aload_n C 0 dX11_fail_8 rfl rfl ?_
    refine V_iload_n C 1 dX11_fail_9 rfl rfl ?_
    refine V_pi C 143 (by decide) (by decide) P_11_12 k_RX11_197 dX11_fail_10 ?_
    refine V_topS (fun S3 eS3 => ?_)
    have h := h S3 eS3
    refine V_aload_n C 0 dX11_fail_13 rfl rfl ?_
    refine V_iload_n C 2 dX11_fail_14 rfl rfl ?_
    refine V_pi C 143 (by decide) (by decide) P_11_13 k_RX11_200 dX11_fail_15 ?_
    refine V_topS (fun S4 eS4 => ?_)
    have h := h S4 eS4
    exact V_vret C D dX11_fail_18 h
  · have h := h.2 c
    exact V_vret C D dX11_fail_7 h
/-! HalfAccuserModel.amiss()V -/
theorem dX11_amiss_0 : decode cX11_amiss 0 = .ok ((.aload_n 0), 1) := by decide +kernel
theorem dX11_amiss_1 : decode cX11_amiss 1 = .ok ((.aload_n 0), 1) := by decide +kernel
theorem dX11_amiss_2 : decode cX11_amiss 2 = .ok ((.getfield 115), 3) := by decide +kernel
theorem dX11_amiss_5 : decode cX11_amiss 5 = .ok ((.iconst 4), 1) := by decide +kernel
theorem dX11_amiss_6 : decode cX11_amiss 6 = .ok ((.if_icmp .ne 7), 3) := by decide +kernel
theorem dX11_amiss_9 : decode cX11_amiss 9 = .ok ((.iconst 1), 1) := by decide +kernel
theorem dX11_amiss_10 : decode cX11_amiss 10 = .ok ((.goto 4), 3) := by decide +kernel
theorem dX11_amiss_13 : decode cX11_amiss 13 = .ok ((.iconst 2), 1) := by decide +kernel
theorem dX11_amiss_14 : decode cX11_amiss 14 = .ok ((.aload_n 0), 1) := by decide +kernel
theorem dX11_amiss_15 : decode cX11_amiss 15 = .ok ((.getfield 109), 3) := by decide +kernel
theorem dX11_amiss_18 : decode cX11_amiss 18 = .ok ((.invokevirtual 203), 3) := by decide +kernel
theorem dX11_amiss_21 : decode cX11_amiss 21 = .ok (.return_, 1) := by decide +kernel
def p_X11_amiss_14     (post : vSt → Prop) (S : vSt) (s0 : Int32) : Prop := p_X11_fail  S s0 (S.1 143 15) (fun S2 => post S2)
def p_X11_amiss   (S : vSt)  (post : vSt → Prop) : Prop := ((¬ (S.1 143 14) = 4 → p_X11_amiss_14  post S 2) ∧ ((S.1 143 14) = 4 → p_X11_amiss_14  post S 1))
set_option maxHeartbeats 4000000 in
set_option maxRecDepth 100000 in
theorem q_X11_amiss_14 {X : vX} {G : vG}  {post : vSt → Prop} (C : v_Cx X G cX11_amiss RX11 1 (v_rm 1 62)) (D : v_Rx X G (v_Qv G post) none)     : ∀ (S : vSt) (s0 : Int32), p_X11_amiss_14  post S s0 → VJ X G S 14 [(0, .ref (G.1 143))] [.int s0, .ref (G.1 143)] := by
  intro S s0 h
  refine V_aload_n C 0 dX11_amiss_14 rfl rfl ?_
  refine V_gi C 143 (by decide) (by decide) F_11_15 k_RX11_109 dX11_amiss_15 ?_
  refine V_callVv (As := [.int s0, .int (S.1 143 15)]) (rest := []) C (c_X11_fail (v_l X) G  _ _ _ h) 143 11 (by decide) (by decide) (by decide) rfl KV_X11_fail k_RX11_203 rfl rfl rfl (Nat.le_of_ble_eq_true rfl) ⟨Nat.le_of_ble_eq_true rfl, Nat.le_of_ble_eq_true rfl⟩ dX11_amiss_18 (fun S2 h => ?_)
  exact V_vret C D dX11_amiss_21 h
set_option maxHeartbeats 4000000 in
set_option maxRecDepth 100000 in
theorem c_X11_amiss (l : Launch) (G : vG)    {S : vSt}  (post : vSt → Prop) (h : p_X11_amiss   S  post) : Met l yX11_amiss (v_ws yX11_amiss cX11_amiss 1 none) (v_rm 1 62) (v_Pc G [.ref (G.1 143)] S) (v_Qv G post) 0 0 (v_A G) := by
  refine v_start (by decide +kernel) (Nat.le_of_ble_eq_true rfl) (fun X hl C D => ?_)
  subst hl
  have C : v_Cx X G cX11_amiss RX11 1 (v_rm 1 62) := C
  show VJ X G S 0 [(0, .ref (G.1 143))] []
  refine V_aload_n C 0 dX11_amiss_0 rfl rfl ?_
  refine V_aload_n C 0 dX11_amiss_1 rfl rfl ?_
  refine V_gi C 143 (by decide) (by decide) F_11_14 k_RX11_115 dX11_amiss_2 ?_
  refine V_iconst (v := 4) C dX11_amiss_5 (by decide) ?_
  refine V_icmp_ne (tgt := 13) C dX11_amiss_6 (by decide) (fun c => ?_) (fun c => ?_)
  · have h := h.1 c
    refine V_iconst (v := 2) C dX11_amiss_13 (by decide) ?_
    exact q_X11_amiss_14 C D  _ _ h
  · have h := h.2 c
    refine V_iconst (v := 1) C dX11_amiss_9 (by decide) ?_
    refine V_goto (tgt := 14) C dX11_amiss_10 (by decide) ?_
    exact q_X11_amiss_14 C D  _ _ h
/-! HalfAccuserModel.must(Z)V -/
theorem dX11_must_0 : decode cX11_must 0 = .ok ((.aload_n 0), 1) := by decide +kernel
theorem dX11_must_1 : decode cX11_must 1 = .ok ((.getfield 197), 3) := by decide +kernel
theorem dX11_must_4 : decode cX11_must 4 = .ok ((.ifCond .le 4), 3) := by decide +kernel
theorem dX11_must_7 : decode cX11_must 7 = .ok (.return_, 1) := by decide +kernel
theorem dX11_must_8 : decode cX11_must 8 = .ok ((.iload_n 1), 1) := by decide +kernel
theorem dX11_must_9 : decode cX11_must 9 = .ok ((.ifCond .eq 10), 3) := by decide +kernel
theorem dX11_must_12 : decode cX11_must 12 = .ok ((.aload_n 0), 1) := by decide +kernel
theorem dX11_must_13 : decode cX11_must 13 = .ok ((.invokevirtual 207), 3) := by decide +kernel
theorem dX11_must_16 : decode cX11_must 16 = .ok ((.goto 7), 3) := by decide +kernel
theorem dX11_must_19 : decode cX11_must 19 = .ok ((.aload_n 0), 1) := by decide +kernel
theorem dX11_must_20 : decode cX11_must 20 = .ok ((.invokevirtual 210), 3) := by decide +kernel
theorem dX11_must_23 : decode cX11_must 23 = .ok (.return_, 1) := by decide +kernel
def p_X11_must   (S : vSt) (a1 : Bool) (post : vSt → Prop) : Prop := (((S.1 143 12) ≤ 0 → ((a1 = false → p_X11_amiss  S  (fun S3 => post S3)) ∧ (a1 = true → p_X11_advance  S  (fun S4 => post S4)))) ∧ (¬ (S.1 143 12) ≤ 0 → post S))
set_option maxHeartbeats 4000000 in
set_option maxRecDepth 100000 in
theorem c_X11_must (l : Launch) (G : vG)    {S : vSt} (a1 : Bool) (post : vSt → Prop) (h : p_X11_must   S a1 post) : Met l yX11_must (v_ws yX11_must cX11_must 2 none) (v_rm 2 82) (v_Pc G [.ref (G.1 143), .int (v_b a1)] S) (v_Qv G post) 0 0 (v_A G) := by
  refine v_start (by decide +kernel) (Nat.le_of_ble_eq_true rfl) (fun X hl C D => ?_)
  subst hl
  have C : v_Cx X G cX11_must RX11 2 (v_rm 2 82) := C
  show VJ X G S 0 [(0, .ref (G.1 143)), (1, .int (v_b a1))] []
  refine V_aload_n C 0 dX11_must_0 rfl rfl ?_
  refine V_gi C 143 (by decide) (by decide) F_11_12 k_RX11_197 dX11_must_1 ?_
  refine V_if_le (tgt := 8) C dX11_must_4 (by decide) (fun c => ?_) (fun c => ?_)
  · have h := h.1 c
    refine V_iload_n C 1 dX11_must_8 rfl rfl ?_
    refine V_ifb_eq (tgt := 19) C dX11_must_9 (by decide) (fun c => ?_) (fun c => ?_)
    · have h := h.1 c
      refine V_aload_n C 0 dX11_must_19 rfl rfl ?_
      refine V_callVv (As := []) (rest := []) C (c_X11_amiss (v_l X) G  _ h) 143 11 (by decide) (by decide) (by decide) rfl KV_X11_amiss k_RX11_210 rfl rfl rfl (Nat.le_of_ble_eq_true rfl) ⟨Nat.le_of_ble_eq_true rfl, Nat.le_of_ble_eq_true rfl⟩ dX11_must_20 (fun S3 h => ?_)
      exact V_vret C D dX11_must_23 h
    · have h := h.2 c
      refine V_aload_n C 0 dX11_must_12 rfl rfl ?_
      refine V_callVv (As := []) (rest := []) C (c_X11_advance (v_l X) G  _ h) 143 11 (by decide) (by decide) (by decide) rfl KV_X11_advance k_RX11_207 rfl rfl rfl (Nat.le_of_ble_eq_true rfl) ⟨Nat.le_of_ble_eq_true rfl, Nat.le_of_ble_eq_true rfl⟩ dX11_must_13 (fun S4 h => ?_)
      refine V_goto (tgt := 23) C dX11_must_16 (by decide) ?_
      exact V_vret C D dX11_must_23 h
  · have h := h.2 c
    exact V_vret C D dX11_must_7 h
/-! HalfAccuserModel.count(II)I -/
theorem dX11_count_0 : decode cX11_count 0 = .ok ((.aload_n 0), 1) := by decide +kernel
theorem dX11_count_1 : decode cX11_count 1 = .ok ((.getfield 197), 3) := by decide +kernel
theorem dX11_count_4 : decode cX11_count 4 = .ok ((.ifCond .ne 15), 3) := by decide +kernel
theorem dX11_count_7 : decode cX11_count 7 = .ok ((.aload_n 0), 1) := by decide +kernel
theorem dX11_count_8 : decode cX11_count 8 = .ok ((.getfield 115), 3) := by decide +kernel
theorem dX11_count_11 : decode cX11_count 11 = .ok ((.iconst 2), 1) := by decide +kernel
theorem dX11_count_12 : decode cX11_count 12 = .ok ((.if_icmp .eq 7), 3) := by decide +kernel
theorem dX11_count_15 : decode cX11_count 15 = .ok ((.aload_n 0), 1) := by decide +kernel
theorem dX11_count_16 : decode cX11_count 16 = .ok ((.invokevirtual 210), 3) := by decide +kernel
theorem dX11_count_19 : decode cX11_count 19 = .ok ((.aload_n 0), 1) := by decide +kernel
theorem dX11_count_20 : decode cX11_count 20 = .ok ((.getfield 197), 3) := by decide +kernel
theorem dX11_count_23 : decode cX11_count 23 = .ok ((.ifCond .ne 27), 3) := by decide +kernel
theorem dX11_count_26 : decode cX11_count 26 = .ok ((.aload_n 0), 1) := by decide +kernel
theorem dX11_count_27 : decode cX11_count 27 = .ok ((.getfield 134), 3) := by decide +kernel
theorem dX11_count_30 : decode cX11_count 30 = .ok (.i2l, 1) := by decide +kernel
theorem dX11_count_31 : decode cX11_count 31 = .ok ((.iload_n 1), 1) := by decide +kernel
theorem dX11_count_32 : decode cX11_count 32 = .ok (.i2l, 1) := by decide +kernel
theorem dX11_count_33 : decode cX11_count 33 = .ok ((.iload_n 2), 1) := by decide +kernel
theorem dX11_count_34 : decode cX11_count 34 = .ok (.i2l, 1) := by decide +kernel
theorem dX11_count_35 : decode cX11_count 35 = .ok ((.invokestatic 95), 3) := by decide +kernel
theorem dX11_count_38 : decode cX11_count 38 = .ok ((.ifCond .ne 12), 3) := by decide +kernel
theorem dX11_count_41 : decode cX11_count 41 = .ok ((.aload_n 0), 1) := by decide +kernel
theorem dX11_count_42 : decode cX11_count 42 = .ok ((.iconst 4), 1) := by decide +kernel
theorem dX11_count_43 : decode cX11_count 43 = .ok ((.aload_n 0), 1) := by decide +kernel
theorem dX11_count_44 : decode cX11_count 44 = .ok ((.getfield 109), 3) := by decide +kernel
theorem dX11_count_47 : decode cX11_count 47 = .ok ((.invokevirtual 203), 3) := by decide +kernel
theorem dX11_count_50 : decode cX11_count 50 = .ok ((.aload_n 0), 1) := by decide +kernel
theorem dX11_count_51 : decode cX11_count 51 = .ok ((.getfield 197), 3) := by decide +kernel
theorem dX11_count_54 : decode cX11_count 54 = .ok ((.ifCond .le 5), 3) := by decide +kernel
theorem dX11_count_57 : decode cX11_count 57 = .ok ((.iconst 0), 1) := by decide +kernel
theorem dX11_count_58 : decode cX11_count 58 = .ok (.ireturn, 1) := by decide +kernel
theorem dX11_count_59 : decode cX11_count 59 = .ok ((.aload_n 0), 1) := by decide +kernel
theorem dX11_count_60 : decode cX11_count 60 = .ok ((.getfield 134), 3) := by decide +kernel
theorem dX11_count_63 : decode cX11_count 63 = .ok ((.istore_n 3), 1) := by decide +kernel
theorem dX11_count_64 : decode cX11_count 64 = .ok ((.aload_n 0), 1) := by decide +kernel
theorem dX11_count_65 : decode cX11_count 65 = .ok ((.invokevirtual 207), 3) := by decide +kernel
theorem dX11_count_68 : decode cX11_count 68 = .ok ((.iload_n 3), 1) := by decide +kernel
theorem dX11_count_69 : decode cX11_count 69 = .ok (.ireturn, 1) := by decide +kernel
def p_X11_count_50  (a1 : Int32) (a2 : Int32)   (post : Int32 → vSt → Prop) (S : vSt)  : Prop := (((S.1 143 12) ≤ 0 → ∀ y7 : Int32, y7 = (S.1 143 17) → p_X11_advance  S  (fun S8 => post y7 S8)) ∧ (¬ (S.1 143 12) ≤ 0 → post 0 S))
def p_X11_count_19  (a1 : Int32) (a2 : Int32)   (post : Int32 → vSt → Prop) (S : vSt)  : Prop := ((¬ (S.1 143 12) = 0 → p_X11_count_50 a1 a2 post S ) ∧ ((S.1 143 12) = 0 → p_X11_isIn  S (Int32.toInt64 (S.1 143 17)) (Int32.toInt64 a1) (Int32.toInt64 a2) (fun r8 S7 => ((r8 = true → p_X11_count_50 a1 a2 post S7 ) ∧ (r8 = false → p_X11_fail  S7 4 (S7.1 143 15) (fun S9 => p_X11_count_50 a1 a2 post S9 ))))))
def p_X11_count   (S : vSt) (a1 : Int32) (a2 : Int32) (post : Int32 → vSt → Prop) : Prop := ((¬ (S.1 143 12) = 0 → p_X11_count_19 a1 a2 post S ) ∧ ((S.1 143 12) = 0 → (((S.1 143 14) = 2 → p_X11_count_19 a1 a2 post S ) ∧ (¬ (S.1 143 14) = 2 → p_X11_amiss  S  (fun S7 => p_X11_count_19 a1 a2 post S7 )))))
set_option maxHeartbeats 4000000 in
set_option maxRecDepth 100000 in
theorem q_X11_count_50 {X : vX} {G : vG}  {post : Int32 → vSt → Prop} (C : v_Cx X G cX11_count RX11 4 (v_rm 2 82)) (D : v_Rx X G (v_Qi G post) (some .int))  {a1 : Int32} {a2 : Int32}   : ∀ (S : vSt), p_X11_count_50 a1 a2 post S  → VJ X G S 50 [(0, .ref (G.1 143))] [] := by
  intro S  h
  refine V_aload_n C 0 dX11_count_50 rfl rfl ?_
  refine V_gi C 143 (by decide) (by decide) F_11_12 k_RX11_197 dX11_count_51 ?_
  refine V_if_le (tgt := 59) C dX11_count_54 (by decide) (fun c => ?_) (fun c => ?_)
  · have h := h.1 c
    refine V_aload_n C 0 dX11_count_59 rfl rfl ?_
    refine V_gi C 143 (by decide) (by decide) F_11_17 k_RX11_134 dX11_count_60 ?_
    refine V_topi (fun y7 ey7 => ?_)
    have h := h y7 ey7
    refine V_istore_n (lv' := [(0, .ref (G.1 143)), (3, .int y7)]) C [1, 0] dX11_count_63 rfl (by decide) rfl ?_
    refine V_aload_n C 0 dX11_count_64 rfl rfl ?_
    refine V_callVv (As := []) (rest := []) C (c_X11_advance (v_l X) G  _ h) 143 11 (by decide) (by decide) (by decide) rfl KV_X11_advance k_RX11_207 rfl rfl rfl (Nat.le_of_ble_eq_true rfl) ⟨Nat.le_of_ble_eq_true rfl, Nat.le_of_ble_eq_true rfl⟩ dX11_count_65 (fun S8 h => ?_)
    refine V_iload_n C 1 dX11_count_68 rfl rfl ?_
    exact V_iret C D dX11_count_69 h
  · have h := h.2 c
    refine V_iconst (v := 0) C dX11_count_57 (by decide) ?_
    exact V_iret C D dX11_count_58 h
set_option maxHeartbeats 4000000 in
set_option maxRecDepth 100000 in
theorem q_X11_count_19 {X : vX} {G : vG}  {post : Int32 → vSt → Prop} (C : v_Cx X G cX11_count RX11 4 (v_rm 2 82)) (D : v_Rx X G (v_Qi G post) (some .int))  {a1 : Int32} {a2 : Int32}   : ∀ (S : vSt), p_X11_count_19 a1 a2 post S  → VJ X G S 19 [(0, .ref (G.1 143)), (1, .int a1), (2, .int a2)] [] := by
  intro S  h
  refine V_aload_n C 0 dX11_count_19 rfl rfl ?_
  refine V_gi C 143 (by decide) (by decide) F_11_12 k_RX11_197 dX11_count_20 ?_
  refine V_if_ne (tgt := 50) C dX11_count_23 (by decide) (fun c => ?_) (fun c => ?_)
  · have h := h.1 c
    refine V_loc (lv' := [(0, .ref (G.1 143))]) [0] rfl ?_
    exact q_X11_count_50 C D  _ h
  · have h := h.2 c
    refine V_aload_n C 0 dX11_count_26 rfl rfl ?_
    refine V_gi C 143 (by decide) (by decide) F_11_17 k_RX11_134 dX11_count_27 ?_
    refine V_i2l C dX11_count_30 ?_
    refine V_iload_n C 1 dX11_count_31 rfl rfl ?_
    refine V_i2l C dX11_count_32 ?_
    refine V_iload_n C 2 dX11_count_33 rfl rfl ?_
    refine V_i2l C dX11_count_34 ?_
    refine V_callSz (As := [.long (Int32.toInt64 (S.1 143 17)), .long (Int32.toInt64 a1), .long (Int32.toInt64 a2)]) (rest := []) C (c_X11_isIn (v_l X) G  _ _ _ _ h) KV_X11_isIn k_RX11_95 rfl rfl rfl (Nat.le_of_ble_eq_true rfl) ⟨Nat.le_of_ble_eq_true rfl, Nat.le_of_ble_eq_true rfl⟩ dX11_count_35 (fun r8 S7 h => ?_)
    refine V_ifb_ne (tgt := 50) C dX11_count_38 (by decide) (fun c => ?_) (fun c => ?_)
    · have h := h.1 c
      refine V_loc (lv' := [(0, .ref (G.1 143))]) [0] rfl ?_
      exact q_X11_count_50 C D  _ h
    · have h := h.2 c
      refine V_aload_n C 0 dX11_count_41 rfl rfl ?_
      refine V_iconst (v := 4) C dX11_count_42 (by decide) ?_
      refine V_aload_n C 0 dX11_count_43 rfl rfl ?_
      refine V_gi C 143 (by decide) (by decide) F_11_15 k_RX11_109 dX11_count_44 ?_
      refine V_callVv (As := [.int 4, .int (S7.1 143 15)]) (rest := []) C (c_X11_fail (v_l X) G  _ _ _ h) 143 11 (by decide) (by decide) (by decide) rfl KV_X11_fail k_RX11_203 rfl rfl rfl (Nat.le_of_ble_eq_true rfl) ⟨Nat.le_of_ble_eq_true rfl, Nat.le_of_ble_eq_true rfl⟩ dX11_count_47 (fun S9 h => ?_)
      refine V_loc (lv' := [(0, .ref (G.1 143))]) [0] rfl ?_
      exact q_X11_count_50 C D  _ h
set_option maxHeartbeats 4000000 in
set_option maxRecDepth 100000 in
theorem c_X11_count (l : Launch) (G : vG)    {S : vSt} (a1 : Int32) (a2 : Int32) (post : Int32 → vSt → Prop) (h : p_X11_count   S a1 a2 post) : Met l yX11_count (v_ws yX11_count cX11_count 4 (some .int)) (v_rm 2 82) (v_Pc G [.ref (G.1 143), .int a1, .int a2] S) (v_Qi G post) 0 0 (v_A G) := by
  refine v_start (by decide +kernel) (Nat.le_of_ble_eq_true rfl) (fun X hl C D => ?_)
  subst hl
  have C : v_Cx X G cX11_count RX11 4 (v_rm 2 82) := C
  show VJ X G S 0 [(0, .ref (G.1 143)), (1, .int a1), (2, .int a2)] []
  refine V_aload_n C 0 dX11_count_0 rfl rfl ?_
  refine V_gi C 143 (by decide) (by decide) F_11_12 k_RX11_197 dX11_count_1 ?_
  refine V_if_ne (tgt := 19) C dX11_count_4 (by decide) (fun c => ?_) (fun c => ?_)
  · have h := h.1 c
    exact q_X11_count_19 C D  _ h
  · have h := h.2 c
    refine V_aload_n C 0 dX11_count_7 rfl rfl ?_
    refine V_gi C 143 (by decide) (by decide) F_11_14 k_RX11_115 dX11_count_8 ?_
    refine V_iconst (v := 2) C dX11_count_11 (by decide) ?_
    refine V_icmp_eq (tgt := 19) C dX11_count_12 (by decide) (fun c => ?_) (fun c => ?_)
    · have h := h.1 c
      exact q_X11_count_19 C D  _ h
    · have h := h.2 c
      refine V_aload_n C 0 dX11_count_15 rfl rfl ?_
      refine V_callVv (As := []) (rest := []) C (c_X11_amiss (v_l X) G  _ h) 143 11 (by decide) (by decide) (by decide) rfl KV_X11_amiss k_RX11_210 rfl rfl rfl (Nat.le_of_ble_eq_true rfl) ⟨Nat.le_of_ble_eq_true rfl, Nat.le_of_ble_eq_true rfl⟩ dX11_count_16 (fun S7 h => ?_)
      exact q_X11_count_19 C D  _ h
/-! HalfAccuserModel.behindWord(ZII)I -/
theorem dX11_behindWord_0 : decode cX11_behindWord 0 = .ok ((.aload_n 0), 1) := by decide +kernel
theorem dX11_behindWord_1 : decode cX11_behindWord 1 = .ok ((.iload_n 1), 1) := by decide +kernel
theorem dX11_behindWord_2 : decode cX11_behindWord 2 = .ok ((.invokevirtual 213), 3) := by decide +kernel
theorem dX11_behindWord_5 : decode cX11_behindWord 5 = .ok ((.aload_n 0), 1) := by decide +kernel
theorem dX11_behindWord_6 : decode cX11_behindWord 6 = .ok ((.iload_n 2), 1) := by decide +kernel
theorem dX11_behindWord_7 : decode cX11_behindWord 7 = .ok ((.iload_n 3), 1) := by decide +kernel
theorem dX11_behindWord_8 : decode cX11_behindWord 8 = .ok ((.invokevirtual 217), 3) := by decide +kernel
theorem dX11_behindWord_11 : decode cX11_behindWord 11 = .ok (.ireturn, 1) := by decide +kernel
def p_X11_behindWord   (S : vSt) (a1 : Bool) (a2 : Int32) (a3 : Int32) (post : Int32 → vSt → Prop) : Prop := p_X11_must  S a1 (fun S4 => p_X11_count  S4 a2 a3 (fun r6 S5 => post r6 S5))
set_option maxHeartbeats 4000000 in
set_option maxRecDepth 100000 in
theorem c_X11_behindWord (l : Launch) (G : vG)    {S : vSt} (a1 : Bool) (a2 : Int32) (a3 : Int32) (post : Int32 → vSt → Prop) (h : p_X11_behindWord   S a1 a2 a3 post) : Met l yX11_behindWord (v_ws yX11_behindWord cX11_behindWord 4 (some .int)) (v_rm 3 105) (v_Pc G [.ref (G.1 143), .int (v_b a1), .int a2, .int a3] S) (v_Qi G post) 0 0 (v_A G) := by
  refine v_start (by decide +kernel) (Nat.le_of_ble_eq_true rfl) (fun X hl C D => ?_)
  subst hl
  have C : v_Cx X G cX11_behindWord RX11 4 (v_rm 3 105) := C
  show VJ X G S 0 [(0, .ref (G.1 143)), (1, .int (v_b a1)), (2, .int a2), (3, .int a3)] []
  refine V_aload_n C 0 dX11_behindWord_0 rfl rfl ?_
  refine V_iload_n C 1 dX11_behindWord_1 rfl rfl ?_
  refine V_callVv (As := [.int (v_b a1)]) (rest := []) C (c_X11_must (v_l X) G  _ _ h) 143 11 (by decide) (by decide) (by decide) rfl KV_X11_must k_RX11_213 rfl rfl rfl (Nat.le_of_ble_eq_true rfl) ⟨Nat.le_of_ble_eq_true rfl, Nat.le_of_ble_eq_true rfl⟩ dX11_behindWord_2 (fun S4 h => ?_)
  refine V_aload_n C 0 dX11_behindWord_5 rfl rfl ?_
  refine V_iload_n C 2 dX11_behindWord_6 rfl rfl ?_
  refine V_iload_n C 3 dX11_behindWord_7 rfl rfl ?_
  refine V_callVi (As := [.int a2, .int a3]) (rest := []) C (c_X11_count (v_l X) G  _ _ _ h) 143 11 (by decide) (by decide) (by decide) rfl KV_X11_count k_RX11_217 rfl rfl rfl (Nat.le_of_ble_eq_true rfl) ⟨Nat.le_of_ble_eq_true rfl, Nat.le_of_ble_eq_true rfl⟩ dX11_behindWord_8 (fun r6 S5 h => ?_)
  exact V_iret C D dX11_behindWord_11 h
/-! HalfAccuserModel.perhaps(Z)Z -/
theorem dX11_perhaps_0 : decode cX11_perhaps 0 = .ok ((.aload_n 0), 1) := by decide +kernel
theorem dX11_perhaps_1 : decode cX11_perhaps 1 = .ok ((.getfield 197), 3) := by decide +kernel
theorem dX11_perhaps_4 : decode cX11_perhaps 4 = .ok ((.ifCond .gt 7), 3) := by decide +kernel
theorem dX11_perhaps_7 : decode cX11_perhaps 7 = .ok ((.iload_n 1), 1) := by decide +kernel
theorem dX11_perhaps_8 : decode cX11_perhaps 8 = .ok ((.ifCond .ne 5), 3) := by decide +kernel
theorem dX11_perhaps_11 : decode cX11_perhaps 11 = .ok ((.iconst 0), 1) := by decide +kernel
theorem dX11_perhaps_12 : decode cX11_perhaps 12 = .ok (.ireturn, 1) := by decide +kernel
theorem dX11_perhaps_13 : decode cX11_perhaps 13 = .ok ((.aload_n 0), 1) := by decide +kernel
theorem dX11_perhaps_14 : decode cX11_perhaps 14 = .ok ((.invokevirtual 207), 3) := by decide +kernel
theorem dX11_perhaps_17 : decode cX11_perhaps 17 = .ok ((.iconst 1), 1) := by decide +kernel
theorem dX11_perhaps_18 : decode cX11_perhaps 18 = .ok (.ireturn, 1) := by decide +kernel
def p_X11_perhaps   (S : vSt) (a1 : Bool) (post : Bool → vSt → Prop) : Prop := ((0 < (S.1 143 12) → post false S) ∧ (¬ 0 < (S.1 143 12) → ((a1 = true → p_X11_advance  S  (fun S2 => post true S2)) ∧ (a1 = false → post false S))))
set_option maxHeartbeats 4000000 in
set_option maxRecDepth 100000 in
theorem c_X11_perhaps (l : Launch) (G : vG)    {S : vSt} (a1 : Bool) (post : Bool → vSt → Prop) (h : p_X11_perhaps   S a1 post) : Met l yX11_perhaps (v_ws yX11_perhaps cX11_perhaps 2 (some .boolean)) (v_rm 2 82) (v_Pc G [.ref (G.1 143), .int (v_b a1)] S) (v_Qz G post) 0 0 (v_A G) := by
  refine v_start (by decide +kernel) (Nat.le_of_ble_eq_true rfl) (fun X hl C D => ?_)
  subst hl
  have C : v_Cx X G cX11_perhaps RX11 2 (v_rm 2 82) := C
  show VJ X G S 0 [(0, .ref (G.1 143)), (1, .int (v_b a1))] []
  refine V_aload_n C 0 dX11_perhaps_0 rfl rfl ?_
  refine V_gi C 143 (by decide) (by decide) F_11_12 k_RX11_197 dX11_perhaps_1 ?_
  refine V_if_gt (tgt := 11) C dX11_perhaps_4 (by decide) (fun c => ?_) (fun c => ?_)
  · have h := h.1 c
    refine V_iconst (v := 0) C dX11_perhaps_11 (by decide) ?_
    exact V_zret0 C D dX11_perhaps_12 h
  · have h := h.2 c
    refine V_iload_n C 1 dX11_perhaps_7 rfl rfl ?_
    refine V_ifb_ne (tgt := 13) C dX11_perhaps_8 (by decide) (fun c => ?_) (fun c => ?_)
    · have h := h.1 c
      refine V_aload_n C 0 dX11_perhaps_13 rfl rfl ?_
      refine V_callVv (As := []) (rest := []) C (c_X11_advance (v_l X) G  _ h) 143 11 (by decide) (by decide) (by decide) rfl KV_X11_advance k_RX11_207 rfl rfl rfl (Nat.le_of_ble_eq_true rfl) ⟨Nat.le_of_ble_eq_true rfl, Nat.le_of_ble_eq_true rfl⟩ dX11_perhaps_14 (fun S2 h => ?_)
      refine V_iconst (v := 1) C dX11_perhaps_17 (by decide) ?_
      exact V_zret1 C D dX11_perhaps_18 h
    · have h := h.2 c
      refine V_iconst (v := 0) C dX11_perhaps_11 (by decide) ?_
      exact V_zret0 C D dX11_perhaps_12 h
/-! HalfAccuserModel.lay(I)V -/
theorem dX11_lay_0 : decode cX11_lay 0 = .ok ((.iconst 3), 1) := by decide +kernel
theorem dX11_lay_1 : decode cX11_lay 1 = .ok ((.istore_n 2), 1) := by decide +kernel
theorem dX11_lay_2 : decode cX11_lay 2 = .ok ((.iload_n 2), 1) := by decide +kernel
theorem dX11_lay_3 : decode cX11_lay 3 = .ok ((.ifCond .lt 35), 3) := by decide +kernel
theorem dX11_lay_6 : decode cX11_lay 6 = .ok ((.aload_n 0), 1) := by decide +kernel
theorem dX11_lay_7 : decode cX11_lay 7 = .ok ((.getfield 24), 3) := by decide +kernel
theorem dX11_lay_10 : decode cX11_lay 10 = .ok ((.aload_n 0), 1) := by decide +kernel
theorem dX11_lay_11 : decode cX11_lay 11 = .ok ((.getfield 220), 3) := by decide +kernel
theorem dX11_lay_14 : decode cX11_lay 14 = .ok ((.iload_n 1), 1) := by decide +kernel
theorem dX11_lay_15 : decode cX11_lay 15 = .ok ((.bipush 8), 2) := by decide +kernel
theorem dX11_lay_17 : decode cX11_lay 17 = .ok ((.iload_n 2), 1) := by decide +kernel
theorem dX11_lay_18 : decode cX11_lay 18 = .ok (.imul, 1) := by decide +kernel
theorem dX11_lay_19 : decode cX11_lay 19 = .ok (.ishr, 1) := by decide +kernel
theorem dX11_lay_20 : decode cX11_lay 20 = .ok (.i2b, 1) := by decide +kernel
theorem dX11_lay_21 : decode cX11_lay 21 = .ok (.bastore, 1) := by decide +kernel
theorem dX11_lay_22 : decode cX11_lay 22 = .ok ((.aload_n 0), 1) := by decide +kernel
theorem dX11_lay_23 : decode cX11_lay 23 = .ok (.dup, 1) := by decide +kernel
theorem dX11_lay_24 : decode cX11_lay 24 = .ok ((.getfield 220), 3) := by decide +kernel
theorem dX11_lay_27 : decode cX11_lay 27 = .ok ((.iconst 1), 1) := by decide +kernel
theorem dX11_lay_28 : decode cX11_lay 28 = .ok (.iadd, 1) := by decide +kernel
theorem dX11_lay_29 : decode cX11_lay 29 = .ok ((.putfield 220), 3) := by decide +kernel
theorem dX11_lay_32 : decode cX11_lay 32 = .ok ((.iinc 2 (-1)), 3) := by decide +kernel
theorem dX11_lay_35 : decode cX11_lay 35 = .ok ((.goto (-33)), 3) := by decide +kernel
theorem dX11_lay_38 : decode cX11_lay 38 = .ok (.return_, 1) := by decide +kernel
def p_X11_lay_2  (a1 : Int32)   (post : vSt → Prop) : Nat → vSt → Int32 → Prop
  | 0 => fun _ _ => False
  | fu2 + 1 => fun S x2 => ((x2 < 0 → post S) ∧ (¬ x2 < 0 → (vp_in (S.1 143 8) 900 ∧ ∀ S7, S7 = v_si S 147 (Int32.toNatClampNeg (S.1 143 8)) (vp_nar .byte ((Int32.toInt8 (a1 >>> ((8 * x2) &&& 31))).toInt32)) → ∀ S8, S8 = v_si S7 143 8 ((S7.1 143 8) + 1) → ∀ y9 : Int32, y9 = x2 + (-1) → (p_X11_lay_2 a1 post fu2) S8 y9)))
theorem e_X11_lay_2  (a1 : Int32)   (post : vSt → Prop) (fu2 : Nat) (S : vSt) (x2 : Int32) : p_X11_lay_2 a1 post (fu2 + 1) S x2 = (((x2 < 0 → post S) ∧ (¬ x2 < 0 → (vp_in (S.1 143 8) 900 ∧ ∀ S7, S7 = v_si S 147 (Int32.toNatClampNeg (S.1 143 8)) (vp_nar .byte ((Int32.toInt8 (a1 >>> ((8 * x2) &&& 31))).toInt32)) → ∀ S8, S8 = v_si S7 143 8 ((S7.1 143 8) + 1) → ∀ y9 : Int32, y9 = x2 + (-1) → (p_X11_lay_2 a1 post fu2) S8 y9)))) := rfl
def p_X11_lay   (S : vSt) (a1 : Int32) (post : vSt → Prop) : Prop := ∃ fu2, p_X11_lay_2 a1 post fu2 S 3
set_option maxHeartbeats 4000000 in
set_option maxRecDepth 100000 in
theorem q_X11_lay_2 {X : vX} {G : vG}  {post : vSt → Prop} (C : v_Cx X G cX11_lay RX11 3 (v_rm 0 40)) (D : v_Rx X G (v_Qv G post) none)  {a1 : Int32}   : ∀ (fu : Nat) (S : vSt) (x2 : Int32), p_X11_lay_2 a1 post fu S x2 → VJ X G S 2 [(0, .ref (G.1 143)), (1, .int a1), (2, .int x2)] [] := by
  intro fu
  induction fu with
  | zero => intro S x2 h; exact absurd h id
  | succ fu ih =>
    intro S x2 h
    have hK2 := ih
    rw [e_X11_lay_2] at h
    refine V_iload_n C 2 dX11_lay_2 rfl rfl ?_
    refine V_if_lt (tgt := 38) C dX11_lay_3 (by decide) (fun c => ?_) (fun c => ?_)
    · have h := h.1 c
      exact V_vret C D dX11_lay_38 h
    · have h := h.2 c
      refine V_aload_n C 0 dX11_lay_6 rfl rfl ?_
      refine V_ga C 143 (by decide) (by decide) F_11_7 k_RX11_24 dX11_lay_7 ?_
      refine V_aload_n C 0 dX11_lay_10 rfl rfl ?_
      refine V_gi C 143 (by decide) (by decide) F_11_8 k_RX11_220 dX11_lay_11 ?_
      refine V_iload_n C 1 dX11_lay_14 rfl rfl ?_
      refine V_bipush (v := 8) C dX11_lay_15 (by decide) ?_
      refine V_iload_n C 2 dX11_lay_17 rfl rfl ?_
      refine V_imul C dX11_lay_18 ?_
      refine V_ishr C dX11_lay_19 ?_
      refine V_i2b C dX11_lay_20 ?_
      obtain ⟨hi, h⟩ := h
      refine V_bast C 147 900 (by decide) (by decide) hi dX11_lay_21 ?_
      refine V_topS (fun S7 eS7 => ?_)
      have h := h S7 eS7
      refine V_aload_n C 0 dX11_lay_22 rfl rfl ?_
      refine V_dup C dX11_lay_23 rfl ?_
      refine V_gi C 143 (by decide) (by decide) F_11_8 k_RX11_220 dX11_lay_24 ?_
      refine V_iconst (v := 1) C dX11_lay_27 (by decide) ?_
      refine V_iadd C dX11_lay_28 ?_
      refine V_pi C 143 (by decide) (by decide) P_11_8 k_RX11_220 dX11_lay_29 ?_
      refine V_topS (fun S8 eS8 => ?_)
      have h := h S8 eS8
      obtain ⟨y9, ey9⟩ : ∃ z : Int32, z = x2 + (-1) := ⟨_, rfl⟩
      have h := h y9 ey9
      refine V_iinc (lv' := [(0, .ref (G.1 143)), (1, .int a1), (2, .int y9)]) C 2 [1, 2, 0] y9 dX11_lay_32 rfl (by rw [ey9]; rfl) (by decide) rfl ?_
      refine V_goto (tgt := 2) C dX11_lay_35 (by decide) ?_
      exact hK2 _ _ h
set_option maxHeartbeats 4000000 in
set_option maxRecDepth 100000 in
theorem c_X11_lay (l : Launch) (G : vG)    {S : vSt} (a1 : Int32) (post : vSt → Prop) (h : p_X11_lay   S a1 post) : Met l yX11_lay (v_ws yX11_lay cX11_lay 3 none) (v_rm 0 40) (v_Pc G [.ref (G.1 143), .int a1] S) (v_Qv G post) 0 0 (v_A G) := by
  refine v_start (by decide +kernel) (Nat.le_of_ble_eq_true rfl) (fun X hl C D => ?_)
  subst hl
  have C : v_Cx X G cX11_lay RX11 3 (v_rm 0 40) := C
  show VJ X G S 0 [(0, .ref (G.1 143)), (1, .int a1)] []
  refine V_iconst (v := 3) C dX11_lay_0 (by decide) ?_
  refine V_istore_n (lv' := [(0, .ref (G.1 143)), (1, .int a1), (2, .int 3)]) C [1, 2, 0] dX11_lay_1 rfl (by decide) rfl ?_
  obtain ⟨fu2, h⟩ := h
  exact q_X11_lay_2 C D  fu2 _ _ h
/-! HalfAccuserModel.feed(IIIII)I -/
theorem dX11_feed_0 : decode cX11_feed 0 = .ok ((.aload_n 0), 1) := by decide +kernel
theorem dX11_feed_1 : decode cX11_feed 1 = .ok ((.iconst 0), 1) := by decide +kernel
theorem dX11_feed_2 : decode cX11_feed 2 = .ok ((.putfield 60), 3) := by decide +kernel
theorem dX11_feed_5 : decode cX11_feed 5 = .ok ((.aload_n 0), 1) := by decide +kernel
theorem dX11_feed_6 : decode cX11_feed 6 = .ok ((.getfield 220), 3) := by decide +kernel
theorem dX11_feed_9 : decode cX11_feed 9 = .ok ((.bipush 20), 2) := by decide +kernel
theorem dX11_feed_11 : decode cX11_feed 11 = .ok (.iadd, 1) := by decide +kernel
theorem dX11_feed_12 : decode cX11_feed 12 = .ok ((.sipush 900), 3) := by decide +kernel
theorem dX11_feed_15 : decode cX11_feed 15 = .ok ((.if_icmp .le 5), 3) := by decide +kernel
theorem dX11_feed_18 : decode cX11_feed 18 = .ok ((.iconst (-1)), 1) := by decide +kernel
theorem dX11_feed_19 : decode cX11_feed 19 = .ok (.ireturn, 1) := by decide +kernel
theorem dX11_feed_20 : decode cX11_feed 20 = .ok ((.aload_n 0), 1) := by decide +kernel
theorem dX11_feed_21 : decode cX11_feed 21 = .ok ((.iload_n 1), 1) := by decide +kernel
theorem dX11_feed_22 : decode cX11_feed 22 = .ok ((.invokevirtual 223), 3) := by decide +kernel
theorem dX11_feed_25 : decode cX11_feed 25 = .ok ((.aload_n 0), 1) := by decide +kernel
theorem dX11_feed_26 : decode cX11_feed 26 = .ok ((.iload_n 2), 1) := by decide +kernel
theorem dX11_feed_27 : decode cX11_feed 27 = .ok ((.invokevirtual 223), 3) := by decide +kernel
theorem dX11_feed_30 : decode cX11_feed 30 = .ok ((.aload_n 0), 1) := by decide +kernel
theorem dX11_feed_31 : decode cX11_feed 31 = .ok ((.iload_n 3), 1) := by decide +kernel
theorem dX11_feed_32 : decode cX11_feed 32 = .ok ((.invokevirtual 223), 3) := by decide +kernel
theorem dX11_feed_35 : decode cX11_feed 35 = .ok ((.aload_n 0), 1) := by decide +kernel
theorem dX11_feed_36 : decode cX11_feed 36 = .ok ((.iload 4), 2) := by decide +kernel
theorem dX11_feed_38 : decode cX11_feed 38 = .ok ((.invokevirtual 223), 3) := by decide +kernel
theorem dX11_feed_41 : decode cX11_feed 41 = .ok ((.aload_n 0), 1) := by decide +kernel
theorem dX11_feed_42 : decode cX11_feed 42 = .ok ((.iload 5), 2) := by decide +kernel
theorem dX11_feed_44 : decode cX11_feed 44 = .ok ((.invokevirtual 223), 3) := by decide +kernel
theorem dX11_feed_47 : decode cX11_feed 47 = .ok ((.aload_n 0), 1) := by decide +kernel
theorem dX11_feed_48 : decode cX11_feed 48 = .ok ((.getfield 220), 3) := by decide +kernel
theorem dX11_feed_51 : decode cX11_feed 51 = .ok (.ireturn, 1) := by decide +kernel
def p_X11_feed   (S : vSt) (a1 : Int32) (a2 : Int32) (a3 : Int32) (a4 : Int32) (a5 : Int32) (post : Int32 → vSt → Prop) : Prop := ∀ S7, S7 = v_si S 143 1 0 → ((((S7.1 143 8) + 20) ≤ 900 → p_X11_lay  S7 a1 (fun S8 => p_X11_lay  S8 a2 (fun S9 => p_X11_lay  S9 a3 (fun S10 => p_X11_lay  S10 a4 (fun S11 => p_X11_lay  S11 a5 (fun S12 => post (S12.1 143 8) S12)))))) ∧ (¬ ((S7.1 143 8) + 20) ≤ 900 → post (-1) S7))
set_option maxHeartbeats 4000000 in
set_option maxRecDepth 100000 in
theorem c_X11_feed (l : Launch) (G : vG)    {S : vSt} (a1 : Int32) (a2 : Int32) (a3 : Int32) (a4 : Int32) (a5 : Int32) (post : Int32 → vSt → Prop) (h : p_X11_feed   S a1 a2 a3 a4 a5 post) : Met l yX11_feed (v_ws yX11_feed cX11_feed 6 (some .int)) (v_rm 1 62) (v_Pc G [.ref (G.1 143), .int a1, .int a2, .int a3, .int a4, .int a5] S) (v_Qi G post) 0 0 (v_A G) := by
  refine v_start (by decide +kernel) (Nat.le_of_ble_eq_true rfl) (fun X hl C D => ?_)
  subst hl
  have C : v_Cx X G cX11_feed RX11 6 (v_rm 1 62) := C
  show VJ X G S 0 [(0, .ref (G.1 143)), (1, .int a1), (2, .int a2), (3, .int a3), (4, .int a4), (5, .int a5)] []
  refine V_aload_n C 0 dX11_feed_0 rfl rfl ?_
  refine V_iconst (v := 0) C dX11_feed_1 (by decide) ?_
  refine V_pi C 143 (by decide) (by decide) P_11_1 k_RX11_60 dX11_feed_2 ?_
  refine V_topS (fun S7 eS7 => ?_)
  have h := h S7 eS7
  refine V_aload_n C 0 dX11_feed_5 rfl rfl ?_
  refine V_gi C 143 (by decide) (by decide) F_11_8 k_RX11_220 dX11_feed_6 ?_
  refine V_bipush (v := 20) C dX11_feed_9 (by decide) ?_
  refine V_iadd C dX11_feed_11 ?_
  refine V_sipush (v := 900) C dX11_feed_12 (by decide) ?_
  refine V_icmp_le (tgt := 20) C dX11_feed_15 (by decide) (fun c => ?_) (fun c => ?_)
  · have h := h.1 c
    refine V_aload_n C 0 dX11_feed_20 rfl rfl ?_
    refine V_iload_n C 1 dX11_feed_21 rfl rfl ?_
    refine V_callVv (As := [.int a1]) (rest := []) C (c_X11_lay (v_l X) G  _ _ h) 143 11 (by decide) (by decide) (by decide) rfl KV_X11_lay k_RX11_223 rfl rfl rfl (Nat.le_of_ble_eq_true rfl) ⟨Nat.le_of_ble_eq_true rfl, Nat.le_of_ble_eq_true rfl⟩ dX11_feed_22 (fun S8 h => ?_)
    refine V_aload_n C 0 dX11_feed_25 rfl rfl ?_
    refine V_iload_n C 2 dX11_feed_26 rfl rfl ?_
    refine V_callVv (As := [.int a2]) (rest := []) C (c_X11_lay (v_l X) G  _ _ h) 143 11 (by decide) (by decide) (by decide) rfl KV_X11_lay k_RX11_223 rfl rfl rfl (Nat.le_of_ble_eq_true rfl) ⟨Nat.le_of_ble_eq_true rfl, Nat.le_of_ble_eq_true rfl⟩ dX11_feed_27 (fun S9 h => ?_)
    refine V_aload_n C 0 dX11_feed_30 rfl rfl ?_
    refine V_iload_n C 3 dX11_feed_31 rfl rfl ?_
    refine V_callVv (As := [.int a3]) (rest := []) C (c_X11_lay (v_l X) G  _ _ h) 143 11 (by decide) (by decide) (by decide) rfl KV_X11_lay k_RX11_223 rfl rfl rfl (Nat.le_of_ble_eq_true rfl) ⟨Nat.le_of_ble_eq_true rfl, Nat.le_of_ble_eq_true rfl⟩ dX11_feed_32 (fun S10 h => ?_)
    refine V_aload_n C 0 dX11_feed_35 rfl rfl ?_
    refine V_iload C 4 dX11_feed_36 rfl ?_
    refine V_callVv (As := [.int a4]) (rest := []) C (c_X11_lay (v_l X) G  _ _ h) 143 11 (by decide) (by decide) (by decide) rfl KV_X11_lay k_RX11_223 rfl rfl rfl (Nat.le_of_ble_eq_true rfl) ⟨Nat.le_of_ble_eq_true rfl, Nat.le_of_ble_eq_true rfl⟩ dX11_feed_38 (fun S11 h => ?_)
    refine V_aload_n C 0 dX11_feed_41 rfl rfl ?_
    refine V_iload C 5 dX11_feed_42 rfl ?_
    refine V_callVv (As := [.int a5]) (rest := []) C (c_X11_lay (v_l X) G  _ _ h) 143 11 (by decide) (by decide) (by decide) rfl KV_X11_lay k_RX11_223 rfl rfl rfl (Nat.le_of_ble_eq_true rfl) ⟨Nat.le_of_ble_eq_true rfl, Nat.le_of_ble_eq_true rfl⟩ dX11_feed_44 (fun S12 h => ?_)
    refine V_aload_n C 0 dX11_feed_47 rfl rfl ?_
    refine V_gi C 143 (by decide) (by decide) F_11_8 k_RX11_220 dX11_feed_48 ?_
    exact V_iret C D dX11_feed_51 h
  · have h := h.2 c
    refine V_iconst (v := (-1)) C dX11_feed_18 (by decide) ?_
    exact V_iret C D dX11_feed_19 h
/-! HalfAccuserModel.starts(II)Z -/
theorem dX11_starts_0 : decode cX11_starts 0 = .ok ((.iload_n 1), 1) := by decide +kernel
theorem dX11_starts_1 : decode cX11_starts 1 = .ok ((.ifCond .lt 16), 3) := by decide +kernel
theorem dX11_starts_4 : decode cX11_starts 4 = .ok ((.iload_n 1), 1) := by decide +kernel
theorem dX11_starts_5 : decode cX11_starts 5 = .ok ((.aload_n 0), 1) := by decide +kernel
theorem dX11_starts_6 : decode cX11_starts 6 = .ok ((.getfield 220), 3) := by decide +kernel
theorem dX11_starts_9 : decode cX11_starts 9 = .ok ((.if_icmp .gt 8), 3) := by decide +kernel
theorem dX11_starts_12 : decode cX11_starts 12 = .ok ((.iload_n 1), 1) := by decide +kernel
theorem dX11_starts_13 : decode cX11_starts 13 = .ok ((.iload_n 2), 1) := by decide +kernel
theorem dX11_starts_14 : decode cX11_starts 14 = .ok ((.if_icmp .le 9), 3) := by decide +kernel
theorem dX11_starts_17 : decode cX11_starts 17 = .ok ((.aload_n 0), 1) := by decide +kernel
theorem dX11_starts_18 : decode cX11_starts 18 = .ok ((.iconst 5), 1) := by decide +kernel
theorem dX11_starts_19 : decode cX11_starts 19 = .ok ((.invokevirtual 75), 3) := by decide +kernel
theorem dX11_starts_22 : decode cX11_starts 22 = .ok (.ireturn, 1) := by decide +kernel
theorem dX11_starts_23 : decode cX11_starts 23 = .ok ((.aload_n 0), 1) := by decide +kernel
theorem dX11_starts_24 : decode cX11_starts 24 = .ok ((.iload_n 1), 1) := by decide +kernel
theorem dX11_starts_25 : decode cX11_starts 25 = .ok ((.putfield 103), 3) := by decide +kernel
theorem dX11_starts_28 : decode cX11_starts 28 = .ok ((.aload_n 0), 1) := by decide +kernel
theorem dX11_starts_29 : decode cX11_starts 29 = .ok ((.iconst 0), 1) := by decide +kernel
theorem dX11_starts_30 : decode cX11_starts 30 = .ok ((.putfield 220), 3) := by decide +kernel
theorem dX11_starts_33 : decode cX11_starts 33 = .ok ((.aload_n 0), 1) := by decide +kernel
theorem dX11_starts_34 : decode cX11_starts 34 = .ok ((.iconst 0), 1) := by decide +kernel
theorem dX11_starts_35 : decode cX11_starts 35 = .ok ((.putfield 106), 3) := by decide +kernel
theorem dX11_starts_38 : decode cX11_starts 38 = .ok ((.aload_n 0), 1) := by decide +kernel
theorem dX11_starts_39 : decode cX11_starts 39 = .ok ((.iconst 0), 1) := by decide +kernel
theorem dX11_starts_40 : decode cX11_starts 40 = .ok ((.putfield 197), 3) := by decide +kernel
theorem dX11_starts_43 : decode cX11_starts 43 = .ok ((.aload_n 0), 1) := by decide +kernel
theorem dX11_starts_44 : decode cX11_starts 44 = .ok ((.invokevirtual 207), 3) := by decide +kernel
theorem dX11_starts_47 : decode cX11_starts 47 = .ok ((.iconst 1), 1) := by decide +kernel
theorem dX11_starts_48 : decode cX11_starts 48 = .ok (.ireturn, 1) := by decide +kernel
def p_X11_starts_17  (a1 : Int32) (a2 : Int32)   (post : Bool → vSt → Prop) (S : vSt)  : Prop := p_X11_no  S 5 (fun r9 S8 => post r9 S8)
def p_X11_starts   (S : vSt) (a1 : Int32) (a2 : Int32) (post : Bool → vSt → Prop) : Prop := ((a1 < 0 → p_X11_starts_17 a1 a2 post S ) ∧ (¬ a1 < 0 → (((S.1 143 8) < a1 → p_X11_starts_17 a1 a2 post S ) ∧ (¬ (S.1 143 8) < a1 → ((a1 ≤ a2 → ∀ S8, S8 = v_si S 143 9 a1 → ∀ S9, S9 = v_si S8 143 8 0 → ∀ S10, S10 = v_si S9 143 16 0 → ∀ S11, S11 = v_si S10 143 12 0 → p_X11_advance  S11  (fun S12 => post true S12)) ∧ (¬ a1 ≤ a2 → p_X11_starts_17 a1 a2 post S ))))))
set_option maxHeartbeats 4000000 in
set_option maxRecDepth 100000 in
theorem q_X11_starts_17 {X : vX} {G : vG}  {post : Bool → vSt → Prop} (C : v_Cx X G cX11_starts RX11 3 (v_rm 2 82)) (D : v_Rx X G (v_Qz G post) (some .boolean))  {a1 : Int32} {a2 : Int32}   : ∀ (S : vSt), p_X11_starts_17 a1 a2 post S  → VJ X G S 17 [(0, .ref (G.1 143))] [] := by
  intro S  h
  refine V_aload_n C 0 dX11_starts_17 rfl rfl ?_
  refine V_iconst (v := 5) C dX11_starts_18 (by decide) ?_
  refine V_callVz (As := [.int 5]) (rest := []) C (c_X11_no (v_l X) G  _ _ h) 143 11 (by decide) (by decide) (by decide) rfl KV_X11_no k_RX11_75 rfl rfl rfl (Nat.le_of_ble_eq_true rfl) ⟨Nat.le_of_ble_eq_true rfl, Nat.le_of_ble_eq_true rfl⟩ dX11_starts_19 (fun r9 S8 h => ?_)
  exact V_zret C D dX11_starts_22 h
set_option maxHeartbeats 4000000 in
set_option maxRecDepth 100000 in
theorem c_X11_starts (l : Launch) (G : vG)    {S : vSt} (a1 : Int32) (a2 : Int32) (post : Bool → vSt → Prop) (h : p_X11_starts   S a1 a2 post) : Met l yX11_starts (v_ws yX11_starts cX11_starts 3 (some .boolean)) (v_rm 2 82) (v_Pc G [.ref (G.1 143), .int a1, .int a2] S) (v_Qz G post) 0 0 (v_A G) := by
  refine v_start (by decide +kernel) (Nat.le_of_ble_eq_true rfl) (fun X hl C D => ?_)
  subst hl
  have C : v_Cx X G cX11_starts RX11 3 (v_rm 2 82) := C
  show VJ X G S 0 [(0, .ref (G.1 143)), (1, .int a1), (2, .int a2)] []
  refine V_iload_n C 1 dX11_starts_0 rfl rfl ?_
  refine V_if_lt (tgt := 17) C dX11_starts_1 (by decide) (fun c => ?_) (fun c => ?_)
  · have h := h.1 c
    refine V_loc (lv' := [(0, .ref (G.1 143))]) [0] rfl ?_
    exact q_X11_starts_17 C D  _ h
  · have h := h.2 c
    refine V_iload_n C 1 dX11_starts_4 rfl rfl ?_
    refine V_aload_n C 0 dX11_starts_5 rfl rfl ?_
    refine V_gi C 143 (by decide) (by decide) F_11_8 k_RX11_220 dX11_starts_6 ?_
    refine V_icmp_gt (tgt := 17) C dX11_starts_9 (by decide) (fun c => ?_) (fun c => ?_)
    · have h := h.1 c
      refine V_loc (lv' := [(0, .ref (G.1 143))]) [0] rfl ?_
      exact q_X11_starts_17 C D  _ h
    · have h := h.2 c
      refine V_iload_n C 1 dX11_starts_12 rfl rfl ?_
      refine V_iload_n C 2 dX11_starts_13 rfl rfl ?_
      refine V_icmp_le (tgt := 23) C dX11_starts_14 (by decide) (fun c => ?_) (fun c => ?_)
      · have h := h.1 c
        refine V_aload_n C 0 dX11_starts_23 rfl rfl ?_
        refine V_iload_n C 1 dX11_starts_24 rfl rfl ?_
        refine V_pi C 143 (by decide) (by decide) P_11_9 k_RX11_103 dX11_starts_25 ?_
        refine V_topS (fun S8 eS8 => ?_)
        have h := h S8 eS8
        refine V_aload_n C 0 dX11_starts_28 rfl rfl ?_
        refine V_iconst (v := 0) C dX11_starts_29 (by decide) ?_
        refine V_pi C 143 (by decide) (by decide) P_11_8 k_RX11_220 dX11_starts_30 ?_
        refine V_topS (fun S9 eS9 => ?_)
        have h := h S9 eS9
        refine V_aload_n C 0 dX11_starts_33 rfl rfl ?_
        refine V_iconst (v := 0) C dX11_starts_34 (by decide) ?_
        refine V_pi C 143 (by decide) (by decide) P_11_16 k_RX11_106 dX11_starts_35 ?_
        refine V_topS (fun S10 eS10 => ?_)
        have h := h S10 eS10
        refine V_aload_n C 0 dX11_starts_38 rfl rfl ?_
        refine V_iconst (v := 0) C dX11_starts_39 (by decide) ?_
        refine V_pi C 143 (by decide) (by decide) P_11_12 k_RX11_197 dX11_starts_40 ?_
        refine V_topS (fun S11 eS11 => ?_)
        have h := h S11 eS11
        refine V_aload_n C 0 dX11_starts_43 rfl rfl ?_
        refine V_callVv (As := []) (rest := []) C (c_X11_advance (v_l X) G  _ h) 143 11 (by decide) (by decide) (by decide) rfl KV_X11_advance k_RX11_207 rfl rfl rfl (Nat.le_of_ble_eq_true rfl) ⟨Nat.le_of_ble_eq_true rfl, Nat.le_of_ble_eq_true rfl⟩ dX11_starts_44 (fun S12 h => ?_)
        refine V_iconst (v := 1) C dX11_starts_47 (by decide) ?_
        exact V_zret1 C D dX11_starts_48 h
      · have h := h.2 c
        refine V_loc (lv' := [(0, .ref (G.1 143))]) [0] rfl ?_
        exact q_X11_starts_17 C D  _ h
