/-! HalfAccuser$Trays.get(II)J -/
theorem dX7_get_0 : decode cX7_get 0 = .ok ((.aload_n 0), 1) := by decide +kernel
theorem dX7_get_1 : decode cX7_get 1 = .ok ((.getfield 11), 3) := by decide +kernel
theorem dX7_get_4 : decode cX7_get 4 = .ok ((.iload_n 1), 1) := by decide +kernel
theorem dX7_get_5 : decode cX7_get 5 = .ok ((.bipush 60), 2) := by decide +kernel
theorem dX7_get_7 : decode cX7_get 7 = .ok (.imul, 1) := by decide +kernel
theorem dX7_get_8 : decode cX7_get 8 = .ok ((.iload_n 2), 1) := by decide +kernel
theorem dX7_get_9 : decode cX7_get 9 = .ok (.iadd, 1) := by decide +kernel
theorem dX7_get_10 : decode cX7_get 10 = .ok ((.invokestatic 55), 3) := by decide +kernel
theorem dX7_get_13 : decode cX7_get 13 = .ok (.lreturn, 1) := by decide +kernel
def p_X7_get   (S : vSt) (a1 : Int32) (a2 : Int32) (post : Int64 → vSt → Prop) : Prop := p_X10_at_ 2 240 S ((a1 * 60) + a2) (fun r4 S3 => post r4 S3)
set_option maxHeartbeats 4000000 in
set_option maxRecDepth 100000 in
theorem c_X7_get (l : Launch) (G : vG)    {S : vSt} (a1 : Int32) (a2 : Int32) (post : Int64 → vSt → Prop) (h : p_X7_get   S a1 a2 post) : Met l yX7_get (v_ws yX7_get cX7_get 3 (some .long)) (v_rm 1 61) (v_Pc G [.ref (G.1 1), .int a1, .int a2] S) (v_Ql G post) 0 0 (v_A G) := by
  refine v_start (by decide +kernel) (Nat.le_of_ble_eq_true rfl) (fun X hl C D => ?_)
  subst hl
  have C : v_Cx X G cX7_get RX7 3 (v_rm 1 61) := C
  show VJ X G S 0 [(0, .ref (G.1 1)), (1, .int a1), (2, .int a2)] []
  refine V_aload_n C 0 dX7_get_0 rfl rfl ?_
  refine V_ga C 1 (by decide) (by decide) F_7_0 k_RX7_11 dX7_get_1 ?_
  refine V_iload_n C 1 dX7_get_4 rfl rfl ?_
  refine V_bipush (v := 60) C dX7_get_5 (by decide) ?_
  refine V_imul C dX7_get_7 ?_
  refine V_iload_n C 2 dX7_get_8 rfl rfl ?_
  refine V_iadd C dX7_get_9 ?_
  refine V_callSNl (As := [.ref (G.1 2), .int ((a1 * 60) + a2)]) (rest := []) C (c_X10_at_ (v_l X) G (by decide) (by decide) _ _ h) KV_X10_at_ (List.mem_of_getElem? (i := 7) rfl) rfl rfl rfl (Nat.le_of_ble_eq_true rfl) ⟨Nat.le_of_ble_eq_true rfl, Nat.le_of_ble_eq_true rfl⟩ dX7_get_10 (fun r4 S3 h => ?_)
  exact V_lret C D dX7_get_13 h
/-! HalfAccuser$Years.clear()V -/
theorem dX8_clear_0 : decode cX8_clear 0 = .ok ((.aload_n 0), 1) := by decide +kernel
theorem dX8_clear_1 : decode cX8_clear 1 = .ok ((.iconst 0), 1) := by decide +kernel
theorem dX8_clear_2 : decode cX8_clear 2 = .ok ((.putfield 30), 3) := by decide +kernel
theorem dX8_clear_5 : decode cX8_clear 5 = .ok ((.aload_n 0), 1) := by decide +kernel
theorem dX8_clear_6 : decode cX8_clear 6 = .ok ((.iconst 0), 1) := by decide +kernel
theorem dX8_clear_7 : decode cX8_clear 7 = .ok ((.putfield 34), 3) := by decide +kernel
theorem dX8_clear_10 : decode cX8_clear 10 = .ok ((.aload_n 0), 1) := by decide +kernel
theorem dX8_clear_11 : decode cX8_clear 11 = .ok ((.iconst 0), 1) := by decide +kernel
theorem dX8_clear_12 : decode cX8_clear 12 = .ok ((.putfield 37), 3) := by decide +kernel
theorem dX8_clear_15 : decode cX8_clear 15 = .ok (.return_, 1) := by decide +kernel
def p_X8_clear (b : Nat)  (S : vSt)  (post : vSt → Prop) : Prop := ∀ S4, S4 = v_si S (b + 15) 6 0 → ∀ S5, S5 = v_si S4 (b + 15) 7 0 → ∀ S6, S6 = v_si S5 (b + 15) 8 0 → post S6
set_option maxHeartbeats 4000000 in
set_option maxRecDepth 100000 in
theorem c_X8_clear (l : Launch) (G : vG)  {b : Nat} (hb : v_isC b)  {S : vSt}  (post : vSt → Prop) (h : p_X8_clear b  S  post) : Met l yX8_clear (v_ws yX8_clear cX8_clear 1 none) (v_rm 0 40) (v_Pc G [.ref (G.1 (b + 15))] S) (v_Qv G post) 0 0 (v_A G) := by
  refine v_start (by decide +kernel) (Nat.le_of_ble_eq_true rfl) (fun X hl C D => ?_)
  subst hl
  have C : v_Cx X G cX8_clear RX8 1 (v_rm 0 40) := C
  show VJ X G S 0 [(0, .ref (G.1 (b + 15)))] []
  refine V_aload_n C 0 dX8_clear_0 rfl rfl ?_
  refine V_iconst (v := 0) C dX8_clear_1 (by decide) ?_
  refine V_pi C (b + 15) (v_cb hb 15 (by decide)) (v_co15 hb) P_8_6 k_RX8_30 dX8_clear_2 ?_
  refine V_topS (fun S4 eS4 => ?_)
  have h := h S4 eS4
  refine V_aload_n C 0 dX8_clear_5 rfl rfl ?_
  refine V_iconst (v := 0) C dX8_clear_6 (by decide) ?_
  refine V_pi C (b + 15) (v_cb hb 15 (by decide)) (v_co15 hb) P_8_7 k_RX8_34 dX8_clear_7 ?_
  refine V_topS (fun S5 eS5 => ?_)
  have h := h S5 eS5
  refine V_aload_n C 0 dX8_clear_10 rfl rfl ?_
  refine V_iconst (v := 0) C dX8_clear_11 (by decide) ?_
  refine V_pz C (b + 15) (v_cb hb 15 (by decide)) (v_co15 hb) P_8_8 k_RX8_37 v_isb_0 dX8_clear_12 ?_
  refine V_topS (fun S6 eS6 => ?_)
  have h := h S6 eS6
  exact V_vret C D dX8_clear_15 h
/-! HalfAccuser$Years.add(IIII)I -/
theorem dX8_add_0 : decode cX8_add 0 = .ok ((.aload_n 0), 1) := by decide +kernel
theorem dX8_add_1 : decode cX8_add 1 = .ok ((.getfield 30), 3) := by decide +kernel
theorem dX8_add_4 : decode cX8_add 4 = .ok ((.istore 5), 2) := by decide +kernel
theorem dX8_add_6 : decode cX8_add 6 = .ok ((.aload_n 0), 1) := by decide +kernel
theorem dX8_add_7 : decode cX8_add 7 = .ok (.dup, 1) := by decide +kernel
theorem dX8_add_8 : decode cX8_add 8 = .ok ((.getfield 30), 3) := by decide +kernel
theorem dX8_add_11 : decode cX8_add 11 = .ok ((.iconst 1), 1) := by decide +kernel
theorem dX8_add_12 : decode cX8_add 12 = .ok (.iadd, 1) := by decide +kernel
theorem dX8_add_13 : decode cX8_add 13 = .ok ((.putfield 30), 3) := by decide +kernel
theorem dX8_add_16 : decode cX8_add 16 = .ok ((.aload_n 0), 1) := by decide +kernel
theorem dX8_add_17 : decode cX8_add 17 = .ok ((.getfield 11), 3) := by decide +kernel
theorem dX8_add_20 : decode cX8_add 20 = .ok ((.iload 5), 2) := by decide +kernel
theorem dX8_add_22 : decode cX8_add 22 = .ok ((.iload_n 1), 1) := by decide +kernel
theorem dX8_add_23 : decode cX8_add 23 = .ok ((.invokestatic 45), 3) := by decide +kernel
theorem dX8_add_26 : decode cX8_add 26 = .ok ((.aload_n 0), 1) := by decide +kernel
theorem dX8_add_27 : decode cX8_add 27 = .ok ((.getfield 15), 3) := by decide +kernel
theorem dX8_add_30 : decode cX8_add 30 = .ok ((.iload 5), 2) := by decide +kernel
theorem dX8_add_32 : decode cX8_add 32 = .ok ((.iload_n 2), 1) := by decide +kernel
theorem dX8_add_33 : decode cX8_add 33 = .ok ((.invokestatic 45), 3) := by decide +kernel
theorem dX8_add_36 : decode cX8_add 36 = .ok ((.aload_n 0), 1) := by decide +kernel
theorem dX8_add_37 : decode cX8_add 37 = .ok ((.getfield 18), 3) := by decide +kernel
theorem dX8_add_40 : decode cX8_add 40 = .ok ((.iload 5), 2) := by decide +kernel
theorem dX8_add_42 : decode cX8_add 42 = .ok ((.iload_n 3), 1) := by decide +kernel
theorem dX8_add_43 : decode cX8_add 43 = .ok ((.invokestatic 45), 3) := by decide +kernel
theorem dX8_add_46 : decode cX8_add 46 = .ok ((.aload_n 0), 1) := by decide +kernel
theorem dX8_add_47 : decode cX8_add 47 = .ok ((.getfield 21), 3) := by decide +kernel
theorem dX8_add_50 : decode cX8_add 50 = .ok ((.iload 5), 2) := by decide +kernel
theorem dX8_add_52 : decode cX8_add 52 = .ok ((.iload 4), 2) := by decide +kernel
theorem dX8_add_54 : decode cX8_add 54 = .ok ((.invokestatic 45), 3) := by decide +kernel
theorem dX8_add_57 : decode cX8_add 57 = .ok ((.iload_n 1), 1) := by decide +kernel
theorem dX8_add_58 : decode cX8_add 58 = .ok ((.bipush 20), 2) := by decide +kernel
theorem dX8_add_60 : decode cX8_add 60 = .ok ((.if_icmp .eq 13), 3) := by decide +kernel
theorem dX8_add_63 : decode cX8_add 63 = .ok ((.aload_n 0), 1) := by decide +kernel
theorem dX8_add_64 : decode cX8_add 64 = .ok (.dup, 1) := by decide +kernel
theorem dX8_add_65 : decode cX8_add 65 = .ok ((.getfield 34), 3) := by decide +kernel
theorem dX8_add_68 : decode cX8_add 68 = .ok ((.iconst 1), 1) := by decide +kernel
theorem dX8_add_69 : decode cX8_add 69 = .ok (.iadd, 1) := by decide +kernel
theorem dX8_add_70 : decode cX8_add 70 = .ok ((.putfield 34), 3) := by decide +kernel
theorem dX8_add_73 : decode cX8_add 73 = .ok ((.iload 5), 2) := by decide +kernel
theorem dX8_add_75 : decode cX8_add 75 = .ok (.ireturn, 1) := by decide +kernel
def p_X8_add (b : Nat)  (S : vSt) (a1 : Int32) (a2 : Int32) (a3 : Int32) (a4 : Int32) (post : Int32 → vSt → Prop) : Prop := ∀ y8 : Int32, y8 = (S.1 (b + 15) 6) → ∀ S9, S9 = v_si S (b + 15) 6 ((S.1 (b + 15) 6) + 1) → p_X10_put (b + 16) 60 S9 y8 a1 (fun S10 => p_X10_put (b + 17) 60 S10 y8 a2 (fun S11 => p_X10_put (b + 18) 60 S11 y8 a3 (fun S12 => p_X10_put (b + 19) 60 S12 y8 a4 (fun S13 => ((a1 = 20 → post y8 S13) ∧ (¬ a1 = 20 → ∀ S14, S14 = v_si S13 (b + 15) 7 ((S13.1 (b + 15) 7) + 1) → post y8 S14))))))
set_option maxHeartbeats 4000000 in
set_option maxRecDepth 100000 in
theorem c_X8_add (l : Launch) (G : vG)  {b : Nat} (hb : v_isC b)  {S : vSt} (a1 : Int32) (a2 : Int32) (a3 : Int32) (a4 : Int32) (post : Int32 → vSt → Prop) (h : p_X8_add b  S a1 a2 a3 a4 post) : Met l yX8_add (v_ws yX8_add cX8_add 6 (some .int)) (v_rm 1 62) (v_Pc G [.ref (G.1 (b + 15)), .int a1, .int a2, .int a3, .int a4] S) (v_Qi G post) 0 0 (v_A G) := by
  refine v_start (by decide +kernel) (Nat.le_of_ble_eq_true rfl) (fun X hl C D => ?_)
  subst hl
  have C : v_Cx X G cX8_add RX8 6 (v_rm 1 62) := C
  show VJ X G S 0 [(0, .ref (G.1 (b + 15))), (1, .int a1), (2, .int a2), (3, .int a3), (4, .int a4)] []
  refine V_aload_n C 0 dX8_add_0 rfl rfl ?_
  refine V_gi C (b + 15) (v_cb hb 15 (by decide)) (v_co15 hb) F_8_6 k_RX8_30 dX8_add_1 ?_
  refine V_topi (fun y8 ey8 => ?_)
  have h := h y8 ey8
  refine V_istore (lv' := [(0, .ref (G.1 (b + 15))), (1, .int a1), (2, .int a2), (3, .int a3), (4, .int a4), (5, .int y8)]) C [1, 2, 3, 4, 5, 0] dX8_add_4 (by decide) rfl ?_
  refine V_aload_n C 0 dX8_add_6 rfl rfl ?_
  refine V_dup C dX8_add_7 rfl ?_
  refine V_gi C (b + 15) (v_cb hb 15 (by decide)) (v_co15 hb) F_8_6 k_RX8_30 dX8_add_8 ?_
  refine V_iconst (v := 1) C dX8_add_11 (by decide) ?_
  refine V_iadd C dX8_add_12 ?_
  refine V_pi C (b + 15) (v_cb hb 15 (by decide)) (v_co15 hb) P_8_6 k_RX8_30 dX8_add_13 ?_
  refine V_topS (fun S9 eS9 => ?_)
  have h := h S9 eS9
  refine V_aload_n C 0 dX8_add_16 rfl rfl ?_
  refine V_gr C (b + 15) (v_cb hb 15 (by decide)) (v_co15 hb) F_8_0 k_RX8_11 dX8_add_17 ?_
  refine V_iload C 5 dX8_add_20 rfl ?_
  refine V_iload_n C 1 dX8_add_22 rfl rfl ?_
  refine V_callSNv (As := [.ref (G.1 (b + 16)), .int y8, .int a1]) (rest := []) C (c_X10_put (v_l X) G (v_cb hb 16 (by decide)) (v_ca16 hb) _ _ _ h) KV_X10_put (List.mem_of_getElem? (i := 21) rfl) rfl rfl rfl (Nat.le_of_ble_eq_true rfl) ⟨Nat.le_of_ble_eq_true rfl, Nat.le_of_ble_eq_true rfl⟩ dX8_add_23 (fun S10 h => ?_)
  refine V_aload_n C 0 dX8_add_26 rfl rfl ?_
  refine V_gr C (b + 15) (v_cb hb 15 (by decide)) (v_co15 hb) F_8_1 k_RX8_15 dX8_add_27 ?_
  refine V_iload C 5 dX8_add_30 rfl ?_
  refine V_iload_n C 2 dX8_add_32 rfl rfl ?_
  refine V_callSNv (As := [.ref (G.1 (b + 17)), .int y8, .int a2]) (rest := []) C (c_X10_put (v_l X) G (v_cb hb 17 (by decide)) (v_ca17 hb) _ _ _ h) KV_X10_put (List.mem_of_getElem? (i := 21) rfl) rfl rfl rfl (Nat.le_of_ble_eq_true rfl) ⟨Nat.le_of_ble_eq_true rfl, Nat.le_of_ble_eq_true rfl⟩ dX8_add_33 (fun S11 h => ?_)
  refine V_aload_n C 0 dX8_add_36 rfl rfl ?_
  refine V_gr C (b + 15) (v_cb hb 15 (by decide)) (v_co15 hb) F_8_2 k_RX8_18 dX8_add_37 ?_
  refine V_iload C 5 dX8_add_40 rfl ?_
  refine V_iload_n C 3 dX8_add_42 rfl rfl ?_
  refine V_callSNv (As := [.ref (G.1 (b + 18)), .int y8, .int a3]) (rest := []) C (c_X10_put (v_l X) G (v_cb hb 18 (by decide)) (v_ca18 hb) _ _ _ h) KV_X10_put (List.mem_of_getElem? (i := 21) rfl) rfl rfl rfl (Nat.le_of_ble_eq_true rfl) ⟨Nat.le_of_ble_eq_true rfl, Nat.le_of_ble_eq_true rfl⟩ dX8_add_43 (fun S12 h => ?_)
  refine V_aload_n C 0 dX8_add_46 rfl rfl ?_
  refine V_gr C (b + 15) (v_cb hb 15 (by decide)) (v_co15 hb) F_8_3 k_RX8_21 dX8_add_47 ?_
  refine V_iload C 5 dX8_add_50 rfl ?_
  refine V_iload C 4 dX8_add_52 rfl ?_
  refine V_callSNv (As := [.ref (G.1 (b + 19)), .int y8, .int a4]) (rest := []) C (c_X10_put (v_l X) G (v_cb hb 19 (by decide)) (v_ca19 hb) _ _ _ h) KV_X10_put (List.mem_of_getElem? (i := 21) rfl) rfl rfl rfl (Nat.le_of_ble_eq_true rfl) ⟨Nat.le_of_ble_eq_true rfl, Nat.le_of_ble_eq_true rfl⟩ dX8_add_54 (fun S13 h => ?_)
  refine V_iload_n C 1 dX8_add_57 rfl rfl ?_
  refine V_bipush (v := 20) C dX8_add_58 (by decide) ?_
  refine V_icmp_eq (tgt := 73) C dX8_add_60 (by decide) (fun c => ?_) (fun c => ?_)
  · have h := h.1 c
    refine V_iload C 5 dX8_add_73 rfl ?_
    exact V_iret C D dX8_add_75 h
  · have h := h.2 c
    refine V_aload_n C 0 dX8_add_63 rfl rfl ?_
    refine V_dup C dX8_add_64 rfl ?_
    refine V_gi C (b + 15) (v_cb hb 15 (by decide)) (v_co15 hb) F_8_7 k_RX8_34 dX8_add_65 ?_
    refine V_iconst (v := 1) C dX8_add_68 (by decide) ?_
    refine V_iadd C dX8_add_69 ?_
    refine V_pi C (b + 15) (v_cb hb 15 (by decide)) (v_co15 hb) P_8_7 k_RX8_34 dX8_add_70 ?_
    refine V_topS (fun S14 eS14 => ?_)
    have h := h S14 eS14
    refine V_iload C 5 dX8_add_73 rfl ?_
    exact V_iret C D dX8_add_75 h
/-! HalfAccuser$Years.join(II)V -/
theorem dX8_join_0 : decode cX8_join 0 = .ok ((.aload_n 0), 1) := by decide +kernel
theorem dX8_join_1 : decode cX8_join 1 = .ok ((.getfield 24), 3) := by decide +kernel
theorem dX8_join_4 : decode cX8_join 4 = .ok ((.iload_n 1), 1) := by decide +kernel
theorem dX8_join_5 : decode cX8_join 5 = .ok ((.iload_n 2), 1) := by decide +kernel
theorem dX8_join_6 : decode cX8_join 6 = .ok ((.invokestatic 45), 3) := by decide +kernel
theorem dX8_join_9 : decode cX8_join 9 = .ok ((.aload_n 0), 1) := by decide +kernel
theorem dX8_join_10 : decode cX8_join 10 = .ok ((.getfield 24), 3) := by decide +kernel
theorem dX8_join_13 : decode cX8_join 13 = .ok ((.iload_n 2), 1) := by decide +kernel
theorem dX8_join_14 : decode cX8_join 14 = .ok ((.iload_n 1), 1) := by decide +kernel
theorem dX8_join_15 : decode cX8_join 15 = .ok ((.invokestatic 45), 3) := by decide +kernel
theorem dX8_join_18 : decode cX8_join 18 = .ok (.return_, 1) := by decide +kernel
def p_X8_join (b : Nat)  (S : vSt) (a1 : Int32) (a2 : Int32) (post : vSt → Prop) : Prop := p_X10_put (b + 20) 60 S a1 a2 (fun S3 => p_X10_put (b + 20) 60 S3 a2 a1 (fun S4 => post S4))
set_option maxHeartbeats 4000000 in
set_option maxRecDepth 100000 in
theorem c_X8_join (l : Launch) (G : vG)  {b : Nat} (hb : v_isC b)  {S : vSt} (a1 : Int32) (a2 : Int32) (post : vSt → Prop) (h : p_X8_join b  S a1 a2 post) : Met l yX8_join (v_ws yX8_join cX8_join 3 none) (v_rm 1 62) (v_Pc G [.ref (G.1 (b + 15)), .int a1, .int a2] S) (v_Qv G post) 0 0 (v_A G) := by
  refine v_start (by decide +kernel) (Nat.le_of_ble_eq_true rfl) (fun X hl C D => ?_)
  subst hl
  have C : v_Cx X G cX8_join RX8 3 (v_rm 1 62) := C
  show VJ X G S 0 [(0, .ref (G.1 (b + 15))), (1, .int a1), (2, .int a2)] []
  refine V_aload_n C 0 dX8_join_0 rfl rfl ?_
  refine V_gr C (b + 15) (v_cb hb 15 (by decide)) (v_co15 hb) F_8_4 k_RX8_24 dX8_join_1 ?_
  refine V_iload_n C 1 dX8_join_4 rfl rfl ?_
  refine V_iload_n C 2 dX8_join_5 rfl rfl ?_
  refine V_callSNv (As := [.ref (G.1 (b + 20)), .int a1, .int a2]) (rest := []) C (c_X10_put (v_l X) G (v_cb hb 20 (by decide)) (v_ca20 hb) _ _ _ h) KV_X10_put (List.mem_of_getElem? (i := 21) rfl) rfl rfl rfl (Nat.le_of_ble_eq_true rfl) ⟨Nat.le_of_ble_eq_true rfl, Nat.le_of_ble_eq_true rfl⟩ dX8_join_6 (fun S3 h => ?_)
  refine V_aload_n C 0 dX8_join_9 rfl rfl ?_
  refine V_gr C (b + 15) (v_cb hb 15 (by decide)) (v_co15 hb) F_8_4 k_RX8_24 dX8_join_10 ?_
  refine V_iload_n C 2 dX8_join_13 rfl rfl ?_
  refine V_iload_n C 1 dX8_join_14 rfl rfl ?_
  refine V_callSNv (As := [.ref (G.1 (b + 20)), .int a2, .int a1]) (rest := []) C (c_X10_put (v_l X) G (v_cb hb 20 (by decide)) (v_ca20 hb) _ _ _ h) KV_X10_put (List.mem_of_getElem? (i := 21) rfl) rfl rfl rfl (Nat.le_of_ble_eq_true rfl) ⟨Nat.le_of_ble_eq_true rfl, Nat.le_of_ble_eq_true rfl⟩ dX8_join_15 (fun S4 h => ?_)
  exact V_vret C D dX8_join_18 h
/-! HalfAccuser$Years.behindEnd(I)I -/
theorem dX8_behindEnd_0 : decode cX8_behindEnd 0 = .ok ((.aload_n 0), 1) := by decide +kernel
theorem dX8_behindEnd_1 : decode cX8_behindEnd 1 = .ok ((.getfield 24), 3) := by decide +kernel
theorem dX8_behindEnd_4 : decode cX8_behindEnd 4 = .ok ((.iload_n 1), 1) := by decide +kernel
theorem dX8_behindEnd_5 : decode cX8_behindEnd 5 = .ok ((.invokestatic 49), 3) := by decide +kernel
theorem dX8_behindEnd_8 : decode cX8_behindEnd 8 = .ok ((.istore_n 2), 1) := by decide +kernel
theorem dX8_behindEnd_9 : decode cX8_behindEnd 9 = .ok ((.aload_n 0), 1) := by decide +kernel
theorem dX8_behindEnd_10 : decode cX8_behindEnd 10 = .ok ((.getfield 27), 3) := by decide +kernel
theorem dX8_behindEnd_13 : decode cX8_behindEnd 13 = .ok ((.iload_n 2), 1) := by decide +kernel
theorem dX8_behindEnd_14 : decode cX8_behindEnd 14 = .ok ((.invokestatic 49), 3) := by decide +kernel
theorem dX8_behindEnd_17 : decode cX8_behindEnd 17 = .ok ((.iconst 1), 1) := by decide +kernel
theorem dX8_behindEnd_18 : decode cX8_behindEnd 18 = .ok (.isub, 1) := by decide +kernel
theorem dX8_behindEnd_19 : decode cX8_behindEnd 19 = .ok ((.istore_n 3), 1) := by decide +kernel
theorem dX8_behindEnd_20 : decode cX8_behindEnd 20 = .ok ((.aload_n 0), 1) := by decide +kernel
theorem dX8_behindEnd_21 : decode cX8_behindEnd 21 = .ok ((.getfield 11), 3) := by decide +kernel
theorem dX8_behindEnd_24 : decode cX8_behindEnd 24 = .ok ((.iload_n 2), 1) := by decide +kernel
theorem dX8_behindEnd_25 : decode cX8_behindEnd 25 = .ok ((.invokestatic 49), 3) := by decide +kernel
theorem dX8_behindEnd_28 : decode cX8_behindEnd 28 = .ok ((.bipush 19), 2) := by decide +kernel
theorem dX8_behindEnd_30 : decode cX8_behindEnd 30 = .ok ((.if_icmp .ne 7), 3) := by decide +kernel
theorem dX8_behindEnd_33 : decode cX8_behindEnd 33 = .ok ((.iload_n 3), 1) := by decide +kernel
theorem dX8_behindEnd_34 : decode cX8_behindEnd 34 = .ok ((.ifCond .gt 7), 3) := by decide +kernel
theorem dX8_behindEnd_37 : decode cX8_behindEnd 37 = .ok ((.iload_n 1), 1) := by decide +kernel
theorem dX8_behindEnd_38 : decode cX8_behindEnd 38 = .ok ((.iconst 1), 1) := by decide +kernel
theorem dX8_behindEnd_39 : decode cX8_behindEnd 39 = .ok (.iadd, 1) := by decide +kernel
theorem dX8_behindEnd_40 : decode cX8_behindEnd 40 = .ok (.ireturn, 1) := by decide +kernel
theorem dX8_behindEnd_41 : decode cX8_behindEnd 41 = .ok ((.aload_n 0), 1) := by decide +kernel
theorem dX8_behindEnd_42 : decode cX8_behindEnd 42 = .ok ((.getfield 27), 3) := by decide +kernel
theorem dX8_behindEnd_45 : decode cX8_behindEnd 45 = .ok ((.iload_n 2), 1) := by decide +kernel
theorem dX8_behindEnd_46 : decode cX8_behindEnd 46 = .ok ((.iload_n 3), 1) := by decide +kernel
theorem dX8_behindEnd_47 : decode cX8_behindEnd 47 = .ok ((.invokestatic 45), 3) := by decide +kernel
theorem dX8_behindEnd_50 : decode cX8_behindEnd 50 = .ok ((.iload_n 2), 1) := by decide +kernel
theorem dX8_behindEnd_51 : decode cX8_behindEnd 51 = .ok ((.iconst 1), 1) := by decide +kernel
theorem dX8_behindEnd_52 : decode cX8_behindEnd 52 = .ok (.iadd, 1) := by decide +kernel
theorem dX8_behindEnd_53 : decode cX8_behindEnd 53 = .ok (.ireturn, 1) := by decide +kernel
def p_X8_behindEnd (b : Nat)  (S : vSt) (a1 : Int32) (post : Int32 → vSt → Prop) : Prop := p_X10_at (b + 20) 60 S a1 (fun r10 S9 => p_X10_at (b + 21) 60 S9 r10 (fun r12 S11 => ∀ y13 : Int32, y13 = (r12 - 1) → p_X10_at (b + 16) 60 S11 r10 (fun r15 S14 => ((¬ r15 = 19 → post (a1 + 1) S14) ∧ (r15 = 19 → ((0 < y13 → p_X10_put (b + 21) 60 S14 r10 y13 (fun S16 => post (r10 + 1) S16)) ∧ (¬ 0 < y13 → post (a1 + 1) S14)))))))
set_option maxHeartbeats 4000000 in
set_option maxRecDepth 100000 in
theorem c_X8_behindEnd (l : Launch) (G : vG)  {b : Nat} (hb : v_isC b)  {S : vSt} (a1 : Int32) (post : Int32 → vSt → Prop) (h : p_X8_behindEnd b  S a1 post) : Met l yX8_behindEnd (v_ws yX8_behindEnd cX8_behindEnd 4 (some .int)) (v_rm 1 62) (v_Pc G [.ref (G.1 (b + 15)), .int a1] S) (v_Qi G post) 0 0 (v_A G) := by
  refine v_start (by decide +kernel) (Nat.le_of_ble_eq_true rfl) (fun X hl C D => ?_)
  subst hl
  have C : v_Cx X G cX8_behindEnd RX8 4 (v_rm 1 62) := C
  show VJ X G S 0 [(0, .ref (G.1 (b + 15))), (1, .int a1)] []
  refine V_aload_n C 0 dX8_behindEnd_0 rfl rfl ?_
  refine V_gr C (b + 15) (v_cb hb 15 (by decide)) (v_co15 hb) F_8_4 k_RX8_24 dX8_behindEnd_1 ?_
  refine V_iload_n C 1 dX8_behindEnd_4 rfl rfl ?_
  refine V_callSNi (As := [.ref (G.1 (b + 20)), .int a1]) (rest := []) C (c_X10_at (v_l X) G (v_cb hb 20 (by decide)) (v_ca20 hb) _ _ h) KV_X10_at (List.mem_of_getElem? (i := 40) rfl) rfl rfl rfl (Nat.le_of_ble_eq_true rfl) ⟨Nat.le_of_ble_eq_true rfl, Nat.le_of_ble_eq_true rfl⟩ dX8_behindEnd_5 (fun r10 S9 h => ?_)
  refine V_istore_n (lv' := [(0, .ref (G.1 (b + 15))), (1, .int a1), (2, .int r10)]) C [1, 2, 0] dX8_behindEnd_8 rfl (by decide) rfl ?_
  refine V_aload_n C 0 dX8_behindEnd_9 rfl rfl ?_
  refine V_gr C (b + 15) (v_cb hb 15 (by decide)) (v_co15 hb) F_8_5 k_RX8_27 dX8_behindEnd_10 ?_
  refine V_iload_n C 2 dX8_behindEnd_13 rfl rfl ?_
  refine V_callSNi (As := [.ref (G.1 (b + 21)), .int r10]) (rest := []) C (c_X10_at (v_l X) G (v_cb hb 21 (by decide)) (v_ca21 hb) _ _ h) KV_X10_at (List.mem_of_getElem? (i := 40) rfl) rfl rfl rfl (Nat.le_of_ble_eq_true rfl) ⟨Nat.le_of_ble_eq_true rfl, Nat.le_of_ble_eq_true rfl⟩ dX8_behindEnd_14 (fun r12 S11 h => ?_)
  refine V_iconst (v := 1) C dX8_behindEnd_17 (by decide) ?_
  refine V_isub C dX8_behindEnd_18 ?_
  refine V_topi (fun y13 ey13 => ?_)
  have h := h y13 ey13
  refine V_istore_n (lv' := [(0, .ref (G.1 (b + 15))), (1, .int a1), (2, .int r10), (3, .int y13)]) C [1, 2, 3, 0] dX8_behindEnd_19 rfl (by decide) rfl ?_
  refine V_aload_n C 0 dX8_behindEnd_20 rfl rfl ?_
  refine V_gr C (b + 15) (v_cb hb 15 (by decide)) (v_co15 hb) F_8_0 k_RX8_11 dX8_behindEnd_21 ?_
  refine V_iload_n C 2 dX8_behindEnd_24 rfl rfl ?_
  refine V_callSNi (As := [.ref (G.1 (b + 16)), .int r10]) (rest := []) C (c_X10_at (v_l X) G (v_cb hb 16 (by decide)) (v_ca16 hb) _ _ h) KV_X10_at (List.mem_of_getElem? (i := 40) rfl) rfl rfl rfl (Nat.le_of_ble_eq_true rfl) ⟨Nat.le_of_ble_eq_true rfl, Nat.le_of_ble_eq_true rfl⟩ dX8_behindEnd_25 (fun r15 S14 h => ?_)
  refine V_bipush (v := 19) C dX8_behindEnd_28 (by decide) ?_
  refine V_icmp_ne (tgt := 37) C dX8_behindEnd_30 (by decide) (fun c => ?_) (fun c => ?_)
  · have h := h.1 c
    refine V_iload_n C 1 dX8_behindEnd_37 rfl rfl ?_
    refine V_iconst (v := 1) C dX8_behindEnd_38 (by decide) ?_
    refine V_iadd C dX8_behindEnd_39 ?_
    exact V_iret C D dX8_behindEnd_40 h
  · have h := h.2 c
    refine V_iload_n C 3 dX8_behindEnd_33 rfl rfl ?_
    refine V_if_gt (tgt := 41) C dX8_behindEnd_34 (by decide) (fun c => ?_) (fun c => ?_)
    · have h := h.1 c
      refine V_aload_n C 0 dX8_behindEnd_41 rfl rfl ?_
      refine V_gr C (b + 15) (v_cb hb 15 (by decide)) (v_co15 hb) F_8_5 k_RX8_27 dX8_behindEnd_42 ?_
      refine V_iload_n C 2 dX8_behindEnd_45 rfl rfl ?_
      refine V_iload_n C 3 dX8_behindEnd_46 rfl rfl ?_
      refine V_callSNv (As := [.ref (G.1 (b + 21)), .int r10, .int y13]) (rest := []) C (c_X10_put (v_l X) G (v_cb hb 21 (by decide)) (v_ca21 hb) _ _ _ h) KV_X10_put (List.mem_of_getElem? (i := 21) rfl) rfl rfl rfl (Nat.le_of_ble_eq_true rfl) ⟨Nat.le_of_ble_eq_true rfl, Nat.le_of_ble_eq_true rfl⟩ dX8_behindEnd_47 (fun S16 h => ?_)
      refine V_iload_n C 2 dX8_behindEnd_50 rfl rfl ?_
      refine V_iconst (v := 1) C dX8_behindEnd_51 (by decide) ?_
      refine V_iadd C dX8_behindEnd_52 ?_
      exact V_iret C D dX8_behindEnd_53 h
    · have h := h.2 c
      refine V_iload_n C 1 dX8_behindEnd_37 rfl rfl ?_
      refine V_iconst (v := 1) C dX8_behindEnd_38 (by decide) ?_
      refine V_iadd C dX8_behindEnd_39 ?_
      exact V_iret C D dX8_behindEnd_40 h
/-! HalfAccuser$YearsReader.readEnd()Z -/
theorem dX9_readEnd_0 : decode cX9_readEnd 0 = .ok ((.aload_n 0), 1) := by decide +kernel
theorem dX9_readEnd_1 : decode cX9_readEnd 1 = .ok ((.getfield 36), 3) := by decide +kernel
theorem dX9_readEnd_4 : decode cX9_readEnd 4 = .ok ((.ifCond .gt 12), 3) := by decide +kernel
theorem dX9_readEnd_7 : decode cX9_readEnd 7 = .ok ((.aload_n 0), 1) := by decide +kernel
theorem dX9_readEnd_8 : decode cX9_readEnd 8 = .ok ((.getfield 15), 3) := by decide +kernel
theorem dX9_readEnd_11 : decode cX9_readEnd 11 = .ok ((.iconst 2), 1) := by decide +kernel
theorem dX9_readEnd_12 : decode cX9_readEnd 12 = .ok ((.invokevirtual 56), 3) := by decide +kernel
theorem dX9_readEnd_15 : decode cX9_readEnd 15 = .ok (.ireturn, 1) := by decide +kernel
theorem dX9_readEnd_16 : decode cX9_readEnd 16 = .ok ((.aload_n 0), 1) := by decide +kernel
theorem dX9_readEnd_17 : decode cX9_readEnd 17 = .ok (.dup, 1) := by decide +kernel
theorem dX9_readEnd_18 : decode cX9_readEnd 18 = .ok ((.getfield 36), 3) := by decide +kernel
theorem dX9_readEnd_21 : decode cX9_readEnd 21 = .ok ((.iconst 1), 1) := by decide +kernel
theorem dX9_readEnd_22 : decode cX9_readEnd 22 = .ok (.isub, 1) := by decide +kernel
theorem dX9_readEnd_23 : decode cX9_readEnd 23 = .ok ((.putfield 36), 3) := by decide +kernel
theorem dX9_readEnd_26 : decode cX9_readEnd 26 = .ok ((.aload_n 0), 1) := by decide +kernel
theorem dX9_readEnd_27 : decode cX9_readEnd 27 = .ok ((.getfield 23), 3) := by decide +kernel
theorem dX9_readEnd_30 : decode cX9_readEnd 30 = .ok ((.aload_n 0), 1) := by decide +kernel
theorem dX9_readEnd_31 : decode cX9_readEnd 31 = .ok ((.getfield 11), 3) := by decide +kernel
theorem dX9_readEnd_34 : decode cX9_readEnd 34 = .ok ((.aload_n 0), 1) := by decide +kernel
theorem dX9_readEnd_35 : decode cX9_readEnd 35 = .ok ((.getfield 36), 3) := by decide +kernel
theorem dX9_readEnd_38 : decode cX9_readEnd 38 = .ok ((.invokestatic 59), 3) := by decide +kernel
theorem dX9_readEnd_41 : decode cX9_readEnd 41 = .ok ((.aload_n 0), 1) := by decide +kernel
theorem dX9_readEnd_42 : decode cX9_readEnd 42 = .ok ((.getfield 23), 3) := by decide +kernel
theorem dX9_readEnd_45 : decode cX9_readEnd 45 = .ok ((.bipush 20), 2) := by decide +kernel
theorem dX9_readEnd_47 : decode cX9_readEnd 47 = .ok ((.iconst (-1)), 1) := by decide +kernel
theorem dX9_readEnd_48 : decode cX9_readEnd 48 = .ok ((.iconst (-1)), 1) := by decide +kernel
theorem dX9_readEnd_49 : decode cX9_readEnd 49 = .ok ((.iconst 0), 1) := by decide +kernel
theorem dX9_readEnd_50 : decode cX9_readEnd 50 = .ok ((.invokevirtual 63), 3) := by decide +kernel
theorem dX9_readEnd_53 : decode cX9_readEnd 53 = .ok ((.invokevirtual 67), 3) := by decide +kernel
theorem dX9_readEnd_56 : decode cX9_readEnd 56 = .ok ((.aload_n 0), 1) := by decide +kernel
theorem dX9_readEnd_57 : decode cX9_readEnd 57 = .ok ((.getfield 15), 3) := by decide +kernel
theorem dX9_readEnd_60 : decode cX9_readEnd 60 = .ok ((.invokevirtual 71), 3) := by decide +kernel
theorem dX9_readEnd_63 : decode cX9_readEnd 63 = .ok ((.aload_n 0), 1) := by decide +kernel
theorem dX9_readEnd_64 : decode cX9_readEnd 64 = .ok ((.getfield 15), 3) := by decide +kernel
theorem dX9_readEnd_67 : decode cX9_readEnd 67 = .ok ((.invokevirtual 74), 3) := by decide +kernel
theorem dX9_readEnd_70 : decode cX9_readEnd 70 = .ok (.ireturn, 1) := by decide +kernel
def p_X9_readEnd   (S : vSt)  (post : Bool → vSt → Prop) : Prop := ((0 < (S.1 56 4) → ∀ S12, S12 = v_si S 56 4 ((S.1 56 4) - 1) → p_X10_at 57 3 S12 (S12.1 56 4) (fun r14 S13 => p_X8_add 32 S13 20 (-1) (-1) 0 (fun r16 S15 => p_X8_join 32 S15 r14 r16 (fun S17 => p_X6_pass  S17  (fun S18 => p_X6_takeSemicolon  S18  (fun r20 S19 => post r20 S19)))))) ∧ (¬ 0 < (S.1 56 4) → p_X6_blame  S 2 (fun r22 S21 => post r22 S21)))
set_option maxHeartbeats 4000000 in
set_option maxRecDepth 100000 in
theorem c_X9_readEnd (l : Launch) (G : vG)    {S : vSt}  (post : Bool → vSt → Prop) (h : p_X9_readEnd   S  post) : Met l yX9_readEnd (v_ws yX9_readEnd cX9_readEnd 1 (some .boolean)) (v_rm 3 101) (v_Pc G [.ref (G.1 56)] S) (v_Qz G post) 0 0 (v_A G) := by
  refine v_start (by decide +kernel) (Nat.le_of_ble_eq_true rfl) (fun X hl C D => ?_)
  subst hl
  have C : v_Cx X G cX9_readEnd RX9 1 (v_rm 3 101) := C
  show VJ X G S 0 [(0, .ref (G.1 56))] []
  refine V_aload_n C 0 dX9_readEnd_0 rfl rfl ?_
  refine V_gi C 56 (by decide) (by decide) F_9_4 k_RX9_36 dX9_readEnd_1 ?_
  refine V_if_gt (tgt := 16) C dX9_readEnd_4 (by decide) (fun c => ?_) (fun c => ?_)
  · have h := h.1 c
    refine V_aload_n C 0 dX9_readEnd_16 rfl rfl ?_
    refine V_dup C dX9_readEnd_17 rfl ?_
    refine V_gi C 56 (by decide) (by decide) F_9_4 k_RX9_36 dX9_readEnd_18 ?_
    refine V_iconst (v := 1) C dX9_readEnd_21 (by decide) ?_
    refine V_isub C dX9_readEnd_22 ?_
    refine V_pi C 56 (by decide) (by decide) P_9_4 k_RX9_36 dX9_readEnd_23 ?_
    refine V_topS (fun S12 eS12 => ?_)
    have h := h S12 eS12
    refine V_aload_n C 0 dX9_readEnd_26 rfl rfl ?_
    refine V_ga C 56 (by decide) (by decide) F_9_2 k_RX9_23 dX9_readEnd_27 ?_
    refine V_aload_n C 0 dX9_readEnd_30 rfl rfl ?_
    refine V_ga C 56 (by decide) (by decide) F_9_3 k_RX9_11 dX9_readEnd_31 ?_
    refine V_aload_n C 0 dX9_readEnd_34 rfl rfl ?_
    refine V_gi C 56 (by decide) (by decide) F_9_4 k_RX9_36 dX9_readEnd_35 ?_
    refine V_callSNi (As := [.ref (G.1 57), .int (S12.1 56 4)]) (rest := [.ref (G.1 47)]) C (c_X10_at (v_l X) G (by decide) (by decide) _ _ h) KV_X10_at (List.mem_of_getElem? (i := 20) rfl) rfl rfl rfl (Nat.le_of_ble_eq_true rfl) ⟨Nat.le_of_ble_eq_true rfl, Nat.le_of_ble_eq_true rfl⟩ dX9_readEnd_38 (fun r14 S13 h => ?_)
    refine V_aload_n C 0 dX9_readEnd_41 rfl rfl ?_
    refine V_ga C 56 (by decide) (by decide) F_9_2 k_RX9_23 dX9_readEnd_42 ?_
    refine V_bipush (v := 20) C dX9_readEnd_45 (by decide) ?_
    refine V_iconst (v := (-1)) C dX9_readEnd_47 (by decide) ?_
    refine V_iconst (v := (-1)) C dX9_readEnd_48 (by decide) ?_
    refine V_iconst (v := 0) C dX9_readEnd_49 (by decide) ?_
    refine V_callVi (As := [.int 20, .int (-1), .int (-1), .int 0]) (rest := [.int r14, .ref (G.1 47)]) C (c_X8_add (v_l X) G v_i32 _ _ _ _ _ h) 47 8 (by decide) (by decide) (by decide) rfl KV_X8_add k_RX9_63 rfl rfl rfl (Nat.le_of_ble_eq_true rfl) ⟨Nat.le_of_ble_eq_true rfl, Nat.le_of_ble_eq_true rfl⟩ dX9_readEnd_50 (fun r16 S15 h => ?_)
    refine V_callVv (As := [.int r14, .int r16]) (rest := []) C (c_X8_join (v_l X) G v_i32 _ _ _ h) 47 8 (by decide) (by decide) (by decide) rfl KV_X8_join k_RX9_67 rfl rfl rfl (Nat.le_of_ble_eq_true rfl) ⟨Nat.le_of_ble_eq_true rfl, Nat.le_of_ble_eq_true rfl⟩ dX9_readEnd_53 (fun S17 h => ?_)
    refine V_aload_n C 0 dX9_readEnd_56 rfl rfl ?_
    refine V_ga C 56 (by decide) (by decide) F_9_0 k_RX9_15 dX9_readEnd_57 ?_
    refine V_callVv (As := []) (rest := []) C (c_X6_pass (v_l X) G  _ h) 5 6 (by decide) (by decide) (by decide) rfl KV_X6_pass k_RX9_71 rfl rfl rfl (Nat.le_of_ble_eq_true rfl) ⟨Nat.le_of_ble_eq_true rfl, Nat.le_of_ble_eq_true rfl⟩ dX9_readEnd_60 (fun S18 h => ?_)
    refine V_aload_n C 0 dX9_readEnd_63 rfl rfl ?_
    refine V_ga C 56 (by decide) (by decide) F_9_0 k_RX9_15 dX9_readEnd_64 ?_
    refine V_callVz (As := []) (rest := []) C (c_X6_takeSemicolon (v_l X) G  _ h) 5 6 (by decide) (by decide) (by decide) rfl KV_X6_takeSemicolon k_RX9_74 rfl rfl rfl (Nat.le_of_ble_eq_true rfl) ⟨Nat.le_of_ble_eq_true rfl, Nat.le_of_ble_eq_true rfl⟩ dX9_readEnd_67 (fun r20 S19 h => ?_)
    exact V_zret C D dX9_readEnd_70 h
  · have h := h.2 c
    refine V_aload_n C 0 dX9_readEnd_7 rfl rfl ?_
    refine V_ga C 56 (by decide) (by decide) F_9_0 k_RX9_15 dX9_readEnd_8 ?_
    refine V_iconst (v := 2) C dX9_readEnd_11 (by decide) ?_
    refine V_callVz (As := [.int 2]) (rest := []) C (c_X6_blame (v_l X) G  _ _ h) 5 6 (by decide) (by decide) (by decide) rfl KV_X6_blame k_RX9_56 rfl rfl rfl (Nat.le_of_ble_eq_true rfl) ⟨Nat.le_of_ble_eq_true rfl, Nat.le_of_ble_eq_true rfl⟩ dX9_readEnd_12 (fun r22 S21 h => ?_)
    exact V_zret C D dX9_readEnd_15 h
/-! HalfAccuser$YearsReader.beginsStep(I)Z -/
theorem dX9_beginsStep_0 : decode cX9_beginsStep 0 = .ok ((.iload_n 0), 1) := by decide +kernel
theorem dX9_beginsStep_1 : decode cX9_beginsStep 1 = .ok ((.bipush 11), 2) := by decide +kernel
theorem dX9_beginsStep_3 : decode cX9_beginsStep 3 = .ok ((.if_icmp .eq 39), 3) := by decide +kernel
theorem dX9_beginsStep_6 : decode cX9_beginsStep 6 = .ok ((.iload_n 0), 1) := by decide +kernel
theorem dX9_beginsStep_7 : decode cX9_beginsStep 7 = .ok ((.bipush 12), 2) := by decide +kernel
theorem dX9_beginsStep_9 : decode cX9_beginsStep 9 = .ok ((.if_icmp .eq 33), 3) := by decide +kernel
theorem dX9_beginsStep_12 : decode cX9_beginsStep 12 = .ok ((.iload_n 0), 1) := by decide +kernel
theorem dX9_beginsStep_13 : decode cX9_beginsStep 13 = .ok ((.bipush 14), 2) := by decide +kernel
theorem dX9_beginsStep_15 : decode cX9_beginsStep 15 = .ok ((.if_icmp .eq 27), 3) := by decide +kernel
theorem dX9_beginsStep_18 : decode cX9_beginsStep 18 = .ok ((.iload_n 0), 1) := by decide +kernel
theorem dX9_beginsStep_19 : decode cX9_beginsStep 19 = .ok ((.bipush 15), 2) := by decide +kernel
theorem dX9_beginsStep_21 : decode cX9_beginsStep 21 = .ok ((.if_icmp .eq 21), 3) := by decide +kernel
theorem dX9_beginsStep_24 : decode cX9_beginsStep 24 = .ok ((.iload_n 0), 1) := by decide +kernel
theorem dX9_beginsStep_25 : decode cX9_beginsStep 25 = .ok ((.bipush 16), 2) := by decide +kernel
theorem dX9_beginsStep_27 : decode cX9_beginsStep 27 = .ok ((.if_icmp .eq 15), 3) := by decide +kernel
theorem dX9_beginsStep_30 : decode cX9_beginsStep 30 = .ok ((.iload_n 0), 1) := by decide +kernel
theorem dX9_beginsStep_31 : decode cX9_beginsStep 31 = .ok ((.bipush 19), 2) := by decide +kernel
theorem dX9_beginsStep_33 : decode cX9_beginsStep 33 = .ok ((.if_icmp .eq 9), 3) := by decide +kernel
theorem dX9_beginsStep_36 : decode cX9_beginsStep 36 = .ok ((.iload_n 0), 1) := by decide +kernel
theorem dX9_beginsStep_37 : decode cX9_beginsStep 37 = .ok ((.bipush 21), 2) := by decide +kernel
theorem dX9_beginsStep_39 : decode cX9_beginsStep 39 = .ok ((.if_icmp .ne 7), 3) := by decide +kernel
theorem dX9_beginsStep_42 : decode cX9_beginsStep 42 = .ok ((.iconst 1), 1) := by decide +kernel
theorem dX9_beginsStep_43 : decode cX9_beginsStep 43 = .ok ((.goto 4), 3) := by decide +kernel
theorem dX9_beginsStep_46 : decode cX9_beginsStep 46 = .ok ((.iconst 0), 1) := by decide +kernel
theorem dX9_beginsStep_47 : decode cX9_beginsStep 47 = .ok (.ireturn, 1) := by decide +kernel
def p_X9_beginsStep   (S : vSt) (a0 : Int32) (post : Bool → vSt → Prop) : Prop := ((a0 = 11 → post true S) ∧ (¬ a0 = 11 → ((a0 = 12 → post true S) ∧ (¬ a0 = 12 → ((a0 = 14 → post true S) ∧ (¬ a0 = 14 → ((a0 = 15 → post true S) ∧ (¬ a0 = 15 → ((a0 = 16 → post true S) ∧ (¬ a0 = 16 → ((a0 = 19 → post true S) ∧ (¬ a0 = 19 → ((¬ a0 = 21 → post false S) ∧ (a0 = 21 → post true S))))))))))))))
set_option maxHeartbeats 4000000 in
set_option maxRecDepth 100000 in
theorem c_X9_beginsStep (l : Launch) (G : vG)    {S : vSt} (a0 : Int32) (post : Bool → vSt → Prop) (h : p_X9_beginsStep   S a0 post) : Met l yX9_beginsStep (v_ws yX9_beginsStep cX9_beginsStep 1 (some .boolean)) (v_rm 0 40) (v_Pc G [.int a0] S) (v_Qz G post) 0 0 (v_A G) := by
  refine v_start (by decide +kernel) (Nat.le_of_ble_eq_true rfl) (fun X hl C D => ?_)
  subst hl
  have C : v_Cx X G cX9_beginsStep RX9 1 (v_rm 0 40) := C
  show VJ X G S 0 [(0, .int a0)] []
  refine V_iload_n C 0 dX9_beginsStep_0 rfl rfl ?_
  refine V_bipush (v := 11) C dX9_beginsStep_1 (by decide) ?_
  refine V_icmp_eq (tgt := 42) C dX9_beginsStep_3 (by decide) (fun c => ?_) (fun c => ?_)
  · have h := h.1 c
    refine V_iconst (v := 1) C dX9_beginsStep_42 (by decide) ?_
    refine V_goto (tgt := 47) C dX9_beginsStep_43 (by decide) ?_
    exact V_zret1 C D dX9_beginsStep_47 h
  · have h := h.2 c
    refine V_iload_n C 0 dX9_beginsStep_6 rfl rfl ?_
    refine V_bipush (v := 12) C dX9_beginsStep_7 (by decide) ?_
    refine V_icmp_eq (tgt := 42) C dX9_beginsStep_9 (by decide) (fun c => ?_) (fun c => ?_)
    · have h := h.1 c
      refine V_iconst (v := 1) C dX9_beginsStep_42 (by decide) ?_
      refine V_goto (tgt := 47) C dX9_beginsStep_43 (by decide) ?_
      exact V_zret1 C D dX9_beginsStep_47 h
    · have h := h.2 c
      refine V_iload_n C 0 dX9_beginsStep_12 rfl rfl ?_
      refine V_bipush (v := 14) C dX9_beginsStep_13 (by decide) ?_
      refine V_icmp_eq (tgt := 42) C dX9_beginsStep_15 (by decide) (fun c => ?_) (fun c => ?_)
      · have h := h.1 c
        refine V_iconst (v := 1) C dX9_beginsStep_42 (by decide) ?_
        refine V_goto (tgt := 47) C dX9_beginsStep_43 (by decide) ?_
        exact V_zret1 C D dX9_beginsStep_47 h
      · have h := h.2 c
        refine V_iload_n C 0 dX9_beginsStep_18 rfl rfl ?_
        refine V_bipush (v := 15) C dX9_beginsStep_19 (by decide) ?_
        refine V_icmp_eq (tgt := 42) C dX9_beginsStep_21 (by decide) (fun c => ?_) (fun c => ?_)
        · have h := h.1 c
          refine V_iconst (v := 1) C dX9_beginsStep_42 (by decide) ?_
          refine V_goto (tgt := 47) C dX9_beginsStep_43 (by decide) ?_
          exact V_zret1 C D dX9_beginsStep_47 h
        · have h := h.2 c
          refine V_iload_n C 0 dX9_beginsStep_24 rfl rfl ?_
          refine V_bipush (v := 16) C dX9_beginsStep_25 (by decide) ?_
          refine V_icmp_eq (tgt := 42) C dX9_beginsStep_27 (by decide) (fun c => ?_) (fun c => ?_)
          · have h := h.1 c
            refine V_iconst (v := 1) C dX9_beginsStep_42 (by decide) ?_
            refine V_goto (tgt := 47) C dX9_beginsStep_43 (by decide) ?_
            exact V_zret1 C D dX9_beginsStep_47 h
          · have h := h.2 c
            refine V_iload_n C 0 dX9_beginsStep_30 rfl rfl ?_
            refine V_bipush (v := 19) C dX9_beginsStep_31 (by decide) ?_
            refine V_icmp_eq (tgt := 42) C dX9_beginsStep_33 (by decide) (fun c => ?_) (fun c => ?_)
            · have h := h.1 c
              refine V_iconst (v := 1) C dX9_beginsStep_42 (by decide) ?_
              refine V_goto (tgt := 47) C dX9_beginsStep_43 (by decide) ?_
              exact V_zret1 C D dX9_beginsStep_47 h
            · have h := h.2 c
              refine V_iload_n C 0 dX9_beginsStep_36 rfl rfl ?_
              refine V_bipush (v := 21) C dX9_beginsStep_37 (by decide) ?_
              refine V_icmp_ne (tgt := 46) C dX9_beginsStep_39 (by decide) (fun c => ?_) (fun c => ?_)
              · have h := h.1 c
                refine V_iconst (v := 0) C dX9_beginsStep_46 (by decide) ?_
                exact V_zret0 C D dX9_beginsStep_47 h
              · have h := h.2 c
                refine V_iconst (v := 1) C dX9_beginsStep_42 (by decide) ?_
                refine V_goto (tgt := 47) C dX9_beginsStep_43 (by decide) ?_
                exact V_zret1 C D dX9_beginsStep_47 h
/-! HalfAccuser$YearsReader.deedNow()I -/
theorem dX9_deedNow_0 : decode cX9_deedNow 0 = .ok ((.aload_n 0), 1) := by decide +kernel
theorem dX9_deedNow_1 : decode cX9_deedNow 1 = .ok ((.getfield 19), 3) := by decide +kernel
theorem dX9_deedNow_4 : decode cX9_deedNow 4 = .ok ((.aload_n 0), 1) := by decide +kernel
theorem dX9_deedNow_5 : decode cX9_deedNow 5 = .ok ((.getfield 15), 3) := by decide +kernel
theorem dX9_deedNow_8 : decode cX9_deedNow 8 = .ok ((.getfield 128), 3) := by decide +kernel
theorem dX9_deedNow_11 : decode cX9_deedNow 11 = .ok ((.invokevirtual 144), 3) := by decide +kernel
theorem dX9_deedNow_14 : decode cX9_deedNow 14 = .ok (.ireturn, 1) := by decide +kernel
def p_X9_deedNow   (S : vSt)  (post : Int32 → vSt → Prop) : Prop := p_X0_deedBy 10 S (S.2 5 9) (fun r4 S3 => post r4 S3)
set_option maxHeartbeats 4000000 in
set_option maxRecDepth 100000 in
theorem c_X9_deedNow (l : Launch) (G : vG)    {S : vSt}  (post : Int32 → vSt → Prop) (h : p_X9_deedNow   S  post) : Met l yX9_deedNow (v_ws yX9_deedNow cX9_deedNow 1 (some .int)) (v_rm 2 84) (v_Pc G [.ref (G.1 56)] S) (v_Qi G post) 0 0 (v_A G) := by
  refine v_start (by decide +kernel) (Nat.le_of_ble_eq_true rfl) (fun X hl C D => ?_)
  subst hl
  have C : v_Cx X G cX9_deedNow RX9 1 (v_rm 2 84) := C
  show VJ X G S 0 [(0, .ref (G.1 56))] []
  refine V_aload_n C 0 dX9_deedNow_0 rfl rfl ?_
  refine V_ga C 56 (by decide) (by decide) F_9_1 k_RX9_19 dX9_deedNow_1 ?_
  refine V_aload_n C 0 dX9_deedNow_4 rfl rfl ?_
  refine V_ga C 56 (by decide) (by decide) F_9_0 k_RX9_15 dX9_deedNow_5 ?_
  refine V_gl C 5 (by decide) (by decide) F_6_9 k_RX9_128 dX9_deedNow_8 ?_
  refine V_callVi (As := [.long (S.2 5 9)]) (rest := []) C (c_X0_deedBy (v_l X) G v_i10 _ _ h) 10 0 (by decide) (by decide) (by decide) rfl KV_X0_deedBy k_RX9_144 rfl rfl rfl (Nat.le_of_ble_eq_true rfl) ⟨Nat.le_of_ble_eq_true rfl, Nat.le_of_ble_eq_true rfl⟩ dX9_deedNow_11 (fun r4 S3 h => ?_)
  exact V_iret C D dX9_deedNow_14 h
/-! HalfAccuser$YearsReader.personNow()I -/
theorem dX9_personNow_0 : decode cX9_personNow 0 = .ok ((.aload_n 0), 1) := by decide +kernel
theorem dX9_personNow_1 : decode cX9_personNow 1 = .ok ((.getfield 19), 3) := by decide +kernel
theorem dX9_personNow_4 : decode cX9_personNow 4 = .ok ((.aload_n 0), 1) := by decide +kernel
theorem dX9_personNow_5 : decode cX9_personNow 5 = .ok ((.getfield 15), 3) := by decide +kernel
theorem dX9_personNow_8 : decode cX9_personNow 8 = .ok ((.getfield 128), 3) := by decide +kernel
theorem dX9_personNow_11 : decode cX9_personNow 11 = .ok ((.invokevirtual 138), 3) := by decide +kernel
theorem dX9_personNow_14 : decode cX9_personNow 14 = .ok (.ireturn, 1) := by decide +kernel
def p_X9_personNow   (S : vSt)  (post : Int32 → vSt → Prop) : Prop := p_X0_personBy 10 S (S.2 5 9) (fun r4 S3 => post r4 S3)
set_option maxHeartbeats 4000000 in
set_option maxRecDepth 100000 in
theorem c_X9_personNow (l : Launch) (G : vG)    {S : vSt}  (post : Int32 → vSt → Prop) (h : p_X9_personNow   S  post) : Met l yX9_personNow (v_ws yX9_personNow cX9_personNow 1 (some .int)) (v_rm 2 84) (v_Pc G [.ref (G.1 56)] S) (v_Qi G post) 0 0 (v_A G) := by
  refine v_start (by decide +kernel) (Nat.le_of_ble_eq_true rfl) (fun X hl C D => ?_)
  subst hl
  have C : v_Cx X G cX9_personNow RX9 1 (v_rm 2 84) := C
  show VJ X G S 0 [(0, .ref (G.1 56))] []
  refine V_aload_n C 0 dX9_personNow_0 rfl rfl ?_
  refine V_ga C 56 (by decide) (by decide) F_9_1 k_RX9_19 dX9_personNow_1 ?_
  refine V_aload_n C 0 dX9_personNow_4 rfl rfl ?_
  refine V_ga C 56 (by decide) (by decide) F_9_0 k_RX9_15 dX9_personNow_5 ?_
  refine V_gl C 5 (by decide) (by decide) F_6_9 k_RX9_128 dX9_personNow_8 ?_
  refine V_callVi (As := [.long (S.2 5 9)]) (rest := []) C (c_X0_personBy (v_l X) G v_i10 _ _ h) 10 0 (by decide) (by decide) (by decide) rfl KV_X0_personBy k_RX9_138 rfl rfl rfl (Nat.le_of_ble_eq_true rfl) ⟨Nat.le_of_ble_eq_true rfl, Nat.le_of_ble_eq_true rfl⟩ dX9_personNow_11 (fun r4 S3 h => ?_)
  exact V_iret C D dX9_personNow_14 h
/-! HalfAccuser$YearsReader.takeNamed(I)Z -/
theorem dX9_takeNamed_0 : decode cX9_takeNamed 0 = .ok ((.aload_n 0), 1) := by decide +kernel
theorem dX9_takeNamed_1 : decode cX9_takeNamed 1 = .ok ((.getfield 15), 3) := by decide +kernel
theorem dX9_takeNamed_4 : decode cX9_takeNamed 4 = .ok ((.getfield 42), 3) := by decide +kernel
theorem dX9_takeNamed_7 : decode cX9_takeNamed 7 = .ok ((.iconst 3), 1) := by decide +kernel
theorem dX9_takeNamed_8 : decode cX9_takeNamed 8 = .ok ((.if_icmp .eq 12), 3) := by decide +kernel
theorem dX9_takeNamed_11 : decode cX9_takeNamed 11 = .ok ((.aload_n 0), 1) := by decide +kernel
theorem dX9_takeNamed_12 : decode cX9_takeNamed 12 = .ok ((.getfield 15), 3) := by decide +kernel
theorem dX9_takeNamed_15 : decode cX9_takeNamed 15 = .ok ((.iconst 2), 1) := by decide +kernel
theorem dX9_takeNamed_16 : decode cX9_takeNamed 16 = .ok ((.invokevirtual 56), 3) := by decide +kernel
theorem dX9_takeNamed_19 : decode cX9_takeNamed 19 = .ok (.ireturn, 1) := by decide +kernel
theorem dX9_takeNamed_20 : decode cX9_takeNamed 20 = .ok ((.iload_n 1), 1) := by decide +kernel
theorem dX9_takeNamed_21 : decode cX9_takeNamed 21 = .ok ((.iconst (-1)), 1) := by decide +kernel
theorem dX9_takeNamed_22 : decode cX9_takeNamed 22 = .ok ((.if_icmp .ne 12), 3) := by decide +kernel
theorem dX9_takeNamed_25 : decode cX9_takeNamed 25 = .ok ((.aload_n 0), 1) := by decide +kernel
theorem dX9_takeNamed_26 : decode cX9_takeNamed 26 = .ok ((.getfield 15), 3) := by decide +kernel
theorem dX9_takeNamed_29 : decode cX9_takeNamed 29 = .ok ((.iconst 3), 1) := by decide +kernel
theorem dX9_takeNamed_30 : decode cX9_takeNamed 30 = .ok ((.invokevirtual 56), 3) := by decide +kernel
theorem dX9_takeNamed_33 : decode cX9_takeNamed 33 = .ok (.ireturn, 1) := by decide +kernel
theorem dX9_takeNamed_34 : decode cX9_takeNamed 34 = .ok ((.aload_n 0), 1) := by decide +kernel
theorem dX9_takeNamed_35 : decode cX9_takeNamed 35 = .ok ((.iload_n 1), 1) := by decide +kernel
theorem dX9_takeNamed_36 : decode cX9_takeNamed 36 = .ok ((.putfield 108), 3) := by decide +kernel
theorem dX9_takeNamed_39 : decode cX9_takeNamed 39 = .ok ((.aload_n 0), 1) := by decide +kernel
theorem dX9_takeNamed_40 : decode cX9_takeNamed 40 = .ok ((.getfield 15), 3) := by decide +kernel
theorem dX9_takeNamed_43 : decode cX9_takeNamed 43 = .ok ((.invokevirtual 71), 3) := by decide +kernel
theorem dX9_takeNamed_46 : decode cX9_takeNamed 46 = .ok ((.iconst 1), 1) := by decide +kernel
theorem dX9_takeNamed_47 : decode cX9_takeNamed 47 = .ok (.ireturn, 1) := by decide +kernel
def p_X9_takeNamed   (S : vSt) (a1 : Int32) (post : Bool → vSt → Prop) : Prop := (((S.1 5 7) = 3 → ((¬ a1 = (-1) → ∀ S7, S7 = v_si S 56 5 a1 → p_X6_pass  S7  (fun S8 => post true S8)) ∧ (a1 = (-1) → p_X6_blame  S 3 (fun r10 S9 => post r10 S9)))) ∧ (¬ (S.1 5 7) = 3 → p_X6_blame  S 2 (fun r12 S11 => post r12 S11)))
set_option maxHeartbeats 4000000 in
set_option maxRecDepth 100000 in
theorem c_X9_takeNamed (l : Launch) (G : vG)    {S : vSt} (a1 : Int32) (post : Bool → vSt → Prop) (h : p_X9_takeNamed   S a1 post) : Met l yX9_takeNamed (v_ws yX9_takeNamed cX9_takeNamed 2 (some .boolean)) (v_rm 2 81) (v_Pc G [.ref (G.1 56), .int a1] S) (v_Qz G post) 0 0 (v_A G) := by
  refine v_start (by decide +kernel) (Nat.le_of_ble_eq_true rfl) (fun X hl C D => ?_)
  subst hl
  have C : v_Cx X G cX9_takeNamed RX9 2 (v_rm 2 81) := C
  show VJ X G S 0 [(0, .ref (G.1 56)), (1, .int a1)] []
  refine V_aload_n C 0 dX9_takeNamed_0 rfl rfl ?_
  refine V_ga C 56 (by decide) (by decide) F_9_0 k_RX9_15 dX9_takeNamed_1 ?_
  refine V_gi C 5 (by decide) (by decide) F_6_7 k_RX9_42 dX9_takeNamed_4 ?_
  refine V_iconst (v := 3) C dX9_takeNamed_7 (by decide) ?_
  refine V_icmp_eq (tgt := 20) C dX9_takeNamed_8 (by decide) (fun c => ?_) (fun c => ?_)
  · have h := h.1 c
    refine V_iload_n C 1 dX9_takeNamed_20 rfl rfl ?_
    refine V_iconst (v := (-1)) C dX9_takeNamed_21 (by decide) ?_
    refine V_icmp_ne (tgt := 34) C dX9_takeNamed_22 (by decide) (fun c => ?_) (fun c => ?_)
    · have h := h.1 c
      refine V_aload_n C 0 dX9_takeNamed_34 rfl rfl ?_
      refine V_iload_n C 1 dX9_takeNamed_35 rfl rfl ?_
      refine V_pi C 56 (by decide) (by decide) P_9_5 k_RX9_108 dX9_takeNamed_36 ?_
      refine V_topS (fun S7 eS7 => ?_)
      have h := h S7 eS7
      refine V_aload_n C 0 dX9_takeNamed_39 rfl rfl ?_
      refine V_ga C 56 (by decide) (by decide) F_9_0 k_RX9_15 dX9_takeNamed_40 ?_
      refine V_callVv (As := []) (rest := []) C (c_X6_pass (v_l X) G  _ h) 5 6 (by decide) (by decide) (by decide) rfl KV_X6_pass k_RX9_71 rfl rfl rfl (Nat.le_of_ble_eq_true rfl) ⟨Nat.le_of_ble_eq_true rfl, Nat.le_of_ble_eq_true rfl⟩ dX9_takeNamed_43 (fun S8 h => ?_)
      refine V_iconst (v := 1) C dX9_takeNamed_46 (by decide) ?_
      exact V_zret1 C D dX9_takeNamed_47 h
    · have h := h.2 c
      refine V_aload_n C 0 dX9_takeNamed_25 rfl rfl ?_
      refine V_ga C 56 (by decide) (by decide) F_9_0 k_RX9_15 dX9_takeNamed_26 ?_
      refine V_iconst (v := 3) C dX9_takeNamed_29 (by decide) ?_
      refine V_callVz (As := [.int 3]) (rest := []) C (c_X6_blame (v_l X) G  _ _ h) 5 6 (by decide) (by decide) (by decide) rfl KV_X6_blame k_RX9_56 rfl rfl rfl (Nat.le_of_ble_eq_true rfl) ⟨Nat.le_of_ble_eq_true rfl, Nat.le_of_ble_eq_true rfl⟩ dX9_takeNamed_30 (fun r10 S9 h => ?_)
      exact V_zret C D dX9_takeNamed_33 h
  · have h := h.2 c
    refine V_aload_n C 0 dX9_takeNamed_11 rfl rfl ?_
    refine V_ga C 56 (by decide) (by decide) F_9_0 k_RX9_15 dX9_takeNamed_12 ?_
    refine V_iconst (v := 2) C dX9_takeNamed_15 (by decide) ?_
    refine V_callVz (As := [.int 2]) (rest := []) C (c_X6_blame (v_l X) G  _ _ h) 5 6 (by decide) (by decide) (by decide) rfl KV_X6_blame k_RX9_56 rfl rfl rfl (Nat.le_of_ble_eq_true rfl) ⟨Nat.le_of_ble_eq_true rfl, Nat.le_of_ble_eq_true rfl⟩ dX9_takeNamed_16 (fun r12 S11 h => ?_)
    exact V_zret C D dX9_takeNamed_19 h
/-! HalfAccuser$YearsReader.readCharge()Z -/
theorem dX9_readCharge_0 : decode cX9_readCharge 0 = .ok ((.aload_n 0), 1) := by decide +kernel
theorem dX9_readCharge_1 : decode cX9_readCharge 1 = .ok ((.aload_n 0), 1) := by decide +kernel
theorem dX9_readCharge_2 : decode cX9_readCharge 2 = .ok ((.invokevirtual 102), 3) := by decide +kernel
theorem dX9_readCharge_5 : decode cX9_readCharge 5 = .ok ((.invokevirtual 105), 3) := by decide +kernel
theorem dX9_readCharge_8 : decode cX9_readCharge 8 = .ok ((.ifCond .ne 5), 3) := by decide +kernel
theorem dX9_readCharge_11 : decode cX9_readCharge 11 = .ok ((.iconst 0), 1) := by decide +kernel
theorem dX9_readCharge_12 : decode cX9_readCharge 12 = .ok (.ireturn, 1) := by decide +kernel
theorem dX9_readCharge_13 : decode cX9_readCharge 13 = .ok ((.aload_n 0), 1) := by decide +kernel
theorem dX9_readCharge_14 : decode cX9_readCharge 14 = .ok ((.getfield 108), 3) := by decide +kernel
theorem dX9_readCharge_17 : decode cX9_readCharge 17 = .ok ((.istore_n 1), 1) := by decide +kernel
theorem dX9_readCharge_18 : decode cX9_readCharge 18 = .ok ((.aload_n 0), 1) := by decide +kernel
theorem dX9_readCharge_19 : decode cX9_readCharge 19 = .ok ((.aload_n 0), 1) := by decide +kernel
theorem dX9_readCharge_20 : decode cX9_readCharge 20 = .ok ((.invokevirtual 111), 3) := by decide +kernel
theorem dX9_readCharge_23 : decode cX9_readCharge 23 = .ok ((.invokevirtual 105), 3) := by decide +kernel
theorem dX9_readCharge_26 : decode cX9_readCharge 26 = .ok ((.ifCond .ne 5), 3) := by decide +kernel
theorem dX9_readCharge_29 : decode cX9_readCharge 29 = .ok ((.iconst 0), 1) := by decide +kernel
theorem dX9_readCharge_30 : decode cX9_readCharge 30 = .ok (.ireturn, 1) := by decide +kernel
theorem dX9_readCharge_31 : decode cX9_readCharge 31 = .ok ((.aload_n 0), 1) := by decide +kernel
theorem dX9_readCharge_32 : decode cX9_readCharge 32 = .ok ((.getfield 23), 3) := by decide +kernel
theorem dX9_readCharge_35 : decode cX9_readCharge 35 = .ok ((.bipush 11), 2) := by decide +kernel
theorem dX9_readCharge_37 : decode cX9_readCharge 37 = .ok ((.iload_n 1), 1) := by decide +kernel
theorem dX9_readCharge_38 : decode cX9_readCharge 38 = .ok ((.aload_n 0), 1) := by decide +kernel
theorem dX9_readCharge_39 : decode cX9_readCharge 39 = .ok ((.getfield 108), 3) := by decide +kernel
theorem dX9_readCharge_42 : decode cX9_readCharge 42 = .ok ((.iconst 0), 1) := by decide +kernel
theorem dX9_readCharge_43 : decode cX9_readCharge 43 = .ok ((.invokevirtual 63), 3) := by decide +kernel
theorem dX9_readCharge_46 : decode cX9_readCharge 46 = .ok (.pop, 1) := by decide +kernel
theorem dX9_readCharge_47 : decode cX9_readCharge 47 = .ok ((.iconst 1), 1) := by decide +kernel
theorem dX9_readCharge_48 : decode cX9_readCharge 48 = .ok (.ireturn, 1) := by decide +kernel
def p_X9_readCharge   (S : vSt)  (post : Bool → vSt → Prop) : Prop := p_X9_personNow  S  (fun r13 S12 => p_X9_takeNamed  S12 r13 (fun r15 S14 => ((r15 = true → ∀ y16 : Int32, y16 = (S14.1 56 5) → p_X9_deedNow  S14  (fun r18 S17 => p_X9_takeNamed  S17 r18 (fun r20 S19 => ((r20 = true → p_X8_add 32 S19 11 y16 (S19.1 56 5) 0 (fun r22 S21 => post true S21)) ∧ (r20 = false → post false S19))))) ∧ (r15 = false → post false S14))))
set_option maxHeartbeats 4000000 in
set_option maxRecDepth 100000 in
theorem c_X9_readCharge (l : Launch) (G : vG)    {S : vSt}  (post : Bool → vSt → Prop) (h : p_X9_readCharge   S  post) : Met l yX9_readCharge (v_ws yX9_readCharge cX9_readCharge 2 (some .boolean)) (v_rm 3 104) (v_Pc G [.ref (G.1 56)] S) (v_Qz G post) 0 0 (v_A G) := by
  refine v_start (by decide +kernel) (Nat.le_of_ble_eq_true rfl) (fun X hl C D => ?_)
  subst hl
  have C : v_Cx X G cX9_readCharge RX9 2 (v_rm 3 104) := C
  show VJ X G S 0 [(0, .ref (G.1 56))] []
  refine V_aload_n C 0 dX9_readCharge_0 rfl rfl ?_
  refine V_aload_n C 0 dX9_readCharge_1 rfl rfl ?_
  refine V_callVi (As := []) (rest := [.ref (G.1 56)]) C (c_X9_personNow (v_l X) G  _ h) 56 9 (by decide) (by decide) (by decide) rfl KV_X9_personNow k_RX9_102 rfl rfl rfl (Nat.le_of_ble_eq_true rfl) ⟨Nat.le_of_ble_eq_true rfl, Nat.le_of_ble_eq_true rfl⟩ dX9_readCharge_2 (fun r13 S12 h => ?_)
  refine V_callVz (As := [.int r13]) (rest := []) C (c_X9_takeNamed (v_l X) G  _ _ h) 56 9 (by decide) (by decide) (by decide) rfl KV_X9_takeNamed k_RX9_105 rfl rfl rfl (Nat.le_of_ble_eq_true rfl) ⟨Nat.le_of_ble_eq_true rfl, Nat.le_of_ble_eq_true rfl⟩ dX9_readCharge_5 (fun r15 S14 h => ?_)
  refine V_ifb_ne (tgt := 13) C dX9_readCharge_8 (by decide) (fun c => ?_) (fun c => ?_)
  · have h := h.1 c
    refine V_aload_n C 0 dX9_readCharge_13 rfl rfl ?_
    refine V_gi C 56 (by decide) (by decide) F_9_5 k_RX9_108 dX9_readCharge_14 ?_
    refine V_topi (fun y16 ey16 => ?_)
    have h := h y16 ey16
    refine V_istore_n (lv' := [(0, .ref (G.1 56)), (1, .int y16)]) C [1, 0] dX9_readCharge_17 rfl (by decide) rfl ?_
    refine V_aload_n C 0 dX9_readCharge_18 rfl rfl ?_
    refine V_aload_n C 0 dX9_readCharge_19 rfl rfl ?_
    refine V_callVi (As := []) (rest := [.ref (G.1 56)]) C (c_X9_deedNow (v_l X) G  _ h) 56 9 (by decide) (by decide) (by decide) rfl KV_X9_deedNow k_RX9_111 rfl rfl rfl (Nat.le_of_ble_eq_true rfl) ⟨Nat.le_of_ble_eq_true rfl, Nat.le_of_ble_eq_true rfl⟩ dX9_readCharge_20 (fun r18 S17 h => ?_)
    refine V_callVz (As := [.int r18]) (rest := []) C (c_X9_takeNamed (v_l X) G  _ _ h) 56 9 (by decide) (by decide) (by decide) rfl KV_X9_takeNamed k_RX9_105 rfl rfl rfl (Nat.le_of_ble_eq_true rfl) ⟨Nat.le_of_ble_eq_true rfl, Nat.le_of_ble_eq_true rfl⟩ dX9_readCharge_23 (fun r20 S19 h => ?_)
    refine V_ifb_ne (tgt := 31) C dX9_readCharge_26 (by decide) (fun c => ?_) (fun c => ?_)
    · have h := h.1 c
      refine V_aload_n C 0 dX9_readCharge_31 rfl rfl ?_
      refine V_ga C 56 (by decide) (by decide) F_9_2 k_RX9_23 dX9_readCharge_32 ?_
      refine V_bipush (v := 11) C dX9_readCharge_35 (by decide) ?_
      refine V_iload_n C 1 dX9_readCharge_37 rfl rfl ?_
      refine V_aload_n C 0 dX9_readCharge_38 rfl rfl ?_
      refine V_gi C 56 (by decide) (by decide) F_9_5 k_RX9_108 dX9_readCharge_39 ?_
      refine V_iconst (v := 0) C dX9_readCharge_42 (by decide) ?_
      refine V_callVi (As := [.int 11, .int y16, .int (S19.1 56 5), .int 0]) (rest := []) C (c_X8_add (v_l X) G v_i32 _ _ _ _ _ h) 47 8 (by decide) (by decide) (by decide) rfl KV_X8_add k_RX9_63 rfl rfl rfl (Nat.le_of_ble_eq_true rfl) ⟨Nat.le_of_ble_eq_true rfl, Nat.le_of_ble_eq_true rfl⟩ dX9_readCharge_43 (fun r22 S21 h => ?_)
      refine V_pop C dX9_readCharge_46 rfl ?_
      refine V_iconst (v := 1) C dX9_readCharge_47 (by decide) ?_
      exact V_zret1 C D dX9_readCharge_48 h
    · have h := h.2 c
      refine V_iconst (v := 0) C dX9_readCharge_29 (by decide) ?_
      exact V_zret0 C D dX9_readCharge_30 h
  · have h := h.2 c
    refine V_iconst (v := 0) C dX9_readCharge_11 (by decide) ?_
    exact V_zret0 C D dX9_readCharge_12 h
/-! HalfAccuser$YearsReader.readDrop()Z -/
theorem dX9_readDrop_0 : decode cX9_readDrop 0 = .ok ((.aload_n 0), 1) := by decide +kernel
theorem dX9_readDrop_1 : decode cX9_readDrop 1 = .ok ((.aload_n 0), 1) := by decide +kernel
theorem dX9_readDrop_2 : decode cX9_readDrop 2 = .ok ((.invokevirtual 102), 3) := by decide +kernel
theorem dX9_readDrop_5 : decode cX9_readDrop 5 = .ok ((.invokevirtual 105), 3) := by decide +kernel
theorem dX9_readDrop_8 : decode cX9_readDrop 8 = .ok ((.ifCond .ne 5), 3) := by decide +kernel
theorem dX9_readDrop_11 : decode cX9_readDrop 11 = .ok ((.iconst 0), 1) := by decide +kernel
theorem dX9_readDrop_12 : decode cX9_readDrop 12 = .ok (.ireturn, 1) := by decide +kernel
theorem dX9_readDrop_13 : decode cX9_readDrop 13 = .ok ((.aload_n 0), 1) := by decide +kernel
theorem dX9_readDrop_14 : decode cX9_readDrop 14 = .ok ((.getfield 108), 3) := by decide +kernel
theorem dX9_readDrop_17 : decode cX9_readDrop 17 = .ok ((.istore_n 1), 1) := by decide +kernel
theorem dX9_readDrop_18 : decode cX9_readDrop 18 = .ok ((.aload_n 0), 1) := by decide +kernel
theorem dX9_readDrop_19 : decode cX9_readDrop 19 = .ok ((.aload_n 0), 1) := by decide +kernel
theorem dX9_readDrop_20 : decode cX9_readDrop 20 = .ok ((.invokevirtual 111), 3) := by decide +kernel
theorem dX9_readDrop_23 : decode cX9_readDrop 23 = .ok ((.invokevirtual 105), 3) := by decide +kernel
theorem dX9_readDrop_26 : decode cX9_readDrop 26 = .ok ((.ifCond .eq 29), 3) := by decide +kernel
theorem dX9_readDrop_29 : decode cX9_readDrop 29 = .ok ((.aload_n 0), 1) := by decide +kernel
theorem dX9_readDrop_30 : decode cX9_readDrop 30 = .ok ((.getfield 15), 3) := by decide +kernel
theorem dX9_readDrop_33 : decode cX9_readDrop 33 = .ok ((.bipush 13), 2) := by decide +kernel
theorem dX9_readDrop_35 : decode cX9_readDrop 35 = .ok ((.invokevirtual 114), 3) := by decide +kernel
theorem dX9_readDrop_38 : decode cX9_readDrop 38 = .ok ((.ifCond .eq 17), 3) := by decide +kernel
theorem dX9_readDrop_41 : decode cX9_readDrop 41 = .ok ((.aload_n 0), 1) := by decide +kernel
theorem dX9_readDrop_42 : decode cX9_readDrop 42 = .ok ((.getfield 15), 3) := by decide +kernel
theorem dX9_readDrop_45 : decode cX9_readDrop 45 = .ok ((.iconst 0), 1) := by decide +kernel
theorem dX9_readDrop_46 : decode cX9_readDrop 46 = .ok ((.sipush 9999), 3) := by decide +kernel
theorem dX9_readDrop_49 : decode cX9_readDrop 49 = .ok ((.invokevirtual 117), 3) := by decide +kernel
theorem dX9_readDrop_52 : decode cX9_readDrop 52 = .ok ((.ifCond .ne 5), 3) := by decide +kernel
theorem dX9_readDrop_55 : decode cX9_readDrop 55 = .ok ((.iconst 0), 1) := by decide +kernel
theorem dX9_readDrop_56 : decode cX9_readDrop 56 = .ok (.ireturn, 1) := by decide +kernel
theorem dX9_readDrop_57 : decode cX9_readDrop 57 = .ok ((.aload_n 0), 1) := by decide +kernel
theorem dX9_readDrop_58 : decode cX9_readDrop 58 = .ok ((.getfield 23), 3) := by decide +kernel
theorem dX9_readDrop_61 : decode cX9_readDrop 61 = .ok ((.bipush 12), 2) := by decide +kernel
theorem dX9_readDrop_63 : decode cX9_readDrop 63 = .ok ((.iload_n 1), 1) := by decide +kernel
theorem dX9_readDrop_64 : decode cX9_readDrop 64 = .ok ((.aload_n 0), 1) := by decide +kernel
theorem dX9_readDrop_65 : decode cX9_readDrop 65 = .ok ((.getfield 108), 3) := by decide +kernel
theorem dX9_readDrop_68 : decode cX9_readDrop 68 = .ok ((.aload_n 0), 1) := by decide +kernel
theorem dX9_readDrop_69 : decode cX9_readDrop 69 = .ok ((.getfield 15), 3) := by decide +kernel
theorem dX9_readDrop_72 : decode cX9_readDrop 72 = .ok ((.invokevirtual 121), 3) := by decide +kernel
theorem dX9_readDrop_75 : decode cX9_readDrop 75 = .ok ((.invokevirtual 63), 3) := by decide +kernel
theorem dX9_readDrop_78 : decode cX9_readDrop 78 = .ok (.pop, 1) := by decide +kernel
theorem dX9_readDrop_79 : decode cX9_readDrop 79 = .ok ((.iconst 1), 1) := by decide +kernel
theorem dX9_readDrop_80 : decode cX9_readDrop 80 = .ok (.ireturn, 1) := by decide +kernel
def p_X9_readDrop   (S : vSt)  (post : Bool → vSt → Prop) : Prop := p_X9_personNow  S  (fun r19 S18 => p_X9_takeNamed  S18 r19 (fun r21 S20 => ((r21 = true → ∀ y22 : Int32, y22 = (S20.1 56 5) → p_X9_deedNow  S20  (fun r24 S23 => p_X9_takeNamed  S23 r24 (fun r26 S25 => ((r26 = false → post false S25) ∧ (r26 = true → p_X6_takeWord  S25 13 (fun r28 S27 => ((r28 = false → post false S27) ∧ (r28 = true → p_X6_takeNumber  S27 0 9999 (fun r30 S29 => ((r30 = true → p_X6_number  S29  (fun r32 S31 => p_X8_add 32 S31 12 y22 (S29.1 56 5) r32 (fun r34 S33 => post true S33))) ∧ (r30 = false → post false S29))))))))))) ∧ (r21 = false → post false S20))))
set_option maxHeartbeats 4000000 in
set_option maxRecDepth 100000 in
theorem c_X9_readDrop (l : Launch) (G : vG)    {S : vSt}  (post : Bool → vSt → Prop) (h : p_X9_readDrop   S  post) : Met l yX9_readDrop (v_ws yX9_readDrop cX9_readDrop 2 (some .boolean)) (v_rm 3 104) (v_Pc G [.ref (G.1 56)] S) (v_Qz G post) 0 0 (v_A G) := by
  refine v_start (by decide +kernel) (Nat.le_of_ble_eq_true rfl) (fun X hl C D => ?_)
  subst hl
  have C : v_Cx X G cX9_readDrop RX9 2 (v_rm 3 104) := C
  show VJ X G S 0 [(0, .ref (G.1 56))] []
  refine V_aload_n C 0 dX9_readDrop_0 rfl rfl ?_
  refine V_aload_n C 0 dX9_readDrop_1 rfl rfl ?_
  refine V_callVi (As := []) (rest := [.ref (G.1 56)]) C (c_X9_personNow (v_l X) G  _ h) 56 9 (by decide) (by decide) (by decide) rfl KV_X9_personNow k_RX9_102 rfl rfl rfl (Nat.le_of_ble_eq_true rfl) ⟨Nat.le_of_ble_eq_true rfl, Nat.le_of_ble_eq_true rfl⟩ dX9_readDrop_2 (fun r19 S18 h => ?_)
  refine V_callVz (As := [.int r19]) (rest := []) C (c_X9_takeNamed (v_l X) G  _ _ h) 56 9 (by decide) (by decide) (by decide) rfl KV_X9_takeNamed k_RX9_105 rfl rfl rfl (Nat.le_of_ble_eq_true rfl) ⟨Nat.le_of_ble_eq_true rfl, Nat.le_of_ble_eq_true rfl⟩ dX9_readDrop_5 (fun r21 S20 h => ?_)
  refine V_ifb_ne (tgt := 13) C dX9_readDrop_8 (by decide) (fun c => ?_) (fun c => ?_)
  · have h := h.1 c
    refine V_aload_n C 0 dX9_readDrop_13 rfl rfl ?_
    refine V_gi C 56 (by decide) (by decide) F_9_5 k_RX9_108 dX9_readDrop_14 ?_
    refine V_topi (fun y22 ey22 => ?_)
    have h := h y22 ey22
    refine V_istore_n (lv' := [(0, .ref (G.1 56)), (1, .int y22)]) C [1, 0] dX9_readDrop_17 rfl (by decide) rfl ?_
    refine V_aload_n C 0 dX9_readDrop_18 rfl rfl ?_
    refine V_aload_n C 0 dX9_readDrop_19 rfl rfl ?_
    refine V_callVi (As := []) (rest := [.ref (G.1 56)]) C (c_X9_deedNow (v_l X) G  _ h) 56 9 (by decide) (by decide) (by decide) rfl KV_X9_deedNow k_RX9_111 rfl rfl rfl (Nat.le_of_ble_eq_true rfl) ⟨Nat.le_of_ble_eq_true rfl, Nat.le_of_ble_eq_true rfl⟩ dX9_readDrop_20 (fun r24 S23 h => ?_)
    refine V_callVz (As := [.int r24]) (rest := []) C (c_X9_takeNamed (v_l X) G  _ _ h) 56 9 (by decide) (by decide) (by decide) rfl KV_X9_takeNamed k_RX9_105 rfl rfl rfl (Nat.le_of_ble_eq_true rfl) ⟨Nat.le_of_ble_eq_true rfl, Nat.le_of_ble_eq_true rfl⟩ dX9_readDrop_23 (fun r26 S25 h => ?_)
    refine V_ifb_eq (tgt := 55) C dX9_readDrop_26 (by decide) (fun c => ?_) (fun c => ?_)
    · have h := h.1 c
      refine V_iconst (v := 0) C dX9_readDrop_55 (by decide) ?_
      exact V_zret0 C D dX9_readDrop_56 h
    · have h := h.2 c
      refine V_aload_n C 0 dX9_readDrop_29 rfl rfl ?_
      refine V_ga C 56 (by decide) (by decide) F_9_0 k_RX9_15 dX9_readDrop_30 ?_
      refine V_bipush (v := 13) C dX9_readDrop_33 (by decide) ?_
      refine V_callVz (As := [.int 13]) (rest := []) C (c_X6_takeWord (v_l X) G  _ _ h) 5 6 (by decide) (by decide) (by decide) rfl KV_X6_takeWord k_RX9_114 rfl rfl rfl (Nat.le_of_ble_eq_true rfl) ⟨Nat.le_of_ble_eq_true rfl, Nat.le_of_ble_eq_true rfl⟩ dX9_readDrop_35 (fun r28 S27 h => ?_)
      refine V_ifb_eq (tgt := 55) C dX9_readDrop_38 (by decide) (fun c => ?_) (fun c => ?_)
      · have h := h.1 c
        refine V_iconst (v := 0) C dX9_readDrop_55 (by decide) ?_
        exact V_zret0 C D dX9_readDrop_56 h
      · have h := h.2 c
        refine V_aload_n C 0 dX9_readDrop_41 rfl rfl ?_
        refine V_ga C 56 (by decide) (by decide) F_9_0 k_RX9_15 dX9_readDrop_42 ?_
        refine V_iconst (v := 0) C dX9_readDrop_45 (by decide) ?_
        refine V_sipush (v := 9999) C dX9_readDrop_46 (by decide) ?_
        refine V_callVz (As := [.int 0, .int 9999]) (rest := []) C (c_X6_takeNumber (v_l X) G  _ _ _ h) 5 6 (by decide) (by decide) (by decide) rfl KV_X6_takeNumber k_RX9_117 rfl rfl rfl (Nat.le_of_ble_eq_true rfl) ⟨Nat.le_of_ble_eq_true rfl, Nat.le_of_ble_eq_true rfl⟩ dX9_readDrop_49 (fun r30 S29 h => ?_)
        refine V_ifb_ne (tgt := 57) C dX9_readDrop_52 (by decide) (fun c => ?_) (fun c => ?_)
        · have h := h.1 c
          refine V_aload_n C 0 dX9_readDrop_57 rfl rfl ?_
          refine V_ga C 56 (by decide) (by decide) F_9_2 k_RX9_23 dX9_readDrop_58 ?_
          refine V_bipush (v := 12) C dX9_readDrop_61 (by decide) ?_
          refine V_iload_n C 1 dX9_readDrop_63 rfl rfl ?_
          refine V_aload_n C 0 dX9_readDrop_64 rfl rfl ?_
          refine V_gi C 56 (by decide) (by decide) F_9_5 k_RX9_108 dX9_readDrop_65 ?_
          refine V_aload_n C 0 dX9_readDrop_68 rfl rfl ?_
          refine V_ga C 56 (by decide) (by decide) F_9_0 k_RX9_15 dX9_readDrop_69 ?_
          refine V_callVi (As := []) (rest := [.int (S29.1 56 5), .int y22, .int 12, .ref (G.1 47)]) C (c_X6_number (v_l X) G  _ h) 5 6 (by decide) (by decide) (by decide) rfl KV_X6_number k_RX9_121 rfl rfl rfl (Nat.le_of_ble_eq_true rfl) ⟨Nat.le_of_ble_eq_true rfl, Nat.le_of_ble_eq_true rfl⟩ dX9_readDrop_72 (fun r32 S31 h => ?_)
          refine V_callVi (As := [.int 12, .int y22, .int (S29.1 56 5), .int r32]) (rest := []) C (c_X8_add (v_l X) G v_i32 _ _ _ _ _ h) 47 8 (by decide) (by decide) (by decide) rfl KV_X8_add k_RX9_63 rfl rfl rfl (Nat.le_of_ble_eq_true rfl) ⟨Nat.le_of_ble_eq_true rfl, Nat.le_of_ble_eq_true rfl⟩ dX9_readDrop_75 (fun r34 S33 h => ?_)
          refine V_pop C dX9_readDrop_78 rfl ?_
          refine V_iconst (v := 1) C dX9_readDrop_79 (by decide) ?_
          exact V_zret1 C D dX9_readDrop_80 h
        · have h := h.2 c
          refine V_iconst (v := 0) C dX9_readDrop_55 (by decide) ?_
          exact V_zret0 C D dX9_readDrop_56 h
  · have h := h.2 c
    refine V_iconst (v := 0) C dX9_readDrop_11 (by decide) ?_
    exact V_zret0 C D dX9_readDrop_12 h
/-! HalfAccuser$YearsReader.readEarn()Z -/
theorem dX9_readEarn_0 : decode cX9_readEarn 0 = .ok ((.aload_n 0), 1) := by decide +kernel
theorem dX9_readEarn_1 : decode cX9_readEarn 1 = .ok ((.aload_n 0), 1) := by decide +kernel
theorem dX9_readEarn_2 : decode cX9_readEarn 2 = .ok ((.invokevirtual 102), 3) := by decide +kernel
theorem dX9_readEarn_5 : decode cX9_readEarn 5 = .ok ((.invokevirtual 105), 3) := by decide +kernel
theorem dX9_readEarn_8 : decode cX9_readEarn 8 = .ok ((.ifCond .eq 17), 3) := by decide +kernel
theorem dX9_readEarn_11 : decode cX9_readEarn 11 = .ok ((.aload_n 0), 1) := by decide +kernel
theorem dX9_readEarn_12 : decode cX9_readEarn 12 = .ok ((.getfield 15), 3) := by decide +kernel
theorem dX9_readEarn_15 : decode cX9_readEarn 15 = .ok ((.iconst 1), 1) := by decide +kernel
theorem dX9_readEarn_16 : decode cX9_readEarn 16 = .ok ((.sipush 999), 3) := by decide +kernel
theorem dX9_readEarn_19 : decode cX9_readEarn 19 = .ok ((.invokevirtual 117), 3) := by decide +kernel
theorem dX9_readEarn_22 : decode cX9_readEarn 22 = .ok ((.ifCond .ne 5), 3) := by decide +kernel
theorem dX9_readEarn_25 : decode cX9_readEarn 25 = .ok ((.iconst 0), 1) := by decide +kernel
theorem dX9_readEarn_26 : decode cX9_readEarn 26 = .ok (.ireturn, 1) := by decide +kernel
theorem dX9_readEarn_27 : decode cX9_readEarn 27 = .ok ((.aload_n 0), 1) := by decide +kernel
theorem dX9_readEarn_28 : decode cX9_readEarn 28 = .ok ((.getfield 23), 3) := by decide +kernel
theorem dX9_readEarn_31 : decode cX9_readEarn 31 = .ok ((.bipush 14), 2) := by decide +kernel
theorem dX9_readEarn_33 : decode cX9_readEarn 33 = .ok ((.aload_n 0), 1) := by decide +kernel
theorem dX9_readEarn_34 : decode cX9_readEarn 34 = .ok ((.getfield 108), 3) := by decide +kernel
theorem dX9_readEarn_37 : decode cX9_readEarn 37 = .ok ((.iconst (-1)), 1) := by decide +kernel
theorem dX9_readEarn_38 : decode cX9_readEarn 38 = .ok ((.aload_n 0), 1) := by decide +kernel
theorem dX9_readEarn_39 : decode cX9_readEarn 39 = .ok ((.getfield 15), 3) := by decide +kernel
theorem dX9_readEarn_42 : decode cX9_readEarn 42 = .ok ((.invokevirtual 121), 3) := by decide +kernel
theorem dX9_readEarn_45 : decode cX9_readEarn 45 = .ok ((.invokevirtual 63), 3) := by decide +kernel
theorem dX9_readEarn_48 : decode cX9_readEarn 48 = .ok (.pop, 1) := by decide +kernel
theorem dX9_readEarn_49 : decode cX9_readEarn 49 = .ok ((.iconst 1), 1) := by decide +kernel
theorem dX9_readEarn_50 : decode cX9_readEarn 50 = .ok (.ireturn, 1) := by decide +kernel
def p_X9_readEarn   (S : vSt)  (post : Bool → vSt → Prop) : Prop := p_X9_personNow  S  (fun r12 S11 => p_X9_takeNamed  S11 r12 (fun r14 S13 => ((r14 = false → post false S13) ∧ (r14 = true → p_X6_takeNumber  S13 1 999 (fun r16 S15 => ((r16 = true → p_X6_number  S15  (fun r18 S17 => p_X8_add 32 S17 14 (S15.1 56 5) (-1) r18 (fun r20 S19 => post true S19))) ∧ (r16 = false → post false S15)))))))
set_option maxHeartbeats 4000000 in
set_option maxRecDepth 100000 in
theorem c_X9_readEarn (l : Launch) (G : vG)    {S : vSt}  (post : Bool → vSt → Prop) (h : p_X9_readEarn   S  post) : Met l yX9_readEarn (v_ws yX9_readEarn cX9_readEarn 1 (some .boolean)) (v_rm 3 104) (v_Pc G [.ref (G.1 56)] S) (v_Qz G post) 0 0 (v_A G) := by
  refine v_start (by decide +kernel) (Nat.le_of_ble_eq_true rfl) (fun X hl C D => ?_)
  subst hl
  have C : v_Cx X G cX9_readEarn RX9 1 (v_rm 3 104) := C
  show VJ X G S 0 [(0, .ref (G.1 56))] []
  refine V_aload_n C 0 dX9_readEarn_0 rfl rfl ?_
  refine V_aload_n C 0 dX9_readEarn_1 rfl rfl ?_
  refine V_callVi (As := []) (rest := [.ref (G.1 56)]) C (c_X9_personNow (v_l X) G  _ h) 56 9 (by decide) (by decide) (by decide) rfl KV_X9_personNow k_RX9_102 rfl rfl rfl (Nat.le_of_ble_eq_true rfl) ⟨Nat.le_of_ble_eq_true rfl, Nat.le_of_ble_eq_true rfl⟩ dX9_readEarn_2 (fun r12 S11 h => ?_)
  refine V_callVz (As := [.int r12]) (rest := []) C (c_X9_takeNamed (v_l X) G  _ _ h) 56 9 (by decide) (by decide) (by decide) rfl KV_X9_takeNamed k_RX9_105 rfl rfl rfl (Nat.le_of_ble_eq_true rfl) ⟨Nat.le_of_ble_eq_true rfl, Nat.le_of_ble_eq_true rfl⟩ dX9_readEarn_5 (fun r14 S13 h => ?_)
  refine V_ifb_eq (tgt := 25) C dX9_readEarn_8 (by decide) (fun c => ?_) (fun c => ?_)
  · have h := h.1 c
    refine V_iconst (v := 0) C dX9_readEarn_25 (by decide) ?_
    exact V_zret0 C D dX9_readEarn_26 h
  · have h := h.2 c
    refine V_aload_n C 0 dX9_readEarn_11 rfl rfl ?_
    refine V_ga C 56 (by decide) (by decide) F_9_0 k_RX9_15 dX9_readEarn_12 ?_
    refine V_iconst (v := 1) C dX9_readEarn_15 (by decide) ?_
    refine V_sipush (v := 999) C dX9_readEarn_16 (by decide) ?_
    refine V_callVz (As := [.int 1, .int 999]) (rest := []) C (c_X6_takeNumber (v_l X) G  _ _ _ h) 5 6 (by decide) (by decide) (by decide) rfl KV_X6_takeNumber k_RX9_117 rfl rfl rfl (Nat.le_of_ble_eq_true rfl) ⟨Nat.le_of_ble_eq_true rfl, Nat.le_of_ble_eq_true rfl⟩ dX9_readEarn_19 (fun r16 S15 h => ?_)
    refine V_ifb_ne (tgt := 27) C dX9_readEarn_22 (by decide) (fun c => ?_) (fun c => ?_)
    · have h := h.1 c
      refine V_aload_n C 0 dX9_readEarn_27 rfl rfl ?_
      refine V_ga C 56 (by decide) (by decide) F_9_2 k_RX9_23 dX9_readEarn_28 ?_
      refine V_bipush (v := 14) C dX9_readEarn_31 (by decide) ?_
      refine V_aload_n C 0 dX9_readEarn_33 rfl rfl ?_
      refine V_gi C 56 (by decide) (by decide) F_9_5 k_RX9_108 dX9_readEarn_34 ?_
      refine V_iconst (v := (-1)) C dX9_readEarn_37 (by decide) ?_
      refine V_aload_n C 0 dX9_readEarn_38 rfl rfl ?_
      refine V_ga C 56 (by decide) (by decide) F_9_0 k_RX9_15 dX9_readEarn_39 ?_
      refine V_callVi (As := []) (rest := [.int (-1), .int (S15.1 56 5), .int 14, .ref (G.1 47)]) C (c_X6_number (v_l X) G  _ h) 5 6 (by decide) (by decide) (by decide) rfl KV_X6_number k_RX9_121 rfl rfl rfl (Nat.le_of_ble_eq_true rfl) ⟨Nat.le_of_ble_eq_true rfl, Nat.le_of_ble_eq_true rfl⟩ dX9_readEarn_42 (fun r18 S17 h => ?_)
      refine V_callVi (As := [.int 14, .int (S15.1 56 5), .int (-1), .int r18]) (rest := []) C (c_X8_add (v_l X) G v_i32 _ _ _ _ _ h) 47 8 (by decide) (by decide) (by decide) rfl KV_X8_add k_RX9_63 rfl rfl rfl (Nat.le_of_ble_eq_true rfl) ⟨Nat.le_of_ble_eq_true rfl, Nat.le_of_ble_eq_true rfl⟩ dX9_readEarn_45 (fun r20 S19 h => ?_)
      refine V_pop C dX9_readEarn_48 rfl ?_
      refine V_iconst (v := 1) C dX9_readEarn_49 (by decide) ?_
      exact V_zret1 C D dX9_readEarn_50 h
    · have h := h.2 c
      refine V_iconst (v := 0) C dX9_readEarn_25 (by decide) ?_
      exact V_zret0 C D dX9_readEarn_26 h
/-! HalfAccuser$YearsReader.open(I)V -/
theorem dX9_open_0 : decode cX9_open 0 = .ok ((.aload_n 0), 1) := by decide +kernel
theorem dX9_open_1 : decode cX9_open 1 = .ok ((.getfield 11), 3) := by decide +kernel
theorem dX9_open_4 : decode cX9_open 4 = .ok ((.aload_n 0), 1) := by decide +kernel
theorem dX9_open_5 : decode cX9_open 5 = .ok ((.getfield 36), 3) := by decide +kernel
theorem dX9_open_8 : decode cX9_open 8 = .ok ((.iload_n 1), 1) := by decide +kernel
theorem dX9_open_9 : decode cX9_open 9 = .ok ((.invokestatic 134), 3) := by decide +kernel
theorem dX9_open_12 : decode cX9_open 12 = .ok ((.aload_n 0), 1) := by decide +kernel
theorem dX9_open_13 : decode cX9_open 13 = .ok (.dup, 1) := by decide +kernel
theorem dX9_open_14 : decode cX9_open 14 = .ok ((.getfield 36), 3) := by decide +kernel
theorem dX9_open_17 : decode cX9_open 17 = .ok ((.iconst 1), 1) := by decide +kernel
theorem dX9_open_18 : decode cX9_open 18 = .ok (.iadd, 1) := by decide +kernel
theorem dX9_open_19 : decode cX9_open 19 = .ok ((.putfield 36), 3) := by decide +kernel
theorem dX9_open_22 : decode cX9_open 22 = .ok (.return_, 1) := by decide +kernel
def p_X9_open   (S : vSt) (a1 : Int32) (post : vSt → Prop) : Prop := p_X10_put 57 3 S (S.1 56 4) a1 (fun S3 => ∀ S4, S4 = v_si S3 56 4 ((S3.1 56 4) + 1) → post S4)
set_option maxHeartbeats 4000000 in
set_option maxRecDepth 100000 in
theorem c_X9_open (l : Launch) (G : vG)    {S : vSt} (a1 : Int32) (post : vSt → Prop) (h : p_X9_open   S a1 post) : Met l yX9_open (v_ws yX9_open cX9_open 2 none) (v_rm 1 62) (v_Pc G [.ref (G.1 56), .int a1] S) (v_Qv G post) 0 0 (v_A G) := by
  refine v_start (by decide +kernel) (Nat.le_of_ble_eq_true rfl) (fun X hl C D => ?_)
  subst hl
  have C : v_Cx X G cX9_open RX9 2 (v_rm 1 62) := C
  show VJ X G S 0 [(0, .ref (G.1 56)), (1, .int a1)] []
  refine V_aload_n C 0 dX9_open_0 rfl rfl ?_
  refine V_ga C 56 (by decide) (by decide) F_9_3 k_RX9_11 dX9_open_1 ?_
  refine V_aload_n C 0 dX9_open_4 rfl rfl ?_
  refine V_gi C 56 (by decide) (by decide) F_9_4 k_RX9_36 dX9_open_5 ?_
  refine V_iload_n C 1 dX9_open_8 rfl rfl ?_
  refine V_callSNv (As := [.ref (G.1 57), .int (S.1 56 4), .int a1]) (rest := []) C (c_X10_put (v_l X) G (by decide) (by decide) _ _ _ h) KV_X10_put (List.mem_of_getElem? (i := 22) rfl) rfl rfl rfl (Nat.le_of_ble_eq_true rfl) ⟨Nat.le_of_ble_eq_true rfl, Nat.le_of_ble_eq_true rfl⟩ dX9_open_9 (fun S3 h => ?_)
  refine V_aload_n C 0 dX9_open_12 rfl rfl ?_
  refine V_dup C dX9_open_13 rfl ?_
  refine V_gi C 56 (by decide) (by decide) F_9_4 k_RX9_36 dX9_open_14 ?_
  refine V_iconst (v := 1) C dX9_open_17 (by decide) ?_
  refine V_iadd C dX9_open_18 ?_
  refine V_pi C 56 (by decide) (by decide) P_9_4 k_RX9_36 dX9_open_19 ?_
  refine V_topS (fun S4 eS4 => ?_)
  have h := h S4 eS4
  exact V_vret C D dX9_open_22 h
/-! HalfAccuser$YearsReader.readLoop()Z -/
theorem dX9_readLoop_0 : decode cX9_readLoop 0 = .ok ((.aload_n 0), 1) := by decide +kernel
theorem dX9_readLoop_1 : decode cX9_readLoop 1 = .ok ((.getfield 15), 3) := by decide +kernel
theorem dX9_readLoop_4 : decode cX9_readLoop 4 = .ok ((.iconst 1), 1) := by decide +kernel
theorem dX9_readLoop_5 : decode cX9_readLoop 5 = .ok ((.bipush 99), 2) := by decide +kernel
theorem dX9_readLoop_7 : decode cX9_readLoop 7 = .ok ((.invokevirtual 117), 3) := by decide +kernel
theorem dX9_readLoop_10 : decode cX9_readLoop 10 = .ok ((.ifCond .ne 5), 3) := by decide +kernel
theorem dX9_readLoop_13 : decode cX9_readLoop 13 = .ok ((.iconst 0), 1) := by decide +kernel
theorem dX9_readLoop_14 : decode cX9_readLoop 14 = .ok (.ireturn, 1) := by decide +kernel
theorem dX9_readLoop_15 : decode cX9_readLoop 15 = .ok ((.aload_n 0), 1) := by decide +kernel
theorem dX9_readLoop_16 : decode cX9_readLoop 16 = .ok ((.aload_n 0), 1) := by decide +kernel
theorem dX9_readLoop_17 : decode cX9_readLoop 17 = .ok ((.getfield 23), 3) := by decide +kernel
theorem dX9_readLoop_20 : decode cX9_readLoop 20 = .ok ((.bipush 19), 2) := by decide +kernel
theorem dX9_readLoop_22 : decode cX9_readLoop 22 = .ok ((.iconst (-1)), 1) := by decide +kernel
theorem dX9_readLoop_23 : decode cX9_readLoop 23 = .ok ((.iconst (-1)), 1) := by decide +kernel
theorem dX9_readLoop_24 : decode cX9_readLoop 24 = .ok ((.aload_n 0), 1) := by decide +kernel
theorem dX9_readLoop_25 : decode cX9_readLoop 25 = .ok ((.getfield 15), 3) := by decide +kernel
theorem dX9_readLoop_28 : decode cX9_readLoop 28 = .ok ((.invokevirtual 121), 3) := by decide +kernel
theorem dX9_readLoop_31 : decode cX9_readLoop 31 = .ok ((.invokevirtual 63), 3) := by decide +kernel
theorem dX9_readLoop_34 : decode cX9_readLoop 34 = .ok ((.invokevirtual 124), 3) := by decide +kernel
theorem dX9_readLoop_37 : decode cX9_readLoop 37 = .ok ((.iconst 1), 1) := by decide +kernel
theorem dX9_readLoop_38 : decode cX9_readLoop 38 = .ok (.ireturn, 1) := by decide +kernel
def p_X9_readLoop   (S : vSt)  (post : Bool → vSt → Prop) : Prop := p_X6_takeNumber  S 1 99 (fun r9 S8 => ((r9 = true → p_X6_number  S8  (fun r11 S10 => p_X8_add 32 S10 19 (-1) (-1) r11 (fun r13 S12 => p_X9_open  S12 r13 (fun S14 => post true S14)))) ∧ (r9 = false → post false S8)))
set_option maxHeartbeats 4000000 in
set_option maxRecDepth 100000 in
theorem c_X9_readLoop (l : Launch) (G : vG)    {S : vSt}  (post : Bool → vSt → Prop) (h : p_X9_readLoop   S  post) : Met l yX9_readLoop (v_ws yX9_readLoop cX9_readLoop 1 (some .boolean)) (v_rm 3 103) (v_Pc G [.ref (G.1 56)] S) (v_Qz G post) 0 0 (v_A G) := by
  refine v_start (by decide +kernel) (Nat.le_of_ble_eq_true rfl) (fun X hl C D => ?_)
  subst hl
  have C : v_Cx X G cX9_readLoop RX9 1 (v_rm 3 103) := C
  show VJ X G S 0 [(0, .ref (G.1 56))] []
  refine V_aload_n C 0 dX9_readLoop_0 rfl rfl ?_
  refine V_ga C 56 (by decide) (by decide) F_9_0 k_RX9_15 dX9_readLoop_1 ?_
  refine V_iconst (v := 1) C dX9_readLoop_4 (by decide) ?_
  refine V_bipush (v := 99) C dX9_readLoop_5 (by decide) ?_
  refine V_callVz (As := [.int 1, .int 99]) (rest := []) C (c_X6_takeNumber (v_l X) G  _ _ _ h) 5 6 (by decide) (by decide) (by decide) rfl KV_X6_takeNumber k_RX9_117 rfl rfl rfl (Nat.le_of_ble_eq_true rfl) ⟨Nat.le_of_ble_eq_true rfl, Nat.le_of_ble_eq_true rfl⟩ dX9_readLoop_7 (fun r9 S8 h => ?_)
  refine V_ifb_ne (tgt := 15) C dX9_readLoop_10 (by decide) (fun c => ?_) (fun c => ?_)
  · have h := h.1 c
    refine V_aload_n C 0 dX9_readLoop_15 rfl rfl ?_
    refine V_aload_n C 0 dX9_readLoop_16 rfl rfl ?_
    refine V_ga C 56 (by decide) (by decide) F_9_2 k_RX9_23 dX9_readLoop_17 ?_
    refine V_bipush (v := 19) C dX9_readLoop_20 (by decide) ?_
    refine V_iconst (v := (-1)) C dX9_readLoop_22 (by decide) ?_
    refine V_iconst (v := (-1)) C dX9_readLoop_23 (by decide) ?_
    refine V_aload_n C 0 dX9_readLoop_24 rfl rfl ?_
    refine V_ga C 56 (by decide) (by decide) F_9_0 k_RX9_15 dX9_readLoop_25 ?_
    refine V_callVi (As := []) (rest := [.int (-1), .int (-1), .int 19, .ref (G.1 47), .ref (G.1 56)]) C (c_X6_number (v_l X) G  _ h) 5 6 (by decide) (by decide) (by decide) rfl KV_X6_number k_RX9_121 rfl rfl rfl (Nat.le_of_ble_eq_true rfl) ⟨Nat.le_of_ble_eq_true rfl, Nat.le_of_ble_eq_true rfl⟩ dX9_readLoop_28 (fun r11 S10 h => ?_)
    refine V_callVi (As := [.int 19, .int (-1), .int (-1), .int r11]) (rest := [.ref (G.1 56)]) C (c_X8_add (v_l X) G v_i32 _ _ _ _ _ h) 47 8 (by decide) (by decide) (by decide) rfl KV_X8_add k_RX9_63 rfl rfl rfl (Nat.le_of_ble_eq_true rfl) ⟨Nat.le_of_ble_eq_true rfl, Nat.le_of_ble_eq_true rfl⟩ dX9_readLoop_31 (fun r13 S12 h => ?_)
    refine V_callVv (As := [.int r13]) (rest := []) C (c_X9_open (v_l X) G  _ _ h) 56 9 (by decide) (by decide) (by decide) rfl KV_X9_open k_RX9_124 rfl rfl rfl (Nat.le_of_ble_eq_true rfl) ⟨Nat.le_of_ble_eq_true rfl, Nat.le_of_ble_eq_true rfl⟩ dX9_readLoop_34 (fun S14 h => ?_)
    refine V_iconst (v := 1) C dX9_readLoop_37 (by decide) ?_
    exact V_zret1 C D dX9_readLoop_38 h
  · have h := h.2 c
    refine V_iconst (v := 0) C dX9_readLoop_13 (by decide) ?_
    exact V_zret0 C D dX9_readLoop_14 h
/-! HalfAccuser$YearsReader.readTest()Z -/
theorem dX9_readTest_0 : decode cX9_readTest 0 = .ok ((.aload_n 0), 1) := by decide +kernel
theorem dX9_readTest_1 : decode cX9_readTest 1 = .ok ((.getfield 15), 3) := by decide +kernel
theorem dX9_readTest_4 : decode cX9_readTest 4 = .ok ((.invokevirtual 77), 3) := by decide +kernel
theorem dX9_readTest_7 : decode cX9_readTest 7 = .ok ((.istore_n 1), 1) := by decide +kernel
theorem dX9_readTest_8 : decode cX9_readTest 8 = .ok ((.iload_n 1), 1) := by decide +kernel
theorem dX9_readTest_9 : decode cX9_readTest 9 = .ok ((.bipush 17), 2) := by decide +kernel
theorem dX9_readTest_11 : decode cX9_readTest 11 = .ok ((.if_icmp .eq 23), 3) := by decide +kernel
theorem dX9_readTest_14 : decode cX9_readTest 14 = .ok ((.iload_n 1), 1) := by decide +kernel
theorem dX9_readTest_15 : decode cX9_readTest 15 = .ok ((.bipush 18), 2) := by decide +kernel
theorem dX9_readTest_17 : decode cX9_readTest 17 = .ok ((.if_icmp .eq 17), 3) := by decide +kernel
theorem dX9_readTest_20 : decode cX9_readTest 20 = .ok ((.iload_n 1), 1) := by decide +kernel
theorem dX9_readTest_21 : decode cX9_readTest 21 = .ok ((.iconst 5), 1) := by decide +kernel
theorem dX9_readTest_22 : decode cX9_readTest 22 = .ok ((.if_icmp .eq 12), 3) := by decide +kernel
theorem dX9_readTest_25 : decode cX9_readTest 25 = .ok ((.aload_n 0), 1) := by decide +kernel
theorem dX9_readTest_26 : decode cX9_readTest 26 = .ok ((.getfield 15), 3) := by decide +kernel
theorem dX9_readTest_29 : decode cX9_readTest 29 = .ok ((.iconst 2), 1) := by decide +kernel
theorem dX9_readTest_30 : decode cX9_readTest 30 = .ok ((.invokevirtual 56), 3) := by decide +kernel
theorem dX9_readTest_33 : decode cX9_readTest 33 = .ok (.ireturn, 1) := by decide +kernel
theorem dX9_readTest_34 : decode cX9_readTest 34 = .ok ((.aload_n 0), 1) := by decide +kernel
theorem dX9_readTest_35 : decode cX9_readTest 35 = .ok ((.getfield 15), 3) := by decide +kernel
theorem dX9_readTest_38 : decode cX9_readTest 38 = .ok ((.invokevirtual 71), 3) := by decide +kernel
theorem dX9_readTest_41 : decode cX9_readTest 41 = .ok ((.aload_n 0), 1) := by decide +kernel
theorem dX9_readTest_42 : decode cX9_readTest 42 = .ok ((.iload_n 1), 1) := by decide +kernel
theorem dX9_readTest_43 : decode cX9_readTest 43 = .ok ((.bipush 17), 2) := by decide +kernel
theorem dX9_readTest_45 : decode cX9_readTest 45 = .ok ((.if_icmp .ne 10), 3) := by decide +kernel
theorem dX9_readTest_48 : decode cX9_readTest 48 = .ok ((.aload_n 0), 1) := by decide +kernel
theorem dX9_readTest_49 : decode cX9_readTest 49 = .ok ((.invokevirtual 111), 3) := by decide +kernel
theorem dX9_readTest_52 : decode cX9_readTest 52 = .ok ((.goto 7), 3) := by decide +kernel
theorem dX9_readTest_55 : decode cX9_readTest 55 = .ok ((.aload_n 0), 1) := by decide +kernel
theorem dX9_readTest_56 : decode cX9_readTest 56 = .ok ((.invokevirtual 102), 3) := by decide +kernel
theorem dX9_readTest_59 : decode cX9_readTest 59 = .ok ((.invokevirtual 105), 3) := by decide +kernel
theorem dX9_readTest_62 : decode cX9_readTest 62 = .ok ((.ifCond .ne 5), 3) := by decide +kernel
theorem dX9_readTest_65 : decode cX9_readTest 65 = .ok ((.iconst 0), 1) := by decide +kernel
theorem dX9_readTest_66 : decode cX9_readTest 66 = .ok (.ireturn, 1) := by decide +kernel
theorem dX9_readTest_67 : decode cX9_readTest 67 = .ok ((.iload_n 1), 1) := by decide +kernel
theorem dX9_readTest_68 : decode cX9_readTest 68 = .ok ((.iconst 5), 1) := by decide +kernel
theorem dX9_readTest_69 : decode cX9_readTest 69 = .ok ((.if_icmp .eq 24), 3) := by decide +kernel
theorem dX9_readTest_72 : decode cX9_readTest 72 = .ok ((.aload_n 0), 1) := by decide +kernel
theorem dX9_readTest_73 : decode cX9_readTest 73 = .ok ((.aload_n 0), 1) := by decide +kernel
theorem dX9_readTest_74 : decode cX9_readTest 74 = .ok ((.getfield 23), 3) := by decide +kernel
theorem dX9_readTest_77 : decode cX9_readTest 77 = .ok ((.bipush 16), 2) := by decide +kernel
theorem dX9_readTest_79 : decode cX9_readTest 79 = .ok ((.aload_n 0), 1) := by decide +kernel
theorem dX9_readTest_80 : decode cX9_readTest 80 = .ok ((.getfield 108), 3) := by decide +kernel
theorem dX9_readTest_83 : decode cX9_readTest 83 = .ok ((.iload_n 1), 1) := by decide +kernel
theorem dX9_readTest_84 : decode cX9_readTest 84 = .ok ((.iconst 0), 1) := by decide +kernel
theorem dX9_readTest_85 : decode cX9_readTest 85 = .ok ((.invokevirtual 63), 3) := by decide +kernel
theorem dX9_readTest_88 : decode cX9_readTest 88 = .ok ((.invokevirtual 124), 3) := by decide +kernel
theorem dX9_readTest_91 : decode cX9_readTest 91 = .ok ((.iconst 1), 1) := by decide +kernel
theorem dX9_readTest_92 : decode cX9_readTest 92 = .ok (.ireturn, 1) := by decide +kernel
theorem dX9_readTest_93 : decode cX9_readTest 93 = .ok ((.aload_n 0), 1) := by decide +kernel
theorem dX9_readTest_94 : decode cX9_readTest 94 = .ok ((.getfield 15), 3) := by decide +kernel
theorem dX9_readTest_97 : decode cX9_readTest 97 = .ok ((.getfield 42), 3) := by decide +kernel
theorem dX9_readTest_100 : decode cX9_readTest 100 = .ok ((.bipush 6), 2) := by decide +kernel
theorem dX9_readTest_102 : decode cX9_readTest 102 = .ok ((.if_icmp .ne 17), 3) := by decide +kernel
theorem dX9_readTest_105 : decode cX9_readTest 105 = .ok ((.aload_n 0), 1) := by decide +kernel
theorem dX9_readTest_106 : decode cX9_readTest 106 = .ok ((.getfield 15), 3) := by decide +kernel
theorem dX9_readTest_109 : decode cX9_readTest 109 = .ok ((.getfield 128), 3) := by decide +kernel
theorem dX9_readTest_112 : decode cX9_readTest 112 = .ok ((.ldc2_w 132), 3) := by decide +kernel
theorem dX9_readTest_115 : decode cX9_readTest 115 = .ok (.lcmp, 1) := by decide +kernel
theorem dX9_readTest_116 : decode cX9_readTest 116 = .ok ((.ifCond .ne 12), 3) := by decide +kernel
theorem dX9_readTest_119 : decode cX9_readTest 119 = .ok ((.aload_n 0), 1) := by decide +kernel
theorem dX9_readTest_120 : decode cX9_readTest 120 = .ok ((.getfield 15), 3) := by decide +kernel
theorem dX9_readTest_123 : decode cX9_readTest 123 = .ok ((.iconst 2), 1) := by decide +kernel
theorem dX9_readTest_124 : decode cX9_readTest 124 = .ok ((.invokevirtual 56), 3) := by decide +kernel
theorem dX9_readTest_127 : decode cX9_readTest 127 = .ok (.ireturn, 1) := by decide +kernel
theorem dX9_readTest_128 : decode cX9_readTest 128 = .ok ((.aload_n 0), 1) := by decide +kernel
theorem dX9_readTest_129 : decode cX9_readTest 129 = .ok ((.getfield 15), 3) := by decide +kernel
theorem dX9_readTest_132 : decode cX9_readTest 132 = .ok ((.invokevirtual 71), 3) := by decide +kernel
theorem dX9_readTest_135 : decode cX9_readTest 135 = .ok ((.aload_n 0), 1) := by decide +kernel
theorem dX9_readTest_136 : decode cX9_readTest 136 = .ok ((.getfield 15), 3) := by decide +kernel
theorem dX9_readTest_139 : decode cX9_readTest 139 = .ok ((.invokevirtual 121), 3) := by decide +kernel
theorem dX9_readTest_142 : decode cX9_readTest 142 = .ok ((.istore_n 2), 1) := by decide +kernel
theorem dX9_readTest_143 : decode cX9_readTest 143 = .ok ((.aload_n 0), 1) := by decide +kernel
theorem dX9_readTest_144 : decode cX9_readTest 144 = .ok ((.getfield 15), 3) := by decide +kernel
theorem dX9_readTest_147 : decode cX9_readTest 147 = .ok ((.iconst 0), 1) := by decide +kernel
theorem dX9_readTest_148 : decode cX9_readTest 148 = .ok ((.sipush 9999), 3) := by decide +kernel
theorem dX9_readTest_151 : decode cX9_readTest 151 = .ok ((.invokevirtual 117), 3) := by decide +kernel
theorem dX9_readTest_154 : decode cX9_readTest 154 = .ok ((.ifCond .ne 5), 3) := by decide +kernel
theorem dX9_readTest_157 : decode cX9_readTest 157 = .ok ((.iconst 0), 1) := by decide +kernel
theorem dX9_readTest_158 : decode cX9_readTest 158 = .ok (.ireturn, 1) := by decide +kernel
theorem dX9_readTest_159 : decode cX9_readTest 159 = .ok ((.aload_n 0), 1) := by decide +kernel
theorem dX9_readTest_160 : decode cX9_readTest 160 = .ok ((.aload_n 0), 1) := by decide +kernel
theorem dX9_readTest_161 : decode cX9_readTest 161 = .ok ((.getfield 23), 3) := by decide +kernel
theorem dX9_readTest_164 : decode cX9_readTest 164 = .ok ((.bipush 16), 2) := by decide +kernel
theorem dX9_readTest_166 : decode cX9_readTest 166 = .ok ((.aload_n 0), 1) := by decide +kernel
theorem dX9_readTest_167 : decode cX9_readTest 167 = .ok ((.getfield 108), 3) := by decide +kernel
theorem dX9_readTest_170 : decode cX9_readTest 170 = .ok ((.iload_n 2), 1) := by decide +kernel
theorem dX9_readTest_171 : decode cX9_readTest 171 = .ok ((.aload_n 0), 1) := by decide +kernel
theorem dX9_readTest_172 : decode cX9_readTest 172 = .ok ((.getfield 15), 3) := by decide +kernel
theorem dX9_readTest_175 : decode cX9_readTest 175 = .ok ((.invokevirtual 121), 3) := by decide +kernel
theorem dX9_readTest_178 : decode cX9_readTest 178 = .ok ((.invokevirtual 63), 3) := by decide +kernel
theorem dX9_readTest_181 : decode cX9_readTest 181 = .ok ((.invokevirtual 124), 3) := by decide +kernel
theorem dX9_readTest_184 : decode cX9_readTest 184 = .ok ((.iconst 1), 1) := by decide +kernel
theorem dX9_readTest_185 : decode cX9_readTest 185 = .ok (.ireturn, 1) := by decide +kernel
def p_X9_readTest_119     (post : Bool → vSt → Prop) (S : vSt)  : Prop := p_X6_blame  S 2 (fun r35 S34 => post r35 S34)
def p_X9_readTest_59     (post : Bool → vSt → Prop) (S : vSt) (x1 : Int32) (s0 : Int32) : Prop := p_X9_takeNamed  S s0 (fun r33 S32 => ((r33 = true → ((x1 = 5 → ((¬ (S32.1 5 7) = 6 → p_X9_readTest_119  post S32 ) ∧ ((S32.1 5 7) = 6 → ((¬ (S32.2 5 9) = 59 → p_X6_pass  S32  (fun S34 => p_X6_number  S34  (fun r36 S35 => p_X6_takeNumber  S35 0 9999 (fun r38 S37 => ((r38 = true → p_X6_number  S37  (fun r40 S39 => p_X8_add 32 S39 16 (S37.1 56 5) r36 r40 (fun r42 S41 => p_X9_open  S41 r42 (fun S43 => post true S43)))) ∧ (r38 = false → post false S37)))))) ∧ ((S32.2 5 9) = 59 → p_X9_readTest_119  post S32 ))))) ∧ (¬ x1 = 5 → p_X8_add 32 S32 16 (S32.1 56 5) x1 0 (fun r45 S44 => p_X9_open  S44 r45 (fun S46 => post true S46))))) ∧ (r33 = false → post false S32)))
def p_X9_readTest_34     (post : Bool → vSt → Prop) (S : vSt) (x1 : Int32) : Prop := p_X6_pass  S  (fun S29 => ((¬ x1 = 17 → p_X9_personNow  S29  (fun r31 S30 => p_X9_readTest_59  post S30 x1 r31)) ∧ (x1 = 17 → p_X9_deedNow  S29  (fun r33 S32 => p_X9_readTest_59  post S32 x1 r33))))
def p_X9_readTest   (S : vSt)  (post : Bool → vSt → Prop) : Prop := p_X6_wordNow  S  (fun r28 S27 => ((r28 = 17 → p_X9_readTest_34  post S27 r28) ∧ (¬ r28 = 17 → ((r28 = 18 → p_X9_readTest_34  post S27 r28) ∧ (¬ r28 = 18 → ((r28 = 5 → p_X9_readTest_34  post S27 r28) ∧ (¬ r28 = 5 → p_X6_blame  S27 2 (fun r30 S29 => post r30 S29))))))))
set_option maxHeartbeats 4000000 in
set_option maxRecDepth 100000 in
theorem q_X9_readTest_119 {X : vX} {G : vG}  {post : Bool → vSt → Prop} (C : v_Cx X G cX9_readTest RX9 3 (v_rm 3 104)) (D : v_Rx X G (v_Qz G post) (some .boolean))     : ∀ (S : vSt), p_X9_readTest_119  post S  → VJ X G S 119 [(0, .ref (G.1 56))] [] := by
  intro S  h
  refine V_aload_n C 0 dX9_readTest_119 rfl rfl ?_
  refine V_ga C 56 (by decide) (by decide) F_9_0 k_RX9_15 dX9_readTest_120 ?_
  refine V_iconst (v := 2) C dX9_readTest_123 (by decide) ?_
  refine V_callVz (As := [.int 2]) (rest := []) C (c_X6_blame (v_l X) G  _ _ h) 5 6 (by decide) (by decide) (by decide) rfl KV_X6_blame k_RX9_56 rfl rfl rfl (Nat.le_of_ble_eq_true rfl) ⟨Nat.le_of_ble_eq_true rfl, Nat.le_of_ble_eq_true rfl⟩ dX9_readTest_124 (fun r35 S34 h => ?_)
  exact V_zret C D dX9_readTest_127 h
set_option maxHeartbeats 4000000 in
set_option maxRecDepth 100000 in
theorem q_X9_readTest_59 {X : vX} {G : vG}  {post : Bool → vSt → Prop} (C : v_Cx X G cX9_readTest RX9 3 (v_rm 3 104)) (D : v_Rx X G (v_Qz G post) (some .boolean))     : ∀ (S : vSt) (x1 : Int32) (s0 : Int32), p_X9_readTest_59  post S x1 s0 → VJ X G S 59 [(0, .ref (G.1 56)), (1, .int x1)] [.int s0, .ref (G.1 56)] := by
  intro S x1 s0 h
  refine V_callVz (As := [.int s0]) (rest := []) C (c_X9_takeNamed (v_l X) G  _ _ h) 56 9 (by decide) (by decide) (by decide) rfl KV_X9_takeNamed k_RX9_105 rfl rfl rfl (Nat.le_of_ble_eq_true rfl) ⟨Nat.le_of_ble_eq_true rfl, Nat.le_of_ble_eq_true rfl⟩ dX9_readTest_59 (fun r33 S32 h => ?_)
  refine V_ifb_ne (tgt := 67) C dX9_readTest_62 (by decide) (fun c => ?_) (fun c => ?_)
  · have h := h.1 c
    refine V_iload_n C 1 dX9_readTest_67 rfl rfl ?_
    refine V_iconst (v := 5) C dX9_readTest_68 (by decide) ?_
    refine V_icmp_eq (tgt := 93) C dX9_readTest_69 (by decide) (fun c => ?_) (fun c => ?_)
    · have h := h.1 c
      refine V_aload_n C 0 dX9_readTest_93 rfl rfl ?_
      refine V_ga C 56 (by decide) (by decide) F_9_0 k_RX9_15 dX9_readTest_94 ?_
      refine V_gi C 5 (by decide) (by decide) F_6_7 k_RX9_42 dX9_readTest_97 ?_
      refine V_bipush (v := 6) C dX9_readTest_100 (by decide) ?_
      refine V_icmp_ne (tgt := 119) C dX9_readTest_102 (by decide) (fun c => ?_) (fun c => ?_)
      · have h := h.1 c
        refine V_loc (lv' := [(0, .ref (G.1 56))]) [0] rfl ?_
        exact q_X9_readTest_119 C D  _ h
      · have h := h.2 c
        refine V_aload_n C 0 dX9_readTest_105 rfl rfl ?_
        refine V_ga C 56 (by decide) (by decide) F_9_0 k_RX9_15 dX9_readTest_106 ?_
        refine V_gl C 5 (by decide) (by decide) F_6_9 k_RX9_128 dX9_readTest_109 ?_
        refine V_ldc2 (v := 59) C k_RX9_132 dX9_readTest_112 ?_
        refine V_lcmp_ne (tgt := 128) C dX9_readTest_115 dX9_readTest_116 (by decide) (fun c => ?_) (fun c => ?_)
        · have h := h.1 c
          refine V_aload_n C 0 dX9_readTest_128 rfl rfl ?_
          refine V_ga C 56 (by decide) (by decide) F_9_0 k_RX9_15 dX9_readTest_129 ?_
          refine V_callVv (As := []) (rest := []) C (c_X6_pass (v_l X) G  _ h) 5 6 (by decide) (by decide) (by decide) rfl KV_X6_pass k_RX9_71 rfl rfl rfl (Nat.le_of_ble_eq_true rfl) ⟨Nat.le_of_ble_eq_true rfl, Nat.le_of_ble_eq_true rfl⟩ dX9_readTest_132 (fun S34 h => ?_)
          refine V_aload_n C 0 dX9_readTest_135 rfl rfl ?_
          refine V_ga C 56 (by decide) (by decide) F_9_0 k_RX9_15 dX9_readTest_136 ?_
          refine V_callVi (As := []) (rest := []) C (c_X6_number (v_l X) G  _ h) 5 6 (by decide) (by decide) (by decide) rfl KV_X6_number k_RX9_121 rfl rfl rfl (Nat.le_of_ble_eq_true rfl) ⟨Nat.le_of_ble_eq_true rfl, Nat.le_of_ble_eq_true rfl⟩ dX9_readTest_139 (fun r36 S35 h => ?_)
          refine V_istore_n (lv' := [(0, .ref (G.1 56)), (1, .int x1), (2, .int r36)]) C [1, 2, 0] dX9_readTest_142 rfl (by decide) rfl ?_
          refine V_aload_n C 0 dX9_readTest_143 rfl rfl ?_
          refine V_ga C 56 (by decide) (by decide) F_9_0 k_RX9_15 dX9_readTest_144 ?_
          refine V_iconst (v := 0) C dX9_readTest_147 (by decide) ?_
          refine V_sipush (v := 9999) C dX9_readTest_148 (by decide) ?_
          refine V_callVz (As := [.int 0, .int 9999]) (rest := []) C (c_X6_takeNumber (v_l X) G  _ _ _ h) 5 6 (by decide) (by decide) (by decide) rfl KV_X6_takeNumber k_RX9_117 rfl rfl rfl (Nat.le_of_ble_eq_true rfl) ⟨Nat.le_of_ble_eq_true rfl, Nat.le_of_ble_eq_true rfl⟩ dX9_readTest_151 (fun r38 S37 h => ?_)
          refine V_ifb_ne (tgt := 159) C dX9_readTest_154 (by decide) (fun c => ?_) (fun c => ?_)
          · have h := h.1 c
            refine V_aload_n C 0 dX9_readTest_159 rfl rfl ?_
            refine V_aload_n C 0 dX9_readTest_160 rfl rfl ?_
            refine V_ga C 56 (by decide) (by decide) F_9_2 k_RX9_23 dX9_readTest_161 ?_
            refine V_bipush (v := 16) C dX9_readTest_164 (by decide) ?_
            refine V_aload_n C 0 dX9_readTest_166 rfl rfl ?_
            refine V_gi C 56 (by decide) (by decide) F_9_5 k_RX9_108 dX9_readTest_167 ?_
            refine V_iload_n C 2 dX9_readTest_170 rfl rfl ?_
            refine V_aload_n C 0 dX9_readTest_171 rfl rfl ?_
            refine V_ga C 56 (by decide) (by decide) F_9_0 k_RX9_15 dX9_readTest_172 ?_
            refine V_callVi (As := []) (rest := [.int r36, .int (S37.1 56 5), .int 16, .ref (G.1 47), .ref (G.1 56)]) C (c_X6_number (v_l X) G  _ h) 5 6 (by decide) (by decide) (by decide) rfl KV_X6_number k_RX9_121 rfl rfl rfl (Nat.le_of_ble_eq_true rfl) ⟨Nat.le_of_ble_eq_true rfl, Nat.le_of_ble_eq_true rfl⟩ dX9_readTest_175 (fun r40 S39 h => ?_)
            refine V_callVi (As := [.int 16, .int (S37.1 56 5), .int r36, .int r40]) (rest := [.ref (G.1 56)]) C (c_X8_add (v_l X) G v_i32 _ _ _ _ _ h) 47 8 (by decide) (by decide) (by decide) rfl KV_X8_add k_RX9_63 rfl rfl rfl (Nat.le_of_ble_eq_true rfl) ⟨Nat.le_of_ble_eq_true rfl, Nat.le_of_ble_eq_true rfl⟩ dX9_readTest_178 (fun r42 S41 h => ?_)
            refine V_callVv (As := [.int r42]) (rest := []) C (c_X9_open (v_l X) G  _ _ h) 56 9 (by decide) (by decide) (by decide) rfl KV_X9_open k_RX9_124 rfl rfl rfl (Nat.le_of_ble_eq_true rfl) ⟨Nat.le_of_ble_eq_true rfl, Nat.le_of_ble_eq_true rfl⟩ dX9_readTest_181 (fun S43 h => ?_)
            refine V_iconst (v := 1) C dX9_readTest_184 (by decide) ?_
            exact V_zret1 C D dX9_readTest_185 h
          · have h := h.2 c
            refine V_iconst (v := 0) C dX9_readTest_157 (by decide) ?_
            exact V_zret0 C D dX9_readTest_158 h
        · have h := h.2 c
          refine V_loc (lv' := [(0, .ref (G.1 56))]) [0] rfl ?_
          exact q_X9_readTest_119 C D  _ h
    · have h := h.2 c
      refine V_aload_n C 0 dX9_readTest_72 rfl rfl ?_
      refine V_aload_n C 0 dX9_readTest_73 rfl rfl ?_
      refine V_ga C 56 (by decide) (by decide) F_9_2 k_RX9_23 dX9_readTest_74 ?_
      refine V_bipush (v := 16) C dX9_readTest_77 (by decide) ?_
      refine V_aload_n C 0 dX9_readTest_79 rfl rfl ?_
      refine V_gi C 56 (by decide) (by decide) F_9_5 k_RX9_108 dX9_readTest_80 ?_
      refine V_iload_n C 1 dX9_readTest_83 rfl rfl ?_
      refine V_iconst (v := 0) C dX9_readTest_84 (by decide) ?_
      refine V_callVi (As := [.int 16, .int (S32.1 56 5), .int x1, .int 0]) (rest := [.ref (G.1 56)]) C (c_X8_add (v_l X) G v_i32 _ _ _ _ _ h) 47 8 (by decide) (by decide) (by decide) rfl KV_X8_add k_RX9_63 rfl rfl rfl (Nat.le_of_ble_eq_true rfl) ⟨Nat.le_of_ble_eq_true rfl, Nat.le_of_ble_eq_true rfl⟩ dX9_readTest_85 (fun r45 S44 h => ?_)
      refine V_callVv (As := [.int r45]) (rest := []) C (c_X9_open (v_l X) G  _ _ h) 56 9 (by decide) (by decide) (by decide) rfl KV_X9_open k_RX9_124 rfl rfl rfl (Nat.le_of_ble_eq_true rfl) ⟨Nat.le_of_ble_eq_true rfl, Nat.le_of_ble_eq_true rfl⟩ dX9_readTest_88 (fun S46 h => ?_)
      refine V_iconst (v := 1) C dX9_readTest_91 (by decide) ?_
      exact V_zret1 C D dX9_readTest_92 h
  · have h := h.2 c
    refine V_iconst (v := 0) C dX9_readTest_65 (by decide) ?_
    exact V_zret0 C D dX9_readTest_66 h
set_option maxHeartbeats 4000000 in
set_option maxRecDepth 100000 in
theorem q_X9_readTest_34 {X : vX} {G : vG}  {post : Bool → vSt → Prop} (C : v_Cx X G cX9_readTest RX9 3 (v_rm 3 104)) (D : v_Rx X G (v_Qz G post) (some .boolean))     : ∀ (S : vSt) (x1 : Int32), p_X9_readTest_34  post S x1 → VJ X G S 34 [(0, .ref (G.1 56)), (1, .int x1)] [] := by
  intro S x1 h
  refine V_aload_n C 0 dX9_readTest_34 rfl rfl ?_
  refine V_ga C 56 (by decide) (by decide) F_9_0 k_RX9_15 dX9_readTest_35 ?_
  refine V_callVv (As := []) (rest := []) C (c_X6_pass (v_l X) G  _ h) 5 6 (by decide) (by decide) (by decide) rfl KV_X6_pass k_RX9_71 rfl rfl rfl (Nat.le_of_ble_eq_true rfl) ⟨Nat.le_of_ble_eq_true rfl, Nat.le_of_ble_eq_true rfl⟩ dX9_readTest_38 (fun S29 h => ?_)
  refine V_aload_n C 0 dX9_readTest_41 rfl rfl ?_
  refine V_iload_n C 1 dX9_readTest_42 rfl rfl ?_
  refine V_bipush (v := 17) C dX9_readTest_43 (by decide) ?_
  refine V_icmp_ne (tgt := 55) C dX9_readTest_45 (by decide) (fun c => ?_) (fun c => ?_)
  · have h := h.1 c
    refine V_aload_n C 0 dX9_readTest_55 rfl rfl ?_
    refine V_callVi (As := []) (rest := [.ref (G.1 56)]) C (c_X9_personNow (v_l X) G  _ h) 56 9 (by decide) (by decide) (by decide) rfl KV_X9_personNow k_RX9_102 rfl rfl rfl (Nat.le_of_ble_eq_true rfl) ⟨Nat.le_of_ble_eq_true rfl, Nat.le_of_ble_eq_true rfl⟩ dX9_readTest_56 (fun r31 S30 h => ?_)
    exact q_X9_readTest_59 C D  _ _ _ h
  · have h := h.2 c
    refine V_aload_n C 0 dX9_readTest_48 rfl rfl ?_
    refine V_callVi (As := []) (rest := [.ref (G.1 56)]) C (c_X9_deedNow (v_l X) G  _ h) 56 9 (by decide) (by decide) (by decide) rfl KV_X9_deedNow k_RX9_111 rfl rfl rfl (Nat.le_of_ble_eq_true rfl) ⟨Nat.le_of_ble_eq_true rfl, Nat.le_of_ble_eq_true rfl⟩ dX9_readTest_49 (fun r33 S32 h => ?_)
    refine V_goto (tgt := 59) C dX9_readTest_52 (by decide) ?_
    exact q_X9_readTest_59 C D  _ _ _ h
set_option maxHeartbeats 4000000 in
set_option maxRecDepth 100000 in
theorem c_X9_readTest (l : Launch) (G : vG)    {S : vSt}  (post : Bool → vSt → Prop) (h : p_X9_readTest   S  post) : Met l yX9_readTest (v_ws yX9_readTest cX9_readTest 3 (some .boolean)) (v_rm 3 104) (v_Pc G [.ref (G.1 56)] S) (v_Qz G post) 0 0 (v_A G) := by
  refine v_start (by decide +kernel) (Nat.le_of_ble_eq_true rfl) (fun X hl C D => ?_)
  subst hl
  have C : v_Cx X G cX9_readTest RX9 3 (v_rm 3 104) := C
  show VJ X G S 0 [(0, .ref (G.1 56))] []
  refine V_aload_n C 0 dX9_readTest_0 rfl rfl ?_
  refine V_ga C 56 (by decide) (by decide) F_9_0 k_RX9_15 dX9_readTest_1 ?_
  refine V_callVi (As := []) (rest := []) C (c_X6_wordNow (v_l X) G  _ h) 5 6 (by decide) (by decide) (by decide) rfl KV_X6_wordNow k_RX9_77 rfl rfl rfl (Nat.le_of_ble_eq_true rfl) ⟨Nat.le_of_ble_eq_true rfl, Nat.le_of_ble_eq_true rfl⟩ dX9_readTest_4 (fun r28 S27 h => ?_)
  refine V_istore_n (lv' := [(0, .ref (G.1 56)), (1, .int r28)]) C [1, 0] dX9_readTest_7 rfl (by decide) rfl ?_
  refine V_iload_n C 1 dX9_readTest_8 rfl rfl ?_
  refine V_bipush (v := 17) C dX9_readTest_9 (by decide) ?_
  refine V_icmp_eq (tgt := 34) C dX9_readTest_11 (by decide) (fun c => ?_) (fun c => ?_)
  · have h := h.1 c
    exact q_X9_readTest_34 C D  _ _ h
  · have h := h.2 c
    refine V_iload_n C 1 dX9_readTest_14 rfl rfl ?_
    refine V_bipush (v := 18) C dX9_readTest_15 (by decide) ?_
    refine V_icmp_eq (tgt := 34) C dX9_readTest_17 (by decide) (fun c => ?_) (fun c => ?_)
    · have h := h.1 c
      exact q_X9_readTest_34 C D  _ _ h
    · have h := h.2 c
      refine V_iload_n C 1 dX9_readTest_20 rfl rfl ?_
      refine V_iconst (v := 5) C dX9_readTest_21 (by decide) ?_
      refine V_icmp_eq (tgt := 34) C dX9_readTest_22 (by decide) (fun c => ?_) (fun c => ?_)
      · have h := h.1 c
        exact q_X9_readTest_34 C D  _ _ h
      · have h := h.2 c
        refine V_aload_n C 0 dX9_readTest_25 rfl rfl ?_
        refine V_ga C 56 (by decide) (by decide) F_9_0 k_RX9_15 dX9_readTest_26 ?_
        refine V_iconst (v := 2) C dX9_readTest_29 (by decide) ?_
        refine V_callVz (As := [.int 2]) (rest := []) C (c_X6_blame (v_l X) G  _ _ h) 5 6 (by decide) (by decide) (by decide) rfl KV_X6_blame k_RX9_56 rfl rfl rfl (Nat.le_of_ble_eq_true rfl) ⟨Nat.le_of_ble_eq_true rfl, Nat.le_of_ble_eq_true rfl⟩ dX9_readTest_30 (fun r30 S29 h => ?_)
        exact V_zret C D dX9_readTest_33 h
/-! HalfAccuser$YearsReader.readStep()Z -/
theorem dX9_readStep_0 : decode cX9_readStep 0 = .ok ((.aload_n 0), 1) := by decide +kernel
theorem dX9_readStep_1 : decode cX9_readStep 1 = .ok ((.getfield 15), 3) := by decide +kernel
theorem dX9_readStep_4 : decode cX9_readStep 4 = .ok ((.invokevirtual 77), 3) := by decide +kernel
theorem dX9_readStep_7 : decode cX9_readStep 7 = .ok ((.istore_n 1), 1) := by decide +kernel
theorem dX9_readStep_8 : decode cX9_readStep 8 = .ok ((.iload_n 1), 1) := by decide +kernel
theorem dX9_readStep_9 : decode cX9_readStep 9 = .ok ((.invokestatic 81), 3) := by decide +kernel
theorem dX9_readStep_12 : decode cX9_readStep 12 = .ok ((.ifCond .ne 12), 3) := by decide +kernel
theorem dX9_readStep_15 : decode cX9_readStep 15 = .ok ((.aload_n 0), 1) := by decide +kernel
theorem dX9_readStep_16 : decode cX9_readStep 16 = .ok ((.getfield 15), 3) := by decide +kernel
theorem dX9_readStep_19 : decode cX9_readStep 19 = .ok ((.iconst 2), 1) := by decide +kernel
theorem dX9_readStep_20 : decode cX9_readStep 20 = .ok ((.invokevirtual 56), 3) := by decide +kernel
theorem dX9_readStep_23 : decode cX9_readStep 23 = .ok (.ireturn, 1) := by decide +kernel
theorem dX9_readStep_24 : decode cX9_readStep 24 = .ok ((.aload_n 0), 1) := by decide +kernel
theorem dX9_readStep_25 : decode cX9_readStep 25 = .ok ((.getfield 23), 3) := by decide +kernel
theorem dX9_readStep_28 : decode cX9_readStep 28 = .ok ((.getfield 84), 3) := by decide +kernel
theorem dX9_readStep_31 : decode cX9_readStep 31 = .ok ((.bipush 30), 2) := by decide +kernel
theorem dX9_readStep_33 : decode cX9_readStep 33 = .ok ((.if_icmp .lt 13), 3) := by decide +kernel
theorem dX9_readStep_36 : decode cX9_readStep 36 = .ok ((.aload_n 0), 1) := by decide +kernel
theorem dX9_readStep_37 : decode cX9_readStep 37 = .ok ((.getfield 15), 3) := by decide +kernel
theorem dX9_readStep_40 : decode cX9_readStep 40 = .ok ((.bipush 6), 2) := by decide +kernel
theorem dX9_readStep_42 : decode cX9_readStep 42 = .ok ((.invokevirtual 56), 3) := by decide +kernel
theorem dX9_readStep_45 : decode cX9_readStep 45 = .ok (.ireturn, 1) := by decide +kernel
theorem dX9_readStep_46 : decode cX9_readStep 46 = .ok ((.iload_n 1), 1) := by decide +kernel
theorem dX9_readStep_47 : decode cX9_readStep 47 = .ok ((.bipush 16), 2) := by decide +kernel
theorem dX9_readStep_49 : decode cX9_readStep 49 = .ok ((.if_icmp .eq 9), 3) := by decide +kernel
theorem dX9_readStep_52 : decode cX9_readStep 52 = .ok ((.iload_n 1), 1) := by decide +kernel
theorem dX9_readStep_53 : decode cX9_readStep 53 = .ok ((.bipush 19), 2) := by decide +kernel
theorem dX9_readStep_55 : decode cX9_readStep 55 = .ok ((.if_icmp .ne 21), 3) := by decide +kernel
theorem dX9_readStep_58 : decode cX9_readStep 58 = .ok ((.aload_n 0), 1) := by decide +kernel
theorem dX9_readStep_59 : decode cX9_readStep 59 = .ok ((.getfield 36), 3) := by decide +kernel
theorem dX9_readStep_62 : decode cX9_readStep 62 = .ok ((.iconst 3), 1) := by decide +kernel
theorem dX9_readStep_63 : decode cX9_readStep 63 = .ok ((.if_icmp .lt 13), 3) := by decide +kernel
theorem dX9_readStep_66 : decode cX9_readStep 66 = .ok ((.aload_n 0), 1) := by decide +kernel
theorem dX9_readStep_67 : decode cX9_readStep 67 = .ok ((.getfield 15), 3) := by decide +kernel
theorem dX9_readStep_70 : decode cX9_readStep 70 = .ok ((.bipush 7), 2) := by decide +kernel
theorem dX9_readStep_72 : decode cX9_readStep 72 = .ok ((.invokevirtual 56), 3) := by decide +kernel
theorem dX9_readStep_75 : decode cX9_readStep 75 = .ok (.ireturn, 1) := by decide +kernel
theorem dX9_readStep_76 : decode cX9_readStep 76 = .ok ((.aload_n 0), 1) := by decide +kernel
theorem dX9_readStep_77 : decode cX9_readStep 77 = .ok ((.getfield 15), 3) := by decide +kernel
theorem dX9_readStep_80 : decode cX9_readStep 80 = .ok ((.invokevirtual 71), 3) := by decide +kernel
theorem dX9_readStep_83 : decode cX9_readStep 83 = .ok ((.iconst 1), 1) := by decide +kernel
theorem dX9_readStep_84 : decode cX9_readStep 84 = .ok ((.istore_n 2), 1) := by decide +kernel
theorem dX9_readStep_85 : decode cX9_readStep 85 = .ok ((.iload_n 1), 1) := by decide +kernel
theorem dX9_readStep_86 : decode cX9_readStep 86 = .ok ((.tableswitch 90 11 19 #[50, 58, 90, 66, 90, 74, 90, 90, 82]), 50) := by decide +kernel
theorem dX9_readStep_136 : decode cX9_readStep 136 = .ok ((.aload_n 0), 1) := by decide +kernel
theorem dX9_readStep_137 : decode cX9_readStep 137 = .ok ((.invokevirtual 87), 3) := by decide +kernel
theorem dX9_readStep_140 : decode cX9_readStep 140 = .ok ((.istore_n 2), 1) := by decide +kernel
theorem dX9_readStep_141 : decode cX9_readStep 141 = .ok ((.goto 47), 3) := by decide +kernel
theorem dX9_readStep_144 : decode cX9_readStep 144 = .ok ((.aload_n 0), 1) := by decide +kernel
theorem dX9_readStep_145 : decode cX9_readStep 145 = .ok ((.invokevirtual 90), 3) := by decide +kernel
theorem dX9_readStep_148 : decode cX9_readStep 148 = .ok ((.istore_n 2), 1) := by decide +kernel
theorem dX9_readStep_149 : decode cX9_readStep 149 = .ok ((.goto 39), 3) := by decide +kernel
theorem dX9_readStep_152 : decode cX9_readStep 152 = .ok ((.aload_n 0), 1) := by decide +kernel
theorem dX9_readStep_153 : decode cX9_readStep 153 = .ok ((.invokevirtual 93), 3) := by decide +kernel
theorem dX9_readStep_156 : decode cX9_readStep 156 = .ok ((.istore_n 2), 1) := by decide +kernel
theorem dX9_readStep_157 : decode cX9_readStep 157 = .ok ((.goto 31), 3) := by decide +kernel
theorem dX9_readStep_160 : decode cX9_readStep 160 = .ok ((.aload_n 0), 1) := by decide +kernel
theorem dX9_readStep_161 : decode cX9_readStep 161 = .ok ((.invokevirtual 96), 3) := by decide +kernel
theorem dX9_readStep_164 : decode cX9_readStep 164 = .ok ((.istore_n 2), 1) := by decide +kernel
theorem dX9_readStep_165 : decode cX9_readStep 165 = .ok ((.goto 23), 3) := by decide +kernel
theorem dX9_readStep_168 : decode cX9_readStep 168 = .ok ((.aload_n 0), 1) := by decide +kernel
theorem dX9_readStep_169 : decode cX9_readStep 169 = .ok ((.invokevirtual 99), 3) := by decide +kernel
theorem dX9_readStep_172 : decode cX9_readStep 172 = .ok ((.istore_n 2), 1) := by decide +kernel
theorem dX9_readStep_173 : decode cX9_readStep 173 = .ok ((.goto 15), 3) := by decide +kernel
theorem dX9_readStep_176 : decode cX9_readStep 176 = .ok ((.aload_n 0), 1) := by decide +kernel
theorem dX9_readStep_177 : decode cX9_readStep 177 = .ok ((.getfield 23), 3) := by decide +kernel
theorem dX9_readStep_180 : decode cX9_readStep 180 = .ok ((.iload_n 1), 1) := by decide +kernel
theorem dX9_readStep_181 : decode cX9_readStep 181 = .ok ((.iconst (-1)), 1) := by decide +kernel
theorem dX9_readStep_182 : decode cX9_readStep 182 = .ok ((.iconst (-1)), 1) := by decide +kernel
theorem dX9_readStep_183 : decode cX9_readStep 183 = .ok ((.iconst 0), 1) := by decide +kernel
theorem dX9_readStep_184 : decode cX9_readStep 184 = .ok ((.invokevirtual 63), 3) := by decide +kernel
theorem dX9_readStep_187 : decode cX9_readStep 187 = .ok (.pop, 1) := by decide +kernel
theorem dX9_readStep_188 : decode cX9_readStep 188 = .ok ((.iload_n 2), 1) := by decide +kernel
theorem dX9_readStep_189 : decode cX9_readStep 189 = .ok ((.ifCond .eq 17), 3) := by decide +kernel
theorem dX9_readStep_192 : decode cX9_readStep 192 = .ok ((.aload_n 0), 1) := by decide +kernel
theorem dX9_readStep_193 : decode cX9_readStep 193 = .ok ((.getfield 15), 3) := by decide +kernel
theorem dX9_readStep_196 : decode cX9_readStep 196 = .ok ((.invokevirtual 74), 3) := by decide +kernel
theorem dX9_readStep_199 : decode cX9_readStep 199 = .ok ((.ifCond .eq 7), 3) := by decide +kernel
theorem dX9_readStep_202 : decode cX9_readStep 202 = .ok ((.iconst 1), 1) := by decide +kernel
theorem dX9_readStep_203 : decode cX9_readStep 203 = .ok ((.goto 4), 3) := by decide +kernel
theorem dX9_readStep_206 : decode cX9_readStep 206 = .ok ((.iconst 0), 1) := by decide +kernel
theorem dX9_readStep_207 : decode cX9_readStep 207 = .ok (.ireturn, 1) := by decide +kernel
def p_X9_readStep_188     (post : Bool → vSt → Prop) (S : vSt) (x2 : Bool) : Prop := ((x2 = false → post false S) ∧ (x2 = true → p_X6_takeSemicolon  S  (fun r42 S41 => ((r42 = false → post false S41) ∧ (r42 = true → post true S41)))))
def p_X9_readStep_76     (post : Bool → vSt → Prop) (S : vSt) (x1 : Int32) : Prop := p_X6_pass  S  (fun S38 => ((x1 = 11 → p_X9_readCharge  S38  (fun r40 S39 => p_X9_readStep_188  post S39 r40)) ∧ ((x1 = 12 → p_X9_readDrop  S38  (fun r42 S41 => p_X9_readStep_188  post S41 r42)) ∧ ((x1 = 13 → p_X8_add 32 S38 x1 (-1) (-1) 0 (fun r44 S43 => p_X9_readStep_188  post S43 true)) ∧ ((x1 = 14 → p_X9_readEarn  S38  (fun r46 S45 => p_X9_readStep_188  post S45 r46)) ∧ ((x1 = 15 → p_X8_add 32 S38 x1 (-1) (-1) 0 (fun r48 S47 => p_X9_readStep_188  post S47 true)) ∧ ((x1 = 16 → p_X9_readTest  S38  (fun r50 S49 => p_X9_readStep_188  post S49 r50)) ∧ ((x1 = 17 → p_X8_add 32 S38 x1 (-1) (-1) 0 (fun r52 S51 => p_X9_readStep_188  post S51 true)) ∧ ((x1 = 18 → p_X8_add 32 S38 x1 (-1) (-1) 0 (fun r54 S53 => p_X9_readStep_188  post S53 true)) ∧ ((x1 = 19 → p_X9_readLoop  S38  (fun r56 S55 => p_X9_readStep_188  post S55 r56)) ∧ (x1 < 11 ∨ 19 < x1 → p_X8_add 32 S38 x1 (-1) (-1) 0 (fun r58 S57 => p_X9_readStep_188  post S57 true))))))))))))
def p_X9_readStep_58     (post : Bool → vSt → Prop) (S : vSt) (x1 : Int32) : Prop := (((S.1 56 4) < 3 → p_X9_readStep_76  post S x1) ∧ (¬ (S.1 56 4) < 3 → p_X6_blame  S 7 (fun r39 S38 => post r39 S38)))
def p_X9_readStep   (S : vSt)  (post : Bool → vSt → Prop) : Prop := p_X6_wordNow  S  (fun r35 S34 => p_X9_beginsStep  S34 r35 (fun r37 S36 => ((r37 = true → (((S36.1 47 7) < 30 → ((r35 = 16 → p_X9_readStep_58  post S36 r35) ∧ (¬ r35 = 16 → ((¬ r35 = 19 → p_X9_readStep_76  post S36 r35) ∧ (r35 = 19 → p_X9_readStep_58  post S36 r35))))) ∧ (¬ (S36.1 47 7) < 30 → p_X6_blame  S36 6 (fun r39 S38 => post r39 S38)))) ∧ (r37 = false → p_X6_blame  S36 2 (fun r41 S40 => post r41 S40)))))
set_option maxHeartbeats 4000000 in
set_option maxRecDepth 100000 in
theorem q_X9_readStep_188 {X : vX} {G : vG}  {post : Bool → vSt → Prop} (C : v_Cx X G cX9_readStep RX9 3 (v_rm 4 126)) (D : v_Rx X G (v_Qz G post) (some .boolean))     : ∀ (S : vSt) (x2 : Bool), p_X9_readStep_188  post S x2 → VJ X G S 188 [(0, .ref (G.1 56)), (2, .int (v_b x2))] [] := by
  intro S x2 h
  refine V_iload_n C 1 dX9_readStep_188 rfl rfl ?_
  refine V_ifb_eq (tgt := 206) C dX9_readStep_189 (by decide) (fun c => ?_) (fun c => ?_)
  · have h := h.1 c
    refine V_iconst (v := 0) C dX9_readStep_206 (by decide) ?_
    exact V_zret0 C D dX9_readStep_207 h
  · have h := h.2 c
    refine V_aload_n C 0 dX9_readStep_192 rfl rfl ?_
    refine V_ga C 56 (by decide) (by decide) F_9_0 k_RX9_15 dX9_readStep_193 ?_
    refine V_callVz (As := []) (rest := []) C (c_X6_takeSemicolon (v_l X) G  _ h) 5 6 (by decide) (by decide) (by decide) rfl KV_X6_takeSemicolon k_RX9_74 rfl rfl rfl (Nat.le_of_ble_eq_true rfl) ⟨Nat.le_of_ble_eq_true rfl, Nat.le_of_ble_eq_true rfl⟩ dX9_readStep_196 (fun r42 S41 h => ?_)
    refine V_ifb_eq (tgt := 206) C dX9_readStep_199 (by decide) (fun c => ?_) (fun c => ?_)
    · have h := h.1 c
      refine V_iconst (v := 0) C dX9_readStep_206 (by decide) ?_
      exact V_zret0 C D dX9_readStep_207 h
    · have h := h.2 c
      refine V_iconst (v := 1) C dX9_readStep_202 (by decide) ?_
      refine V_goto (tgt := 207) C dX9_readStep_203 (by decide) ?_
      exact V_zret1 C D dX9_readStep_207 h
set_option maxHeartbeats 4000000 in
set_option maxRecDepth 100000 in
theorem q_X9_readStep_76 {X : vX} {G : vG}  {post : Bool → vSt → Prop} (C : v_Cx X G cX9_readStep RX9 3 (v_rm 4 126)) (D : v_Rx X G (v_Qz G post) (some .boolean))     : ∀ (S : vSt) (x1 : Int32), p_X9_readStep_76  post S x1 → VJ X G S 76 [(0, .ref (G.1 56)), (1, .int x1)] [] := by
  intro S x1 h
  refine V_aload_n C 0 dX9_readStep_76 rfl rfl ?_
  refine V_ga C 56 (by decide) (by decide) F_9_0 k_RX9_15 dX9_readStep_77 ?_
  refine V_callVv (As := []) (rest := []) C (c_X6_pass (v_l X) G  _ h) 5 6 (by decide) (by decide) (by decide) rfl KV_X6_pass k_RX9_71 rfl rfl rfl (Nat.le_of_ble_eq_true rfl) ⟨Nat.le_of_ble_eq_true rfl, Nat.le_of_ble_eq_true rfl⟩ dX9_readStep_80 (fun S38 h => ?_)
  refine V_iconst (v := 1) C dX9_readStep_83 (by decide) ?_
  refine V_istore_n (lv' := [(0, .ref (G.1 56)), (1, .int x1), (2, .int 1)]) C [1, 2, 0] dX9_readStep_84 rfl (by decide) rfl ?_
  refine V_iload_n C 1 dX9_readStep_85 rfl rfl ?_
  refine V_table (tgtd := 176) C dX9_readStep_86 (by decide) (fun c => ?_) (fun k hk c => ?_)
  · have h := h.2.2.2.2.2.2.2.2.2 (v_iout 11 19 c (by decide) (by decide))
    refine V_aload_n C 0 dX9_readStep_176 rfl rfl ?_
    refine V_ga C 56 (by decide) (by decide) F_9_2 k_RX9_23 dX9_readStep_177 ?_
    refine V_iload_n C 1 dX9_readStep_180 rfl rfl ?_
    refine V_iconst (v := (-1)) C dX9_readStep_181 (by decide) ?_
    refine V_iconst (v := (-1)) C dX9_readStep_182 (by decide) ?_
    refine V_iconst (v := 0) C dX9_readStep_183 (by decide) ?_
    refine V_callVi (As := [.int x1, .int (-1), .int (-1), .int 0]) (rest := []) C (c_X8_add (v_l X) G v_i32 _ _ _ _ _ h) 47 8 (by decide) (by decide) (by decide) rfl KV_X8_add k_RX9_63 rfl rfl rfl (Nat.le_of_ble_eq_true rfl) ⟨Nat.le_of_ble_eq_true rfl, Nat.le_of_ble_eq_true rfl⟩ dX9_readStep_184 (fun r58 S57 h => ?_)
    refine V_pop C dX9_readStep_187 rfl ?_
    refine V_loc (lv' := [(0, .ref (G.1 56)), (2, .int 1)]) [0, 2] rfl ?_
    exact q_X9_readStep_188 C D  _ _ h
  · have hk : k < 9 := hk
    rcases (show k = 0 ∨ k = 1 ∨ k = 2 ∨ k = 3 ∨ k = 4 ∨ k = 5 ∨ k = 6 ∨ k = 7 ∨ k = 8 by omega) with rfl | rfl | rfl | rfl | rfl | rfl | rfl | rfl | rfl
    · refine ⟨136, by decide, ?_⟩
      have h := h.1 (v_ieq 11 c (by decide))
      refine V_aload_n C 0 dX9_readStep_136 rfl rfl ?_
      refine V_callVz (As := []) (rest := []) C (c_X9_readCharge (v_l X) G  _ h) 56 9 (by decide) (by decide) (by decide) rfl KV_X9_readCharge k_RX9_87 rfl rfl rfl (Nat.le_of_ble_eq_true rfl) ⟨Nat.le_of_ble_eq_true rfl, Nat.le_of_ble_eq_true rfl⟩ dX9_readStep_137 (fun r40 S39 h => ?_)
      refine V_istore_n (lv' := [(0, .ref (G.1 56)), (1, .int x1), (2, .int (v_b r40))]) C [1, 2, 0] dX9_readStep_140 rfl (by decide) rfl ?_
      refine V_goto (tgt := 188) C dX9_readStep_141 (by decide) ?_
      refine V_loc (lv' := [(0, .ref (G.1 56)), (2, .int (v_b r40))]) [0, 2] rfl ?_
      exact q_X9_readStep_188 C D  _ _ h
    · refine ⟨144, by decide, ?_⟩
      have h := h.2.1 (v_ieq 12 c (by decide))
      refine V_aload_n C 0 dX9_readStep_144 rfl rfl ?_
      refine V_callVz (As := []) (rest := []) C (c_X9_readDrop (v_l X) G  _ h) 56 9 (by decide) (by decide) (by decide) rfl KV_X9_readDrop k_RX9_90 rfl rfl rfl (Nat.le_of_ble_eq_true rfl) ⟨Nat.le_of_ble_eq_true rfl, Nat.le_of_ble_eq_true rfl⟩ dX9_readStep_145 (fun r42 S41 h => ?_)
      refine V_istore_n (lv' := [(0, .ref (G.1 56)), (1, .int x1), (2, .int (v_b r42))]) C [1, 2, 0] dX9_readStep_148 rfl (by decide) rfl ?_
      refine V_goto (tgt := 188) C dX9_readStep_149 (by decide) ?_
      refine V_loc (lv' := [(0, .ref (G.1 56)), (2, .int (v_b r42))]) [0, 2] rfl ?_
      exact q_X9_readStep_188 C D  _ _ h
    · refine ⟨176, by decide, ?_⟩
      have h := h.2.2.1 (v_ieq 13 c (by decide))
      refine V_aload_n C 0 dX9_readStep_176 rfl rfl ?_
      refine V_ga C 56 (by decide) (by decide) F_9_2 k_RX9_23 dX9_readStep_177 ?_
      refine V_iload_n C 1 dX9_readStep_180 rfl rfl ?_
      refine V_iconst (v := (-1)) C dX9_readStep_181 (by decide) ?_
      refine V_iconst (v := (-1)) C dX9_readStep_182 (by decide) ?_
      refine V_iconst (v := 0) C dX9_readStep_183 (by decide) ?_
      refine V_callVi (As := [.int x1, .int (-1), .int (-1), .int 0]) (rest := []) C (c_X8_add (v_l X) G v_i32 _ _ _ _ _ h) 47 8 (by decide) (by decide) (by decide) rfl KV_X8_add k_RX9_63 rfl rfl rfl (Nat.le_of_ble_eq_true rfl) ⟨Nat.le_of_ble_eq_true rfl, Nat.le_of_ble_eq_true rfl⟩ dX9_readStep_184 (fun r44 S43 h => ?_)
      refine V_pop C dX9_readStep_187 rfl ?_
      refine V_loc (lv' := [(0, .ref (G.1 56)), (2, .int 1)]) [0, 2] rfl ?_
      exact q_X9_readStep_188 C D  _ _ h
    · refine ⟨152, by decide, ?_⟩
      have h := h.2.2.2.1 (v_ieq 14 c (by decide))
      refine V_aload_n C 0 dX9_readStep_152 rfl rfl ?_
      refine V_callVz (As := []) (rest := []) C (c_X9_readEarn (v_l X) G  _ h) 56 9 (by decide) (by decide) (by decide) rfl KV_X9_readEarn k_RX9_93 rfl rfl rfl (Nat.le_of_ble_eq_true rfl) ⟨Nat.le_of_ble_eq_true rfl, Nat.le_of_ble_eq_true rfl⟩ dX9_readStep_153 (fun r46 S45 h => ?_)
      refine V_istore_n (lv' := [(0, .ref (G.1 56)), (1, .int x1), (2, .int (v_b r46))]) C [1, 2, 0] dX9_readStep_156 rfl (by decide) rfl ?_
      refine V_goto (tgt := 188) C dX9_readStep_157 (by decide) ?_
      refine V_loc (lv' := [(0, .ref (G.1 56)), (2, .int (v_b r46))]) [0, 2] rfl ?_
      exact q_X9_readStep_188 C D  _ _ h
    · refine ⟨176, by decide, ?_⟩
      have h := h.2.2.2.2.1 (v_ieq 15 c (by decide))
      refine V_aload_n C 0 dX9_readStep_176 rfl rfl ?_
      refine V_ga C 56 (by decide) (by decide) F_9_2 k_RX9_23 dX9_readStep_177 ?_
      refine V_iload_n C 1 dX9_readStep_180 rfl rfl ?_
      refine V_iconst (v := (-1)) C dX9_readStep_181 (by decide) ?_
      refine V_iconst (v := (-1)) C dX9_readStep_182 (by decide) ?_
      refine V_iconst (v := 0) C dX9_readStep_183 (by decide) ?_
      refine V_callVi (As := [.int x1, .int (-1), .int (-1), .int 0]) (rest := []) C (c_X8_add (v_l X) G v_i32 _ _ _ _ _ h) 47 8 (by decide) (by decide) (by decide) rfl KV_X8_add k_RX9_63 rfl rfl rfl (Nat.le_of_ble_eq_true rfl) ⟨Nat.le_of_ble_eq_true rfl, Nat.le_of_ble_eq_true rfl⟩ dX9_readStep_184 (fun r48 S47 h => ?_)
      refine V_pop C dX9_readStep_187 rfl ?_
      refine V_loc (lv' := [(0, .ref (G.1 56)), (2, .int 1)]) [0, 2] rfl ?_
      exact q_X9_readStep_188 C D  _ _ h
    · refine ⟨160, by decide, ?_⟩
      have h := h.2.2.2.2.2.1 (v_ieq 16 c (by decide))
      refine V_aload_n C 0 dX9_readStep_160 rfl rfl ?_
      refine V_callVz (As := []) (rest := []) C (c_X9_readTest (v_l X) G  _ h) 56 9 (by decide) (by decide) (by decide) rfl KV_X9_readTest k_RX9_96 rfl rfl rfl (Nat.le_of_ble_eq_true rfl) ⟨Nat.le_of_ble_eq_true rfl, Nat.le_of_ble_eq_true rfl⟩ dX9_readStep_161 (fun r50 S49 h => ?_)
      refine V_istore_n (lv' := [(0, .ref (G.1 56)), (1, .int x1), (2, .int (v_b r50))]) C [1, 2, 0] dX9_readStep_164 rfl (by decide) rfl ?_
      refine V_goto (tgt := 188) C dX9_readStep_165 (by decide) ?_
      refine V_loc (lv' := [(0, .ref (G.1 56)), (2, .int (v_b r50))]) [0, 2] rfl ?_
      exact q_X9_readStep_188 C D  _ _ h
    · refine ⟨176, by decide, ?_⟩
      have h := h.2.2.2.2.2.2.1 (v_ieq 17 c (by decide))
      refine V_aload_n C 0 dX9_readStep_176 rfl rfl ?_
      refine V_ga C 56 (by decide) (by decide) F_9_2 k_RX9_23 dX9_readStep_177 ?_
      refine V_iload_n C 1 dX9_readStep_180 rfl rfl ?_
      refine V_iconst (v := (-1)) C dX9_readStep_181 (by decide) ?_
      refine V_iconst (v := (-1)) C dX9_readStep_182 (by decide) ?_
      refine V_iconst (v := 0) C dX9_readStep_183 (by decide) ?_
      refine V_callVi (As := [.int x1, .int (-1), .int (-1), .int 0]) (rest := []) C (c_X8_add (v_l X) G v_i32 _ _ _ _ _ h) 47 8 (by decide) (by decide) (by decide) rfl KV_X8_add k_RX9_63 rfl rfl rfl (Nat.le_of_ble_eq_true rfl) ⟨Nat.le_of_ble_eq_true rfl, Nat.le_of_ble_eq_true rfl⟩ dX9_readStep_184 (fun r52 S51 h => ?_)
      refine V_pop C dX9_readStep_187 rfl ?_
      refine V_loc (lv' := [(0, .ref (G.1 56)), (2, .int 1)]) [0, 2] rfl ?_
      exact q_X9_readStep_188 C D  _ _ h
    · refine ⟨176, by decide, ?_⟩
      have h := h.2.2.2.2.2.2.2.1 (v_ieq 18 c (by decide))
      refine V_aload_n C 0 dX9_readStep_176 rfl rfl ?_
      refine V_ga C 56 (by decide) (by decide) F_9_2 k_RX9_23 dX9_readStep_177 ?_
      refine V_iload_n C 1 dX9_readStep_180 rfl rfl ?_
      refine V_iconst (v := (-1)) C dX9_readStep_181 (by decide) ?_
      refine V_iconst (v := (-1)) C dX9_readStep_182 (by decide) ?_
      refine V_iconst (v := 0) C dX9_readStep_183 (by decide) ?_
      refine V_callVi (As := [.int x1, .int (-1), .int (-1), .int 0]) (rest := []) C (c_X8_add (v_l X) G v_i32 _ _ _ _ _ h) 47 8 (by decide) (by decide) (by decide) rfl KV_X8_add k_RX9_63 rfl rfl rfl (Nat.le_of_ble_eq_true rfl) ⟨Nat.le_of_ble_eq_true rfl, Nat.le_of_ble_eq_true rfl⟩ dX9_readStep_184 (fun r54 S53 h => ?_)
      refine V_pop C dX9_readStep_187 rfl ?_
      refine V_loc (lv' := [(0, .ref (G.1 56)), (2, .int 1)]) [0, 2] rfl ?_
      exact q_X9_readStep_188 C D  _ _ h
    · refine ⟨168, by decide, ?_⟩
      have h := h.2.2.2.2.2.2.2.2.1 (v_ieq 19 c (by decide))
      refine V_aload_n C 0 dX9_readStep_168 rfl rfl ?_
      refine V_callVz (As := []) (rest := []) C (c_X9_readLoop (v_l X) G  _ h) 56 9 (by decide) (by decide) (by decide) rfl KV_X9_readLoop k_RX9_99 rfl rfl rfl (Nat.le_of_ble_eq_true rfl) ⟨Nat.le_of_ble_eq_true rfl, Nat.le_of_ble_eq_true rfl⟩ dX9_readStep_169 (fun r56 S55 h => ?_)
      refine V_istore_n (lv' := [(0, .ref (G.1 56)), (1, .int x1), (2, .int (v_b r56))]) C [1, 2, 0] dX9_readStep_172 rfl (by decide) rfl ?_
      refine V_goto (tgt := 188) C dX9_readStep_173 (by decide) ?_
      refine V_loc (lv' := [(0, .ref (G.1 56)), (2, .int (v_b r56))]) [0, 2] rfl ?_
      exact q_X9_readStep_188 C D  _ _ h
set_option maxHeartbeats 4000000 in
set_option maxRecDepth 100000 in
theorem q_X9_readStep_58 {X : vX} {G : vG}  {post : Bool → vSt → Prop} (C : v_Cx X G cX9_readStep RX9 3 (v_rm 4 126)) (D : v_Rx X G (v_Qz G post) (some .boolean))     : ∀ (S : vSt) (x1 : Int32), p_X9_readStep_58  post S x1 → VJ X G S 58 [(0, .ref (G.1 56)), (1, .int x1)] [] := by
  intro S x1 h
  refine V_aload_n C 0 dX9_readStep_58 rfl rfl ?_
  refine V_gi C 56 (by decide) (by decide) F_9_4 k_RX9_36 dX9_readStep_59 ?_
  refine V_iconst (v := 3) C dX9_readStep_62 (by decide) ?_
  refine V_icmp_lt (tgt := 76) C dX9_readStep_63 (by decide) (fun c => ?_) (fun c => ?_)
  · have h := h.1 c
    exact q_X9_readStep_76 C D  _ _ h
  · have h := h.2 c
    refine V_aload_n C 0 dX9_readStep_66 rfl rfl ?_
    refine V_ga C 56 (by decide) (by decide) F_9_0 k_RX9_15 dX9_readStep_67 ?_
    refine V_bipush (v := 7) C dX9_readStep_70 (by decide) ?_
    refine V_callVz (As := [.int 7]) (rest := []) C (c_X6_blame (v_l X) G  _ _ h) 5 6 (by decide) (by decide) (by decide) rfl KV_X6_blame k_RX9_56 rfl rfl rfl (Nat.le_of_ble_eq_true rfl) ⟨Nat.le_of_ble_eq_true rfl, Nat.le_of_ble_eq_true rfl⟩ dX9_readStep_72 (fun r39 S38 h => ?_)
    exact V_zret C D dX9_readStep_75 h
set_option maxHeartbeats 4000000 in
set_option maxRecDepth 100000 in
theorem c_X9_readStep (l : Launch) (G : vG)    {S : vSt}  (post : Bool → vSt → Prop) (h : p_X9_readStep   S  post) : Met l yX9_readStep (v_ws yX9_readStep cX9_readStep 3 (some .boolean)) (v_rm 4 126) (v_Pc G [.ref (G.1 56)] S) (v_Qz G post) 0 0 (v_A G) := by
  refine v_start (by decide +kernel) (Nat.le_of_ble_eq_true rfl) (fun X hl C D => ?_)
  subst hl
  have C : v_Cx X G cX9_readStep RX9 3 (v_rm 4 126) := C
  show VJ X G S 0 [(0, .ref (G.1 56))] []
  refine V_aload_n C 0 dX9_readStep_0 rfl rfl ?_
  refine V_ga C 56 (by decide) (by decide) F_9_0 k_RX9_15 dX9_readStep_1 ?_
  refine V_callVi (As := []) (rest := []) C (c_X6_wordNow (v_l X) G  _ h) 5 6 (by decide) (by decide) (by decide) rfl KV_X6_wordNow k_RX9_77 rfl rfl rfl (Nat.le_of_ble_eq_true rfl) ⟨Nat.le_of_ble_eq_true rfl, Nat.le_of_ble_eq_true rfl⟩ dX9_readStep_4 (fun r35 S34 h => ?_)
  refine V_istore_n (lv' := [(0, .ref (G.1 56)), (1, .int r35)]) C [1, 0] dX9_readStep_7 rfl (by decide) rfl ?_
  refine V_iload_n C 1 dX9_readStep_8 rfl rfl ?_
  refine V_callSz (As := [.int r35]) (rest := []) C (c_X9_beginsStep (v_l X) G  _ _ h) KV_X9_beginsStep k_RX9_81 rfl rfl rfl (Nat.le_of_ble_eq_true rfl) ⟨Nat.le_of_ble_eq_true rfl, Nat.le_of_ble_eq_true rfl⟩ dX9_readStep_9 (fun r37 S36 h => ?_)
  refine V_ifb_ne (tgt := 24) C dX9_readStep_12 (by decide) (fun c => ?_) (fun c => ?_)
  · have h := h.1 c
    refine V_aload_n C 0 dX9_readStep_24 rfl rfl ?_
    refine V_ga C 56 (by decide) (by decide) F_9_2 k_RX9_23 dX9_readStep_25 ?_
    refine V_gi C 47 (by decide) (by decide) F_8_7 k_RX9_84 dX9_readStep_28 ?_
    refine V_bipush (v := 30) C dX9_readStep_31 (by decide) ?_
    refine V_icmp_lt (tgt := 46) C dX9_readStep_33 (by decide) (fun c => ?_) (fun c => ?_)
    · have h := h.1 c
      refine V_iload_n C 1 dX9_readStep_46 rfl rfl ?_
      refine V_bipush (v := 16) C dX9_readStep_47 (by decide) ?_
      refine V_icmp_eq (tgt := 58) C dX9_readStep_49 (by decide) (fun c => ?_) (fun c => ?_)
      · have h := h.1 c
        exact q_X9_readStep_58 C D  _ _ h
      · have h := h.2 c
        refine V_iload_n C 1 dX9_readStep_52 rfl rfl ?_
        refine V_bipush (v := 19) C dX9_readStep_53 (by decide) ?_
        refine V_icmp_ne (tgt := 76) C dX9_readStep_55 (by decide) (fun c => ?_) (fun c => ?_)
        · have h := h.1 c
          exact q_X9_readStep_76 C D  _ _ h
        · have h := h.2 c
          exact q_X9_readStep_58 C D  _ _ h
    · have h := h.2 c
      refine V_aload_n C 0 dX9_readStep_36 rfl rfl ?_
      refine V_ga C 56 (by decide) (by decide) F_9_0 k_RX9_15 dX9_readStep_37 ?_
      refine V_bipush (v := 6) C dX9_readStep_40 (by decide) ?_
      refine V_callVz (As := [.int 6]) (rest := []) C (c_X6_blame (v_l X) G  _ _ h) 5 6 (by decide) (by decide) (by decide) rfl KV_X6_blame k_RX9_56 rfl rfl rfl (Nat.le_of_ble_eq_true rfl) ⟨Nat.le_of_ble_eq_true rfl, Nat.le_of_ble_eq_true rfl⟩ dX9_readStep_42 (fun r39 S38 h => ?_)
      exact V_zret C D dX9_readStep_45 h
  · have h := h.2 c
    refine V_aload_n C 0 dX9_readStep_15 rfl rfl ?_
    refine V_ga C 56 (by decide) (by decide) F_9_0 k_RX9_15 dX9_readStep_16 ?_
    refine V_iconst (v := 2) C dX9_readStep_19 (by decide) ?_
    refine V_callVz (As := [.int 2]) (rest := []) C (c_X6_blame (v_l X) G  _ _ h) 5 6 (by decide) (by decide) (by decide) rfl KV_X6_blame k_RX9_56 rfl rfl rfl (Nat.le_of_ble_eq_true rfl) ⟨Nat.le_of_ble_eq_true rfl, Nat.le_of_ble_eq_true rfl⟩ dX9_readStep_20 (fun r41 S40 h => ?_)
    exact V_zret C D dX9_readStep_23 h
/-! HalfAccuser$YearsReader.readText()Z -/
theorem dX9_readText_0 : decode cX9_readText 0 = .ok ((.aload_n 0), 1) := by decide +kernel
theorem dX9_readText_1 : decode cX9_readText 1 = .ok ((.getfield 23), 3) := by decide +kernel
theorem dX9_readText_4 : decode cX9_readText 4 = .ok ((.invokevirtual 27), 3) := by decide +kernel
theorem dX9_readText_7 : decode cX9_readText 7 = .ok ((.aload_n 0), 1) := by decide +kernel
theorem dX9_readText_8 : decode cX9_readText 8 = .ok ((.getfield 23), 3) := by decide +kernel
theorem dX9_readText_11 : decode cX9_readText 11 = .ok ((.iconst 1), 1) := by decide +kernel
theorem dX9_readText_12 : decode cX9_readText 12 = .ok ((.putfield 32), 3) := by decide +kernel
theorem dX9_readText_15 : decode cX9_readText 15 = .ok ((.aload_n 0), 1) := by decide +kernel
theorem dX9_readText_16 : decode cX9_readText 16 = .ok ((.iconst 0), 1) := by decide +kernel
theorem dX9_readText_17 : decode cX9_readText 17 = .ok ((.putfield 36), 3) := by decide +kernel
theorem dX9_readText_20 : decode cX9_readText 20 = .ok ((.iconst 0), 1) := by decide +kernel
theorem dX9_readText_21 : decode cX9_readText 21 = .ok ((.istore_n 1), 1) := by decide +kernel
theorem dX9_readText_22 : decode cX9_readText 22 = .ok ((.iload_n 1), 1) := by decide +kernel
theorem dX9_readText_23 : decode cX9_readText 23 = .ok ((.sipush 900), 3) := by decide +kernel
theorem dX9_readText_26 : decode cX9_readText 26 = .ok ((.if_icmp .gt 49), 3) := by decide +kernel
theorem dX9_readText_29 : decode cX9_readText 29 = .ok ((.aload_n 0), 1) := by decide +kernel
theorem dX9_readText_30 : decode cX9_readText 30 = .ok ((.getfield 15), 3) := by decide +kernel
theorem dX9_readText_33 : decode cX9_readText 33 = .ok ((.getfield 42), 3) := by decide +kernel
theorem dX9_readText_36 : decode cX9_readText 36 = .ok ((.ifCond .eq 39), 3) := by decide +kernel
theorem dX9_readText_39 : decode cX9_readText 39 = .ok ((.aload_n 0), 1) := by decide +kernel
theorem dX9_readText_40 : decode cX9_readText 40 = .ok ((.getfield 15), 3) := by decide +kernel
theorem dX9_readText_43 : decode cX9_readText 43 = .ok ((.bipush 20), 2) := by decide +kernel
theorem dX9_readText_45 : decode cX9_readText 45 = .ok ((.invokevirtual 45), 3) := by decide +kernel
theorem dX9_readText_48 : decode cX9_readText 48 = .ok ((.ifCond .eq 10), 3) := by decide +kernel
theorem dX9_readText_51 : decode cX9_readText 51 = .ok ((.aload_n 0), 1) := by decide +kernel
theorem dX9_readText_52 : decode cX9_readText 52 = .ok ((.invokevirtual 49), 3) := by decide +kernel
theorem dX9_readText_55 : decode cX9_readText 55 = .ok ((.goto 7), 3) := by decide +kernel
theorem dX9_readText_58 : decode cX9_readText 58 = .ok ((.aload_n 0), 1) := by decide +kernel
theorem dX9_readText_59 : decode cX9_readText 59 = .ok ((.invokevirtual 53), 3) := by decide +kernel
theorem dX9_readText_62 : decode cX9_readText 62 = .ok ((.istore_n 2), 1) := by decide +kernel
theorem dX9_readText_63 : decode cX9_readText 63 = .ok ((.iload_n 2), 1) := by decide +kernel
theorem dX9_readText_64 : decode cX9_readText 64 = .ok ((.ifCond .ne 5), 3) := by decide +kernel
theorem dX9_readText_67 : decode cX9_readText 67 = .ok ((.iconst 0), 1) := by decide +kernel
theorem dX9_readText_68 : decode cX9_readText 68 = .ok (.ireturn, 1) := by decide +kernel
theorem dX9_readText_69 : decode cX9_readText 69 = .ok ((.iinc 1 1), 3) := by decide +kernel
theorem dX9_readText_72 : decode cX9_readText 72 = .ok ((.goto (-50)), 3) := by decide +kernel
theorem dX9_readText_75 : decode cX9_readText 75 = .ok ((.aload_n 0), 1) := by decide +kernel
theorem dX9_readText_76 : decode cX9_readText 76 = .ok ((.getfield 36), 3) := by decide +kernel
theorem dX9_readText_79 : decode cX9_readText 79 = .ok ((.ifCond .eq 14), 3) := by decide +kernel
theorem dX9_readText_82 : decode cX9_readText 82 = .ok ((.aload_n 0), 1) := by decide +kernel
theorem dX9_readText_83 : decode cX9_readText 83 = .ok ((.getfield 15), 3) := by decide +kernel
theorem dX9_readText_86 : decode cX9_readText 86 = .ok ((.iconst 2), 1) := by decide +kernel
theorem dX9_readText_87 : decode cX9_readText 87 = .ok ((.invokevirtual 56), 3) := by decide +kernel
theorem dX9_readText_90 : decode cX9_readText 90 = .ok ((.ifCond .eq 7), 3) := by decide +kernel
theorem dX9_readText_93 : decode cX9_readText 93 = .ok ((.iconst 1), 1) := by decide +kernel
theorem dX9_readText_94 : decode cX9_readText 94 = .ok ((.goto 4), 3) := by decide +kernel
theorem dX9_readText_97 : decode cX9_readText 97 = .ok ((.iconst 0), 1) := by decide +kernel
theorem dX9_readText_98 : decode cX9_readText 98 = .ok (.ireturn, 1) := by decide +kernel
def p_X9_readText_75     (post : Bool → vSt → Prop) (S : vSt)  : Prop := (((S.1 56 4) = 0 → post true S) ∧ (¬ (S.1 56 4) = 0 → p_X6_blame  S 2 (fun r24 S23 => ((r24 = false → post false S23) ∧ (r24 = true → post true S23)))))
def p_X9_readText_62    (K22 : vSt → Int32 → Prop) (post : Bool → vSt → Prop) (S : vSt) (x1 : Int32) (s0 : Bool) : Prop := ((s0 = true → ∀ y27 : Int32, y27 = x1 + 1 → K22 S y27) ∧ (s0 = false → post false S))
def p_X9_readText_22     (post : Bool → vSt → Prop) : Nat → vSt → Int32 → Prop
  | 0 => fun _ _ => False
  | fu22 + 1 => fun S x1 => ((900 < x1 → p_X9_readText_75  post S ) ∧ (¬ 900 < x1 → (((S.1 5 7) = 0 → p_X9_readText_75  post S ) ∧ (¬ (S.1 5 7) = 0 → p_X6_isWord  S 20 (fun r24 S23 => ((r24 = false → p_X9_readStep  S23  (fun r26 S25 => p_X9_readText_62 (p_X9_readText_22  post fu22) post S25 x1 r26)) ∧ (r24 = true → p_X9_readEnd  S23  (fun r28 S27 => p_X9_readText_62 (p_X9_readText_22  post fu22) post S27 x1 r28))))))))
theorem e_X9_readText_22     (post : Bool → vSt → Prop) (fu22 : Nat) (S : vSt) (x1 : Int32) : p_X9_readText_22  post (fu22 + 1) S x1 = (((900 < x1 → p_X9_readText_75  post S ) ∧ (¬ 900 < x1 → (((S.1 5 7) = 0 → p_X9_readText_75  post S ) ∧ (¬ (S.1 5 7) = 0 → p_X6_isWord  S 20 (fun r24 S23 => ((r24 = false → p_X9_readStep  S23  (fun r26 S25 => p_X9_readText_62 (p_X9_readText_22  post fu22) post S25 x1 r26)) ∧ (r24 = true → p_X9_readEnd  S23  (fun r28 S27 => p_X9_readText_62 (p_X9_readText_22  post fu22) post S27 x1 r28))))))))) := rfl
def p_X9_readText   (S : vSt)  (post : Bool → vSt → Prop) : Prop := p_X8_clear 32 S  (fun S20 => ∀ S21, S21 = v_si S20 47 8 1 → ∀ S22, S22 = v_si S21 56 4 0 → ∃ fu22, p_X9_readText_22  post fu22 S22 0)
set_option maxHeartbeats 4000000 in
set_option maxRecDepth 100000 in
theorem q_X9_readText_75 {X : vX} {G : vG}  {post : Bool → vSt → Prop} (C : v_Cx X G cX9_readText RX9 3 (v_rm 5 148)) (D : v_Rx X G (v_Qz G post) (some .boolean))     : ∀ (S : vSt), p_X9_readText_75  post S  → VJ X G S 75 [(0, .ref (G.1 56))] [] := by
  intro S  h
  refine V_aload_n C 0 dX9_readText_75 rfl rfl ?_
  refine V_gi C 56 (by decide) (by decide) F_9_4 k_RX9_36 dX9_readText_76 ?_
  refine V_if_eq (tgt := 93) C dX9_readText_79 (by decide) (fun c => ?_) (fun c => ?_)
  · have h := h.1 c
    refine V_iconst (v := 1) C dX9_readText_93 (by decide) ?_
    refine V_goto (tgt := 98) C dX9_readText_94 (by decide) ?_
    exact V_zret1 C D dX9_readText_98 h
  · have h := h.2 c
    refine V_aload_n C 0 dX9_readText_82 rfl rfl ?_
    refine V_ga C 56 (by decide) (by decide) F_9_0 k_RX9_15 dX9_readText_83 ?_
    refine V_iconst (v := 2) C dX9_readText_86 (by decide) ?_
    refine V_callVz (As := [.int 2]) (rest := []) C (c_X6_blame (v_l X) G  _ _ h) 5 6 (by decide) (by decide) (by decide) rfl KV_X6_blame k_RX9_56 rfl rfl rfl (Nat.le_of_ble_eq_true rfl) ⟨Nat.le_of_ble_eq_true rfl, Nat.le_of_ble_eq_true rfl⟩ dX9_readText_87 (fun r24 S23 h => ?_)
    refine V_ifb_eq (tgt := 97) C dX9_readText_90 (by decide) (fun c => ?_) (fun c => ?_)
    · have h := h.1 c
      refine V_iconst (v := 0) C dX9_readText_97 (by decide) ?_
      exact V_zret0 C D dX9_readText_98 h
    · have h := h.2 c
      refine V_iconst (v := 1) C dX9_readText_93 (by decide) ?_
      refine V_goto (tgt := 98) C dX9_readText_94 (by decide) ?_
      exact V_zret1 C D dX9_readText_98 h
set_option maxHeartbeats 4000000 in
set_option maxRecDepth 100000 in
theorem q_X9_readText_62 {X : vX} {G : vG}  {post : Bool → vSt → Prop} (C : v_Cx X G cX9_readText RX9 3 (v_rm 5 148)) (D : v_Rx X G (v_Qz G post) (some .boolean))    {K22 : vSt → Int32 → Prop} (hK22 : ∀ S x1, K22 S x1 → VJ X G S 22 [(0, .ref (G.1 56)), (1, .int x1)] []) : ∀ (S : vSt) (x1 : Int32) (s0 : Bool), p_X9_readText_62 K22 post S x1 s0 → VJ X G S 62 [(0, .ref (G.1 56)), (1, .int x1)] [.int (v_b s0)] := by
  intro S x1 s0 h
  refine V_istore_n (lv' := [(0, .ref (G.1 56)), (1, .int x1), (2, .int (v_b s0))]) C [1, 2, 0] dX9_readText_62 rfl (by decide) rfl ?_
  refine V_iload_n C 2 dX9_readText_63 rfl rfl ?_
  refine V_ifb_ne (tgt := 69) C dX9_readText_64 (by decide) (fun c => ?_) (fun c => ?_)
  · have h := h.1 c
    obtain ⟨y27, ey27⟩ : ∃ z : Int32, z = x1 + 1 := ⟨_, rfl⟩
    have h := h y27 ey27
    refine V_iinc (lv' := [(0, .ref (G.1 56)), (1, .int y27), (2, .int (v_b s0))]) C 1 [1, 0, 2] y27 dX9_readText_69 rfl (by rw [ey27]; rfl) (by decide) rfl ?_
    refine V_goto (tgt := 22) C dX9_readText_72 (by decide) ?_
    refine V_loc (lv' := [(0, .ref (G.1 56)), (1, .int y27)]) [0, 1] rfl ?_
    exact hK22 _ _ h
  · have h := h.2 c
    refine V_iconst (v := 0) C dX9_readText_67 (by decide) ?_
    exact V_zret0 C D dX9_readText_68 h
set_option maxHeartbeats 4000000 in
set_option maxRecDepth 100000 in
theorem q_X9_readText_22 {X : vX} {G : vG}  {post : Bool → vSt → Prop} (C : v_Cx X G cX9_readText RX9 3 (v_rm 5 148)) (D : v_Rx X G (v_Qz G post) (some .boolean))     : ∀ (fu : Nat) (S : vSt) (x1 : Int32), p_X9_readText_22  post fu S x1 → VJ X G S 22 [(0, .ref (G.1 56)), (1, .int x1)] [] := by
  intro fu
  induction fu with
  | zero => intro S x1 h; exact absurd h id
  | succ fu ih =>
    intro S x1 h
    have hK22 := ih
    rw [e_X9_readText_22] at h
    refine V_iload_n C 1 dX9_readText_22 rfl rfl ?_
    refine V_sipush (v := 900) C dX9_readText_23 (by decide) ?_
    refine V_icmp_gt (tgt := 75) C dX9_readText_26 (by decide) (fun c => ?_) (fun c => ?_)
    · have h := h.1 c
      refine V_loc (lv' := [(0, .ref (G.1 56))]) [0] rfl ?_
      exact q_X9_readText_75 C D  _ h
    · have h := h.2 c
      refine V_aload_n C 0 dX9_readText_29 rfl rfl ?_
      refine V_ga C 56 (by decide) (by decide) F_9_0 k_RX9_15 dX9_readText_30 ?_
      refine V_gi C 5 (by decide) (by decide) F_6_7 k_RX9_42 dX9_readText_33 ?_
      refine V_if_eq (tgt := 75) C dX9_readText_36 (by decide) (fun c => ?_) (fun c => ?_)
      · have h := h.1 c
        refine V_loc (lv' := [(0, .ref (G.1 56))]) [0] rfl ?_
        exact q_X9_readText_75 C D  _ h
      · have h := h.2 c
        refine V_aload_n C 0 dX9_readText_39 rfl rfl ?_
        refine V_ga C 56 (by decide) (by decide) F_9_0 k_RX9_15 dX9_readText_40 ?_
        refine V_bipush (v := 20) C dX9_readText_43 (by decide) ?_
        refine V_callVz (As := [.int 20]) (rest := []) C (c_X6_isWord (v_l X) G  _ _ h) 5 6 (by decide) (by decide) (by decide) rfl KV_X6_isWord k_RX9_45 rfl rfl rfl (Nat.le_of_ble_eq_true rfl) ⟨Nat.le_of_ble_eq_true rfl, Nat.le_of_ble_eq_true rfl⟩ dX9_readText_45 (fun r24 S23 h => ?_)
        refine V_ifb_eq (tgt := 58) C dX9_readText_48 (by decide) (fun c => ?_) (fun c => ?_)
        · have h := h.1 c
          refine V_aload_n C 0 dX9_readText_58 rfl rfl ?_
          refine V_callVz (As := []) (rest := []) C (c_X9_readStep (v_l X) G  _ h) 56 9 (by decide) (by decide) (by decide) rfl KV_X9_readStep k_RX9_53 rfl rfl rfl (Nat.le_of_ble_eq_true rfl) ⟨Nat.le_of_ble_eq_true rfl, Nat.le_of_ble_eq_true rfl⟩ dX9_readText_59 (fun r26 S25 h => ?_)
          exact q_X9_readText_62 C D hK22 _ _ _ h
        · have h := h.2 c
          refine V_aload_n C 0 dX9_readText_51 rfl rfl ?_
          refine V_callVz (As := []) (rest := []) C (c_X9_readEnd (v_l X) G  _ h) 56 9 (by decide) (by decide) (by decide) rfl KV_X9_readEnd k_RX9_49 rfl rfl rfl (Nat.le_of_ble_eq_true rfl) ⟨Nat.le_of_ble_eq_true rfl, Nat.le_of_ble_eq_true rfl⟩ dX9_readText_52 (fun r28 S27 h => ?_)
          refine V_goto (tgt := 62) C dX9_readText_55 (by decide) ?_
          exact q_X9_readText_62 C D hK22 _ _ _ h
set_option maxHeartbeats 4000000 in
set_option maxRecDepth 100000 in
theorem c_X9_readText (l : Launch) (G : vG)    {S : vSt}  (post : Bool → vSt → Prop) (h : p_X9_readText   S  post) : Met l yX9_readText (v_ws yX9_readText cX9_readText 3 (some .boolean)) (v_rm 5 148) (v_Pc G [.ref (G.1 56)] S) (v_Qz G post) 0 0 (v_A G) := by
  refine v_start (by decide +kernel) (Nat.le_of_ble_eq_true rfl) (fun X hl C D => ?_)
  subst hl
  have C : v_Cx X G cX9_readText RX9 3 (v_rm 5 148) := C
  show VJ X G S 0 [(0, .ref (G.1 56))] []
  refine V_aload_n C 0 dX9_readText_0 rfl rfl ?_
  refine V_ga C 56 (by decide) (by decide) F_9_2 k_RX9_23 dX9_readText_1 ?_
  refine V_callVv (As := []) (rest := []) C (c_X8_clear (v_l X) G v_i32 _ h) 47 8 (by decide) (by decide) (by decide) rfl KV_X8_clear k_RX9_27 rfl rfl rfl (Nat.le_of_ble_eq_true rfl) ⟨Nat.le_of_ble_eq_true rfl, Nat.le_of_ble_eq_true rfl⟩ dX9_readText_4 (fun S20 h => ?_)
  refine V_aload_n C 0 dX9_readText_7 rfl rfl ?_
  refine V_ga C 56 (by decide) (by decide) F_9_2 k_RX9_23 dX9_readText_8 ?_
  refine V_iconst (v := 1) C dX9_readText_11 (by decide) ?_
  refine V_pz C 47 (by decide) (by decide) P_8_8 k_RX9_32 v_isb_1 dX9_readText_12 ?_
  refine V_topS (fun S21 eS21 => ?_)
  have h := h S21 eS21
  refine V_aload_n C 0 dX9_readText_15 rfl rfl ?_
  refine V_iconst (v := 0) C dX9_readText_16 (by decide) ?_
  refine V_pi C 56 (by decide) (by decide) P_9_4 k_RX9_36 dX9_readText_17 ?_
  refine V_topS (fun S22 eS22 => ?_)
  have h := h S22 eS22
  refine V_iconst (v := 0) C dX9_readText_20 (by decide) ?_
  refine V_istore_n (lv' := [(0, .ref (G.1 56)), (1, .int 0)]) C [1, 0] dX9_readText_21 rfl (by decide) rfl ?_
  obtain ⟨fu22, h⟩ := h
  exact q_X9_readText_22 C D  fu22 _ _ h
/-! HalfAccuser.status()I -/
theorem dX10_status_0 : decode cX10_status 0 = .ok ((.aload_n 0), 1) := by decide +kernel
theorem dX10_status_1 : decode cX10_status 1 = .ok ((.getfield 106), 3) := by decide +kernel
theorem dX10_status_4 : decode cX10_status 4 = .ok (.ireturn, 1) := by decide +kernel
def p_X10_status   (S : vSt)  (post : Int32 → vSt → Prop) : Prop := post (S.1 0 14) S
set_option maxHeartbeats 4000000 in
set_option maxRecDepth 100000 in
theorem c_X10_status (l : Launch) (G : vG)    {S : vSt}  (post : Int32 → vSt → Prop) (h : p_X10_status   S  post) : Met l yX10_status (v_ws yX10_status cX10_status 1 (some .int)) (v_rm 0 40) (v_Pc G [.ref (G.1 0)] S) (v_Qi G post) 0 0 (v_A G) := by
  refine v_start (by decide +kernel) (Nat.le_of_ble_eq_true rfl) (fun X hl C D => ?_)
  subst hl
  have C : v_Cx X G cX10_status RX10 1 (v_rm 0 40) := C
  show VJ X G S 0 [(0, .ref (G.1 0))] []
  refine V_aload_n C 0 dX10_status_0 rfl rfl ?_
  refine V_gi C 0 (by decide) (by decide) F_10_14 k_RX10_106 dX10_status_1 ?_
  exact V_iret C D dX10_status_4 h
/-! HalfAccuser.top()J -/
theorem dX10_top_0 : decode cX10_top 0 = .ok ((.aload_n 0), 1) := by decide +kernel
theorem dX10_top_1 : decode cX10_top 1 = .ok ((.getfield 109), 3) := by decide +kernel
theorem dX10_top_4 : decode cX10_top 4 = .ok (.lreturn, 1) := by decide +kernel
def p_X10_top   (S : vSt)  (post : Int64 → vSt → Prop) : Prop := post (S.2 0 17) S
set_option maxHeartbeats 4000000 in
set_option maxRecDepth 100000 in
theorem c_X10_top (l : Launch) (G : vG)    {S : vSt}  (post : Int64 → vSt → Prop) (h : p_X10_top   S  post) : Met l yX10_top (v_ws yX10_top cX10_top 1 (some .long)) (v_rm 0 40) (v_Pc G [.ref (G.1 0)] S) (v_Ql G post) 0 0 (v_A G) := by
  refine v_start (by decide +kernel) (Nat.le_of_ble_eq_true rfl) (fun X hl C D => ?_)
  subst hl
  have C : v_Cx X G cX10_top RX10 1 (v_rm 0 40) := C
  show VJ X G S 0 [(0, .ref (G.1 0))] []
  refine V_aload_n C 0 dX10_top_0 rfl rfl ?_
  refine V_gl C 0 (by decide) (by decide) F_10_17 k_RX10_109 dX10_top_1 ?_
  exact V_lret C D dX10_top_4 h
/-! HalfAccuser.bottom()J -/
theorem dX10_bottom_0 : decode cX10_bottom 0 = .ok ((.aload_n 0), 1) := by decide +kernel
theorem dX10_bottom_1 : decode cX10_bottom 1 = .ok ((.getfield 102), 3) := by decide +kernel
theorem dX10_bottom_4 : decode cX10_bottom 4 = .ok (.lreturn, 1) := by decide +kernel
def p_X10_bottom   (S : vSt)  (post : Int64 → vSt → Prop) : Prop := post (S.2 0 18) S
set_option maxHeartbeats 4000000 in
set_option maxRecDepth 100000 in
theorem c_X10_bottom (l : Launch) (G : vG)    {S : vSt}  (post : Int64 → vSt → Prop) (h : p_X10_bottom   S  post) : Met l yX10_bottom (v_ws yX10_bottom cX10_bottom 1 (some .long)) (v_rm 0 40) (v_Pc G [.ref (G.1 0)] S) (v_Ql G post) 0 0 (v_A G) := by
  refine v_start (by decide +kernel) (Nat.le_of_ble_eq_true rfl) (fun X hl C D => ?_)
  subst hl
  have C : v_Cx X G cX10_bottom RX10 1 (v_rm 0 40) := C
  show VJ X G S 0 [(0, .ref (G.1 0))] []
  refine V_aload_n C 0 dX10_bottom_0 rfl rfl ?_
  refine V_gl C 0 (by decide) (by decide) F_10_18 k_RX10_102 dX10_bottom_1 ?_
  exact V_lret C D dX10_bottom_4 h
/-! HalfAccuser.settled(I)Z -/
theorem dX10_settled_0 : decode cX10_settled 0 = .ok ((.aload_n 0), 1) := by decide +kernel
theorem dX10_settled_1 : decode cX10_settled 1 = .ok ((.iload_n 1), 1) := by decide +kernel
theorem dX10_settled_2 : decode cX10_settled 2 = .ok ((.putfield 106), 3) := by decide +kernel
theorem dX10_settled_5 : decode cX10_settled 5 = .ok ((.iload_n 1), 1) := by decide +kernel
theorem dX10_settled_6 : decode cX10_settled 6 = .ok ((.ifCond .ne 7), 3) := by decide +kernel
theorem dX10_settled_9 : decode cX10_settled 9 = .ok ((.iconst 1), 1) := by decide +kernel
theorem dX10_settled_10 : decode cX10_settled 10 = .ok ((.goto 4), 3) := by decide +kernel
theorem dX10_settled_13 : decode cX10_settled 13 = .ok ((.iconst 0), 1) := by decide +kernel
theorem dX10_settled_14 : decode cX10_settled 14 = .ok (.ireturn, 1) := by decide +kernel
def p_X10_settled   (S : vSt) (a1 : Int32) (post : Bool → vSt → Prop) : Prop := ∀ S2, S2 = v_si S 0 14 a1 → ((¬ a1 = 0 → post false S2) ∧ (a1 = 0 → post true S2))
set_option maxHeartbeats 4000000 in
set_option maxRecDepth 100000 in
theorem c_X10_settled (l : Launch) (G : vG)    {S : vSt} (a1 : Int32) (post : Bool → vSt → Prop) (h : p_X10_settled   S a1 post) : Met l yX10_settled (v_ws yX10_settled cX10_settled 2 (some .boolean)) (v_rm 0 40) (v_Pc G [.ref (G.1 0), .int a1] S) (v_Qz G post) 0 0 (v_A G) := by
  refine v_start (by decide +kernel) (Nat.le_of_ble_eq_true rfl) (fun X hl C D => ?_)
  subst hl
  have C : v_Cx X G cX10_settled RX10 2 (v_rm 0 40) := C
  show VJ X G S 0 [(0, .ref (G.1 0)), (1, .int a1)] []
  refine V_aload_n C 0 dX10_settled_0 rfl rfl ?_
  refine V_iload_n C 1 dX10_settled_1 rfl rfl ?_
  refine V_pi C 0 (by decide) (by decide) P_10_14 k_RX10_106 dX10_settled_2 ?_
  refine V_topS (fun S2 eS2 => ?_)
  have h := h S2 eS2
  refine V_iload_n C 1 dX10_settled_5 rfl rfl ?_
  refine V_if_ne (tgt := 13) C dX10_settled_6 (by decide) (fun c => ?_) (fun c => ?_)
  · have h := h.1 c
    refine V_iconst (v := 0) C dX10_settled_13 (by decide) ?_
    exact V_zret0 C D dX10_settled_14 h
  · have h := h.2 c
    refine V_iconst (v := 1) C dX10_settled_9 (by decide) ?_
    refine V_goto (tgt := 14) C dX10_settled_10 (by decide) ?_
    exact V_zret1 C D dX10_settled_14 h
/-! HalfAccuser.tray(III)Z -/
theorem dX10_tray_0 : decode cX10_tray 0 = .ok ((.aload_n 0), 1) := by decide +kernel
theorem dX10_tray_1 : decode cX10_tray 1 = .ok ((.aload_n 0), 1) := by decide +kernel
theorem dX10_tray_2 : decode cX10_tray 2 = .ok ((.getfield 10), 3) := by decide +kernel
theorem dX10_tray_5 : decode cX10_tray 5 = .ok ((.iload_n 1), 1) := by decide +kernel
theorem dX10_tray_6 : decode cX10_tray 6 = .ok ((.iload_n 2), 1) := by decide +kernel
theorem dX10_tray_7 : decode cX10_tray 7 = .ok ((.iload_n 3), 1) := by decide +kernel
theorem dX10_tray_8 : decode cX10_tray 8 = .ok ((.invokevirtual 112), 3) := by decide +kernel
theorem dX10_tray_11 : decode cX10_tray 11 = .ok ((.invokevirtual 116), 3) := by decide +kernel
theorem dX10_tray_14 : decode cX10_tray 14 = .ok (.ireturn, 1) := by decide +kernel
def p_X10_tray   (S : vSt) (a1 : Int32) (a2 : Int32) (a3 : Int32) (post : Bool → vSt → Prop) : Prop := p_X7_make  S a1 a2 a3 (fun r6 S5 => p_X10_settled  S5 r6 (fun r8 S7 => post r8 S7))
set_option maxHeartbeats 4000000 in
set_option maxRecDepth 100000 in
theorem c_X10_tray (l : Launch) (G : vG)    {S : vSt} (a1 : Int32) (a2 : Int32) (a3 : Int32) (post : Bool → vSt → Prop) (h : p_X10_tray   S a1 a2 a3 post) : Met l yX10_tray (v_ws yX10_tray cX10_tray 4 (some .boolean)) (v_rm 2 87) (v_Pc G [.ref (G.1 0), .int a1, .int a2, .int a3] S) (v_Qz G post) 0 0 (v_A G) := by
  refine v_start (by decide +kernel) (Nat.le_of_ble_eq_true rfl) (fun X hl C D => ?_)
  subst hl
  have C : v_Cx X G cX10_tray RX10 4 (v_rm 2 87) := C
  show VJ X G S 0 [(0, .ref (G.1 0)), (1, .int a1), (2, .int a2), (3, .int a3)] []
  refine V_aload_n C 0 dX10_tray_0 rfl rfl ?_
  refine V_aload_n C 0 dX10_tray_1 rfl rfl ?_
  refine V_ga C 0 (by decide) (by decide) F_10_0 k_RX10_10 dX10_tray_2 ?_
  refine V_iload_n C 1 dX10_tray_5 rfl rfl ?_
  refine V_iload_n C 2 dX10_tray_6 rfl rfl ?_
  refine V_iload_n C 3 dX10_tray_7 rfl rfl ?_
  refine V_callVi (As := [.int a1, .int a2, .int a3]) (rest := [.ref (G.1 0)]) C (c_X7_make (v_l X) G  _ _ _ _ h) 1 7 (by decide) (by decide) (by decide) rfl KV_X7_make k_RX10_112 rfl rfl rfl (Nat.le_of_ble_eq_true rfl) ⟨Nat.le_of_ble_eq_true rfl, Nat.le_of_ble_eq_true rfl⟩ dX10_tray_8 (fun r6 S5 h => ?_)
  refine V_callVz (As := [.int r6]) (rest := []) C (c_X10_settled (v_l X) G  _ _ h) 0 10 (by decide) (by decide) (by decide) rfl KV_X10_settled k_RX10_116 rfl rfl rfl (Nat.le_of_ble_eq_true rfl) ⟨Nat.le_of_ble_eq_true rfl, Nat.le_of_ble_eq_true rfl⟩ dX10_tray_11 (fun r8 S7 h => ?_)
  exact V_zret C D dX10_tray_14 h
/-! HalfAccuser.write(IIJ)Z -/
theorem dX10_write_0 : decode cX10_write 0 = .ok ((.aload_n 0), 1) := by decide +kernel
theorem dX10_write_1 : decode cX10_write 1 = .ok ((.getfield 10), 3) := by decide +kernel
theorem dX10_write_4 : decode cX10_write 4 = .ok ((.iload_n 1), 1) := by decide +kernel
theorem dX10_write_5 : decode cX10_write 5 = .ok ((.iload_n 2), 1) := by decide +kernel
theorem dX10_write_6 : decode cX10_write 6 = .ok ((.invokevirtual 120), 3) := by decide +kernel
theorem dX10_write_9 : decode cX10_write 9 = .ok ((.istore 5), 2) := by decide +kernel
theorem dX10_write_11 : decode cX10_write 11 = .ok ((.iload 5), 2) := by decide +kernel
theorem dX10_write_13 : decode cX10_write 13 = .ok ((.ifCond .ne 13), 3) := by decide +kernel
theorem dX10_write_16 : decode cX10_write 16 = .ok ((.aload_n 0), 1) := by decide +kernel
theorem dX10_write_17 : decode cX10_write 17 = .ok ((.getfield 10), 3) := by decide +kernel
theorem dX10_write_20 : decode cX10_write 20 = .ok ((.iload_n 1), 1) := by decide +kernel
theorem dX10_write_21 : decode cX10_write 21 = .ok ((.iload_n 2), 1) := by decide +kernel
theorem dX10_write_22 : decode cX10_write 22 = .ok ((.lload_n 3), 1) := by decide +kernel
theorem dX10_write_23 : decode cX10_write 23 = .ok ((.invokevirtual 124), 3) := by decide +kernel
theorem dX10_write_26 : decode cX10_write 26 = .ok ((.aload_n 0), 1) := by decide +kernel
theorem dX10_write_27 : decode cX10_write 27 = .ok ((.iload 5), 2) := by decide +kernel
theorem dX10_write_29 : decode cX10_write 29 = .ok ((.invokevirtual 116), 3) := by decide +kernel
theorem dX10_write_32 : decode cX10_write 32 = .ok (.ireturn, 1) := by decide +kernel
def p_X10_write_26  (a1 : Int32) (a2 : Int32) (a3 : Int64)   (post : Bool → vSt → Prop) (S : vSt) (x5 : Int32) : Prop := p_X10_settled  S x5 (fun r9 S8 => post r9 S8)
def p_X10_write   (S : vSt) (a1 : Int32) (a2 : Int32) (a3 : Int64) (post : Bool → vSt → Prop) : Prop := p_X7_placeStatus  S a1 a2 (fun r7 S6 => ((¬ r7 = 0 → p_X10_write_26 a1 a2 a3 post S6 r7) ∧ (r7 = 0 → p_X7_set  S6 a1 a2 a3 (fun S8 => p_X10_write_26 a1 a2 a3 post S8 r7))))
set_option maxHeartbeats 4000000 in
set_option maxRecDepth 100000 in
theorem q_X10_write_26 {X : vX} {G : vG}  {post : Bool → vSt → Prop} (C : v_Cx X G cX10_write RX10 6 (v_rm 3 105)) (D : v_Rx X G (v_Qz G post) (some .boolean))  {a1 : Int32} {a2 : Int32} {a3 : Int64}   : ∀ (S : vSt) (x5 : Int32), p_X10_write_26 a1 a2 a3 post S x5 → VJ X G S 26 [(0, .ref (G.1 0)), (5, .int x5)] [] := by
  intro S x5 h
  refine V_aload_n C 0 dX10_write_26 rfl rfl ?_
  refine V_iload C 1 dX10_write_27 rfl ?_
  refine V_callVz (As := [.int x5]) (rest := []) C (c_X10_settled (v_l X) G  _ _ h) 0 10 (by decide) (by decide) (by decide) rfl KV_X10_settled k_RX10_116 rfl rfl rfl (Nat.le_of_ble_eq_true rfl) ⟨Nat.le_of_ble_eq_true rfl, Nat.le_of_ble_eq_true rfl⟩ dX10_write_29 (fun r9 S8 h => ?_)
  exact V_zret C D dX10_write_32 h
set_option maxHeartbeats 4000000 in
set_option maxRecDepth 100000 in
theorem c_X10_write (l : Launch) (G : vG)    {S : vSt} (a1 : Int32) (a2 : Int32) (a3 : Int64) (post : Bool → vSt → Prop) (h : p_X10_write   S a1 a2 a3 post) : Met l yX10_write (v_ws yX10_write cX10_write 6 (some .boolean)) (v_rm 3 105) (v_Pc G [.ref (G.1 0), .int a1, .int a2, .long a3] S) (v_Qz G post) 0 0 (v_A G) := by
  refine v_start (by decide +kernel) (Nat.le_of_ble_eq_true rfl) (fun X hl C D => ?_)
  subst hl
  have C : v_Cx X G cX10_write RX10 6 (v_rm 3 105) := C
  show VJ X G S 0 [(0, .ref (G.1 0)), (1, .int a1), (2, .int a2), (3, .long a3)] []
  refine V_aload_n C 0 dX10_write_0 rfl rfl ?_
  refine V_ga C 0 (by decide) (by decide) F_10_0 k_RX10_10 dX10_write_1 ?_
  refine V_iload_n C 1 dX10_write_4 rfl rfl ?_
  refine V_iload_n C 2 dX10_write_5 rfl rfl ?_
  refine V_callVi (As := [.int a1, .int a2]) (rest := []) C (c_X7_placeStatus (v_l X) G  _ _ _ h) 1 7 (by decide) (by decide) (by decide) rfl KV_X7_placeStatus k_RX10_120 rfl rfl rfl (Nat.le_of_ble_eq_true rfl) ⟨Nat.le_of_ble_eq_true rfl, Nat.le_of_ble_eq_true rfl⟩ dX10_write_6 (fun r7 S6 h => ?_)
  refine V_istore (lv' := [(0, .ref (G.1 0)), (1, .int a1), (2, .int a2), (3, .long a3), (5, .int r7)]) C [1, 2, 3, 4, 0] dX10_write_9 (by decide) rfl ?_
  refine V_iload C 4 dX10_write_11 rfl ?_
  refine V_if_ne (tgt := 26) C dX10_write_13 (by decide) (fun c => ?_) (fun c => ?_)
  · have h := h.1 c
    refine V_loc (lv' := [(0, .ref (G.1 0)), (5, .int r7)]) [0, 4] rfl ?_
    exact q_X10_write_26 C D  _ _ h
  · have h := h.2 c
    refine V_aload_n C 0 dX10_write_16 rfl rfl ?_
    refine V_ga C 0 (by decide) (by decide) F_10_0 k_RX10_10 dX10_write_17 ?_
    refine V_iload_n C 1 dX10_write_20 rfl rfl ?_
    refine V_iload_n C 2 dX10_write_21 rfl rfl ?_
    refine V_lload_n C 3 dX10_write_22 rfl rfl ?_
    refine V_callVv (As := [.int a1, .int a2, .long a3]) (rest := []) C (c_X7_set (v_l X) G  _ _ _ _ h) 1 7 (by decide) (by decide) (by decide) rfl KV_X7_set k_RX10_124 rfl rfl rfl (Nat.le_of_ble_eq_true rfl) ⟨Nat.le_of_ble_eq_true rfl, Nat.le_of_ble_eq_true rfl⟩ dX10_write_23 (fun S8 h => ?_)
    refine V_loc (lv' := [(0, .ref (G.1 0)), (5, .int r7)]) [0, 4] rfl ?_
    exact q_X10_write_26 C D  _ _ h
/-! HalfAccuser.read(II)J -/
theorem dX10_read_0 : decode cX10_read 0 = .ok ((.aload_n 0), 1) := by decide +kernel
theorem dX10_read_1 : decode cX10_read 1 = .ok ((.getfield 10), 3) := by decide +kernel
theorem dX10_read_4 : decode cX10_read 4 = .ok ((.iload_n 1), 1) := by decide +kernel
theorem dX10_read_5 : decode cX10_read 5 = .ok ((.iload_n 2), 1) := by decide +kernel
theorem dX10_read_6 : decode cX10_read 6 = .ok ((.invokevirtual 120), 3) := by decide +kernel
theorem dX10_read_9 : decode cX10_read 9 = .ok ((.istore_n 3), 1) := by decide +kernel
theorem dX10_read_10 : decode cX10_read 10 = .ok ((.aload_n 0), 1) := by decide +kernel
theorem dX10_read_11 : decode cX10_read 11 = .ok ((.iload_n 3), 1) := by decide +kernel
theorem dX10_read_12 : decode cX10_read 12 = .ok ((.putfield 106), 3) := by decide +kernel
theorem dX10_read_15 : decode cX10_read 15 = .ok ((.iload_n 3), 1) := by decide +kernel
theorem dX10_read_16 : decode cX10_read 16 = .ok ((.ifCond .ne 15), 3) := by decide +kernel
theorem dX10_read_19 : decode cX10_read 19 = .ok ((.aload_n 0), 1) := by decide +kernel
theorem dX10_read_20 : decode cX10_read 20 = .ok ((.getfield 10), 3) := by decide +kernel
theorem dX10_read_23 : decode cX10_read 23 = .ok ((.iload_n 1), 1) := by decide +kernel
theorem dX10_read_24 : decode cX10_read 24 = .ok ((.iload_n 2), 1) := by decide +kernel
theorem dX10_read_25 : decode cX10_read 25 = .ok ((.invokevirtual 128), 3) := by decide +kernel
theorem dX10_read_28 : decode cX10_read 28 = .ok ((.goto 6), 3) := by decide +kernel
theorem dX10_read_31 : decode cX10_read 31 = .ok ((.ldc2_w 132), 3) := by decide +kernel
theorem dX10_read_34 : decode cX10_read 34 = .ok (.lreturn, 1) := by decide +kernel
def p_X10_read   (S : vSt) (a1 : Int32) (a2 : Int32) (post : Int64 → vSt → Prop) : Prop := p_X7_placeStatus  S a1 a2 (fun r7 S6 => ∀ S8, S8 = v_si S6 0 14 r7 → ((¬ r7 = 0 → post (-1) S8) ∧ (r7 = 0 → p_X7_get  S8 a1 a2 (fun r10 S9 => post r10 S9))))
set_option maxHeartbeats 4000000 in
set_option maxRecDepth 100000 in
theorem c_X10_read (l : Launch) (G : vG)    {S : vSt} (a1 : Int32) (a2 : Int32) (post : Int64 → vSt → Prop) (h : p_X10_read   S a1 a2 post) : Met l yX10_read (v_ws yX10_read cX10_read 4 (some .long)) (v_rm 3 105) (v_Pc G [.ref (G.1 0), .int a1, .int a2] S) (v_Ql G post) 0 0 (v_A G) := by
  refine v_start (by decide +kernel) (Nat.le_of_ble_eq_true rfl) (fun X hl C D => ?_)
  subst hl
  have C : v_Cx X G cX10_read RX10 4 (v_rm 3 105) := C
  show VJ X G S 0 [(0, .ref (G.1 0)), (1, .int a1), (2, .int a2)] []
  refine V_aload_n C 0 dX10_read_0 rfl rfl ?_
  refine V_ga C 0 (by decide) (by decide) F_10_0 k_RX10_10 dX10_read_1 ?_
  refine V_iload_n C 1 dX10_read_4 rfl rfl ?_
  refine V_iload_n C 2 dX10_read_5 rfl rfl ?_
  refine V_callVi (As := [.int a1, .int a2]) (rest := []) C (c_X7_placeStatus (v_l X) G  _ _ _ h) 1 7 (by decide) (by decide) (by decide) rfl KV_X7_placeStatus k_RX10_120 rfl rfl rfl (Nat.le_of_ble_eq_true rfl) ⟨Nat.le_of_ble_eq_true rfl, Nat.le_of_ble_eq_true rfl⟩ dX10_read_6 (fun r7 S6 h => ?_)
  refine V_istore_n (lv' := [(0, .ref (G.1 0)), (1, .int a1), (2, .int a2), (3, .int r7)]) C [1, 2, 3, 0] dX10_read_9 rfl (by decide) rfl ?_
  refine V_aload_n C 0 dX10_read_10 rfl rfl ?_
  refine V_iload_n C 3 dX10_read_11 rfl rfl ?_
  refine V_pi C 0 (by decide) (by decide) P_10_14 k_RX10_106 dX10_read_12 ?_
  refine V_topS (fun S8 eS8 => ?_)
  have h := h S8 eS8
  refine V_iload_n C 3 dX10_read_15 rfl rfl ?_
  refine V_if_ne (tgt := 31) C dX10_read_16 (by decide) (fun c => ?_) (fun c => ?_)
  · have h := h.1 c
    refine V_ldc2 (v := (-1)) C k_RX10_132 dX10_read_31 ?_
    exact V_lret C D dX10_read_34 h
  · have h := h.2 c
    refine V_aload_n C 0 dX10_read_19 rfl rfl ?_
    refine V_ga C 0 (by decide) (by decide) F_10_0 k_RX10_10 dX10_read_20 ?_
    refine V_iload_n C 1 dX10_read_23 rfl rfl ?_
    refine V_iload_n C 2 dX10_read_24 rfl rfl ?_
    refine V_callVl (As := [.int a1, .int a2]) (rest := []) C (c_X7_get (v_l X) G  _ _ _ h) 1 7 (by decide) (by decide) (by decide) rfl KV_X7_get k_RX10_128 rfl rfl rfl (Nat.le_of_ble_eq_true rfl) ⟨Nat.le_of_ble_eq_true rfl, Nat.le_of_ble_eq_true rfl⟩ dX10_read_25 (fun r10 S9 h => ?_)
    refine V_goto (tgt := 34) C dX10_read_28 (by decide) ?_
    exact V_lret C D dX10_read_34 h
/-! HalfAccuser.feed(IIIII)I -/
theorem dX10_feed_0 : decode cX10_feed 0 = .ok ((.aload_n 0), 1) := by decide +kernel
theorem dX10_feed_1 : decode cX10_feed 1 = .ok ((.getfield 19), 3) := by decide +kernel
theorem dX10_feed_4 : decode cX10_feed 4 = .ok ((.invokevirtual 142), 3) := by decide +kernel
theorem dX10_feed_7 : decode cX10_feed 7 = .ok ((.ifCond .ne 5), 3) := by decide +kernel
theorem dX10_feed_10 : decode cX10_feed 10 = .ok ((.iconst (-1)), 1) := by decide +kernel
theorem dX10_feed_11 : decode cX10_feed 11 = .ok (.ireturn, 1) := by decide +kernel
theorem dX10_feed_12 : decode cX10_feed 12 = .ok ((.aload_n 0), 1) := by decide +kernel
theorem dX10_feed_13 : decode cX10_feed 13 = .ok ((.getfield 19), 3) := by decide +kernel
theorem dX10_feed_16 : decode cX10_feed 16 = .ok ((.iload_n 1), 1) := by decide +kernel
theorem dX10_feed_17 : decode cX10_feed 17 = .ok ((.invokevirtual 146), 3) := by decide +kernel
theorem dX10_feed_20 : decode cX10_feed 20 = .ok ((.aload_n 0), 1) := by decide +kernel
theorem dX10_feed_21 : decode cX10_feed 21 = .ok ((.getfield 19), 3) := by decide +kernel
theorem dX10_feed_24 : decode cX10_feed 24 = .ok ((.iload_n 2), 1) := by decide +kernel
theorem dX10_feed_25 : decode cX10_feed 25 = .ok ((.invokevirtual 146), 3) := by decide +kernel
theorem dX10_feed_28 : decode cX10_feed 28 = .ok ((.aload_n 0), 1) := by decide +kernel
theorem dX10_feed_29 : decode cX10_feed 29 = .ok ((.getfield 19), 3) := by decide +kernel
theorem dX10_feed_32 : decode cX10_feed 32 = .ok ((.iload_n 3), 1) := by decide +kernel
theorem dX10_feed_33 : decode cX10_feed 33 = .ok ((.invokevirtual 146), 3) := by decide +kernel
theorem dX10_feed_36 : decode cX10_feed 36 = .ok ((.aload_n 0), 1) := by decide +kernel
theorem dX10_feed_37 : decode cX10_feed 37 = .ok ((.getfield 19), 3) := by decide +kernel
theorem dX10_feed_40 : decode cX10_feed 40 = .ok ((.iload 4), 2) := by decide +kernel
theorem dX10_feed_42 : decode cX10_feed 42 = .ok ((.invokevirtual 146), 3) := by decide +kernel
theorem dX10_feed_45 : decode cX10_feed 45 = .ok ((.aload_n 0), 1) := by decide +kernel
theorem dX10_feed_46 : decode cX10_feed 46 = .ok ((.getfield 19), 3) := by decide +kernel
theorem dX10_feed_49 : decode cX10_feed 49 = .ok ((.iload 5), 2) := by decide +kernel
theorem dX10_feed_51 : decode cX10_feed 51 = .ok ((.invokevirtual 146), 3) := by decide +kernel
theorem dX10_feed_54 : decode cX10_feed 54 = .ok ((.aload_n 0), 1) := by decide +kernel
theorem dX10_feed_55 : decode cX10_feed 55 = .ok ((.getfield 19), 3) := by decide +kernel
theorem dX10_feed_58 : decode cX10_feed 58 = .ok ((.getfield 150), 3) := by decide +kernel
theorem dX10_feed_61 : decode cX10_feed 61 = .ok (.ireturn, 1) := by decide +kernel
def p_X10_feed   (S : vSt) (a1 : Int32) (a2 : Int32) (a3 : Int32) (a4 : Int32) (a5 : Int32) (post : Int32 → vSt → Prop) : Prop := p_X6_hasRoom  S  (fun r9 S8 => ((r9 = true → p_X6_add  S8 a1 (fun S10 => p_X6_add  S10 a2 (fun S11 => p_X6_add  S11 a3 (fun S12 => p_X6_add  S12 a4 (fun S13 => p_X6_add  S13 a5 (fun S14 => post (S14.1 5 1) S14)))))) ∧ (r9 = false → post (-1) S8)))
set_option maxHeartbeats 4000000 in
set_option maxRecDepth 100000 in
theorem c_X10_feed (l : Launch) (G : vG)    {S : vSt} (a1 : Int32) (a2 : Int32) (a3 : Int32) (a4 : Int32) (a5 : Int32) (post : Int32 → vSt → Prop) (h : p_X10_feed   S a1 a2 a3 a4 a5 post) : Met l yX10_feed (v_ws yX10_feed cX10_feed 6 (some .int)) (v_rm 1 62) (v_Pc G [.ref (G.1 0), .int a1, .int a2, .int a3, .int a4, .int a5] S) (v_Qi G post) 0 0 (v_A G) := by
  refine v_start (by decide +kernel) (Nat.le_of_ble_eq_true rfl) (fun X hl C D => ?_)
  subst hl
  have C : v_Cx X G cX10_feed RX10 6 (v_rm 1 62) := C
  show VJ X G S 0 [(0, .ref (G.1 0)), (1, .int a1), (2, .int a2), (3, .int a3), (4, .int a4), (5, .int a5)] []
  refine V_aload_n C 0 dX10_feed_0 rfl rfl ?_
  refine V_ga C 0 (by decide) (by decide) F_10_1 k_RX10_19 dX10_feed_1 ?_
  refine V_callVz (As := []) (rest := []) C (c_X6_hasRoom (v_l X) G  _ h) 5 6 (by decide) (by decide) (by decide) rfl KV_X6_hasRoom k_RX10_142 rfl rfl rfl (Nat.le_of_ble_eq_true rfl) ⟨Nat.le_of_ble_eq_true rfl, Nat.le_of_ble_eq_true rfl⟩ dX10_feed_4 (fun r9 S8 h => ?_)
  refine V_ifb_ne (tgt := 12) C dX10_feed_7 (by decide) (fun c => ?_) (fun c => ?_)
  · have h := h.1 c
    refine V_aload_n C 0 dX10_feed_12 rfl rfl ?_
    refine V_ga C 0 (by decide) (by decide) F_10_1 k_RX10_19 dX10_feed_13 ?_
    refine V_iload_n C 1 dX10_feed_16 rfl rfl ?_
    refine V_callVv (As := [.int a1]) (rest := []) C (c_X6_add (v_l X) G  _ _ h) 5 6 (by decide) (by decide) (by decide) rfl KV_X6_add k_RX10_146 rfl rfl rfl (Nat.le_of_ble_eq_true rfl) ⟨Nat.le_of_ble_eq_true rfl, Nat.le_of_ble_eq_true rfl⟩ dX10_feed_17 (fun S10 h => ?_)
    refine V_aload_n C 0 dX10_feed_20 rfl rfl ?_
    refine V_ga C 0 (by decide) (by decide) F_10_1 k_RX10_19 dX10_feed_21 ?_
    refine V_iload_n C 2 dX10_feed_24 rfl rfl ?_
    refine V_callVv (As := [.int a2]) (rest := []) C (c_X6_add (v_l X) G  _ _ h) 5 6 (by decide) (by decide) (by decide) rfl KV_X6_add k_RX10_146 rfl rfl rfl (Nat.le_of_ble_eq_true rfl) ⟨Nat.le_of_ble_eq_true rfl, Nat.le_of_ble_eq_true rfl⟩ dX10_feed_25 (fun S11 h => ?_)
    refine V_aload_n C 0 dX10_feed_28 rfl rfl ?_
    refine V_ga C 0 (by decide) (by decide) F_10_1 k_RX10_19 dX10_feed_29 ?_
    refine V_iload_n C 3 dX10_feed_32 rfl rfl ?_
    refine V_callVv (As := [.int a3]) (rest := []) C (c_X6_add (v_l X) G  _ _ h) 5 6 (by decide) (by decide) (by decide) rfl KV_X6_add k_RX10_146 rfl rfl rfl (Nat.le_of_ble_eq_true rfl) ⟨Nat.le_of_ble_eq_true rfl, Nat.le_of_ble_eq_true rfl⟩ dX10_feed_33 (fun S12 h => ?_)
    refine V_aload_n C 0 dX10_feed_36 rfl rfl ?_
    refine V_ga C 0 (by decide) (by decide) F_10_1 k_RX10_19 dX10_feed_37 ?_
    refine V_iload C 4 dX10_feed_40 rfl ?_
    refine V_callVv (As := [.int a4]) (rest := []) C (c_X6_add (v_l X) G  _ _ h) 5 6 (by decide) (by decide) (by decide) rfl KV_X6_add k_RX10_146 rfl rfl rfl (Nat.le_of_ble_eq_true rfl) ⟨Nat.le_of_ble_eq_true rfl, Nat.le_of_ble_eq_true rfl⟩ dX10_feed_42 (fun S13 h => ?_)
    refine V_aload_n C 0 dX10_feed_45 rfl rfl ?_
    refine V_ga C 0 (by decide) (by decide) F_10_1 k_RX10_19 dX10_feed_46 ?_
    refine V_iload C 5 dX10_feed_49 rfl ?_
    refine V_callVv (As := [.int a5]) (rest := []) C (c_X6_add (v_l X) G  _ _ h) 5 6 (by decide) (by decide) (by decide) rfl KV_X6_add k_RX10_146 rfl rfl rfl (Nat.le_of_ble_eq_true rfl) ⟨Nat.le_of_ble_eq_true rfl, Nat.le_of_ble_eq_true rfl⟩ dX10_feed_51 (fun S14 h => ?_)
    refine V_aload_n C 0 dX10_feed_54 rfl rfl ?_
    refine V_ga C 0 (by decide) (by decide) F_10_1 k_RX10_19 dX10_feed_55 ?_
    refine V_gi C 5 (by decide) (by decide) F_6_1 k_RX10_150 dX10_feed_58 ?_
    exact V_iret C D dX10_feed_61 h
  · have h := h.2 c
    refine V_iconst (v := (-1)) C dX10_feed_10 (by decide) ?_
    exact V_iret C D dX10_feed_11 h
/-! HalfAccuser.fault(I)I -/
theorem dX10_fault_0 : decode cX10_fault 0 = .ok ((.iload_n 1), 1) := by decide +kernel
theorem dX10_fault_1 : decode cX10_fault 1 = .ok ((.ifCond .ne 8), 3) := by decide +kernel
theorem dX10_fault_4 : decode cX10_fault 4 = .ok ((.aload_n 0), 1) := by decide +kernel
theorem dX10_fault_5 : decode cX10_fault 5 = .ok ((.getfield 95), 3) := by decide +kernel
theorem dX10_fault_8 : decode cX10_fault 8 = .ok (.ireturn, 1) := by decide +kernel
theorem dX10_fault_9 : decode cX10_fault 9 = .ok ((.iload_n 1), 1) := by decide +kernel
theorem dX10_fault_10 : decode cX10_fault 10 = .ok ((.iconst 1), 1) := by decide +kernel
theorem dX10_fault_11 : decode cX10_fault 11 = .ok ((.if_icmp .ne 10), 3) := by decide +kernel
theorem dX10_fault_14 : decode cX10_fault 14 = .ok ((.aload_n 0), 1) := by decide +kernel
theorem dX10_fault_15 : decode cX10_fault 15 = .ok ((.getfield 99), 3) := by decide +kernel
theorem dX10_fault_18 : decode cX10_fault 18 = .ok ((.goto 4), 3) := by decide +kernel
theorem dX10_fault_21 : decode cX10_fault 21 = .ok ((.iconst (-1)), 1) := by decide +kernel
theorem dX10_fault_22 : decode cX10_fault 22 = .ok (.ireturn, 1) := by decide +kernel
def p_X10_fault   (S : vSt) (a1 : Int32) (post : Int32 → vSt → Prop) : Prop := ((¬ a1 = 0 → ((¬ a1 = 1 → post (-1) S) ∧ (a1 = 1 → post (S.1 0 16) S))) ∧ (a1 = 0 → post (S.1 0 15) S))
set_option maxHeartbeats 4000000 in
set_option maxRecDepth 100000 in
theorem c_X10_fault (l : Launch) (G : vG)    {S : vSt} (a1 : Int32) (post : Int32 → vSt → Prop) (h : p_X10_fault   S a1 post) : Met l yX10_fault (v_ws yX10_fault cX10_fault 2 (some .int)) (v_rm 0 40) (v_Pc G [.ref (G.1 0), .int a1] S) (v_Qi G post) 0 0 (v_A G) := by
  refine v_start (by decide +kernel) (Nat.le_of_ble_eq_true rfl) (fun X hl C D => ?_)
  subst hl
  have C : v_Cx X G cX10_fault RX10 2 (v_rm 0 40) := C
  show VJ X G S 0 [(0, .ref (G.1 0)), (1, .int a1)] []
  refine V_iload_n C 1 dX10_fault_0 rfl rfl ?_
  refine V_if_ne (tgt := 9) C dX10_fault_1 (by decide) (fun c => ?_) (fun c => ?_)
  · have h := h.1 c
    refine V_iload_n C 1 dX10_fault_9 rfl rfl ?_
    refine V_iconst (v := 1) C dX10_fault_10 (by decide) ?_
    refine V_icmp_ne (tgt := 21) C dX10_fault_11 (by decide) (fun c => ?_) (fun c => ?_)
    · have h := h.1 c
      refine V_iconst (v := (-1)) C dX10_fault_21 (by decide) ?_
      exact V_iret C D dX10_fault_22 h
    · have h := h.2 c
      refine V_aload_n C 0 dX10_fault_14 rfl rfl ?_
      refine V_gi C 0 (by decide) (by decide) F_10_16 k_RX10_99 dX10_fault_15 ?_
      refine V_goto (tgt := 22) C dX10_fault_18 (by decide) ?_
      exact V_iret C D dX10_fault_22 h
  · have h := h.2 c
    refine V_aload_n C 0 dX10_fault_4 rfl rfl ?_
    refine V_gi C 0 (by decide) (by decide) F_10_15 k_RX10_95 dX10_fault_5 ?_
    exact V_iret C D dX10_fault_8 h
/-! HalfAccuser.refused(I)I -/
theorem dX10_refused_0 : decode cX10_refused 0 = .ok ((.aload_n 0), 1) := by decide +kernel
theorem dX10_refused_1 : decode cX10_refused 1 = .ok ((.iload_n 1), 1) := by decide +kernel
theorem dX10_refused_2 : decode cX10_refused 2 = .ok ((.putfield 106), 3) := by decide +kernel
theorem dX10_refused_5 : decode cX10_refused 5 = .ok ((.iconst (-1)), 1) := by decide +kernel
theorem dX10_refused_6 : decode cX10_refused 6 = .ok (.ireturn, 1) := by decide +kernel
def p_X10_refused   (S : vSt) (a1 : Int32) (post : Int32 → vSt → Prop) : Prop := ∀ S2, S2 = v_si S 0 14 a1 → post (-1) S2
set_option maxHeartbeats 4000000 in
set_option maxRecDepth 100000 in
theorem c_X10_refused (l : Launch) (G : vG)    {S : vSt} (a1 : Int32) (post : Int32 → vSt → Prop) (h : p_X10_refused   S a1 post) : Met l yX10_refused (v_ws yX10_refused cX10_refused 2 (some .int)) (v_rm 0 40) (v_Pc G [.ref (G.1 0), .int a1] S) (v_Qi G post) 0 0 (v_A G) := by
  refine v_start (by decide +kernel) (Nat.le_of_ble_eq_true rfl) (fun X hl C D => ?_)
  subst hl
  have C : v_Cx X G cX10_refused RX10 2 (v_rm 0 40) := C
  show VJ X G S 0 [(0, .ref (G.1 0)), (1, .int a1)] []
  refine V_aload_n C 0 dX10_refused_0 rfl rfl ?_
  refine V_iload_n C 1 dX10_refused_1 rfl rfl ?_
  refine V_pi C 0 (by decide) (by decide) P_10_14 k_RX10_106 dX10_refused_2 ?_
  refine V_topS (fun S2 eS2 => ?_)
  have h := h S2 eS2
  refine V_iconst (v := (-1)) C dX10_refused_5 (by decide) ?_
  exact V_iret C D dX10_refused_6 h
/-! HalfAccuser.told(I)I -/
theorem dX10_told_0 : decode cX10_told 0 = .ok ((.aload_n 0), 1) := by decide +kernel
theorem dX10_told_1 : decode cX10_told 1 = .ok ((.iconst 0), 1) := by decide +kernel
theorem dX10_told_2 : decode cX10_told 2 = .ok ((.putfield 106), 3) := by decide +kernel
theorem dX10_told_5 : decode cX10_told 5 = .ok ((.iload_n 1), 1) := by decide +kernel
theorem dX10_told_6 : decode cX10_told 6 = .ok (.ireturn, 1) := by decide +kernel
def p_X10_told   (S : vSt) (a1 : Int32) (post : Int32 → vSt → Prop) : Prop := ∀ S2, S2 = v_si S 0 14 0 → post a1 S2
set_option maxHeartbeats 4000000 in
set_option maxRecDepth 100000 in
theorem c_X10_told (l : Launch) (G : vG)    {S : vSt} (a1 : Int32) (post : Int32 → vSt → Prop) (h : p_X10_told   S a1 post) : Met l yX10_told (v_ws yX10_told cX10_told 2 (some .int)) (v_rm 0 40) (v_Pc G [.ref (G.1 0), .int a1] S) (v_Qi G post) 0 0 (v_A G) := by
  refine v_start (by decide +kernel) (Nat.le_of_ble_eq_true rfl) (fun X hl C D => ?_)
  subst hl
  have C : v_Cx X G cX10_told RX10 2 (v_rm 0 40) := C
  show VJ X G S 0 [(0, .ref (G.1 0)), (1, .int a1)] []
  refine V_aload_n C 0 dX10_told_0 rfl rfl ?_
  refine V_iconst (v := 0) C dX10_told_1 (by decide) ?_
  refine V_pi C 0 (by decide) (by decide) P_10_14 k_RX10_106 dX10_told_2 ?_
  refine V_topS (fun S2 eS2 => ?_)
  have h := h S2 eS2
  refine V_iload_n C 1 dX10_told_5 rfl rfl ?_
  exact V_iret C D dX10_told_6 h
/-! HalfAccuser.many(I)I -/
theorem dX10_many_0 : decode cX10_many 0 = .ok ((.iload_n 1), 1) := by decide +kernel
theorem dX10_many_1 : decode cX10_many 1 = .ok ((.ifCond .lt 9), 3) := by decide +kernel
theorem dX10_many_4 : decode cX10_many 4 = .ok ((.iload_n 1), 1) := by decide +kernel
theorem dX10_many_5 : decode cX10_many 5 = .ok ((.bipush 11), 2) := by decide +kernel
theorem dX10_many_7 : decode cX10_many 7 = .ok ((.if_icmp .lt 9), 3) := by decide +kernel
theorem dX10_many_10 : decode cX10_many 10 = .ok ((.aload_n 0), 1) := by decide +kernel
theorem dX10_many_11 : decode cX10_many 11 = .ok ((.iconst 5), 1) := by decide +kernel
theorem dX10_many_12 : decode cX10_many 12 = .ok ((.invokevirtual 153), 3) := by decide +kernel
theorem dX10_many_15 : decode cX10_many 15 = .ok (.ireturn, 1) := by decide +kernel
theorem dX10_many_16 : decode cX10_many 16 = .ok ((.aload_n 0), 1) := by decide +kernel
theorem dX10_many_17 : decode cX10_many 17 = .ok ((.aload_n 0), 1) := by decide +kernel
theorem dX10_many_18 : decode cX10_many 18 = .ok ((.getfield 26), 3) := by decide +kernel
theorem dX10_many_21 : decode cX10_many 21 = .ok ((.iload_n 1), 1) := by decide +kernel
theorem dX10_many_22 : decode cX10_many 22 = .ok ((.invokevirtual 185), 3) := by decide +kernel
theorem dX10_many_25 : decode cX10_many 25 = .ok ((.invokevirtual 173), 3) := by decide +kernel
theorem dX10_many_28 : decode cX10_many 28 = .ok (.ireturn, 1) := by decide +kernel
def p_X10_many_10  (a1 : Int32)   (post : Int32 → vSt → Prop) (S : vSt)  : Prop := p_X10_refused  S 5 (fun r8 S7 => post r8 S7)
def p_X10_many   (S : vSt) (a1 : Int32) (post : Int32 → vSt → Prop) : Prop := ((a1 < 0 → p_X10_many_10 a1 post S ) ∧ (¬ a1 < 0 → ((a1 < 11 → p_X0_fact 10 S a1 (fun r8 S7 => p_X10_told  S7 r8 (fun r10 S9 => post r10 S9))) ∧ (¬ a1 < 11 → p_X10_many_10 a1 post S ))))
set_option maxHeartbeats 4000000 in
set_option maxRecDepth 100000 in
theorem q_X10_many_10 {X : vX} {G : vG}  {post : Int32 → vSt → Prop} (C : v_Cx X G cX10_many RX10 2 (v_rm 4 125)) (D : v_Rx X G (v_Qi G post) (some .int))  {a1 : Int32}   : ∀ (S : vSt), p_X10_many_10 a1 post S  → VJ X G S 10 [(0, .ref (G.1 0))] [] := by
  intro S  h
  refine V_aload_n C 0 dX10_many_10 rfl rfl ?_
  refine V_iconst (v := 5) C dX10_many_11 (by decide) ?_
  refine V_callVi (As := [.int 5]) (rest := []) C (c_X10_refused (v_l X) G  _ _ h) 0 10 (by decide) (by decide) (by decide) rfl KV_X10_refused k_RX10_153 rfl rfl rfl (Nat.le_of_ble_eq_true rfl) ⟨Nat.le_of_ble_eq_true rfl, Nat.le_of_ble_eq_true rfl⟩ dX10_many_12 (fun r8 S7 h => ?_)
  exact V_iret C D dX10_many_15 h
set_option maxHeartbeats 4000000 in
set_option maxRecDepth 100000 in
theorem c_X10_many (l : Launch) (G : vG)    {S : vSt} (a1 : Int32) (post : Int32 → vSt → Prop) (h : p_X10_many   S a1 post) : Met l yX10_many (v_ws yX10_many cX10_many 2 (some .int)) (v_rm 4 125) (v_Pc G [.ref (G.1 0), .int a1] S) (v_Qi G post) 0 0 (v_A G) := by
  refine v_start (by decide +kernel) (Nat.le_of_ble_eq_true rfl) (fun X hl C D => ?_)
  subst hl
  have C : v_Cx X G cX10_many RX10 2 (v_rm 4 125) := C
  show VJ X G S 0 [(0, .ref (G.1 0)), (1, .int a1)] []
  refine V_iload_n C 1 dX10_many_0 rfl rfl ?_
  refine V_if_lt (tgt := 10) C dX10_many_1 (by decide) (fun c => ?_) (fun c => ?_)
  · have h := h.1 c
    refine V_loc (lv' := [(0, .ref (G.1 0))]) [0] rfl ?_
    exact q_X10_many_10 C D  _ h
  · have h := h.2 c
    refine V_iload_n C 1 dX10_many_4 rfl rfl ?_
    refine V_bipush (v := 11) C dX10_many_5 (by decide) ?_
    refine V_icmp_lt (tgt := 16) C dX10_many_7 (by decide) (fun c => ?_) (fun c => ?_)
    · have h := h.1 c
      refine V_aload_n C 0 dX10_many_16 rfl rfl ?_
      refine V_aload_n C 0 dX10_many_17 rfl rfl ?_
      refine V_ga C 0 (by decide) (by decide) F_10_2 k_RX10_26 dX10_many_18 ?_
      refine V_iload_n C 1 dX10_many_21 rfl rfl ?_
      refine V_callVi (As := [.int a1]) (rest := [.ref (G.1 0)]) C (c_X0_fact (v_l X) G v_i10 _ _ h) 10 0 (by decide) (by decide) (by decide) rfl KV_X0_fact k_RX10_185 rfl rfl rfl (Nat.le_of_ble_eq_true rfl) ⟨Nat.le_of_ble_eq_true rfl, Nat.le_of_ble_eq_true rfl⟩ dX10_many_22 (fun r8 S7 h => ?_)
      refine V_callVi (As := [.int r8]) (rest := []) C (c_X10_told (v_l X) G  _ _ h) 0 10 (by decide) (by decide) (by decide) rfl KV_X10_told k_RX10_173 rfl rfl rfl (Nat.le_of_ble_eq_true rfl) ⟨Nat.le_of_ble_eq_true rfl, Nat.le_of_ble_eq_true rfl⟩ dX10_many_25 (fun r10 S9 h => ?_)
      exact V_iret C D dX10_many_28 h
    · have h := h.2 c
      refine V_loc (lv' := [(0, .ref (G.1 0))]) [0] rfl ?_
      exact q_X10_many_10 C D  _ h
/-! HalfAccuser.person(II)I -/
theorem dX10_person_0 : decode cX10_person 0 = .ok ((.aload_n 0), 1) := by decide +kernel
theorem dX10_person_1 : decode cX10_person 1 = .ok ((.getfield 26), 3) := by decide +kernel
theorem dX10_person_4 : decode cX10_person 4 = .ok ((.iload_n 1), 1) := by decide +kernel
theorem dX10_person_5 : decode cX10_person 5 = .ok ((.invokevirtual 188), 3) := by decide +kernel
theorem dX10_person_8 : decode cX10_person 8 = .ok ((.ifCond .ne 9), 3) := by decide +kernel
theorem dX10_person_11 : decode cX10_person 11 = .ok ((.aload_n 0), 1) := by decide +kernel
theorem dX10_person_12 : decode cX10_person 12 = .ok ((.iconst 2), 1) := by decide +kernel
theorem dX10_person_13 : decode cX10_person 13 = .ok ((.invokevirtual 153), 3) := by decide +kernel
theorem dX10_person_16 : decode cX10_person 16 = .ok (.ireturn, 1) := by decide +kernel
theorem dX10_person_17 : decode cX10_person 17 = .ok ((.iload_n 2), 1) := by decide +kernel
theorem dX10_person_18 : decode cX10_person 18 = .ok ((.ifCond .lt 9), 3) := by decide +kernel
theorem dX10_person_21 : decode cX10_person 21 = .ok ((.iload_n 2), 1) := by decide +kernel
theorem dX10_person_22 : decode cX10_person 22 = .ok ((.bipush 6), 2) := by decide +kernel
theorem dX10_person_24 : decode cX10_person 24 = .ok ((.if_icmp .lt 9), 3) := by decide +kernel
theorem dX10_person_27 : decode cX10_person 27 = .ok ((.aload_n 0), 1) := by decide +kernel
theorem dX10_person_28 : decode cX10_person 28 = .ok ((.iconst 5), 1) := by decide +kernel
theorem dX10_person_29 : decode cX10_person 29 = .ok ((.invokevirtual 153), 3) := by decide +kernel
theorem dX10_person_32 : decode cX10_person 32 = .ok (.ireturn, 1) := by decide +kernel
theorem dX10_person_33 : decode cX10_person 33 = .ok ((.aload_n 0), 1) := by decide +kernel
theorem dX10_person_34 : decode cX10_person 34 = .ok ((.aload_n 0), 1) := by decide +kernel
theorem dX10_person_35 : decode cX10_person 35 = .ok ((.getfield 26), 3) := by decide +kernel
theorem dX10_person_38 : decode cX10_person 38 = .ok ((.iload_n 1), 1) := by decide +kernel
theorem dX10_person_39 : decode cX10_person 39 = .ok ((.iload_n 2), 1) := by decide +kernel
theorem dX10_person_40 : decode cX10_person 40 = .ok ((.invokevirtual 191), 3) := by decide +kernel
theorem dX10_person_43 : decode cX10_person 43 = .ok ((.invokevirtual 173), 3) := by decide +kernel
theorem dX10_person_46 : decode cX10_person 46 = .ok (.ireturn, 1) := by decide +kernel
def p_X10_person_27  (a1 : Int32) (a2 : Int32)   (post : Int32 → vSt → Prop) (S : vSt)  : Prop := p_X10_refused  S 5 (fun r14 S13 => post r14 S13)
def p_X10_person   (S : vSt) (a1 : Int32) (a2 : Int32) (post : Int32 → vSt → Prop) : Prop := p_X0_hasPerson 10 S a1 (fun r12 S11 => ((r12 = true → ((a2 < 0 → p_X10_person_27 a1 a2 post S11 ) ∧ (¬ a2 < 0 → ((a2 < 6 → p_X0_personFact 10 S11 a1 a2 (fun r14 S13 => p_X10_told  S13 r14 (fun r16 S15 => post r16 S15))) ∧ (¬ a2 < 6 → p_X10_person_27 a1 a2 post S11 ))))) ∧ (r12 = false → p_X10_refused  S11 2 (fun r18 S17 => post r18 S17))))
set_option maxHeartbeats 4000000 in
set_option maxRecDepth 100000 in
theorem q_X10_person_27 {X : vX} {G : vG}  {post : Int32 → vSt → Prop} (C : v_Cx X G cX10_person RX10 3 (v_rm 4 128)) (D : v_Rx X G (v_Qi G post) (some .int))  {a1 : Int32} {a2 : Int32}   : ∀ (S : vSt), p_X10_person_27 a1 a2 post S  → VJ X G S 27 [(0, .ref (G.1 0))] [] := by
  intro S  h
  refine V_aload_n C 0 dX10_person_27 rfl rfl ?_
  refine V_iconst (v := 5) C dX10_person_28 (by decide) ?_
  refine V_callVi (As := [.int 5]) (rest := []) C (c_X10_refused (v_l X) G  _ _ h) 0 10 (by decide) (by decide) (by decide) rfl KV_X10_refused k_RX10_153 rfl rfl rfl (Nat.le_of_ble_eq_true rfl) ⟨Nat.le_of_ble_eq_true rfl, Nat.le_of_ble_eq_true rfl⟩ dX10_person_29 (fun r14 S13 h => ?_)
  exact V_iret C D dX10_person_32 h
set_option maxHeartbeats 4000000 in
set_option maxRecDepth 100000 in
theorem c_X10_person (l : Launch) (G : vG)    {S : vSt} (a1 : Int32) (a2 : Int32) (post : Int32 → vSt → Prop) (h : p_X10_person   S a1 a2 post) : Met l yX10_person (v_ws yX10_person cX10_person 3 (some .int)) (v_rm 4 128) (v_Pc G [.ref (G.1 0), .int a1, .int a2] S) (v_Qi G post) 0 0 (v_A G) := by
  refine v_start (by decide +kernel) (Nat.le_of_ble_eq_true rfl) (fun X hl C D => ?_)
  subst hl
  have C : v_Cx X G cX10_person RX10 3 (v_rm 4 128) := C
  show VJ X G S 0 [(0, .ref (G.1 0)), (1, .int a1), (2, .int a2)] []
  refine V_aload_n C 0 dX10_person_0 rfl rfl ?_
  refine V_ga C 0 (by decide) (by decide) F_10_2 k_RX10_26 dX10_person_1 ?_
  refine V_iload_n C 1 dX10_person_4 rfl rfl ?_
  refine V_callVz (As := [.int a1]) (rest := []) C (c_X0_hasPerson (v_l X) G v_i10 _ _ h) 10 0 (by decide) (by decide) (by decide) rfl KV_X0_hasPerson k_RX10_188 rfl rfl rfl (Nat.le_of_ble_eq_true rfl) ⟨Nat.le_of_ble_eq_true rfl, Nat.le_of_ble_eq_true rfl⟩ dX10_person_5 (fun r12 S11 h => ?_)
  refine V_ifb_ne (tgt := 17) C dX10_person_8 (by decide) (fun c => ?_) (fun c => ?_)
  · have h := h.1 c
    refine V_iload_n C 2 dX10_person_17 rfl rfl ?_
    refine V_if_lt (tgt := 27) C dX10_person_18 (by decide) (fun c => ?_) (fun c => ?_)
    · have h := h.1 c
      refine V_loc (lv' := [(0, .ref (G.1 0))]) [0] rfl ?_
      exact q_X10_person_27 C D  _ h
    · have h := h.2 c
      refine V_iload_n C 2 dX10_person_21 rfl rfl ?_
      refine V_bipush (v := 6) C dX10_person_22 (by decide) ?_
      refine V_icmp_lt (tgt := 33) C dX10_person_24 (by decide) (fun c => ?_) (fun c => ?_)
      · have h := h.1 c
        refine V_aload_n C 0 dX10_person_33 rfl rfl ?_
        refine V_aload_n C 0 dX10_person_34 rfl rfl ?_
        refine V_ga C 0 (by decide) (by decide) F_10_2 k_RX10_26 dX10_person_35 ?_
        refine V_iload_n C 1 dX10_person_38 rfl rfl ?_
        refine V_iload_n C 2 dX10_person_39 rfl rfl ?_
        refine V_callVi (As := [.int a1, .int a2]) (rest := [.ref (G.1 0)]) C (c_X0_personFact (v_l X) G v_i10 _ _ _ h) 10 0 (by decide) (by decide) (by decide) rfl KV_X0_personFact k_RX10_191 rfl rfl rfl (Nat.le_of_ble_eq_true rfl) ⟨Nat.le_of_ble_eq_true rfl, Nat.le_of_ble_eq_true rfl⟩ dX10_person_40 (fun r14 S13 h => ?_)
        refine V_callVi (As := [.int r14]) (rest := []) C (c_X10_told (v_l X) G  _ _ h) 0 10 (by decide) (by decide) (by decide) rfl KV_X10_told k_RX10_173 rfl rfl rfl (Nat.le_of_ble_eq_true rfl) ⟨Nat.le_of_ble_eq_true rfl, Nat.le_of_ble_eq_true rfl⟩ dX10_person_43 (fun r16 S15 h => ?_)
        exact V_iret C D dX10_person_46 h
      · have h := h.2 c
        refine V_loc (lv' := [(0, .ref (G.1 0))]) [0] rfl ?_
        exact q_X10_person_27 C D  _ h
  · have h := h.2 c
    refine V_aload_n C 0 dX10_person_11 rfl rfl ?_
    refine V_iconst (v := 2) C dX10_person_12 (by decide) ?_
    refine V_callVi (As := [.int 2]) (rest := []) C (c_X10_refused (v_l X) G  _ _ h) 0 10 (by decide) (by decide) (by decide) rfl KV_X10_refused k_RX10_153 rfl rfl rfl (Nat.le_of_ble_eq_true rfl) ⟨Nat.le_of_ble_eq_true rfl, Nat.le_of_ble_eq_true rfl⟩ dX10_person_13 (fun r18 S17 h => ?_)
    exact V_iret C D dX10_person_16 h
/-! HalfAccuser.deed(II)I -/
theorem dX10_deed_0 : decode cX10_deed 0 = .ok ((.aload_n 0), 1) := by decide +kernel
theorem dX10_deed_1 : decode cX10_deed 1 = .ok ((.getfield 26), 3) := by decide +kernel
theorem dX10_deed_4 : decode cX10_deed 4 = .ok ((.iload_n 1), 1) := by decide +kernel
theorem dX10_deed_5 : decode cX10_deed 5 = .ok ((.invokevirtual 194), 3) := by decide +kernel
theorem dX10_deed_8 : decode cX10_deed 8 = .ok ((.ifCond .ne 9), 3) := by decide +kernel
theorem dX10_deed_11 : decode cX10_deed 11 = .ok ((.aload_n 0), 1) := by decide +kernel
theorem dX10_deed_12 : decode cX10_deed 12 = .ok ((.iconst 2), 1) := by decide +kernel
theorem dX10_deed_13 : decode cX10_deed 13 = .ok ((.invokevirtual 153), 3) := by decide +kernel
theorem dX10_deed_16 : decode cX10_deed 16 = .ok (.ireturn, 1) := by decide +kernel
theorem dX10_deed_17 : decode cX10_deed 17 = .ok ((.iload_n 2), 1) := by decide +kernel
theorem dX10_deed_18 : decode cX10_deed 18 = .ok ((.ifCond .lt 9), 3) := by decide +kernel
theorem dX10_deed_21 : decode cX10_deed 21 = .ok ((.iload_n 2), 1) := by decide +kernel
theorem dX10_deed_22 : decode cX10_deed 22 = .ok ((.bipush 6), 2) := by decide +kernel
theorem dX10_deed_24 : decode cX10_deed 24 = .ok ((.if_icmp .lt 9), 3) := by decide +kernel
theorem dX10_deed_27 : decode cX10_deed 27 = .ok ((.aload_n 0), 1) := by decide +kernel
theorem dX10_deed_28 : decode cX10_deed 28 = .ok ((.iconst 5), 1) := by decide +kernel
theorem dX10_deed_29 : decode cX10_deed 29 = .ok ((.invokevirtual 153), 3) := by decide +kernel
theorem dX10_deed_32 : decode cX10_deed 32 = .ok (.ireturn, 1) := by decide +kernel
theorem dX10_deed_33 : decode cX10_deed 33 = .ok ((.iload_n 2), 1) := by decide +kernel
theorem dX10_deed_34 : decode cX10_deed 34 = .ok ((.iconst 4), 1) := by decide +kernel
theorem dX10_deed_35 : decode cX10_deed 35 = .ok ((.if_icmp .lt 21), 3) := by decide +kernel
theorem dX10_deed_38 : decode cX10_deed 38 = .ok ((.aload_n 0), 1) := by decide +kernel
theorem dX10_deed_39 : decode cX10_deed 39 = .ok ((.getfield 26), 3) := by decide +kernel
theorem dX10_deed_42 : decode cX10_deed 42 = .ok ((.iload_n 1), 1) := by decide +kernel
theorem dX10_deed_43 : decode cX10_deed 43 = .ok ((.invokevirtual 197), 3) := by decide +kernel
theorem dX10_deed_46 : decode cX10_deed 46 = .ok ((.ifCond .eq 10), 3) := by decide +kernel
theorem dX10_deed_49 : decode cX10_deed 49 = .ok ((.aload_n 0), 1) := by decide +kernel
theorem dX10_deed_50 : decode cX10_deed 50 = .ok ((.bipush 8), 2) := by decide +kernel
theorem dX10_deed_52 : decode cX10_deed 52 = .ok ((.invokevirtual 153), 3) := by decide +kernel
theorem dX10_deed_55 : decode cX10_deed 55 = .ok (.ireturn, 1) := by decide +kernel
theorem dX10_deed_56 : decode cX10_deed 56 = .ok ((.aload_n 0), 1) := by decide +kernel
theorem dX10_deed_57 : decode cX10_deed 57 = .ok ((.aload_n 0), 1) := by decide +kernel
theorem dX10_deed_58 : decode cX10_deed 58 = .ok ((.getfield 26), 3) := by decide +kernel
theorem dX10_deed_61 : decode cX10_deed 61 = .ok ((.iload_n 1), 1) := by decide +kernel
theorem dX10_deed_62 : decode cX10_deed 62 = .ok ((.iload_n 2), 1) := by decide +kernel
theorem dX10_deed_63 : decode cX10_deed 63 = .ok ((.invokevirtual 200), 3) := by decide +kernel
theorem dX10_deed_66 : decode cX10_deed 66 = .ok ((.invokevirtual 173), 3) := by decide +kernel
theorem dX10_deed_69 : decode cX10_deed 69 = .ok (.ireturn, 1) := by decide +kernel
def p_X10_deed_27  (a1 : Int32) (a2 : Int32)   (post : Int32 → vSt → Prop) (S : vSt)  : Prop := p_X10_refused  S 5 (fun r18 S17 => post r18 S17)
def p_X10_deed_56  (a1 : Int32) (a2 : Int32)   (post : Int32 → vSt → Prop) (S : vSt)  : Prop := p_X0_deedFact 10 S a1 a2 (fun r18 S17 => p_X10_told  S17 r18 (fun r20 S19 => post r20 S19))
def p_X10_deed   (S : vSt) (a1 : Int32) (a2 : Int32) (post : Int32 → vSt → Prop) : Prop := p_X0_hasDeed 10 S a1 (fun r16 S15 => ((r16 = true → ((a2 < 0 → p_X10_deed_27 a1 a2 post S15 ) ∧ (¬ a2 < 0 → ((a2 < 6 → ((a2 < 4 → p_X10_deed_56 a1 a2 post S15 ) ∧ (¬ a2 < 4 → p_X0_isOpen 10 S15 a1 (fun r18 S17 => ((r18 = false → p_X10_deed_56 a1 a2 post S17 ) ∧ (r18 = true → p_X10_refused  S17 8 (fun r20 S19 => post r20 S19))))))) ∧ (¬ a2 < 6 → p_X10_deed_27 a1 a2 post S15 ))))) ∧ (r16 = false → p_X10_refused  S15 2 (fun r22 S21 => post r22 S21))))
set_option maxHeartbeats 4000000 in
set_option maxRecDepth 100000 in
theorem q_X10_deed_27 {X : vX} {G : vG}  {post : Int32 → vSt → Prop} (C : v_Cx X G cX10_deed RX10 3 (v_rm 2 83)) (D : v_Rx X G (v_Qi G post) (some .int))  {a1 : Int32} {a2 : Int32}   : ∀ (S : vSt), p_X10_deed_27 a1 a2 post S  → VJ X G S 27 [(0, .ref (G.1 0))] [] := by
  intro S  h
  refine V_aload_n C 0 dX10_deed_27 rfl rfl ?_
  refine V_iconst (v := 5) C dX10_deed_28 (by decide) ?_
  refine V_callVi (As := [.int 5]) (rest := []) C (c_X10_refused (v_l X) G  _ _ h) 0 10 (by decide) (by decide) (by decide) rfl KV_X10_refused k_RX10_153 rfl rfl rfl (Nat.le_of_ble_eq_true rfl) ⟨Nat.le_of_ble_eq_true rfl, Nat.le_of_ble_eq_true rfl⟩ dX10_deed_29 (fun r18 S17 h => ?_)
  exact V_iret C D dX10_deed_32 h
set_option maxHeartbeats 4000000 in
set_option maxRecDepth 100000 in
theorem q_X10_deed_56 {X : vX} {G : vG}  {post : Int32 → vSt → Prop} (C : v_Cx X G cX10_deed RX10 3 (v_rm 2 83)) (D : v_Rx X G (v_Qi G post) (some .int))  {a1 : Int32} {a2 : Int32}   : ∀ (S : vSt), p_X10_deed_56 a1 a2 post S  → VJ X G S 56 [(0, .ref (G.1 0)), (1, .int a1), (2, .int a2)] [] := by
  intro S  h
  refine V_aload_n C 0 dX10_deed_56 rfl rfl ?_
  refine V_aload_n C 0 dX10_deed_57 rfl rfl ?_
  refine V_ga C 0 (by decide) (by decide) F_10_2 k_RX10_26 dX10_deed_58 ?_
  refine V_iload_n C 1 dX10_deed_61 rfl rfl ?_
  refine V_iload_n C 2 dX10_deed_62 rfl rfl ?_
  refine V_callVi (As := [.int a1, .int a2]) (rest := [.ref (G.1 0)]) C (c_X0_deedFact (v_l X) G v_i10 _ _ _ h) 10 0 (by decide) (by decide) (by decide) rfl KV_X0_deedFact k_RX10_200 rfl rfl rfl (Nat.le_of_ble_eq_true rfl) ⟨Nat.le_of_ble_eq_true rfl, Nat.le_of_ble_eq_true rfl⟩ dX10_deed_63 (fun r18 S17 h => ?_)
  refine V_callVi (As := [.int r18]) (rest := []) C (c_X10_told (v_l X) G  _ _ h) 0 10 (by decide) (by decide) (by decide) rfl KV_X10_told k_RX10_173 rfl rfl rfl (Nat.le_of_ble_eq_true rfl) ⟨Nat.le_of_ble_eq_true rfl, Nat.le_of_ble_eq_true rfl⟩ dX10_deed_66 (fun r20 S19 h => ?_)
  exact V_iret C D dX10_deed_69 h
set_option maxHeartbeats 4000000 in
set_option maxRecDepth 100000 in
theorem c_X10_deed (l : Launch) (G : vG)    {S : vSt} (a1 : Int32) (a2 : Int32) (post : Int32 → vSt → Prop) (h : p_X10_deed   S a1 a2 post) : Met l yX10_deed (v_ws yX10_deed cX10_deed 3 (some .int)) (v_rm 2 83) (v_Pc G [.ref (G.1 0), .int a1, .int a2] S) (v_Qi G post) 0 0 (v_A G) := by
  refine v_start (by decide +kernel) (Nat.le_of_ble_eq_true rfl) (fun X hl C D => ?_)
  subst hl
  have C : v_Cx X G cX10_deed RX10 3 (v_rm 2 83) := C
  show VJ X G S 0 [(0, .ref (G.1 0)), (1, .int a1), (2, .int a2)] []
  refine V_aload_n C 0 dX10_deed_0 rfl rfl ?_
  refine V_ga C 0 (by decide) (by decide) F_10_2 k_RX10_26 dX10_deed_1 ?_
  refine V_iload_n C 1 dX10_deed_4 rfl rfl ?_
  refine V_callVz (As := [.int a1]) (rest := []) C (c_X0_hasDeed (v_l X) G v_i10 _ _ h) 10 0 (by decide) (by decide) (by decide) rfl KV_X0_hasDeed k_RX10_194 rfl rfl rfl (Nat.le_of_ble_eq_true rfl) ⟨Nat.le_of_ble_eq_true rfl, Nat.le_of_ble_eq_true rfl⟩ dX10_deed_5 (fun r16 S15 h => ?_)
  refine V_ifb_ne (tgt := 17) C dX10_deed_8 (by decide) (fun c => ?_) (fun c => ?_)
  · have h := h.1 c
    refine V_iload_n C 2 dX10_deed_17 rfl rfl ?_
    refine V_if_lt (tgt := 27) C dX10_deed_18 (by decide) (fun c => ?_) (fun c => ?_)
    · have h := h.1 c
      refine V_loc (lv' := [(0, .ref (G.1 0))]) [0] rfl ?_
      exact q_X10_deed_27 C D  _ h
    · have h := h.2 c
      refine V_iload_n C 2 dX10_deed_21 rfl rfl ?_
      refine V_bipush (v := 6) C dX10_deed_22 (by decide) ?_
      refine V_icmp_lt (tgt := 33) C dX10_deed_24 (by decide) (fun c => ?_) (fun c => ?_)
      · have h := h.1 c
        refine V_iload_n C 2 dX10_deed_33 rfl rfl ?_
        refine V_iconst (v := 4) C dX10_deed_34 (by decide) ?_
        refine V_icmp_lt (tgt := 56) C dX10_deed_35 (by decide) (fun c => ?_) (fun c => ?_)
        · have h := h.1 c
          exact q_X10_deed_56 C D  _ h
        · have h := h.2 c
          refine V_aload_n C 0 dX10_deed_38 rfl rfl ?_
          refine V_ga C 0 (by decide) (by decide) F_10_2 k_RX10_26 dX10_deed_39 ?_
          refine V_iload_n C 1 dX10_deed_42 rfl rfl ?_
          refine V_callVz (As := [.int a1]) (rest := []) C (c_X0_isOpen (v_l X) G v_i10 _ _ h) 10 0 (by decide) (by decide) (by decide) rfl KV_X0_isOpen k_RX10_197 rfl rfl rfl (Nat.le_of_ble_eq_true rfl) ⟨Nat.le_of_ble_eq_true rfl, Nat.le_of_ble_eq_true rfl⟩ dX10_deed_43 (fun r18 S17 h => ?_)
          refine V_ifb_eq (tgt := 56) C dX10_deed_46 (by decide) (fun c => ?_) (fun c => ?_)
          · have h := h.1 c
            exact q_X10_deed_56 C D  _ h
          · have h := h.2 c
            refine V_aload_n C 0 dX10_deed_49 rfl rfl ?_
            refine V_bipush (v := 8) C dX10_deed_50 (by decide) ?_
            refine V_callVi (As := [.int 8]) (rest := []) C (c_X10_refused (v_l X) G  _ _ h) 0 10 (by decide) (by decide) (by decide) rfl KV_X10_refused k_RX10_153 rfl rfl rfl (Nat.le_of_ble_eq_true rfl) ⟨Nat.le_of_ble_eq_true rfl, Nat.le_of_ble_eq_true rfl⟩ dX10_deed_52 (fun r20 S19 h => ?_)
            exact V_iret C D dX10_deed_55 h
      · have h := h.2 c
        refine V_loc (lv' := [(0, .ref (G.1 0))]) [0] rfl ?_
        exact q_X10_deed_27 C D  _ h
  · have h := h.2 c
    refine V_aload_n C 0 dX10_deed_11 rfl rfl ?_
    refine V_iconst (v := 2) C dX10_deed_12 (by decide) ?_
    refine V_callVi (As := [.int 2]) (rest := []) C (c_X10_refused (v_l X) G  _ _ h) 0 10 (by decide) (by decide) (by decide) rfl KV_X10_refused k_RX10_153 rfl rfl rfl (Nat.le_of_ble_eq_true rfl) ⟨Nat.le_of_ble_eq_true rfl, Nat.le_of_ble_eq_true rfl⟩ dX10_deed_13 (fun r22 S21 h => ?_)
    exact V_iret C D dX10_deed_16 h
/-! HalfAccuser.copyCoins(I)I -/
theorem dX10_copyCoins_0 : decode cX10_copyCoins 0 = .ok ((.aload_n 0), 1) := by decide +kernel
theorem dX10_copyCoins_1 : decode cX10_copyCoins 1 = .ok ((.getfield 10), 3) := by decide +kernel
theorem dX10_copyCoins_4 : decode cX10_copyCoins 4 = .ok ((.iload_n 1), 1) := by decide +kernel
theorem dX10_copyCoins_5 : decode cX10_copyCoins 5 = .ok ((.aload_n 0), 1) := by decide +kernel
theorem dX10_copyCoins_6 : decode cX10_copyCoins 6 = .ok ((.getfield 26), 3) := by decide +kernel
theorem dX10_copyCoins_9 : decode cX10_copyCoins 9 = .ok ((.getfield 203), 3) := by decide +kernel
theorem dX10_copyCoins_12 : decode cX10_copyCoins 12 = .ok ((.invokevirtual 206), 3) := by decide +kernel
theorem dX10_copyCoins_15 : decode cX10_copyCoins 15 = .ok ((.istore_n 2), 1) := by decide +kernel
theorem dX10_copyCoins_16 : decode cX10_copyCoins 16 = .ok ((.iload_n 2), 1) := by decide +kernel
theorem dX10_copyCoins_17 : decode cX10_copyCoins 17 = .ok ((.ifCond .eq 9), 3) := by decide +kernel
theorem dX10_copyCoins_20 : decode cX10_copyCoins 20 = .ok ((.aload_n 0), 1) := by decide +kernel
theorem dX10_copyCoins_21 : decode cX10_copyCoins 21 = .ok ((.iload_n 2), 1) := by decide +kernel
theorem dX10_copyCoins_22 : decode cX10_copyCoins 22 = .ok ((.invokevirtual 153), 3) := by decide +kernel
theorem dX10_copyCoins_25 : decode cX10_copyCoins 25 = .ok (.ireturn, 1) := by decide +kernel
theorem dX10_copyCoins_26 : decode cX10_copyCoins 26 = .ok ((.iconst 0), 1) := by decide +kernel
theorem dX10_copyCoins_27 : decode cX10_copyCoins 27 = .ok ((.istore_n 3), 1) := by decide +kernel
theorem dX10_copyCoins_28 : decode cX10_copyCoins 28 = .ok ((.iload_n 3), 1) := by decide +kernel
theorem dX10_copyCoins_29 : decode cX10_copyCoins 29 = .ok ((.aload_n 0), 1) := by decide +kernel
theorem dX10_copyCoins_30 : decode cX10_copyCoins 30 = .ok ((.getfield 26), 3) := by decide +kernel
theorem dX10_copyCoins_33 : decode cX10_copyCoins 33 = .ok ((.getfield 203), 3) := by decide +kernel
theorem dX10_copyCoins_36 : decode cX10_copyCoins 36 = .ok ((.if_icmp .ge 30), 3) := by decide +kernel
theorem dX10_copyCoins_39 : decode cX10_copyCoins 39 = .ok ((.aload_n 0), 1) := by decide +kernel
theorem dX10_copyCoins_40 : decode cX10_copyCoins 40 = .ok ((.getfield 10), 3) := by decide +kernel
theorem dX10_copyCoins_43 : decode cX10_copyCoins 43 = .ok ((.iload_n 1), 1) := by decide +kernel
theorem dX10_copyCoins_44 : decode cX10_copyCoins 44 = .ok ((.iload_n 3), 1) := by decide +kernel
theorem dX10_copyCoins_45 : decode cX10_copyCoins 45 = .ok ((.aload_n 0), 1) := by decide +kernel
theorem dX10_copyCoins_46 : decode cX10_copyCoins 46 = .ok ((.getfield 26), 3) := by decide +kernel
theorem dX10_copyCoins_49 : decode cX10_copyCoins 49 = .ok ((.getfield 209), 3) := by decide +kernel
theorem dX10_copyCoins_52 : decode cX10_copyCoins 52 = .ok ((.iload_n 3), 1) := by decide +kernel
theorem dX10_copyCoins_53 : decode cX10_copyCoins 53 = .ok ((.invokestatic 212), 3) := by decide +kernel
theorem dX10_copyCoins_56 : decode cX10_copyCoins 56 = .ok (.i2l, 1) := by decide +kernel
theorem dX10_copyCoins_57 : decode cX10_copyCoins 57 = .ok ((.invokevirtual 124), 3) := by decide +kernel
theorem dX10_copyCoins_60 : decode cX10_copyCoins 60 = .ok ((.iinc 3 1), 3) := by decide +kernel
theorem dX10_copyCoins_63 : decode cX10_copyCoins 63 = .ok ((.goto (-35)), 3) := by decide +kernel
theorem dX10_copyCoins_66 : decode cX10_copyCoins 66 = .ok ((.aload_n 0), 1) := by decide +kernel
theorem dX10_copyCoins_67 : decode cX10_copyCoins 67 = .ok ((.aload_n 0), 1) := by decide +kernel
theorem dX10_copyCoins_68 : decode cX10_copyCoins 68 = .ok ((.getfield 26), 3) := by decide +kernel
theorem dX10_copyCoins_71 : decode cX10_copyCoins 71 = .ok ((.getfield 203), 3) := by decide +kernel
theorem dX10_copyCoins_74 : decode cX10_copyCoins 74 = .ok ((.invokevirtual 173), 3) := by decide +kernel
theorem dX10_copyCoins_77 : decode cX10_copyCoins 77 = .ok (.ireturn, 1) := by decide +kernel
def p_X10_copyCoins_28  (a1 : Int32)   (post : Int32 → vSt → Prop) : Nat → vSt → Int32 → Prop
  | 0 => fun _ _ => False
  | fu28 + 1 => fun S x3 => (((S.1 10 15) ≤ x3 → p_X10_told  S (S.1 10 15) (fun r20 S19 => post r20 S19)) ∧ (¬ (S.1 10 15) ≤ x3 → p_X10_at 13 8 S x3 (fun r22 S21 => p_X7_set  S21 a1 x3 (Int32.toInt64 r22) (fun S23 => ∀ y24 : Int32, y24 = x3 + 1 → (p_X10_copyCoins_28 a1 post fu28) S23 y24))))
theorem e_X10_copyCoins_28  (a1 : Int32)   (post : Int32 → vSt → Prop) (fu28 : Nat) (S : vSt) (x3 : Int32) : p_X10_copyCoins_28 a1 post (fu28 + 1) S x3 = ((((S.1 10 15) ≤ x3 → p_X10_told  S (S.1 10 15) (fun r20 S19 => post r20 S19)) ∧ (¬ (S.1 10 15) ≤ x3 → p_X10_at 13 8 S x3 (fun r22 S21 => p_X7_set  S21 a1 x3 (Int32.toInt64 r22) (fun S23 => ∀ y24 : Int32, y24 = x3 + 1 → (p_X10_copyCoins_28 a1 post fu28) S23 y24))))) := rfl
def p_X10_copyCoins   (S : vSt) (a1 : Int32) (post : Int32 → vSt → Prop) : Prop := p_X7_roomStatus  S a1 (S.1 10 15) (fun r18 S17 => ((r18 = 0 → ∃ fu28, p_X10_copyCoins_28 a1 post fu28 S17 0) ∧ (¬ r18 = 0 → p_X10_refused  S17 r18 (fun r20 S19 => post r20 S19))))
set_option maxHeartbeats 4000000 in
set_option maxRecDepth 100000 in
theorem q_X10_copyCoins_28 {X : vX} {G : vG}  {post : Int32 → vSt → Prop} (C : v_Cx X G cX10_copyCoins RX10 4 (v_rm 3 105)) (D : v_Rx X G (v_Qi G post) (some .int))  {a1 : Int32}   : ∀ (fu : Nat) (S : vSt) (x3 : Int32), p_X10_copyCoins_28 a1 post fu S x3 → VJ X G S 28 [(0, .ref (G.1 0)), (1, .int a1), (3, .int x3)] [] := by
  intro fu
  induction fu with
  | zero => intro S x3 h; exact absurd h id
  | succ fu ih =>
    intro S x3 h
    have hK28 := ih
    rw [e_X10_copyCoins_28] at h
    refine V_iload_n C 2 dX10_copyCoins_28 rfl rfl ?_
    refine V_aload_n C 0 dX10_copyCoins_29 rfl rfl ?_
    refine V_ga C 0 (by decide) (by decide) F_10_2 k_RX10_26 dX10_copyCoins_30 ?_
    refine V_gi C 10 (by decide) (by decide) F_0_15 k_RX10_203 dX10_copyCoins_33 ?_
    refine V_icmp_ge (tgt := 66) C dX10_copyCoins_36 (by decide) (fun c => ?_) (fun c => ?_)
    · have h := h.1 c
      refine V_aload_n C 0 dX10_copyCoins_66 rfl rfl ?_
      refine V_aload_n C 0 dX10_copyCoins_67 rfl rfl ?_
      refine V_ga C 0 (by decide) (by decide) F_10_2 k_RX10_26 dX10_copyCoins_68 ?_
      refine V_gi C 10 (by decide) (by decide) F_0_15 k_RX10_203 dX10_copyCoins_71 ?_
      refine V_callVi (As := [.int (S.1 10 15)]) (rest := []) C (c_X10_told (v_l X) G  _ _ h) 0 10 (by decide) (by decide) (by decide) rfl KV_X10_told k_RX10_173 rfl rfl rfl (Nat.le_of_ble_eq_true rfl) ⟨Nat.le_of_ble_eq_true rfl, Nat.le_of_ble_eq_true rfl⟩ dX10_copyCoins_74 (fun r20 S19 h => ?_)
      exact V_iret C D dX10_copyCoins_77 h
    · have h := h.2 c
      refine V_aload_n C 0 dX10_copyCoins_39 rfl rfl ?_
      refine V_ga C 0 (by decide) (by decide) F_10_0 k_RX10_10 dX10_copyCoins_40 ?_
      refine V_iload_n C 1 dX10_copyCoins_43 rfl rfl ?_
      refine V_iload_n C 2 dX10_copyCoins_44 rfl rfl ?_
      refine V_aload_n C 0 dX10_copyCoins_45 rfl rfl ?_
      refine V_ga C 0 (by decide) (by decide) F_10_2 k_RX10_26 dX10_copyCoins_46 ?_
      refine V_gr C 10 (by decide) (by decide) F_0_2 k_RX10_209 dX10_copyCoins_49 ?_
      refine V_iload_n C 2 dX10_copyCoins_52 rfl rfl ?_
      refine V_callSi (As := [.ref (G.1 13), .int x3]) (rest := [.int x3, .int a1, .ref (G.1 1)]) C (c_X10_at (v_l X) G (by decide) (by decide) _ _ h) KV_X10_at k_RX10_212 rfl rfl rfl (Nat.le_of_ble_eq_true rfl) ⟨Nat.le_of_ble_eq_true rfl, Nat.le_of_ble_eq_true rfl⟩ dX10_copyCoins_53 (fun r22 S21 h => ?_)
      refine V_i2l C dX10_copyCoins_56 ?_
      refine V_callVv (As := [.int a1, .int x3, .long (Int32.toInt64 r22)]) (rest := []) C (c_X7_set (v_l X) G  _ _ _ _ h) 1 7 (by decide) (by decide) (by decide) rfl KV_X7_set k_RX10_124 rfl rfl rfl (Nat.le_of_ble_eq_true rfl) ⟨Nat.le_of_ble_eq_true rfl, Nat.le_of_ble_eq_true rfl⟩ dX10_copyCoins_57 (fun S23 h => ?_)
      obtain ⟨y24, ey24⟩ : ∃ z : Int32, z = x3 + 1 := ⟨_, rfl⟩
      have h := h y24 ey24
      refine V_iinc (lv' := [(0, .ref (G.1 0)), (1, .int a1), (3, .int y24)]) C 2 [1, 2, 0] y24 dX10_copyCoins_60 rfl (by rw [ey24]; rfl) (by decide) rfl ?_
      refine V_goto (tgt := 28) C dX10_copyCoins_63 (by decide) ?_
      exact hK28 _ _ h
set_option maxHeartbeats 4000000 in
set_option maxRecDepth 100000 in
theorem c_X10_copyCoins (l : Launch) (G : vG)    {S : vSt} (a1 : Int32) (post : Int32 → vSt → Prop) (h : p_X10_copyCoins   S a1 post) : Met l yX10_copyCoins (v_ws yX10_copyCoins cX10_copyCoins 4 (some .int)) (v_rm 3 105) (v_Pc G [.ref (G.1 0), .int a1] S) (v_Qi G post) 0 0 (v_A G) := by
  refine v_start (by decide +kernel) (Nat.le_of_ble_eq_true rfl) (fun X hl C D => ?_)
  subst hl
  have C : v_Cx X G cX10_copyCoins RX10 4 (v_rm 3 105) := C
  show VJ X G S 0 [(0, .ref (G.1 0)), (1, .int a1)] []
  refine V_aload_n C 0 dX10_copyCoins_0 rfl rfl ?_
  refine V_ga C 0 (by decide) (by decide) F_10_0 k_RX10_10 dX10_copyCoins_1 ?_
  refine V_iload_n C 1 dX10_copyCoins_4 rfl rfl ?_
  refine V_aload_n C 0 dX10_copyCoins_5 rfl rfl ?_
  refine V_ga C 0 (by decide) (by decide) F_10_2 k_RX10_26 dX10_copyCoins_6 ?_
  refine V_gi C 10 (by decide) (by decide) F_0_15 k_RX10_203 dX10_copyCoins_9 ?_
  refine V_callVi (As := [.int a1, .int (S.1 10 15)]) (rest := []) C (c_X7_roomStatus (v_l X) G  _ _ _ h) 1 7 (by decide) (by decide) (by decide) rfl KV_X7_roomStatus k_RX10_206 rfl rfl rfl (Nat.le_of_ble_eq_true rfl) ⟨Nat.le_of_ble_eq_true rfl, Nat.le_of_ble_eq_true rfl⟩ dX10_copyCoins_12 (fun r18 S17 h => ?_)
  refine V_istore_n (lv' := [(0, .ref (G.1 0)), (1, .int a1), (2, .int r18)]) C [1, 2, 0] dX10_copyCoins_15 rfl (by decide) rfl ?_
  refine V_iload_n C 2 dX10_copyCoins_16 rfl rfl ?_
  refine V_if_eq (tgt := 26) C dX10_copyCoins_17 (by decide) (fun c => ?_) (fun c => ?_)
  · have h := h.1 c
    refine V_iconst (v := 0) C dX10_copyCoins_26 (by decide) ?_
    refine V_istore_n (lv' := [(0, .ref (G.1 0)), (1, .int a1), (2, .int r18), (3, .int 0)]) C [1, 2, 3, 0] dX10_copyCoins_27 rfl (by decide) rfl ?_
    refine V_loc (lv' := [(0, .ref (G.1 0)), (1, .int a1), (3, .int 0)]) [0, 1, 3] rfl ?_
    obtain ⟨fu28, h⟩ := h
    exact q_X10_copyCoins_28 C D  fu28 _ _ h
  · have h := h.2 c
    refine V_aload_n C 0 dX10_copyCoins_20 rfl rfl ?_
    refine V_iload_n C 2 dX10_copyCoins_21 rfl rfl ?_
    refine V_callVi (As := [.int r18]) (rest := []) C (c_X10_refused (v_l X) G  _ _ h) 0 10 (by decide) (by decide) (by decide) rfl KV_X10_refused k_RX10_153 rfl rfl rfl (Nat.le_of_ble_eq_true rfl) ⟨Nat.le_of_ble_eq_true rfl, Nat.le_of_ble_eq_true rfl⟩ dX10_copyCoins_22 (fun r20 S19 h => ?_)
    exact V_iret C D dX10_copyCoins_25 h
/-! HalfAccuser.areThere(II)Z -/
theorem dX10_areThere_0 : decode cX10_areThere 0 = .ok ((.aload_n 0), 1) := by decide +kernel
theorem dX10_areThere_1 : decode cX10_areThere 1 = .ok ((.getfield 26), 3) := by decide +kernel
theorem dX10_areThere_4 : decode cX10_areThere 4 = .ok ((.iload_n 1), 1) := by decide +kernel
theorem dX10_areThere_5 : decode cX10_areThere 5 = .ok ((.invokevirtual 188), 3) := by decide +kernel
theorem dX10_areThere_8 : decode cX10_areThere 8 = .ok ((.ifCond .eq 18), 3) := by decide +kernel
theorem dX10_areThere_11 : decode cX10_areThere 11 = .ok ((.aload_n 0), 1) := by decide +kernel
theorem dX10_areThere_12 : decode cX10_areThere 12 = .ok ((.getfield 26), 3) := by decide +kernel
theorem dX10_areThere_15 : decode cX10_areThere 15 = .ok ((.iload_n 2), 1) := by decide +kernel
theorem dX10_areThere_16 : decode cX10_areThere 16 = .ok ((.invokevirtual 194), 3) := by decide +kernel
theorem dX10_areThere_19 : decode cX10_areThere 19 = .ok ((.ifCond .eq 7), 3) := by decide +kernel
theorem dX10_areThere_22 : decode cX10_areThere 22 = .ok ((.iconst 1), 1) := by decide +kernel
theorem dX10_areThere_23 : decode cX10_areThere 23 = .ok ((.goto 4), 3) := by decide +kernel
theorem dX10_areThere_26 : decode cX10_areThere 26 = .ok ((.iconst 0), 1) := by decide +kernel
theorem dX10_areThere_27 : decode cX10_areThere 27 = .ok (.ireturn, 1) := by decide +kernel
def p_X10_areThere   (S : vSt) (a1 : Int32) (a2 : Int32) (post : Bool → vSt → Prop) : Prop := p_X0_hasPerson 10 S a1 (fun r6 S5 => ((r6 = false → post false S5) ∧ (r6 = true → p_X0_hasDeed 10 S5 a2 (fun r8 S7 => ((r8 = false → post false S7) ∧ (r8 = true → post true S7))))))
set_option maxHeartbeats 4000000 in
set_option maxRecDepth 100000 in
theorem c_X10_areThere (l : Launch) (G : vG)    {S : vSt} (a1 : Int32) (a2 : Int32) (post : Bool → vSt → Prop) (h : p_X10_areThere   S a1 a2 post) : Met l yX10_areThere (v_ws yX10_areThere cX10_areThere 3 (some .boolean)) (v_rm 1 61) (v_Pc G [.ref (G.1 0), .int a1, .int a2] S) (v_Qz G post) 0 0 (v_A G) := by
  refine v_start (by decide +kernel) (Nat.le_of_ble_eq_true rfl) (fun X hl C D => ?_)
  subst hl
  have C : v_Cx X G cX10_areThere RX10 3 (v_rm 1 61) := C
  show VJ X G S 0 [(0, .ref (G.1 0)), (1, .int a1), (2, .int a2)] []
  refine V_aload_n C 0 dX10_areThere_0 rfl rfl ?_
  refine V_ga C 0 (by decide) (by decide) F_10_2 k_RX10_26 dX10_areThere_1 ?_
  refine V_iload_n C 1 dX10_areThere_4 rfl rfl ?_
  refine V_callVz (As := [.int a1]) (rest := []) C (c_X0_hasPerson (v_l X) G v_i10 _ _ h) 10 0 (by decide) (by decide) (by decide) rfl KV_X0_hasPerson k_RX10_188 rfl rfl rfl (Nat.le_of_ble_eq_true rfl) ⟨Nat.le_of_ble_eq_true rfl, Nat.le_of_ble_eq_true rfl⟩ dX10_areThere_5 (fun r6 S5 h => ?_)
  refine V_ifb_eq (tgt := 26) C dX10_areThere_8 (by decide) (fun c => ?_) (fun c => ?_)
  · have h := h.1 c
    refine V_iconst (v := 0) C dX10_areThere_26 (by decide) ?_
    exact V_zret0 C D dX10_areThere_27 h
  · have h := h.2 c
    refine V_aload_n C 0 dX10_areThere_11 rfl rfl ?_
    refine V_ga C 0 (by decide) (by decide) F_10_2 k_RX10_26 dX10_areThere_12 ?_
    refine V_iload_n C 2 dX10_areThere_15 rfl rfl ?_
    refine V_callVz (As := [.int a2]) (rest := []) C (c_X0_hasDeed (v_l X) G v_i10 _ _ h) 10 0 (by decide) (by decide) (by decide) rfl KV_X0_hasDeed k_RX10_194 rfl rfl rfl (Nat.le_of_ble_eq_true rfl) ⟨Nat.le_of_ble_eq_true rfl, Nat.le_of_ble_eq_true rfl⟩ dX10_areThere_16 (fun r8 S7 h => ?_)
    refine V_ifb_eq (tgt := 26) C dX10_areThere_19 (by decide) (fun c => ?_) (fun c => ?_)
    · have h := h.1 c
      refine V_iconst (v := 0) C dX10_areThere_26 (by decide) ?_
      exact V_zret0 C D dX10_areThere_27 h
    · have h := h.2 c
      refine V_iconst (v := 1) C dX10_areThere_22 (by decide) ?_
      refine V_goto (tgt := 27) C dX10_areThere_23 (by decide) ?_
      exact V_zret1 C D dX10_areThere_27 h
/-! HalfAccuser.charge(III)I -/
theorem dX10_charge_0 : decode cX10_charge 0 = .ok ((.aload_n 0), 1) := by decide +kernel
theorem dX10_charge_1 : decode cX10_charge 1 = .ok ((.iload_n 1), 1) := by decide +kernel
theorem dX10_charge_2 : decode cX10_charge 2 = .ok ((.iload_n 2), 1) := by decide +kernel
theorem dX10_charge_3 : decode cX10_charge 3 = .ok ((.invokevirtual 216), 3) := by decide +kernel
theorem dX10_charge_6 : decode cX10_charge 6 = .ok ((.ifCond .ne 9), 3) := by decide +kernel
theorem dX10_charge_9 : decode cX10_charge 9 = .ok ((.aload_n 0), 1) := by decide +kernel
theorem dX10_charge_10 : decode cX10_charge 10 = .ok ((.iconst 2), 1) := by decide +kernel
theorem dX10_charge_11 : decode cX10_charge 11 = .ok ((.invokevirtual 153), 3) := by decide +kernel
theorem dX10_charge_14 : decode cX10_charge 14 = .ok (.ireturn, 1) := by decide +kernel
theorem dX10_charge_15 : decode cX10_charge 15 = .ok ((.iload_n 3), 1) := by decide +kernel
theorem dX10_charge_16 : decode cX10_charge 16 = .ok ((.ifCond .lt 15), 3) := by decide +kernel
theorem dX10_charge_19 : decode cX10_charge 19 = .ok ((.iload_n 3), 1) := by decide +kernel
theorem dX10_charge_20 : decode cX10_charge 20 = .ok ((.aload_n 0), 1) := by decide +kernel
theorem dX10_charge_21 : decode cX10_charge 21 = .ok ((.getfield 26), 3) := by decide +kernel
theorem dX10_charge_24 : decode cX10_charge 24 = .ok ((.iconst 0), 1) := by decide +kernel
theorem dX10_charge_25 : decode cX10_charge 25 = .ok ((.invokevirtual 220), 3) := by decide +kernel
theorem dX10_charge_28 : decode cX10_charge 28 = .ok ((.if_icmp .le 9), 3) := by decide +kernel
theorem dX10_charge_31 : decode cX10_charge 31 = .ok ((.aload_n 0), 1) := by decide +kernel
theorem dX10_charge_32 : decode cX10_charge 32 = .ok ((.iconst 5), 1) := by decide +kernel
theorem dX10_charge_33 : decode cX10_charge 33 = .ok ((.invokevirtual 153), 3) := by decide +kernel
theorem dX10_charge_36 : decode cX10_charge 36 = .ok (.ireturn, 1) := by decide +kernel
theorem dX10_charge_37 : decode cX10_charge 37 = .ok ((.aload_n 0), 1) := by decide +kernel
theorem dX10_charge_38 : decode cX10_charge 38 = .ok ((.getfield 26), 3) := by decide +kernel
theorem dX10_charge_41 : decode cX10_charge 41 = .ok ((.iload_n 1), 1) := by decide +kernel
theorem dX10_charge_42 : decode cX10_charge 42 = .ok ((.iload_n 2), 1) := by decide +kernel
theorem dX10_charge_43 : decode cX10_charge 43 = .ok ((.invokevirtual 223), 3) := by decide +kernel
theorem dX10_charge_46 : decode cX10_charge 46 = .ok ((.ifCond .ne 10), 3) := by decide +kernel
theorem dX10_charge_49 : decode cX10_charge 49 = .ok ((.aload_n 0), 1) := by decide +kernel
theorem dX10_charge_50 : decode cX10_charge 50 = .ok ((.bipush 9), 2) := by decide +kernel
theorem dX10_charge_52 : decode cX10_charge 52 = .ok ((.invokevirtual 153), 3) := by decide +kernel
theorem dX10_charge_55 : decode cX10_charge 55 = .ok (.ireturn, 1) := by decide +kernel
theorem dX10_charge_56 : decode cX10_charge 56 = .ok ((.aload_n 0), 1) := by decide +kernel
theorem dX10_charge_57 : decode cX10_charge 57 = .ok ((.getfield 26), 3) := by decide +kernel
theorem dX10_charge_60 : decode cX10_charge 60 = .ok ((.iload_n 1), 1) := by decide +kernel
theorem dX10_charge_61 : decode cX10_charge 61 = .ok ((.iload_n 2), 1) := by decide +kernel
theorem dX10_charge_62 : decode cX10_charge 62 = .ok ((.iload_n 3), 1) := by decide +kernel
theorem dX10_charge_63 : decode cX10_charge 63 = .ok ((.invokevirtual 226), 3) := by decide +kernel
theorem dX10_charge_66 : decode cX10_charge 66 = .ok (.pop, 1) := by decide +kernel
theorem dX10_charge_67 : decode cX10_charge 67 = .ok ((.aload_n 0), 1) := by decide +kernel
theorem dX10_charge_68 : decode cX10_charge 68 = .ok ((.aload_n 0), 1) := by decide +kernel
theorem dX10_charge_69 : decode cX10_charge 69 = .ok ((.getfield 26), 3) := by decide +kernel
theorem dX10_charge_72 : decode cX10_charge 72 = .ok ((.getfield 209), 3) := by decide +kernel
theorem dX10_charge_75 : decode cX10_charge 75 = .ok ((.iload_n 1), 1) := by decide +kernel
theorem dX10_charge_76 : decode cX10_charge 76 = .ok ((.invokestatic 212), 3) := by decide +kernel
theorem dX10_charge_79 : decode cX10_charge 79 = .ok ((.invokevirtual 173), 3) := by decide +kernel
theorem dX10_charge_82 : decode cX10_charge 82 = .ok (.ireturn, 1) := by decide +kernel
def p_X10_charge_31  (a1 : Int32) (a2 : Int32) (a3 : Int32)   (post : Int32 → vSt → Prop) (S : vSt)  : Prop := p_X10_refused  S 5 (fun r22 S21 => post r22 S21)
def p_X10_charge   (S : vSt) (a1 : Int32) (a2 : Int32) (a3 : Int32) (post : Int32 → vSt → Prop) : Prop := p_X10_areThere  S a1 a2 (fun r20 S19 => ((r20 = true → ((a3 < 0 → p_X10_charge_31 a1 a2 a3 post S19 ) ∧ (¬ a3 < 0 → p_X0_ruleOf 10 S19 0 (fun r22 S21 => ((a3 ≤ r22 → p_X0_mayCharge 10 S21 a1 a2 (fun r24 S23 => ((r24 = true → p_X0_decide 10 S23 a1 a2 a3 (fun r26 S25 => p_X10_at 13 8 S25 a1 (fun r28 S27 => p_X10_told  S27 r28 (fun r30 S29 => post r30 S29)))) ∧ (r24 = false → p_X10_refused  S23 9 (fun r32 S31 => post r32 S31))))) ∧ (¬ a3 ≤ r22 → p_X10_charge_31 a1 a2 a3 post S21 )))))) ∧ (r20 = false → p_X10_refused  S19 2 (fun r34 S33 => post r34 S33))))
set_option maxHeartbeats 4000000 in
set_option maxRecDepth 100000 in
theorem q_X10_charge_31 {X : vX} {G : vG}  {post : Int32 → vSt → Prop} (C : v_Cx X G cX10_charge RX10 4 (v_rm 3 109)) (D : v_Rx X G (v_Qi G post) (some .int))  {a1 : Int32} {a2 : Int32} {a3 : Int32}   : ∀ (S : vSt), p_X10_charge_31 a1 a2 a3 post S  → VJ X G S 31 [(0, .ref (G.1 0))] [] := by
  intro S  h
  refine V_aload_n C 0 dX10_charge_31 rfl rfl ?_
  refine V_iconst (v := 5) C dX10_charge_32 (by decide) ?_
  refine V_callVi (As := [.int 5]) (rest := []) C (c_X10_refused (v_l X) G  _ _ h) 0 10 (by decide) (by decide) (by decide) rfl KV_X10_refused k_RX10_153 rfl rfl rfl (Nat.le_of_ble_eq_true rfl) ⟨Nat.le_of_ble_eq_true rfl, Nat.le_of_ble_eq_true rfl⟩ dX10_charge_33 (fun r22 S21 h => ?_)
  exact V_iret C D dX10_charge_36 h
set_option maxHeartbeats 4000000 in
set_option maxRecDepth 100000 in
theorem c_X10_charge (l : Launch) (G : vG)    {S : vSt} (a1 : Int32) (a2 : Int32) (a3 : Int32) (post : Int32 → vSt → Prop) (h : p_X10_charge   S a1 a2 a3 post) : Met l yX10_charge (v_ws yX10_charge cX10_charge 4 (some .int)) (v_rm 3 109) (v_Pc G [.ref (G.1 0), .int a1, .int a2, .int a3] S) (v_Qi G post) 0 0 (v_A G) := by
  refine v_start (by decide +kernel) (Nat.le_of_ble_eq_true rfl) (fun X hl C D => ?_)
  subst hl
  have C : v_Cx X G cX10_charge RX10 4 (v_rm 3 109) := C
  show VJ X G S 0 [(0, .ref (G.1 0)), (1, .int a1), (2, .int a2), (3, .int a3)] []
  refine V_aload_n C 0 dX10_charge_0 rfl rfl ?_
  refine V_iload_n C 1 dX10_charge_1 rfl rfl ?_
  refine V_iload_n C 2 dX10_charge_2 rfl rfl ?_
  refine V_callVz (As := [.int a1, .int a2]) (rest := []) C (c_X10_areThere (v_l X) G  _ _ _ h) 0 10 (by decide) (by decide) (by decide) rfl KV_X10_areThere k_RX10_216 rfl rfl rfl (Nat.le_of_ble_eq_true rfl) ⟨Nat.le_of_ble_eq_true rfl, Nat.le_of_ble_eq_true rfl⟩ dX10_charge_3 (fun r20 S19 h => ?_)
  refine V_ifb_ne (tgt := 15) C dX10_charge_6 (by decide) (fun c => ?_) (fun c => ?_)
  · have h := h.1 c
    refine V_iload_n C 3 dX10_charge_15 rfl rfl ?_
    refine V_if_lt (tgt := 31) C dX10_charge_16 (by decide) (fun c => ?_) (fun c => ?_)
    · have h := h.1 c
      refine V_loc (lv' := [(0, .ref (G.1 0))]) [0] rfl ?_
      exact q_X10_charge_31 C D  _ h
    · have h := h.2 c
      refine V_iload_n C 3 dX10_charge_19 rfl rfl ?_
      refine V_aload_n C 0 dX10_charge_20 rfl rfl ?_
      refine V_ga C 0 (by decide) (by decide) F_10_2 k_RX10_26 dX10_charge_21 ?_
      refine V_iconst (v := 0) C dX10_charge_24 (by decide) ?_
      refine V_callVi (As := [.int 0]) (rest := [.int a3]) C (c_X0_ruleOf (v_l X) G v_i10 _ _ h) 10 0 (by decide) (by decide) (by decide) rfl KV_X0_ruleOf k_RX10_220 rfl rfl rfl (Nat.le_of_ble_eq_true rfl) ⟨Nat.le_of_ble_eq_true rfl, Nat.le_of_ble_eq_true rfl⟩ dX10_charge_25 (fun r22 S21 h => ?_)
      refine V_icmp_le (tgt := 37) C dX10_charge_28 (by decide) (fun c => ?_) (fun c => ?_)
      · have h := h.1 c
        refine V_aload_n C 0 dX10_charge_37 rfl rfl ?_
        refine V_ga C 0 (by decide) (by decide) F_10_2 k_RX10_26 dX10_charge_38 ?_
        refine V_iload_n C 1 dX10_charge_41 rfl rfl ?_
        refine V_iload_n C 2 dX10_charge_42 rfl rfl ?_
        refine V_callVz (As := [.int a1, .int a2]) (rest := []) C (c_X0_mayCharge (v_l X) G v_i10 _ _ _ h) 10 0 (by decide) (by decide) (by decide) rfl KV_X0_mayCharge k_RX10_223 rfl rfl rfl (Nat.le_of_ble_eq_true rfl) ⟨Nat.le_of_ble_eq_true rfl, Nat.le_of_ble_eq_true rfl⟩ dX10_charge_43 (fun r24 S23 h => ?_)
        refine V_ifb_ne (tgt := 56) C dX10_charge_46 (by decide) (fun c => ?_) (fun c => ?_)
        · have h := h.1 c
          refine V_aload_n C 0 dX10_charge_56 rfl rfl ?_
          refine V_ga C 0 (by decide) (by decide) F_10_2 k_RX10_26 dX10_charge_57 ?_
          refine V_iload_n C 1 dX10_charge_60 rfl rfl ?_
          refine V_iload_n C 2 dX10_charge_61 rfl rfl ?_
          refine V_iload_n C 3 dX10_charge_62 rfl rfl ?_
          refine V_callVi (As := [.int a1, .int a2, .int a3]) (rest := []) C (c_X0_decide (v_l X) G v_i10 _ _ _ _ h) 10 0 (by decide) (by decide) (by decide) rfl KV_X0_decide k_RX10_226 rfl rfl rfl (Nat.le_of_ble_eq_true rfl) ⟨Nat.le_of_ble_eq_true rfl, Nat.le_of_ble_eq_true rfl⟩ dX10_charge_63 (fun r26 S25 h => ?_)
          refine V_pop C dX10_charge_66 rfl ?_
          refine V_aload_n C 0 dX10_charge_67 rfl rfl ?_
          refine V_aload_n C 0 dX10_charge_68 rfl rfl ?_
          refine V_ga C 0 (by decide) (by decide) F_10_2 k_RX10_26 dX10_charge_69 ?_
          refine V_gr C 10 (by decide) (by decide) F_0_2 k_RX10_209 dX10_charge_72 ?_
          refine V_iload_n C 1 dX10_charge_75 rfl rfl ?_
          refine V_callSi (As := [.ref (G.1 13), .int a1]) (rest := [.ref (G.1 0)]) C (c_X10_at (v_l X) G (by decide) (by decide) _ _ h) KV_X10_at k_RX10_212 rfl rfl rfl (Nat.le_of_ble_eq_true rfl) ⟨Nat.le_of_ble_eq_true rfl, Nat.le_of_ble_eq_true rfl⟩ dX10_charge_76 (fun r28 S27 h => ?_)
          refine V_callVi (As := [.int r28]) (rest := []) C (c_X10_told (v_l X) G  _ _ h) 0 10 (by decide) (by decide) (by decide) rfl KV_X10_told k_RX10_173 rfl rfl rfl (Nat.le_of_ble_eq_true rfl) ⟨Nat.le_of_ble_eq_true rfl, Nat.le_of_ble_eq_true rfl⟩ dX10_charge_79 (fun r30 S29 h => ?_)
          exact V_iret C D dX10_charge_82 h
        · have h := h.2 c
          refine V_aload_n C 0 dX10_charge_49 rfl rfl ?_
          refine V_bipush (v := 9) C dX10_charge_50 (by decide) ?_
          refine V_callVi (As := [.int 9]) (rest := []) C (c_X10_refused (v_l X) G  _ _ h) 0 10 (by decide) (by decide) (by decide) rfl KV_X10_refused k_RX10_153 rfl rfl rfl (Nat.le_of_ble_eq_true rfl) ⟨Nat.le_of_ble_eq_true rfl, Nat.le_of_ble_eq_true rfl⟩ dX10_charge_52 (fun r32 S31 h => ?_)
          exact V_iret C D dX10_charge_55 h
      · have h := h.2 c
        refine V_loc (lv' := [(0, .ref (G.1 0))]) [0] rfl ?_
        exact q_X10_charge_31 C D  _ h
  · have h := h.2 c
    refine V_aload_n C 0 dX10_charge_9 rfl rfl ?_
    refine V_iconst (v := 2) C dX10_charge_10 (by decide) ?_
    refine V_callVi (As := [.int 2]) (rest := []) C (c_X10_refused (v_l X) G  _ _ h) 0 10 (by decide) (by decide) (by decide) rfl KV_X10_refused k_RX10_153 rfl rfl rfl (Nat.le_of_ble_eq_true rfl) ⟨Nat.le_of_ble_eq_true rfl, Nat.le_of_ble_eq_true rfl⟩ dX10_charge_11 (fun r34 S33 h => ?_)
    exact V_iret C D dX10_charge_14 h
/-! HalfAccuser.hear(III)I -/
theorem dX10_hear_0 : decode cX10_hear 0 = .ok ((.aload_n 0), 1) := by decide +kernel
theorem dX10_hear_1 : decode cX10_hear 1 = .ok ((.iload_n 1), 1) := by decide +kernel
theorem dX10_hear_2 : decode cX10_hear 2 = .ok ((.iload_n 2), 1) := by decide +kernel
theorem dX10_hear_3 : decode cX10_hear 3 = .ok ((.invokevirtual 216), 3) := by decide +kernel
theorem dX10_hear_6 : decode cX10_hear 6 = .ok ((.ifCond .ne 9), 3) := by decide +kernel
theorem dX10_hear_9 : decode cX10_hear 9 = .ok ((.aload_n 0), 1) := by decide +kernel
theorem dX10_hear_10 : decode cX10_hear 10 = .ok ((.iconst 2), 1) := by decide +kernel
theorem dX10_hear_11 : decode cX10_hear 11 = .ok ((.invokevirtual 153), 3) := by decide +kernel
theorem dX10_hear_14 : decode cX10_hear 14 = .ok (.ireturn, 1) := by decide +kernel
theorem dX10_hear_15 : decode cX10_hear 15 = .ok ((.iload_n 3), 1) := by decide +kernel
theorem dX10_hear_16 : decode cX10_hear 16 = .ok ((.ifCond .lt 10), 3) := by decide +kernel
theorem dX10_hear_19 : decode cX10_hear 19 = .ok ((.iload_n 3), 1) := by decide +kernel
theorem dX10_hear_20 : decode cX10_hear 20 = .ok ((.sipush 9999), 3) := by decide +kernel
theorem dX10_hear_23 : decode cX10_hear 23 = .ok ((.if_icmp .le 9), 3) := by decide +kernel
theorem dX10_hear_26 : decode cX10_hear 26 = .ok ((.aload_n 0), 1) := by decide +kernel
theorem dX10_hear_27 : decode cX10_hear 27 = .ok ((.iconst 5), 1) := by decide +kernel
theorem dX10_hear_28 : decode cX10_hear 28 = .ok ((.invokevirtual 153), 3) := by decide +kernel
theorem dX10_hear_31 : decode cX10_hear 31 = .ok (.ireturn, 1) := by decide +kernel
theorem dX10_hear_32 : decode cX10_hear 32 = .ok ((.aload_n 0), 1) := by decide +kernel
theorem dX10_hear_33 : decode cX10_hear 33 = .ok ((.getfield 26), 3) := by decide +kernel
theorem dX10_hear_36 : decode cX10_hear 36 = .ok ((.iload_n 1), 1) := by decide +kernel
theorem dX10_hear_37 : decode cX10_hear 37 = .ok ((.iload_n 2), 1) := by decide +kernel
theorem dX10_hear_38 : decode cX10_hear 38 = .ok ((.invokevirtual 223), 3) := by decide +kernel
theorem dX10_hear_41 : decode cX10_hear 41 = .ok ((.ifCond .ne 10), 3) := by decide +kernel
theorem dX10_hear_44 : decode cX10_hear 44 = .ok ((.aload_n 0), 1) := by decide +kernel
theorem dX10_hear_45 : decode cX10_hear 45 = .ok ((.bipush 9), 2) := by decide +kernel
theorem dX10_hear_47 : decode cX10_hear 47 = .ok ((.invokevirtual 153), 3) := by decide +kernel
theorem dX10_hear_50 : decode cX10_hear 50 = .ok (.ireturn, 1) := by decide +kernel
theorem dX10_hear_51 : decode cX10_hear 51 = .ok ((.aload_n 0), 1) := by decide +kernel
theorem dX10_hear_52 : decode cX10_hear 52 = .ok ((.getfield 87), 3) := by decide +kernel
theorem dX10_hear_55 : decode cX10_hear 55 = .ok ((.iload_n 3), 1) := by decide +kernel
theorem dX10_hear_56 : decode cX10_hear 56 = .ok ((.invokevirtual 229), 3) := by decide +kernel
theorem dX10_hear_59 : decode cX10_hear 59 = .ok ((.aload_n 0), 1) := by decide +kernel
theorem dX10_hear_60 : decode cX10_hear 60 = .ok ((.getfield 87), 3) := by decide +kernel
theorem dX10_hear_63 : decode cX10_hear 63 = .ok ((.aload_n 0), 1) := by decide +kernel
theorem dX10_hear_64 : decode cX10_hear 64 = .ok ((.getfield 26), 3) := by decide +kernel
theorem dX10_hear_67 : decode cX10_hear 67 = .ok ((.iload_n 1), 1) := by decide +kernel
theorem dX10_hear_68 : decode cX10_hear 68 = .ok ((.iload_n 2), 1) := by decide +kernel
theorem dX10_hear_69 : decode cX10_hear 69 = .ok ((.invokevirtual 232), 3) := by decide +kernel
theorem dX10_hear_72 : decode cX10_hear 72 = .ok ((.istore 4), 2) := by decide +kernel
theorem dX10_hear_74 : decode cX10_hear 74 = .ok ((.aload_n 0), 1) := by decide +kernel
theorem dX10_hear_75 : decode cX10_hear 75 = .ok ((.getfield 26), 3) := by decide +kernel
theorem dX10_hear_78 : decode cX10_hear 78 = .ok ((.iload_n 1), 1) := by decide +kernel
theorem dX10_hear_79 : decode cX10_hear 79 = .ok ((.iload_n 2), 1) := by decide +kernel
theorem dX10_hear_80 : decode cX10_hear 80 = .ok ((.iload 4), 2) := by decide +kernel
theorem dX10_hear_82 : decode cX10_hear 82 = .ok ((.invokevirtual 226), 3) := by decide +kernel
theorem dX10_hear_85 : decode cX10_hear 85 = .ok (.pop, 1) := by decide +kernel
theorem dX10_hear_86 : decode cX10_hear 86 = .ok ((.aload_n 0), 1) := by decide +kernel
theorem dX10_hear_87 : decode cX10_hear 87 = .ok ((.iload 4), 2) := by decide +kernel
theorem dX10_hear_89 : decode cX10_hear 89 = .ok ((.invokevirtual 173), 3) := by decide +kernel
theorem dX10_hear_92 : decode cX10_hear 92 = .ok (.ireturn, 1) := by decide +kernel
def p_X10_hear_26  (a1 : Int32) (a2 : Int32) (a3 : Int32)   (post : Int32 → vSt → Prop) (S : vSt)  : Prop := p_X10_refused  S 5 (fun r21 S20 => post r21 S20)
def p_X10_hear   (S : vSt) (a1 : Int32) (a2 : Int32) (a3 : Int32) (post : Int32 → vSt → Prop) : Prop := p_X10_areThere  S a1 a2 (fun r19 S18 => ((r19 = true → ((a3 < 0 → p_X10_hear_26 a1 a2 a3 post S18 ) ∧ (¬ a3 < 0 → ((a3 ≤ 9999 → p_X0_mayCharge 10 S18 a1 a2 (fun r21 S20 => ((r21 = true → p_X4_sow  S20 a3 (fun S22 => p_X4_jury 10 S22 a1 a2 (fun r24 S23 => p_X0_decide 10 S23 a1 a2 r24 (fun r26 S25 => p_X10_told  S25 r24 (fun r28 S27 => post r28 S27))))) ∧ (r21 = false → p_X10_refused  S20 9 (fun r30 S29 => post r30 S29))))) ∧ (¬ a3 ≤ 9999 → p_X10_hear_26 a1 a2 a3 post S18 ))))) ∧ (r19 = false → p_X10_refused  S18 2 (fun r32 S31 => post r32 S31))))
set_option maxHeartbeats 4000000 in
set_option maxRecDepth 100000 in
theorem q_X10_hear_26 {X : vX} {G : vG}  {post : Int32 → vSt → Prop} (C : v_Cx X G cX10_hear RX10 5 (v_rm 4 129)) (D : v_Rx X G (v_Qi G post) (some .int))  {a1 : Int32} {a2 : Int32} {a3 : Int32}   : ∀ (S : vSt), p_X10_hear_26 a1 a2 a3 post S  → VJ X G S 26 [(0, .ref (G.1 0))] [] := by
  intro S  h
  refine V_aload_n C 0 dX10_hear_26 rfl rfl ?_
  refine V_iconst (v := 5) C dX10_hear_27 (by decide) ?_
  refine V_callVi (As := [.int 5]) (rest := []) C (c_X10_refused (v_l X) G  _ _ h) 0 10 (by decide) (by decide) (by decide) rfl KV_X10_refused k_RX10_153 rfl rfl rfl (Nat.le_of_ble_eq_true rfl) ⟨Nat.le_of_ble_eq_true rfl, Nat.le_of_ble_eq_true rfl⟩ dX10_hear_28 (fun r21 S20 h => ?_)
  exact V_iret C D dX10_hear_31 h
set_option maxHeartbeats 4000000 in
set_option maxRecDepth 100000 in
theorem c_X10_hear (l : Launch) (G : vG)    {S : vSt} (a1 : Int32) (a2 : Int32) (a3 : Int32) (post : Int32 → vSt → Prop) (h : p_X10_hear   S a1 a2 a3 post) : Met l yX10_hear (v_ws yX10_hear cX10_hear 5 (some .int)) (v_rm 4 129) (v_Pc G [.ref (G.1 0), .int a1, .int a2, .int a3] S) (v_Qi G post) 0 0 (v_A G) := by
  refine v_start (by decide +kernel) (Nat.le_of_ble_eq_true rfl) (fun X hl C D => ?_)
  subst hl
  have C : v_Cx X G cX10_hear RX10 5 (v_rm 4 129) := C
  show VJ X G S 0 [(0, .ref (G.1 0)), (1, .int a1), (2, .int a2), (3, .int a3)] []
  refine V_aload_n C 0 dX10_hear_0 rfl rfl ?_
  refine V_iload_n C 1 dX10_hear_1 rfl rfl ?_
  refine V_iload_n C 2 dX10_hear_2 rfl rfl ?_
  refine V_callVz (As := [.int a1, .int a2]) (rest := []) C (c_X10_areThere (v_l X) G  _ _ _ h) 0 10 (by decide) (by decide) (by decide) rfl KV_X10_areThere k_RX10_216 rfl rfl rfl (Nat.le_of_ble_eq_true rfl) ⟨Nat.le_of_ble_eq_true rfl, Nat.le_of_ble_eq_true rfl⟩ dX10_hear_3 (fun r19 S18 h => ?_)
  refine V_ifb_ne (tgt := 15) C dX10_hear_6 (by decide) (fun c => ?_) (fun c => ?_)
  · have h := h.1 c
    refine V_iload_n C 3 dX10_hear_15 rfl rfl ?_
    refine V_if_lt (tgt := 26) C dX10_hear_16 (by decide) (fun c => ?_) (fun c => ?_)
    · have h := h.1 c
      refine V_loc (lv' := [(0, .ref (G.1 0))]) [0] rfl ?_
      exact q_X10_hear_26 C D  _ h
    · have h := h.2 c
      refine V_iload_n C 3 dX10_hear_19 rfl rfl ?_
      refine V_sipush (v := 9999) C dX10_hear_20 (by decide) ?_
      refine V_icmp_le (tgt := 32) C dX10_hear_23 (by decide) (fun c => ?_) (fun c => ?_)
      · have h := h.1 c
        refine V_aload_n C 0 dX10_hear_32 rfl rfl ?_
        refine V_ga C 0 (by decide) (by decide) F_10_2 k_RX10_26 dX10_hear_33 ?_
        refine V_iload_n C 1 dX10_hear_36 rfl rfl ?_
        refine V_iload_n C 2 dX10_hear_37 rfl rfl ?_
        refine V_callVz (As := [.int a1, .int a2]) (rest := []) C (c_X0_mayCharge (v_l X) G v_i10 _ _ _ h) 10 0 (by decide) (by decide) (by decide) rfl KV_X0_mayCharge k_RX10_223 rfl rfl rfl (Nat.le_of_ble_eq_true rfl) ⟨Nat.le_of_ble_eq_true rfl, Nat.le_of_ble_eq_true rfl⟩ dX10_hear_38 (fun r21 S20 h => ?_)
        refine V_ifb_ne (tgt := 51) C dX10_hear_41 (by decide) (fun c => ?_) (fun c => ?_)
        · have h := h.1 c
          refine V_aload_n C 0 dX10_hear_51 rfl rfl ?_
          refine V_ga C 0 (by decide) (by decide) F_10_10 k_RX10_87 dX10_hear_52 ?_
          refine V_iload_n C 3 dX10_hear_55 rfl rfl ?_
          refine V_callVv (As := [.int a3]) (rest := []) C (c_X4_sow (v_l X) G  _ _ h) 74 4 (by decide) (by decide) (by decide) rfl KV_X4_sow k_RX10_229 rfl rfl rfl (Nat.le_of_ble_eq_true rfl) ⟨Nat.le_of_ble_eq_true rfl, Nat.le_of_ble_eq_true rfl⟩ dX10_hear_56 (fun S22 h => ?_)
          refine V_aload_n C 0 dX10_hear_59 rfl rfl ?_
          refine V_ga C 0 (by decide) (by decide) F_10_10 k_RX10_87 dX10_hear_60 ?_
          refine V_aload_n C 0 dX10_hear_63 rfl rfl ?_
          refine V_ga C 0 (by decide) (by decide) F_10_2 k_RX10_26 dX10_hear_64 ?_
          refine V_iload_n C 1 dX10_hear_67 rfl rfl ?_
          refine V_iload_n C 2 dX10_hear_68 rfl rfl ?_
          refine V_callVi (As := [.ref (G.1 10), .int a1, .int a2]) (rest := []) C (c_X4_jury (v_l X) G v_i10 _ _ _ h) 74 4 (by decide) (by decide) (by decide) rfl KV_X4_jury k_RX10_232 rfl rfl rfl (Nat.le_of_ble_eq_true rfl) ⟨Nat.le_of_ble_eq_true rfl, Nat.le_of_ble_eq_true rfl⟩ dX10_hear_69 (fun r24 S23 h => ?_)
          refine V_istore (lv' := [(0, .ref (G.1 0)), (1, .int a1), (2, .int a2), (3, .int a3), (4, .int r24)]) C [1, 2, 3, 4, 0] dX10_hear_72 (by decide) rfl ?_
          refine V_aload_n C 0 dX10_hear_74 rfl rfl ?_
          refine V_ga C 0 (by decide) (by decide) F_10_2 k_RX10_26 dX10_hear_75 ?_
          refine V_iload_n C 1 dX10_hear_78 rfl rfl ?_
          refine V_iload_n C 2 dX10_hear_79 rfl rfl ?_
          refine V_iload C 4 dX10_hear_80 rfl ?_
          refine V_callVi (As := [.int a1, .int a2, .int r24]) (rest := []) C (c_X0_decide (v_l X) G v_i10 _ _ _ _ h) 10 0 (by decide) (by decide) (by decide) rfl KV_X0_decide k_RX10_226 rfl rfl rfl (Nat.le_of_ble_eq_true rfl) ⟨Nat.le_of_ble_eq_true rfl, Nat.le_of_ble_eq_true rfl⟩ dX10_hear_82 (fun r26 S25 h => ?_)
          refine V_pop C dX10_hear_85 rfl ?_
          refine V_aload_n C 0 dX10_hear_86 rfl rfl ?_
          refine V_iload C 4 dX10_hear_87 rfl ?_
          refine V_callVi (As := [.int r24]) (rest := []) C (c_X10_told (v_l X) G  _ _ h) 0 10 (by decide) (by decide) (by decide) rfl KV_X10_told k_RX10_173 rfl rfl rfl (Nat.le_of_ble_eq_true rfl) ⟨Nat.le_of_ble_eq_true rfl, Nat.le_of_ble_eq_true rfl⟩ dX10_hear_89 (fun r28 S27 h => ?_)
          exact V_iret C D dX10_hear_92 h
        · have h := h.2 c
          refine V_aload_n C 0 dX10_hear_44 rfl rfl ?_
          refine V_bipush (v := 9) C dX10_hear_45 (by decide) ?_
          refine V_callVi (As := [.int 9]) (rest := []) C (c_X10_refused (v_l X) G  _ _ h) 0 10 (by decide) (by decide) (by decide) rfl KV_X10_refused k_RX10_153 rfl rfl rfl (Nat.le_of_ble_eq_true rfl) ⟨Nat.le_of_ble_eq_true rfl, Nat.le_of_ble_eq_true rfl⟩ dX10_hear_47 (fun r30 S29 h => ?_)
          exact V_iret C D dX10_hear_50 h
      · have h := h.2 c
        refine V_loc (lv' := [(0, .ref (G.1 0))]) [0] rfl ?_
        exact q_X10_hear_26 C D  _ h
  · have h := h.2 c
    refine V_aload_n C 0 dX10_hear_9 rfl rfl ?_
    refine V_iconst (v := 2) C dX10_hear_10 (by decide) ?_
    refine V_callVi (As := [.int 2]) (rest := []) C (c_X10_refused (v_l X) G  _ _ h) 0 10 (by decide) (by decide) (by decide) rfl KV_X10_refused k_RX10_153 rfl rfl rfl (Nat.le_of_ble_eq_true rfl) ⟨Nat.le_of_ble_eq_true rfl, Nat.le_of_ble_eq_true rfl⟩ dX10_hear_11 (fun r32 S31 h => ?_)
    exact V_iret C D dX10_hear_14 h
/-! HalfAccuser.drop(III)I -/
theorem dX10_drop_0 : decode cX10_drop 0 = .ok ((.aload_n 0), 1) := by decide +kernel
theorem dX10_drop_1 : decode cX10_drop 1 = .ok ((.iload_n 1), 1) := by decide +kernel
theorem dX10_drop_2 : decode cX10_drop 2 = .ok ((.iload_n 2), 1) := by decide +kernel
theorem dX10_drop_3 : decode cX10_drop 3 = .ok ((.invokevirtual 216), 3) := by decide +kernel
theorem dX10_drop_6 : decode cX10_drop 6 = .ok ((.ifCond .ne 9), 3) := by decide +kernel
theorem dX10_drop_9 : decode cX10_drop 9 = .ok ((.aload_n 0), 1) := by decide +kernel
theorem dX10_drop_10 : decode cX10_drop 10 = .ok ((.iconst 2), 1) := by decide +kernel
theorem dX10_drop_11 : decode cX10_drop 11 = .ok ((.invokevirtual 153), 3) := by decide +kernel
theorem dX10_drop_14 : decode cX10_drop 14 = .ok (.ireturn, 1) := by decide +kernel
theorem dX10_drop_15 : decode cX10_drop 15 = .ok ((.iload_n 3), 1) := by decide +kernel
theorem dX10_drop_16 : decode cX10_drop 16 = .ok ((.ifCond .lt 10), 3) := by decide +kernel
theorem dX10_drop_19 : decode cX10_drop 19 = .ok ((.iload_n 3), 1) := by decide +kernel
theorem dX10_drop_20 : decode cX10_drop 20 = .ok ((.sipush 9999), 3) := by decide +kernel
theorem dX10_drop_23 : decode cX10_drop 23 = .ok ((.if_icmp .le 9), 3) := by decide +kernel
theorem dX10_drop_26 : decode cX10_drop 26 = .ok ((.aload_n 0), 1) := by decide +kernel
theorem dX10_drop_27 : decode cX10_drop 27 = .ok ((.iconst 5), 1) := by decide +kernel
theorem dX10_drop_28 : decode cX10_drop 28 = .ok ((.invokevirtual 153), 3) := by decide +kernel
theorem dX10_drop_31 : decode cX10_drop 31 = .ok (.ireturn, 1) := by decide +kernel
theorem dX10_drop_32 : decode cX10_drop 32 = .ok ((.aload_n 0), 1) := by decide +kernel
theorem dX10_drop_33 : decode cX10_drop 33 = .ok ((.getfield 26), 3) := by decide +kernel
theorem dX10_drop_36 : decode cX10_drop 36 = .ok ((.iload_n 1), 1) := by decide +kernel
theorem dX10_drop_37 : decode cX10_drop 37 = .ok ((.iload_n 2), 1) := by decide +kernel
theorem dX10_drop_38 : decode cX10_drop 38 = .ok ((.iload_n 3), 1) := by decide +kernel
theorem dX10_drop_39 : decode cX10_drop 39 = .ok ((.invokevirtual 236), 3) := by decide +kernel
theorem dX10_drop_42 : decode cX10_drop 42 = .ok ((.ifCond .ne 10), 3) := by decide +kernel
theorem dX10_drop_45 : decode cX10_drop 45 = .ok ((.aload_n 0), 1) := by decide +kernel
theorem dX10_drop_46 : decode cX10_drop 46 = .ok ((.bipush 9), 2) := by decide +kernel
theorem dX10_drop_48 : decode cX10_drop 48 = .ok ((.invokevirtual 153), 3) := by decide +kernel
theorem dX10_drop_51 : decode cX10_drop 51 = .ok (.ireturn, 1) := by decide +kernel
theorem dX10_drop_52 : decode cX10_drop 52 = .ok ((.aload_n 0), 1) := by decide +kernel
theorem dX10_drop_53 : decode cX10_drop 53 = .ok ((.getfield 26), 3) := by decide +kernel
theorem dX10_drop_56 : decode cX10_drop 56 = .ok ((.iload_n 1), 1) := by decide +kernel
theorem dX10_drop_57 : decode cX10_drop 57 = .ok ((.iload_n 2), 1) := by decide +kernel
theorem dX10_drop_58 : decode cX10_drop 58 = .ok ((.iload_n 3), 1) := by decide +kernel
theorem dX10_drop_59 : decode cX10_drop 59 = .ok ((.invokevirtual 240), 3) := by decide +kernel
theorem dX10_drop_62 : decode cX10_drop 62 = .ok ((.aload_n 0), 1) := by decide +kernel
theorem dX10_drop_63 : decode cX10_drop 63 = .ok ((.aload_n 0), 1) := by decide +kernel
theorem dX10_drop_64 : decode cX10_drop 64 = .ok ((.getfield 26), 3) := by decide +kernel
theorem dX10_drop_67 : decode cX10_drop 67 = .ok ((.getfield 209), 3) := by decide +kernel
theorem dX10_drop_70 : decode cX10_drop 70 = .ok ((.iload_n 1), 1) := by decide +kernel
theorem dX10_drop_71 : decode cX10_drop 71 = .ok ((.invokestatic 212), 3) := by decide +kernel
theorem dX10_drop_74 : decode cX10_drop 74 = .ok ((.invokevirtual 173), 3) := by decide +kernel
theorem dX10_drop_77 : decode cX10_drop 77 = .ok (.ireturn, 1) := by decide +kernel
def p_X10_drop_26  (a1 : Int32) (a2 : Int32) (a3 : Int32)   (post : Int32 → vSt → Prop) (S : vSt)  : Prop := p_X10_refused  S 5 (fun r19 S18 => post r19 S18)
def p_X10_drop   (S : vSt) (a1 : Int32) (a2 : Int32) (a3 : Int32) (post : Int32 → vSt → Prop) : Prop := p_X10_areThere  S a1 a2 (fun r17 S16 => ((r17 = true → ((a3 < 0 → p_X10_drop_26 a1 a2 a3 post S16 ) ∧ (¬ a3 < 0 → ((a3 ≤ 9999 → p_X0_mayDrop 10 S16 a1 a2 a3 (fun r19 S18 => ((r19 = true → p_X0_settle 10 S18 a1 a2 a3 (fun S20 => p_X10_at 13 8 S20 a1 (fun r22 S21 => p_X10_told  S21 r22 (fun r24 S23 => post r24 S23)))) ∧ (r19 = false → p_X10_refused  S18 9 (fun r26 S25 => post r26 S25))))) ∧ (¬ a3 ≤ 9999 → p_X10_drop_26 a1 a2 a3 post S16 ))))) ∧ (r17 = false → p_X10_refused  S16 2 (fun r28 S27 => post r28 S27))))
set_option maxHeartbeats 4000000 in
set_option maxRecDepth 100000 in
theorem q_X10_drop_26 {X : vX} {G : vG}  {post : Int32 → vSt → Prop} (C : v_Cx X G cX10_drop RX10 4 (v_rm 4 128)) (D : v_Rx X G (v_Qi G post) (some .int))  {a1 : Int32} {a2 : Int32} {a3 : Int32}   : ∀ (S : vSt), p_X10_drop_26 a1 a2 a3 post S  → VJ X G S 26 [(0, .ref (G.1 0))] [] := by
  intro S  h
  refine V_aload_n C 0 dX10_drop_26 rfl rfl ?_
  refine V_iconst (v := 5) C dX10_drop_27 (by decide) ?_
  refine V_callVi (As := [.int 5]) (rest := []) C (c_X10_refused (v_l X) G  _ _ h) 0 10 (by decide) (by decide) (by decide) rfl KV_X10_refused k_RX10_153 rfl rfl rfl (Nat.le_of_ble_eq_true rfl) ⟨Nat.le_of_ble_eq_true rfl, Nat.le_of_ble_eq_true rfl⟩ dX10_drop_28 (fun r19 S18 h => ?_)
  exact V_iret C D dX10_drop_31 h
set_option maxHeartbeats 4000000 in
set_option maxRecDepth 100000 in
theorem c_X10_drop (l : Launch) (G : vG)    {S : vSt} (a1 : Int32) (a2 : Int32) (a3 : Int32) (post : Int32 → vSt → Prop) (h : p_X10_drop   S a1 a2 a3 post) : Met l yX10_drop (v_ws yX10_drop cX10_drop 4 (some .int)) (v_rm 4 128) (v_Pc G [.ref (G.1 0), .int a1, .int a2, .int a3] S) (v_Qi G post) 0 0 (v_A G) := by
  refine v_start (by decide +kernel) (Nat.le_of_ble_eq_true rfl) (fun X hl C D => ?_)
  subst hl
  have C : v_Cx X G cX10_drop RX10 4 (v_rm 4 128) := C
  show VJ X G S 0 [(0, .ref (G.1 0)), (1, .int a1), (2, .int a2), (3, .int a3)] []
  refine V_aload_n C 0 dX10_drop_0 rfl rfl ?_
  refine V_iload_n C 1 dX10_drop_1 rfl rfl ?_
  refine V_iload_n C 2 dX10_drop_2 rfl rfl ?_
  refine V_callVz (As := [.int a1, .int a2]) (rest := []) C (c_X10_areThere (v_l X) G  _ _ _ h) 0 10 (by decide) (by decide) (by decide) rfl KV_X10_areThere k_RX10_216 rfl rfl rfl (Nat.le_of_ble_eq_true rfl) ⟨Nat.le_of_ble_eq_true rfl, Nat.le_of_ble_eq_true rfl⟩ dX10_drop_3 (fun r17 S16 h => ?_)
  refine V_ifb_ne (tgt := 15) C dX10_drop_6 (by decide) (fun c => ?_) (fun c => ?_)
  · have h := h.1 c
    refine V_iload_n C 3 dX10_drop_15 rfl rfl ?_
    refine V_if_lt (tgt := 26) C dX10_drop_16 (by decide) (fun c => ?_) (fun c => ?_)
    · have h := h.1 c
      refine V_loc (lv' := [(0, .ref (G.1 0))]) [0] rfl ?_
      exact q_X10_drop_26 C D  _ h
    · have h := h.2 c
      refine V_iload_n C 3 dX10_drop_19 rfl rfl ?_
      refine V_sipush (v := 9999) C dX10_drop_20 (by decide) ?_
      refine V_icmp_le (tgt := 32) C dX10_drop_23 (by decide) (fun c => ?_) (fun c => ?_)
      · have h := h.1 c
        refine V_aload_n C 0 dX10_drop_32 rfl rfl ?_
        refine V_ga C 0 (by decide) (by decide) F_10_2 k_RX10_26 dX10_drop_33 ?_
        refine V_iload_n C 1 dX10_drop_36 rfl rfl ?_
        refine V_iload_n C 2 dX10_drop_37 rfl rfl ?_
        refine V_iload_n C 3 dX10_drop_38 rfl rfl ?_
        refine V_callVz (As := [.int a1, .int a2, .int a3]) (rest := []) C (c_X0_mayDrop (v_l X) G v_i10 _ _ _ _ h) 10 0 (by decide) (by decide) (by decide) rfl KV_X0_mayDrop k_RX10_236 rfl rfl rfl (Nat.le_of_ble_eq_true rfl) ⟨Nat.le_of_ble_eq_true rfl, Nat.le_of_ble_eq_true rfl⟩ dX10_drop_39 (fun r19 S18 h => ?_)
        refine V_ifb_ne (tgt := 52) C dX10_drop_42 (by decide) (fun c => ?_) (fun c => ?_)
        · have h := h.1 c
          refine V_aload_n C 0 dX10_drop_52 rfl rfl ?_
          refine V_ga C 0 (by decide) (by decide) F_10_2 k_RX10_26 dX10_drop_53 ?_
          refine V_iload_n C 1 dX10_drop_56 rfl rfl ?_
          refine V_iload_n C 2 dX10_drop_57 rfl rfl ?_
          refine V_iload_n C 3 dX10_drop_58 rfl rfl ?_
          refine V_callVv (As := [.int a1, .int a2, .int a3]) (rest := []) C (c_X0_settle (v_l X) G v_i10 _ _ _ _ h) 10 0 (by decide) (by decide) (by decide) rfl KV_X0_settle k_RX10_240 rfl rfl rfl (Nat.le_of_ble_eq_true rfl) ⟨Nat.le_of_ble_eq_true rfl, Nat.le_of_ble_eq_true rfl⟩ dX10_drop_59 (fun S20 h => ?_)
          refine V_aload_n C 0 dX10_drop_62 rfl rfl ?_
          refine V_aload_n C 0 dX10_drop_63 rfl rfl ?_
          refine V_ga C 0 (by decide) (by decide) F_10_2 k_RX10_26 dX10_drop_64 ?_
          refine V_gr C 10 (by decide) (by decide) F_0_2 k_RX10_209 dX10_drop_67 ?_
          refine V_iload_n C 1 dX10_drop_70 rfl rfl ?_
          refine V_callSi (As := [.ref (G.1 13), .int a1]) (rest := [.ref (G.1 0)]) C (c_X10_at (v_l X) G (by decide) (by decide) _ _ h) KV_X10_at k_RX10_212 rfl rfl rfl (Nat.le_of_ble_eq_true rfl) ⟨Nat.le_of_ble_eq_true rfl, Nat.le_of_ble_eq_true rfl⟩ dX10_drop_71 (fun r22 S21 h => ?_)
          refine V_callVi (As := [.int r22]) (rest := []) C (c_X10_told (v_l X) G  _ _ h) 0 10 (by decide) (by decide) (by decide) rfl KV_X10_told k_RX10_173 rfl rfl rfl (Nat.le_of_ble_eq_true rfl) ⟨Nat.le_of_ble_eq_true rfl, Nat.le_of_ble_eq_true rfl⟩ dX10_drop_74 (fun r24 S23 h => ?_)
          exact V_iret C D dX10_drop_77 h
        · have h := h.2 c
          refine V_aload_n C 0 dX10_drop_45 rfl rfl ?_
          refine V_bipush (v := 9) C dX10_drop_46 (by decide) ?_
          refine V_callVi (As := [.int 9]) (rest := []) C (c_X10_refused (v_l X) G  _ _ h) 0 10 (by decide) (by decide) (by decide) rfl KV_X10_refused k_RX10_153 rfl rfl rfl (Nat.le_of_ble_eq_true rfl) ⟨Nat.le_of_ble_eq_true rfl, Nat.le_of_ble_eq_true rfl⟩ dX10_drop_48 (fun r26 S25 h => ?_)
          exact V_iret C D dX10_drop_51 h
      · have h := h.2 c
        refine V_loc (lv' := [(0, .ref (G.1 0))]) [0] rfl ?_
        exact q_X10_drop_26 C D  _ h
  · have h := h.2 c
    refine V_aload_n C 0 dX10_drop_9 rfl rfl ?_
    refine V_iconst (v := 2) C dX10_drop_10 (by decide) ?_
    refine V_callVi (As := [.int 2]) (rest := []) C (c_X10_refused (v_l X) G  _ _ h) 0 10 (by decide) (by decide) (by decide) rfl KV_X10_refused k_RX10_153 rfl rfl rfl (Nat.le_of_ble_eq_true rfl) ⟨Nat.le_of_ble_eq_true rfl, Nat.le_of_ble_eq_true rfl⟩ dX10_drop_11 (fun r28 S27 h => ?_)
    exact V_iret C D dX10_drop_14 h
/-! HalfAccuser.commit(III)I -/
theorem dX10_commit_0 : decode cX10_commit 0 = .ok ((.aload_n 0), 1) := by decide +kernel
theorem dX10_commit_1 : decode cX10_commit 1 = .ok ((.getfield 26), 3) := by decide +kernel
theorem dX10_commit_4 : decode cX10_commit 4 = .ok ((.iload_n 1), 1) := by decide +kernel
theorem dX10_commit_5 : decode cX10_commit 5 = .ok ((.invokevirtual 188), 3) := by decide +kernel
theorem dX10_commit_8 : decode cX10_commit 8 = .ok ((.ifCond .ne 9), 3) := by decide +kernel
theorem dX10_commit_11 : decode cX10_commit 11 = .ok ((.aload_n 0), 1) := by decide +kernel
theorem dX10_commit_12 : decode cX10_commit 12 = .ok ((.iconst 2), 1) := by decide +kernel
theorem dX10_commit_13 : decode cX10_commit 13 = .ok ((.invokevirtual 153), 3) := by decide +kernel
theorem dX10_commit_16 : decode cX10_commit 16 = .ok (.ireturn, 1) := by decide +kernel
theorem dX10_commit_17 : decode cX10_commit 17 = .ok ((.iload_n 2), 1) := by decide +kernel
theorem dX10_commit_18 : decode cX10_commit 18 = .ok ((.iconst 1), 1) := by decide +kernel
theorem dX10_commit_19 : decode cX10_commit 19 = .ok ((.if_icmp .lt 20), 3) := by decide +kernel
theorem dX10_commit_22 : decode cX10_commit 22 = .ok ((.iload_n 2), 1) := by decide +kernel
theorem dX10_commit_23 : decode cX10_commit 23 = .ok ((.sipush 999), 3) := by decide +kernel
theorem dX10_commit_26 : decode cX10_commit 26 = .ok ((.if_icmp .gt 13), 3) := by decide +kernel
theorem dX10_commit_29 : decode cX10_commit 29 = .ok ((.iload_n 3), 1) := by decide +kernel
theorem dX10_commit_30 : decode cX10_commit 30 = .ok ((.ifCond .lt 9), 3) := by decide +kernel
theorem dX10_commit_33 : decode cX10_commit 33 = .ok ((.iload_n 3), 1) := by decide +kernel
theorem dX10_commit_34 : decode cX10_commit 34 = .ok ((.bipush 16), 2) := by decide +kernel
theorem dX10_commit_36 : decode cX10_commit 36 = .ok ((.if_icmp .le 9), 3) := by decide +kernel
theorem dX10_commit_39 : decode cX10_commit 39 = .ok ((.aload_n 0), 1) := by decide +kernel
theorem dX10_commit_40 : decode cX10_commit 40 = .ok ((.iconst 5), 1) := by decide +kernel
theorem dX10_commit_41 : decode cX10_commit 41 = .ok ((.invokevirtual 153), 3) := by decide +kernel
theorem dX10_commit_44 : decode cX10_commit 44 = .ok (.ireturn, 1) := by decide +kernel
theorem dX10_commit_45 : decode cX10_commit 45 = .ok ((.aload_n 0), 1) := by decide +kernel
theorem dX10_commit_46 : decode cX10_commit 46 = .ok ((.getfield 26), 3) := by decide +kernel
theorem dX10_commit_49 : decode cX10_commit 49 = .ok ((.getfield 170), 3) := by decide +kernel
theorem dX10_commit_52 : decode cX10_commit 52 = .ok ((.bipush 10), 2) := by decide +kernel
theorem dX10_commit_54 : decode cX10_commit 54 = .ok ((.if_icmp .lt 10), 3) := by decide +kernel
theorem dX10_commit_57 : decode cX10_commit 57 = .ok ((.aload_n 0), 1) := by decide +kernel
theorem dX10_commit_58 : decode cX10_commit 58 = .ok ((.bipush 7), 2) := by decide +kernel
theorem dX10_commit_60 : decode cX10_commit 60 = .ok ((.invokevirtual 153), 3) := by decide +kernel
theorem dX10_commit_63 : decode cX10_commit 63 = .ok (.ireturn, 1) := by decide +kernel
theorem dX10_commit_64 : decode cX10_commit 64 = .ok ((.aload_n 0), 1) := by decide +kernel
theorem dX10_commit_65 : decode cX10_commit 65 = .ok ((.aload_n 0), 1) := by decide +kernel
theorem dX10_commit_66 : decode cX10_commit 66 = .ok ((.getfield 26), 3) := by decide +kernel
theorem dX10_commit_69 : decode cX10_commit 69 = .ok ((.lconst 0), 1) := by decide +kernel
theorem dX10_commit_70 : decode cX10_commit 70 = .ok ((.iload_n 1), 1) := by decide +kernel
theorem dX10_commit_71 : decode cX10_commit 71 = .ok ((.iload_n 2), 1) := by decide +kernel
theorem dX10_commit_72 : decode cX10_commit 72 = .ok ((.iload_n 3), 1) := by decide +kernel
theorem dX10_commit_73 : decode cX10_commit 73 = .ok ((.invokevirtual 244), 3) := by decide +kernel
theorem dX10_commit_76 : decode cX10_commit 76 = .ok ((.invokevirtual 173), 3) := by decide +kernel
theorem dX10_commit_79 : decode cX10_commit 79 = .ok (.ireturn, 1) := by decide +kernel
def p_X10_commit_39  (a1 : Int32) (a2 : Int32) (a3 : Int32)   (post : Int32 → vSt → Prop) (S : vSt)  : Prop := p_X10_refused  S 5 (fun r16 S15 => post r16 S15)
def p_X10_commit   (S : vSt) (a1 : Int32) (a2 : Int32) (a3 : Int32) (post : Int32 → vSt → Prop) : Prop := p_X0_hasPerson 10 S a1 (fun r14 S13 => ((r14 = true → ((a2 < 1 → p_X10_commit_39 a1 a2 a3 post S13 ) ∧ (¬ a2 < 1 → ((999 < a2 → p_X10_commit_39 a1 a2 a3 post S13 ) ∧ (¬ 999 < a2 → ((a3 < 0 → p_X10_commit_39 a1 a2 a3 post S13 ) ∧ (¬ a3 < 0 → ((a3 ≤ 16 → (((S13.1 10 16) < 10 → p_X0_addDeed 10 S13 0 a1 a2 a3 (fun r16 S15 => p_X10_told  S15 r16 (fun r18 S17 => post r18 S17))) ∧ (¬ (S13.1 10 16) < 10 → p_X10_refused  S13 7 (fun r20 S19 => post r20 S19)))) ∧ (¬ a3 ≤ 16 → p_X10_commit_39 a1 a2 a3 post S13 ))))))))) ∧ (r14 = false → p_X10_refused  S13 2 (fun r22 S21 => post r22 S21))))
set_option maxHeartbeats 4000000 in
set_option maxRecDepth 100000 in
theorem q_X10_commit_39 {X : vX} {G : vG}  {post : Int32 → vSt → Prop} (C : v_Cx X G cX10_commit RX10 4 (v_rm 2 89)) (D : v_Rx X G (v_Qi G post) (some .int))  {a1 : Int32} {a2 : Int32} {a3 : Int32}   : ∀ (S : vSt), p_X10_commit_39 a1 a2 a3 post S  → VJ X G S 39 [(0, .ref (G.1 0))] [] := by
  intro S  h
  refine V_aload_n C 0 dX10_commit_39 rfl rfl ?_
  refine V_iconst (v := 5) C dX10_commit_40 (by decide) ?_
  refine V_callVi (As := [.int 5]) (rest := []) C (c_X10_refused (v_l X) G  _ _ h) 0 10 (by decide) (by decide) (by decide) rfl KV_X10_refused k_RX10_153 rfl rfl rfl (Nat.le_of_ble_eq_true rfl) ⟨Nat.le_of_ble_eq_true rfl, Nat.le_of_ble_eq_true rfl⟩ dX10_commit_41 (fun r16 S15 h => ?_)
  exact V_iret C D dX10_commit_44 h
set_option maxHeartbeats 4000000 in
set_option maxRecDepth 100000 in
theorem c_X10_commit (l : Launch) (G : vG)    {S : vSt} (a1 : Int32) (a2 : Int32) (a3 : Int32) (post : Int32 → vSt → Prop) (h : p_X10_commit   S a1 a2 a3 post) : Met l yX10_commit (v_ws yX10_commit cX10_commit 4 (some .int)) (v_rm 2 89) (v_Pc G [.ref (G.1 0), .int a1, .int a2, .int a3] S) (v_Qi G post) 0 0 (v_A G) := by
  refine v_start (by decide +kernel) (Nat.le_of_ble_eq_true rfl) (fun X hl C D => ?_)
  subst hl
  have C : v_Cx X G cX10_commit RX10 4 (v_rm 2 89) := C
  show VJ X G S 0 [(0, .ref (G.1 0)), (1, .int a1), (2, .int a2), (3, .int a3)] []
  refine V_aload_n C 0 dX10_commit_0 rfl rfl ?_
  refine V_ga C 0 (by decide) (by decide) F_10_2 k_RX10_26 dX10_commit_1 ?_
  refine V_iload_n C 1 dX10_commit_4 rfl rfl ?_
  refine V_callVz (As := [.int a1]) (rest := []) C (c_X0_hasPerson (v_l X) G v_i10 _ _ h) 10 0 (by decide) (by decide) (by decide) rfl KV_X0_hasPerson k_RX10_188 rfl rfl rfl (Nat.le_of_ble_eq_true rfl) ⟨Nat.le_of_ble_eq_true rfl, Nat.le_of_ble_eq_true rfl⟩ dX10_commit_5 (fun r14 S13 h => ?_)
  refine V_ifb_ne (tgt := 17) C dX10_commit_8 (by decide) (fun c => ?_) (fun c => ?_)
  · have h := h.1 c
    refine V_iload_n C 2 dX10_commit_17 rfl rfl ?_
    refine V_iconst (v := 1) C dX10_commit_18 (by decide) ?_
    refine V_icmp_lt (tgt := 39) C dX10_commit_19 (by decide) (fun c => ?_) (fun c => ?_)
    · have h := h.1 c
      refine V_loc (lv' := [(0, .ref (G.1 0))]) [0] rfl ?_
      exact q_X10_commit_39 C D  _ h
    · have h := h.2 c
      refine V_iload_n C 2 dX10_commit_22 rfl rfl ?_
      refine V_sipush (v := 999) C dX10_commit_23 (by decide) ?_
      refine V_icmp_gt (tgt := 39) C dX10_commit_26 (by decide) (fun c => ?_) (fun c => ?_)
      · have h := h.1 c
        refine V_loc (lv' := [(0, .ref (G.1 0))]) [0] rfl ?_
        exact q_X10_commit_39 C D  _ h
      · have h := h.2 c
        refine V_iload_n C 3 dX10_commit_29 rfl rfl ?_
        refine V_if_lt (tgt := 39) C dX10_commit_30 (by decide) (fun c => ?_) (fun c => ?_)
        · have h := h.1 c
          refine V_loc (lv' := [(0, .ref (G.1 0))]) [0] rfl ?_
          exact q_X10_commit_39 C D  _ h
        · have h := h.2 c
          refine V_iload_n C 3 dX10_commit_33 rfl rfl ?_
          refine V_bipush (v := 16) C dX10_commit_34 (by decide) ?_
          refine V_icmp_le (tgt := 45) C dX10_commit_36 (by decide) (fun c => ?_) (fun c => ?_)
          · have h := h.1 c
            refine V_aload_n C 0 dX10_commit_45 rfl rfl ?_
            refine V_ga C 0 (by decide) (by decide) F_10_2 k_RX10_26 dX10_commit_46 ?_
            refine V_gi C 10 (by decide) (by decide) F_0_16 k_RX10_170 dX10_commit_49 ?_
            refine V_bipush (v := 10) C dX10_commit_52 (by decide) ?_
            refine V_icmp_lt (tgt := 64) C dX10_commit_54 (by decide) (fun c => ?_) (fun c => ?_)
            · have h := h.1 c
              refine V_aload_n C 0 dX10_commit_64 rfl rfl ?_
              refine V_aload_n C 0 dX10_commit_65 rfl rfl ?_
              refine V_ga C 0 (by decide) (by decide) F_10_2 k_RX10_26 dX10_commit_66 ?_
              refine V_lconst (v := 0) C dX10_commit_69 (by decide) ?_
              refine V_iload_n C 1 dX10_commit_70 rfl rfl ?_
              refine V_iload_n C 2 dX10_commit_71 rfl rfl ?_
              refine V_iload_n C 3 dX10_commit_72 rfl rfl ?_
              refine V_callVi (As := [.long 0, .int a1, .int a2, .int a3]) (rest := [.ref (G.1 0)]) C (c_X0_addDeed (v_l X) G v_i10 _ _ _ _ _ h) 10 0 (by decide) (by decide) (by decide) rfl KV_X0_addDeed k_RX10_244 rfl rfl rfl (Nat.le_of_ble_eq_true rfl) ⟨Nat.le_of_ble_eq_true rfl, Nat.le_of_ble_eq_true rfl⟩ dX10_commit_73 (fun r16 S15 h => ?_)
              refine V_callVi (As := [.int r16]) (rest := []) C (c_X10_told (v_l X) G  _ _ h) 0 10 (by decide) (by decide) (by decide) rfl KV_X10_told k_RX10_173 rfl rfl rfl (Nat.le_of_ble_eq_true rfl) ⟨Nat.le_of_ble_eq_true rfl, Nat.le_of_ble_eq_true rfl⟩ dX10_commit_76 (fun r18 S17 h => ?_)
              exact V_iret C D dX10_commit_79 h
            · have h := h.2 c
              refine V_aload_n C 0 dX10_commit_57 rfl rfl ?_
              refine V_bipush (v := 7) C dX10_commit_58 (by decide) ?_
              refine V_callVi (As := [.int 7]) (rest := []) C (c_X10_refused (v_l X) G  _ _ h) 0 10 (by decide) (by decide) (by decide) rfl KV_X10_refused k_RX10_153 rfl rfl rfl (Nat.le_of_ble_eq_true rfl) ⟨Nat.le_of_ble_eq_true rfl, Nat.le_of_ble_eq_true rfl⟩ dX10_commit_60 (fun r20 S19 h => ?_)
              exact V_iret C D dX10_commit_63 h
          · have h := h.2 c
            refine V_loc (lv' := [(0, .ref (G.1 0))]) [0] rfl ?_
            exact q_X10_commit_39 C D  _ h
  · have h := h.2 c
    refine V_aload_n C 0 dX10_commit_11 rfl rfl ?_
    refine V_iconst (v := 2) C dX10_commit_12 (by decide) ?_
    refine V_callVi (As := [.int 2]) (rest := []) C (c_X10_refused (v_l X) G  _ _ h) 0 10 (by decide) (by decide) (by decide) rfl KV_X10_refused k_RX10_153 rfl rfl rfl (Nat.le_of_ble_eq_true rfl) ⟨Nat.le_of_ble_eq_true rfl, Nat.le_of_ble_eq_true rfl⟩ dX10_commit_13 (fun r22 S21 h => ?_)
    exact V_iret C D dX10_commit_16 h
/-! HalfAccuser.reopen(I)Z -/
theorem dX10_reopen_0 : decode cX10_reopen 0 = .ok ((.aload_n 0), 1) := by decide +kernel
theorem dX10_reopen_1 : decode cX10_reopen 1 = .ok ((.getfield 26), 3) := by decide +kernel
theorem dX10_reopen_4 : decode cX10_reopen 4 = .ok ((.iload_n 1), 1) := by decide +kernel
theorem dX10_reopen_5 : decode cX10_reopen 5 = .ok ((.invokevirtual 194), 3) := by decide +kernel
theorem dX10_reopen_8 : decode cX10_reopen 8 = .ok ((.ifCond .ne 9), 3) := by decide +kernel
theorem dX10_reopen_11 : decode cX10_reopen 11 = .ok ((.aload_n 0), 1) := by decide +kernel
theorem dX10_reopen_12 : decode cX10_reopen 12 = .ok ((.iconst 2), 1) := by decide +kernel
theorem dX10_reopen_13 : decode cX10_reopen 13 = .ok ((.invokevirtual 116), 3) := by decide +kernel
theorem dX10_reopen_16 : decode cX10_reopen 16 = .ok (.ireturn, 1) := by decide +kernel
theorem dX10_reopen_17 : decode cX10_reopen 17 = .ok ((.aload_n 0), 1) := by decide +kernel
theorem dX10_reopen_18 : decode cX10_reopen 18 = .ok ((.getfield 26), 3) := by decide +kernel
theorem dX10_reopen_21 : decode cX10_reopen 21 = .ok ((.iload_n 1), 1) := by decide +kernel
theorem dX10_reopen_22 : decode cX10_reopen 22 = .ok ((.invokevirtual 197), 3) := by decide +kernel
theorem dX10_reopen_25 : decode cX10_reopen 25 = .ok ((.ifCond .eq 10), 3) := by decide +kernel
theorem dX10_reopen_28 : decode cX10_reopen 28 = .ok ((.aload_n 0), 1) := by decide +kernel
theorem dX10_reopen_29 : decode cX10_reopen 29 = .ok ((.bipush 9), 2) := by decide +kernel
theorem dX10_reopen_31 : decode cX10_reopen 31 = .ok ((.invokevirtual 116), 3) := by decide +kernel
theorem dX10_reopen_34 : decode cX10_reopen 34 = .ok (.ireturn, 1) := by decide +kernel
theorem dX10_reopen_35 : decode cX10_reopen 35 = .ok ((.aload_n 0), 1) := by decide +kernel
theorem dX10_reopen_36 : decode cX10_reopen 36 = .ok ((.getfield 26), 3) := by decide +kernel
theorem dX10_reopen_39 : decode cX10_reopen 39 = .ok ((.iload_n 1), 1) := by decide +kernel
theorem dX10_reopen_40 : decode cX10_reopen 40 = .ok ((.invokevirtual 248), 3) := by decide +kernel
theorem dX10_reopen_43 : decode cX10_reopen 43 = .ok ((.aload_n 0), 1) := by decide +kernel
theorem dX10_reopen_44 : decode cX10_reopen 44 = .ok ((.iconst 0), 1) := by decide +kernel
theorem dX10_reopen_45 : decode cX10_reopen 45 = .ok ((.invokevirtual 116), 3) := by decide +kernel
theorem dX10_reopen_48 : decode cX10_reopen 48 = .ok (.ireturn, 1) := by decide +kernel
def p_X10_reopen   (S : vSt) (a1 : Int32) (post : Bool → vSt → Prop) : Prop := p_X0_hasDeed 10 S a1 (fun r13 S12 => ((r13 = true → p_X0_isOpen 10 S12 a1 (fun r15 S14 => ((r15 = false → p_X0_openAgain 10 S14 a1 (fun S16 => p_X10_settled  S16 0 (fun r18 S17 => post r18 S17))) ∧ (r15 = true → p_X10_settled  S14 9 (fun r20 S19 => post r20 S19))))) ∧ (r13 = false → p_X10_settled  S12 2 (fun r22 S21 => post r22 S21))))
set_option maxHeartbeats 4000000 in
set_option maxRecDepth 100000 in
theorem c_X10_reopen (l : Launch) (G : vG)    {S : vSt} (a1 : Int32) (post : Bool → vSt → Prop) (h : p_X10_reopen   S a1 post) : Met l yX10_reopen (v_ws yX10_reopen cX10_reopen 2 (some .boolean)) (v_rm 2 84) (v_Pc G [.ref (G.1 0), .int a1] S) (v_Qz G post) 0 0 (v_A G) := by
  refine v_start (by decide +kernel) (Nat.le_of_ble_eq_true rfl) (fun X hl C D => ?_)
  subst hl
  have C : v_Cx X G cX10_reopen RX10 2 (v_rm 2 84) := C
  show VJ X G S 0 [(0, .ref (G.1 0)), (1, .int a1)] []
  refine V_aload_n C 0 dX10_reopen_0 rfl rfl ?_
  refine V_ga C 0 (by decide) (by decide) F_10_2 k_RX10_26 dX10_reopen_1 ?_
  refine V_iload_n C 1 dX10_reopen_4 rfl rfl ?_
  refine V_callVz (As := [.int a1]) (rest := []) C (c_X0_hasDeed (v_l X) G v_i10 _ _ h) 10 0 (by decide) (by decide) (by decide) rfl KV_X0_hasDeed k_RX10_194 rfl rfl rfl (Nat.le_of_ble_eq_true rfl) ⟨Nat.le_of_ble_eq_true rfl, Nat.le_of_ble_eq_true rfl⟩ dX10_reopen_5 (fun r13 S12 h => ?_)
  refine V_ifb_ne (tgt := 17) C dX10_reopen_8 (by decide) (fun c => ?_) (fun c => ?_)
  · have h := h.1 c
    refine V_aload_n C 0 dX10_reopen_17 rfl rfl ?_
    refine V_ga C 0 (by decide) (by decide) F_10_2 k_RX10_26 dX10_reopen_18 ?_
    refine V_iload_n C 1 dX10_reopen_21 rfl rfl ?_
    refine V_callVz (As := [.int a1]) (rest := []) C (c_X0_isOpen (v_l X) G v_i10 _ _ h) 10 0 (by decide) (by decide) (by decide) rfl KV_X0_isOpen k_RX10_197 rfl rfl rfl (Nat.le_of_ble_eq_true rfl) ⟨Nat.le_of_ble_eq_true rfl, Nat.le_of_ble_eq_true rfl⟩ dX10_reopen_22 (fun r15 S14 h => ?_)
    refine V_ifb_eq (tgt := 35) C dX10_reopen_25 (by decide) (fun c => ?_) (fun c => ?_)
    · have h := h.1 c
      refine V_aload_n C 0 dX10_reopen_35 rfl rfl ?_
      refine V_ga C 0 (by decide) (by decide) F_10_2 k_RX10_26 dX10_reopen_36 ?_
      refine V_iload_n C 1 dX10_reopen_39 rfl rfl ?_
      refine V_callVv (As := [.int a1]) (rest := []) C (c_X0_openAgain (v_l X) G v_i10 _ _ h) 10 0 (by decide) (by decide) (by decide) rfl KV_X0_openAgain k_RX10_248 rfl rfl rfl (Nat.le_of_ble_eq_true rfl) ⟨Nat.le_of_ble_eq_true rfl, Nat.le_of_ble_eq_true rfl⟩ dX10_reopen_40 (fun S16 h => ?_)
      refine V_aload_n C 0 dX10_reopen_43 rfl rfl ?_
      refine V_iconst (v := 0) C dX10_reopen_44 (by decide) ?_
      refine V_callVz (As := [.int 0]) (rest := []) C (c_X10_settled (v_l X) G  _ _ h) 0 10 (by decide) (by decide) (by decide) rfl KV_X10_settled k_RX10_116 rfl rfl rfl (Nat.le_of_ble_eq_true rfl) ⟨Nat.le_of_ble_eq_true rfl, Nat.le_of_ble_eq_true rfl⟩ dX10_reopen_45 (fun r18 S17 h => ?_)
      exact V_zret C D dX10_reopen_48 h
    · have h := h.2 c
      refine V_aload_n C 0 dX10_reopen_28 rfl rfl ?_
      refine V_bipush (v := 9) C dX10_reopen_29 (by decide) ?_
      refine V_callVz (As := [.int 9]) (rest := []) C (c_X10_settled (v_l X) G  _ _ h) 0 10 (by decide) (by decide) (by decide) rfl KV_X10_settled k_RX10_116 rfl rfl rfl (Nat.le_of_ble_eq_true rfl) ⟨Nat.le_of_ble_eq_true rfl, Nat.le_of_ble_eq_true rfl⟩ dX10_reopen_31 (fun r20 S19 h => ?_)
      exact V_zret C D dX10_reopen_34 h
  · have h := h.2 c
    refine V_aload_n C 0 dX10_reopen_11 rfl rfl ?_
    refine V_iconst (v := 2) C dX10_reopen_12 (by decide) ?_
    refine V_callVz (As := [.int 2]) (rest := []) C (c_X10_settled (v_l X) G  _ _ h) 0 10 (by decide) (by decide) (by decide) rfl KV_X10_settled k_RX10_116 rfl rfl rfl (Nat.le_of_ble_eq_true rfl) ⟨Nat.le_of_ble_eq_true rfl, Nat.le_of_ble_eq_true rfl⟩ dX10_reopen_13 (fun r22 S21 h => ?_)
    exact V_zret C D dX10_reopen_16 h
/-! HalfAccuser.train(II)Z -/
theorem dX10_train_0 : decode cX10_train 0 = .ok ((.aload_n 0), 1) := by decide +kernel
theorem dX10_train_1 : decode cX10_train 1 = .ok ((.getfield 26), 3) := by decide +kernel
theorem dX10_train_4 : decode cX10_train 4 = .ok ((.iload_n 1), 1) := by decide +kernel
theorem dX10_train_5 : decode cX10_train 5 = .ok ((.invokevirtual 188), 3) := by decide +kernel
theorem dX10_train_8 : decode cX10_train 8 = .ok ((.ifCond .ne 9), 3) := by decide +kernel
theorem dX10_train_11 : decode cX10_train 11 = .ok ((.aload_n 0), 1) := by decide +kernel
theorem dX10_train_12 : decode cX10_train 12 = .ok ((.iconst 2), 1) := by decide +kernel
theorem dX10_train_13 : decode cX10_train 13 = .ok ((.invokevirtual 116), 3) := by decide +kernel
theorem dX10_train_16 : decode cX10_train 16 = .ok (.ireturn, 1) := by decide +kernel
theorem dX10_train_17 : decode cX10_train 17 = .ok ((.iload_n 2), 1) := by decide +kernel
theorem dX10_train_18 : decode cX10_train 18 = .ok ((.ifCond .lt 9), 3) := by decide +kernel
theorem dX10_train_21 : decode cX10_train 21 = .ok ((.iload_n 2), 1) := by decide +kernel
theorem dX10_train_22 : decode cX10_train 22 = .ok ((.bipush 16), 2) := by decide +kernel
theorem dX10_train_24 : decode cX10_train 24 = .ok ((.if_icmp .le 9), 3) := by decide +kernel
theorem dX10_train_27 : decode cX10_train 27 = .ok ((.aload_n 0), 1) := by decide +kernel
theorem dX10_train_28 : decode cX10_train 28 = .ok ((.iconst 5), 1) := by decide +kernel
theorem dX10_train_29 : decode cX10_train 29 = .ok ((.invokevirtual 116), 3) := by decide +kernel
theorem dX10_train_32 : decode cX10_train 32 = .ok (.ireturn, 1) := by decide +kernel
theorem dX10_train_33 : decode cX10_train 33 = .ok ((.aload_n 0), 1) := by decide +kernel
theorem dX10_train_34 : decode cX10_train 34 = .ok ((.getfield 26), 3) := by decide +kernel
theorem dX10_train_37 : decode cX10_train 37 = .ok ((.getfield 251), 3) := by decide +kernel
theorem dX10_train_40 : decode cX10_train 40 = .ok ((.iload_n 1), 1) := by decide +kernel
theorem dX10_train_41 : decode cX10_train 41 = .ok ((.iload_n 2), 1) := by decide +kernel
theorem dX10_train_42 : decode cX10_train 42 = .ok ((.invokestatic 254), 3) := by decide +kernel
theorem dX10_train_45 : decode cX10_train 45 = .ok ((.aload_n 0), 1) := by decide +kernel
theorem dX10_train_46 : decode cX10_train 46 = .ok ((.iconst 0), 1) := by decide +kernel
theorem dX10_train_47 : decode cX10_train 47 = .ok ((.invokevirtual 116), 3) := by decide +kernel
theorem dX10_train_50 : decode cX10_train 50 = .ok (.ireturn, 1) := by decide +kernel
def p_X10_train_27  (a1 : Int32) (a2 : Int32)   (post : Bool → vSt → Prop) (S : vSt)  : Prop := p_X10_settled  S 5 (fun r13 S12 => post r13 S12)
def p_X10_train   (S : vSt) (a1 : Int32) (a2 : Int32) (post : Bool → vSt → Prop) : Prop := p_X0_hasPerson 10 S a1 (fun r11 S10 => ((r11 = true → ((a2 < 0 → p_X10_train_27 a1 a2 post S10 ) ∧ (¬ a2 < 0 → ((a2 ≤ 16 → p_X10_put 14 8 S10 a1 a2 (fun S12 => p_X10_settled  S12 0 (fun r14 S13 => post r14 S13))) ∧ (¬ a2 ≤ 16 → p_X10_train_27 a1 a2 post S10 ))))) ∧ (r11 = false → p_X10_settled  S10 2 (fun r16 S15 => post r16 S15))))
set_option maxHeartbeats 4000000 in
set_option maxRecDepth 100000 in
theorem q_X10_train_27 {X : vX} {G : vG}  {post : Bool → vSt → Prop} (C : v_Cx X G cX10_train RX10 3 (v_rm 1 62)) (D : v_Rx X G (v_Qz G post) (some .boolean))  {a1 : Int32} {a2 : Int32}   : ∀ (S : vSt), p_X10_train_27 a1 a2 post S  → VJ X G S 27 [(0, .ref (G.1 0))] [] := by
  intro S  h
  refine V_aload_n C 0 dX10_train_27 rfl rfl ?_
  refine V_iconst (v := 5) C dX10_train_28 (by decide) ?_
  refine V_callVz (As := [.int 5]) (rest := []) C (c_X10_settled (v_l X) G  _ _ h) 0 10 (by decide) (by decide) (by decide) rfl KV_X10_settled k_RX10_116 rfl rfl rfl (Nat.le_of_ble_eq_true rfl) ⟨Nat.le_of_ble_eq_true rfl, Nat.le_of_ble_eq_true rfl⟩ dX10_train_29 (fun r13 S12 h => ?_)
  exact V_zret C D dX10_train_32 h
set_option maxHeartbeats 4000000 in
set_option maxRecDepth 100000 in
theorem c_X10_train (l : Launch) (G : vG)    {S : vSt} (a1 : Int32) (a2 : Int32) (post : Bool → vSt → Prop) (h : p_X10_train   S a1 a2 post) : Met l yX10_train (v_ws yX10_train cX10_train 3 (some .boolean)) (v_rm 1 62) (v_Pc G [.ref (G.1 0), .int a1, .int a2] S) (v_Qz G post) 0 0 (v_A G) := by
  refine v_start (by decide +kernel) (Nat.le_of_ble_eq_true rfl) (fun X hl C D => ?_)
  subst hl
  have C : v_Cx X G cX10_train RX10 3 (v_rm 1 62) := C
  show VJ X G S 0 [(0, .ref (G.1 0)), (1, .int a1), (2, .int a2)] []
  refine V_aload_n C 0 dX10_train_0 rfl rfl ?_
  refine V_ga C 0 (by decide) (by decide) F_10_2 k_RX10_26 dX10_train_1 ?_
  refine V_iload_n C 1 dX10_train_4 rfl rfl ?_
  refine V_callVz (As := [.int a1]) (rest := []) C (c_X0_hasPerson (v_l X) G v_i10 _ _ h) 10 0 (by decide) (by decide) (by decide) rfl KV_X0_hasPerson k_RX10_188 rfl rfl rfl (Nat.le_of_ble_eq_true rfl) ⟨Nat.le_of_ble_eq_true rfl, Nat.le_of_ble_eq_true rfl⟩ dX10_train_5 (fun r11 S10 h => ?_)
  refine V_ifb_ne (tgt := 17) C dX10_train_8 (by decide) (fun c => ?_) (fun c => ?_)
  · have h := h.1 c
    refine V_iload_n C 2 dX10_train_17 rfl rfl ?_
    refine V_if_lt (tgt := 27) C dX10_train_18 (by decide) (fun c => ?_) (fun c => ?_)
    · have h := h.1 c
      refine V_loc (lv' := [(0, .ref (G.1 0))]) [0] rfl ?_
      exact q_X10_train_27 C D  _ h
    · have h := h.2 c
      refine V_iload_n C 2 dX10_train_21 rfl rfl ?_
      refine V_bipush (v := 16) C dX10_train_22 (by decide) ?_
      refine V_icmp_le (tgt := 33) C dX10_train_24 (by decide) (fun c => ?_) (fun c => ?_)
      · have h := h.1 c
        refine V_aload_n C 0 dX10_train_33 rfl rfl ?_
        refine V_ga C 0 (by decide) (by decide) F_10_2 k_RX10_26 dX10_train_34 ?_
        refine V_gr C 10 (by decide) (by decide) F_0_3 k_RX10_251 dX10_train_37 ?_
        refine V_iload_n C 1 dX10_train_40 rfl rfl ?_
        refine V_iload_n C 2 dX10_train_41 rfl rfl ?_
        refine V_callSv (As := [.ref (G.1 14), .int a1, .int a2]) (rest := []) C (c_X10_put (v_l X) G (by decide) (by decide) _ _ _ h) KV_X10_put k_RX10_254 rfl rfl rfl (Nat.le_of_ble_eq_true rfl) ⟨Nat.le_of_ble_eq_true rfl, Nat.le_of_ble_eq_true rfl⟩ dX10_train_42 (fun S12 h => ?_)
        refine V_aload_n C 0 dX10_train_45 rfl rfl ?_
        refine V_iconst (v := 0) C dX10_train_46 (by decide) ?_
        refine V_callVz (As := [.int 0]) (rest := []) C (c_X10_settled (v_l X) G  _ _ h) 0 10 (by decide) (by decide) (by decide) rfl KV_X10_settled k_RX10_116 rfl rfl rfl (Nat.le_of_ble_eq_true rfl) ⟨Nat.le_of_ble_eq_true rfl, Nat.le_of_ble_eq_true rfl⟩ dX10_train_47 (fun r14 S13 h => ?_)
        exact V_zret C D dX10_train_50 h
      · have h := h.2 c
        refine V_loc (lv' := [(0, .ref (G.1 0))]) [0] rfl ?_
        exact q_X10_train_27 C D  _ h
  · have h := h.2 c
    refine V_aload_n C 0 dX10_train_11 rfl rfl ?_
    refine V_iconst (v := 2) C dX10_train_12 (by decide) ?_
    refine V_callVz (As := [.int 2]) (rest := []) C (c_X10_settled (v_l X) G  _ _ h) 0 10 (by decide) (by decide) (by decide) rfl KV_X10_settled k_RX10_116 rfl rfl rfl (Nat.le_of_ble_eq_true rfl) ⟨Nat.le_of_ble_eq_true rfl, Nat.le_of_ble_eq_true rfl⟩ dX10_train_13 (fun r16 S15 h => ?_)
    exact V_zret C D dX10_train_16 h
/-! HalfAccuser.earn(II)I -/
theorem dX10_earn_0 : decode cX10_earn 0 = .ok ((.aload_n 0), 1) := by decide +kernel
theorem dX10_earn_1 : decode cX10_earn 1 = .ok ((.getfield 26), 3) := by decide +kernel
theorem dX10_earn_4 : decode cX10_earn 4 = .ok ((.iload_n 1), 1) := by decide +kernel
theorem dX10_earn_5 : decode cX10_earn 5 = .ok ((.invokevirtual 188), 3) := by decide +kernel
theorem dX10_earn_8 : decode cX10_earn 8 = .ok ((.ifCond .ne 9), 3) := by decide +kernel
theorem dX10_earn_11 : decode cX10_earn 11 = .ok ((.aload_n 0), 1) := by decide +kernel
theorem dX10_earn_12 : decode cX10_earn 12 = .ok ((.iconst 2), 1) := by decide +kernel
theorem dX10_earn_13 : decode cX10_earn 13 = .ok ((.invokevirtual 153), 3) := by decide +kernel
theorem dX10_earn_16 : decode cX10_earn 16 = .ok (.ireturn, 1) := by decide +kernel
theorem dX10_earn_17 : decode cX10_earn 17 = .ok ((.iload_n 2), 1) := by decide +kernel
theorem dX10_earn_18 : decode cX10_earn 18 = .ok ((.sipush (-9999)), 3) := by decide +kernel
theorem dX10_earn_21 : decode cX10_earn 21 = .ok ((.if_icmp .lt 10), 3) := by decide +kernel
theorem dX10_earn_24 : decode cX10_earn 24 = .ok ((.iload_n 2), 1) := by decide +kernel
theorem dX10_earn_25 : decode cX10_earn 25 = .ok ((.sipush 9999), 3) := by decide +kernel
theorem dX10_earn_28 : decode cX10_earn 28 = .ok ((.if_icmp .le 9), 3) := by decide +kernel
theorem dX10_earn_31 : decode cX10_earn 31 = .ok ((.aload_n 0), 1) := by decide +kernel
theorem dX10_earn_32 : decode cX10_earn 32 = .ok ((.iconst 5), 1) := by decide +kernel
theorem dX10_earn_33 : decode cX10_earn 33 = .ok ((.invokevirtual 153), 3) := by decide +kernel
theorem dX10_earn_36 : decode cX10_earn 36 = .ok (.ireturn, 1) := by decide +kernel
theorem dX10_earn_37 : decode cX10_earn 37 = .ok ((.aload_n 0), 1) := by decide +kernel
theorem dX10_earn_38 : decode cX10_earn 38 = .ok ((.getfield 26), 3) := by decide +kernel
theorem dX10_earn_41 : decode cX10_earn 41 = .ok ((.iload_n 1), 1) := by decide +kernel
theorem dX10_earn_42 : decode cX10_earn 42 = .ok ((.iload_n 2), 1) := by decide +kernel
theorem dX10_earn_43 : decode cX10_earn 43 = .ok ((.invokevirtual 258), 3) := by decide +kernel
theorem dX10_earn_46 : decode cX10_earn 46 = .ok ((.aload_n 0), 1) := by decide +kernel
theorem dX10_earn_47 : decode cX10_earn 47 = .ok ((.aload_n 0), 1) := by decide +kernel
theorem dX10_earn_48 : decode cX10_earn 48 = .ok ((.getfield 26), 3) := by decide +kernel
theorem dX10_earn_51 : decode cX10_earn 51 = .ok ((.getfield 209), 3) := by decide +kernel
theorem dX10_earn_54 : decode cX10_earn 54 = .ok ((.iload_n 1), 1) := by decide +kernel
theorem dX10_earn_55 : decode cX10_earn 55 = .ok ((.invokestatic 212), 3) := by decide +kernel
theorem dX10_earn_58 : decode cX10_earn 58 = .ok ((.invokevirtual 173), 3) := by decide +kernel
theorem dX10_earn_61 : decode cX10_earn 61 = .ok (.ireturn, 1) := by decide +kernel
def p_X10_earn_31  (a1 : Int32) (a2 : Int32)   (post : Int32 → vSt → Prop) (S : vSt)  : Prop := p_X10_refused  S 5 (fun r15 S14 => post r15 S14)
def p_X10_earn   (S : vSt) (a1 : Int32) (a2 : Int32) (post : Int32 → vSt → Prop) : Prop := p_X0_hasPerson 10 S a1 (fun r13 S12 => ((r13 = true → ((a2 < (-9999) → p_X10_earn_31 a1 a2 post S12 ) ∧ (¬ a2 < (-9999) → ((a2 ≤ 9999 → p_X0_give 10 S12 a1 a2 (fun S14 => p_X10_at 13 8 S14 a1 (fun r16 S15 => p_X10_told  S15 r16 (fun r18 S17 => post r18 S17)))) ∧ (¬ a2 ≤ 9999 → p_X10_earn_31 a1 a2 post S12 ))))) ∧ (r13 = false → p_X10_refused  S12 2 (fun r20 S19 => post r20 S19))))
set_option maxHeartbeats 4000000 in
set_option maxRecDepth 100000 in
theorem q_X10_earn_31 {X : vX} {G : vG}  {post : Int32 → vSt → Prop} (C : v_Cx X G cX10_earn RX10 3 (v_rm 2 84)) (D : v_Rx X G (v_Qi G post) (some .int))  {a1 : Int32} {a2 : Int32}   : ∀ (S : vSt), p_X10_earn_31 a1 a2 post S  → VJ X G S 31 [(0, .ref (G.1 0))] [] := by
  intro S  h
  refine V_aload_n C 0 dX10_earn_31 rfl rfl ?_
  refine V_iconst (v := 5) C dX10_earn_32 (by decide) ?_
  refine V_callVi (As := [.int 5]) (rest := []) C (c_X10_refused (v_l X) G  _ _ h) 0 10 (by decide) (by decide) (by decide) rfl KV_X10_refused k_RX10_153 rfl rfl rfl (Nat.le_of_ble_eq_true rfl) ⟨Nat.le_of_ble_eq_true rfl, Nat.le_of_ble_eq_true rfl⟩ dX10_earn_33 (fun r15 S14 h => ?_)
  exact V_iret C D dX10_earn_36 h
set_option maxHeartbeats 4000000 in
set_option maxRecDepth 100000 in
theorem c_X10_earn (l : Launch) (G : vG)    {S : vSt} (a1 : Int32) (a2 : Int32) (post : Int32 → vSt → Prop) (h : p_X10_earn   S a1 a2 post) : Met l yX10_earn (v_ws yX10_earn cX10_earn 3 (some .int)) (v_rm 2 84) (v_Pc G [.ref (G.1 0), .int a1, .int a2] S) (v_Qi G post) 0 0 (v_A G) := by
  refine v_start (by decide +kernel) (Nat.le_of_ble_eq_true rfl) (fun X hl C D => ?_)
  subst hl
  have C : v_Cx X G cX10_earn RX10 3 (v_rm 2 84) := C
  show VJ X G S 0 [(0, .ref (G.1 0)), (1, .int a1), (2, .int a2)] []
  refine V_aload_n C 0 dX10_earn_0 rfl rfl ?_
  refine V_ga C 0 (by decide) (by decide) F_10_2 k_RX10_26 dX10_earn_1 ?_
  refine V_iload_n C 1 dX10_earn_4 rfl rfl ?_
  refine V_callVz (As := [.int a1]) (rest := []) C (c_X0_hasPerson (v_l X) G v_i10 _ _ h) 10 0 (by decide) (by decide) (by decide) rfl KV_X0_hasPerson k_RX10_188 rfl rfl rfl (Nat.le_of_ble_eq_true rfl) ⟨Nat.le_of_ble_eq_true rfl, Nat.le_of_ble_eq_true rfl⟩ dX10_earn_5 (fun r13 S12 h => ?_)
  refine V_ifb_ne (tgt := 17) C dX10_earn_8 (by decide) (fun c => ?_) (fun c => ?_)
  · have h := h.1 c
    refine V_iload_n C 2 dX10_earn_17 rfl rfl ?_
    refine V_sipush (v := (-9999)) C dX10_earn_18 (by decide) ?_
    refine V_icmp_lt (tgt := 31) C dX10_earn_21 (by decide) (fun c => ?_) (fun c => ?_)
    · have h := h.1 c
      refine V_loc (lv' := [(0, .ref (G.1 0))]) [0] rfl ?_
      exact q_X10_earn_31 C D  _ h
    · have h := h.2 c
      refine V_iload_n C 2 dX10_earn_24 rfl rfl ?_
      refine V_sipush (v := 9999) C dX10_earn_25 (by decide) ?_
      refine V_icmp_le (tgt := 37) C dX10_earn_28 (by decide) (fun c => ?_) (fun c => ?_)
      · have h := h.1 c
        refine V_aload_n C 0 dX10_earn_37 rfl rfl ?_
        refine V_ga C 0 (by decide) (by decide) F_10_2 k_RX10_26 dX10_earn_38 ?_
        refine V_iload_n C 1 dX10_earn_41 rfl rfl ?_
        refine V_iload_n C 2 dX10_earn_42 rfl rfl ?_
        refine V_callVv (As := [.int a1, .int a2]) (rest := []) C (c_X0_give (v_l X) G v_i10 _ _ _ h) 10 0 (by decide) (by decide) (by decide) rfl KV_X0_give k_RX10_258 rfl rfl rfl (Nat.le_of_ble_eq_true rfl) ⟨Nat.le_of_ble_eq_true rfl, Nat.le_of_ble_eq_true rfl⟩ dX10_earn_43 (fun S14 h => ?_)
        refine V_aload_n C 0 dX10_earn_46 rfl rfl ?_
        refine V_aload_n C 0 dX10_earn_47 rfl rfl ?_
        refine V_ga C 0 (by decide) (by decide) F_10_2 k_RX10_26 dX10_earn_48 ?_
        refine V_gr C 10 (by decide) (by decide) F_0_2 k_RX10_209 dX10_earn_51 ?_
        refine V_iload_n C 1 dX10_earn_54 rfl rfl ?_
        refine V_callSi (As := [.ref (G.1 13), .int a1]) (rest := [.ref (G.1 0)]) C (c_X10_at (v_l X) G (by decide) (by decide) _ _ h) KV_X10_at k_RX10_212 rfl rfl rfl (Nat.le_of_ble_eq_true rfl) ⟨Nat.le_of_ble_eq_true rfl, Nat.le_of_ble_eq_true rfl⟩ dX10_earn_55 (fun r16 S15 h => ?_)
        refine V_callVi (As := [.int r16]) (rest := []) C (c_X10_told (v_l X) G  _ _ h) 0 10 (by decide) (by decide) (by decide) rfl KV_X10_told k_RX10_173 rfl rfl rfl (Nat.le_of_ble_eq_true rfl) ⟨Nat.le_of_ble_eq_true rfl, Nat.le_of_ble_eq_true rfl⟩ dX10_earn_58 (fun r18 S17 h => ?_)
        exact V_iret C D dX10_earn_61 h
      · have h := h.2 c
        refine V_loc (lv' := [(0, .ref (G.1 0))]) [0] rfl ?_
        exact q_X10_earn_31 C D  _ h
  · have h := h.2 c
    refine V_aload_n C 0 dX10_earn_11 rfl rfl ?_
    refine V_iconst (v := 2) C dX10_earn_12 (by decide) ?_
    refine V_callVi (As := [.int 2]) (rest := []) C (c_X10_refused (v_l X) G  _ _ h) 0 10 (by decide) (by decide) (by decide) rfl KV_X10_refused k_RX10_153 rfl rfl rfl (Nat.le_of_ble_eq_true rfl) ⟨Nat.le_of_ble_eq_true rfl, Nat.le_of_ble_eq_true rfl⟩ dX10_earn_13 (fun r20 S19 h => ?_)
    exact V_iret C D dX10_earn_16 h
/-! HalfAccuser.can(II)I -/
theorem dX10_can_0 : decode cX10_can 0 = .ok ((.aload_n 0), 1) := by decide +kernel
theorem dX10_can_1 : decode cX10_can 1 = .ok ((.iload_n 1), 1) := by decide +kernel
theorem dX10_can_2 : decode cX10_can 2 = .ok ((.iload_n 2), 1) := by decide +kernel
theorem dX10_can_3 : decode cX10_can 3 = .ok ((.invokevirtual 216), 3) := by decide +kernel
theorem dX10_can_6 : decode cX10_can 6 = .ok ((.ifCond .ne 9), 3) := by decide +kernel
theorem dX10_can_9 : decode cX10_can 9 = .ok ((.aload_n 0), 1) := by decide +kernel
theorem dX10_can_10 : decode cX10_can 10 = .ok ((.iconst 2), 1) := by decide +kernel
theorem dX10_can_11 : decode cX10_can 11 = .ok ((.invokevirtual 153), 3) := by decide +kernel
theorem dX10_can_14 : decode cX10_can 14 = .ok (.ireturn, 1) := by decide +kernel
theorem dX10_can_15 : decode cX10_can 15 = .ok ((.aload_n 0), 1) := by decide +kernel
theorem dX10_can_16 : decode cX10_can 16 = .ok ((.aload_n 0), 1) := by decide +kernel
theorem dX10_can_17 : decode cX10_can 17 = .ok ((.getfield 26), 3) := by decide +kernel
theorem dX10_can_20 : decode cX10_can 20 = .ok ((.iload_n 1), 1) := by decide +kernel
theorem dX10_can_21 : decode cX10_can 21 = .ok ((.iload_n 2), 1) := by decide +kernel
theorem dX10_can_22 : decode cX10_can 22 = .ok ((.invokevirtual 223), 3) := by decide +kernel
theorem dX10_can_25 : decode cX10_can 25 = .ok ((.ifCond .eq 7), 3) := by decide +kernel
theorem dX10_can_28 : decode cX10_can 28 = .ok ((.iconst 1), 1) := by decide +kernel
theorem dX10_can_29 : decode cX10_can 29 = .ok ((.goto 4), 3) := by decide +kernel
theorem dX10_can_32 : decode cX10_can 32 = .ok ((.iconst 0), 1) := by decide +kernel
theorem dX10_can_33 : decode cX10_can 33 = .ok ((.invokevirtual 173), 3) := by decide +kernel
theorem dX10_can_36 : decode cX10_can 36 = .ok (.ireturn, 1) := by decide +kernel
def p_X10_can_33  (a1 : Int32) (a2 : Int32)   (post : Int32 → vSt → Prop) (S : vSt) (s0 : Bool) : Prop := p_X10_told  S (v_b s0) (fun r14 S13 => post r14 S13)
def p_X10_can   (S : vSt) (a1 : Int32) (a2 : Int32) (post : Int32 → vSt → Prop) : Prop := p_X10_areThere  S a1 a2 (fun r10 S9 => ((r10 = true → p_X0_mayCharge 10 S9 a1 a2 (fun r12 S11 => ((r12 = false → p_X10_can_33 a1 a2 post S11 false) ∧ (r12 = true → p_X10_can_33 a1 a2 post S11 true)))) ∧ (r10 = false → p_X10_refused  S9 2 (fun r14 S13 => post r14 S13))))
set_option maxHeartbeats 4000000 in
set_option maxRecDepth 100000 in
theorem q_X10_can_33 {X : vX} {G : vG}  {post : Int32 → vSt → Prop} (C : v_Cx X G cX10_can RX10 3 (v_rm 3 105)) (D : v_Rx X G (v_Qi G post) (some .int))  {a1 : Int32} {a2 : Int32}   : ∀ (S : vSt) (s0 : Bool), p_X10_can_33 a1 a2 post S s0 → VJ X G S 33 [] [.int (v_b s0), .ref (G.1 0)] := by
  intro S s0 h
  refine V_callVi (As := [.int (v_b s0)]) (rest := []) C (c_X10_told (v_l X) G  _ _ h) 0 10 (by decide) (by decide) (by decide) rfl KV_X10_told k_RX10_173 rfl rfl rfl (Nat.le_of_ble_eq_true rfl) ⟨Nat.le_of_ble_eq_true rfl, Nat.le_of_ble_eq_true rfl⟩ dX10_can_33 (fun r14 S13 h => ?_)
  exact V_iret C D dX10_can_36 h
set_option maxHeartbeats 4000000 in
set_option maxRecDepth 100000 in
theorem c_X10_can (l : Launch) (G : vG)    {S : vSt} (a1 : Int32) (a2 : Int32) (post : Int32 → vSt → Prop) (h : p_X10_can   S a1 a2 post) : Met l yX10_can (v_ws yX10_can cX10_can 3 (some .int)) (v_rm 3 105) (v_Pc G [.ref (G.1 0), .int a1, .int a2] S) (v_Qi G post) 0 0 (v_A G) := by
  refine v_start (by decide +kernel) (Nat.le_of_ble_eq_true rfl) (fun X hl C D => ?_)
  subst hl
  have C : v_Cx X G cX10_can RX10 3 (v_rm 3 105) := C
  show VJ X G S 0 [(0, .ref (G.1 0)), (1, .int a1), (2, .int a2)] []
  refine V_aload_n C 0 dX10_can_0 rfl rfl ?_
  refine V_iload_n C 1 dX10_can_1 rfl rfl ?_
  refine V_iload_n C 2 dX10_can_2 rfl rfl ?_
  refine V_callVz (As := [.int a1, .int a2]) (rest := []) C (c_X10_areThere (v_l X) G  _ _ _ h) 0 10 (by decide) (by decide) (by decide) rfl KV_X10_areThere k_RX10_216 rfl rfl rfl (Nat.le_of_ble_eq_true rfl) ⟨Nat.le_of_ble_eq_true rfl, Nat.le_of_ble_eq_true rfl⟩ dX10_can_3 (fun r10 S9 h => ?_)
  refine V_ifb_ne (tgt := 15) C dX10_can_6 (by decide) (fun c => ?_) (fun c => ?_)
  · have h := h.1 c
    refine V_aload_n C 0 dX10_can_15 rfl rfl ?_
    refine V_aload_n C 0 dX10_can_16 rfl rfl ?_
    refine V_ga C 0 (by decide) (by decide) F_10_2 k_RX10_26 dX10_can_17 ?_
    refine V_iload_n C 1 dX10_can_20 rfl rfl ?_
    refine V_iload_n C 2 dX10_can_21 rfl rfl ?_
    refine V_callVz (As := [.int a1, .int a2]) (rest := [.ref (G.1 0)]) C (c_X0_mayCharge (v_l X) G v_i10 _ _ _ h) 10 0 (by decide) (by decide) (by decide) rfl KV_X0_mayCharge k_RX10_223 rfl rfl rfl (Nat.le_of_ble_eq_true rfl) ⟨Nat.le_of_ble_eq_true rfl, Nat.le_of_ble_eq_true rfl⟩ dX10_can_22 (fun r12 S11 h => ?_)
    refine V_ifb_eq (tgt := 32) C dX10_can_25 (by decide) (fun c => ?_) (fun c => ?_)
    · have h := h.1 c
      refine V_iconst (v := 0) C dX10_can_32 (by decide) ?_
      refine V_loc (lv' := []) [] rfl ?_
      exact q_X10_can_33 C D  _ _ h
    · have h := h.2 c
      refine V_iconst (v := 1) C dX10_can_28 (by decide) ?_
      refine V_goto (tgt := 33) C dX10_can_29 (by decide) ?_
      refine V_loc (lv' := []) [] rfl ?_
      exact q_X10_can_33 C D  _ _ h
  · have h := h.2 c
    refine V_aload_n C 0 dX10_can_9 rfl rfl ?_
    refine V_iconst (v := 2) C dX10_can_10 (by decide) ?_
    refine V_callVi (As := [.int 2]) (rest := []) C (c_X10_refused (v_l X) G  _ _ h) 0 10 (by decide) (by decide) (by decide) rfl KV_X10_refused k_RX10_153 rfl rfl rfl (Nat.le_of_ble_eq_true rfl) ⟨Nat.le_of_ble_eq_true rfl, Nat.le_of_ble_eq_true rfl⟩ dX10_can_11 (fun r14 S13 h => ?_)
    exact V_iret C D dX10_can_14 h
/-! HalfAccuser.voteStatus(II)I -/
theorem dX10_voteStatus_0 : decode cX10_voteStatus 0 = .ok ((.aload_n 0), 1) := by decide +kernel
theorem dX10_voteStatus_1 : decode cX10_voteStatus 1 = .ok ((.iload_n 1), 1) := by decide +kernel
theorem dX10_voteStatus_2 : decode cX10_voteStatus 2 = .ok ((.iload_n 2), 1) := by decide +kernel
theorem dX10_voteStatus_3 : decode cX10_voteStatus 3 = .ok ((.invokevirtual 216), 3) := by decide +kernel
theorem dX10_voteStatus_6 : decode cX10_voteStatus 6 = .ok ((.ifCond .ne 5), 3) := by decide +kernel
theorem dX10_voteStatus_9 : decode cX10_voteStatus 9 = .ok ((.iconst 2), 1) := by decide +kernel
theorem dX10_voteStatus_10 : decode cX10_voteStatus 10 = .ok (.ireturn, 1) := by decide +kernel
theorem dX10_voteStatus_11 : decode cX10_voteStatus 11 = .ok ((.aload_n 0), 1) := by decide +kernel
theorem dX10_voteStatus_12 : decode cX10_voteStatus 12 = .ok ((.getfield 26), 3) := by decide +kernel
theorem dX10_voteStatus_15 : decode cX10_voteStatus 15 = .ok ((.iload_n 1), 1) := by decide +kernel
theorem dX10_voteStatus_16 : decode cX10_voteStatus 16 = .ok ((.iload_n 2), 1) := by decide +kernel
theorem dX10_voteStatus_17 : decode cX10_voteStatus 17 = .ok ((.invokevirtual 277), 3) := by decide +kernel
theorem dX10_voteStatus_20 : decode cX10_voteStatus 20 = .ok ((.ifCond .eq 8), 3) := by decide +kernel
theorem dX10_voteStatus_23 : decode cX10_voteStatus 23 = .ok ((.bipush 9), 2) := by decide +kernel
theorem dX10_voteStatus_25 : decode cX10_voteStatus 25 = .ok ((.goto 4), 3) := by decide +kernel
theorem dX10_voteStatus_28 : decode cX10_voteStatus 28 = .ok ((.iconst 0), 1) := by decide +kernel
theorem dX10_voteStatus_29 : decode cX10_voteStatus 29 = .ok (.ireturn, 1) := by decide +kernel
def p_X10_voteStatus   (S : vSt) (a1 : Int32) (a2 : Int32) (post : Int32 → vSt → Prop) : Prop := p_X10_areThere  S a1 a2 (fun r6 S5 => ((r6 = true → p_X0_isOwn 10 S5 a1 a2 (fun r8 S7 => ((r8 = false → post 0 S7) ∧ (r8 = true → post 9 S7)))) ∧ (r6 = false → post 2 S5)))
set_option maxHeartbeats 4000000 in
set_option maxRecDepth 100000 in
theorem c_X10_voteStatus (l : Launch) (G : vG)    {S : vSt} (a1 : Int32) (a2 : Int32) (post : Int32 → vSt → Prop) (h : p_X10_voteStatus   S a1 a2 post) : Met l yX10_voteStatus (v_ws yX10_voteStatus cX10_voteStatus 3 (some .int)) (v_rm 2 83) (v_Pc G [.ref (G.1 0), .int a1, .int a2] S) (v_Qi G post) 0 0 (v_A G) := by
  refine v_start (by decide +kernel) (Nat.le_of_ble_eq_true rfl) (fun X hl C D => ?_)
  subst hl
  have C : v_Cx X G cX10_voteStatus RX10 3 (v_rm 2 83) := C
  show VJ X G S 0 [(0, .ref (G.1 0)), (1, .int a1), (2, .int a2)] []
  refine V_aload_n C 0 dX10_voteStatus_0 rfl rfl ?_
  refine V_iload_n C 1 dX10_voteStatus_1 rfl rfl ?_
  refine V_iload_n C 2 dX10_voteStatus_2 rfl rfl ?_
  refine V_callVz (As := [.int a1, .int a2]) (rest := []) C (c_X10_areThere (v_l X) G  _ _ _ h) 0 10 (by decide) (by decide) (by decide) rfl KV_X10_areThere k_RX10_216 rfl rfl rfl (Nat.le_of_ble_eq_true rfl) ⟨Nat.le_of_ble_eq_true rfl, Nat.le_of_ble_eq_true rfl⟩ dX10_voteStatus_3 (fun r6 S5 h => ?_)
  refine V_ifb_ne (tgt := 11) C dX10_voteStatus_6 (by decide) (fun c => ?_) (fun c => ?_)
  · have h := h.1 c
    refine V_aload_n C 0 dX10_voteStatus_11 rfl rfl ?_
    refine V_ga C 0 (by decide) (by decide) F_10_2 k_RX10_26 dX10_voteStatus_12 ?_
    refine V_iload_n C 1 dX10_voteStatus_15 rfl rfl ?_
    refine V_iload_n C 2 dX10_voteStatus_16 rfl rfl ?_
    refine V_callVz (As := [.int a1, .int a2]) (rest := []) C (c_X0_isOwn (v_l X) G v_i10 _ _ _ h) 10 0 (by decide) (by decide) (by decide) rfl KV_X0_isOwn k_RX10_277 rfl rfl rfl (Nat.le_of_ble_eq_true rfl) ⟨Nat.le_of_ble_eq_true rfl, Nat.le_of_ble_eq_true rfl⟩ dX10_voteStatus_17 (fun r8 S7 h => ?_)
    refine V_ifb_eq (tgt := 28) C dX10_voteStatus_20 (by decide) (fun c => ?_) (fun c => ?_)
    · have h := h.1 c
      refine V_iconst (v := 0) C dX10_voteStatus_28 (by decide) ?_
      exact V_iret C D dX10_voteStatus_29 h
    · have h := h.2 c
      refine V_bipush (v := 9) C dX10_voteStatus_23 (by decide) ?_
      refine V_goto (tgt := 29) C dX10_voteStatus_25 (by decide) ?_
      exact V_iret C D dX10_voteStatus_29 h
  · have h := h.2 c
    refine V_iconst (v := 2) C dX10_voteStatus_9 (by decide) ?_
    exact V_iret C D dX10_voteStatus_10 h
/-! HalfAccuser.chance(II)I -/
theorem dX10_chance_0 : decode cX10_chance 0 = .ok ((.aload_n 0), 1) := by decide +kernel
theorem dX10_chance_1 : decode cX10_chance 1 = .ok ((.iload_n 1), 1) := by decide +kernel
theorem dX10_chance_2 : decode cX10_chance 2 = .ok ((.iload_n 2), 1) := by decide +kernel
theorem dX10_chance_3 : decode cX10_chance 3 = .ok ((.invokevirtual 271), 3) := by decide +kernel
theorem dX10_chance_6 : decode cX10_chance 6 = .ok ((.istore_n 3), 1) := by decide +kernel
theorem dX10_chance_7 : decode cX10_chance 7 = .ok ((.iload_n 3), 1) := by decide +kernel
theorem dX10_chance_8 : decode cX10_chance 8 = .ok ((.ifCond .eq 9), 3) := by decide +kernel
theorem dX10_chance_11 : decode cX10_chance 11 = .ok ((.aload_n 0), 1) := by decide +kernel
theorem dX10_chance_12 : decode cX10_chance 12 = .ok ((.iload_n 3), 1) := by decide +kernel
theorem dX10_chance_13 : decode cX10_chance 13 = .ok ((.invokevirtual 153), 3) := by decide +kernel
theorem dX10_chance_16 : decode cX10_chance 16 = .ok (.ireturn, 1) := by decide +kernel
theorem dX10_chance_17 : decode cX10_chance 17 = .ok ((.aload_n 0), 1) := by decide +kernel
theorem dX10_chance_18 : decode cX10_chance 18 = .ok ((.aload_n 0), 1) := by decide +kernel
theorem dX10_chance_19 : decode cX10_chance 19 = .ok ((.getfield 26), 3) := by decide +kernel
theorem dX10_chance_22 : decode cX10_chance 22 = .ok ((.iload_n 1), 1) := by decide +kernel
theorem dX10_chance_23 : decode cX10_chance 23 = .ok ((.iload_n 2), 1) := by decide +kernel
theorem dX10_chance_24 : decode cX10_chance 24 = .ok ((.invokevirtual 274), 3) := by decide +kernel
theorem dX10_chance_27 : decode cX10_chance 27 = .ok ((.invokevirtual 173), 3) := by decide +kernel
theorem dX10_chance_30 : decode cX10_chance 30 = .ok (.ireturn, 1) := by decide +kernel
def p_X10_chance   (S : vSt) (a1 : Int32) (a2 : Int32) (post : Int32 → vSt → Prop) : Prop := p_X10_voteStatus  S a1 a2 (fun r10 S9 => ((r10 = 0 → p_X0_chanceOf 10 S9 a1 a2 (fun r12 S11 => p_X10_told  S11 r12 (fun r14 S13 => post r14 S13))) ∧ (¬ r10 = 0 → p_X10_refused  S9 r10 (fun r16 S15 => post r16 S15))))
set_option maxHeartbeats 4000000 in
set_option maxRecDepth 100000 in
theorem c_X10_chance (l : Launch) (G : vG)    {S : vSt} (a1 : Int32) (a2 : Int32) (post : Int32 → vSt → Prop) (h : p_X10_chance   S a1 a2 post) : Met l yX10_chance (v_ws yX10_chance cX10_chance 4 (some .int)) (v_rm 3 105) (v_Pc G [.ref (G.1 0), .int a1, .int a2] S) (v_Qi G post) 0 0 (v_A G) := by
  refine v_start (by decide +kernel) (Nat.le_of_ble_eq_true rfl) (fun X hl C D => ?_)
  subst hl
  have C : v_Cx X G cX10_chance RX10 4 (v_rm 3 105) := C
  show VJ X G S 0 [(0, .ref (G.1 0)), (1, .int a1), (2, .int a2)] []
  refine V_aload_n C 0 dX10_chance_0 rfl rfl ?_
  refine V_iload_n C 1 dX10_chance_1 rfl rfl ?_
  refine V_iload_n C 2 dX10_chance_2 rfl rfl ?_
  refine V_callVi (As := [.int a1, .int a2]) (rest := []) C (c_X10_voteStatus (v_l X) G  _ _ _ h) 0 10 (by decide) (by decide) (by decide) rfl KV_X10_voteStatus k_RX10_271 rfl rfl rfl (Nat.le_of_ble_eq_true rfl) ⟨Nat.le_of_ble_eq_true rfl, Nat.le_of_ble_eq_true rfl⟩ dX10_chance_3 (fun r10 S9 h => ?_)
  refine V_istore_n (lv' := [(0, .ref (G.1 0)), (1, .int a1), (2, .int a2), (3, .int r10)]) C [1, 2, 3, 0] dX10_chance_6 rfl (by decide) rfl ?_
  refine V_iload_n C 3 dX10_chance_7 rfl rfl ?_
  refine V_if_eq (tgt := 17) C dX10_chance_8 (by decide) (fun c => ?_) (fun c => ?_)
  · have h := h.1 c
    refine V_aload_n C 0 dX10_chance_17 rfl rfl ?_
    refine V_aload_n C 0 dX10_chance_18 rfl rfl ?_
    refine V_ga C 0 (by decide) (by decide) F_10_2 k_RX10_26 dX10_chance_19 ?_
    refine V_iload_n C 1 dX10_chance_22 rfl rfl ?_
    refine V_iload_n C 2 dX10_chance_23 rfl rfl ?_
    refine V_callVi (As := [.int a1, .int a2]) (rest := [.ref (G.1 0)]) C (c_X0_chanceOf (v_l X) G v_i10 _ _ _ h) 10 0 (by decide) (by decide) (by decide) rfl KV_X0_chanceOf k_RX10_274 rfl rfl rfl (Nat.le_of_ble_eq_true rfl) ⟨Nat.le_of_ble_eq_true rfl, Nat.le_of_ble_eq_true rfl⟩ dX10_chance_24 (fun r12 S11 h => ?_)
    refine V_callVi (As := [.int r12]) (rest := []) C (c_X10_told (v_l X) G  _ _ h) 0 10 (by decide) (by decide) (by decide) rfl KV_X10_told k_RX10_173 rfl rfl rfl (Nat.le_of_ble_eq_true rfl) ⟨Nat.le_of_ble_eq_true rfl, Nat.le_of_ble_eq_true rfl⟩ dX10_chance_27 (fun r14 S13 h => ?_)
    exact V_iret C D dX10_chance_30 h
  · have h := h.2 c
    refine V_aload_n C 0 dX10_chance_11 rfl rfl ?_
    refine V_iload_n C 3 dX10_chance_12 rfl rfl ?_
    refine V_callVi (As := [.int r10]) (rest := []) C (c_X10_refused (v_l X) G  _ _ h) 0 10 (by decide) (by decide) (by decide) rfl KV_X10_refused k_RX10_153 rfl rfl rfl (Nat.le_of_ble_eq_true rfl) ⟨Nat.le_of_ble_eq_true rfl, Nat.le_of_ble_eq_true rfl⟩ dX10_chance_13 (fun r16 S15 h => ?_)
    exact V_iret C D dX10_chance_16 h
/-! HalfAccuser.commonDivisor(JJ)J -/
theorem dX10_commonDivisor_0 : decode cX10_commonDivisor 0 = .ok ((.lload_n 0), 1) := by decide +kernel
theorem dX10_commonDivisor_1 : decode cX10_commonDivisor 1 = .ok ((.lstore 4), 2) := by decide +kernel
theorem dX10_commonDivisor_3 : decode cX10_commonDivisor 3 = .ok ((.lload_n 2), 1) := by decide +kernel
theorem dX10_commonDivisor_4 : decode cX10_commonDivisor 4 = .ok ((.lstore 6), 2) := by decide +kernel
theorem dX10_commonDivisor_6 : decode cX10_commonDivisor 6 = .ok ((.iconst 0), 1) := by decide +kernel
theorem dX10_commonDivisor_7 : decode cX10_commonDivisor 7 = .ok ((.istore 8), 2) := by decide +kernel
theorem dX10_commonDivisor_9 : decode cX10_commonDivisor 9 = .ok ((.iload 8), 2) := by decide +kernel
theorem dX10_commonDivisor_11 : decode cX10_commonDivisor 11 = .ok ((.sipush 200), 3) := by decide +kernel
theorem dX10_commonDivisor_14 : decode cX10_commonDivisor 14 = .ok ((.if_icmp .ge 31), 3) := by decide +kernel
theorem dX10_commonDivisor_17 : decode cX10_commonDivisor 17 = .ok ((.lload 6), 2) := by decide +kernel
theorem dX10_commonDivisor_19 : decode cX10_commonDivisor 19 = .ok ((.lconst 0), 1) := by decide +kernel
theorem dX10_commonDivisor_20 : decode cX10_commonDivisor 20 = .ok (.lcmp, 1) := by decide +kernel
theorem dX10_commonDivisor_21 : decode cX10_commonDivisor 21 = .ok ((.ifCond .eq 24), 3) := by decide +kernel
theorem dX10_commonDivisor_24 : decode cX10_commonDivisor 24 = .ok ((.lload 4), 2) := by decide +kernel
theorem dX10_commonDivisor_26 : decode cX10_commonDivisor 26 = .ok ((.lload 6), 2) := by decide +kernel
theorem dX10_commonDivisor_28 : decode cX10_commonDivisor 28 = .ok (.lrem, 1) := by decide +kernel
theorem dX10_commonDivisor_29 : decode cX10_commonDivisor 29 = .ok ((.lstore 9), 2) := by decide +kernel
theorem dX10_commonDivisor_31 : decode cX10_commonDivisor 31 = .ok ((.lload 6), 2) := by decide +kernel
theorem dX10_commonDivisor_33 : decode cX10_commonDivisor 33 = .ok ((.lstore 4), 2) := by decide +kernel
theorem dX10_commonDivisor_35 : decode cX10_commonDivisor 35 = .ok ((.lload 9), 2) := by decide +kernel
theorem dX10_commonDivisor_37 : decode cX10_commonDivisor 37 = .ok ((.lstore 6), 2) := by decide +kernel
theorem dX10_commonDivisor_39 : decode cX10_commonDivisor 39 = .ok ((.iinc 8 1), 3) := by decide +kernel
theorem dX10_commonDivisor_42 : decode cX10_commonDivisor 42 = .ok ((.goto (-33)), 3) := by decide +kernel
theorem dX10_commonDivisor_45 : decode cX10_commonDivisor 45 = .ok ((.lload 4), 2) := by decide +kernel
theorem dX10_commonDivisor_47 : decode cX10_commonDivisor 47 = .ok (.lreturn, 1) := by decide +kernel
def p_X10_commonDivisor_9  (a0 : Int64) (a2 : Int64)   (post : Int64 → vSt → Prop) : Nat → vSt → Int64 → Int64 → Int32 → Prop
  | 0 => fun _ _ _ _ => False
  | fu9 + 1 => fun S x4 x6 x8 => ((200 ≤ x8 → post x4 S) ∧ (¬ 200 ≤ x8 → ((x6 = 0 → post x4 S) ∧ (¬ x6 = 0 → (¬ x6 = 0 ∧ ∀ y5 : Int64, y5 = (x4 - x4 / x6 * x6) → ∀ y6 : Int32, y6 = x8 + 1 → (p_X10_commonDivisor_9 a0 a2 post fu9) S x6 y5 y6)))))
theorem e_X10_commonDivisor_9  (a0 : Int64) (a2 : Int64)   (post : Int64 → vSt → Prop) (fu9 : Nat) (S : vSt) (x4 : Int64) (x6 : Int64) (x8 : Int32) : p_X10_commonDivisor_9 a0 a2 post (fu9 + 1) S x4 x6 x8 = (((200 ≤ x8 → post x4 S) ∧ (¬ 200 ≤ x8 → ((x6 = 0 → post x4 S) ∧ (¬ x6 = 0 → (¬ x6 = 0 ∧ ∀ y5 : Int64, y5 = (x4 - x4 / x6 * x6) → ∀ y6 : Int32, y6 = x8 + 1 → (p_X10_commonDivisor_9 a0 a2 post fu9) S x6 y5 y6)))))) := rfl
def p_X10_commonDivisor   (S : vSt) (a0 : Int64) (a2 : Int64) (post : Int64 → vSt → Prop) : Prop := ∃ fu9, p_X10_commonDivisor_9 a0 a2 post fu9 S a0 a2 0
set_option maxHeartbeats 4000000 in
set_option maxRecDepth 100000 in
theorem q_X10_commonDivisor_9 {X : vX} {G : vG}  {post : Int64 → vSt → Prop} (C : v_Cx X G cX10_commonDivisor RX10 11 (v_rm 0 40)) (D : v_Rx X G (v_Ql G post) (some .long))  {a0 : Int64} {a2 : Int64}   : ∀ (fu : Nat) (S : vSt) (x4 : Int64) (x6 : Int64) (x8 : Int32), p_X10_commonDivisor_9 a0 a2 post fu S x4 x6 x8 → VJ X G S 9 [(4, .long x4), (6, .long x6), (8, .int x8)] [] := by
  intro fu
  induction fu with
  | zero => intro S x4 x6 x8 h; exact absurd h id
  | succ fu ih =>
    intro S x4 x6 x8 h
    have hK9 := ih
    rw [e_X10_commonDivisor_9] at h
    refine V_iload C 2 dX10_commonDivisor_9 rfl ?_
    refine V_sipush (v := 200) C dX10_commonDivisor_11 (by decide) ?_
    refine V_icmp_ge (tgt := 45) C dX10_commonDivisor_14 (by decide) (fun c => ?_) (fun c => ?_)
    · have h := h.1 c
      refine V_lload C 0 dX10_commonDivisor_45 rfl ?_
      exact V_lret C D dX10_commonDivisor_47 h
    · have h := h.2 c
      refine V_lload C 1 dX10_commonDivisor_17 rfl ?_
      refine V_lconst (v := 0) C dX10_commonDivisor_19 (by decide) ?_
      refine V_lcmp_eq (tgt := 45) C dX10_commonDivisor_20 dX10_commonDivisor_21 (by decide) (fun c => ?_) (fun c => ?_)
      · have h := h.1 c
        refine V_lload C 0 dX10_commonDivisor_45 rfl ?_
        exact V_lret C D dX10_commonDivisor_47 h
      · have h := h.2 c
        refine V_lload C 0 dX10_commonDivisor_24 rfl ?_
        refine V_lload C 1 dX10_commonDivisor_26 rfl ?_
        obtain ⟨hz, h⟩ := h
        refine V_lrem C dX10_commonDivisor_28 hz ?_
        refine V_topl (fun y5 ey5 => ?_)
        have h := h y5 ey5
        refine V_lstore (lv' := [(4, .long x4), (6, .long x6), (8, .int x8), (9, .long y5)]) C [1, 2, 3, 0] dX10_commonDivisor_29 (by decide) rfl ?_
        refine V_lload C 1 dX10_commonDivisor_31 rfl ?_
        refine V_lstore (lv' := [(4, .long x6), (6, .long x6), (8, .int x8), (9, .long y5)]) C [0, 1, 2, 3] dX10_commonDivisor_33 (by decide) rfl ?_
        refine V_lload C 3 dX10_commonDivisor_35 rfl ?_
        refine V_lstore (lv' := [(4, .long x6), (6, .long y5), (8, .int x8), (9, .long y5)]) C [1, 0, 2, 3] dX10_commonDivisor_37 (by decide) rfl ?_
        obtain ⟨y6, ey6⟩ : ∃ z : Int32, z = x8 + 1 := ⟨_, rfl⟩
        have h := h y6 ey6
        refine V_iinc (lv' := [(4, .long x6), (6, .long y5), (8, .int y6), (9, .long y5)]) C 2 [1, 2, 0, 3] y6 dX10_commonDivisor_39 rfl (by rw [ey6]; rfl) (by decide) rfl ?_
        refine V_goto (tgt := 9) C dX10_commonDivisor_42 (by decide) ?_
        refine V_loc (lv' := [(4, .long x6), (6, .long y5), (8, .int y6)]) [0, 1, 2] rfl ?_
        exact hK9 _ _ _ _ h
set_option maxHeartbeats 4000000 in
set_option maxRecDepth 100000 in
theorem c_X10_commonDivisor (l : Launch) (G : vG)    {S : vSt} (a0 : Int64) (a2 : Int64) (post : Int64 → vSt → Prop) (h : p_X10_commonDivisor   S a0 a2 post) : Met l yX10_commonDivisor (v_ws yX10_commonDivisor cX10_commonDivisor 11 (some .long)) (v_rm 0 40) (v_Pc G [.long a0, .long a2] S) (v_Ql G post) 0 0 (v_A G) := by
  refine v_start (by decide +kernel) (Nat.le_of_ble_eq_true rfl) (fun X hl C D => ?_)
  subst hl
  have C : v_Cx X G cX10_commonDivisor RX10 11 (v_rm 0 40) := C
  show VJ X G S 0 [(0, .long a0), (2, .long a2)] []
  refine V_lload_n C 0 dX10_commonDivisor_0 rfl rfl ?_
  refine V_lstore (lv' := [(0, .long a0), (2, .long a2), (4, .long a0)]) C [1, 2, 0] dX10_commonDivisor_1 (by decide) rfl ?_
  refine V_lload_n C 1 dX10_commonDivisor_3 rfl rfl ?_
  refine V_lstore (lv' := [(0, .long a0), (2, .long a2), (4, .long a0), (6, .long a2)]) C [1, 2, 3, 0] dX10_commonDivisor_4 (by decide) rfl ?_
  refine V_iconst (v := 0) C dX10_commonDivisor_6 (by decide) ?_
  refine V_istore (lv' := [(0, .long a0), (2, .long a2), (4, .long a0), (6, .long a2), (8, .int 0)]) C [1, 2, 3, 4, 0] dX10_commonDivisor_7 (by decide) rfl ?_
  refine V_loc (lv' := [(4, .long a0), (6, .long a2), (8, .int 0)]) [2, 3, 4] rfl ?_
  obtain ⟨fu9, h⟩ := h
  exact q_X10_commonDivisor_9 C D  fu9 _ _ _ _ h
/-! HalfAccuser.tell(JJ)Z -/
theorem dX10_tell_0 : decode cX10_tell 0 = .ok ((.lload_n 1), 1) := by decide +kernel
theorem dX10_tell_1 : decode cX10_tell 1 = .ok ((.invokestatic 436), 3) := by decide +kernel
theorem dX10_tell_4 : decode cX10_tell 4 = .ok ((.lload_n 3), 1) := by decide +kernel
theorem dX10_tell_5 : decode cX10_tell 5 = .ok ((.invokestatic 442), 3) := by decide +kernel
theorem dX10_tell_8 : decode cX10_tell 8 = .ok ((.lstore 5), 2) := by decide +kernel
theorem dX10_tell_10 : decode cX10_tell 10 = .ok ((.lload 5), 2) := by decide +kernel
theorem dX10_tell_12 : decode cX10_tell 12 = .ok ((.lconst 0), 1) := by decide +kernel
theorem dX10_tell_13 : decode cX10_tell 13 = .ok (.lcmp, 1) := by decide +kernel
theorem dX10_tell_14 : decode cX10_tell 14 = .ok ((.ifCond .le 19), 3) := by decide +kernel
theorem dX10_tell_17 : decode cX10_tell 17 = .ok ((.aload_n 0), 1) := by decide +kernel
theorem dX10_tell_18 : decode cX10_tell 18 = .ok ((.lload_n 1), 1) := by decide +kernel
theorem dX10_tell_19 : decode cX10_tell 19 = .ok ((.lload 5), 2) := by decide +kernel
theorem dX10_tell_21 : decode cX10_tell 21 = .ok (.ldiv, 1) := by decide +kernel
theorem dX10_tell_22 : decode cX10_tell 22 = .ok ((.putfield 109), 3) := by decide +kernel
theorem dX10_tell_25 : decode cX10_tell 25 = .ok ((.aload_n 0), 1) := by decide +kernel
theorem dX10_tell_26 : decode cX10_tell 26 = .ok ((.lload_n 3), 1) := by decide +kernel
theorem dX10_tell_27 : decode cX10_tell 27 = .ok ((.lload 5), 2) := by decide +kernel
theorem dX10_tell_29 : decode cX10_tell 29 = .ok (.ldiv, 1) := by decide +kernel
theorem dX10_tell_30 : decode cX10_tell 30 = .ok ((.putfield 102), 3) := by decide +kernel
theorem dX10_tell_33 : decode cX10_tell 33 = .ok ((.aload_n 0), 1) := by decide +kernel
theorem dX10_tell_34 : decode cX10_tell 34 = .ok ((.iconst 0), 1) := by decide +kernel
theorem dX10_tell_35 : decode cX10_tell 35 = .ok ((.invokevirtual 116), 3) := by decide +kernel
theorem dX10_tell_38 : decode cX10_tell 38 = .ok (.ireturn, 1) := by decide +kernel
def p_X10_tell_33  (a1 : Int64) (a3 : Int64)   (post : Bool → vSt → Prop) (S : vSt)  : Prop := p_X10_settled  S 0 (fun r10 S9 => post r10 S9)
def p_X10_tell   (S : vSt) (a1 : Int64) (a3 : Int64) (post : Bool → vSt → Prop) : Prop := p_X10_commonDivisor  S (v_absl a1) a3 (fun r8 S7 => ((r8 ≤ 0 → p_X10_tell_33 a1 a3 post S7 ) ∧ (¬ r8 ≤ 0 → (¬ r8 = 0 ∧ ∀ S9, S9 = v_sl S7 0 17 (a1 / r8) → (¬ r8 = 0 ∧ ∀ S10, S10 = v_sl S9 0 18 (a3 / r8) → p_X10_tell_33 a1 a3 post S10 )))))
set_option maxHeartbeats 4000000 in
set_option maxRecDepth 100000 in
theorem q_X10_tell_33 {X : vX} {G : vG}  {post : Bool → vSt → Prop} (C : v_Cx X G cX10_tell RX10 7 (v_rm 1 70)) (D : v_Rx X G (v_Qz G post) (some .boolean))  {a1 : Int64} {a3 : Int64}   : ∀ (S : vSt), p_X10_tell_33 a1 a3 post S  → VJ X G S 33 [(0, .ref (G.1 0))] [] := by
  intro S  h
  refine V_aload_n C 0 dX10_tell_33 rfl rfl ?_
  refine V_iconst (v := 0) C dX10_tell_34 (by decide) ?_
  refine V_callVz (As := [.int 0]) (rest := []) C (c_X10_settled (v_l X) G  _ _ h) 0 10 (by decide) (by decide) (by decide) rfl KV_X10_settled k_RX10_116 rfl rfl rfl (Nat.le_of_ble_eq_true rfl) ⟨Nat.le_of_ble_eq_true rfl, Nat.le_of_ble_eq_true rfl⟩ dX10_tell_35 (fun r10 S9 h => ?_)
  exact V_zret C D dX10_tell_38 h
set_option maxHeartbeats 4000000 in
set_option maxRecDepth 100000 in
theorem c_X10_tell (l : Launch) (G : vG)    {S : vSt} (a1 : Int64) (a3 : Int64) (post : Bool → vSt → Prop) (h : p_X10_tell   S a1 a3 post) : Met l yX10_tell (v_ws yX10_tell cX10_tell 7 (some .boolean)) (v_rm 1 70) (v_Pc G [.ref (G.1 0), .long a1, .long a3] S) (v_Qz G post) 0 0 (v_A G) := by
  refine v_start (by decide +kernel) (Nat.le_of_ble_eq_true rfl) (fun X hl C D => ?_)
  subst hl
  have C : v_Cx X G cX10_tell RX10 7 (v_rm 1 70) := C
  show VJ X G S 0 [(0, .ref (G.1 0)), (1, .long a1), (3, .long a3)] []
  refine V_lload_n C 1 dX10_tell_0 rfl rfl ?_
  refine V_absl C k_RX10_436 (Nat.le_of_ble_eq_true rfl) ⟨Nat.le_of_ble_eq_true rfl, Nat.le_of_ble_eq_true rfl⟩ dX10_tell_1 ?_
  refine V_lload_n C 2 dX10_tell_4 rfl rfl ?_
  refine V_callSl (As := [.long (v_absl a1), .long a3]) (rest := []) C (c_X10_commonDivisor (v_l X) G  _ _ _ h) KV_X10_commonDivisor k_RX10_442 rfl rfl rfl (Nat.le_of_ble_eq_true rfl) ⟨Nat.le_of_ble_eq_true rfl, Nat.le_of_ble_eq_true rfl⟩ dX10_tell_5 (fun r8 S7 h => ?_)
  refine V_lstore (lv' := [(0, .ref (G.1 0)), (1, .long a1), (3, .long a3), (5, .long r8)]) C [1, 2, 3, 0] dX10_tell_8 (by decide) rfl ?_
  refine V_lload C 3 dX10_tell_10 rfl ?_
  refine V_lconst (v := 0) C dX10_tell_12 (by decide) ?_
  refine V_lcmp_le (tgt := 33) C dX10_tell_13 dX10_tell_14 (by decide) (fun c => ?_) (fun c => ?_)
  · have h := h.1 c
    refine V_loc (lv' := [(0, .ref (G.1 0))]) [0] rfl ?_
    exact q_X10_tell_33 C D  _ h
  · have h := h.2 c
    refine V_aload_n C 0 dX10_tell_17 rfl rfl ?_
    refine V_lload_n C 1 dX10_tell_18 rfl rfl ?_
    refine V_lload C 3 dX10_tell_19 rfl ?_
    obtain ⟨hz, h⟩ := h
    refine V_ldiv C dX10_tell_21 hz ?_
    refine V_pl C 0 (by decide) (by decide) P_10_17 k_RX10_109 dX10_tell_22 ?_
    refine V_topS (fun S9 eS9 => ?_)
    have h := h S9 eS9
    refine V_aload_n C 0 dX10_tell_25 rfl rfl ?_
    refine V_lload_n C 2 dX10_tell_26 rfl rfl ?_
    refine V_lload C 3 dX10_tell_27 rfl ?_
    obtain ⟨hz, h⟩ := h
    refine V_ldiv C dX10_tell_29 hz ?_
    refine V_pl C 0 (by decide) (by decide) P_10_18 k_RX10_102 dX10_tell_30 ?_
    refine V_topS (fun S10 eS10 => ?_)
    have h := h S10 eS10
    refine V_loc (lv' := [(0, .ref (G.1 0))]) [0] rfl ?_
    exact q_X10_tell_33 C D  _ h
/-! HalfAccuser.votes(III)Z -/
theorem dX10_votes_0 : decode cX10_votes 0 = .ok ((.aload_n 0), 1) := by decide +kernel
theorem dX10_votes_1 : decode cX10_votes 1 = .ok ((.iload_n 1), 1) := by decide +kernel
theorem dX10_votes_2 : decode cX10_votes 2 = .ok ((.iload_n 2), 1) := by decide +kernel
theorem dX10_votes_3 : decode cX10_votes 3 = .ok ((.invokevirtual 216), 3) := by decide +kernel
theorem dX10_votes_6 : decode cX10_votes 6 = .ok ((.ifCond .ne 9), 3) := by decide +kernel
theorem dX10_votes_9 : decode cX10_votes 9 = .ok ((.aload_n 0), 1) := by decide +kernel
theorem dX10_votes_10 : decode cX10_votes 10 = .ok ((.iconst 2), 1) := by decide +kernel
theorem dX10_votes_11 : decode cX10_votes 11 = .ok ((.invokevirtual 116), 3) := by decide +kernel
theorem dX10_votes_14 : decode cX10_votes 14 = .ok (.ireturn, 1) := by decide +kernel
theorem dX10_votes_15 : decode cX10_votes 15 = .ok ((.iload_n 3), 1) := by decide +kernel
theorem dX10_votes_16 : decode cX10_votes 16 = .ok ((.ifCond .lt 15), 3) := by decide +kernel
theorem dX10_votes_19 : decode cX10_votes 19 = .ok ((.iload_n 3), 1) := by decide +kernel
theorem dX10_votes_20 : decode cX10_votes 20 = .ok ((.aload_n 0), 1) := by decide +kernel
theorem dX10_votes_21 : decode cX10_votes 21 = .ok ((.getfield 26), 3) := by decide +kernel
theorem dX10_votes_24 : decode cX10_votes 24 = .ok ((.iconst 0), 1) := by decide +kernel
theorem dX10_votes_25 : decode cX10_votes 25 = .ok ((.invokevirtual 220), 3) := by decide +kernel
theorem dX10_votes_28 : decode cX10_votes 28 = .ok ((.if_icmp .le 9), 3) := by decide +kernel
theorem dX10_votes_31 : decode cX10_votes 31 = .ok ((.aload_n 0), 1) := by decide +kernel
theorem dX10_votes_32 : decode cX10_votes 32 = .ok ((.iconst 5), 1) := by decide +kernel
theorem dX10_votes_33 : decode cX10_votes 33 = .ok ((.invokevirtual 116), 3) := by decide +kernel
theorem dX10_votes_36 : decode cX10_votes 36 = .ok (.ireturn, 1) := by decide +kernel
theorem dX10_votes_37 : decode cX10_votes 37 = .ok ((.aload_n 0), 1) := by decide +kernel
theorem dX10_votes_38 : decode cX10_votes 38 = .ok ((.getfield 26), 3) := by decide +kernel
theorem dX10_votes_41 : decode cX10_votes 41 = .ok ((.iload_n 1), 1) := by decide +kernel
theorem dX10_votes_42 : decode cX10_votes 42 = .ok ((.iload_n 2), 1) := by decide +kernel
theorem dX10_votes_43 : decode cX10_votes 43 = .ok ((.invokevirtual 277), 3) := by decide +kernel
theorem dX10_votes_46 : decode cX10_votes 46 = .ok ((.ifCond .eq 10), 3) := by decide +kernel
theorem dX10_votes_49 : decode cX10_votes 49 = .ok ((.aload_n 0), 1) := by decide +kernel
theorem dX10_votes_50 : decode cX10_votes 50 = .ok ((.bipush 9), 2) := by decide +kernel
theorem dX10_votes_52 : decode cX10_votes 52 = .ok ((.invokevirtual 116), 3) := by decide +kernel
theorem dX10_votes_55 : decode cX10_votes 55 = .ok (.ireturn, 1) := by decide +kernel
theorem dX10_votes_56 : decode cX10_votes 56 = .ok ((.aload_n 0), 1) := by decide +kernel
theorem dX10_votes_57 : decode cX10_votes 57 = .ok ((.getfield 64), 3) := by decide +kernel
theorem dX10_votes_60 : decode cX10_votes 60 = .ok ((.aload_n 0), 1) := by decide +kernel
theorem dX10_votes_61 : decode cX10_votes 61 = .ok ((.getfield 26), 3) := by decide +kernel
theorem dX10_votes_64 : decode cX10_votes 64 = .ok ((.iload_n 1), 1) := by decide +kernel
theorem dX10_votes_65 : decode cX10_votes 65 = .ok ((.iload_n 2), 1) := by decide +kernel
theorem dX10_votes_66 : decode cX10_votes 66 = .ok ((.invokevirtual 274), 3) := by decide +kernel
theorem dX10_votes_69 : decode cX10_votes 69 = .ok ((.invokevirtual 280), 3) := by decide +kernel
theorem dX10_votes_72 : decode cX10_votes 72 = .ok ((.aload_n 0), 1) := by decide +kernel
theorem dX10_votes_73 : decode cX10_votes 73 = .ok ((.aload_n 0), 1) := by decide +kernel
theorem dX10_votes_74 : decode cX10_votes 74 = .ok ((.getfield 64), 3) := by decide +kernel
theorem dX10_votes_77 : decode cX10_votes 77 = .ok ((.getfield 283), 3) := by decide +kernel
theorem dX10_votes_80 : decode cX10_votes 80 = .ok ((.iload_n 3), 1) := by decide +kernel
theorem dX10_votes_81 : decode cX10_votes 81 = .ok ((.invokestatic 287), 3) := by decide +kernel
theorem dX10_votes_84 : decode cX10_votes 84 = .ok ((.aload_n 0), 1) := by decide +kernel
theorem dX10_votes_85 : decode cX10_votes 85 = .ok ((.getfield 64), 3) := by decide +kernel
theorem dX10_votes_88 : decode cX10_votes 88 = .ok ((.invokevirtual 290), 3) := by decide +kernel
theorem dX10_votes_91 : decode cX10_votes 91 = .ok ((.invokevirtual 294), 3) := by decide +kernel
theorem dX10_votes_94 : decode cX10_votes 94 = .ok (.ireturn, 1) := by decide +kernel
def p_X10_votes_31  (a1 : Int32) (a2 : Int32) (a3 : Int32)   (post : Bool → vSt → Prop) (S : vSt)  : Prop := p_X10_settled  S 5 (fun r25 S24 => post r25 S24)
def p_X10_votes   (S : vSt) (a1 : Int32) (a2 : Int32) (a3 : Int32) (post : Bool → vSt → Prop) : Prop := p_X10_areThere  S a1 a2 (fun r23 S22 => ((r23 = true → ((a3 < 0 → p_X10_votes_31 a1 a2 a3 post S22 ) ∧ (¬ a3 < 0 → p_X0_ruleOf 10 S22 0 (fun r25 S24 => ((a3 ≤ r25 → p_X0_isOwn 10 S24 a1 a2 (fun r27 S26 => ((r27 = false → p_X0_chanceOf 10 S26 a1 a2 (fun r29 S28 => p_X3_weigh  S28 r29 (fun S30 => p_X10_at_ 59 10 S30 a3 (fun r32 S31 => p_X3_whole  S31  (fun r34 S33 => p_X10_tell  S33 r32 r34 (fun r36 S35 => post r36 S35)))))) ∧ (r27 = true → p_X10_settled  S26 9 (fun r38 S37 => post r38 S37))))) ∧ (¬ a3 ≤ r25 → p_X10_votes_31 a1 a2 a3 post S24 )))))) ∧ (r23 = false → p_X10_settled  S22 2 (fun r40 S39 => post r40 S39))))
set_option maxHeartbeats 4000000 in
set_option maxRecDepth 100000 in
theorem q_X10_votes_31 {X : vX} {G : vG}  {post : Bool → vSt → Prop} (C : v_Cx X G cX10_votes RX10 4 (v_rm 3 105)) (D : v_Rx X G (v_Qz G post) (some .boolean))  {a1 : Int32} {a2 : Int32} {a3 : Int32}   : ∀ (S : vSt), p_X10_votes_31 a1 a2 a3 post S  → VJ X G S 31 [(0, .ref (G.1 0))] [] := by
  intro S  h
  refine V_aload_n C 0 dX10_votes_31 rfl rfl ?_
  refine V_iconst (v := 5) C dX10_votes_32 (by decide) ?_
  refine V_callVz (As := [.int 5]) (rest := []) C (c_X10_settled (v_l X) G  _ _ h) 0 10 (by decide) (by decide) (by decide) rfl KV_X10_settled k_RX10_116 rfl rfl rfl (Nat.le_of_ble_eq_true rfl) ⟨Nat.le_of_ble_eq_true rfl, Nat.le_of_ble_eq_true rfl⟩ dX10_votes_33 (fun r25 S24 h => ?_)
  exact V_zret C D dX10_votes_36 h
set_option maxHeartbeats 4000000 in
set_option maxRecDepth 100000 in
theorem c_X10_votes (l : Launch) (G : vG)    {S : vSt} (a1 : Int32) (a2 : Int32) (a3 : Int32) (post : Bool → vSt → Prop) (h : p_X10_votes   S a1 a2 a3 post) : Met l yX10_votes (v_ws yX10_votes cX10_votes 4 (some .boolean)) (v_rm 3 105) (v_Pc G [.ref (G.1 0), .int a1, .int a2, .int a3] S) (v_Qz G post) 0 0 (v_A G) := by
  refine v_start (by decide +kernel) (Nat.le_of_ble_eq_true rfl) (fun X hl C D => ?_)
  subst hl
  have C : v_Cx X G cX10_votes RX10 4 (v_rm 3 105) := C
  show VJ X G S 0 [(0, .ref (G.1 0)), (1, .int a1), (2, .int a2), (3, .int a3)] []
  refine V_aload_n C 0 dX10_votes_0 rfl rfl ?_
  refine V_iload_n C 1 dX10_votes_1 rfl rfl ?_
  refine V_iload_n C 2 dX10_votes_2 rfl rfl ?_
  refine V_callVz (As := [.int a1, .int a2]) (rest := []) C (c_X10_areThere (v_l X) G  _ _ _ h) 0 10 (by decide) (by decide) (by decide) rfl KV_X10_areThere k_RX10_216 rfl rfl rfl (Nat.le_of_ble_eq_true rfl) ⟨Nat.le_of_ble_eq_true rfl, Nat.le_of_ble_eq_true rfl⟩ dX10_votes_3 (fun r23 S22 h => ?_)
  refine V_ifb_ne (tgt := 15) C dX10_votes_6 (by decide) (fun c => ?_) (fun c => ?_)
  · have h := h.1 c
    refine V_iload_n C 3 dX10_votes_15 rfl rfl ?_
    refine V_if_lt (tgt := 31) C dX10_votes_16 (by decide) (fun c => ?_) (fun c => ?_)
    · have h := h.1 c
      refine V_loc (lv' := [(0, .ref (G.1 0))]) [0] rfl ?_
      exact q_X10_votes_31 C D  _ h
    · have h := h.2 c
      refine V_iload_n C 3 dX10_votes_19 rfl rfl ?_
      refine V_aload_n C 0 dX10_votes_20 rfl rfl ?_
      refine V_ga C 0 (by decide) (by decide) F_10_2 k_RX10_26 dX10_votes_21 ?_
      refine V_iconst (v := 0) C dX10_votes_24 (by decide) ?_
      refine V_callVi (As := [.int 0]) (rest := [.int a3]) C (c_X0_ruleOf (v_l X) G v_i10 _ _ h) 10 0 (by decide) (by decide) (by decide) rfl KV_X0_ruleOf k_RX10_220 rfl rfl rfl (Nat.le_of_ble_eq_true rfl) ⟨Nat.le_of_ble_eq_true rfl, Nat.le_of_ble_eq_true rfl⟩ dX10_votes_25 (fun r25 S24 h => ?_)
      refine V_icmp_le (tgt := 37) C dX10_votes_28 (by decide) (fun c => ?_) (fun c => ?_)
      · have h := h.1 c
        refine V_aload_n C 0 dX10_votes_37 rfl rfl ?_
        refine V_ga C 0 (by decide) (by decide) F_10_2 k_RX10_26 dX10_votes_38 ?_
        refine V_iload_n C 1 dX10_votes_41 rfl rfl ?_
        refine V_iload_n C 2 dX10_votes_42 rfl rfl ?_
        refine V_callVz (As := [.int a1, .int a2]) (rest := []) C (c_X0_isOwn (v_l X) G v_i10 _ _ _ h) 10 0 (by decide) (by decide) (by decide) rfl KV_X0_isOwn k_RX10_277 rfl rfl rfl (Nat.le_of_ble_eq_true rfl) ⟨Nat.le_of_ble_eq_true rfl, Nat.le_of_ble_eq_true rfl⟩ dX10_votes_43 (fun r27 S26 h => ?_)
        refine V_ifb_eq (tgt := 56) C dX10_votes_46 (by decide) (fun c => ?_) (fun c => ?_)
        · have h := h.1 c
          refine V_aload_n C 0 dX10_votes_56 rfl rfl ?_
          refine V_ga C 0 (by decide) (by decide) F_10_7 k_RX10_64 dX10_votes_57 ?_
          refine V_aload_n C 0 dX10_votes_60 rfl rfl ?_
          refine V_ga C 0 (by decide) (by decide) F_10_2 k_RX10_26 dX10_votes_61 ?_
          refine V_iload_n C 1 dX10_votes_64 rfl rfl ?_
          refine V_iload_n C 2 dX10_votes_65 rfl rfl ?_
          refine V_callVi (As := [.int a1, .int a2]) (rest := [.ref (G.1 58)]) C (c_X0_chanceOf (v_l X) G v_i10 _ _ _ h) 10 0 (by decide) (by decide) (by decide) rfl KV_X0_chanceOf k_RX10_274 rfl rfl rfl (Nat.le_of_ble_eq_true rfl) ⟨Nat.le_of_ble_eq_true rfl, Nat.le_of_ble_eq_true rfl⟩ dX10_votes_66 (fun r29 S28 h => ?_)
          refine V_callVv (As := [.int r29]) (rest := []) C (c_X3_weigh (v_l X) G  _ _ h) 58 3 (by decide) (by decide) (by decide) rfl KV_X3_weigh k_RX10_280 rfl rfl rfl (Nat.le_of_ble_eq_true rfl) ⟨Nat.le_of_ble_eq_true rfl, Nat.le_of_ble_eq_true rfl⟩ dX10_votes_69 (fun S30 h => ?_)
          refine V_aload_n C 0 dX10_votes_72 rfl rfl ?_
          refine V_aload_n C 0 dX10_votes_73 rfl rfl ?_
          refine V_ga C 0 (by decide) (by decide) F_10_7 k_RX10_64 dX10_votes_74 ?_
          refine V_ga C 58 (by decide) (by decide) F_3_1 k_RX10_283 dX10_votes_77 ?_
          refine V_iload_n C 3 dX10_votes_80 rfl rfl ?_
          refine V_callSl (As := [.ref (G.1 59), .int a3]) (rest := [.ref (G.1 0)]) C (c_X10_at_ (v_l X) G (by decide) (by decide) _ _ h) KV_X10_at_ k_RX10_287 rfl rfl rfl (Nat.le_of_ble_eq_true rfl) ⟨Nat.le_of_ble_eq_true rfl, Nat.le_of_ble_eq_true rfl⟩ dX10_votes_81 (fun r32 S31 h => ?_)
          refine V_aload_n C 0 dX10_votes_84 rfl rfl ?_
          refine V_ga C 0 (by decide) (by decide) F_10_7 k_RX10_64 dX10_votes_85 ?_
          refine V_callVl (As := []) (rest := [.long r32, .ref (G.1 0)]) C (c_X3_whole (v_l X) G  _ h) 58 3 (by decide) (by decide) (by decide) rfl KV_X3_whole k_RX10_290 rfl rfl rfl (Nat.le_of_ble_eq_true rfl) ⟨Nat.le_of_ble_eq_true rfl, Nat.le_of_ble_eq_true rfl⟩ dX10_votes_88 (fun r34 S33 h => ?_)
          refine V_callVz (As := [.long r32, .long r34]) (rest := []) C (c_X10_tell (v_l X) G  _ _ _ h) 0 10 (by decide) (by decide) (by decide) rfl KV_X10_tell k_RX10_294 rfl rfl rfl (Nat.le_of_ble_eq_true rfl) ⟨Nat.le_of_ble_eq_true rfl, Nat.le_of_ble_eq_true rfl⟩ dX10_votes_91 (fun r36 S35 h => ?_)
          exact V_zret C D dX10_votes_94 h
        · have h := h.2 c
          refine V_aload_n C 0 dX10_votes_49 rfl rfl ?_
          refine V_bipush (v := 9) C dX10_votes_50 (by decide) ?_
          refine V_callVz (As := [.int 9]) (rest := []) C (c_X10_settled (v_l X) G  _ _ h) 0 10 (by decide) (by decide) (by decide) rfl KV_X10_settled k_RX10_116 rfl rfl rfl (Nat.le_of_ble_eq_true rfl) ⟨Nat.le_of_ble_eq_true rfl, Nat.le_of_ble_eq_true rfl⟩ dX10_votes_52 (fun r38 S37 h => ?_)
          exact V_zret C D dX10_votes_55 h
      · have h := h.2 c
        refine V_loc (lv' := [(0, .ref (G.1 0))]) [0] rfl ?_
        exact q_X10_votes_31 C D  _ h
  · have h := h.2 c
    refine V_aload_n C 0 dX10_votes_9 rfl rfl ?_
    refine V_iconst (v := 2) C dX10_votes_10 (by decide) ?_
    refine V_callVz (As := [.int 2]) (rest := []) C (c_X10_settled (v_l X) G  _ _ h) 0 10 (by decide) (by decide) (by decide) rfl KV_X10_settled k_RX10_116 rfl rfl rfl (Nat.le_of_ble_eq_true rfl) ⟨Nat.le_of_ble_eq_true rfl, Nat.le_of_ble_eq_true rfl⟩ dX10_votes_11 (fun r40 S39 h => ?_)
    exact V_zret C D dX10_votes_14 h
/-! HalfAccuser.wins(II)Z -/
theorem dX10_wins_0 : decode cX10_wins 0 = .ok ((.aload_n 0), 1) := by decide +kernel
theorem dX10_wins_1 : decode cX10_wins 1 = .ok ((.iload_n 1), 1) := by decide +kernel
theorem dX10_wins_2 : decode cX10_wins 2 = .ok ((.iload_n 2), 1) := by decide +kernel
theorem dX10_wins_3 : decode cX10_wins 3 = .ok ((.invokevirtual 271), 3) := by decide +kernel
theorem dX10_wins_6 : decode cX10_wins 6 = .ok ((.istore_n 3), 1) := by decide +kernel
theorem dX10_wins_7 : decode cX10_wins 7 = .ok ((.iload_n 3), 1) := by decide +kernel
theorem dX10_wins_8 : decode cX10_wins 8 = .ok ((.ifCond .eq 9), 3) := by decide +kernel
theorem dX10_wins_11 : decode cX10_wins 11 = .ok ((.aload_n 0), 1) := by decide +kernel
theorem dX10_wins_12 : decode cX10_wins 12 = .ok ((.iload_n 3), 1) := by decide +kernel
theorem dX10_wins_13 : decode cX10_wins 13 = .ok ((.invokevirtual 116), 3) := by decide +kernel
theorem dX10_wins_16 : decode cX10_wins 16 = .ok (.ireturn, 1) := by decide +kernel
theorem dX10_wins_17 : decode cX10_wins 17 = .ok ((.aload_n 0), 1) := by decide +kernel
theorem dX10_wins_18 : decode cX10_wins 18 = .ok ((.getfield 64), 3) := by decide +kernel
theorem dX10_wins_21 : decode cX10_wins 21 = .ok ((.aload_n 0), 1) := by decide +kernel
theorem dX10_wins_22 : decode cX10_wins 22 = .ok ((.getfield 26), 3) := by decide +kernel
theorem dX10_wins_25 : decode cX10_wins 25 = .ok ((.iload_n 1), 1) := by decide +kernel
theorem dX10_wins_26 : decode cX10_wins 26 = .ok ((.iload_n 2), 1) := by decide +kernel
theorem dX10_wins_27 : decode cX10_wins 27 = .ok ((.invokevirtual 274), 3) := by decide +kernel
theorem dX10_wins_30 : decode cX10_wins 30 = .ok ((.invokevirtual 280), 3) := by decide +kernel
theorem dX10_wins_33 : decode cX10_wins 33 = .ok ((.aload_n 0), 1) := by decide +kernel
theorem dX10_wins_34 : decode cX10_wins 34 = .ok ((.aload_n 0), 1) := by decide +kernel
theorem dX10_wins_35 : decode cX10_wins 35 = .ok ((.getfield 64), 3) := by decide +kernel
theorem dX10_wins_38 : decode cX10_wins 38 = .ok ((.invokevirtual 298), 3) := by decide +kernel
theorem dX10_wins_41 : decode cX10_wins 41 = .ok ((.aload_n 0), 1) := by decide +kernel
theorem dX10_wins_42 : decode cX10_wins 42 = .ok ((.getfield 64), 3) := by decide +kernel
theorem dX10_wins_45 : decode cX10_wins 45 = .ok ((.invokevirtual 290), 3) := by decide +kernel
theorem dX10_wins_48 : decode cX10_wins 48 = .ok ((.invokevirtual 294), 3) := by decide +kernel
theorem dX10_wins_51 : decode cX10_wins 51 = .ok (.ireturn, 1) := by decide +kernel
def p_X10_wins   (S : vSt) (a1 : Int32) (a2 : Int32) (post : Bool → vSt → Prop) : Prop := p_X10_voteStatus  S a1 a2 (fun r15 S14 => ((r15 = 0 → p_X0_chanceOf 10 S14 a1 a2 (fun r17 S16 => p_X3_weigh  S16 r17 (fun S18 => p_X3_waysToWin  S18  (fun r20 S19 => p_X3_whole  S19  (fun r22 S21 => p_X10_tell  S21 r20 r22 (fun r24 S23 => post r24 S23)))))) ∧ (¬ r15 = 0 → p_X10_settled  S14 r15 (fun r26 S25 => post r26 S25))))
set_option maxHeartbeats 4000000 in
set_option maxRecDepth 100000 in
theorem c_X10_wins (l : Launch) (G : vG)    {S : vSt} (a1 : Int32) (a2 : Int32) (post : Bool → vSt → Prop) (h : p_X10_wins   S a1 a2 post) : Met l yX10_wins (v_ws yX10_wins cX10_wins 4 (some .boolean)) (v_rm 3 106) (v_Pc G [.ref (G.1 0), .int a1, .int a2] S) (v_Qz G post) 0 0 (v_A G) := by
  refine v_start (by decide +kernel) (Nat.le_of_ble_eq_true rfl) (fun X hl C D => ?_)
  subst hl
  have C : v_Cx X G cX10_wins RX10 4 (v_rm 3 106) := C
  show VJ X G S 0 [(0, .ref (G.1 0)), (1, .int a1), (2, .int a2)] []
  refine V_aload_n C 0 dX10_wins_0 rfl rfl ?_
  refine V_iload_n C 1 dX10_wins_1 rfl rfl ?_
  refine V_iload_n C 2 dX10_wins_2 rfl rfl ?_
  refine V_callVi (As := [.int a1, .int a2]) (rest := []) C (c_X10_voteStatus (v_l X) G  _ _ _ h) 0 10 (by decide) (by decide) (by decide) rfl KV_X10_voteStatus k_RX10_271 rfl rfl rfl (Nat.le_of_ble_eq_true rfl) ⟨Nat.le_of_ble_eq_true rfl, Nat.le_of_ble_eq_true rfl⟩ dX10_wins_3 (fun r15 S14 h => ?_)
  refine V_istore_n (lv' := [(0, .ref (G.1 0)), (1, .int a1), (2, .int a2), (3, .int r15)]) C [1, 2, 3, 0] dX10_wins_6 rfl (by decide) rfl ?_
  refine V_iload_n C 3 dX10_wins_7 rfl rfl ?_
  refine V_if_eq (tgt := 17) C dX10_wins_8 (by decide) (fun c => ?_) (fun c => ?_)
  · have h := h.1 c
    refine V_aload_n C 0 dX10_wins_17 rfl rfl ?_
    refine V_ga C 0 (by decide) (by decide) F_10_7 k_RX10_64 dX10_wins_18 ?_
    refine V_aload_n C 0 dX10_wins_21 rfl rfl ?_
    refine V_ga C 0 (by decide) (by decide) F_10_2 k_RX10_26 dX10_wins_22 ?_
    refine V_iload_n C 1 dX10_wins_25 rfl rfl ?_
    refine V_iload_n C 2 dX10_wins_26 rfl rfl ?_
    refine V_callVi (As := [.int a1, .int a2]) (rest := [.ref (G.1 58)]) C (c_X0_chanceOf (v_l X) G v_i10 _ _ _ h) 10 0 (by decide) (by decide) (by decide) rfl KV_X0_chanceOf k_RX10_274 rfl rfl rfl (Nat.le_of_ble_eq_true rfl) ⟨Nat.le_of_ble_eq_true rfl, Nat.le_of_ble_eq_true rfl⟩ dX10_wins_27 (fun r17 S16 h => ?_)
    refine V_callVv (As := [.int r17]) (rest := []) C (c_X3_weigh (v_l X) G  _ _ h) 58 3 (by decide) (by decide) (by decide) rfl KV_X3_weigh k_RX10_280 rfl rfl rfl (Nat.le_of_ble_eq_true rfl) ⟨Nat.le_of_ble_eq_true rfl, Nat.le_of_ble_eq_true rfl⟩ dX10_wins_30 (fun S18 h => ?_)
    refine V_aload_n C 0 dX10_wins_33 rfl rfl ?_
    refine V_aload_n C 0 dX10_wins_34 rfl rfl ?_
    refine V_ga C 0 (by decide) (by decide) F_10_7 k_RX10_64 dX10_wins_35 ?_
    refine V_callVl (As := []) (rest := [.ref (G.1 0)]) C (c_X3_waysToWin (v_l X) G  _ h) 58 3 (by decide) (by decide) (by decide) rfl KV_X3_waysToWin k_RX10_298 rfl rfl rfl (Nat.le_of_ble_eq_true rfl) ⟨Nat.le_of_ble_eq_true rfl, Nat.le_of_ble_eq_true rfl⟩ dX10_wins_38 (fun r20 S19 h => ?_)
    refine V_aload_n C 0 dX10_wins_41 rfl rfl ?_
    refine V_ga C 0 (by decide) (by decide) F_10_7 k_RX10_64 dX10_wins_42 ?_
    refine V_callVl (As := []) (rest := [.long r20, .ref (G.1 0)]) C (c_X3_whole (v_l X) G  _ h) 58 3 (by decide) (by decide) (by decide) rfl KV_X3_whole k_RX10_290 rfl rfl rfl (Nat.le_of_ble_eq_true rfl) ⟨Nat.le_of_ble_eq_true rfl, Nat.le_of_ble_eq_true rfl⟩ dX10_wins_45 (fun r22 S21 h => ?_)
    refine V_callVz (As := [.long r20, .long r22]) (rest := []) C (c_X10_tell (v_l X) G  _ _ _ h) 0 10 (by decide) (by decide) (by decide) rfl KV_X10_tell k_RX10_294 rfl rfl rfl (Nat.le_of_ble_eq_true rfl) ⟨Nat.le_of_ble_eq_true rfl, Nat.le_of_ble_eq_true rfl⟩ dX10_wins_48 (fun r24 S23 h => ?_)
    exact V_zret C D dX10_wins_51 h
  · have h := h.2 c
    refine V_aload_n C 0 dX10_wins_11 rfl rfl ?_
    refine V_iload_n C 3 dX10_wins_12 rfl rfl ?_
    refine V_callVz (As := [.int r15]) (rest := []) C (c_X10_settled (v_l X) G  _ _ h) 0 10 (by decide) (by decide) (by decide) rfl KV_X10_settled k_RX10_116 rfl rfl rfl (Nat.le_of_ble_eq_true rfl) ⟨Nat.le_of_ble_eq_true rfl, Nat.le_of_ble_eq_true rfl⟩ dX10_wins_13 (fun r26 S25 h => ?_)
    exact V_zret C D dX10_wins_16 h
/-! HalfAccuser.owes(II)Z -/
theorem dX10_owes_0 : decode cX10_owes 0 = .ok ((.aload_n 0), 1) := by decide +kernel
theorem dX10_owes_1 : decode cX10_owes 1 = .ok ((.iload_n 1), 1) := by decide +kernel
theorem dX10_owes_2 : decode cX10_owes 2 = .ok ((.iload_n 2), 1) := by decide +kernel
theorem dX10_owes_3 : decode cX10_owes 3 = .ok ((.invokevirtual 271), 3) := by decide +kernel
theorem dX10_owes_6 : decode cX10_owes 6 = .ok ((.istore_n 3), 1) := by decide +kernel
theorem dX10_owes_7 : decode cX10_owes 7 = .ok ((.iload_n 3), 1) := by decide +kernel
theorem dX10_owes_8 : decode cX10_owes 8 = .ok ((.ifCond .eq 9), 3) := by decide +kernel
theorem dX10_owes_11 : decode cX10_owes 11 = .ok ((.aload_n 0), 1) := by decide +kernel
theorem dX10_owes_12 : decode cX10_owes 12 = .ok ((.iload_n 3), 1) := by decide +kernel
theorem dX10_owes_13 : decode cX10_owes 13 = .ok ((.invokevirtual 116), 3) := by decide +kernel
theorem dX10_owes_16 : decode cX10_owes 16 = .ok (.ireturn, 1) := by decide +kernel
theorem dX10_owes_17 : decode cX10_owes 17 = .ok ((.aload_n 0), 1) := by decide +kernel
theorem dX10_owes_18 : decode cX10_owes 18 = .ok ((.getfield 64), 3) := by decide +kernel
theorem dX10_owes_21 : decode cX10_owes 21 = .ok ((.aload_n 0), 1) := by decide +kernel
theorem dX10_owes_22 : decode cX10_owes 22 = .ok ((.getfield 26), 3) := by decide +kernel
theorem dX10_owes_25 : decode cX10_owes 25 = .ok ((.iload_n 1), 1) := by decide +kernel
theorem dX10_owes_26 : decode cX10_owes 26 = .ok ((.iload_n 2), 1) := by decide +kernel
theorem dX10_owes_27 : decode cX10_owes 27 = .ok ((.invokevirtual 274), 3) := by decide +kernel
theorem dX10_owes_30 : decode cX10_owes 30 = .ok ((.invokevirtual 280), 3) := by decide +kernel
theorem dX10_owes_33 : decode cX10_owes 33 = .ok ((.aload_n 0), 1) := by decide +kernel
theorem dX10_owes_34 : decode cX10_owes 34 = .ok ((.aload_n 0), 1) := by decide +kernel
theorem dX10_owes_35 : decode cX10_owes 35 = .ok ((.getfield 64), 3) := by decide +kernel
theorem dX10_owes_38 : decode cX10_owes 38 = .ok ((.invokevirtual 301), 3) := by decide +kernel
theorem dX10_owes_41 : decode cX10_owes 41 = .ok ((.aload_n 0), 1) := by decide +kernel
theorem dX10_owes_42 : decode cX10_owes 42 = .ok ((.getfield 64), 3) := by decide +kernel
theorem dX10_owes_45 : decode cX10_owes 45 = .ok ((.invokevirtual 290), 3) := by decide +kernel
theorem dX10_owes_48 : decode cX10_owes 48 = .ok ((.invokevirtual 294), 3) := by decide +kernel
theorem dX10_owes_51 : decode cX10_owes 51 = .ok (.ireturn, 1) := by decide +kernel
def p_X10_owes   (S : vSt) (a1 : Int32) (a2 : Int32) (post : Bool → vSt → Prop) : Prop := p_X10_voteStatus  S a1 a2 (fun r15 S14 => ((r15 = 0 → p_X0_chanceOf 10 S14 a1 a2 (fun r17 S16 => p_X3_weigh  S16 r17 (fun S18 => p_X3_waysToOwe  S18  (fun r20 S19 => p_X3_whole  S19  (fun r22 S21 => p_X10_tell  S21 r20 r22 (fun r24 S23 => post r24 S23)))))) ∧ (¬ r15 = 0 → p_X10_settled  S14 r15 (fun r26 S25 => post r26 S25))))
set_option maxHeartbeats 4000000 in
set_option maxRecDepth 100000 in
theorem c_X10_owes (l : Launch) (G : vG)    {S : vSt} (a1 : Int32) (a2 : Int32) (post : Bool → vSt → Prop) (h : p_X10_owes   S a1 a2 post) : Met l yX10_owes (v_ws yX10_owes cX10_owes 4 (some .boolean)) (v_rm 3 106) (v_Pc G [.ref (G.1 0), .int a1, .int a2] S) (v_Qz G post) 0 0 (v_A G) := by
  refine v_start (by decide +kernel) (Nat.le_of_ble_eq_true rfl) (fun X hl C D => ?_)
  subst hl
  have C : v_Cx X G cX10_owes RX10 4 (v_rm 3 106) := C
  show VJ X G S 0 [(0, .ref (G.1 0)), (1, .int a1), (2, .int a2)] []
  refine V_aload_n C 0 dX10_owes_0 rfl rfl ?_
  refine V_iload_n C 1 dX10_owes_1 rfl rfl ?_
  refine V_iload_n C 2 dX10_owes_2 rfl rfl ?_
  refine V_callVi (As := [.int a1, .int a2]) (rest := []) C (c_X10_voteStatus (v_l X) G  _ _ _ h) 0 10 (by decide) (by decide) (by decide) rfl KV_X10_voteStatus k_RX10_271 rfl rfl rfl (Nat.le_of_ble_eq_true rfl) ⟨Nat.le_of_ble_eq_true rfl, Nat.le_of_ble_eq_true rfl⟩ dX10_owes_3 (fun r15 S14 h => ?_)
  refine V_istore_n (lv' := [(0, .ref (G.1 0)), (1, .int a1), (2, .int a2), (3, .int r15)]) C [1, 2, 3, 0] dX10_owes_6 rfl (by decide) rfl ?_
  refine V_iload_n C 3 dX10_owes_7 rfl rfl ?_
  refine V_if_eq (tgt := 17) C dX10_owes_8 (by decide) (fun c => ?_) (fun c => ?_)
  · have h := h.1 c
    refine V_aload_n C 0 dX10_owes_17 rfl rfl ?_
    refine V_ga C 0 (by decide) (by decide) F_10_7 k_RX10_64 dX10_owes_18 ?_
    refine V_aload_n C 0 dX10_owes_21 rfl rfl ?_
    refine V_ga C 0 (by decide) (by decide) F_10_2 k_RX10_26 dX10_owes_22 ?_
    refine V_iload_n C 1 dX10_owes_25 rfl rfl ?_
    refine V_iload_n C 2 dX10_owes_26 rfl rfl ?_
    refine V_callVi (As := [.int a1, .int a2]) (rest := [.ref (G.1 58)]) C (c_X0_chanceOf (v_l X) G v_i10 _ _ _ h) 10 0 (by decide) (by decide) (by decide) rfl KV_X0_chanceOf k_RX10_274 rfl rfl rfl (Nat.le_of_ble_eq_true rfl) ⟨Nat.le_of_ble_eq_true rfl, Nat.le_of_ble_eq_true rfl⟩ dX10_owes_27 (fun r17 S16 h => ?_)
    refine V_callVv (As := [.int r17]) (rest := []) C (c_X3_weigh (v_l X) G  _ _ h) 58 3 (by decide) (by decide) (by decide) rfl KV_X3_weigh k_RX10_280 rfl rfl rfl (Nat.le_of_ble_eq_true rfl) ⟨Nat.le_of_ble_eq_true rfl, Nat.le_of_ble_eq_true rfl⟩ dX10_owes_30 (fun S18 h => ?_)
    refine V_aload_n C 0 dX10_owes_33 rfl rfl ?_
    refine V_aload_n C 0 dX10_owes_34 rfl rfl ?_
    refine V_ga C 0 (by decide) (by decide) F_10_7 k_RX10_64 dX10_owes_35 ?_
    refine V_callVl (As := []) (rest := [.ref (G.1 0)]) C (c_X3_waysToOwe (v_l X) G  _ h) 58 3 (by decide) (by decide) (by decide) rfl KV_X3_waysToOwe k_RX10_301 rfl rfl rfl (Nat.le_of_ble_eq_true rfl) ⟨Nat.le_of_ble_eq_true rfl, Nat.le_of_ble_eq_true rfl⟩ dX10_owes_38 (fun r20 S19 h => ?_)
    refine V_aload_n C 0 dX10_owes_41 rfl rfl ?_
    refine V_ga C 0 (by decide) (by decide) F_10_7 k_RX10_64 dX10_owes_42 ?_
    refine V_callVl (As := []) (rest := [.long r20, .ref (G.1 0)]) C (c_X3_whole (v_l X) G  _ h) 58 3 (by decide) (by decide) (by decide) rfl KV_X3_whole k_RX10_290 rfl rfl rfl (Nat.le_of_ble_eq_true rfl) ⟨Nat.le_of_ble_eq_true rfl, Nat.le_of_ble_eq_true rfl⟩ dX10_owes_45 (fun r22 S21 h => ?_)
    refine V_callVz (As := [.long r20, .long r22]) (rest := []) C (c_X10_tell (v_l X) G  _ _ _ h) 0 10 (by decide) (by decide) (by decide) rfl KV_X10_tell k_RX10_294 rfl rfl rfl (Nat.le_of_ble_eq_true rfl) ⟨Nat.le_of_ble_eq_true rfl, Nat.le_of_ble_eq_true rfl⟩ dX10_owes_48 (fun r24 S23 h => ?_)
    exact V_zret C D dX10_owes_51 h
  · have h := h.2 c
    refine V_aload_n C 0 dX10_owes_11 rfl rfl ?_
    refine V_iload_n C 3 dX10_owes_12 rfl rfl ?_
    refine V_callVz (As := [.int r15]) (rest := []) C (c_X10_settled (v_l X) G  _ _ h) 0 10 (by decide) (by decide) (by decide) rfl KV_X10_settled k_RX10_116 rfl rfl rfl (Nat.le_of_ble_eq_true rfl) ⟨Nat.le_of_ble_eq_true rfl, Nat.le_of_ble_eq_true rfl⟩ dX10_owes_13 (fun r26 S25 h => ?_)
    exact V_zret C D dX10_owes_16 h
/-! HalfAccuser.meanStatus(II)I -/
theorem dX10_meanStatus_0 : decode cX10_meanStatus 0 = .ok ((.aload_n 0), 1) := by decide +kernel
theorem dX10_meanStatus_1 : decode cX10_meanStatus 1 = .ok ((.iload_n 1), 1) := by decide +kernel
theorem dX10_meanStatus_2 : decode cX10_meanStatus 2 = .ok ((.iload_n 2), 1) := by decide +kernel
theorem dX10_meanStatus_3 : decode cX10_meanStatus 3 = .ok ((.invokevirtual 271), 3) := by decide +kernel
theorem dX10_meanStatus_6 : decode cX10_meanStatus 6 = .ok ((.istore_n 3), 1) := by decide +kernel
theorem dX10_meanStatus_7 : decode cX10_meanStatus 7 = .ok ((.iload_n 3), 1) := by decide +kernel
theorem dX10_meanStatus_8 : decode cX10_meanStatus 8 = .ok ((.ifCond .eq 5), 3) := by decide +kernel
theorem dX10_meanStatus_11 : decode cX10_meanStatus 11 = .ok ((.iload_n 3), 1) := by decide +kernel
theorem dX10_meanStatus_12 : decode cX10_meanStatus 12 = .ok (.ireturn, 1) := by decide +kernel
theorem dX10_meanStatus_13 : decode cX10_meanStatus 13 = .ok ((.aload_n 0), 1) := by decide +kernel
theorem dX10_meanStatus_14 : decode cX10_meanStatus 14 = .ok ((.getfield 26), 3) := by decide +kernel
theorem dX10_meanStatus_17 : decode cX10_meanStatus 17 = .ok ((.iload_n 1), 1) := by decide +kernel
theorem dX10_meanStatus_18 : decode cX10_meanStatus 18 = .ok ((.invokevirtual 452), 3) := by decide +kernel
theorem dX10_meanStatus_21 : decode cX10_meanStatus 21 = .ok ((.ifCond .eq 8), 3) := by decide +kernel
theorem dX10_meanStatus_24 : decode cX10_meanStatus 24 = .ok ((.bipush 9), 2) := by decide +kernel
theorem dX10_meanStatus_26 : decode cX10_meanStatus 26 = .ok ((.goto 4), 3) := by decide +kernel
theorem dX10_meanStatus_29 : decode cX10_meanStatus 29 = .ok ((.iconst 0), 1) := by decide +kernel
theorem dX10_meanStatus_30 : decode cX10_meanStatus 30 = .ok (.ireturn, 1) := by decide +kernel
def p_X10_meanStatus   (S : vSt) (a1 : Int32) (a2 : Int32) (post : Int32 → vSt → Prop) : Prop := p_X10_voteStatus  S a1 a2 (fun r6 S5 => ((r6 = 0 → p_X0_isRuined 10 S5 a1 (fun r8 S7 => ((r8 = false → post 0 S7) ∧ (r8 = true → post 9 S7)))) ∧ (¬ r6 = 0 → post r6 S5)))
set_option maxHeartbeats 4000000 in
set_option maxRecDepth 100000 in
theorem c_X10_meanStatus (l : Launch) (G : vG)    {S : vSt} (a1 : Int32) (a2 : Int32) (post : Int32 → vSt → Prop) (h : p_X10_meanStatus   S a1 a2 post) : Met l yX10_meanStatus (v_ws yX10_meanStatus cX10_meanStatus 4 (some .int)) (v_rm 3 105) (v_Pc G [.ref (G.1 0), .int a1, .int a2] S) (v_Qi G post) 0 0 (v_A G) := by
  refine v_start (by decide +kernel) (Nat.le_of_ble_eq_true rfl) (fun X hl C D => ?_)
  subst hl
  have C : v_Cx X G cX10_meanStatus RX10 4 (v_rm 3 105) := C
  show VJ X G S 0 [(0, .ref (G.1 0)), (1, .int a1), (2, .int a2)] []
  refine V_aload_n C 0 dX10_meanStatus_0 rfl rfl ?_
  refine V_iload_n C 1 dX10_meanStatus_1 rfl rfl ?_
  refine V_iload_n C 2 dX10_meanStatus_2 rfl rfl ?_
  refine V_callVi (As := [.int a1, .int a2]) (rest := []) C (c_X10_voteStatus (v_l X) G  _ _ _ h) 0 10 (by decide) (by decide) (by decide) rfl KV_X10_voteStatus k_RX10_271 rfl rfl rfl (Nat.le_of_ble_eq_true rfl) ⟨Nat.le_of_ble_eq_true rfl, Nat.le_of_ble_eq_true rfl⟩ dX10_meanStatus_3 (fun r6 S5 h => ?_)
  refine V_istore_n (lv' := [(0, .ref (G.1 0)), (1, .int a1), (2, .int a2), (3, .int r6)]) C [1, 2, 3, 0] dX10_meanStatus_6 rfl (by decide) rfl ?_
  refine V_iload_n C 3 dX10_meanStatus_7 rfl rfl ?_
  refine V_if_eq (tgt := 13) C dX10_meanStatus_8 (by decide) (fun c => ?_) (fun c => ?_)
  · have h := h.1 c
    refine V_aload_n C 0 dX10_meanStatus_13 rfl rfl ?_
    refine V_ga C 0 (by decide) (by decide) F_10_2 k_RX10_26 dX10_meanStatus_14 ?_
    refine V_iload_n C 1 dX10_meanStatus_17 rfl rfl ?_
    refine V_callVz (As := [.int a1]) (rest := []) C (c_X0_isRuined (v_l X) G v_i10 _ _ h) 10 0 (by decide) (by decide) (by decide) rfl KV_X0_isRuined k_RX10_452 rfl rfl rfl (Nat.le_of_ble_eq_true rfl) ⟨Nat.le_of_ble_eq_true rfl, Nat.le_of_ble_eq_true rfl⟩ dX10_meanStatus_18 (fun r8 S7 h => ?_)
    refine V_ifb_eq (tgt := 29) C dX10_meanStatus_21 (by decide) (fun c => ?_) (fun c => ?_)
    · have h := h.1 c
      refine V_iconst (v := 0) C dX10_meanStatus_29 (by decide) ?_
      exact V_iret C D dX10_meanStatus_30 h
    · have h := h.2 c
      refine V_bipush (v := 9) C dX10_meanStatus_24 (by decide) ?_
      refine V_goto (tgt := 30) C dX10_meanStatus_26 (by decide) ?_
      exact V_iret C D dX10_meanStatus_30 h
  · have h := h.2 c
    refine V_iload_n C 3 dX10_meanStatus_11 rfl rfl ?_
    exact V_iret C D dX10_meanStatus_12 h
/-! HalfAccuser.gameStatus(IIII)I -/
theorem dX10_gameStatus_0 : decode cX10_gameStatus 0 = .ok ((.aload_n 0), 1) := by decide +kernel
theorem dX10_gameStatus_1 : decode cX10_gameStatus 1 = .ok ((.getfield 26), 3) := by decide +kernel
theorem dX10_gameStatus_4 : decode cX10_gameStatus 4 = .ok ((.iload_n 1), 1) := by decide +kernel
theorem dX10_gameStatus_5 : decode cX10_gameStatus 5 = .ok ((.invokevirtual 188), 3) := by decide +kernel
theorem dX10_gameStatus_8 : decode cX10_gameStatus 8 = .ok ((.ifCond .eq 14), 3) := by decide +kernel
theorem dX10_gameStatus_11 : decode cX10_gameStatus 11 = .ok ((.aload_n 0), 1) := by decide +kernel
theorem dX10_gameStatus_12 : decode cX10_gameStatus 12 = .ok ((.getfield 26), 3) := by decide +kernel
theorem dX10_gameStatus_15 : decode cX10_gameStatus 15 = .ok ((.iload_n 2), 1) := by decide +kernel
theorem dX10_gameStatus_16 : decode cX10_gameStatus 16 = .ok ((.invokevirtual 188), 3) := by decide +kernel
theorem dX10_gameStatus_19 : decode cX10_gameStatus 19 = .ok ((.ifCond .ne 5), 3) := by decide +kernel
theorem dX10_gameStatus_22 : decode cX10_gameStatus 22 = .ok ((.iconst 2), 1) := by decide +kernel
theorem dX10_gameStatus_23 : decode cX10_gameStatus 23 = .ok (.ireturn, 1) := by decide +kernel
theorem dX10_gameStatus_24 : decode cX10_gameStatus 24 = .ok ((.iload_n 1), 1) := by decide +kernel
theorem dX10_gameStatus_25 : decode cX10_gameStatus 25 = .ok ((.iload_n 2), 1) := by decide +kernel
theorem dX10_gameStatus_26 : decode cX10_gameStatus 26 = .ok ((.if_icmp .eq 14), 3) := by decide +kernel
theorem dX10_gameStatus_29 : decode cX10_gameStatus 29 = .ok ((.iload_n 3), 1) := by decide +kernel
theorem dX10_gameStatus_30 : decode cX10_gameStatus 30 = .ok ((.iload 4), 2) := by decide +kernel
theorem dX10_gameStatus_32 : decode cX10_gameStatus 32 = .ok ((.if_icmp .lt 8), 3) := by decide +kernel
theorem dX10_gameStatus_35 : decode cX10_gameStatus 35 = .ok ((.iload_n 3), 1) := by decide +kernel
theorem dX10_gameStatus_36 : decode cX10_gameStatus 36 = .ok ((.iconst 3), 1) := by decide +kernel
theorem dX10_gameStatus_37 : decode cX10_gameStatus 37 = .ok ((.if_icmp .le 7), 3) := by decide +kernel
theorem dX10_gameStatus_40 : decode cX10_gameStatus 40 = .ok ((.iconst 5), 1) := by decide +kernel
theorem dX10_gameStatus_41 : decode cX10_gameStatus 41 = .ok ((.goto 4), 3) := by decide +kernel
theorem dX10_gameStatus_44 : decode cX10_gameStatus 44 = .ok ((.iconst 0), 1) := by decide +kernel
theorem dX10_gameStatus_45 : decode cX10_gameStatus 45 = .ok (.ireturn, 1) := by decide +kernel
def p_X10_gameStatus   (S : vSt) (a1 : Int32) (a2 : Int32) (a3 : Int32) (a4 : Int32) (post : Int32 → vSt → Prop) : Prop := p_X0_hasPerson 10 S a1 (fun r6 S5 => ((r6 = false → post 2 S5) ∧ (r6 = true → p_X0_hasPerson 10 S5 a2 (fun r8 S7 => ((r8 = true → ((a1 = a2 → post 5 S7) ∧ (¬ a1 = a2 → ((a3 < a4 → post 5 S7) ∧ (¬ a3 < a4 → ((a3 ≤ 3 → post 0 S7) ∧ (¬ a3 ≤ 3 → post 5 S7))))))) ∧ (r8 = false → post 2 S7))))))
set_option maxHeartbeats 4000000 in
set_option maxRecDepth 100000 in
theorem c_X10_gameStatus (l : Launch) (G : vG)    {S : vSt} (a1 : Int32) (a2 : Int32) (a3 : Int32) (a4 : Int32) (post : Int32 → vSt → Prop) (h : p_X10_gameStatus   S a1 a2 a3 a4 post) : Met l yX10_gameStatus (v_ws yX10_gameStatus cX10_gameStatus 5 (some .int)) (v_rm 1 61) (v_Pc G [.ref (G.1 0), .int a1, .int a2, .int a3, .int a4] S) (v_Qi G post) 0 0 (v_A G) := by
  refine v_start (by decide +kernel) (Nat.le_of_ble_eq_true rfl) (fun X hl C D => ?_)
  subst hl
  have C : v_Cx X G cX10_gameStatus RX10 5 (v_rm 1 61) := C
  show VJ X G S 0 [(0, .ref (G.1 0)), (1, .int a1), (2, .int a2), (3, .int a3), (4, .int a4)] []
  refine V_aload_n C 0 dX10_gameStatus_0 rfl rfl ?_
  refine V_ga C 0 (by decide) (by decide) F_10_2 k_RX10_26 dX10_gameStatus_1 ?_
  refine V_iload_n C 1 dX10_gameStatus_4 rfl rfl ?_
  refine V_callVz (As := [.int a1]) (rest := []) C (c_X0_hasPerson (v_l X) G v_i10 _ _ h) 10 0 (by decide) (by decide) (by decide) rfl KV_X0_hasPerson k_RX10_188 rfl rfl rfl (Nat.le_of_ble_eq_true rfl) ⟨Nat.le_of_ble_eq_true rfl, Nat.le_of_ble_eq_true rfl⟩ dX10_gameStatus_5 (fun r6 S5 h => ?_)
  refine V_ifb_eq (tgt := 22) C dX10_gameStatus_8 (by decide) (fun c => ?_) (fun c => ?_)
  · have h := h.1 c
    refine V_iconst (v := 2) C dX10_gameStatus_22 (by decide) ?_
    exact V_iret C D dX10_gameStatus_23 h
  · have h := h.2 c
    refine V_aload_n C 0 dX10_gameStatus_11 rfl rfl ?_
    refine V_ga C 0 (by decide) (by decide) F_10_2 k_RX10_26 dX10_gameStatus_12 ?_
    refine V_iload_n C 2 dX10_gameStatus_15 rfl rfl ?_
    refine V_callVz (As := [.int a2]) (rest := []) C (c_X0_hasPerson (v_l X) G v_i10 _ _ h) 10 0 (by decide) (by decide) (by decide) rfl KV_X0_hasPerson k_RX10_188 rfl rfl rfl (Nat.le_of_ble_eq_true rfl) ⟨Nat.le_of_ble_eq_true rfl, Nat.le_of_ble_eq_true rfl⟩ dX10_gameStatus_16 (fun r8 S7 h => ?_)
    refine V_ifb_ne (tgt := 24) C dX10_gameStatus_19 (by decide) (fun c => ?_) (fun c => ?_)
    · have h := h.1 c
      refine V_iload_n C 1 dX10_gameStatus_24 rfl rfl ?_
      refine V_iload_n C 2 dX10_gameStatus_25 rfl rfl ?_
      refine V_icmp_eq (tgt := 40) C dX10_gameStatus_26 (by decide) (fun c => ?_) (fun c => ?_)
      · have h := h.1 c
        refine V_iconst (v := 5) C dX10_gameStatus_40 (by decide) ?_
        refine V_goto (tgt := 45) C dX10_gameStatus_41 (by decide) ?_
        exact V_iret C D dX10_gameStatus_45 h
      · have h := h.2 c
        refine V_iload_n C 3 dX10_gameStatus_29 rfl rfl ?_
        refine V_iload C 4 dX10_gameStatus_30 rfl ?_
        refine V_icmp_lt (tgt := 40) C dX10_gameStatus_32 (by decide) (fun c => ?_) (fun c => ?_)
        · have h := h.1 c
          refine V_iconst (v := 5) C dX10_gameStatus_40 (by decide) ?_
          refine V_goto (tgt := 45) C dX10_gameStatus_41 (by decide) ?_
          exact V_iret C D dX10_gameStatus_45 h
        · have h := h.2 c
          refine V_iload_n C 3 dX10_gameStatus_35 rfl rfl ?_
          refine V_iconst (v := 3) C dX10_gameStatus_36 (by decide) ?_
          refine V_icmp_le (tgt := 44) C dX10_gameStatus_37 (by decide) (fun c => ?_) (fun c => ?_)
          · have h := h.1 c
            refine V_iconst (v := 0) C dX10_gameStatus_44 (by decide) ?_
            exact V_iret C D dX10_gameStatus_45 h
          · have h := h.2 c
            refine V_iconst (v := 5) C dX10_gameStatus_40 (by decide) ?_
            refine V_goto (tgt := 45) C dX10_gameStatus_41 (by decide) ?_
            exact V_iret C D dX10_gameStatus_45 h
    · have h := h.2 c
      refine V_iconst (v := 2) C dX10_gameStatus_22 (by decide) ?_
      exact V_iret C D dX10_gameStatus_23 h
/-! HalfAccuser.club(I)I -/
theorem dX10_club_0 : decode cX10_club 0 = .ok ((.aload_n 0), 1) := by decide +kernel
theorem dX10_club_1 : decode cX10_club 1 = .ok ((.getfield 26), 3) := by decide +kernel
theorem dX10_club_4 : decode cX10_club 4 = .ok ((.iload_n 1), 1) := by decide +kernel
theorem dX10_club_5 : decode cX10_club 5 = .ok ((.invokevirtual 377), 3) := by decide +kernel
theorem dX10_club_8 : decode cX10_club 8 = .ok ((.ifCond .ne 9), 3) := by decide +kernel
theorem dX10_club_11 : decode cX10_club 11 = .ok ((.aload_n 0), 1) := by decide +kernel
theorem dX10_club_12 : decode cX10_club 12 = .ok ((.iconst 5), 1) := by decide +kernel
theorem dX10_club_13 : decode cX10_club 13 = .ok ((.invokevirtual 153), 3) := by decide +kernel
theorem dX10_club_16 : decode cX10_club 16 = .ok (.ireturn, 1) := by decide +kernel
theorem dX10_club_17 : decode cX10_club 17 = .ok ((.aload_n 0), 1) := by decide +kernel
theorem dX10_club_18 : decode cX10_club 18 = .ok ((.getfield 64), 3) := by decide +kernel
theorem dX10_club_21 : decode cX10_club 21 = .ok ((.invokevirtual 365), 3) := by decide +kernel
theorem dX10_club_24 : decode cX10_club 24 = .ok ((.aload_n 0), 1) := by decide +kernel
theorem dX10_club_25 : decode cX10_club 25 = .ok ((.getfield 73), 3) := by decide +kernel
theorem dX10_club_28 : decode cX10_club 28 = .ok ((.invokevirtual 380), 3) := by decide +kernel
theorem dX10_club_31 : decode cX10_club 31 = .ok ((.aload_n 0), 1) := by decide +kernel
theorem dX10_club_32 : decode cX10_club 32 = .ok ((.aload_n 0), 1) := by decide +kernel
theorem dX10_club_33 : decode cX10_club 33 = .ok ((.getfield 73), 3) := by decide +kernel
theorem dX10_club_36 : decode cX10_club 36 = .ok ((.iload_n 1), 1) := by decide +kernel
theorem dX10_club_37 : decode cX10_club 37 = .ok ((.invokevirtual 383), 3) := by decide +kernel
theorem dX10_club_40 : decode cX10_club 40 = .ok ((.invokevirtual 173), 3) := by decide +kernel
theorem dX10_club_43 : decode cX10_club 43 = .ok (.ireturn, 1) := by decide +kernel
def p_X10_club   (S : vSt) (a1 : Int32) (post : Int32 → vSt → Prop) : Prop := p_X0_isSet 10 S a1 (fun r12 S11 => ((r12 = true → p_X3_see  S11  (fun S13 => p_X2_setClub  S13  (fun S14 => p_X2_stayers  S14 a1 (fun r16 S15 => p_X10_told  S15 r16 (fun r18 S17 => post r18 S17))))) ∧ (r12 = false → p_X10_refused  S11 5 (fun r20 S19 => post r20 S19))))
set_option maxHeartbeats 4000000 in
set_option maxRecDepth 100000 in
theorem c_X10_club (l : Launch) (G : vG)    {S : vSt} (a1 : Int32) (post : Int32 → vSt → Prop) (h : p_X10_club   S a1 post) : Met l yX10_club (v_ws yX10_club cX10_club 2 (some .int)) (v_rm 5 156) (v_Pc G [.ref (G.1 0), .int a1] S) (v_Qi G post) 0 0 (v_A G) := by
  refine v_start (by decide +kernel) (Nat.le_of_ble_eq_true rfl) (fun X hl C D => ?_)
  subst hl
  have C : v_Cx X G cX10_club RX10 2 (v_rm 5 156) := C
  show VJ X G S 0 [(0, .ref (G.1 0)), (1, .int a1)] []
  refine V_aload_n C 0 dX10_club_0 rfl rfl ?_
  refine V_ga C 0 (by decide) (by decide) F_10_2 k_RX10_26 dX10_club_1 ?_
  refine V_iload_n C 1 dX10_club_4 rfl rfl ?_
  refine V_callVz (As := [.int a1]) (rest := []) C (c_X0_isSet (v_l X) G v_i10 _ _ h) 10 0 (by decide) (by decide) (by decide) rfl KV_X0_isSet k_RX10_377 rfl rfl rfl (Nat.le_of_ble_eq_true rfl) ⟨Nat.le_of_ble_eq_true rfl, Nat.le_of_ble_eq_true rfl⟩ dX10_club_5 (fun r12 S11 h => ?_)
  refine V_ifb_ne (tgt := 17) C dX10_club_8 (by decide) (fun c => ?_) (fun c => ?_)
  · have h := h.1 c
    refine V_aload_n C 0 dX10_club_17 rfl rfl ?_
    refine V_ga C 0 (by decide) (by decide) F_10_7 k_RX10_64 dX10_club_18 ?_
    refine V_callVv (As := []) (rest := []) C (c_X3_see (v_l X) G  _ h) 58 3 (by decide) (by decide) (by decide) rfl KV_X3_see k_RX10_365 rfl rfl rfl (Nat.le_of_ble_eq_true rfl) ⟨Nat.le_of_ble_eq_true rfl, Nat.le_of_ble_eq_true rfl⟩ dX10_club_21 (fun S13 h => ?_)
    refine V_aload_n C 0 dX10_club_24 rfl rfl ?_
    refine V_ga C 0 (by decide) (by decide) F_10_8 k_RX10_73 dX10_club_25 ?_
    refine V_callVv (As := []) (rest := []) C (c_X2_setClub (v_l X) G  _ h) 68 2 (by decide) (by decide) (by decide) rfl KV_X2_setClub k_RX10_380 rfl rfl rfl (Nat.le_of_ble_eq_true rfl) ⟨Nat.le_of_ble_eq_true rfl, Nat.le_of_ble_eq_true rfl⟩ dX10_club_28 (fun S14 h => ?_)
    refine V_aload_n C 0 dX10_club_31 rfl rfl ?_
    refine V_aload_n C 0 dX10_club_32 rfl rfl ?_
    refine V_ga C 0 (by decide) (by decide) F_10_8 k_RX10_73 dX10_club_33 ?_
    refine V_iload_n C 1 dX10_club_36 rfl rfl ?_
    refine V_callVi (As := [.int a1]) (rest := [.ref (G.1 0)]) C (c_X2_stayers (v_l X) G  _ _ h) 68 2 (by decide) (by decide) (by decide) rfl KV_X2_stayers k_RX10_383 rfl rfl rfl (Nat.le_of_ble_eq_true rfl) ⟨Nat.le_of_ble_eq_true rfl, Nat.le_of_ble_eq_true rfl⟩ dX10_club_37 (fun r16 S15 h => ?_)
    refine V_callVi (As := [.int r16]) (rest := []) C (c_X10_told (v_l X) G  _ _ h) 0 10 (by decide) (by decide) (by decide) rfl KV_X10_told k_RX10_173 rfl rfl rfl (Nat.le_of_ble_eq_true rfl) ⟨Nat.le_of_ble_eq_true rfl, Nat.le_of_ble_eq_true rfl⟩ dX10_club_40 (fun r18 S17 h => ?_)
    exact V_iret C D dX10_club_43 h
  · have h := h.2 c
    refine V_aload_n C 0 dX10_club_11 rfl rfl ?_
    refine V_iconst (v := 5) C dX10_club_12 (by decide) ?_
    refine V_callVi (As := [.int 5]) (rest := []) C (c_X10_refused (v_l X) G  _ _ h) 0 10 (by decide) (by decide) (by decide) rfl KV_X10_refused k_RX10_153 rfl rfl rfl (Nat.le_of_ble_eq_true rfl) ⟨Nat.le_of_ble_eq_true rfl, Nat.le_of_ble_eq_true rfl⟩ dX10_club_13 (fun r20 S19 h => ?_)
    exact V_iret C D dX10_club_16 h
/-! HalfAccuser.clubPart(I)Z -/
theorem dX10_clubPart_0 : decode cX10_clubPart 0 = .ok ((.iload_n 1), 1) := by decide +kernel
theorem dX10_clubPart_1 : decode cX10_clubPart 1 = .ok ((.ifCond .eq 14), 3) := by decide +kernel
theorem dX10_clubPart_4 : decode cX10_clubPart 4 = .ok ((.aload_n 0), 1) := by decide +kernel
theorem dX10_clubPart_5 : decode cX10_clubPart 5 = .ok ((.getfield 26), 3) := by decide +kernel
theorem dX10_clubPart_8 : decode cX10_clubPart 8 = .ok ((.iload_n 1), 1) := by decide +kernel
theorem dX10_clubPart_9 : decode cX10_clubPart 9 = .ok ((.invokevirtual 377), 3) := by decide +kernel
theorem dX10_clubPart_12 : decode cX10_clubPart 12 = .ok ((.ifCond .ne 9), 3) := by decide +kernel
theorem dX10_clubPart_15 : decode cX10_clubPart 15 = .ok ((.aload_n 0), 1) := by decide +kernel
theorem dX10_clubPart_16 : decode cX10_clubPart 16 = .ok ((.iconst 5), 1) := by decide +kernel
theorem dX10_clubPart_17 : decode cX10_clubPart 17 = .ok ((.invokevirtual 116), 3) := by decide +kernel
theorem dX10_clubPart_20 : decode cX10_clubPart 20 = .ok (.ireturn, 1) := by decide +kernel
theorem dX10_clubPart_21 : decode cX10_clubPart 21 = .ok ((.aload_n 0), 1) := by decide +kernel
theorem dX10_clubPart_22 : decode cX10_clubPart 22 = .ok ((.getfield 64), 3) := by decide +kernel
theorem dX10_clubPart_25 : decode cX10_clubPart 25 = .ok ((.invokevirtual 365), 3) := by decide +kernel
theorem dX10_clubPart_28 : decode cX10_clubPart 28 = .ok ((.aload_n 0), 1) := by decide +kernel
theorem dX10_clubPart_29 : decode cX10_clubPart 29 = .ok ((.getfield 73), 3) := by decide +kernel
theorem dX10_clubPart_32 : decode cX10_clubPart 32 = .ok ((.invokevirtual 380), 3) := by decide +kernel
theorem dX10_clubPart_35 : decode cX10_clubPart 35 = .ok ((.aload_n 0), 1) := by decide +kernel
theorem dX10_clubPart_36 : decode cX10_clubPart 36 = .ok ((.aload_n 0), 1) := by decide +kernel
theorem dX10_clubPart_37 : decode cX10_clubPart 37 = .ok ((.getfield 73), 3) := by decide +kernel
theorem dX10_clubPart_40 : decode cX10_clubPart 40 = .ok ((.iload_n 1), 1) := by decide +kernel
theorem dX10_clubPart_41 : decode cX10_clubPart 41 = .ok ((.invokevirtual 386), 3) := by decide +kernel
theorem dX10_clubPart_44 : decode cX10_clubPart 44 = .ok ((.aload_n 0), 1) := by decide +kernel
theorem dX10_clubPart_45 : decode cX10_clubPart 45 = .ok ((.getfield 64), 3) := by decide +kernel
theorem dX10_clubPart_48 : decode cX10_clubPart 48 = .ok ((.invokevirtual 290), 3) := by decide +kernel
theorem dX10_clubPart_51 : decode cX10_clubPart 51 = .ok ((.iload_n 1), 1) := by decide +kernel
theorem dX10_clubPart_52 : decode cX10_clubPart 52 = .ok ((.invokestatic 389), 3) := by decide +kernel
theorem dX10_clubPart_55 : decode cX10_clubPart 55 = .ok (.i2l, 1) := by decide +kernel
theorem dX10_clubPart_56 : decode cX10_clubPart 56 = .ok (.lmul, 1) := by decide +kernel
theorem dX10_clubPart_57 : decode cX10_clubPart 57 = .ok ((.invokevirtual 294), 3) := by decide +kernel
theorem dX10_clubPart_60 : decode cX10_clubPart 60 = .ok (.ireturn, 1) := by decide +kernel
def p_X10_clubPart_15  (a1 : Int32)   (post : Bool → vSt → Prop) (S : vSt)  : Prop := p_X10_settled  S 5 (fun r16 S15 => post r16 S15)
def p_X10_clubPart   (S : vSt) (a1 : Int32) (post : Bool → vSt → Prop) : Prop := ((a1 = 0 → p_X10_clubPart_15 a1 post S ) ∧ (¬ a1 = 0 → p_X0_isSet 10 S a1 (fun r16 S15 => ((r16 = true → p_X3_see  S15  (fun S17 => p_X2_setClub  S17  (fun S18 => p_X2_sumOfDreads  S18 a1 (fun r20 S19 => p_X3_whole  S19  (fun r22 S21 => p_J6_bitCount_0f7a4  S21 a1 (fun r24 S23 => p_X10_tell  S23 r20 (r22 * (Int32.toInt64 r24)) (fun r26 S25 => post r26 S25))))))) ∧ (r16 = false → p_X10_clubPart_15 a1 post S15 )))))
set_option maxHeartbeats 4000000 in
set_option maxRecDepth 100000 in
theorem q_X10_clubPart_15 {X : vX} {G : vG}  {post : Bool → vSt → Prop} (C : v_Cx X G cX10_clubPart RX10 2 (v_rm 5 156)) (D : v_Rx X G (v_Qz G post) (some .boolean))  {a1 : Int32}   : ∀ (S : vSt), p_X10_clubPart_15 a1 post S  → VJ X G S 15 [(0, .ref (G.1 0))] [] := by
  intro S  h
  refine V_aload_n C 0 dX10_clubPart_15 rfl rfl ?_
  refine V_iconst (v := 5) C dX10_clubPart_16 (by decide) ?_
  refine V_callVz (As := [.int 5]) (rest := []) C (c_X10_settled (v_l X) G  _ _ h) 0 10 (by decide) (by decide) (by decide) rfl KV_X10_settled k_RX10_116 rfl rfl rfl (Nat.le_of_ble_eq_true rfl) ⟨Nat.le_of_ble_eq_true rfl, Nat.le_of_ble_eq_true rfl⟩ dX10_clubPart_17 (fun r16 S15 h => ?_)
  exact V_zret C D dX10_clubPart_20 h
set_option maxHeartbeats 4000000 in
set_option maxRecDepth 100000 in
theorem c_X10_clubPart (l : Launch) (G : vG)    {S : vSt} (a1 : Int32) (post : Bool → vSt → Prop) (h : p_X10_clubPart   S a1 post) : Met l yX10_clubPart (v_ws yX10_clubPart cX10_clubPart 2 (some .boolean)) (v_rm 5 156) (v_Pc G [.ref (G.1 0), .int a1] S) (v_Qz G post) 0 0 (v_A G) := by
  refine v_start (by decide +kernel) (Nat.le_of_ble_eq_true rfl) (fun X hl C D => ?_)
  subst hl
  have C : v_Cx X G cX10_clubPart RX10 2 (v_rm 5 156) := C
  show VJ X G S 0 [(0, .ref (G.1 0)), (1, .int a1)] []
  refine V_iload_n C 1 dX10_clubPart_0 rfl rfl ?_
  refine V_if_eq (tgt := 15) C dX10_clubPart_1 (by decide) (fun c => ?_) (fun c => ?_)
  · have h := h.1 c
    refine V_loc (lv' := [(0, .ref (G.1 0))]) [0] rfl ?_
    exact q_X10_clubPart_15 C D  _ h
  · have h := h.2 c
    refine V_aload_n C 0 dX10_clubPart_4 rfl rfl ?_
    refine V_ga C 0 (by decide) (by decide) F_10_2 k_RX10_26 dX10_clubPart_5 ?_
    refine V_iload_n C 1 dX10_clubPart_8 rfl rfl ?_
    refine V_callVz (As := [.int a1]) (rest := []) C (c_X0_isSet (v_l X) G v_i10 _ _ h) 10 0 (by decide) (by decide) (by decide) rfl KV_X0_isSet k_RX10_377 rfl rfl rfl (Nat.le_of_ble_eq_true rfl) ⟨Nat.le_of_ble_eq_true rfl, Nat.le_of_ble_eq_true rfl⟩ dX10_clubPart_9 (fun r16 S15 h => ?_)
    refine V_ifb_ne (tgt := 21) C dX10_clubPart_12 (by decide) (fun c => ?_) (fun c => ?_)
    · have h := h.1 c
      refine V_aload_n C 0 dX10_clubPart_21 rfl rfl ?_
      refine V_ga C 0 (by decide) (by decide) F_10_7 k_RX10_64 dX10_clubPart_22 ?_
      refine V_callVv (As := []) (rest := []) C (c_X3_see (v_l X) G  _ h) 58 3 (by decide) (by decide) (by decide) rfl KV_X3_see k_RX10_365 rfl rfl rfl (Nat.le_of_ble_eq_true rfl) ⟨Nat.le_of_ble_eq_true rfl, Nat.le_of_ble_eq_true rfl⟩ dX10_clubPart_25 (fun S17 h => ?_)
      refine V_aload_n C 0 dX10_clubPart_28 rfl rfl ?_
      refine V_ga C 0 (by decide) (by decide) F_10_8 k_RX10_73 dX10_clubPart_29 ?_
      refine V_callVv (As := []) (rest := []) C (c_X2_setClub (v_l X) G  _ h) 68 2 (by decide) (by decide) (by decide) rfl KV_X2_setClub k_RX10_380 rfl rfl rfl (Nat.le_of_ble_eq_true rfl) ⟨Nat.le_of_ble_eq_true rfl, Nat.le_of_ble_eq_true rfl⟩ dX10_clubPart_32 (fun S18 h => ?_)
      refine V_aload_n C 0 dX10_clubPart_35 rfl rfl ?_
      refine V_aload_n C 0 dX10_clubPart_36 rfl rfl ?_
      refine V_ga C 0 (by decide) (by decide) F_10_8 k_RX10_73 dX10_clubPart_37 ?_
      refine V_iload_n C 1 dX10_clubPart_40 rfl rfl ?_
      refine V_callVl (As := [.int a1]) (rest := [.ref (G.1 0)]) C (c_X2_sumOfDreads (v_l X) G  _ _ h) 68 2 (by decide) (by decide) (by decide) rfl KV_X2_sumOfDreads k_RX10_386 rfl rfl rfl (Nat.le_of_ble_eq_true rfl) ⟨Nat.le_of_ble_eq_true rfl, Nat.le_of_ble_eq_true rfl⟩ dX10_clubPart_41 (fun r20 S19 h => ?_)
      refine V_aload_n C 0 dX10_clubPart_44 rfl rfl ?_
      refine V_ga C 0 (by decide) (by decide) F_10_7 k_RX10_64 dX10_clubPart_45 ?_
      refine V_callVl (As := []) (rest := [.long r20, .ref (G.1 0)]) C (c_X3_whole (v_l X) G  _ h) 58 3 (by decide) (by decide) (by decide) rfl KV_X3_whole k_RX10_290 rfl rfl rfl (Nat.le_of_ble_eq_true rfl) ⟨Nat.le_of_ble_eq_true rfl, Nat.le_of_ble_eq_true rfl⟩ dX10_clubPart_48 (fun r22 S21 h => ?_)
      refine V_iload_n C 1 dX10_clubPart_51 rfl rfl ?_
      refine V_callSi (As := [.int a1]) (rest := [.long r22, .long r20, .ref (G.1 0)]) C (c_J6_bitCount_0f7a4 (v_l X) G  _ _ h) KV_J6_bitCount_0f7a4 k_RX10_389 rfl rfl rfl (Nat.le_of_ble_eq_true rfl) ⟨Nat.le_of_ble_eq_true rfl, Nat.le_of_ble_eq_true rfl⟩ dX10_clubPart_52 (fun r24 S23 h => ?_)
      refine V_i2l C dX10_clubPart_55 ?_
      refine V_lmul C dX10_clubPart_56 ?_
      refine V_callVz (As := [.long r20, .long (r22 * (Int32.toInt64 r24))]) (rest := []) C (c_X10_tell (v_l X) G  _ _ _ h) 0 10 (by decide) (by decide) (by decide) rfl KV_X10_tell k_RX10_294 rfl rfl rfl (Nat.le_of_ble_eq_true rfl) ⟨Nat.le_of_ble_eq_true rfl, Nat.le_of_ble_eq_true rfl⟩ dX10_clubPart_57 (fun r26 S25 h => ?_)
      exact V_zret C D dX10_clubPart_60 h
    · have h := h.2 c
      refine V_loc (lv' := [(0, .ref (G.1 0))]) [0] rfl ?_
      exact q_X10_clubPart_15 C D  _ h
/-! HalfAccuser.pastStatus(II)I -/
theorem dX10_pastStatus_0 : decode cX10_pastStatus 0 = .ok ((.aload_n 0), 1) := by decide +kernel
theorem dX10_pastStatus_1 : decode cX10_pastStatus 1 = .ok ((.getfield 26), 3) := by decide +kernel
theorem dX10_pastStatus_4 : decode cX10_pastStatus 4 = .ok ((.iload_n 1), 1) := by decide +kernel
theorem dX10_pastStatus_5 : decode cX10_pastStatus 5 = .ok ((.invokevirtual 188), 3) := by decide +kernel
theorem dX10_pastStatus_8 : decode cX10_pastStatus 8 = .ok ((.ifCond .ne 5), 3) := by decide +kernel
theorem dX10_pastStatus_11 : decode cX10_pastStatus 11 = .ok ((.iconst 2), 1) := by decide +kernel
theorem dX10_pastStatus_12 : decode cX10_pastStatus 12 = .ok (.ireturn, 1) := by decide +kernel
theorem dX10_pastStatus_13 : decode cX10_pastStatus 13 = .ok ((.iload_n 2), 1) := by decide +kernel
theorem dX10_pastStatus_14 : decode cX10_pastStatus 14 = .ok ((.sipush (-9999)), 3) := by decide +kernel
theorem dX10_pastStatus_17 : decode cX10_pastStatus 17 = .ok ((.if_icmp .lt 10), 3) := by decide +kernel
theorem dX10_pastStatus_20 : decode cX10_pastStatus 20 = .ok ((.iload_n 2), 1) := by decide +kernel
theorem dX10_pastStatus_21 : decode cX10_pastStatus 21 = .ok ((.sipush 9999), 3) := by decide +kernel
theorem dX10_pastStatus_24 : decode cX10_pastStatus 24 = .ok ((.if_icmp .le 7), 3) := by decide +kernel
theorem dX10_pastStatus_27 : decode cX10_pastStatus 27 = .ok ((.iconst 5), 1) := by decide +kernel
theorem dX10_pastStatus_28 : decode cX10_pastStatus 28 = .ok ((.goto 4), 3) := by decide +kernel
theorem dX10_pastStatus_31 : decode cX10_pastStatus 31 = .ok ((.iconst 0), 1) := by decide +kernel
theorem dX10_pastStatus_32 : decode cX10_pastStatus 32 = .ok (.ireturn, 1) := by decide +kernel
def p_X10_pastStatus   (S : vSt) (a1 : Int32) (a2 : Int32) (post : Int32 → vSt → Prop) : Prop := p_X0_hasPerson 10 S a1 (fun r4 S3 => ((r4 = true → ((a2 < (-9999) → post 5 S3) ∧ (¬ a2 < (-9999) → ((a2 ≤ 9999 → post 0 S3) ∧ (¬ a2 ≤ 9999 → post 5 S3))))) ∧ (r4 = false → post 2 S3)))
set_option maxHeartbeats 4000000 in
set_option maxRecDepth 100000 in
theorem c_X10_pastStatus (l : Launch) (G : vG)    {S : vSt} (a1 : Int32) (a2 : Int32) (post : Int32 → vSt → Prop) (h : p_X10_pastStatus   S a1 a2 post) : Met l yX10_pastStatus (v_ws yX10_pastStatus cX10_pastStatus 3 (some .int)) (v_rm 1 61) (v_Pc G [.ref (G.1 0), .int a1, .int a2] S) (v_Qi G post) 0 0 (v_A G) := by
  refine v_start (by decide +kernel) (Nat.le_of_ble_eq_true rfl) (fun X hl C D => ?_)
  subst hl
  have C : v_Cx X G cX10_pastStatus RX10 3 (v_rm 1 61) := C
  show VJ X G S 0 [(0, .ref (G.1 0)), (1, .int a1), (2, .int a2)] []
  refine V_aload_n C 0 dX10_pastStatus_0 rfl rfl ?_
  refine V_ga C 0 (by decide) (by decide) F_10_2 k_RX10_26 dX10_pastStatus_1 ?_
  refine V_iload_n C 1 dX10_pastStatus_4 rfl rfl ?_
  refine V_callVz (As := [.int a1]) (rest := []) C (c_X0_hasPerson (v_l X) G v_i10 _ _ h) 10 0 (by decide) (by decide) (by decide) rfl KV_X0_hasPerson k_RX10_188 rfl rfl rfl (Nat.le_of_ble_eq_true rfl) ⟨Nat.le_of_ble_eq_true rfl, Nat.le_of_ble_eq_true rfl⟩ dX10_pastStatus_5 (fun r4 S3 h => ?_)
  refine V_ifb_ne (tgt := 13) C dX10_pastStatus_8 (by decide) (fun c => ?_) (fun c => ?_)
  · have h := h.1 c
    refine V_iload_n C 2 dX10_pastStatus_13 rfl rfl ?_
    refine V_sipush (v := (-9999)) C dX10_pastStatus_14 (by decide) ?_
    refine V_icmp_lt (tgt := 27) C dX10_pastStatus_17 (by decide) (fun c => ?_) (fun c => ?_)
    · have h := h.1 c
      refine V_iconst (v := 5) C dX10_pastStatus_27 (by decide) ?_
      refine V_goto (tgt := 32) C dX10_pastStatus_28 (by decide) ?_
      exact V_iret C D dX10_pastStatus_32 h
    · have h := h.2 c
      refine V_iload_n C 2 dX10_pastStatus_20 rfl rfl ?_
      refine V_sipush (v := 9999) C dX10_pastStatus_21 (by decide) ?_
      refine V_icmp_le (tgt := 31) C dX10_pastStatus_24 (by decide) (fun c => ?_) (fun c => ?_)
      · have h := h.1 c
        refine V_iconst (v := 0) C dX10_pastStatus_31 (by decide) ?_
        exact V_iret C D dX10_pastStatus_32 h
      · have h := h.2 c
        refine V_iconst (v := 5) C dX10_pastStatus_27 (by decide) ?_
        refine V_goto (tgt := 32) C dX10_pastStatus_28 (by decide) ?_
        exact V_iret C D dX10_pastStatus_32 h
  · have h := h.2 c
    refine V_iconst (v := 2) C dX10_pastStatus_11 (by decide) ?_
    exact V_iret C D dX10_pastStatus_12 h
/-! HalfAccuser.gained(II)I -/
theorem dX10_gained_0 : decode cX10_gained 0 = .ok ((.aload_n 0), 1) := by decide +kernel
theorem dX10_gained_1 : decode cX10_gained 1 = .ok ((.iload_n 1), 1) := by decide +kernel
theorem dX10_gained_2 : decode cX10_gained 2 = .ok ((.iload_n 2), 1) := by decide +kernel
theorem dX10_gained_3 : decode cX10_gained 3 = .ok ((.invokevirtual 394), 3) := by decide +kernel
theorem dX10_gained_6 : decode cX10_gained 6 = .ok ((.istore_n 3), 1) := by decide +kernel
theorem dX10_gained_7 : decode cX10_gained 7 = .ok ((.iload_n 3), 1) := by decide +kernel
theorem dX10_gained_8 : decode cX10_gained 8 = .ok ((.ifCond .eq 9), 3) := by decide +kernel
theorem dX10_gained_11 : decode cX10_gained 11 = .ok ((.aload_n 0), 1) := by decide +kernel
theorem dX10_gained_12 : decode cX10_gained 12 = .ok ((.iload_n 3), 1) := by decide +kernel
theorem dX10_gained_13 : decode cX10_gained 13 = .ok ((.invokevirtual 153), 3) := by decide +kernel
theorem dX10_gained_16 : decode cX10_gained 16 = .ok (.ireturn, 1) := by decide +kernel
theorem dX10_gained_17 : decode cX10_gained 17 = .ok ((.aload_n 0), 1) := by decide +kernel
theorem dX10_gained_18 : decode cX10_gained 18 = .ok ((.getfield 80), 3) := by decide +kernel
theorem dX10_gained_21 : decode cX10_gained 21 = .ok ((.iload_n 1), 1) := by decide +kernel
theorem dX10_gained_22 : decode cX10_gained 22 = .ok ((.iload_n 2), 1) := by decide +kernel
theorem dX10_gained_23 : decode cX10_gained 23 = .ok ((.invokevirtual 397), 3) := by decide +kernel
theorem dX10_gained_26 : decode cX10_gained 26 = .ok ((.aload_n 0), 1) := by decide +kernel
theorem dX10_gained_27 : decode cX10_gained 27 = .ok ((.aload_n 0), 1) := by decide +kernel
theorem dX10_gained_28 : decode cX10_gained 28 = .ok ((.getfield 80), 3) := by decide +kernel
theorem dX10_gained_31 : decode cX10_gained 31 = .ok ((.getfield 400), 3) := by decide +kernel
theorem dX10_gained_34 : decode cX10_gained 34 = .ok ((.invokevirtual 173), 3) := by decide +kernel
theorem dX10_gained_37 : decode cX10_gained 37 = .ok (.ireturn, 1) := by decide +kernel
def p_X10_gained   (S : vSt) (a1 : Int32) (a2 : Int32) (post : Int32 → vSt → Prop) : Prop := p_X10_pastStatus  S a1 a2 (fun r9 S8 => ((r9 = 0 → p_X5_look  S8 a1 a2 (fun S10 => p_X10_told  S10 (S10.1 72 3) (fun r12 S11 => post r12 S11))) ∧ (¬ r9 = 0 → p_X10_refused  S8 r9 (fun r14 S13 => post r14 S13))))
set_option maxHeartbeats 4000000 in
set_option maxRecDepth 100000 in
theorem c_X10_gained (l : Launch) (G : vG)    {S : vSt} (a1 : Int32) (a2 : Int32) (post : Int32 → vSt → Prop) (h : p_X10_gained   S a1 a2 post) : Met l yX10_gained (v_ws yX10_gained cX10_gained 4 (some .int)) (v_rm 4 131) (v_Pc G [.ref (G.1 0), .int a1, .int a2] S) (v_Qi G post) 0 0 (v_A G) := by
  refine v_start (by decide +kernel) (Nat.le_of_ble_eq_true rfl) (fun X hl C D => ?_)
  subst hl
  have C : v_Cx X G cX10_gained RX10 4 (v_rm 4 131) := C
  show VJ X G S 0 [(0, .ref (G.1 0)), (1, .int a1), (2, .int a2)] []
  refine V_aload_n C 0 dX10_gained_0 rfl rfl ?_
  refine V_iload_n C 1 dX10_gained_1 rfl rfl ?_
  refine V_iload_n C 2 dX10_gained_2 rfl rfl ?_
  refine V_callVi (As := [.int a1, .int a2]) (rest := []) C (c_X10_pastStatus (v_l X) G  _ _ _ h) 0 10 (by decide) (by decide) (by decide) rfl KV_X10_pastStatus k_RX10_394 rfl rfl rfl (Nat.le_of_ble_eq_true rfl) ⟨Nat.le_of_ble_eq_true rfl, Nat.le_of_ble_eq_true rfl⟩ dX10_gained_3 (fun r9 S8 h => ?_)
  refine V_istore_n (lv' := [(0, .ref (G.1 0)), (1, .int a1), (2, .int a2), (3, .int r9)]) C [1, 2, 3, 0] dX10_gained_6 rfl (by decide) rfl ?_
  refine V_iload_n C 3 dX10_gained_7 rfl rfl ?_
  refine V_if_eq (tgt := 17) C dX10_gained_8 (by decide) (fun c => ?_) (fun c => ?_)
  · have h := h.1 c
    refine V_aload_n C 0 dX10_gained_17 rfl rfl ?_
    refine V_ga C 0 (by decide) (by decide) F_10_9 k_RX10_80 dX10_gained_18 ?_
    refine V_iload_n C 1 dX10_gained_21 rfl rfl ?_
    refine V_iload_n C 2 dX10_gained_22 rfl rfl ?_
    refine V_callVv (As := [.int a1, .int a2]) (rest := []) C (c_X5_look (v_l X) G  _ _ _ h) 72 5 (by decide) (by decide) (by decide) rfl KV_X5_look k_RX10_397 rfl rfl rfl (Nat.le_of_ble_eq_true rfl) ⟨Nat.le_of_ble_eq_true rfl, Nat.le_of_ble_eq_true rfl⟩ dX10_gained_23 (fun S10 h => ?_)
    refine V_aload_n C 0 dX10_gained_26 rfl rfl ?_
    refine V_aload_n C 0 dX10_gained_27 rfl rfl ?_
    refine V_ga C 0 (by decide) (by decide) F_10_9 k_RX10_80 dX10_gained_28 ?_
    refine V_gi C 72 (by decide) (by decide) F_5_3 k_RX10_400 dX10_gained_31 ?_
    refine V_callVi (As := [.int (S10.1 72 3)]) (rest := []) C (c_X10_told (v_l X) G  _ _ h) 0 10 (by decide) (by decide) (by decide) rfl KV_X10_told k_RX10_173 rfl rfl rfl (Nat.le_of_ble_eq_true rfl) ⟨Nat.le_of_ble_eq_true rfl, Nat.le_of_ble_eq_true rfl⟩ dX10_gained_34 (fun r12 S11 h => ?_)
    exact V_iret C D dX10_gained_37 h
  · have h := h.2 c
    refine V_aload_n C 0 dX10_gained_11 rfl rfl ?_
    refine V_iload_n C 3 dX10_gained_12 rfl rfl ?_
    refine V_callVi (As := [.int r9]) (rest := []) C (c_X10_refused (v_l X) G  _ _ h) 0 10 (by decide) (by decide) (by decide) rfl KV_X10_refused k_RX10_153 rfl rfl rfl (Nat.le_of_ble_eq_true rfl) ⟨Nat.le_of_ble_eq_true rfl, Nat.le_of_ble_eq_true rfl⟩ dX10_gained_13 (fun r14 S13 h => ?_)
    exact V_iret C D dX10_gained_16 h
