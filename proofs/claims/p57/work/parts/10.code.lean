/-! HalfAccuser.copy([I[I)V -/
theorem dX10_copy_0 : decode cX10_copy 0 = .ok ((.aload_n 0), 1) := by decide +kernel
theorem dX10_copy_1 : decode cX10_copy 1 = .ok ((.iconst 0), 1) := by decide +kernel
theorem dX10_copy_2 : decode cX10_copy 2 = .ok ((.aload_n 1), 1) := by decide +kernel
theorem dX10_copy_3 : decode cX10_copy 3 = .ok ((.iconst 0), 1) := by decide +kernel
theorem dX10_copy_4 : decode cX10_copy 4 = .ok ((.aload_n 0), 1) := by decide +kernel
theorem dX10_copy_5 : decode cX10_copy 5 = .ok (.arraylength, 1) := by decide +kernel
theorem dX10_copy_6 : decode cX10_copy 6 = .ok ((.aload_n 1), 1) := by decide +kernel
theorem dX10_copy_7 : decode cX10_copy 7 = .ok (.arraylength, 1) := by decide +kernel
theorem dX10_copy_8 : decode cX10_copy 8 = .ok ((.invokestatic 455), 3) := by decide +kernel
theorem dX10_copy_11 : decode cX10_copy 11 = .ok ((.invokestatic 458), 3) := by decide +kernel
theorem dX10_copy_14 : decode cX10_copy 14 = .ok (.return_, 1) := by decide +kernel
def p_X10_copy (k0 n0 k1 n1 : Nat)  (S : vSt)  (post : vSt → Prop) : Prop := (v_cpo 0 0 (v_mini (Int32.ofNat n0) (Int32.ofNat n1)) n0 n1 ∧ ∀ S2, S2 = v_ci S k0 k1 (Int32.toNatClampNeg 0) (Int32.toNatClampNeg 0) (Int32.toNatClampNeg (v_mini (Int32.ofNat n0) (Int32.ofNat n1))) → post S2)
set_option maxHeartbeats 4000000 in
set_option maxRecDepth 100000 in
theorem c_X10_copy (l : Launch) (G : vG)  {k0 n0 : Nat} (hk0 : k0 < 145) (hs0 : v_sh k0 = (13, n0)) {k1 n1 : Nat} (hk1 : k1 < 145) (hs1 : v_sh k1 = (13, n1))  {S : vSt}  (post : vSt → Prop) (h : p_X10_copy k0 n0 k1 n1  S  post) : Met l yX10_copy (v_ws yX10_copy cX10_copy 2 none) (v_rm 1 80) (v_Pc G [.ref (G.1 k0), .ref (G.1 k1)] S) (v_Qv G post) 0 0 (v_A G) := by
  refine v_start (by decide +kernel) (Nat.le_of_ble_eq_true rfl) (fun X hl C D => ?_)
  subst hl
  have C : v_Cx X G cX10_copy RX10 2 (v_rm 1 80) := C
  show VJ X G S 0 [(0, .ref (G.1 k0)), (1, .ref (G.1 k1))] []
  refine V_aload_n C 0 dX10_copy_0 rfl rfl ?_
  refine V_iconst (v := 0) C dX10_copy_1 (by decide) ?_
  refine V_aload_n C 1 dX10_copy_2 rfl rfl ?_
  refine V_iconst (v := 0) C dX10_copy_3 (by decide) ?_
  refine V_aload_n C 0 dX10_copy_4 rfl rfl ?_
  refine V_alen C k0 n0 hk0 (Or.inr (Or.inl hs0)) dX10_copy_5 ?_
  refine V_aload_n C 1 dX10_copy_6 rfl rfl ?_
  refine V_alen C k1 n1 hk1 (Or.inr (Or.inl hs1)) dX10_copy_7 ?_
  refine V_mini C k_RX10_455 (Nat.le_of_ble_eq_true rfl) ⟨Nat.le_of_ble_eq_true rfl, Nat.le_of_ble_eq_true rfl⟩ dX10_copy_8 ?_
  obtain ⟨ho, h⟩ := h
  refine V_copyi C k0 k1 n0 n1 hk0 hs0 hk1 hs1 ho k_RX10_458 (Nat.le_of_ble_eq_true rfl) ⟨Nat.le_of_ble_eq_true rfl, by decide +kernel⟩ dX10_copy_11 ?_
  refine V_topS (fun S2 eS2 => ?_)
  have h := h S2 eS2
  exact V_vret C D dX10_copy_14 h
/-! HalfAccuser.copy([I[I)V -/
def p_X10_copy_s (i0 k1 n1 : Nat)  (S : vSt)  (post : vSt → Prop) : Prop := (v_cpo 0 0 (v_mini 4 (Int32.ofNat n1)) 4 n1 ∧ ∀ S2, S2 = v_cs S i0 k1 (Int32.toNatClampNeg 0) (Int32.toNatClampNeg 0) (Int32.toNatClampNeg (v_mini 4 (Int32.ofNat n1))) → post S2)
set_option maxHeartbeats 4000000 in
set_option maxRecDepth 100000 in
theorem c_X10_copy_s (l : Launch) (G : vG)  {i0 : Nat} (hi0 : i0 < 3) {k1 n1 : Nat} (hk1 : k1 < 145) (hs1 : v_sh k1 = (13, n1))  {S : vSt}  (post : vSt → Prop) (h : p_X10_copy_s i0 k1 n1  S  post) : Met l yX10_copy (v_ws yX10_copy cX10_copy 2 none) (v_rm 1 80) (v_Pc G [.ref (G.1 (145 + i0)), .ref (G.1 k1)] S) (v_Qv G post) 0 0 (v_A G) := by
  refine v_start (by decide +kernel) (Nat.le_of_ble_eq_true rfl) (fun X hl C D => ?_)
  subst hl
  have C : v_Cx X G cX10_copy RX10 2 (v_rm 1 80) := C
  show VJ X G S 0 [(0, .ref (G.1 (145 + i0))), (1, .ref (G.1 k1))] []
  refine V_aload_n C 0 dX10_copy_0 rfl rfl ?_
  refine V_iconst (v := 0) C dX10_copy_1 (by decide) ?_
  refine V_aload_n C 1 dX10_copy_2 rfl rfl ?_
  refine V_iconst (v := 0) C dX10_copy_3 (by decide) ?_
  refine V_aload_n C 0 dX10_copy_4 rfl rfl ?_
  refine V_tlen C i0 hi0 dX10_copy_5 ?_
  refine V_aload_n C 1 dX10_copy_6 rfl rfl ?_
  refine V_alen C k1 n1 hk1 (Or.inr (Or.inl hs1)) dX10_copy_7 ?_
  refine V_mini C k_RX10_455 (Nat.le_of_ble_eq_true rfl) ⟨Nat.le_of_ble_eq_true rfl, Nat.le_of_ble_eq_true rfl⟩ dX10_copy_8 ?_
  obtain ⟨ho, h⟩ := h
  refine V_copys C i0 k1 n1 hi0 hk1 hs1 ho k_RX10_458 (Nat.le_of_ble_eq_true rfl) ⟨Nat.le_of_ble_eq_true rfl, by decide +kernel⟩ dX10_copy_11 ?_
  refine V_topS (fun S2 eS2 => ?_)
  have h := h S2 eS2
  exact V_vret C D dX10_copy_14 h
/-! HalfAccuser$Years.clear()V -/
theorem dX8_clear_0 : decode cX8_clear 0 = .ok ((.aload_n 0), 1) := by decide +kernel
theorem dX8_clear_1 : decode cX8_clear 1 = .ok ((.iconst 0), 1) := by decide +kernel
theorem dX8_clear_2 : decode cX8_clear 2 = .ok ((.putfield 30), 3) := by decide +kernel
theorem dX8_clear_5 : decode cX8_clear 5 = .ok ((.aload_n 0), 1) := by decide +kernel
theorem dX8_clear_6 : decode cX8_clear 6 = .ok ((.iconst 0), 1) := by decide +kernel
theorem dX8_clear_7 : decode cX8_clear 7 = .ok ((.putfield 34), 3) := by decide +kernel
theorem dX8_clear_10 : decode cX8_clear 10 = .ok ((.aload_n 0), 1) := by decide +kernel
theorem dX8_clear_11 : decode cX8_clear 11 = .ok ((.iconst 0), 1) := by decide +kernel
theorem dX8_clear_12 : decode cX8_clear 12 = .ok ((.putfield 37), 3) := by decide +kernel
theorem dX8_clear_15 : decode cX8_clear 15 = .ok (.return_, 1) := by decide +kernel
def p_X8_clear (b : Nat)  (S : vSt)  (post : vSt → Prop) : Prop := ∀ S4, S4 = v_si S (b + 15) 6 0 → ∀ S5, S5 = v_si S4 (b + 15) 7 0 → ∀ S6, S6 = v_si S5 (b + 15) 8 0 → post S6
set_option maxHeartbeats 4000000 in
set_option maxRecDepth 100000 in
theorem c_X8_clear (l : Launch) (G : vG)  {b : Nat} (hb : v_isC b)  {S : vSt}  (post : vSt → Prop) (h : p_X8_clear b  S  post) : Met l yX8_clear (v_ws yX8_clear cX8_clear 1 none) (v_rm 0 40) (v_Pc G [.ref (G.1 (b + 15))] S) (v_Qv G post) 0 0 (v_A G) := by
  refine v_start (by decide +kernel) (Nat.le_of_ble_eq_true rfl) (fun X hl C D => ?_)
  subst hl
  have C : v_Cx X G cX8_clear RX8 1 (v_rm 0 40) := C
  show VJ X G S 0 [(0, .ref (G.1 (b + 15)))] []
  refine V_aload_n C 0 dX8_clear_0 rfl rfl ?_
  refine V_iconst (v := 0) C dX8_clear_1 (by decide) ?_
  refine V_pi C (b + 15) (v_cb hb 15 (by decide)) (v_co15 hb) P_8_6 k_RX8_30 dX8_clear_2 ?_
  refine V_topS (fun S4 eS4 => ?_)
  have h := h S4 eS4
  refine V_aload_n C 0 dX8_clear_5 rfl rfl ?_
  refine V_iconst (v := 0) C dX8_clear_6 (by decide) ?_
  refine V_pi C (b + 15) (v_cb hb 15 (by decide)) (v_co15 hb) P_8_7 k_RX8_34 dX8_clear_7 ?_
  refine V_topS (fun S5 eS5 => ?_)
  have h := h S5 eS5
  refine V_aload_n C 0 dX8_clear_10 rfl rfl ?_
  refine V_iconst (v := 0) C dX8_clear_11 (by decide) ?_
  refine V_pz C (b + 15) (v_cb hb 15 (by decide)) (v_co15 hb) P_8_8 k_RX8_37 v_isb_0 dX8_clear_12 ?_
  refine V_topS (fun S6 eS6 => ?_)
  have h := h S6 eS6
  exact V_vret C D dX8_clear_15 h
/-! HalfAccuser$City.clear()V -/
theorem dX0_clear_0 : decode cX0_clear 0 = .ok ((.getstatic 65), 3) := by decide +kernel
theorem dX0_clear_3 : decode cX0_clear 3 = .ok ((.aload_n 0), 1) := by decide +kernel
theorem dX0_clear_4 : decode cX0_clear 4 = .ok ((.getfield 9), 3) := by decide +kernel
theorem dX0_clear_7 : decode cX0_clear 7 = .ok ((.invokestatic 68), 3) := by decide +kernel
theorem dX0_clear_10 : decode cX0_clear 10 = .ok ((.aload_n 0), 1) := by decide +kernel
theorem dX0_clear_11 : decode cX0_clear 11 = .ok ((.iconst 0), 1) := by decide +kernel
theorem dX0_clear_12 : decode cX0_clear 12 = .ok ((.putfield 72), 3) := by decide +kernel
theorem dX0_clear_15 : decode cX0_clear 15 = .ok ((.aload_n 0), 1) := by decide +kernel
theorem dX0_clear_16 : decode cX0_clear 16 = .ok ((.iconst 0), 1) := by decide +kernel
theorem dX0_clear_17 : decode cX0_clear 17 = .ok ((.putfield 76), 3) := by decide +kernel
theorem dX0_clear_20 : decode cX0_clear 20 = .ok ((.aload_n 0), 1) := by decide +kernel
theorem dX0_clear_21 : decode cX0_clear 21 = .ok ((.iconst 0), 1) := by decide +kernel
theorem dX0_clear_22 : decode cX0_clear 22 = .ok ((.putfield 79), 3) := by decide +kernel
theorem dX0_clear_25 : decode cX0_clear 25 = .ok ((.aload_n 0), 1) := by decide +kernel
theorem dX0_clear_26 : decode cX0_clear 26 = .ok ((.iconst 0), 1) := by decide +kernel
theorem dX0_clear_27 : decode cX0_clear 27 = .ok ((.putfield 82), 3) := by decide +kernel
theorem dX0_clear_30 : decode cX0_clear 30 = .ok ((.aload_n 0), 1) := by decide +kernel
theorem dX0_clear_31 : decode cX0_clear 31 = .ok ((.getfield 58), 3) := by decide +kernel
theorem dX0_clear_34 : decode cX0_clear 34 = .ok ((.invokevirtual 85), 3) := by decide +kernel
theorem dX0_clear_37 : decode cX0_clear 37 = .ok (.return_, 1) := by decide +kernel
def p_X0_clear (b : Nat)  (S : vSt)  (post : vSt → Prop) : Prop := p_X10_copy_s 0 (b + 1) 4 S  (fun S7 => ∀ S8, S8 = v_si S7 b 15 0 → ∀ S9, S9 = v_si S8 b 16 0 → ∀ S10, S10 = v_si S9 b 17 0 → ∀ S11, S11 = v_si S10 b 18 0 → p_X8_clear b S11  (fun S12 => post S12))
set_option maxHeartbeats 4000000 in
set_option maxRecDepth 100000 in
theorem c_X0_clear (l : Launch) (G : vG)  {b : Nat} (hb : v_isC b)  {S : vSt}  (post : vSt → Prop) (h : p_X0_clear b  S  post) : Met l yX0_clear (v_ws yX0_clear cX0_clear 1 none) (v_rm 2 101) (v_Pc G [.ref (G.1 b)] S) (v_Qv G post) 0 0 (v_A G) := by
  refine v_start (by decide +kernel) (Nat.le_of_ble_eq_true rfl) (fun X hl C D => ?_)
  subst hl
  have C : v_Cx X G cX0_clear RX0 1 (v_rm 2 101) := C
  show VJ X G S 0 [(0, .ref (G.1 b))] []
  refine V_getsN C 0 (by decide) (List.mem_of_getElem? (i := 0) rfl) dX0_clear_0 ?_
  refine V_aload_n C 0 dX0_clear_3 rfl rfl ?_
  refine V_gr C b (v_cb hb 0 (by decide)) (v_co0 hb) F_0_0 k_RX0_9 dX0_clear_4 ?_
  refine V_callSNv (As := [.ref (G.1 145), .ref (G.1 (b + 1))]) (rest := []) C (c_X10_copy_s (v_l X) G (by decide) (v_cb hb 1 (by decide)) (v_ca1 hb) _ h) KV_X10_copy (List.mem_of_getElem? (i := 2) rfl) rfl rfl rfl (Nat.le_of_ble_eq_true rfl) ⟨Nat.le_of_ble_eq_true rfl, Nat.le_of_ble_eq_true rfl⟩ dX0_clear_7 (fun S7 h => ?_)
  refine V_aload_n C 0 dX0_clear_10 rfl rfl ?_
  refine V_iconst (v := 0) C dX0_clear_11 (by decide) ?_
  refine V_pi C b (v_cb hb 0 (by decide)) (v_co0 hb) P_0_15 k_RX0_72 dX0_clear_12 ?_
  refine V_topS (fun S8 eS8 => ?_)
  have h := h S8 eS8
  refine V_aload_n C 0 dX0_clear_15 rfl rfl ?_
  refine V_iconst (v := 0) C dX0_clear_16 (by decide) ?_
  refine V_pi C b (v_cb hb 0 (by decide)) (v_co0 hb) P_0_16 k_RX0_76 dX0_clear_17 ?_
  refine V_topS (fun S9 eS9 => ?_)
  have h := h S9 eS9
  refine V_aload_n C 0 dX0_clear_20 rfl rfl ?_
  refine V_iconst (v := 0) C dX0_clear_21 (by decide) ?_
  refine V_pi C b (v_cb hb 0 (by decide)) (v_co0 hb) P_0_17 k_RX0_79 dX0_clear_22 ?_
  refine V_topS (fun S10 eS10 => ?_)
  have h := h S10 eS10
  refine V_aload_n C 0 dX0_clear_25 rfl rfl ?_
  refine V_iconst (v := 0) C dX0_clear_26 (by decide) ?_
  refine V_pi C b (v_cb hb 0 (by decide)) (v_co0 hb) P_0_18 k_RX0_82 dX0_clear_27 ?_
  refine V_topS (fun S11 eS11 => ?_)
  have h := h S11 eS11
  refine V_aload_n C 0 dX0_clear_30 rfl rfl ?_
  refine V_gr C b (v_cb hb 0 (by decide)) (v_co0 hb) F_0_14 k_RX0_58 dX0_clear_31 ?_
  refine V_callVv (As := []) (rest := []) C (c_X8_clear (v_l X) G hb _ h) (b + 15) 8 (v_cb hb 15 (by decide)) (v_co15 hb) (by decide) rfl KV_X8_clear k_RX0_85 rfl rfl rfl (Nat.le_of_ble_eq_true rfl) ⟨Nat.le_of_ble_eq_true rfl, Nat.le_of_ble_eq_true rfl⟩ dX0_clear_34 (fun S12 h => ?_)
  exact V_vret C D dX0_clear_37 h
/-! HalfAccuser.copy([J[J)V -/
theorem dX10_copy__0 : decode cX10_copy_ 0 = .ok ((.aload_n 0), 1) := by decide +kernel
theorem dX10_copy__1 : decode cX10_copy_ 1 = .ok ((.iconst 0), 1) := by decide +kernel
theorem dX10_copy__2 : decode cX10_copy_ 2 = .ok ((.aload_n 1), 1) := by decide +kernel
theorem dX10_copy__3 : decode cX10_copy_ 3 = .ok ((.iconst 0), 1) := by decide +kernel
theorem dX10_copy__4 : decode cX10_copy_ 4 = .ok ((.aload_n 0), 1) := by decide +kernel
theorem dX10_copy__5 : decode cX10_copy_ 5 = .ok (.arraylength, 1) := by decide +kernel
theorem dX10_copy__6 : decode cX10_copy_ 6 = .ok ((.aload_n 1), 1) := by decide +kernel
theorem dX10_copy__7 : decode cX10_copy_ 7 = .ok (.arraylength, 1) := by decide +kernel
theorem dX10_copy__8 : decode cX10_copy_ 8 = .ok ((.invokestatic 455), 3) := by decide +kernel
theorem dX10_copy__11 : decode cX10_copy_ 11 = .ok ((.invokestatic 458), 3) := by decide +kernel
theorem dX10_copy__14 : decode cX10_copy_ 14 = .ok (.return_, 1) := by decide +kernel
def p_X10_copy_ (k0 n0 k1 n1 : Nat)  (S : vSt)  (post : vSt → Prop) : Prop := (v_cpo 0 0 (v_mini (Int32.ofNat n0) (Int32.ofNat n1)) n0 n1 ∧ ∀ S2, S2 = v_cl S k0 k1 (Int32.toNatClampNeg 0) (Int32.toNatClampNeg 0) (Int32.toNatClampNeg (v_mini (Int32.ofNat n0) (Int32.ofNat n1))) → post S2)
set_option maxHeartbeats 4000000 in
set_option maxRecDepth 100000 in
theorem c_X10_copy_ (l : Launch) (G : vG)  {k0 n0 : Nat} (hk0 : k0 < 145) (hs0 : v_sh k0 = (14, n0)) {k1 n1 : Nat} (hk1 : k1 < 145) (hs1 : v_sh k1 = (14, n1))  {S : vSt}  (post : vSt → Prop) (h : p_X10_copy_ k0 n0 k1 n1  S  post) : Met l yX10_copy_ (v_ws yX10_copy_ cX10_copy_ 2 none) (v_rm 1 80) (v_Pc G [.ref (G.1 k0), .ref (G.1 k1)] S) (v_Qv G post) 0 0 (v_A G) := by
  refine v_start (by decide +kernel) (Nat.le_of_ble_eq_true rfl) (fun X hl C D => ?_)
  subst hl
  have C : v_Cx X G cX10_copy_ RX10 2 (v_rm 1 80) := C
  show VJ X G S 0 [(0, .ref (G.1 k0)), (1, .ref (G.1 k1))] []
  refine V_aload_n C 0 dX10_copy__0 rfl rfl ?_
  refine V_iconst (v := 0) C dX10_copy__1 (by decide) ?_
  refine V_aload_n C 1 dX10_copy__2 rfl rfl ?_
  refine V_iconst (v := 0) C dX10_copy__3 (by decide) ?_
  refine V_aload_n C 0 dX10_copy__4 rfl rfl ?_
  refine V_alen C k0 n0 hk0 (Or.inr (Or.inr (Or.inl hs0))) dX10_copy__5 ?_
  refine V_aload_n C 1 dX10_copy__6 rfl rfl ?_
  refine V_alen C k1 n1 hk1 (Or.inr (Or.inr (Or.inl hs1))) dX10_copy__7 ?_
  refine V_mini C k_RX10_455 (Nat.le_of_ble_eq_true rfl) ⟨Nat.le_of_ble_eq_true rfl, Nat.le_of_ble_eq_true rfl⟩ dX10_copy__8 ?_
  obtain ⟨ho, h⟩ := h
  refine V_copyl C k0 k1 n0 n1 hk0 hs0 hk1 hs1 ho k_RX10_458 (Nat.le_of_ble_eq_true rfl) ⟨Nat.le_of_ble_eq_true rfl, by decide +kernel⟩ dX10_copy__11 ?_
  refine V_topS (fun S2 eS2 => ?_)
  have h := h S2 eS2
  exact V_vret C D dX10_copy__14 h
/-! HalfAccuser$Years.copyFrom(LHalfAccuser$Years;)V -/
theorem dX8_copyFrom_0 : decode cX8_copyFrom 0 = .ok ((.aload_n 1), 1) := by decide +kernel
theorem dX8_copyFrom_1 : decode cX8_copyFrom 1 = .ok ((.getfield 11), 3) := by decide +kernel
theorem dX8_copyFrom_4 : decode cX8_copyFrom 4 = .ok ((.aload_n 0), 1) := by decide +kernel
theorem dX8_copyFrom_5 : decode cX8_copyFrom 5 = .ok ((.getfield 11), 3) := by decide +kernel
theorem dX8_copyFrom_8 : decode cX8_copyFrom 8 = .ok ((.invokestatic 41), 3) := by decide +kernel
theorem dX8_copyFrom_11 : decode cX8_copyFrom 11 = .ok ((.aload_n 1), 1) := by decide +kernel
theorem dX8_copyFrom_12 : decode cX8_copyFrom 12 = .ok ((.getfield 15), 3) := by decide +kernel
theorem dX8_copyFrom_15 : decode cX8_copyFrom 15 = .ok ((.aload_n 0), 1) := by decide +kernel
theorem dX8_copyFrom_16 : decode cX8_copyFrom 16 = .ok ((.getfield 15), 3) := by decide +kernel
theorem dX8_copyFrom_19 : decode cX8_copyFrom 19 = .ok ((.invokestatic 41), 3) := by decide +kernel
theorem dX8_copyFrom_22 : decode cX8_copyFrom 22 = .ok ((.aload_n 1), 1) := by decide +kernel
theorem dX8_copyFrom_23 : decode cX8_copyFrom 23 = .ok ((.getfield 18), 3) := by decide +kernel
theorem dX8_copyFrom_26 : decode cX8_copyFrom 26 = .ok ((.aload_n 0), 1) := by decide +kernel
theorem dX8_copyFrom_27 : decode cX8_copyFrom 27 = .ok ((.getfield 18), 3) := by decide +kernel
theorem dX8_copyFrom_30 : decode cX8_copyFrom 30 = .ok ((.invokestatic 41), 3) := by decide +kernel
theorem dX8_copyFrom_33 : decode cX8_copyFrom 33 = .ok ((.aload_n 1), 1) := by decide +kernel
theorem dX8_copyFrom_34 : decode cX8_copyFrom 34 = .ok ((.getfield 21), 3) := by decide +kernel
theorem dX8_copyFrom_37 : decode cX8_copyFrom 37 = .ok ((.aload_n 0), 1) := by decide +kernel
theorem dX8_copyFrom_38 : decode cX8_copyFrom 38 = .ok ((.getfield 21), 3) := by decide +kernel
theorem dX8_copyFrom_41 : decode cX8_copyFrom 41 = .ok ((.invokestatic 41), 3) := by decide +kernel
theorem dX8_copyFrom_44 : decode cX8_copyFrom 44 = .ok ((.aload_n 1), 1) := by decide +kernel
theorem dX8_copyFrom_45 : decode cX8_copyFrom 45 = .ok ((.getfield 24), 3) := by decide +kernel
theorem dX8_copyFrom_48 : decode cX8_copyFrom 48 = .ok ((.aload_n 0), 1) := by decide +kernel
theorem dX8_copyFrom_49 : decode cX8_copyFrom 49 = .ok ((.getfield 24), 3) := by decide +kernel
theorem dX8_copyFrom_52 : decode cX8_copyFrom 52 = .ok ((.invokestatic 41), 3) := by decide +kernel
theorem dX8_copyFrom_55 : decode cX8_copyFrom 55 = .ok ((.aload_n 0), 1) := by decide +kernel
theorem dX8_copyFrom_56 : decode cX8_copyFrom 56 = .ok ((.aload_n 1), 1) := by decide +kernel
theorem dX8_copyFrom_57 : decode cX8_copyFrom 57 = .ok ((.getfield 30), 3) := by decide +kernel
theorem dX8_copyFrom_60 : decode cX8_copyFrom 60 = .ok ((.putfield 30), 3) := by decide +kernel
theorem dX8_copyFrom_63 : decode cX8_copyFrom 63 = .ok ((.aload_n 0), 1) := by decide +kernel
theorem dX8_copyFrom_64 : decode cX8_copyFrom 64 = .ok ((.aload_n 1), 1) := by decide +kernel
theorem dX8_copyFrom_65 : decode cX8_copyFrom 65 = .ok ((.getfield 34), 3) := by decide +kernel
theorem dX8_copyFrom_68 : decode cX8_copyFrom 68 = .ok ((.putfield 34), 3) := by decide +kernel
theorem dX8_copyFrom_71 : decode cX8_copyFrom 71 = .ok ((.aload_n 0), 1) := by decide +kernel
theorem dX8_copyFrom_72 : decode cX8_copyFrom 72 = .ok ((.aload_n 1), 1) := by decide +kernel
theorem dX8_copyFrom_73 : decode cX8_copyFrom 73 = .ok ((.getfield 37), 3) := by decide +kernel
theorem dX8_copyFrom_76 : decode cX8_copyFrom 76 = .ok ((.putfield 37), 3) := by decide +kernel
theorem dX8_copyFrom_79 : decode cX8_copyFrom 79 = .ok (.return_, 1) := by decide +kernel
def p_X8_copyFrom (b b1 : Nat)  (S : vSt)  (post : vSt → Prop) : Prop := p_X10_copy (b1 + 16) 60 (b + 16) 60 S  (fun S9 => p_X10_copy (b1 + 17) 60 (b + 17) 60 S9  (fun S10 => p_X10_copy (b1 + 18) 60 (b + 18) 60 S10  (fun S11 => p_X10_copy (b1 + 19) 60 (b + 19) 60 S11  (fun S12 => p_X10_copy (b1 + 20) 60 (b + 20) 60 S12  (fun S13 => ∀ S14, S14 = v_si S13 (b + 15) 6 (S13.1 (b1 + 15) 6) → ∀ S15, S15 = v_si S14 (b + 15) 7 (S14.1 (b1 + 15) 7) → (v_isb (S15.1 (b1 + 15) 8) ∧ ∀ S16, S16 = v_si S15 (b + 15) 8 (S15.1 (b1 + 15) 8) → post S16))))))
set_option maxHeartbeats 4000000 in
set_option maxRecDepth 100000 in
theorem c_X8_copyFrom (l : Launch) (G : vG)  {b : Nat} (hb : v_isC b) {b1 : Nat} (hb1 : v_isC b1)  {S : vSt}  (post : vSt → Prop) (h : p_X8_copyFrom b b1  S  post) : Met l yX8_copyFrom (v_ws yX8_copyFrom cX8_copyFrom 2 none) (v_rm 2 101) (v_Pc G [.ref (G.1 (b + 15)), .ref (G.1 (b1 + 15))] S) (v_Qv G post) 0 0 (v_A G) := by
  refine v_start (by decide +kernel) (Nat.le_of_ble_eq_true rfl) (fun X hl C D => ?_)
  subst hl
  have C : v_Cx X G cX8_copyFrom RX8 2 (v_rm 2 101) := C
  show VJ X G S 0 [(0, .ref (G.1 (b + 15))), (1, .ref (G.1 (b1 + 15)))] []
  refine V_aload_n C 1 dX8_copyFrom_0 rfl rfl ?_
  refine V_gr C (b1 + 15) (v_cb hb1 15 (by decide)) (v_co15 hb1) F_8_0 k_RX8_11 dX8_copyFrom_1 ?_
  refine V_aload_n C 0 dX8_copyFrom_4 rfl rfl ?_
  refine V_gr C (b + 15) (v_cb hb 15 (by decide)) (v_co15 hb) F_8_0 k_RX8_11 dX8_copyFrom_5 ?_
  refine V_callSNv (As := [.ref (G.1 (b1 + 16)), .ref (G.1 (b + 16))]) (rest := []) C (c_X10_copy (v_l X) G (v_cb hb1 16 (by decide)) (v_ca16 hb1) (v_cb hb 16 (by decide)) (v_ca16 hb) _ h) KV_X10_copy (List.mem_of_getElem? (i := 23) rfl) rfl rfl rfl (Nat.le_of_ble_eq_true rfl) ⟨Nat.le_of_ble_eq_true rfl, Nat.le_of_ble_eq_true rfl⟩ dX8_copyFrom_8 (fun S9 h => ?_)
  refine V_aload_n C 1 dX8_copyFrom_11 rfl rfl ?_
  refine V_gr C (b1 + 15) (v_cb hb1 15 (by decide)) (v_co15 hb1) F_8_1 k_RX8_15 dX8_copyFrom_12 ?_
  refine V_aload_n C 0 dX8_copyFrom_15 rfl rfl ?_
  refine V_gr C (b + 15) (v_cb hb 15 (by decide)) (v_co15 hb) F_8_1 k_RX8_15 dX8_copyFrom_16 ?_
  refine V_callSNv (As := [.ref (G.1 (b1 + 17)), .ref (G.1 (b + 17))]) (rest := []) C (c_X10_copy (v_l X) G (v_cb hb1 17 (by decide)) (v_ca17 hb1) (v_cb hb 17 (by decide)) (v_ca17 hb) _ h) KV_X10_copy (List.mem_of_getElem? (i := 23) rfl) rfl rfl rfl (Nat.le_of_ble_eq_true rfl) ⟨Nat.le_of_ble_eq_true rfl, Nat.le_of_ble_eq_true rfl⟩ dX8_copyFrom_19 (fun S10 h => ?_)
  refine V_aload_n C 1 dX8_copyFrom_22 rfl rfl ?_
  refine V_gr C (b1 + 15) (v_cb hb1 15 (by decide)) (v_co15 hb1) F_8_2 k_RX8_18 dX8_copyFrom_23 ?_
  refine V_aload_n C 0 dX8_copyFrom_26 rfl rfl ?_
  refine V_gr C (b + 15) (v_cb hb 15 (by decide)) (v_co15 hb) F_8_2 k_RX8_18 dX8_copyFrom_27 ?_
  refine V_callSNv (As := [.ref (G.1 (b1 + 18)), .ref (G.1 (b + 18))]) (rest := []) C (c_X10_copy (v_l X) G (v_cb hb1 18 (by decide)) (v_ca18 hb1) (v_cb hb 18 (by decide)) (v_ca18 hb) _ h) KV_X10_copy (List.mem_of_getElem? (i := 23) rfl) rfl rfl rfl (Nat.le_of_ble_eq_true rfl) ⟨Nat.le_of_ble_eq_true rfl, Nat.le_of_ble_eq_true rfl⟩ dX8_copyFrom_30 (fun S11 h => ?_)
  refine V_aload_n C 1 dX8_copyFrom_33 rfl rfl ?_
  refine V_gr C (b1 + 15) (v_cb hb1 15 (by decide)) (v_co15 hb1) F_8_3 k_RX8_21 dX8_copyFrom_34 ?_
  refine V_aload_n C 0 dX8_copyFrom_37 rfl rfl ?_
  refine V_gr C (b + 15) (v_cb hb 15 (by decide)) (v_co15 hb) F_8_3 k_RX8_21 dX8_copyFrom_38 ?_
  refine V_callSNv (As := [.ref (G.1 (b1 + 19)), .ref (G.1 (b + 19))]) (rest := []) C (c_X10_copy (v_l X) G (v_cb hb1 19 (by decide)) (v_ca19 hb1) (v_cb hb 19 (by decide)) (v_ca19 hb) _ h) KV_X10_copy (List.mem_of_getElem? (i := 23) rfl) rfl rfl rfl (Nat.le_of_ble_eq_true rfl) ⟨Nat.le_of_ble_eq_true rfl, Nat.le_of_ble_eq_true rfl⟩ dX8_copyFrom_41 (fun S12 h => ?_)
  refine V_aload_n C 1 dX8_copyFrom_44 rfl rfl ?_
  refine V_gr C (b1 + 15) (v_cb hb1 15 (by decide)) (v_co15 hb1) F_8_4 k_RX8_24 dX8_copyFrom_45 ?_
  refine V_aload_n C 0 dX8_copyFrom_48 rfl rfl ?_
  refine V_gr C (b + 15) (v_cb hb 15 (by decide)) (v_co15 hb) F_8_4 k_RX8_24 dX8_copyFrom_49 ?_
  refine V_callSNv (As := [.ref (G.1 (b1 + 20)), .ref (G.1 (b + 20))]) (rest := []) C (c_X10_copy (v_l X) G (v_cb hb1 20 (by decide)) (v_ca20 hb1) (v_cb hb 20 (by decide)) (v_ca20 hb) _ h) KV_X10_copy (List.mem_of_getElem? (i := 23) rfl) rfl rfl rfl (Nat.le_of_ble_eq_true rfl) ⟨Nat.le_of_ble_eq_true rfl, Nat.le_of_ble_eq_true rfl⟩ dX8_copyFrom_52 (fun S13 h => ?_)
  refine V_aload_n C 0 dX8_copyFrom_55 rfl rfl ?_
  refine V_aload_n C 1 dX8_copyFrom_56 rfl rfl ?_
  refine V_gi C (b1 + 15) (v_cb hb1 15 (by decide)) (v_co15 hb1) F_8_6 k_RX8_30 dX8_copyFrom_57 ?_
  refine V_pi C (b + 15) (v_cb hb 15 (by decide)) (v_co15 hb) P_8_6 k_RX8_30 dX8_copyFrom_60 ?_
  refine V_topS (fun S14 eS14 => ?_)
  have h := h S14 eS14
  refine V_aload_n C 0 dX8_copyFrom_63 rfl rfl ?_
  refine V_aload_n C 1 dX8_copyFrom_64 rfl rfl ?_
  refine V_gi C (b1 + 15) (v_cb hb1 15 (by decide)) (v_co15 hb1) F_8_7 k_RX8_34 dX8_copyFrom_65 ?_
  refine V_pi C (b + 15) (v_cb hb 15 (by decide)) (v_co15 hb) P_8_7 k_RX8_34 dX8_copyFrom_68 ?_
  refine V_topS (fun S15 eS15 => ?_)
  have h := h S15 eS15
  refine V_aload_n C 0 dX8_copyFrom_71 rfl rfl ?_
  refine V_aload_n C 1 dX8_copyFrom_72 rfl rfl ?_
  refine V_gi C (b1 + 15) (v_cb hb1 15 (by decide)) (v_co15 hb1) F_8_8 k_RX8_37 dX8_copyFrom_73 ?_
  obtain ⟨hz, h⟩ := h
  refine V_pz C (b + 15) (v_cb hb 15 (by decide)) (v_co15 hb) P_8_8 k_RX8_37 hz dX8_copyFrom_76 ?_
  refine V_topS (fun S16 eS16 => ?_)
  have h := h S16 eS16
  exact V_vret C D dX8_copyFrom_79 h
/-! HalfAccuser$City.copyFrom(LHalfAccuser$City;)V -/
theorem dX0_copyFrom_0 : decode cX0_copyFrom 0 = .ok ((.aload_n 1), 1) := by decide +kernel
theorem dX0_copyFrom_1 : decode cX0_copyFrom 1 = .ok ((.getfield 9), 3) := by decide +kernel
theorem dX0_copyFrom_4 : decode cX0_copyFrom 4 = .ok ((.aload_n 0), 1) := by decide +kernel
theorem dX0_copyFrom_5 : decode cX0_copyFrom 5 = .ok ((.getfield 9), 3) := by decide +kernel
theorem dX0_copyFrom_8 : decode cX0_copyFrom 8 = .ok ((.invokestatic 68), 3) := by decide +kernel
theorem dX0_copyFrom_11 : decode cX0_copyFrom 11 = .ok ((.aload_n 1), 1) := by decide +kernel
theorem dX0_copyFrom_12 : decode cX0_copyFrom 12 = .ok ((.getfield 15), 3) := by decide +kernel
theorem dX0_copyFrom_15 : decode cX0_copyFrom 15 = .ok ((.aload_n 0), 1) := by decide +kernel
theorem dX0_copyFrom_16 : decode cX0_copyFrom 16 = .ok ((.getfield 15), 3) := by decide +kernel
theorem dX0_copyFrom_19 : decode cX0_copyFrom 19 = .ok ((.invokestatic 86), 3) := by decide +kernel
theorem dX0_copyFrom_22 : decode cX0_copyFrom 22 = .ok ((.aload_n 1), 1) := by decide +kernel
theorem dX0_copyFrom_23 : decode cX0_copyFrom 23 = .ok ((.getfield 19), 3) := by decide +kernel
theorem dX0_copyFrom_26 : decode cX0_copyFrom 26 = .ok ((.aload_n 0), 1) := by decide +kernel
theorem dX0_copyFrom_27 : decode cX0_copyFrom 27 = .ok ((.getfield 19), 3) := by decide +kernel
theorem dX0_copyFrom_30 : decode cX0_copyFrom 30 = .ok ((.invokestatic 68), 3) := by decide +kernel
theorem dX0_copyFrom_33 : decode cX0_copyFrom 33 = .ok ((.aload_n 1), 1) := by decide +kernel
theorem dX0_copyFrom_34 : decode cX0_copyFrom 34 = .ok ((.getfield 22), 3) := by decide +kernel
theorem dX0_copyFrom_37 : decode cX0_copyFrom 37 = .ok ((.aload_n 0), 1) := by decide +kernel
theorem dX0_copyFrom_38 : decode cX0_copyFrom 38 = .ok ((.getfield 22), 3) := by decide +kernel
theorem dX0_copyFrom_41 : decode cX0_copyFrom 41 = .ok ((.invokestatic 68), 3) := by decide +kernel
theorem dX0_copyFrom_44 : decode cX0_copyFrom 44 = .ok ((.aload_n 1), 1) := by decide +kernel
theorem dX0_copyFrom_45 : decode cX0_copyFrom 45 = .ok ((.getfield 25), 3) := by decide +kernel
theorem dX0_copyFrom_48 : decode cX0_copyFrom 48 = .ok ((.aload_n 0), 1) := by decide +kernel
theorem dX0_copyFrom_49 : decode cX0_copyFrom 49 = .ok ((.getfield 25), 3) := by decide +kernel
theorem dX0_copyFrom_52 : decode cX0_copyFrom 52 = .ok ((.invokestatic 68), 3) := by decide +kernel
theorem dX0_copyFrom_55 : decode cX0_copyFrom 55 = .ok ((.aload_n 1), 1) := by decide +kernel
theorem dX0_copyFrom_56 : decode cX0_copyFrom 56 = .ok ((.getfield 28), 3) := by decide +kernel
theorem dX0_copyFrom_59 : decode cX0_copyFrom 59 = .ok ((.aload_n 0), 1) := by decide +kernel
theorem dX0_copyFrom_60 : decode cX0_copyFrom 60 = .ok ((.getfield 28), 3) := by decide +kernel
theorem dX0_copyFrom_63 : decode cX0_copyFrom 63 = .ok ((.invokestatic 68), 3) := by decide +kernel
theorem dX0_copyFrom_66 : decode cX0_copyFrom 66 = .ok ((.aload_n 1), 1) := by decide +kernel
theorem dX0_copyFrom_67 : decode cX0_copyFrom 67 = .ok ((.getfield 31), 3) := by decide +kernel
theorem dX0_copyFrom_70 : decode cX0_copyFrom 70 = .ok ((.aload_n 0), 1) := by decide +kernel
theorem dX0_copyFrom_71 : decode cX0_copyFrom 71 = .ok ((.getfield 31), 3) := by decide +kernel
theorem dX0_copyFrom_74 : decode cX0_copyFrom 74 = .ok ((.invokestatic 68), 3) := by decide +kernel
theorem dX0_copyFrom_77 : decode cX0_copyFrom 77 = .ok ((.aload_n 1), 1) := by decide +kernel
theorem dX0_copyFrom_78 : decode cX0_copyFrom 78 = .ok ((.getfield 34), 3) := by decide +kernel
theorem dX0_copyFrom_81 : decode cX0_copyFrom 81 = .ok ((.aload_n 0), 1) := by decide +kernel
theorem dX0_copyFrom_82 : decode cX0_copyFrom 82 = .ok ((.getfield 34), 3) := by decide +kernel
theorem dX0_copyFrom_85 : decode cX0_copyFrom 85 = .ok ((.invokestatic 86), 3) := by decide +kernel
theorem dX0_copyFrom_88 : decode cX0_copyFrom 88 = .ok ((.aload_n 1), 1) := by decide +kernel
theorem dX0_copyFrom_89 : decode cX0_copyFrom 89 = .ok ((.getfield 37), 3) := by decide +kernel
theorem dX0_copyFrom_92 : decode cX0_copyFrom 92 = .ok ((.aload_n 0), 1) := by decide +kernel
theorem dX0_copyFrom_93 : decode cX0_copyFrom 93 = .ok ((.getfield 37), 3) := by decide +kernel
theorem dX0_copyFrom_96 : decode cX0_copyFrom 96 = .ok ((.invokestatic 68), 3) := by decide +kernel
theorem dX0_copyFrom_99 : decode cX0_copyFrom 99 = .ok ((.aload_n 1), 1) := by decide +kernel
theorem dX0_copyFrom_100 : decode cX0_copyFrom 100 = .ok ((.getfield 40), 3) := by decide +kernel
theorem dX0_copyFrom_103 : decode cX0_copyFrom 103 = .ok ((.aload_n 0), 1) := by decide +kernel
theorem dX0_copyFrom_104 : decode cX0_copyFrom 104 = .ok ((.getfield 40), 3) := by decide +kernel
theorem dX0_copyFrom_107 : decode cX0_copyFrom 107 = .ok ((.invokestatic 68), 3) := by decide +kernel
theorem dX0_copyFrom_110 : decode cX0_copyFrom 110 = .ok ((.aload_n 1), 1) := by decide +kernel
theorem dX0_copyFrom_111 : decode cX0_copyFrom 111 = .ok ((.getfield 43), 3) := by decide +kernel
theorem dX0_copyFrom_114 : decode cX0_copyFrom 114 = .ok ((.aload_n 0), 1) := by decide +kernel
theorem dX0_copyFrom_115 : decode cX0_copyFrom 115 = .ok ((.getfield 43), 3) := by decide +kernel
theorem dX0_copyFrom_118 : decode cX0_copyFrom 118 = .ok ((.invokestatic 68), 3) := by decide +kernel
theorem dX0_copyFrom_121 : decode cX0_copyFrom 121 = .ok ((.aload_n 1), 1) := by decide +kernel
theorem dX0_copyFrom_122 : decode cX0_copyFrom 122 = .ok ((.getfield 46), 3) := by decide +kernel
theorem dX0_copyFrom_125 : decode cX0_copyFrom 125 = .ok ((.aload_n 0), 1) := by decide +kernel
theorem dX0_copyFrom_126 : decode cX0_copyFrom 126 = .ok ((.getfield 46), 3) := by decide +kernel
theorem dX0_copyFrom_129 : decode cX0_copyFrom 129 = .ok ((.invokestatic 68), 3) := by decide +kernel
theorem dX0_copyFrom_132 : decode cX0_copyFrom 132 = .ok ((.aload_n 1), 1) := by decide +kernel
theorem dX0_copyFrom_133 : decode cX0_copyFrom 133 = .ok ((.getfield 49), 3) := by decide +kernel
theorem dX0_copyFrom_136 : decode cX0_copyFrom 136 = .ok ((.aload_n 0), 1) := by decide +kernel
theorem dX0_copyFrom_137 : decode cX0_copyFrom 137 = .ok ((.getfield 49), 3) := by decide +kernel
theorem dX0_copyFrom_140 : decode cX0_copyFrom 140 = .ok ((.invokestatic 68), 3) := by decide +kernel
theorem dX0_copyFrom_143 : decode cX0_copyFrom 143 = .ok ((.aload_n 1), 1) := by decide +kernel
theorem dX0_copyFrom_144 : decode cX0_copyFrom 144 = .ok ((.getfield 52), 3) := by decide +kernel
theorem dX0_copyFrom_147 : decode cX0_copyFrom 147 = .ok ((.aload_n 0), 1) := by decide +kernel
theorem dX0_copyFrom_148 : decode cX0_copyFrom 148 = .ok ((.getfield 52), 3) := by decide +kernel
theorem dX0_copyFrom_151 : decode cX0_copyFrom 151 = .ok ((.invokestatic 68), 3) := by decide +kernel
theorem dX0_copyFrom_154 : decode cX0_copyFrom 154 = .ok ((.aload_n 0), 1) := by decide +kernel
theorem dX0_copyFrom_155 : decode cX0_copyFrom 155 = .ok ((.getfield 58), 3) := by decide +kernel
theorem dX0_copyFrom_158 : decode cX0_copyFrom 158 = .ok ((.aload_n 1), 1) := by decide +kernel
theorem dX0_copyFrom_159 : decode cX0_copyFrom 159 = .ok ((.getfield 58), 3) := by decide +kernel
theorem dX0_copyFrom_162 : decode cX0_copyFrom 162 = .ok ((.invokevirtual 89), 3) := by decide +kernel
theorem dX0_copyFrom_165 : decode cX0_copyFrom 165 = .ok ((.aload_n 0), 1) := by decide +kernel
theorem dX0_copyFrom_166 : decode cX0_copyFrom 166 = .ok ((.aload_n 1), 1) := by decide +kernel
theorem dX0_copyFrom_167 : decode cX0_copyFrom 167 = .ok ((.getfield 72), 3) := by decide +kernel
theorem dX0_copyFrom_170 : decode cX0_copyFrom 170 = .ok ((.putfield 72), 3) := by decide +kernel
theorem dX0_copyFrom_173 : decode cX0_copyFrom 173 = .ok ((.aload_n 0), 1) := by decide +kernel
theorem dX0_copyFrom_174 : decode cX0_copyFrom 174 = .ok ((.aload_n 1), 1) := by decide +kernel
theorem dX0_copyFrom_175 : decode cX0_copyFrom 175 = .ok ((.getfield 76), 3) := by decide +kernel
theorem dX0_copyFrom_178 : decode cX0_copyFrom 178 = .ok ((.putfield 76), 3) := by decide +kernel
theorem dX0_copyFrom_181 : decode cX0_copyFrom 181 = .ok ((.aload_n 0), 1) := by decide +kernel
theorem dX0_copyFrom_182 : decode cX0_copyFrom 182 = .ok ((.aload_n 1), 1) := by decide +kernel
theorem dX0_copyFrom_183 : decode cX0_copyFrom 183 = .ok ((.getfield 79), 3) := by decide +kernel
theorem dX0_copyFrom_186 : decode cX0_copyFrom 186 = .ok ((.putfield 79), 3) := by decide +kernel
theorem dX0_copyFrom_189 : decode cX0_copyFrom 189 = .ok ((.aload_n 0), 1) := by decide +kernel
theorem dX0_copyFrom_190 : decode cX0_copyFrom 190 = .ok ((.aload_n 1), 1) := by decide +kernel
theorem dX0_copyFrom_191 : decode cX0_copyFrom 191 = .ok ((.getfield 82), 3) := by decide +kernel
theorem dX0_copyFrom_194 : decode cX0_copyFrom 194 = .ok ((.putfield 82), 3) := by decide +kernel
theorem dX0_copyFrom_197 : decode cX0_copyFrom 197 = .ok (.return_, 1) := by decide +kernel
def p_X0_copyFrom (b b1 : Nat)  (S : vSt)  (post : vSt → Prop) : Prop := p_X10_copy (b1 + 1) 4 (b + 1) 4 S  (fun S20 => p_X10_copy_ (b1 + 2) 8 (b + 2) 8 S20  (fun S21 => p_X10_copy (b1 + 3) 8 (b + 3) 8 S21  (fun S22 => p_X10_copy (b1 + 4) 8 (b + 4) 8 S22  (fun S23 => p_X10_copy (b1 + 5) 8 (b + 5) 8 S23  (fun S24 => p_X10_copy (b1 + 6) 8 (b + 6) 8 S24  (fun S25 => p_X10_copy (b1 + 7) 8 (b + 7) 8 S25  (fun S26 => p_X10_copy_ (b1 + 8) 10 (b + 8) 10 S26  (fun S27 => p_X10_copy (b1 + 9) 10 (b + 9) 10 S27  (fun S28 => p_X10_copy (b1 + 10) 10 (b + 10) 10 S28  (fun S29 => p_X10_copy (b1 + 11) 10 (b + 11) 10 S29  (fun S30 => p_X10_copy (b1 + 12) 10 (b + 12) 10 S30  (fun S31 => p_X10_copy (b1 + 13) 10 (b + 13) 10 S31  (fun S32 => p_X10_copy (b1 + 14) 10 (b + 14) 10 S32  (fun S33 => p_X8_copyFrom b b1 S33  (fun S34 => ∀ S35, S35 = v_si S34 b 15 (S34.1 b1 15) → ∀ S36, S36 = v_si S35 b 16 (S35.1 b1 16) → ∀ S37, S37 = v_si S36 b 17 (S36.1 b1 17) → ∀ S38, S38 = v_si S37 b 18 (S37.1 b1 18) → post S38)))))))))))))))
set_option maxHeartbeats 4000000 in
set_option maxRecDepth 100000 in
theorem c_X0_copyFrom (l : Launch) (G : vG)  {b : Nat} (hb : v_isC b) {b1 : Nat} (hb1 : v_isC b1)  {S : vSt}  (post : vSt → Prop) (h : p_X0_copyFrom b b1  S  post) : Met l yX0_copyFrom (v_ws yX0_copyFrom cX0_copyFrom 2 none) (v_rm 3 122) (v_Pc G [.ref (G.1 b), .ref (G.1 b1)] S) (v_Qv G post) 0 0 (v_A G) := by
  refine v_start (by decide +kernel) (Nat.le_of_ble_eq_true rfl) (fun X hl C D => ?_)
  subst hl
  have C : v_Cx X G cX0_copyFrom RX0 2 (v_rm 3 122) := C
  show VJ X G S 0 [(0, .ref (G.1 b)), (1, .ref (G.1 b1))] []
  refine V_aload_n C 1 dX0_copyFrom_0 rfl rfl ?_
  refine V_gr C b1 (v_cb hb1 0 (by decide)) (v_co0 hb1) F_0_0 k_RX0_9 dX0_copyFrom_1 ?_
  refine V_aload_n C 0 dX0_copyFrom_4 rfl rfl ?_
  refine V_gr C b (v_cb hb 0 (by decide)) (v_co0 hb) F_0_0 k_RX0_9 dX0_copyFrom_5 ?_
  refine V_callSNv (As := [.ref (G.1 (b1 + 1)), .ref (G.1 (b + 1))]) (rest := []) C (c_X10_copy (v_l X) G (v_cb hb1 1 (by decide)) (v_ca1 hb1) (v_cb hb 1 (by decide)) (v_ca1 hb) _ h) KV_X10_copy (List.mem_of_getElem? (i := 2) rfl) rfl rfl rfl (Nat.le_of_ble_eq_true rfl) ⟨Nat.le_of_ble_eq_true rfl, Nat.le_of_ble_eq_true rfl⟩ dX0_copyFrom_8 (fun S20 h => ?_)
  refine V_aload_n C 1 dX0_copyFrom_11 rfl rfl ?_
  refine V_gr C b1 (v_cb hb1 0 (by decide)) (v_co0 hb1) F_0_1 k_RX0_15 dX0_copyFrom_12 ?_
  refine V_aload_n C 0 dX0_copyFrom_15 rfl rfl ?_
  refine V_gr C b (v_cb hb 0 (by decide)) (v_co0 hb) F_0_1 k_RX0_15 dX0_copyFrom_16 ?_
  refine V_callSNv (As := [.ref (G.1 (b1 + 2)), .ref (G.1 (b + 2))]) (rest := []) C (c_X10_copy_ (v_l X) G (v_cb hb1 2 (by decide)) (v_ca2 hb1) (v_cb hb 2 (by decide)) (v_ca2 hb) _ h) KV_X10_copy_ (List.mem_of_getElem? (i := 22) rfl) rfl rfl rfl (Nat.le_of_ble_eq_true rfl) ⟨Nat.le_of_ble_eq_true rfl, Nat.le_of_ble_eq_true rfl⟩ dX0_copyFrom_19 (fun S21 h => ?_)
  refine V_aload_n C 1 dX0_copyFrom_22 rfl rfl ?_
  refine V_gr C b1 (v_cb hb1 0 (by decide)) (v_co0 hb1) F_0_2 k_RX0_19 dX0_copyFrom_23 ?_
  refine V_aload_n C 0 dX0_copyFrom_26 rfl rfl ?_
  refine V_gr C b (v_cb hb 0 (by decide)) (v_co0 hb) F_0_2 k_RX0_19 dX0_copyFrom_27 ?_
  refine V_callSNv (As := [.ref (G.1 (b1 + 3)), .ref (G.1 (b + 3))]) (rest := []) C (c_X10_copy (v_l X) G (v_cb hb1 3 (by decide)) (v_ca3 hb1) (v_cb hb 3 (by decide)) (v_ca3 hb) _ h) KV_X10_copy (List.mem_of_getElem? (i := 2) rfl) rfl rfl rfl (Nat.le_of_ble_eq_true rfl) ⟨Nat.le_of_ble_eq_true rfl, Nat.le_of_ble_eq_true rfl⟩ dX0_copyFrom_30 (fun S22 h => ?_)
  refine V_aload_n C 1 dX0_copyFrom_33 rfl rfl ?_
  refine V_gr C b1 (v_cb hb1 0 (by decide)) (v_co0 hb1) F_0_3 k_RX0_22 dX0_copyFrom_34 ?_
  refine V_aload_n C 0 dX0_copyFrom_37 rfl rfl ?_
  refine V_gr C b (v_cb hb 0 (by decide)) (v_co0 hb) F_0_3 k_RX0_22 dX0_copyFrom_38 ?_
  refine V_callSNv (As := [.ref (G.1 (b1 + 4)), .ref (G.1 (b + 4))]) (rest := []) C (c_X10_copy (v_l X) G (v_cb hb1 4 (by decide)) (v_ca4 hb1) (v_cb hb 4 (by decide)) (v_ca4 hb) _ h) KV_X10_copy (List.mem_of_getElem? (i := 2) rfl) rfl rfl rfl (Nat.le_of_ble_eq_true rfl) ⟨Nat.le_of_ble_eq_true rfl, Nat.le_of_ble_eq_true rfl⟩ dX0_copyFrom_41 (fun S23 h => ?_)
  refine V_aload_n C 1 dX0_copyFrom_44 rfl rfl ?_
  refine V_gr C b1 (v_cb hb1 0 (by decide)) (v_co0 hb1) F_0_4 k_RX0_25 dX0_copyFrom_45 ?_
  refine V_aload_n C 0 dX0_copyFrom_48 rfl rfl ?_
  refine V_gr C b (v_cb hb 0 (by decide)) (v_co0 hb) F_0_4 k_RX0_25 dX0_copyFrom_49 ?_
  refine V_callSNv (As := [.ref (G.1 (b1 + 5)), .ref (G.1 (b + 5))]) (rest := []) C (c_X10_copy (v_l X) G (v_cb hb1 5 (by decide)) (v_ca5 hb1) (v_cb hb 5 (by decide)) (v_ca5 hb) _ h) KV_X10_copy (List.mem_of_getElem? (i := 2) rfl) rfl rfl rfl (Nat.le_of_ble_eq_true rfl) ⟨Nat.le_of_ble_eq_true rfl, Nat.le_of_ble_eq_true rfl⟩ dX0_copyFrom_52 (fun S24 h => ?_)
  refine V_aload_n C 1 dX0_copyFrom_55 rfl rfl ?_
  refine V_gr C b1 (v_cb hb1 0 (by decide)) (v_co0 hb1) F_0_5 k_RX0_28 dX0_copyFrom_56 ?_
  refine V_aload_n C 0 dX0_copyFrom_59 rfl rfl ?_
  refine V_gr C b (v_cb hb 0 (by decide)) (v_co0 hb) F_0_5 k_RX0_28 dX0_copyFrom_60 ?_
  refine V_callSNv (As := [.ref (G.1 (b1 + 6)), .ref (G.1 (b + 6))]) (rest := []) C (c_X10_copy (v_l X) G (v_cb hb1 6 (by decide)) (v_ca6 hb1) (v_cb hb 6 (by decide)) (v_ca6 hb) _ h) KV_X10_copy (List.mem_of_getElem? (i := 2) rfl) rfl rfl rfl (Nat.le_of_ble_eq_true rfl) ⟨Nat.le_of_ble_eq_true rfl, Nat.le_of_ble_eq_true rfl⟩ dX0_copyFrom_63 (fun S25 h => ?_)
  refine V_aload_n C 1 dX0_copyFrom_66 rfl rfl ?_
  refine V_gr C b1 (v_cb hb1 0 (by decide)) (v_co0 hb1) F_0_6 k_RX0_31 dX0_copyFrom_67 ?_
  refine V_aload_n C 0 dX0_copyFrom_70 rfl rfl ?_
  refine V_gr C b (v_cb hb 0 (by decide)) (v_co0 hb) F_0_6 k_RX0_31 dX0_copyFrom_71 ?_
  refine V_callSNv (As := [.ref (G.1 (b1 + 7)), .ref (G.1 (b + 7))]) (rest := []) C (c_X10_copy (v_l X) G (v_cb hb1 7 (by decide)) (v_ca7 hb1) (v_cb hb 7 (by decide)) (v_ca7 hb) _ h) KV_X10_copy (List.mem_of_getElem? (i := 2) rfl) rfl rfl rfl (Nat.le_of_ble_eq_true rfl) ⟨Nat.le_of_ble_eq_true rfl, Nat.le_of_ble_eq_true rfl⟩ dX0_copyFrom_74 (fun S26 h => ?_)
  refine V_aload_n C 1 dX0_copyFrom_77 rfl rfl ?_
  refine V_gr C b1 (v_cb hb1 0 (by decide)) (v_co0 hb1) F_0_7 k_RX0_34 dX0_copyFrom_78 ?_
  refine V_aload_n C 0 dX0_copyFrom_81 rfl rfl ?_
  refine V_gr C b (v_cb hb 0 (by decide)) (v_co0 hb) F_0_7 k_RX0_34 dX0_copyFrom_82 ?_
  refine V_callSNv (As := [.ref (G.1 (b1 + 8)), .ref (G.1 (b + 8))]) (rest := []) C (c_X10_copy_ (v_l X) G (v_cb hb1 8 (by decide)) (v_ca8 hb1) (v_cb hb 8 (by decide)) (v_ca8 hb) _ h) KV_X10_copy_ (List.mem_of_getElem? (i := 22) rfl) rfl rfl rfl (Nat.le_of_ble_eq_true rfl) ⟨Nat.le_of_ble_eq_true rfl, Nat.le_of_ble_eq_true rfl⟩ dX0_copyFrom_85 (fun S27 h => ?_)
  refine V_aload_n C 1 dX0_copyFrom_88 rfl rfl ?_
  refine V_gr C b1 (v_cb hb1 0 (by decide)) (v_co0 hb1) F_0_8 k_RX0_37 dX0_copyFrom_89 ?_
  refine V_aload_n C 0 dX0_copyFrom_92 rfl rfl ?_
  refine V_gr C b (v_cb hb 0 (by decide)) (v_co0 hb) F_0_8 k_RX0_37 dX0_copyFrom_93 ?_
  refine V_callSNv (As := [.ref (G.1 (b1 + 9)), .ref (G.1 (b + 9))]) (rest := []) C (c_X10_copy (v_l X) G (v_cb hb1 9 (by decide)) (v_ca9 hb1) (v_cb hb 9 (by decide)) (v_ca9 hb) _ h) KV_X10_copy (List.mem_of_getElem? (i := 2) rfl) rfl rfl rfl (Nat.le_of_ble_eq_true rfl) ⟨Nat.le_of_ble_eq_true rfl, Nat.le_of_ble_eq_true rfl⟩ dX0_copyFrom_96 (fun S28 h => ?_)
  refine V_aload_n C 1 dX0_copyFrom_99 rfl rfl ?_
  refine V_gr C b1 (v_cb hb1 0 (by decide)) (v_co0 hb1) F_0_9 k_RX0_40 dX0_copyFrom_100 ?_
  refine V_aload_n C 0 dX0_copyFrom_103 rfl rfl ?_
  refine V_gr C b (v_cb hb 0 (by decide)) (v_co0 hb) F_0_9 k_RX0_40 dX0_copyFrom_104 ?_
  refine V_callSNv (As := [.ref (G.1 (b1 + 10)), .ref (G.1 (b + 10))]) (rest := []) C (c_X10_copy (v_l X) G (v_cb hb1 10 (by decide)) (v_ca10 hb1) (v_cb hb 10 (by decide)) (v_ca10 hb) _ h) KV_X10_copy (List.mem_of_getElem? (i := 2) rfl) rfl rfl rfl (Nat.le_of_ble_eq_true rfl) ⟨Nat.le_of_ble_eq_true rfl, Nat.le_of_ble_eq_true rfl⟩ dX0_copyFrom_107 (fun S29 h => ?_)
  refine V_aload_n C 1 dX0_copyFrom_110 rfl rfl ?_
  refine V_gr C b1 (v_cb hb1 0 (by decide)) (v_co0 hb1) F_0_10 k_RX0_43 dX0_copyFrom_111 ?_
  refine V_aload_n C 0 dX0_copyFrom_114 rfl rfl ?_
  refine V_gr C b (v_cb hb 0 (by decide)) (v_co0 hb) F_0_10 k_RX0_43 dX0_copyFrom_115 ?_
  refine V_callSNv (As := [.ref (G.1 (b1 + 11)), .ref (G.1 (b + 11))]) (rest := []) C (c_X10_copy (v_l X) G (v_cb hb1 11 (by decide)) (v_ca11 hb1) (v_cb hb 11 (by decide)) (v_ca11 hb) _ h) KV_X10_copy (List.mem_of_getElem? (i := 2) rfl) rfl rfl rfl (Nat.le_of_ble_eq_true rfl) ⟨Nat.le_of_ble_eq_true rfl, Nat.le_of_ble_eq_true rfl⟩ dX0_copyFrom_118 (fun S30 h => ?_)
  refine V_aload_n C 1 dX0_copyFrom_121 rfl rfl ?_
  refine V_gr C b1 (v_cb hb1 0 (by decide)) (v_co0 hb1) F_0_11 k_RX0_46 dX0_copyFrom_122 ?_
  refine V_aload_n C 0 dX0_copyFrom_125 rfl rfl ?_
  refine V_gr C b (v_cb hb 0 (by decide)) (v_co0 hb) F_0_11 k_RX0_46 dX0_copyFrom_126 ?_
  refine V_callSNv (As := [.ref (G.1 (b1 + 12)), .ref (G.1 (b + 12))]) (rest := []) C (c_X10_copy (v_l X) G (v_cb hb1 12 (by decide)) (v_ca12 hb1) (v_cb hb 12 (by decide)) (v_ca12 hb) _ h) KV_X10_copy (List.mem_of_getElem? (i := 2) rfl) rfl rfl rfl (Nat.le_of_ble_eq_true rfl) ⟨Nat.le_of_ble_eq_true rfl, Nat.le_of_ble_eq_true rfl⟩ dX0_copyFrom_129 (fun S31 h => ?_)
  refine V_aload_n C 1 dX0_copyFrom_132 rfl rfl ?_
  refine V_gr C b1 (v_cb hb1 0 (by decide)) (v_co0 hb1) F_0_12 k_RX0_49 dX0_copyFrom_133 ?_
  refine V_aload_n C 0 dX0_copyFrom_136 rfl rfl ?_
  refine V_gr C b (v_cb hb 0 (by decide)) (v_co0 hb) F_0_12 k_RX0_49 dX0_copyFrom_137 ?_
  refine V_callSNv (As := [.ref (G.1 (b1 + 13)), .ref (G.1 (b + 13))]) (rest := []) C (c_X10_copy (v_l X) G (v_cb hb1 13 (by decide)) (v_ca13 hb1) (v_cb hb 13 (by decide)) (v_ca13 hb) _ h) KV_X10_copy (List.mem_of_getElem? (i := 2) rfl) rfl rfl rfl (Nat.le_of_ble_eq_true rfl) ⟨Nat.le_of_ble_eq_true rfl, Nat.le_of_ble_eq_true rfl⟩ dX0_copyFrom_140 (fun S32 h => ?_)
  refine V_aload_n C 1 dX0_copyFrom_143 rfl rfl ?_
  refine V_gr C b1 (v_cb hb1 0 (by decide)) (v_co0 hb1) F_0_13 k_RX0_52 dX0_copyFrom_144 ?_
  refine V_aload_n C 0 dX0_copyFrom_147 rfl rfl ?_
  refine V_gr C b (v_cb hb 0 (by decide)) (v_co0 hb) F_0_13 k_RX0_52 dX0_copyFrom_148 ?_
  refine V_callSNv (As := [.ref (G.1 (b1 + 14)), .ref (G.1 (b + 14))]) (rest := []) C (c_X10_copy (v_l X) G (v_cb hb1 14 (by decide)) (v_ca14 hb1) (v_cb hb 14 (by decide)) (v_ca14 hb) _ h) KV_X10_copy (List.mem_of_getElem? (i := 2) rfl) rfl rfl rfl (Nat.le_of_ble_eq_true rfl) ⟨Nat.le_of_ble_eq_true rfl, Nat.le_of_ble_eq_true rfl⟩ dX0_copyFrom_151 (fun S33 h => ?_)
  refine V_aload_n C 0 dX0_copyFrom_154 rfl rfl ?_
  refine V_gr C b (v_cb hb 0 (by decide)) (v_co0 hb) F_0_14 k_RX0_58 dX0_copyFrom_155 ?_
  refine V_aload_n C 1 dX0_copyFrom_158 rfl rfl ?_
  refine V_gr C b1 (v_cb hb1 0 (by decide)) (v_co0 hb1) F_0_14 k_RX0_58 dX0_copyFrom_159 ?_
  refine V_callVv (As := [.ref (G.1 (b1 + 15))]) (rest := []) C (c_X8_copyFrom (v_l X) G hb hb1 _ h) (b + 15) 8 (v_cb hb 15 (by decide)) (v_co15 hb) (by decide) rfl KV_X8_copyFrom k_RX0_89 rfl rfl rfl (Nat.le_of_ble_eq_true rfl) ⟨Nat.le_of_ble_eq_true rfl, Nat.le_of_ble_eq_true rfl⟩ dX0_copyFrom_162 (fun S34 h => ?_)
  refine V_aload_n C 0 dX0_copyFrom_165 rfl rfl ?_
  refine V_aload_n C 1 dX0_copyFrom_166 rfl rfl ?_
  refine V_gi C b1 (v_cb hb1 0 (by decide)) (v_co0 hb1) F_0_15 k_RX0_72 dX0_copyFrom_167 ?_
  refine V_pi C b (v_cb hb 0 (by decide)) (v_co0 hb) P_0_15 k_RX0_72 dX0_copyFrom_170 ?_
  refine V_topS (fun S35 eS35 => ?_)
  have h := h S35 eS35
  refine V_aload_n C 0 dX0_copyFrom_173 rfl rfl ?_
  refine V_aload_n C 1 dX0_copyFrom_174 rfl rfl ?_
  refine V_gi C b1 (v_cb hb1 0 (by decide)) (v_co0 hb1) F_0_16 k_RX0_76 dX0_copyFrom_175 ?_
  refine V_pi C b (v_cb hb 0 (by decide)) (v_co0 hb) P_0_16 k_RX0_76 dX0_copyFrom_178 ?_
  refine V_topS (fun S36 eS36 => ?_)
  have h := h S36 eS36
  refine V_aload_n C 0 dX0_copyFrom_181 rfl rfl ?_
  refine V_aload_n C 1 dX0_copyFrom_182 rfl rfl ?_
  refine V_gi C b1 (v_cb hb1 0 (by decide)) (v_co0 hb1) F_0_17 k_RX0_79 dX0_copyFrom_183 ?_
  refine V_pi C b (v_cb hb 0 (by decide)) (v_co0 hb) P_0_17 k_RX0_79 dX0_copyFrom_186 ?_
  refine V_topS (fun S37 eS37 => ?_)
  have h := h S37 eS37
  refine V_aload_n C 0 dX0_copyFrom_189 rfl rfl ?_
  refine V_aload_n C 1 dX0_copyFrom_190 rfl rfl ?_
  refine V_gi C b1 (v_cb hb1 0 (by decide)) (v_co0 hb1) F_0_18 k_RX0_82 dX0_copyFrom_191 ?_
  refine V_pi C b (v_cb hb 0 (by decide)) (v_co0 hb) P_0_18 k_RX0_82 dX0_copyFrom_194 ?_
  refine V_topS (fun S38 eS38 => ?_)
  have h := h S38 eS38
  exact V_vret C D dX0_copyFrom_197 h
/-! HalfAccuser.put([III)V -/
theorem dX10_put_0 : decode cX10_put 0 = .ok ((.iload_n 1), 1) := by decide +kernel
theorem dX10_put_1 : decode cX10_put 1 = .ok ((.ifCond .lt 13), 3) := by decide +kernel
theorem dX10_put_4 : decode cX10_put 4 = .ok ((.iload_n 1), 1) := by decide +kernel
theorem dX10_put_5 : decode cX10_put 5 = .ok ((.aload_n 0), 1) := by decide +kernel
theorem dX10_put_6 : decode cX10_put 6 = .ok (.arraylength, 1) := by decide +kernel
theorem dX10_put_7 : decode cX10_put 7 = .ok ((.if_icmp .ge 7), 3) := by decide +kernel
theorem dX10_put_10 : decode cX10_put 10 = .ok ((.aload_n 0), 1) := by decide +kernel
theorem dX10_put_11 : decode cX10_put 11 = .ok ((.iload_n 1), 1) := by decide +kernel
theorem dX10_put_12 : decode cX10_put 12 = .ok ((.iload_n 2), 1) := by decide +kernel
theorem dX10_put_13 : decode cX10_put 13 = .ok (.iastore, 1) := by decide +kernel
theorem dX10_put_14 : decode cX10_put 14 = .ok (.return_, 1) := by decide +kernel
def p_X10_put (k0 n0 : Nat)  (S : vSt) (a1 : Int32) (a2 : Int32) (post : vSt → Prop) : Prop := ((a1 < 0 → post S) ∧ (¬ a1 < 0 → (((Int32.ofNat n0) ≤ a1 → post S) ∧ (¬ (Int32.ofNat n0) ≤ a1 → (vp_in a1 n0 ∧ ∀ S2, S2 = v_si S k0 (Int32.toNatClampNeg a1) a2 → post S2)))))
set_option maxHeartbeats 4000000 in
set_option maxRecDepth 100000 in
theorem c_X10_put (l : Launch) (G : vG)  {k0 n0 : Nat} (hk0 : k0 < 145) (hs0 : v_sh k0 = (13, n0))  {S : vSt} (a1 : Int32) (a2 : Int32) (post : vSt → Prop) (h : p_X10_put k0 n0  S a1 a2 post) : Met l yX10_put (v_ws yX10_put cX10_put 3 none) (v_rm 0 40) (v_Pc G [.ref (G.1 k0), .int a1, .int a2] S) (v_Qv G post) 0 0 (v_A G) := by
  refine v_start (by decide +kernel) (Nat.le_of_ble_eq_true rfl) (fun X hl C D => ?_)
  subst hl
  have C : v_Cx X G cX10_put RX10 3 (v_rm 0 40) := C
  show VJ X G S 0 [(0, .ref (G.1 k0)), (1, .int a1), (2, .int a2)] []
  refine V_iload_n C 1 dX10_put_0 rfl rfl ?_
  refine V_if_lt (tgt := 14) C dX10_put_1 (by decide) (fun c => ?_) (fun c => ?_)
  · have h := h.1 c
    exact V_vret C D dX10_put_14 h
  · have h := h.2 c
    refine V_iload_n C 1 dX10_put_4 rfl rfl ?_
    refine V_aload_n C 0 dX10_put_5 rfl rfl ?_
    refine V_alen C k0 n0 hk0 (Or.inr (Or.inl hs0)) dX10_put_6 ?_
    refine V_icmp_ge (tgt := 14) C dX10_put_7 (by decide) (fun c => ?_) (fun c => ?_)
    · have h := h.1 c
      exact V_vret C D dX10_put_14 h
    · have h := h.2 c
      refine V_aload_n C 0 dX10_put_10 rfl rfl ?_
      refine V_iload_n C 1 dX10_put_11 rfl rfl ?_
      refine V_iload_n C 2 dX10_put_12 rfl rfl ?_
      obtain ⟨hi, h⟩ := h
      refine V_iast C k0 n0 hk0 hs0 hi dX10_put_13 ?_
      refine V_topS (fun S2 eS2 => ?_)
      have h := h S2 eS2
      exact V_vret C D dX10_put_14 h
/-! HalfAccuser.put([JIJ)V -/
theorem dX10_put__0 : decode cX10_put_ 0 = .ok ((.iload_n 1), 1) := by decide +kernel
theorem dX10_put__1 : decode cX10_put_ 1 = .ok ((.ifCond .lt 13), 3) := by decide +kernel
theorem dX10_put__4 : decode cX10_put_ 4 = .ok ((.iload_n 1), 1) := by decide +kernel
theorem dX10_put__5 : decode cX10_put_ 5 = .ok ((.aload_n 0), 1) := by decide +kernel
theorem dX10_put__6 : decode cX10_put_ 6 = .ok (.arraylength, 1) := by decide +kernel
theorem dX10_put__7 : decode cX10_put_ 7 = .ok ((.if_icmp .ge 7), 3) := by decide +kernel
theorem dX10_put__10 : decode cX10_put_ 10 = .ok ((.aload_n 0), 1) := by decide +kernel
theorem dX10_put__11 : decode cX10_put_ 11 = .ok ((.iload_n 1), 1) := by decide +kernel
theorem dX10_put__12 : decode cX10_put_ 12 = .ok ((.lload_n 2), 1) := by decide +kernel
theorem dX10_put__13 : decode cX10_put_ 13 = .ok (.lastore, 1) := by decide +kernel
theorem dX10_put__14 : decode cX10_put_ 14 = .ok (.return_, 1) := by decide +kernel
def p_X10_put_ (k0 n0 : Nat)  (S : vSt) (a1 : Int32) (a2 : Int64) (post : vSt → Prop) : Prop := ((a1 < 0 → post S) ∧ (¬ a1 < 0 → (((Int32.ofNat n0) ≤ a1 → post S) ∧ (¬ (Int32.ofNat n0) ≤ a1 → (vp_in a1 n0 ∧ ∀ S2, S2 = v_sl S k0 (Int32.toNatClampNeg a1) a2 → post S2)))))
set_option maxHeartbeats 4000000 in
set_option maxRecDepth 100000 in
theorem c_X10_put_ (l : Launch) (G : vG)  {k0 n0 : Nat} (hk0 : k0 < 145) (hs0 : v_sh k0 = (14, n0))  {S : vSt} (a1 : Int32) (a2 : Int64) (post : vSt → Prop) (h : p_X10_put_ k0 n0  S a1 a2 post) : Met l yX10_put_ (v_ws yX10_put_ cX10_put_ 4 none) (v_rm 0 40) (v_Pc G [.ref (G.1 k0), .int a1, .long a2] S) (v_Qv G post) 0 0 (v_A G) := by
  refine v_start (by decide +kernel) (Nat.le_of_ble_eq_true rfl) (fun X hl C D => ?_)
  subst hl
  have C : v_Cx X G cX10_put_ RX10 4 (v_rm 0 40) := C
  show VJ X G S 0 [(0, .ref (G.1 k0)), (1, .int a1), (2, .long a2)] []
  refine V_iload_n C 1 dX10_put__0 rfl rfl ?_
  refine V_if_lt (tgt := 14) C dX10_put__1 (by decide) (fun c => ?_) (fun c => ?_)
  · have h := h.1 c
    exact V_vret C D dX10_put__14 h
  · have h := h.2 c
    refine V_iload_n C 1 dX10_put__4 rfl rfl ?_
    refine V_aload_n C 0 dX10_put__5 rfl rfl ?_
    refine V_alen C k0 n0 hk0 (Or.inr (Or.inr (Or.inl hs0))) dX10_put__6 ?_
    refine V_icmp_ge (tgt := 14) C dX10_put__7 (by decide) (fun c => ?_) (fun c => ?_)
    · have h := h.1 c
      exact V_vret C D dX10_put__14 h
    · have h := h.2 c
      refine V_aload_n C 0 dX10_put__10 rfl rfl ?_
      refine V_iload_n C 1 dX10_put__11 rfl rfl ?_
      refine V_lload_n C 2 dX10_put__12 rfl rfl ?_
      obtain ⟨hi, h⟩ := h
      refine V_last C k0 n0 hk0 hs0 hi dX10_put__13 ?_
      refine V_topS (fun S2 eS2 => ?_)
      have h := h S2 eS2
      exact V_vret C D dX10_put__14 h
/-! HalfAccuser$City.addPerson(J)I -/
theorem dX0_addPerson_0 : decode cX0_addPerson 0 = .ok ((.aload_n 0), 1) := by decide +kernel
theorem dX0_addPerson_1 : decode cX0_addPerson 1 = .ok ((.getfield 72), 3) := by decide +kernel
theorem dX0_addPerson_4 : decode cX0_addPerson 4 = .ok ((.istore_n 3), 1) := by decide +kernel
theorem dX0_addPerson_5 : decode cX0_addPerson 5 = .ok ((.aload_n 0), 1) := by decide +kernel
theorem dX0_addPerson_6 : decode cX0_addPerson 6 = .ok (.dup, 1) := by decide +kernel
theorem dX0_addPerson_7 : decode cX0_addPerson 7 = .ok ((.getfield 72), 3) := by decide +kernel
theorem dX0_addPerson_10 : decode cX0_addPerson 10 = .ok ((.iconst 1), 1) := by decide +kernel
theorem dX0_addPerson_11 : decode cX0_addPerson 11 = .ok (.iadd, 1) := by decide +kernel
theorem dX0_addPerson_12 : decode cX0_addPerson 12 = .ok ((.putfield 72), 3) := by decide +kernel
theorem dX0_addPerson_15 : decode cX0_addPerson 15 = .ok ((.aload_n 0), 1) := by decide +kernel
theorem dX0_addPerson_16 : decode cX0_addPerson 16 = .ok ((.getfield 15), 3) := by decide +kernel
theorem dX0_addPerson_19 : decode cX0_addPerson 19 = .ok ((.iload_n 3), 1) := by decide +kernel
theorem dX0_addPerson_20 : decode cX0_addPerson 20 = .ok ((.lload_n 1), 1) := by decide +kernel
theorem dX0_addPerson_21 : decode cX0_addPerson 21 = .ok ((.invokestatic 93), 3) := by decide +kernel
theorem dX0_addPerson_24 : decode cX0_addPerson 24 = .ok ((.aload_n 0), 1) := by decide +kernel
theorem dX0_addPerson_25 : decode cX0_addPerson 25 = .ok ((.getfield 19), 3) := by decide +kernel
theorem dX0_addPerson_28 : decode cX0_addPerson 28 = .ok ((.iload_n 3), 1) := by decide +kernel
theorem dX0_addPerson_29 : decode cX0_addPerson 29 = .ok ((.bipush 100), 2) := by decide +kernel
theorem dX0_addPerson_31 : decode cX0_addPerson 31 = .ok ((.invokestatic 97), 3) := by decide +kernel
theorem dX0_addPerson_34 : decode cX0_addPerson 34 = .ok ((.aload_n 0), 1) := by decide +kernel
theorem dX0_addPerson_35 : decode cX0_addPerson 35 = .ok ((.getfield 22), 3) := by decide +kernel
theorem dX0_addPerson_38 : decode cX0_addPerson 38 = .ok ((.iload_n 3), 1) := by decide +kernel
theorem dX0_addPerson_39 : decode cX0_addPerson 39 = .ok ((.iconst 0), 1) := by decide +kernel
theorem dX0_addPerson_40 : decode cX0_addPerson 40 = .ok ((.invokestatic 97), 3) := by decide +kernel
theorem dX0_addPerson_43 : decode cX0_addPerson 43 = .ok ((.aload_n 0), 1) := by decide +kernel
theorem dX0_addPerson_44 : decode cX0_addPerson 44 = .ok ((.getfield 25), 3) := by decide +kernel
theorem dX0_addPerson_47 : decode cX0_addPerson 47 = .ok ((.iload_n 3), 1) := by decide +kernel
theorem dX0_addPerson_48 : decode cX0_addPerson 48 = .ok ((.iconst 0), 1) := by decide +kernel
theorem dX0_addPerson_49 : decode cX0_addPerson 49 = .ok ((.invokestatic 97), 3) := by decide +kernel
theorem dX0_addPerson_52 : decode cX0_addPerson 52 = .ok ((.aload_n 0), 1) := by decide +kernel
theorem dX0_addPerson_53 : decode cX0_addPerson 53 = .ok ((.getfield 28), 3) := by decide +kernel
theorem dX0_addPerson_56 : decode cX0_addPerson 56 = .ok ((.iload_n 3), 1) := by decide +kernel
theorem dX0_addPerson_57 : decode cX0_addPerson 57 = .ok ((.iconst 0), 1) := by decide +kernel
theorem dX0_addPerson_58 : decode cX0_addPerson 58 = .ok ((.invokestatic 97), 3) := by decide +kernel
theorem dX0_addPerson_61 : decode cX0_addPerson 61 = .ok ((.aload_n 0), 1) := by decide +kernel
theorem dX0_addPerson_62 : decode cX0_addPerson 62 = .ok ((.getfield 31), 3) := by decide +kernel
theorem dX0_addPerson_65 : decode cX0_addPerson 65 = .ok ((.iload_n 3), 1) := by decide +kernel
theorem dX0_addPerson_66 : decode cX0_addPerson 66 = .ok ((.iconst 0), 1) := by decide +kernel
theorem dX0_addPerson_67 : decode cX0_addPerson 67 = .ok ((.invokestatic 97), 3) := by decide +kernel
theorem dX0_addPerson_70 : decode cX0_addPerson 70 = .ok ((.iload_n 3), 1) := by decide +kernel
theorem dX0_addPerson_71 : decode cX0_addPerson 71 = .ok (.ireturn, 1) := by decide +kernel
def p_X0_addPerson (b : Nat)  (S : vSt) (a1 : Int64) (post : Int32 → vSt → Prop) : Prop := ∀ y9 : Int32, y9 = (S.1 b 15) → ∀ S10, S10 = v_si S b 15 ((S.1 b 15) + 1) → p_X10_put_ (b + 2) 8 S10 y9 a1 (fun S11 => p_X10_put (b + 3) 8 S11 y9 100 (fun S12 => p_X10_put (b + 4) 8 S12 y9 0 (fun S13 => p_X10_put (b + 5) 8 S13 y9 0 (fun S14 => p_X10_put (b + 6) 8 S14 y9 0 (fun S15 => p_X10_put (b + 7) 8 S15 y9 0 (fun S16 => post y9 S16))))))
set_option maxHeartbeats 4000000 in
set_option maxRecDepth 100000 in
theorem c_X0_addPerson (l : Launch) (G : vG)  {b : Nat} (hb : v_isC b)  {S : vSt} (a1 : Int64) (post : Int32 → vSt → Prop) (h : p_X0_addPerson b  S a1 post) : Met l yX0_addPerson (v_ws yX0_addPerson cX0_addPerson 4 (some .int)) (v_rm 1 63) (v_Pc G [.ref (G.1 b), .long a1] S) (v_Qi G post) 0 0 (v_A G) := by
  refine v_start (by decide +kernel) (Nat.le_of_ble_eq_true rfl) (fun X hl C D => ?_)
  subst hl
  have C : v_Cx X G cX0_addPerson RX0 4 (v_rm 1 63) := C
  show VJ X G S 0 [(0, .ref (G.1 b)), (1, .long a1)] []
  refine V_aload_n C 0 dX0_addPerson_0 rfl rfl ?_
  refine V_gi C b (v_cb hb 0 (by decide)) (v_co0 hb) F_0_15 k_RX0_72 dX0_addPerson_1 ?_
  refine V_topi (fun y9 ey9 => ?_)
  have h := h y9 ey9
  refine V_istore_n (lv' := [(0, .ref (G.1 b)), (1, .long a1), (3, .int y9)]) C [1, 2, 0] dX0_addPerson_4 rfl (by decide) rfl ?_
  refine V_aload_n C 0 dX0_addPerson_5 rfl rfl ?_
  refine V_dup C dX0_addPerson_6 rfl ?_
  refine V_gi C b (v_cb hb 0 (by decide)) (v_co0 hb) F_0_15 k_RX0_72 dX0_addPerson_7 ?_
  refine V_iconst (v := 1) C dX0_addPerson_10 (by decide) ?_
  refine V_iadd C dX0_addPerson_11 ?_
  refine V_pi C b (v_cb hb 0 (by decide)) (v_co0 hb) P_0_15 k_RX0_72 dX0_addPerson_12 ?_
  refine V_topS (fun S10 eS10 => ?_)
  have h := h S10 eS10
  refine V_aload_n C 0 dX0_addPerson_15 rfl rfl ?_
  refine V_gr C b (v_cb hb 0 (by decide)) (v_co0 hb) F_0_1 k_RX0_15 dX0_addPerson_16 ?_
  refine V_iload_n C 2 dX0_addPerson_19 rfl rfl ?_
  refine V_lload_n C 1 dX0_addPerson_20 rfl rfl ?_
  refine V_callSNv (As := [.ref (G.1 (b + 2)), .int y9, .long a1]) (rest := []) C (c_X10_put_ (v_l X) G (v_cb hb 2 (by decide)) (v_ca2 hb) _ _ _ h) KV_X10_put_ (List.mem_of_getElem? (i := 8) rfl) rfl rfl rfl (Nat.le_of_ble_eq_true rfl) ⟨Nat.le_of_ble_eq_true rfl, Nat.le_of_ble_eq_true rfl⟩ dX0_addPerson_21 (fun S11 h => ?_)
  refine V_aload_n C 0 dX0_addPerson_24 rfl rfl ?_
  refine V_gr C b (v_cb hb 0 (by decide)) (v_co0 hb) F_0_2 k_RX0_19 dX0_addPerson_25 ?_
  refine V_iload_n C 2 dX0_addPerson_28 rfl rfl ?_
  refine V_bipush (v := 100) C dX0_addPerson_29 (by decide) ?_
  refine V_callSNv (As := [.ref (G.1 (b + 3)), .int y9, .int 100]) (rest := []) C (c_X10_put (v_l X) G (v_cb hb 3 (by decide)) (v_ca3 hb) _ _ _ h) KV_X10_put (List.mem_of_getElem? (i := 6) rfl) rfl rfl rfl (Nat.le_of_ble_eq_true rfl) ⟨Nat.le_of_ble_eq_true rfl, Nat.le_of_ble_eq_true rfl⟩ dX0_addPerson_31 (fun S12 h => ?_)
  refine V_aload_n C 0 dX0_addPerson_34 rfl rfl ?_
  refine V_gr C b (v_cb hb 0 (by decide)) (v_co0 hb) F_0_3 k_RX0_22 dX0_addPerson_35 ?_
  refine V_iload_n C 2 dX0_addPerson_38 rfl rfl ?_
  refine V_iconst (v := 0) C dX0_addPerson_39 (by decide) ?_
  refine V_callSNv (As := [.ref (G.1 (b + 4)), .int y9, .int 0]) (rest := []) C (c_X10_put (v_l X) G (v_cb hb 4 (by decide)) (v_ca4 hb) _ _ _ h) KV_X10_put (List.mem_of_getElem? (i := 6) rfl) rfl rfl rfl (Nat.le_of_ble_eq_true rfl) ⟨Nat.le_of_ble_eq_true rfl, Nat.le_of_ble_eq_true rfl⟩ dX0_addPerson_40 (fun S13 h => ?_)
  refine V_aload_n C 0 dX0_addPerson_43 rfl rfl ?_
  refine V_gr C b (v_cb hb 0 (by decide)) (v_co0 hb) F_0_4 k_RX0_25 dX0_addPerson_44 ?_
  refine V_iload_n C 2 dX0_addPerson_47 rfl rfl ?_
  refine V_iconst (v := 0) C dX0_addPerson_48 (by decide) ?_
  refine V_callSNv (As := [.ref (G.1 (b + 5)), .int y9, .int 0]) (rest := []) C (c_X10_put (v_l X) G (v_cb hb 5 (by decide)) (v_ca5 hb) _ _ _ h) KV_X10_put (List.mem_of_getElem? (i := 6) rfl) rfl rfl rfl (Nat.le_of_ble_eq_true rfl) ⟨Nat.le_of_ble_eq_true rfl, Nat.le_of_ble_eq_true rfl⟩ dX0_addPerson_49 (fun S14 h => ?_)
  refine V_aload_n C 0 dX0_addPerson_52 rfl rfl ?_
  refine V_gr C b (v_cb hb 0 (by decide)) (v_co0 hb) F_0_5 k_RX0_28 dX0_addPerson_53 ?_
  refine V_iload_n C 2 dX0_addPerson_56 rfl rfl ?_
  refine V_iconst (v := 0) C dX0_addPerson_57 (by decide) ?_
  refine V_callSNv (As := [.ref (G.1 (b + 6)), .int y9, .int 0]) (rest := []) C (c_X10_put (v_l X) G (v_cb hb 6 (by decide)) (v_ca6 hb) _ _ _ h) KV_X10_put (List.mem_of_getElem? (i := 6) rfl) rfl rfl rfl (Nat.le_of_ble_eq_true rfl) ⟨Nat.le_of_ble_eq_true rfl, Nat.le_of_ble_eq_true rfl⟩ dX0_addPerson_58 (fun S15 h => ?_)
  refine V_aload_n C 0 dX0_addPerson_61 rfl rfl ?_
  refine V_gr C b (v_cb hb 0 (by decide)) (v_co0 hb) F_0_6 k_RX0_31 dX0_addPerson_62 ?_
  refine V_iload_n C 2 dX0_addPerson_65 rfl rfl ?_
  refine V_iconst (v := 0) C dX0_addPerson_66 (by decide) ?_
  refine V_callSNv (As := [.ref (G.1 (b + 7)), .int y9, .int 0]) (rest := []) C (c_X10_put (v_l X) G (v_cb hb 7 (by decide)) (v_ca7 hb) _ _ _ h) KV_X10_put (List.mem_of_getElem? (i := 6) rfl) rfl rfl rfl (Nat.le_of_ble_eq_true rfl) ⟨Nat.le_of_ble_eq_true rfl, Nat.le_of_ble_eq_true rfl⟩ dX0_addPerson_67 (fun S16 h => ?_)
  refine V_iload_n C 2 dX0_addPerson_70 rfl rfl ?_
  exact V_iret C D dX0_addPerson_71 h
/-! HalfAccuser$City.addDeed(JIII)I -/
theorem dX0_addDeed_0 : decode cX0_addDeed 0 = .ok ((.aload_n 0), 1) := by decide +kernel
theorem dX0_addDeed_1 : decode cX0_addDeed 1 = .ok ((.getfield 76), 3) := by decide +kernel
theorem dX0_addDeed_4 : decode cX0_addDeed 4 = .ok ((.istore 6), 2) := by decide +kernel
theorem dX0_addDeed_6 : decode cX0_addDeed 6 = .ok ((.aload_n 0), 1) := by decide +kernel
theorem dX0_addDeed_7 : decode cX0_addDeed 7 = .ok (.dup, 1) := by decide +kernel
theorem dX0_addDeed_8 : decode cX0_addDeed 8 = .ok ((.getfield 76), 3) := by decide +kernel
theorem dX0_addDeed_11 : decode cX0_addDeed 11 = .ok ((.iconst 1), 1) := by decide +kernel
theorem dX0_addDeed_12 : decode cX0_addDeed 12 = .ok (.iadd, 1) := by decide +kernel
theorem dX0_addDeed_13 : decode cX0_addDeed 13 = .ok ((.putfield 76), 3) := by decide +kernel
theorem dX0_addDeed_16 : decode cX0_addDeed 16 = .ok ((.aload_n 0), 1) := by decide +kernel
theorem dX0_addDeed_17 : decode cX0_addDeed 17 = .ok ((.getfield 34), 3) := by decide +kernel
theorem dX0_addDeed_20 : decode cX0_addDeed 20 = .ok ((.iload 6), 2) := by decide +kernel
theorem dX0_addDeed_22 : decode cX0_addDeed 22 = .ok ((.lload_n 1), 1) := by decide +kernel
theorem dX0_addDeed_23 : decode cX0_addDeed 23 = .ok ((.invokestatic 93), 3) := by decide +kernel
theorem dX0_addDeed_26 : decode cX0_addDeed 26 = .ok ((.aload_n 0), 1) := by decide +kernel
theorem dX0_addDeed_27 : decode cX0_addDeed 27 = .ok ((.getfield 37), 3) := by decide +kernel
theorem dX0_addDeed_30 : decode cX0_addDeed 30 = .ok ((.iload 6), 2) := by decide +kernel
theorem dX0_addDeed_32 : decode cX0_addDeed 32 = .ok ((.iload_n 3), 1) := by decide +kernel
theorem dX0_addDeed_33 : decode cX0_addDeed 33 = .ok ((.invokestatic 97), 3) := by decide +kernel
theorem dX0_addDeed_36 : decode cX0_addDeed 36 = .ok ((.aload_n 0), 1) := by decide +kernel
theorem dX0_addDeed_37 : decode cX0_addDeed 37 = .ok ((.getfield 40), 3) := by decide +kernel
theorem dX0_addDeed_40 : decode cX0_addDeed 40 = .ok ((.iload 6), 2) := by decide +kernel
theorem dX0_addDeed_42 : decode cX0_addDeed 42 = .ok ((.iload 4), 2) := by decide +kernel
theorem dX0_addDeed_44 : decode cX0_addDeed 44 = .ok ((.invokestatic 97), 3) := by decide +kernel
theorem dX0_addDeed_47 : decode cX0_addDeed 47 = .ok ((.aload_n 0), 1) := by decide +kernel
theorem dX0_addDeed_48 : decode cX0_addDeed 48 = .ok ((.getfield 43), 3) := by decide +kernel
theorem dX0_addDeed_51 : decode cX0_addDeed 51 = .ok ((.iload 6), 2) := by decide +kernel
theorem dX0_addDeed_53 : decode cX0_addDeed 53 = .ok ((.iload 5), 2) := by decide +kernel
theorem dX0_addDeed_55 : decode cX0_addDeed 55 = .ok ((.invokestatic 97), 3) := by decide +kernel
theorem dX0_addDeed_58 : decode cX0_addDeed 58 = .ok ((.aload_n 0), 1) := by decide +kernel
theorem dX0_addDeed_59 : decode cX0_addDeed 59 = .ok ((.getfield 46), 3) := by decide +kernel
theorem dX0_addDeed_62 : decode cX0_addDeed 62 = .ok ((.iload 6), 2) := by decide +kernel
theorem dX0_addDeed_64 : decode cX0_addDeed 64 = .ok ((.iconst 0), 1) := by decide +kernel
theorem dX0_addDeed_65 : decode cX0_addDeed 65 = .ok ((.invokestatic 97), 3) := by decide +kernel
theorem dX0_addDeed_68 : decode cX0_addDeed 68 = .ok ((.iload 6), 2) := by decide +kernel
theorem dX0_addDeed_70 : decode cX0_addDeed 70 = .ok (.ireturn, 1) := by decide +kernel
def p_X0_addDeed (b : Nat)  (S : vSt) (a1 : Int64) (a3 : Int32) (a4 : Int32) (a5 : Int32) (post : Int32 → vSt → Prop) : Prop := ∀ y8 : Int32, y8 = (S.1 b 16) → ∀ S9, S9 = v_si S b 16 ((S.1 b 16) + 1) → p_X10_put_ (b + 8) 10 S9 y8 a1 (fun S10 => p_X10_put (b + 9) 10 S10 y8 a3 (fun S11 => p_X10_put (b + 10) 10 S11 y8 a4 (fun S12 => p_X10_put (b + 11) 10 S12 y8 a5 (fun S13 => p_X10_put (b + 12) 10 S13 y8 0 (fun S14 => post y8 S14)))))
set_option maxHeartbeats 4000000 in
set_option maxRecDepth 100000 in
theorem c_X0_addDeed (l : Launch) (G : vG)  {b : Nat} (hb : v_isC b)  {S : vSt} (a1 : Int64) (a3 : Int32) (a4 : Int32) (a5 : Int32) (post : Int32 → vSt → Prop) (h : p_X0_addDeed b  S a1 a3 a4 a5 post) : Met l yX0_addDeed (v_ws yX0_addDeed cX0_addDeed 7 (some .int)) (v_rm 1 63) (v_Pc G [.ref (G.1 b), .long a1, .int a3, .int a4, .int a5] S) (v_Qi G post) 0 0 (v_A G) := by
  refine v_start (by decide +kernel) (Nat.le_of_ble_eq_true rfl) (fun X hl C D => ?_)
  subst hl
  have C : v_Cx X G cX0_addDeed RX0 7 (v_rm 1 63) := C
  show VJ X G S 0 [(0, .ref (G.1 b)), (1, .long a1), (3, .int a3), (4, .int a4), (5, .int a5)] []
  refine V_aload_n C 0 dX0_addDeed_0 rfl rfl ?_
  refine V_gi C b (v_cb hb 0 (by decide)) (v_co0 hb) F_0_16 k_RX0_76 dX0_addDeed_1 ?_
  refine V_topi (fun y8 ey8 => ?_)
  have h := h y8 ey8
  refine V_istore (lv' := [(0, .ref (G.1 b)), (1, .long a1), (3, .int a3), (4, .int a4), (5, .int a5), (6, .int y8)]) C [1, 2, 3, 4, 5, 0] dX0_addDeed_4 (by decide) rfl ?_
  refine V_aload_n C 0 dX0_addDeed_6 rfl rfl ?_
  refine V_dup C dX0_addDeed_7 rfl ?_
  refine V_gi C b (v_cb hb 0 (by decide)) (v_co0 hb) F_0_16 k_RX0_76 dX0_addDeed_8 ?_
  refine V_iconst (v := 1) C dX0_addDeed_11 (by decide) ?_
  refine V_iadd C dX0_addDeed_12 ?_
  refine V_pi C b (v_cb hb 0 (by decide)) (v_co0 hb) P_0_16 k_RX0_76 dX0_addDeed_13 ?_
  refine V_topS (fun S9 eS9 => ?_)
  have h := h S9 eS9
  refine V_aload_n C 0 dX0_addDeed_16 rfl rfl ?_
  refine V_gr C b (v_cb hb 0 (by decide)) (v_co0 hb) F_0_7 k_RX0_34 dX0_addDeed_17 ?_
  refine V_iload C 5 dX0_addDeed_20 rfl ?_
  refine V_lload_n C 1 dX0_addDeed_22 rfl rfl ?_
  refine V_callSNv (As := [.ref (G.1 (b + 8)), .int y8, .long a1]) (rest := []) C (c_X10_put_ (v_l X) G (v_cb hb 8 (by decide)) (v_ca8 hb) _ _ _ h) KV_X10_put_ (List.mem_of_getElem? (i := 8) rfl) rfl rfl rfl (Nat.le_of_ble_eq_true rfl) ⟨Nat.le_of_ble_eq_true rfl, Nat.le_of_ble_eq_true rfl⟩ dX0_addDeed_23 (fun S10 h => ?_)
  refine V_aload_n C 0 dX0_addDeed_26 rfl rfl ?_
  refine V_gr C b (v_cb hb 0 (by decide)) (v_co0 hb) F_0_8 k_RX0_37 dX0_addDeed_27 ?_
  refine V_iload C 5 dX0_addDeed_30 rfl ?_
  refine V_iload_n C 2 dX0_addDeed_32 rfl rfl ?_
  refine V_callSNv (As := [.ref (G.1 (b + 9)), .int y8, .int a3]) (rest := []) C (c_X10_put (v_l X) G (v_cb hb 9 (by decide)) (v_ca9 hb) _ _ _ h) KV_X10_put (List.mem_of_getElem? (i := 6) rfl) rfl rfl rfl (Nat.le_of_ble_eq_true rfl) ⟨Nat.le_of_ble_eq_true rfl, Nat.le_of_ble_eq_true rfl⟩ dX0_addDeed_33 (fun S11 h => ?_)
  refine V_aload_n C 0 dX0_addDeed_36 rfl rfl ?_
  refine V_gr C b (v_cb hb 0 (by decide)) (v_co0 hb) F_0_9 k_RX0_40 dX0_addDeed_37 ?_
  refine V_iload C 5 dX0_addDeed_40 rfl ?_
  refine V_iload C 3 dX0_addDeed_42 rfl ?_
  refine V_callSNv (As := [.ref (G.1 (b + 10)), .int y8, .int a4]) (rest := []) C (c_X10_put (v_l X) G (v_cb hb 10 (by decide)) (v_ca10 hb) _ _ _ h) KV_X10_put (List.mem_of_getElem? (i := 6) rfl) rfl rfl rfl (Nat.le_of_ble_eq_true rfl) ⟨Nat.le_of_ble_eq_true rfl, Nat.le_of_ble_eq_true rfl⟩ dX0_addDeed_44 (fun S12 h => ?_)
  refine V_aload_n C 0 dX0_addDeed_47 rfl rfl ?_
  refine V_gr C b (v_cb hb 0 (by decide)) (v_co0 hb) F_0_10 k_RX0_43 dX0_addDeed_48 ?_
  refine V_iload C 5 dX0_addDeed_51 rfl ?_
  refine V_iload C 4 dX0_addDeed_53 rfl ?_
  refine V_callSNv (As := [.ref (G.1 (b + 11)), .int y8, .int a5]) (rest := []) C (c_X10_put (v_l X) G (v_cb hb 11 (by decide)) (v_ca11 hb) _ _ _ h) KV_X10_put (List.mem_of_getElem? (i := 6) rfl) rfl rfl rfl (Nat.le_of_ble_eq_true rfl) ⟨Nat.le_of_ble_eq_true rfl, Nat.le_of_ble_eq_true rfl⟩ dX0_addDeed_55 (fun S13 h => ?_)
  refine V_aload_n C 0 dX0_addDeed_58 rfl rfl ?_
  refine V_gr C b (v_cb hb 0 (by decide)) (v_co0 hb) F_0_11 k_RX0_46 dX0_addDeed_59 ?_
  refine V_iload C 5 dX0_addDeed_62 rfl ?_
  refine V_iconst (v := 0) C dX0_addDeed_64 (by decide) ?_
  refine V_callSNv (As := [.ref (G.1 (b + 12)), .int y8, .int 0]) (rest := []) C (c_X10_put (v_l X) G (v_cb hb 12 (by decide)) (v_ca12 hb) _ _ _ h) KV_X10_put (List.mem_of_getElem? (i := 6) rfl) rfl rfl rfl (Nat.le_of_ble_eq_true rfl) ⟨Nat.le_of_ble_eq_true rfl, Nat.le_of_ble_eq_true rfl⟩ dX0_addDeed_65 (fun S14 h => ?_)
  refine V_iload C 5 dX0_addDeed_68 rfl ?_
  exact V_iret C D dX0_addDeed_70 h
/-! HalfAccuser.at([JI)J -/
theorem dX10_at__0 : decode cX10_at_ 0 = .ok ((.iload_n 1), 1) := by decide +kernel
theorem dX10_at__1 : decode cX10_at_ 1 = .ok ((.ifCond .lt 15), 3) := by decide +kernel
theorem dX10_at__4 : decode cX10_at_ 4 = .ok ((.iload_n 1), 1) := by decide +kernel
theorem dX10_at__5 : decode cX10_at_ 5 = .ok ((.aload_n 0), 1) := by decide +kernel
theorem dX10_at__6 : decode cX10_at_ 6 = .ok (.arraylength, 1) := by decide +kernel
theorem dX10_at__7 : decode cX10_at_ 7 = .ok ((.if_icmp .ge 9), 3) := by decide +kernel
theorem dX10_at__10 : decode cX10_at_ 10 = .ok ((.aload_n 0), 1) := by decide +kernel
theorem dX10_at__11 : decode cX10_at_ 11 = .ok ((.iload_n 1), 1) := by decide +kernel
theorem dX10_at__12 : decode cX10_at_ 12 = .ok (.laload, 1) := by decide +kernel
theorem dX10_at__13 : decode cX10_at_ 13 = .ok ((.goto 4), 3) := by decide +kernel
theorem dX10_at__16 : decode cX10_at_ 16 = .ok ((.lconst 0), 1) := by decide +kernel
theorem dX10_at__17 : decode cX10_at_ 17 = .ok (.lreturn, 1) := by decide +kernel
def p_X10_at_ (k0 n0 : Nat)  (S : vSt) (a1 : Int32) (post : Int64 → vSt → Prop) : Prop := ((a1 < 0 → post 0 S) ∧ (¬ a1 < 0 → (((Int32.ofNat n0) ≤ a1 → post 0 S) ∧ (¬ (Int32.ofNat n0) ≤ a1 → (vp_in a1 n0 ∧ post (S.2 k0 (Int32.toNatClampNeg a1)) S)))))
set_option maxHeartbeats 4000000 in
set_option maxRecDepth 100000 in
theorem c_X10_at_ (l : Launch) (G : vG)  {k0 n0 : Nat} (hk0 : k0 < 145) (hs0 : v_sh k0 = (14, n0))  {S : vSt} (a1 : Int32) (post : Int64 → vSt → Prop) (h : p_X10_at_ k0 n0  S a1 post) : Met l yX10_at_ (v_ws yX10_at_ cX10_at_ 2 (some .long)) (v_rm 0 40) (v_Pc G [.ref (G.1 k0), .int a1] S) (v_Ql G post) 0 0 (v_A G) := by
  refine v_start (by decide +kernel) (Nat.le_of_ble_eq_true rfl) (fun X hl C D => ?_)
  subst hl
  have C : v_Cx X G cX10_at_ RX10 2 (v_rm 0 40) := C
  show VJ X G S 0 [(0, .ref (G.1 k0)), (1, .int a1)] []
  refine V_iload_n C 1 dX10_at__0 rfl rfl ?_
  refine V_if_lt (tgt := 16) C dX10_at__1 (by decide) (fun c => ?_) (fun c => ?_)
  · have h := h.1 c
    refine V_lconst (v := 0) C dX10_at__16 (by decide) ?_
    exact V_lret C D dX10_at__17 h
  · have h := h.2 c
    refine V_iload_n C 1 dX10_at__4 rfl rfl ?_
    refine V_aload_n C 0 dX10_at__5 rfl rfl ?_
    refine V_alen C k0 n0 hk0 (Or.inr (Or.inr (Or.inl hs0))) dX10_at__6 ?_
    refine V_icmp_ge (tgt := 16) C dX10_at__7 (by decide) (fun c => ?_) (fun c => ?_)
    · have h := h.1 c
      refine V_lconst (v := 0) C dX10_at__16 (by decide) ?_
      exact V_lret C D dX10_at__17 h
    · have h := h.2 c
      refine V_aload_n C 0 dX10_at__10 rfl rfl ?_
      refine V_iload_n C 1 dX10_at__11 rfl rfl ?_
      obtain ⟨hi, h⟩ := h
      refine V_lald C k0 n0 hk0 hs0 hi dX10_at__12 ?_
      refine V_goto (tgt := 17) C dX10_at__13 (by decide) ?_
      exact V_lret C D dX10_at__17 h
/-! HalfAccuser$City.personBy(J)I -/
theorem dX0_personBy_0 : decode cX0_personBy 0 = .ok ((.iconst 0), 1) := by decide +kernel
theorem dX0_personBy_1 : decode cX0_personBy 1 = .ok ((.istore_n 3), 1) := by decide +kernel
theorem dX0_personBy_2 : decode cX0_personBy 2 = .ok ((.iload_n 3), 1) := by decide +kernel
theorem dX0_personBy_3 : decode cX0_personBy 3 = .ok ((.aload_n 0), 1) := by decide +kernel
theorem dX0_personBy_4 : decode cX0_personBy 4 = .ok ((.getfield 72), 3) := by decide +kernel
theorem dX0_personBy_7 : decode cX0_personBy 7 = .ok ((.if_icmp .ge 24), 3) := by decide +kernel
theorem dX0_personBy_10 : decode cX0_personBy 10 = .ok ((.aload_n 0), 1) := by decide +kernel
theorem dX0_personBy_11 : decode cX0_personBy 11 = .ok ((.getfield 15), 3) := by decide +kernel
theorem dX0_personBy_14 : decode cX0_personBy 14 = .ok ((.iload_n 3), 1) := by decide +kernel
theorem dX0_personBy_15 : decode cX0_personBy 15 = .ok ((.invokestatic 100), 3) := by decide +kernel
theorem dX0_personBy_18 : decode cX0_personBy 18 = .ok ((.lload_n 1), 1) := by decide +kernel
theorem dX0_personBy_19 : decode cX0_personBy 19 = .ok (.lcmp, 1) := by decide +kernel
theorem dX0_personBy_20 : decode cX0_personBy 20 = .ok ((.ifCond .ne 5), 3) := by decide +kernel
theorem dX0_personBy_23 : decode cX0_personBy 23 = .ok ((.iload_n 3), 1) := by decide +kernel
theorem dX0_personBy_24 : decode cX0_personBy 24 = .ok (.ireturn, 1) := by decide +kernel
theorem dX0_personBy_25 : decode cX0_personBy 25 = .ok ((.iinc 3 1), 3) := by decide +kernel
theorem dX0_personBy_28 : decode cX0_personBy 28 = .ok ((.goto (-26)), 3) := by decide +kernel
theorem dX0_personBy_31 : decode cX0_personBy 31 = .ok ((.iconst (-1)), 1) := by decide +kernel
theorem dX0_personBy_32 : decode cX0_personBy 32 = .ok (.ireturn, 1) := by decide +kernel
def p_X0_personBy_2 (b : Nat) (a1 : Int64)   (post : Int32 → vSt → Prop) : Nat → vSt → Int32 → Prop
  | 0 => fun _ _ => False
  | fu2 + 1 => fun S x3 => (((S.1 b 15) ≤ x3 → post (-1) S) ∧ (¬ (S.1 b 15) ≤ x3 → p_X10_at_ (b + 2) 8 S x3 (fun r8 S7 => ((¬ r8 = a1 → ∀ y9 : Int32, y9 = x3 + 1 → (p_X0_personBy_2 b a1 post fu2) S7 y9) ∧ (r8 = a1 → post x3 S7)))))
theorem e_X0_personBy_2 (b : Nat) (a1 : Int64)   (post : Int32 → vSt → Prop) (fu2 : Nat) (S : vSt) (x3 : Int32) : p_X0_personBy_2 b a1 post (fu2 + 1) S x3 = ((((S.1 b 15) ≤ x3 → post (-1) S) ∧ (¬ (S.1 b 15) ≤ x3 → p_X10_at_ (b + 2) 8 S x3 (fun r8 S7 => ((¬ r8 = a1 → ∀ y9 : Int32, y9 = x3 + 1 → (p_X0_personBy_2 b a1 post fu2) S7 y9) ∧ (r8 = a1 → post x3 S7)))))) := rfl
def p_X0_personBy (b : Nat)  (S : vSt) (a1 : Int64) (post : Int32 → vSt → Prop) : Prop := ∃ fu2, p_X0_personBy_2 b a1 post fu2 S 0
set_option maxHeartbeats 4000000 in
set_option maxRecDepth 100000 in
theorem q_X0_personBy_2 {X : vX} {G : vG}  {post : Int32 → vSt → Prop} (C : v_Cx X G cX0_personBy RX0 4 (v_rm 1 61)) (D : v_Rx X G (v_Qi G post) (some .int)) {b : Nat} (hb : v_isC b) {a1 : Int64}   : ∀ (fu : Nat) (S : vSt) (x3 : Int32), p_X0_personBy_2 b a1 post fu S x3 → VJ X G S 2 [(0, .ref (G.1 b)), (1, .long a1), (3, .int x3)] [] := by
  intro fu
  induction fu with
  | zero => intro S x3 h; exact absurd h id
  | succ fu ih =>
    intro S x3 h
    have hK2 := ih
    rw [e_X0_personBy_2] at h
    refine V_iload_n C 2 dX0_personBy_2 rfl rfl ?_
    refine V_aload_n C 0 dX0_personBy_3 rfl rfl ?_
    refine V_gi C b (v_cb hb 0 (by decide)) (v_co0 hb) F_0_15 k_RX0_72 dX0_personBy_4 ?_
    refine V_icmp_ge (tgt := 31) C dX0_personBy_7 (by decide) (fun c => ?_) (fun c => ?_)
    · have h := h.1 c
      refine V_iconst (v := (-1)) C dX0_personBy_31 (by decide) ?_
      exact V_iret C D dX0_personBy_32 h
    · have h := h.2 c
      refine V_aload_n C 0 dX0_personBy_10 rfl rfl ?_
      refine V_gr C b (v_cb hb 0 (by decide)) (v_co0 hb) F_0_1 k_RX0_15 dX0_personBy_11 ?_
      refine V_iload_n C 2 dX0_personBy_14 rfl rfl ?_
      refine V_callSNl (As := [.ref (G.1 (b + 2)), .int x3]) (rest := []) C (c_X10_at_ (v_l X) G (v_cb hb 2 (by decide)) (v_ca2 hb) _ _ h) KV_X10_at_ (List.mem_of_getElem? (i := 31) rfl) rfl rfl rfl (Nat.le_of_ble_eq_true rfl) ⟨Nat.le_of_ble_eq_true rfl, Nat.le_of_ble_eq_true rfl⟩ dX0_personBy_15 (fun r8 S7 h => ?_)
      refine V_lload_n C 1 dX0_personBy_18 rfl rfl ?_
      refine V_lcmp_ne (tgt := 25) C dX0_personBy_19 dX0_personBy_20 (by decide) (fun c => ?_) (fun c => ?_)
      · have h := h.1 c
        obtain ⟨y9, ey9⟩ : ∃ z : Int32, z = x3 + 1 := ⟨_, rfl⟩
        have h := h y9 ey9
        refine V_iinc (lv' := [(0, .ref (G.1 b)), (1, .long a1), (3, .int y9)]) C 2 [1, 2, 0] y9 dX0_personBy_25 rfl (by rw [ey9]; rfl) (by decide) rfl ?_
        refine V_goto (tgt := 2) C dX0_personBy_28 (by decide) ?_
        exact hK2 _ _ h
      · have h := h.2 c
        refine V_iload_n C 2 dX0_personBy_23 rfl rfl ?_
        exact V_iret C D dX0_personBy_24 h
set_option maxHeartbeats 4000000 in
set_option maxRecDepth 100000 in
theorem c_X0_personBy (l : Launch) (G : vG)  {b : Nat} (hb : v_isC b)  {S : vSt} (a1 : Int64) (post : Int32 → vSt → Prop) (h : p_X0_personBy b  S a1 post) : Met l yX0_personBy (v_ws yX0_personBy cX0_personBy 4 (some .int)) (v_rm 1 61) (v_Pc G [.ref (G.1 b), .long a1] S) (v_Qi G post) 0 0 (v_A G) := by
  refine v_start (by decide +kernel) (Nat.le_of_ble_eq_true rfl) (fun X hl C D => ?_)
  subst hl
  have C : v_Cx X G cX0_personBy RX0 4 (v_rm 1 61) := C
  show VJ X G S 0 [(0, .ref (G.1 b)), (1, .long a1)] []
  refine V_iconst (v := 0) C dX0_personBy_0 (by decide) ?_
  refine V_istore_n (lv' := [(0, .ref (G.1 b)), (1, .long a1), (3, .int 0)]) C [1, 2, 0] dX0_personBy_1 rfl (by decide) rfl ?_
  obtain ⟨fu2, h⟩ := h
  exact q_X0_personBy_2 C D hb fu2 _ _ h
/-! HalfAccuser$City.deedBy(J)I -/
theorem dX0_deedBy_0 : decode cX0_deedBy 0 = .ok ((.iconst 0), 1) := by decide +kernel
theorem dX0_deedBy_1 : decode cX0_deedBy 1 = .ok ((.istore_n 3), 1) := by decide +kernel
theorem dX0_deedBy_2 : decode cX0_deedBy 2 = .ok ((.iload_n 3), 1) := by decide +kernel
theorem dX0_deedBy_3 : decode cX0_deedBy 3 = .ok ((.aload_n 0), 1) := by decide +kernel
theorem dX0_deedBy_4 : decode cX0_deedBy 4 = .ok ((.getfield 76), 3) := by decide +kernel
theorem dX0_deedBy_7 : decode cX0_deedBy 7 = .ok ((.if_icmp .ge 24), 3) := by decide +kernel
theorem dX0_deedBy_10 : decode cX0_deedBy 10 = .ok ((.aload_n 0), 1) := by decide +kernel
theorem dX0_deedBy_11 : decode cX0_deedBy 11 = .ok ((.getfield 34), 3) := by decide +kernel
theorem dX0_deedBy_14 : decode cX0_deedBy 14 = .ok ((.iload_n 3), 1) := by decide +kernel
theorem dX0_deedBy_15 : decode cX0_deedBy 15 = .ok ((.invokestatic 100), 3) := by decide +kernel
theorem dX0_deedBy_18 : decode cX0_deedBy 18 = .ok ((.lload_n 1), 1) := by decide +kernel
theorem dX0_deedBy_19 : decode cX0_deedBy 19 = .ok (.lcmp, 1) := by decide +kernel
theorem dX0_deedBy_20 : decode cX0_deedBy 20 = .ok ((.ifCond .ne 5), 3) := by decide +kernel
theorem dX0_deedBy_23 : decode cX0_deedBy 23 = .ok ((.iload_n 3), 1) := by decide +kernel
theorem dX0_deedBy_24 : decode cX0_deedBy 24 = .ok (.ireturn, 1) := by decide +kernel
theorem dX0_deedBy_25 : decode cX0_deedBy 25 = .ok ((.iinc 3 1), 3) := by decide +kernel
theorem dX0_deedBy_28 : decode cX0_deedBy 28 = .ok ((.goto (-26)), 3) := by decide +kernel
theorem dX0_deedBy_31 : decode cX0_deedBy 31 = .ok ((.iconst (-1)), 1) := by decide +kernel
theorem dX0_deedBy_32 : decode cX0_deedBy 32 = .ok (.ireturn, 1) := by decide +kernel
def p_X0_deedBy_2 (b : Nat) (a1 : Int64)   (post : Int32 → vSt → Prop) : Nat → vSt → Int32 → Prop
  | 0 => fun _ _ => False
  | fu2 + 1 => fun S x3 => (((S.1 b 16) ≤ x3 → post (-1) S) ∧ (¬ (S.1 b 16) ≤ x3 → p_X10_at_ (b + 8) 10 S x3 (fun r8 S7 => ((¬ r8 = a1 → ∀ y9 : Int32, y9 = x3 + 1 → (p_X0_deedBy_2 b a1 post fu2) S7 y9) ∧ (r8 = a1 → post x3 S7)))))
theorem e_X0_deedBy_2 (b : Nat) (a1 : Int64)   (post : Int32 → vSt → Prop) (fu2 : Nat) (S : vSt) (x3 : Int32) : p_X0_deedBy_2 b a1 post (fu2 + 1) S x3 = ((((S.1 b 16) ≤ x3 → post (-1) S) ∧ (¬ (S.1 b 16) ≤ x3 → p_X10_at_ (b + 8) 10 S x3 (fun r8 S7 => ((¬ r8 = a1 → ∀ y9 : Int32, y9 = x3 + 1 → (p_X0_deedBy_2 b a1 post fu2) S7 y9) ∧ (r8 = a1 → post x3 S7)))))) := rfl
def p_X0_deedBy (b : Nat)  (S : vSt) (a1 : Int64) (post : Int32 → vSt → Prop) : Prop := ∃ fu2, p_X0_deedBy_2 b a1 post fu2 S 0
set_option maxHeartbeats 4000000 in
set_option maxRecDepth 100000 in
theorem q_X0_deedBy_2 {X : vX} {G : vG}  {post : Int32 → vSt → Prop} (C : v_Cx X G cX0_deedBy RX0 4 (v_rm 1 61)) (D : v_Rx X G (v_Qi G post) (some .int)) {b : Nat} (hb : v_isC b) {a1 : Int64}   : ∀ (fu : Nat) (S : vSt) (x3 : Int32), p_X0_deedBy_2 b a1 post fu S x3 → VJ X G S 2 [(0, .ref (G.1 b)), (1, .long a1), (3, .int x3)] [] := by
  intro fu
  induction fu with
  | zero => intro S x3 h; exact absurd h id
  | succ fu ih =>
    intro S x3 h
    have hK2 := ih
    rw [e_X0_deedBy_2] at h
    refine V_iload_n C 2 dX0_deedBy_2 rfl rfl ?_
    refine V_aload_n C 0 dX0_deedBy_3 rfl rfl ?_
    refine V_gi C b (v_cb hb 0 (by decide)) (v_co0 hb) F_0_16 k_RX0_76 dX0_deedBy_4 ?_
    refine V_icmp_ge (tgt := 31) C dX0_deedBy_7 (by decide) (fun c => ?_) (fun c => ?_)
    · have h := h.1 c
      refine V_iconst (v := (-1)) C dX0_deedBy_31 (by decide) ?_
      exact V_iret C D dX0_deedBy_32 h
    · have h := h.2 c
      refine V_aload_n C 0 dX0_deedBy_10 rfl rfl ?_
      refine V_gr C b (v_cb hb 0 (by decide)) (v_co0 hb) F_0_7 k_RX0_34 dX0_deedBy_11 ?_
      refine V_iload_n C 2 dX0_deedBy_14 rfl rfl ?_
      refine V_callSNl (As := [.ref (G.1 (b + 8)), .int x3]) (rest := []) C (c_X10_at_ (v_l X) G (v_cb hb 8 (by decide)) (v_ca8 hb) _ _ h) KV_X10_at_ (List.mem_of_getElem? (i := 31) rfl) rfl rfl rfl (Nat.le_of_ble_eq_true rfl) ⟨Nat.le_of_ble_eq_true rfl, Nat.le_of_ble_eq_true rfl⟩ dX0_deedBy_15 (fun r8 S7 h => ?_)
      refine V_lload_n C 1 dX0_deedBy_18 rfl rfl ?_
      refine V_lcmp_ne (tgt := 25) C dX0_deedBy_19 dX0_deedBy_20 (by decide) (fun c => ?_) (fun c => ?_)
      · have h := h.1 c
        obtain ⟨y9, ey9⟩ : ∃ z : Int32, z = x3 + 1 := ⟨_, rfl⟩
        have h := h y9 ey9
        refine V_iinc (lv' := [(0, .ref (G.1 b)), (1, .long a1), (3, .int y9)]) C 2 [1, 2, 0] y9 dX0_deedBy_25 rfl (by rw [ey9]; rfl) (by decide) rfl ?_
        refine V_goto (tgt := 2) C dX0_deedBy_28 (by decide) ?_
        exact hK2 _ _ h
      · have h := h.2 c
        refine V_iload_n C 2 dX0_deedBy_23 rfl rfl ?_
        exact V_iret C D dX0_deedBy_24 h
set_option maxHeartbeats 4000000 in
set_option maxRecDepth 100000 in
theorem c_X0_deedBy (l : Launch) (G : vG)  {b : Nat} (hb : v_isC b)  {S : vSt} (a1 : Int64) (post : Int32 → vSt → Prop) (h : p_X0_deedBy b  S a1 post) : Met l yX0_deedBy (v_ws yX0_deedBy cX0_deedBy 4 (some .int)) (v_rm 1 61) (v_Pc G [.ref (G.1 b), .long a1] S) (v_Qi G post) 0 0 (v_A G) := by
  refine v_start (by decide +kernel) (Nat.le_of_ble_eq_true rfl) (fun X hl C D => ?_)
  subst hl
  have C : v_Cx X G cX0_deedBy RX0 4 (v_rm 1 61) := C
  show VJ X G S 0 [(0, .ref (G.1 b)), (1, .long a1)] []
  refine V_iconst (v := 0) C dX0_deedBy_0 (by decide) ?_
  refine V_istore_n (lv' := [(0, .ref (G.1 b)), (1, .long a1), (3, .int 0)]) C [1, 2, 0] dX0_deedBy_1 rfl (by decide) rfl ?_
  obtain ⟨fu2, h⟩ := h
  exact q_X0_deedBy_2 C D hb fu2 _ _ h
/-! HalfAccuser.at([II)I -/
theorem dX10_at_0 : decode cX10_at 0 = .ok ((.iload_n 1), 1) := by decide +kernel
theorem dX10_at_1 : decode cX10_at 1 = .ok ((.ifCond .lt 15), 3) := by decide +kernel
theorem dX10_at_4 : decode cX10_at 4 = .ok ((.iload_n 1), 1) := by decide +kernel
theorem dX10_at_5 : decode cX10_at 5 = .ok ((.aload_n 0), 1) := by decide +kernel
theorem dX10_at_6 : decode cX10_at 6 = .ok (.arraylength, 1) := by decide +kernel
theorem dX10_at_7 : decode cX10_at 7 = .ok ((.if_icmp .ge 9), 3) := by decide +kernel
theorem dX10_at_10 : decode cX10_at 10 = .ok ((.aload_n 0), 1) := by decide +kernel
theorem dX10_at_11 : decode cX10_at 11 = .ok ((.iload_n 1), 1) := by decide +kernel
theorem dX10_at_12 : decode cX10_at 12 = .ok (.iaload, 1) := by decide +kernel
theorem dX10_at_13 : decode cX10_at 13 = .ok ((.goto 4), 3) := by decide +kernel
theorem dX10_at_16 : decode cX10_at 16 = .ok ((.iconst 0), 1) := by decide +kernel
theorem dX10_at_17 : decode cX10_at 17 = .ok (.ireturn, 1) := by decide +kernel
def p_X10_at (k0 n0 : Nat)  (S : vSt) (a1 : Int32) (post : Int32 → vSt → Prop) : Prop := ((a1 < 0 → post 0 S) ∧ (¬ a1 < 0 → (((Int32.ofNat n0) ≤ a1 → post 0 S) ∧ (¬ (Int32.ofNat n0) ≤ a1 → (vp_in a1 n0 ∧ post (S.1 k0 (Int32.toNatClampNeg a1)) S)))))
set_option maxHeartbeats 4000000 in
set_option maxRecDepth 100000 in
theorem c_X10_at (l : Launch) (G : vG)  {k0 n0 : Nat} (hk0 : k0 < 145) (hs0 : v_sh k0 = (13, n0))  {S : vSt} (a1 : Int32) (post : Int32 → vSt → Prop) (h : p_X10_at k0 n0  S a1 post) : Met l yX10_at (v_ws yX10_at cX10_at 2 (some .int)) (v_rm 0 40) (v_Pc G [.ref (G.1 k0), .int a1] S) (v_Qi G post) 0 0 (v_A G) := by
  refine v_start (by decide +kernel) (Nat.le_of_ble_eq_true rfl) (fun X hl C D => ?_)
  subst hl
  have C : v_Cx X G cX10_at RX10 2 (v_rm 0 40) := C
  show VJ X G S 0 [(0, .ref (G.1 k0)), (1, .int a1)] []
  refine V_iload_n C 1 dX10_at_0 rfl rfl ?_
  refine V_if_lt (tgt := 16) C dX10_at_1 (by decide) (fun c => ?_) (fun c => ?_)
  · have h := h.1 c
    refine V_iconst (v := 0) C dX10_at_16 (by decide) ?_
    exact V_iret C D dX10_at_17 h
  · have h := h.2 c
    refine V_iload_n C 1 dX10_at_4 rfl rfl ?_
    refine V_aload_n C 0 dX10_at_5 rfl rfl ?_
    refine V_alen C k0 n0 hk0 (Or.inr (Or.inl hs0)) dX10_at_6 ?_
    refine V_icmp_ge (tgt := 16) C dX10_at_7 (by decide) (fun c => ?_) (fun c => ?_)
    · have h := h.1 c
      refine V_iconst (v := 0) C dX10_at_16 (by decide) ?_
      exact V_iret C D dX10_at_17 h
    · have h := h.2 c
      refine V_aload_n C 0 dX10_at_10 rfl rfl ?_
      refine V_iload_n C 1 dX10_at_11 rfl rfl ?_
      obtain ⟨hi, h⟩ := h
      refine V_iald C k0 n0 hk0 hs0 hi dX10_at_12 ?_
      refine V_goto (tgt := 17) C dX10_at_13 (by decide) ?_
      exact V_iret C D dX10_at_17 h
/-! HalfAccuser$City.ruleOf(I)I -/
theorem dX0_ruleOf_0 : decode cX0_ruleOf 0 = .ok ((.aload_n 0), 1) := by decide +kernel
theorem dX0_ruleOf_1 : decode cX0_ruleOf 1 = .ok ((.getfield 9), 3) := by decide +kernel
theorem dX0_ruleOf_4 : decode cX0_ruleOf 4 = .ok ((.iload_n 1), 1) := by decide +kernel
theorem dX0_ruleOf_5 : decode cX0_ruleOf 5 = .ok ((.invokestatic 104), 3) := by decide +kernel
theorem dX0_ruleOf_8 : decode cX0_ruleOf 8 = .ok (.ireturn, 1) := by decide +kernel
def p_X0_ruleOf (b : Nat)  (S : vSt) (a1 : Int32) (post : Int32 → vSt → Prop) : Prop := p_X10_at (b + 1) 4 S a1 (fun r4 S3 => post r4 S3)
set_option maxHeartbeats 4000000 in
set_option maxRecDepth 100000 in
theorem c_X0_ruleOf (l : Launch) (G : vG)  {b : Nat} (hb : v_isC b)  {S : vSt} (a1 : Int32) (post : Int32 → vSt → Prop) (h : p_X0_ruleOf b  S a1 post) : Met l yX0_ruleOf (v_ws yX0_ruleOf cX0_ruleOf 2 (some .int)) (v_rm 1 61) (v_Pc G [.ref (G.1 b), .int a1] S) (v_Qi G post) 0 0 (v_A G) := by
  refine v_start (by decide +kernel) (Nat.le_of_ble_eq_true rfl) (fun X hl C D => ?_)
  subst hl
  have C : v_Cx X G cX0_ruleOf RX0 2 (v_rm 1 61) := C
  show VJ X G S 0 [(0, .ref (G.1 b)), (1, .int a1)] []
  refine V_aload_n C 0 dX0_ruleOf_0 rfl rfl ?_
  refine V_gr C b (v_cb hb 0 (by decide)) (v_co0 hb) F_0_0 k_RX0_9 dX0_ruleOf_1 ?_
  refine V_iload_n C 1 dX0_ruleOf_4 rfl rfl ?_
  refine V_callSNi (As := [.ref (G.1 (b + 1)), .int a1]) (rest := []) C (c_X10_at (v_l X) G (v_cb hb 1 (by decide)) (v_ca1 hb) _ _ h) KV_X10_at (List.mem_of_getElem? (i := 4) rfl) rfl rfl rfl (Nat.le_of_ble_eq_true rfl) ⟨Nat.le_of_ble_eq_true rfl, Nat.le_of_ble_eq_true rfl⟩ dX0_ruleOf_5 (fun r4 S3 h => ?_)
  exact V_iret C D dX0_ruleOf_8 h
/-! HalfAccuser$City.hasPerson(I)Z -/
theorem dX0_hasPerson_0 : decode cX0_hasPerson 0 = .ok ((.iload_n 1), 1) := by decide +kernel
theorem dX0_hasPerson_1 : decode cX0_hasPerson 1 = .ok ((.ifCond .lt 15), 3) := by decide +kernel
theorem dX0_hasPerson_4 : decode cX0_hasPerson 4 = .ok ((.iload_n 1), 1) := by decide +kernel
theorem dX0_hasPerson_5 : decode cX0_hasPerson 5 = .ok ((.aload_n 0), 1) := by decide +kernel
theorem dX0_hasPerson_6 : decode cX0_hasPerson 6 = .ok ((.getfield 72), 3) := by decide +kernel
theorem dX0_hasPerson_9 : decode cX0_hasPerson 9 = .ok ((.if_icmp .ge 7), 3) := by decide +kernel
theorem dX0_hasPerson_12 : decode cX0_hasPerson 12 = .ok ((.iconst 1), 1) := by decide +kernel
theorem dX0_hasPerson_13 : decode cX0_hasPerson 13 = .ok ((.goto 4), 3) := by decide +kernel
theorem dX0_hasPerson_16 : decode cX0_hasPerson 16 = .ok ((.iconst 0), 1) := by decide +kernel
theorem dX0_hasPerson_17 : decode cX0_hasPerson 17 = .ok (.ireturn, 1) := by decide +kernel
def p_X0_hasPerson (b : Nat)  (S : vSt) (a1 : Int32) (post : Bool → vSt → Prop) : Prop := ((a1 < 0 → post false S) ∧ (¬ a1 < 0 → (((S.1 b 15) ≤ a1 → post false S) ∧ (¬ (S.1 b 15) ≤ a1 → post true S))))
set_option maxHeartbeats 4000000 in
set_option maxRecDepth 100000 in
theorem c_X0_hasPerson (l : Launch) (G : vG)  {b : Nat} (hb : v_isC b)  {S : vSt} (a1 : Int32) (post : Bool → vSt → Prop) (h : p_X0_hasPerson b  S a1 post) : Met l yX0_hasPerson (v_ws yX0_hasPerson cX0_hasPerson 2 (some .boolean)) (v_rm 0 40) (v_Pc G [.ref (G.1 b), .int a1] S) (v_Qz G post) 0 0 (v_A G) := by
  refine v_start (by decide +kernel) (Nat.le_of_ble_eq_true rfl) (fun X hl C D => ?_)
  subst hl
  have C : v_Cx X G cX0_hasPerson RX0 2 (v_rm 0 40) := C
  show VJ X G S 0 [(0, .ref (G.1 b)), (1, .int a1)] []
  refine V_iload_n C 1 dX0_hasPerson_0 rfl rfl ?_
  refine V_if_lt (tgt := 16) C dX0_hasPerson_1 (by decide) (fun c => ?_) (fun c => ?_)
  · have h := h.1 c
    refine V_iconst (v := 0) C dX0_hasPerson_16 (by decide) ?_
    exact V_zret0 C D dX0_hasPerson_17 h
  · have h := h.2 c
    refine V_iload_n C 1 dX0_hasPerson_4 rfl rfl ?_
    refine V_aload_n C 0 dX0_hasPerson_5 rfl rfl ?_
    refine V_gi C b (v_cb hb 0 (by decide)) (v_co0 hb) F_0_15 k_RX0_72 dX0_hasPerson_6 ?_
    refine V_icmp_ge (tgt := 16) C dX0_hasPerson_9 (by decide) (fun c => ?_) (fun c => ?_)
    · have h := h.1 c
      refine V_iconst (v := 0) C dX0_hasPerson_16 (by decide) ?_
      exact V_zret0 C D dX0_hasPerson_17 h
    · have h := h.2 c
      refine V_iconst (v := 1) C dX0_hasPerson_12 (by decide) ?_
      refine V_goto (tgt := 17) C dX0_hasPerson_13 (by decide) ?_
      exact V_zret1 C D dX0_hasPerson_17 h
/-! HalfAccuser$City.hasDeed(I)Z -/
theorem dX0_hasDeed_0 : decode cX0_hasDeed 0 = .ok ((.iload_n 1), 1) := by decide +kernel
theorem dX0_hasDeed_1 : decode cX0_hasDeed 1 = .ok ((.ifCond .lt 15), 3) := by decide +kernel
theorem dX0_hasDeed_4 : decode cX0_hasDeed 4 = .ok ((.iload_n 1), 1) := by decide +kernel
theorem dX0_hasDeed_5 : decode cX0_hasDeed 5 = .ok ((.aload_n 0), 1) := by decide +kernel
theorem dX0_hasDeed_6 : decode cX0_hasDeed 6 = .ok ((.getfield 76), 3) := by decide +kernel
theorem dX0_hasDeed_9 : decode cX0_hasDeed 9 = .ok ((.if_icmp .ge 7), 3) := by decide +kernel
theorem dX0_hasDeed_12 : decode cX0_hasDeed 12 = .ok ((.iconst 1), 1) := by decide +kernel
theorem dX0_hasDeed_13 : decode cX0_hasDeed 13 = .ok ((.goto 4), 3) := by decide +kernel
theorem dX0_hasDeed_16 : decode cX0_hasDeed 16 = .ok ((.iconst 0), 1) := by decide +kernel
theorem dX0_hasDeed_17 : decode cX0_hasDeed 17 = .ok (.ireturn, 1) := by decide +kernel
def p_X0_hasDeed (b : Nat)  (S : vSt) (a1 : Int32) (post : Bool → vSt → Prop) : Prop := ((a1 < 0 → post false S) ∧ (¬ a1 < 0 → (((S.1 b 16) ≤ a1 → post false S) ∧ (¬ (S.1 b 16) ≤ a1 → post true S))))
set_option maxHeartbeats 4000000 in
set_option maxRecDepth 100000 in
theorem c_X0_hasDeed (l : Launch) (G : vG)  {b : Nat} (hb : v_isC b)  {S : vSt} (a1 : Int32) (post : Bool → vSt → Prop) (h : p_X0_hasDeed b  S a1 post) : Met l yX0_hasDeed (v_ws yX0_hasDeed cX0_hasDeed 2 (some .boolean)) (v_rm 0 40) (v_Pc G [.ref (G.1 b), .int a1] S) (v_Qz G post) 0 0 (v_A G) := by
  refine v_start (by decide +kernel) (Nat.le_of_ble_eq_true rfl) (fun X hl C D => ?_)
  subst hl
  have C : v_Cx X G cX0_hasDeed RX0 2 (v_rm 0 40) := C
  show VJ X G S 0 [(0, .ref (G.1 b)), (1, .int a1)] []
  refine V_iload_n C 1 dX0_hasDeed_0 rfl rfl ?_
  refine V_if_lt (tgt := 16) C dX0_hasDeed_1 (by decide) (fun c => ?_) (fun c => ?_)
  · have h := h.1 c
    refine V_iconst (v := 0) C dX0_hasDeed_16 (by decide) ?_
    exact V_zret0 C D dX0_hasDeed_17 h
  · have h := h.2 c
    refine V_iload_n C 1 dX0_hasDeed_4 rfl rfl ?_
    refine V_aload_n C 0 dX0_hasDeed_5 rfl rfl ?_
    refine V_gi C b (v_cb hb 0 (by decide)) (v_co0 hb) F_0_16 k_RX0_76 dX0_hasDeed_6 ?_
    refine V_icmp_ge (tgt := 16) C dX0_hasDeed_9 (by decide) (fun c => ?_) (fun c => ?_)
    · have h := h.1 c
      refine V_iconst (v := 0) C dX0_hasDeed_16 (by decide) ?_
      exact V_zret0 C D dX0_hasDeed_17 h
    · have h := h.2 c
      refine V_iconst (v := 1) C dX0_hasDeed_12 (by decide) ?_
      refine V_goto (tgt := 17) C dX0_hasDeed_13 (by decide) ?_
      exact V_zret1 C D dX0_hasDeed_17 h
/-! HalfAccuser$City.isSet(I)Z -/
theorem dX0_isSet_0 : decode cX0_isSet 0 = .ok ((.iload_n 1), 1) := by decide +kernel
theorem dX0_isSet_1 : decode cX0_isSet 1 = .ok ((.ifCond .lt 17), 3) := by decide +kernel
theorem dX0_isSet_4 : decode cX0_isSet 4 = .ok ((.iload_n 1), 1) := by decide +kernel
theorem dX0_isSet_5 : decode cX0_isSet 5 = .ok ((.iconst 1), 1) := by decide +kernel
theorem dX0_isSet_6 : decode cX0_isSet 6 = .ok ((.aload_n 0), 1) := by decide +kernel
theorem dX0_isSet_7 : decode cX0_isSet 7 = .ok ((.getfield 72), 3) := by decide +kernel
theorem dX0_isSet_10 : decode cX0_isSet 10 = .ok (.ishl, 1) := by decide +kernel
theorem dX0_isSet_11 : decode cX0_isSet 11 = .ok ((.if_icmp .ge 7), 3) := by decide +kernel
theorem dX0_isSet_14 : decode cX0_isSet 14 = .ok ((.iconst 1), 1) := by decide +kernel
theorem dX0_isSet_15 : decode cX0_isSet 15 = .ok ((.goto 4), 3) := by decide +kernel
theorem dX0_isSet_18 : decode cX0_isSet 18 = .ok ((.iconst 0), 1) := by decide +kernel
theorem dX0_isSet_19 : decode cX0_isSet 19 = .ok (.ireturn, 1) := by decide +kernel
def p_X0_isSet (b : Nat)  (S : vSt) (a1 : Int32) (post : Bool → vSt → Prop) : Prop := ((a1 < 0 → post false S) ∧ (¬ a1 < 0 → ((((1 : Int32) <<< ((S.1 b 15) &&& 31)) ≤ a1 → post false S) ∧ (¬ ((1 : Int32) <<< ((S.1 b 15) &&& 31)) ≤ a1 → post true S))))
set_option maxHeartbeats 4000000 in
set_option maxRecDepth 100000 in
theorem c_X0_isSet (l : Launch) (G : vG)  {b : Nat} (hb : v_isC b)  {S : vSt} (a1 : Int32) (post : Bool → vSt → Prop) (h : p_X0_isSet b  S a1 post) : Met l yX0_isSet (v_ws yX0_isSet cX0_isSet 2 (some .boolean)) (v_rm 0 40) (v_Pc G [.ref (G.1 b), .int a1] S) (v_Qz G post) 0 0 (v_A G) := by
  refine v_start (by decide +kernel) (Nat.le_of_ble_eq_true rfl) (fun X hl C D => ?_)
  subst hl
  have C : v_Cx X G cX0_isSet RX0 2 (v_rm 0 40) := C
  show VJ X G S 0 [(0, .ref (G.1 b)), (1, .int a1)] []
  refine V_iload_n C 1 dX0_isSet_0 rfl rfl ?_
  refine V_if_lt (tgt := 18) C dX0_isSet_1 (by decide) (fun c => ?_) (fun c => ?_)
  · have h := h.1 c
    refine V_iconst (v := 0) C dX0_isSet_18 (by decide) ?_
    exact V_zret0 C D dX0_isSet_19 h
  · have h := h.2 c
    refine V_iload_n C 1 dX0_isSet_4 rfl rfl ?_
    refine V_iconst (v := 1) C dX0_isSet_5 (by decide) ?_
    refine V_aload_n C 0 dX0_isSet_6 rfl rfl ?_
    refine V_gi C b (v_cb hb 0 (by decide)) (v_co0 hb) F_0_15 k_RX0_72 dX0_isSet_7 ?_
    refine V_ishl C dX0_isSet_10 ?_
    refine V_icmp_ge (tgt := 18) C dX0_isSet_11 (by decide) (fun c => ?_) (fun c => ?_)
    · have h := h.1 c
      refine V_iconst (v := 0) C dX0_isSet_18 (by decide) ?_
      exact V_zret0 C D dX0_isSet_19 h
    · have h := h.2 c
      refine V_iconst (v := 1) C dX0_isSet_14 (by decide) ?_
      refine V_goto (tgt := 19) C dX0_isSet_15 (by decide) ?_
      exact V_zret1 C D dX0_isSet_19 h
/-! HalfAccuser$City.isRuined(I)Z -/
theorem dX0_isRuined_0 : decode cX0_isRuined 0 = .ok ((.aload_n 0), 1) := by decide +kernel
theorem dX0_isRuined_1 : decode cX0_isRuined 1 = .ok ((.getfield 19), 3) := by decide +kernel
theorem dX0_isRuined_4 : decode cX0_isRuined 4 = .ok ((.iload_n 1), 1) := by decide +kernel
theorem dX0_isRuined_5 : decode cX0_isRuined 5 = .ok ((.invokestatic 104), 3) := by decide +kernel
theorem dX0_isRuined_8 : decode cX0_isRuined 8 = .ok ((.ifCond .ge 7), 3) := by decide +kernel
theorem dX0_isRuined_11 : decode cX0_isRuined 11 = .ok ((.iconst 1), 1) := by decide +kernel
theorem dX0_isRuined_12 : decode cX0_isRuined 12 = .ok ((.goto 4), 3) := by decide +kernel
theorem dX0_isRuined_15 : decode cX0_isRuined 15 = .ok ((.iconst 0), 1) := by decide +kernel
theorem dX0_isRuined_16 : decode cX0_isRuined 16 = .ok (.ireturn, 1) := by decide +kernel
def p_X0_isRuined (b : Nat)  (S : vSt) (a1 : Int32) (post : Bool → vSt → Prop) : Prop := p_X10_at (b + 3) 8 S a1 (fun r4 S3 => ((0 ≤ r4 → post false S3) ∧ (¬ 0 ≤ r4 → post true S3)))
set_option maxHeartbeats 4000000 in
set_option maxRecDepth 100000 in
theorem c_X0_isRuined (l : Launch) (G : vG)  {b : Nat} (hb : v_isC b)  {S : vSt} (a1 : Int32) (post : Bool → vSt → Prop) (h : p_X0_isRuined b  S a1 post) : Met l yX0_isRuined (v_ws yX0_isRuined cX0_isRuined 2 (some .boolean)) (v_rm 1 61) (v_Pc G [.ref (G.1 b), .int a1] S) (v_Qz G post) 0 0 (v_A G) := by
  refine v_start (by decide +kernel) (Nat.le_of_ble_eq_true rfl) (fun X hl C D => ?_)
  subst hl
  have C : v_Cx X G cX0_isRuined RX0 2 (v_rm 1 61) := C
  show VJ X G S 0 [(0, .ref (G.1 b)), (1, .int a1)] []
  refine V_aload_n C 0 dX0_isRuined_0 rfl rfl ?_
  refine V_gr C b (v_cb hb 0 (by decide)) (v_co0 hb) F_0_2 k_RX0_19 dX0_isRuined_1 ?_
  refine V_iload_n C 1 dX0_isRuined_4 rfl rfl ?_
  refine V_callSNi (As := [.ref (G.1 (b + 3)), .int a1]) (rest := []) C (c_X10_at (v_l X) G (v_cb hb 3 (by decide)) (v_ca3 hb) _ _ h) KV_X10_at (List.mem_of_getElem? (i := 4) rfl) rfl rfl rfl (Nat.le_of_ble_eq_true rfl) ⟨Nat.le_of_ble_eq_true rfl, Nat.le_of_ble_eq_true rfl⟩ dX0_isRuined_5 (fun r4 S3 h => ?_)
  refine V_if_ge (tgt := 15) C dX0_isRuined_8 (by decide) (fun c => ?_) (fun c => ?_)
  · have h := h.1 c
    refine V_iconst (v := 0) C dX0_isRuined_15 (by decide) ?_
    exact V_zret0 C D dX0_isRuined_16 h
  · have h := h.2 c
    refine V_iconst (v := 1) C dX0_isRuined_11 (by decide) ?_
    refine V_goto (tgt := 16) C dX0_isRuined_12 (by decide) ?_
    exact V_zret1 C D dX0_isRuined_16 h
/-! HalfAccuser$City.isOpen(I)Z -/
theorem dX0_isOpen_0 : decode cX0_isOpen 0 = .ok ((.aload_n 0), 1) := by decide +kernel
theorem dX0_isOpen_1 : decode cX0_isOpen 1 = .ok ((.getfield 46), 3) := by decide +kernel
theorem dX0_isOpen_4 : decode cX0_isOpen 4 = .ok ((.iload_n 1), 1) := by decide +kernel
theorem dX0_isOpen_5 : decode cX0_isOpen 5 = .ok ((.invokestatic 104), 3) := by decide +kernel
theorem dX0_isOpen_8 : decode cX0_isOpen 8 = .ok ((.ifCond .ne 7), 3) := by decide +kernel
theorem dX0_isOpen_11 : decode cX0_isOpen 11 = .ok ((.iconst 1), 1) := by decide +kernel
theorem dX0_isOpen_12 : decode cX0_isOpen 12 = .ok ((.goto 4), 3) := by decide +kernel
theorem dX0_isOpen_15 : decode cX0_isOpen 15 = .ok ((.iconst 0), 1) := by decide +kernel
theorem dX0_isOpen_16 : decode cX0_isOpen 16 = .ok (.ireturn, 1) := by decide +kernel
def p_X0_isOpen (b : Nat)  (S : vSt) (a1 : Int32) (post : Bool → vSt → Prop) : Prop := p_X10_at (b + 12) 10 S a1 (fun r4 S3 => ((¬ r4 = 0 → post false S3) ∧ (r4 = 0 → post true S3)))
set_option maxHeartbeats 4000000 in
set_option maxRecDepth 100000 in
theorem c_X0_isOpen (l : Launch) (G : vG)  {b : Nat} (hb : v_isC b)  {S : vSt} (a1 : Int32) (post : Bool → vSt → Prop) (h : p_X0_isOpen b  S a1 post) : Met l yX0_isOpen (v_ws yX0_isOpen cX0_isOpen 2 (some .boolean)) (v_rm 1 61) (v_Pc G [.ref (G.1 b), .int a1] S) (v_Qz G post) 0 0 (v_A G) := by
  refine v_start (by decide +kernel) (Nat.le_of_ble_eq_true rfl) (fun X hl C D => ?_)
  subst hl
  have C : v_Cx X G cX0_isOpen RX0 2 (v_rm 1 61) := C
  show VJ X G S 0 [(0, .ref (G.1 b)), (1, .int a1)] []
  refine V_aload_n C 0 dX0_isOpen_0 rfl rfl ?_
  refine V_gr C b (v_cb hb 0 (by decide)) (v_co0 hb) F_0_11 k_RX0_46 dX0_isOpen_1 ?_
  refine V_iload_n C 1 dX0_isOpen_4 rfl rfl ?_
  refine V_callSNi (As := [.ref (G.1 (b + 12)), .int a1]) (rest := []) C (c_X10_at (v_l X) G (v_cb hb 12 (by decide)) (v_ca12 hb) _ _ h) KV_X10_at (List.mem_of_getElem? (i := 4) rfl) rfl rfl rfl (Nat.le_of_ble_eq_true rfl) ⟨Nat.le_of_ble_eq_true rfl, Nat.le_of_ble_eq_true rfl⟩ dX0_isOpen_5 (fun r4 S3 h => ?_)
  refine V_if_ne (tgt := 15) C dX0_isOpen_8 (by decide) (fun c => ?_) (fun c => ?_)
  · have h := h.1 c
    refine V_iconst (v := 0) C dX0_isOpen_15 (by decide) ?_
    exact V_zret0 C D dX0_isOpen_16 h
  · have h := h.2 c
    refine V_iconst (v := 1) C dX0_isOpen_11 (by decide) ?_
    refine V_goto (tgt := 16) C dX0_isOpen_12 (by decide) ?_
    exact V_zret1 C D dX0_isOpen_16 h
/-! HalfAccuser$City.isOwn(II)Z -/
theorem dX0_isOwn_0 : decode cX0_isOwn 0 = .ok ((.aload_n 0), 1) := by decide +kernel
theorem dX0_isOwn_1 : decode cX0_isOwn 1 = .ok ((.getfield 37), 3) := by decide +kernel
theorem dX0_isOwn_4 : decode cX0_isOwn 4 = .ok ((.iload_n 2), 1) := by decide +kernel
theorem dX0_isOwn_5 : decode cX0_isOwn 5 = .ok ((.invokestatic 104), 3) := by decide +kernel
theorem dX0_isOwn_8 : decode cX0_isOwn 8 = .ok ((.iload_n 1), 1) := by decide +kernel
theorem dX0_isOwn_9 : decode cX0_isOwn 9 = .ok ((.if_icmp .ne 7), 3) := by decide +kernel
theorem dX0_isOwn_12 : decode cX0_isOwn 12 = .ok ((.iconst 1), 1) := by decide +kernel
theorem dX0_isOwn_13 : decode cX0_isOwn 13 = .ok ((.goto 4), 3) := by decide +kernel
theorem dX0_isOwn_16 : decode cX0_isOwn 16 = .ok ((.iconst 0), 1) := by decide +kernel
theorem dX0_isOwn_17 : decode cX0_isOwn 17 = .ok (.ireturn, 1) := by decide +kernel
def p_X0_isOwn (b : Nat)  (S : vSt) (a1 : Int32) (a2 : Int32) (post : Bool → vSt → Prop) : Prop := p_X10_at (b + 9) 10 S a2 (fun r4 S3 => ((¬ r4 = a1 → post false S3) ∧ (r4 = a1 → post true S3)))
set_option maxHeartbeats 4000000 in
set_option maxRecDepth 100000 in
theorem c_X0_isOwn (l : Launch) (G : vG)  {b : Nat} (hb : v_isC b)  {S : vSt} (a1 : Int32) (a2 : Int32) (post : Bool → vSt → Prop) (h : p_X0_isOwn b  S a1 a2 post) : Met l yX0_isOwn (v_ws yX0_isOwn cX0_isOwn 3 (some .boolean)) (v_rm 1 61) (v_Pc G [.ref (G.1 b), .int a1, .int a2] S) (v_Qz G post) 0 0 (v_A G) := by
  refine v_start (by decide +kernel) (Nat.le_of_ble_eq_true rfl) (fun X hl C D => ?_)
  subst hl
  have C : v_Cx X G cX0_isOwn RX0 3 (v_rm 1 61) := C
  show VJ X G S 0 [(0, .ref (G.1 b)), (1, .int a1), (2, .int a2)] []
  refine V_aload_n C 0 dX0_isOwn_0 rfl rfl ?_
  refine V_gr C b (v_cb hb 0 (by decide)) (v_co0 hb) F_0_8 k_RX0_37 dX0_isOwn_1 ?_
  refine V_iload_n C 2 dX0_isOwn_4 rfl rfl ?_
  refine V_callSNi (As := [.ref (G.1 (b + 9)), .int a2]) (rest := []) C (c_X10_at (v_l X) G (v_cb hb 9 (by decide)) (v_ca9 hb) _ _ h) KV_X10_at (List.mem_of_getElem? (i := 4) rfl) rfl rfl rfl (Nat.le_of_ble_eq_true rfl) ⟨Nat.le_of_ble_eq_true rfl, Nat.le_of_ble_eq_true rfl⟩ dX0_isOwn_5 (fun r4 S3 h => ?_)
  refine V_iload_n C 1 dX0_isOwn_8 rfl rfl ?_
  refine V_icmp_ne (tgt := 16) C dX0_isOwn_9 (by decide) (fun c => ?_) (fun c => ?_)
  · have h := h.1 c
    refine V_iconst (v := 0) C dX0_isOwn_16 (by decide) ?_
    exact V_zret0 C D dX0_isOwn_17 h
  · have h := h.2 c
    refine V_iconst (v := 1) C dX0_isOwn_12 (by decide) ?_
    refine V_goto (tgt := 17) C dX0_isOwn_13 (by decide) ?_
    exact V_zret1 C D dX0_isOwn_17 h
/-! HalfAccuser.isIn(II)Z -/
theorem dX10_isIn_0 : decode cX10_isIn 0 = .ok ((.iload_n 1), 1) := by decide +kernel
theorem dX10_isIn_1 : decode cX10_isIn 1 = .ok ((.ifCond .lt 22), 3) := by decide +kernel
theorem dX10_isIn_4 : decode cX10_isIn 4 = .ok ((.iload_n 1), 1) := by decide +kernel
theorem dX10_isIn_5 : decode cX10_isIn 5 = .ok ((.bipush 31), 2) := by decide +kernel
theorem dX10_isIn_7 : decode cX10_isIn 7 = .ok ((.if_icmp .ge 16), 3) := by decide +kernel
theorem dX10_isIn_10 : decode cX10_isIn 10 = .ok ((.iload_n 0), 1) := by decide +kernel
theorem dX10_isIn_11 : decode cX10_isIn 11 = .ok ((.iload_n 1), 1) := by decide +kernel
theorem dX10_isIn_12 : decode cX10_isIn 12 = .ok (.ishr, 1) := by decide +kernel
theorem dX10_isIn_13 : decode cX10_isIn 13 = .ok ((.iconst 1), 1) := by decide +kernel
theorem dX10_isIn_14 : decode cX10_isIn 14 = .ok (.iand, 1) := by decide +kernel
theorem dX10_isIn_15 : decode cX10_isIn 15 = .ok ((.iconst 1), 1) := by decide +kernel
theorem dX10_isIn_16 : decode cX10_isIn 16 = .ok ((.if_icmp .ne 7), 3) := by decide +kernel
theorem dX10_isIn_19 : decode cX10_isIn 19 = .ok ((.iconst 1), 1) := by decide +kernel
theorem dX10_isIn_20 : decode cX10_isIn 20 = .ok ((.goto 4), 3) := by decide +kernel
theorem dX10_isIn_23 : decode cX10_isIn 23 = .ok ((.iconst 0), 1) := by decide +kernel
theorem dX10_isIn_24 : decode cX10_isIn 24 = .ok (.ireturn, 1) := by decide +kernel
def p_X10_isIn   (S : vSt) (a0 : Int32) (a1 : Int32) (post : Bool → vSt → Prop) : Prop := ((a1 < 0 → post false S) ∧ (¬ a1 < 0 → ((31 ≤ a1 → post false S) ∧ (¬ 31 ≤ a1 → ((¬ ((a0 >>> (a1 &&& 31)) &&& 1) = 1 → post false S) ∧ (((a0 >>> (a1 &&& 31)) &&& 1) = 1 → post true S))))))
set_option maxHeartbeats 4000000 in
set_option maxRecDepth 100000 in
theorem c_X10_isIn (l : Launch) (G : vG)    {S : vSt} (a0 : Int32) (a1 : Int32) (post : Bool → vSt → Prop) (h : p_X10_isIn   S a0 a1 post) : Met l yX10_isIn (v_ws yX10_isIn cX10_isIn 2 (some .boolean)) (v_rm 0 40) (v_Pc G [.int a0, .int a1] S) (v_Qz G post) 0 0 (v_A G) := by
  refine v_start (by decide +kernel) (Nat.le_of_ble_eq_true rfl) (fun X hl C D => ?_)
  subst hl
  have C : v_Cx X G cX10_isIn RX10 2 (v_rm 0 40) := C
  show VJ X G S 0 [(0, .int a0), (1, .int a1)] []
  refine V_iload_n C 1 dX10_isIn_0 rfl rfl ?_
  refine V_if_lt (tgt := 23) C dX10_isIn_1 (by decide) (fun c => ?_) (fun c => ?_)
  · have h := h.1 c
    refine V_iconst (v := 0) C dX10_isIn_23 (by decide) ?_
    exact V_zret0 C D dX10_isIn_24 h
  · have h := h.2 c
    refine V_iload_n C 1 dX10_isIn_4 rfl rfl ?_
    refine V_bipush (v := 31) C dX10_isIn_5 (by decide) ?_
    refine V_icmp_ge (tgt := 23) C dX10_isIn_7 (by decide) (fun c => ?_) (fun c => ?_)
    · have h := h.1 c
      refine V_iconst (v := 0) C dX10_isIn_23 (by decide) ?_
      exact V_zret0 C D dX10_isIn_24 h
    · have h := h.2 c
      refine V_iload_n C 0 dX10_isIn_10 rfl rfl ?_
      refine V_iload_n C 1 dX10_isIn_11 rfl rfl ?_
      refine V_ishr C dX10_isIn_12 ?_
      refine V_iconst (v := 1) C dX10_isIn_13 (by decide) ?_
      refine V_iand C dX10_isIn_14 ?_
      refine V_iconst (v := 1) C dX10_isIn_15 (by decide) ?_
      refine V_icmp_ne (tgt := 23) C dX10_isIn_16 (by decide) (fun c => ?_) (fun c => ?_)
      · have h := h.1 c
        refine V_iconst (v := 0) C dX10_isIn_23 (by decide) ?_
        exact V_zret0 C D dX10_isIn_24 h
      · have h := h.2 c
        refine V_iconst (v := 1) C dX10_isIn_19 (by decide) ?_
        refine V_goto (tgt := 24) C dX10_isIn_20 (by decide) ?_
        exact V_zret1 C D dX10_isIn_24 h
/-! HalfAccuser$City.mayCharge(II)Z -/
theorem dX0_mayCharge_0 : decode cX0_mayCharge 0 = .ok ((.aload_n 0), 1) := by decide +kernel
theorem dX0_mayCharge_1 : decode cX0_mayCharge 1 = .ok ((.iload_n 2), 1) := by decide +kernel
theorem dX0_mayCharge_2 : decode cX0_mayCharge 2 = .ok ((.invokevirtual 107), 3) := by decide +kernel
theorem dX0_mayCharge_5 : decode cX0_mayCharge 5 = .ok ((.ifCond .eq 39), 3) := by decide +kernel
theorem dX0_mayCharge_8 : decode cX0_mayCharge 8 = .ok ((.aload_n 0), 1) := by decide +kernel
theorem dX0_mayCharge_9 : decode cX0_mayCharge 9 = .ok ((.iload_n 1), 1) := by decide +kernel
theorem dX0_mayCharge_10 : decode cX0_mayCharge 10 = .ok ((.iload_n 2), 1) := by decide +kernel
theorem dX0_mayCharge_11 : decode cX0_mayCharge 11 = .ok ((.invokevirtual 111), 3) := by decide +kernel
theorem dX0_mayCharge_14 : decode cX0_mayCharge 14 = .ok ((.ifCond .ne 30), 3) := by decide +kernel
theorem dX0_mayCharge_17 : decode cX0_mayCharge 17 = .ok ((.aload_n 0), 1) := by decide +kernel
theorem dX0_mayCharge_18 : decode cX0_mayCharge 18 = .ok ((.getfield 31), 3) := by decide +kernel
theorem dX0_mayCharge_21 : decode cX0_mayCharge 21 = .ok ((.iload_n 1), 1) := by decide +kernel
theorem dX0_mayCharge_22 : decode cX0_mayCharge 22 = .ok ((.invokestatic 104), 3) := by decide +kernel
theorem dX0_mayCharge_25 : decode cX0_mayCharge 25 = .ok ((.iload_n 2), 1) := by decide +kernel
theorem dX0_mayCharge_26 : decode cX0_mayCharge 26 = .ok ((.invokestatic 115), 3) := by decide +kernel
theorem dX0_mayCharge_29 : decode cX0_mayCharge 29 = .ok ((.ifCond .ne 15), 3) := by decide +kernel
theorem dX0_mayCharge_32 : decode cX0_mayCharge 32 = .ok ((.aload_n 0), 1) := by decide +kernel
theorem dX0_mayCharge_33 : decode cX0_mayCharge 33 = .ok ((.iload_n 1), 1) := by decide +kernel
theorem dX0_mayCharge_34 : decode cX0_mayCharge 34 = .ok ((.invokevirtual 118), 3) := by decide +kernel
theorem dX0_mayCharge_37 : decode cX0_mayCharge 37 = .ok ((.ifCond .ne 7), 3) := by decide +kernel
theorem dX0_mayCharge_40 : decode cX0_mayCharge 40 = .ok ((.iconst 1), 1) := by decide +kernel
theorem dX0_mayCharge_41 : decode cX0_mayCharge 41 = .ok ((.goto 4), 3) := by decide +kernel
theorem dX0_mayCharge_44 : decode cX0_mayCharge 44 = .ok ((.iconst 0), 1) := by decide +kernel
theorem dX0_mayCharge_45 : decode cX0_mayCharge 45 = .ok (.ireturn, 1) := by decide +kernel
def p_X0_mayCharge (b : Nat)  (S : vSt) (a1 : Int32) (a2 : Int32) (post : Bool → vSt → Prop) : Prop := p_X0_isOpen b S a2 (fun r12 S11 => ((r12 = false → post false S11) ∧ (r12 = true → p_X0_isOwn b S11 a1 a2 (fun r14 S13 => ((r14 = true → post false S13) ∧ (r14 = false → p_X10_at (b + 7) 8 S13 a1 (fun r16 S15 => p_X10_isIn  S15 r16 a2 (fun r18 S17 => ((r18 = true → post false S17) ∧ (r18 = false → p_X0_isRuined b S17 a1 (fun r20 S19 => ((r20 = true → post false S19) ∧ (r20 = false → post true S19)))))))))))))
set_option maxHeartbeats 4000000 in
set_option maxRecDepth 100000 in
theorem c_X0_mayCharge (l : Launch) (G : vG)  {b : Nat} (hb : v_isC b)  {S : vSt} (a1 : Int32) (a2 : Int32) (post : Bool → vSt → Prop) (h : p_X0_mayCharge b  S a1 a2 post) : Met l yX0_mayCharge (v_ws yX0_mayCharge cX0_mayCharge 3 (some .boolean)) (v_rm 2 83) (v_Pc G [.ref (G.1 b), .int a1, .int a2] S) (v_Qz G post) 0 0 (v_A G) := by
  refine v_start (by decide +kernel) (Nat.le_of_ble_eq_true rfl) (fun X hl C D => ?_)
  subst hl
  have C : v_Cx X G cX0_mayCharge RX0 3 (v_rm 2 83) := C
  show VJ X G S 0 [(0, .ref (G.1 b)), (1, .int a1), (2, .int a2)] []
  refine V_aload_n C 0 dX0_mayCharge_0 rfl rfl ?_
  refine V_iload_n C 2 dX0_mayCharge_1 rfl rfl ?_
  refine V_callVz (As := [.int a2]) (rest := []) C (c_X0_isOpen (v_l X) G hb _ _ h) b 0 (v_cb hb 0 (by decide)) (v_co0 hb) (by decide) rfl KV_X0_isOpen k_RX0_107 rfl rfl rfl (Nat.le_of_ble_eq_true rfl) ⟨Nat.le_of_ble_eq_true rfl, Nat.le_of_ble_eq_true rfl⟩ dX0_mayCharge_2 (fun r12 S11 h => ?_)
  refine V_ifb_eq (tgt := 44) C dX0_mayCharge_5 (by decide) (fun c => ?_) (fun c => ?_)
  · have h := h.1 c
    refine V_iconst (v := 0) C dX0_mayCharge_44 (by decide) ?_
    exact V_zret0 C D dX0_mayCharge_45 h
  · have h := h.2 c
    refine V_aload_n C 0 dX0_mayCharge_8 rfl rfl ?_
    refine V_iload_n C 1 dX0_mayCharge_9 rfl rfl ?_
    refine V_iload_n C 2 dX0_mayCharge_10 rfl rfl ?_
    refine V_callVz (As := [.int a1, .int a2]) (rest := []) C (c_X0_isOwn (v_l X) G hb _ _ _ h) b 0 (v_cb hb 0 (by decide)) (v_co0 hb) (by decide) rfl KV_X0_isOwn k_RX0_111 rfl rfl rfl (Nat.le_of_ble_eq_true rfl) ⟨Nat.le_of_ble_eq_true rfl, Nat.le_of_ble_eq_true rfl⟩ dX0_mayCharge_11 (fun r14 S13 h => ?_)
    refine V_ifb_ne (tgt := 44) C dX0_mayCharge_14 (by decide) (fun c => ?_) (fun c => ?_)
    · have h := h.1 c
      refine V_iconst (v := 0) C dX0_mayCharge_44 (by decide) ?_
      exact V_zret0 C D dX0_mayCharge_45 h
    · have h := h.2 c
      refine V_aload_n C 0 dX0_mayCharge_17 rfl rfl ?_
      refine V_gr C b (v_cb hb 0 (by decide)) (v_co0 hb) F_0_6 k_RX0_31 dX0_mayCharge_18 ?_
      refine V_iload_n C 1 dX0_mayCharge_21 rfl rfl ?_
      refine V_callSNi (As := [.ref (G.1 (b + 7)), .int a1]) (rest := []) C (c_X10_at (v_l X) G (v_cb hb 7 (by decide)) (v_ca7 hb) _ _ h) KV_X10_at (List.mem_of_getElem? (i := 4) rfl) rfl rfl rfl (Nat.le_of_ble_eq_true rfl) ⟨Nat.le_of_ble_eq_true rfl, Nat.le_of_ble_eq_true rfl⟩ dX0_mayCharge_22 (fun r16 S15 h => ?_)
      refine V_iload_n C 2 dX0_mayCharge_25 rfl rfl ?_
      refine V_callSNz (As := [.int r16, .int a2]) (rest := []) C (c_X10_isIn (v_l X) G  _ _ _ h) KV_X10_isIn (List.mem_of_getElem? (i := 5) rfl) rfl rfl rfl (Nat.le_of_ble_eq_true rfl) ⟨Nat.le_of_ble_eq_true rfl, Nat.le_of_ble_eq_true rfl⟩ dX0_mayCharge_26 (fun r18 S17 h => ?_)
      refine V_ifb_ne (tgt := 44) C dX0_mayCharge_29 (by decide) (fun c => ?_) (fun c => ?_)
      · have h := h.1 c
        refine V_iconst (v := 0) C dX0_mayCharge_44 (by decide) ?_
        exact V_zret0 C D dX0_mayCharge_45 h
      · have h := h.2 c
        refine V_aload_n C 0 dX0_mayCharge_32 rfl rfl ?_
        refine V_iload_n C 1 dX0_mayCharge_33 rfl rfl ?_
        refine V_callVz (As := [.int a1]) (rest := []) C (c_X0_isRuined (v_l X) G hb _ _ h) b 0 (v_cb hb 0 (by decide)) (v_co0 hb) (by decide) rfl KV_X0_isRuined k_RX0_118 rfl rfl rfl (Nat.le_of_ble_eq_true rfl) ⟨Nat.le_of_ble_eq_true rfl, Nat.le_of_ble_eq_true rfl⟩ dX0_mayCharge_34 (fun r20 S19 h => ?_)
        refine V_ifb_ne (tgt := 44) C dX0_mayCharge_37 (by decide) (fun c => ?_) (fun c => ?_)
        · have h := h.1 c
          refine V_iconst (v := 0) C dX0_mayCharge_44 (by decide) ?_
          exact V_zret0 C D dX0_mayCharge_45 h
        · have h := h.2 c
          refine V_iconst (v := 1) C dX0_mayCharge_40 (by decide) ?_
          refine V_goto (tgt := 45) C dX0_mayCharge_41 (by decide) ?_
          exact V_zret1 C D dX0_mayCharge_45 h
/-! HalfAccuser$City.mayDrop(III)Z -/
theorem dX0_mayDrop_0 : decode cX0_mayDrop 0 = .ok ((.aload_n 0), 1) := by decide +kernel
theorem dX0_mayDrop_1 : decode cX0_mayDrop 1 = .ok ((.iload_n 1), 1) := by decide +kernel
theorem dX0_mayDrop_2 : decode cX0_mayDrop 2 = .ok ((.iload_n 2), 1) := by decide +kernel
theorem dX0_mayDrop_3 : decode cX0_mayDrop 3 = .ok ((.invokevirtual 121), 3) := by decide +kernel
theorem dX0_mayDrop_6 : decode cX0_mayDrop 6 = .ok ((.ifCond .eq 26), 3) := by decide +kernel
theorem dX0_mayDrop_9 : decode cX0_mayDrop 9 = .ok ((.aload_n 0), 1) := by decide +kernel
theorem dX0_mayDrop_10 : decode cX0_mayDrop 10 = .ok ((.getfield 19), 3) := by decide +kernel
theorem dX0_mayDrop_13 : decode cX0_mayDrop 13 = .ok ((.aload_n 0), 1) := by decide +kernel
theorem dX0_mayDrop_14 : decode cX0_mayDrop 14 = .ok ((.getfield 37), 3) := by decide +kernel
theorem dX0_mayDrop_17 : decode cX0_mayDrop 17 = .ok ((.iload_n 2), 1) := by decide +kernel
theorem dX0_mayDrop_18 : decode cX0_mayDrop 18 = .ok ((.invokestatic 104), 3) := by decide +kernel
theorem dX0_mayDrop_21 : decode cX0_mayDrop 21 = .ok ((.invokestatic 104), 3) := by decide +kernel
theorem dX0_mayDrop_24 : decode cX0_mayDrop 24 = .ok ((.iload_n 3), 1) := by decide +kernel
theorem dX0_mayDrop_25 : decode cX0_mayDrop 25 = .ok ((.if_icmp .lt 7), 3) := by decide +kernel
theorem dX0_mayDrop_28 : decode cX0_mayDrop 28 = .ok ((.iconst 1), 1) := by decide +kernel
theorem dX0_mayDrop_29 : decode cX0_mayDrop 29 = .ok ((.goto 4), 3) := by decide +kernel
theorem dX0_mayDrop_32 : decode cX0_mayDrop 32 = .ok ((.iconst 0), 1) := by decide +kernel
theorem dX0_mayDrop_33 : decode cX0_mayDrop 33 = .ok (.ireturn, 1) := by decide +kernel
def p_X0_mayDrop (b : Nat)  (S : vSt) (a1 : Int32) (a2 : Int32) (a3 : Int32) (post : Bool → vSt → Prop) : Prop := p_X0_mayCharge b S a1 a2 (fun r8 S7 => ((r8 = false → post false S7) ∧ (r8 = true → p_X10_at (b + 9) 10 S7 a2 (fun r10 S9 => p_X10_at (b + 3) 8 S9 r10 (fun r12 S11 => ((r12 < a3 → post false S11) ∧ (¬ r12 < a3 → post true S11)))))))
set_option maxHeartbeats 4000000 in
set_option maxRecDepth 100000 in
theorem c_X0_mayDrop (l : Launch) (G : vG)  {b : Nat} (hb : v_isC b)  {S : vSt} (a1 : Int32) (a2 : Int32) (a3 : Int32) (post : Bool → vSt → Prop) (h : p_X0_mayDrop b  S a1 a2 a3 post) : Met l yX0_mayDrop (v_ws yX0_mayDrop cX0_mayDrop 4 (some .boolean)) (v_rm 3 105) (v_Pc G [.ref (G.1 b), .int a1, .int a2, .int a3] S) (v_Qz G post) 0 0 (v_A G) := by
  refine v_start (by decide +kernel) (Nat.le_of_ble_eq_true rfl) (fun X hl C D => ?_)
  subst hl
  have C : v_Cx X G cX0_mayDrop RX0 4 (v_rm 3 105) := C
  show VJ X G S 0 [(0, .ref (G.1 b)), (1, .int a1), (2, .int a2), (3, .int a3)] []
  refine V_aload_n C 0 dX0_mayDrop_0 rfl rfl ?_
  refine V_iload_n C 1 dX0_mayDrop_1 rfl rfl ?_
  refine V_iload_n C 2 dX0_mayDrop_2 rfl rfl ?_
  refine V_callVz (As := [.int a1, .int a2]) (rest := []) C (c_X0_mayCharge (v_l X) G hb _ _ _ h) b 0 (v_cb hb 0 (by decide)) (v_co0 hb) (by decide) rfl KV_X0_mayCharge k_RX0_121 rfl rfl rfl (Nat.le_of_ble_eq_true rfl) ⟨Nat.le_of_ble_eq_true rfl, Nat.le_of_ble_eq_true rfl⟩ dX0_mayDrop_3 (fun r8 S7 h => ?_)
  refine V_ifb_eq (tgt := 32) C dX0_mayDrop_6 (by decide) (fun c => ?_) (fun c => ?_)
  · have h := h.1 c
    refine V_iconst (v := 0) C dX0_mayDrop_32 (by decide) ?_
    exact V_zret0 C D dX0_mayDrop_33 h
  · have h := h.2 c
    refine V_aload_n C 0 dX0_mayDrop_9 rfl rfl ?_
    refine V_gr C b (v_cb hb 0 (by decide)) (v_co0 hb) F_0_2 k_RX0_19 dX0_mayDrop_10 ?_
    refine V_aload_n C 0 dX0_mayDrop_13 rfl rfl ?_
    refine V_gr C b (v_cb hb 0 (by decide)) (v_co0 hb) F_0_8 k_RX0_37 dX0_mayDrop_14 ?_
    refine V_iload_n C 2 dX0_mayDrop_17 rfl rfl ?_
    refine V_callSNi (As := [.ref (G.1 (b + 9)), .int a2]) (rest := [.ref (G.1 (b + 3))]) C (c_X10_at (v_l X) G (v_cb hb 9 (by decide)) (v_ca9 hb) _ _ h) KV_X10_at (List.mem_of_getElem? (i := 4) rfl) rfl rfl rfl (Nat.le_of_ble_eq_true rfl) ⟨Nat.le_of_ble_eq_true rfl, Nat.le_of_ble_eq_true rfl⟩ dX0_mayDrop_18 (fun r10 S9 h => ?_)
    refine V_callSNi (As := [.ref (G.1 (b + 3)), .int r10]) (rest := []) C (c_X10_at (v_l X) G (v_cb hb 3 (by decide)) (v_ca3 hb) _ _ h) KV_X10_at (List.mem_of_getElem? (i := 4) rfl) rfl rfl rfl (Nat.le_of_ble_eq_true rfl) ⟨Nat.le_of_ble_eq_true rfl, Nat.le_of_ble_eq_true rfl⟩ dX0_mayDrop_21 (fun r12 S11 h => ?_)
    refine V_iload_n C 3 dX0_mayDrop_24 rfl rfl ?_
    refine V_icmp_lt (tgt := 32) C dX0_mayDrop_25 (by decide) (fun c => ?_) (fun c => ?_)
    · have h := h.1 c
      refine V_iconst (v := 0) C dX0_mayDrop_32 (by decide) ?_
      exact V_zret0 C D dX0_mayDrop_33 h
    · have h := h.2 c
      refine V_iconst (v := 1) C dX0_mayDrop_28 (by decide) ?_
      refine V_goto (tgt := 33) C dX0_mayDrop_29 (by decide) ?_
      exact V_zret1 C D dX0_mayDrop_33 h
/-! HalfAccuser.limited(II)I -/
theorem dX10_limited_0 : decode cX10_limited 0 = .ok ((.iconst 0), 1) := by decide +kernel
theorem dX10_limited_1 : decode cX10_limited 1 = .ok ((.iload_n 1), 1) := by decide +kernel
theorem dX10_limited_2 : decode cX10_limited 2 = .ok ((.iload_n 0), 1) := by decide +kernel
theorem dX10_limited_3 : decode cX10_limited 3 = .ok ((.invokestatic 455), 3) := by decide +kernel
theorem dX10_limited_6 : decode cX10_limited 6 = .ok ((.invokestatic 464), 3) := by decide +kernel
theorem dX10_limited_9 : decode cX10_limited 9 = .ok (.ireturn, 1) := by decide +kernel
def p_X10_limited   (S : vSt) (a0 : Int32) (a1 : Int32) (post : Int32 → vSt → Prop) : Prop := post (v_maxi 0 (v_mini a1 a0)) S
set_option maxHeartbeats 4000000 in
set_option maxRecDepth 100000 in
theorem c_X10_limited (l : Launch) (G : vG)    {S : vSt} (a0 : Int32) (a1 : Int32) (post : Int32 → vSt → Prop) (h : p_X10_limited   S a0 a1 post) : Met l yX10_limited (v_ws yX10_limited cX10_limited 2 (some .int)) (v_rm 1 60) (v_Pc G [.int a0, .int a1] S) (v_Qi G post) 0 0 (v_A G) := by
  refine v_start (by decide +kernel) (Nat.le_of_ble_eq_true rfl) (fun X hl C D => ?_)
  subst hl
  have C : v_Cx X G cX10_limited RX10 2 (v_rm 1 60) := C
  show VJ X G S 0 [(0, .int a0), (1, .int a1)] []
  refine V_iconst (v := 0) C dX10_limited_0 (by decide) ?_
  refine V_iload_n C 1 dX10_limited_1 rfl rfl ?_
  refine V_iload_n C 0 dX10_limited_2 rfl rfl ?_
  refine V_mini C k_RX10_455 (Nat.le_of_ble_eq_true rfl) ⟨Nat.le_of_ble_eq_true rfl, Nat.le_of_ble_eq_true rfl⟩ dX10_limited_3 ?_
  refine V_maxi C k_RX10_464 (Nat.le_of_ble_eq_true rfl) ⟨Nat.le_of_ble_eq_true rfl, Nat.le_of_ble_eq_true rfl⟩ dX10_limited_6 ?_
  exact V_iret C D dX10_limited_9 h
/-! HalfAccuser$City.chanceOf(II)I -/
theorem dX0_chanceOf_0 : decode cX0_chanceOf 0 = .ok ((.aload_n 0), 1) := by decide +kernel
theorem dX0_chanceOf_1 : decode cX0_chanceOf 1 = .ok ((.getfield 43), 3) := by decide +kernel
theorem dX0_chanceOf_4 : decode cX0_chanceOf 4 = .ok ((.iload_n 2), 1) := by decide +kernel
theorem dX0_chanceOf_5 : decode cX0_chanceOf 5 = .ok ((.invokestatic 104), 3) := by decide +kernel
theorem dX0_chanceOf_8 : decode cX0_chanceOf 8 = .ok ((.aload_n 0), 1) := by decide +kernel
theorem dX0_chanceOf_9 : decode cX0_chanceOf 9 = .ok ((.getfield 22), 3) := by decide +kernel
theorem dX0_chanceOf_12 : decode cX0_chanceOf 12 = .ok ((.iload_n 1), 1) := by decide +kernel
theorem dX0_chanceOf_13 : decode cX0_chanceOf 13 = .ok ((.invokestatic 104), 3) := by decide +kernel
theorem dX0_chanceOf_16 : decode cX0_chanceOf 16 = .ok (.iadd, 1) := by decide +kernel
theorem dX0_chanceOf_17 : decode cX0_chanceOf 17 = .ok ((.aload_n 0), 1) := by decide +kernel
theorem dX0_chanceOf_18 : decode cX0_chanceOf 18 = .ok ((.getfield 22), 3) := by decide +kernel
theorem dX0_chanceOf_21 : decode cX0_chanceOf 21 = .ok ((.aload_n 0), 1) := by decide +kernel
theorem dX0_chanceOf_22 : decode cX0_chanceOf 22 = .ok ((.getfield 37), 3) := by decide +kernel
theorem dX0_chanceOf_25 : decode cX0_chanceOf 25 = .ok ((.iload_n 2), 1) := by decide +kernel
theorem dX0_chanceOf_26 : decode cX0_chanceOf 26 = .ok ((.invokestatic 104), 3) := by decide +kernel
theorem dX0_chanceOf_29 : decode cX0_chanceOf 29 = .ok ((.invokestatic 104), 3) := by decide +kernel
theorem dX0_chanceOf_32 : decode cX0_chanceOf 32 = .ok (.isub, 1) := by decide +kernel
theorem dX0_chanceOf_33 : decode cX0_chanceOf 33 = .ok ((.bipush 16), 2) := by decide +kernel
theorem dX0_chanceOf_35 : decode cX0_chanceOf 35 = .ok ((.invokestatic 124), 3) := by decide +kernel
theorem dX0_chanceOf_38 : decode cX0_chanceOf 38 = .ok (.ireturn, 1) := by decide +kernel
def p_X0_chanceOf (b : Nat)  (S : vSt) (a1 : Int32) (a2 : Int32) (post : Int32 → vSt → Prop) : Prop := p_X10_at (b + 11) 10 S a2 (fun r12 S11 => p_X10_at (b + 4) 8 S11 a1 (fun r14 S13 => p_X10_at (b + 9) 10 S13 a2 (fun r16 S15 => p_X10_at (b + 4) 8 S15 r16 (fun r18 S17 => p_X10_limited  S17 ((r12 + r14) - r18) 16 (fun r20 S19 => post r20 S19)))))
set_option maxHeartbeats 4000000 in
set_option maxRecDepth 100000 in
theorem c_X0_chanceOf (l : Launch) (G : vG)  {b : Nat} (hb : v_isC b)  {S : vSt} (a1 : Int32) (a2 : Int32) (post : Int32 → vSt → Prop) (h : p_X0_chanceOf b  S a1 a2 post) : Met l yX0_chanceOf (v_ws yX0_chanceOf cX0_chanceOf 3 (some .int)) (v_rm 2 81) (v_Pc G [.ref (G.1 b), .int a1, .int a2] S) (v_Qi G post) 0 0 (v_A G) := by
  refine v_start (by decide +kernel) (Nat.le_of_ble_eq_true rfl) (fun X hl C D => ?_)
  subst hl
  have C : v_Cx X G cX0_chanceOf RX0 3 (v_rm 2 81) := C
  show VJ X G S 0 [(0, .ref (G.1 b)), (1, .int a1), (2, .int a2)] []
  refine V_aload_n C 0 dX0_chanceOf_0 rfl rfl ?_
  refine V_gr C b (v_cb hb 0 (by decide)) (v_co0 hb) F_0_10 k_RX0_43 dX0_chanceOf_1 ?_
  refine V_iload_n C 2 dX0_chanceOf_4 rfl rfl ?_
  refine V_callSNi (As := [.ref (G.1 (b + 11)), .int a2]) (rest := []) C (c_X10_at (v_l X) G (v_cb hb 11 (by decide)) (v_ca11 hb) _ _ h) KV_X10_at (List.mem_of_getElem? (i := 4) rfl) rfl rfl rfl (Nat.le_of_ble_eq_true rfl) ⟨Nat.le_of_ble_eq_true rfl, Nat.le_of_ble_eq_true rfl⟩ dX0_chanceOf_5 (fun r12 S11 h => ?_)
  refine V_aload_n C 0 dX0_chanceOf_8 rfl rfl ?_
  refine V_gr C b (v_cb hb 0 (by decide)) (v_co0 hb) F_0_3 k_RX0_22 dX0_chanceOf_9 ?_
  refine V_iload_n C 1 dX0_chanceOf_12 rfl rfl ?_
  refine V_callSNi (As := [.ref (G.1 (b + 4)), .int a1]) (rest := [.int r12]) C (c_X10_at (v_l X) G (v_cb hb 4 (by decide)) (v_ca4 hb) _ _ h) KV_X10_at (List.mem_of_getElem? (i := 4) rfl) rfl rfl rfl (Nat.le_of_ble_eq_true rfl) ⟨Nat.le_of_ble_eq_true rfl, Nat.le_of_ble_eq_true rfl⟩ dX0_chanceOf_13 (fun r14 S13 h => ?_)
  refine V_iadd C dX0_chanceOf_16 ?_
  refine V_aload_n C 0 dX0_chanceOf_17 rfl rfl ?_
  refine V_gr C b (v_cb hb 0 (by decide)) (v_co0 hb) F_0_3 k_RX0_22 dX0_chanceOf_18 ?_
  refine V_aload_n C 0 dX0_chanceOf_21 rfl rfl ?_
  refine V_gr C b (v_cb hb 0 (by decide)) (v_co0 hb) F_0_8 k_RX0_37 dX0_chanceOf_22 ?_
  refine V_iload_n C 2 dX0_chanceOf_25 rfl rfl ?_
  refine V_callSNi (As := [.ref (G.1 (b + 9)), .int a2]) (rest := [.ref (G.1 (b + 4)), .int (r12 + r14)]) C (c_X10_at (v_l X) G (v_cb hb 9 (by decide)) (v_ca9 hb) _ _ h) KV_X10_at (List.mem_of_getElem? (i := 4) rfl) rfl rfl rfl (Nat.le_of_ble_eq_true rfl) ⟨Nat.le_of_ble_eq_true rfl, Nat.le_of_ble_eq_true rfl⟩ dX0_chanceOf_26 (fun r16 S15 h => ?_)
  refine V_callSNi (As := [.ref (G.1 (b + 4)), .int r16]) (rest := [.int (r12 + r14)]) C (c_X10_at (v_l X) G (v_cb hb 4 (by decide)) (v_ca4 hb) _ _ h) KV_X10_at (List.mem_of_getElem? (i := 4) rfl) rfl rfl rfl (Nat.le_of_ble_eq_true rfl) ⟨Nat.le_of_ble_eq_true rfl, Nat.le_of_ble_eq_true rfl⟩ dX0_chanceOf_29 (fun r18 S17 h => ?_)
  refine V_isub C dX0_chanceOf_32 ?_
  refine V_bipush (v := 16) C dX0_chanceOf_33 (by decide) ?_
  refine V_callSNi (As := [.int ((r12 + r14) - r18), .int 16]) (rest := []) C (c_X10_limited (v_l X) G  _ _ _ h) KV_X10_limited (List.mem_of_getElem? (i := 7) rfl) rfl rfl rfl (Nat.le_of_ble_eq_true rfl) ⟨Nat.le_of_ble_eq_true rfl, Nat.le_of_ble_eq_true rfl⟩ dX0_chanceOf_35 (fun r20 S19 h => ?_)
  exact V_iret C D dX0_chanceOf_38 h
/-! HalfAccuser$City.give(II)V -/
theorem dX0_give_0 : decode cX0_give 0 = .ok ((.aload_n 0), 1) := by decide +kernel
theorem dX0_give_1 : decode cX0_give 1 = .ok ((.getfield 19), 3) := by decide +kernel
theorem dX0_give_4 : decode cX0_give 4 = .ok ((.iload_n 1), 1) := by decide +kernel
theorem dX0_give_5 : decode cX0_give 5 = .ok ((.ldc 128), 2) := by decide +kernel
theorem dX0_give_7 : decode cX0_give 7 = .ok ((.ldc 129), 2) := by decide +kernel
theorem dX0_give_9 : decode cX0_give 9 = .ok ((.aload_n 0), 1) := by decide +kernel
theorem dX0_give_10 : decode cX0_give 10 = .ok ((.getfield 19), 3) := by decide +kernel
theorem dX0_give_13 : decode cX0_give 13 = .ok ((.iload_n 1), 1) := by decide +kernel
theorem dX0_give_14 : decode cX0_give 14 = .ok ((.invokestatic 104), 3) := by decide +kernel
theorem dX0_give_17 : decode cX0_give 17 = .ok ((.iload_n 2), 1) := by decide +kernel
theorem dX0_give_18 : decode cX0_give 18 = .ok (.iadd, 1) := by decide +kernel
theorem dX0_give_19 : decode cX0_give 19 = .ok ((.invokestatic 130), 3) := by decide +kernel
theorem dX0_give_22 : decode cX0_give 22 = .ok ((.invokestatic 135), 3) := by decide +kernel
theorem dX0_give_25 : decode cX0_give 25 = .ok ((.invokestatic 97), 3) := by decide +kernel
theorem dX0_give_28 : decode cX0_give 28 = .ok (.return_, 1) := by decide +kernel
def p_X0_give (b : Nat)  (S : vSt) (a1 : Int32) (a2 : Int32) (post : vSt → Prop) : Prop := p_X10_at (b + 3) 8 S a1 (fun r5 S4 => p_X10_put (b + 3) 8 S4 a1 (v_maxi (-99999) (v_mini 99999 (r5 + a2))) (fun S6 => post S6))
set_option maxHeartbeats 4000000 in
set_option maxRecDepth 100000 in
theorem c_X0_give (l : Launch) (G : vG)  {b : Nat} (hb : v_isC b)  {S : vSt} (a1 : Int32) (a2 : Int32) (post : vSt → Prop) (h : p_X0_give b  S a1 a2 post) : Met l yX0_give (v_ws yX0_give cX0_give 3 none) (v_rm 1 62) (v_Pc G [.ref (G.1 b), .int a1, .int a2] S) (v_Qv G post) 0 0 (v_A G) := by
  refine v_start (by decide +kernel) (Nat.le_of_ble_eq_true rfl) (fun X hl C D => ?_)
  subst hl
  have C : v_Cx X G cX0_give RX0 3 (v_rm 1 62) := C
  show VJ X G S 0 [(0, .ref (G.1 b)), (1, .int a1), (2, .int a2)] []
  refine V_aload_n C 0 dX0_give_0 rfl rfl ?_
  refine V_gr C b (v_cb hb 0 (by decide)) (v_co0 hb) F_0_2 k_RX0_19 dX0_give_1 ?_
  refine V_iload_n C 1 dX0_give_4 rfl rfl ?_
  refine V_ldc (v := (-99999)) C k_RX0_128 dX0_give_5 ?_
  refine V_ldc (v := 99999) C k_RX0_129 dX0_give_7 ?_
  refine V_aload_n C 0 dX0_give_9 rfl rfl ?_
  refine V_gr C b (v_cb hb 0 (by decide)) (v_co0 hb) F_0_2 k_RX0_19 dX0_give_10 ?_
  refine V_iload_n C 1 dX0_give_13 rfl rfl ?_
  refine V_callSNi (As := [.ref (G.1 (b + 3)), .int a1]) (rest := [.int 99999, .int (-99999), .int a1, .ref (G.1 (b + 3))]) C (c_X10_at (v_l X) G (v_cb hb 3 (by decide)) (v_ca3 hb) _ _ h) KV_X10_at (List.mem_of_getElem? (i := 4) rfl) rfl rfl rfl (Nat.le_of_ble_eq_true rfl) ⟨Nat.le_of_ble_eq_true rfl, Nat.le_of_ble_eq_true rfl⟩ dX0_give_14 (fun r5 S4 h => ?_)
  refine V_iload_n C 2 dX0_give_17 rfl rfl ?_
  refine V_iadd C dX0_give_18 ?_
  refine V_mini C k_RX0_130 (Nat.le_of_ble_eq_true rfl) ⟨Nat.le_of_ble_eq_true rfl, Nat.le_of_ble_eq_true rfl⟩ dX0_give_19 ?_
  refine V_maxi C k_RX0_135 (Nat.le_of_ble_eq_true rfl) ⟨Nat.le_of_ble_eq_true rfl, Nat.le_of_ble_eq_true rfl⟩ dX0_give_22 ?_
  refine V_callSNv (As := [.ref (G.1 (b + 3)), .int a1, .int (v_maxi (-99999) (v_mini 99999 (r5 + a2)))]) (rest := []) C (c_X10_put (v_l X) G (v_cb hb 3 (by decide)) (v_ca3 hb) _ _ _ h) KV_X10_put (List.mem_of_getElem? (i := 6) rfl) rfl rfl rfl (Nat.le_of_ble_eq_true rfl) ⟨Nat.le_of_ble_eq_true rfl, Nat.le_of_ble_eq_true rfl⟩ dX0_give_25 (fun S6 h => ?_)
  exact V_vret C D dX0_give_28 h
/-! HalfAccuser$City.fillTreasury(I)V -/
theorem dX0_fillTreasury_0 : decode cX0_fillTreasury 0 = .ok ((.aload_n 0), 1) := by decide +kernel
theorem dX0_fillTreasury_1 : decode cX0_fillTreasury 1 = .ok ((.ldc 129), 2) := by decide +kernel
theorem dX0_fillTreasury_3 : decode cX0_fillTreasury 3 = .ok ((.aload_n 0), 1) := by decide +kernel
theorem dX0_fillTreasury_4 : decode cX0_fillTreasury 4 = .ok ((.getfield 79), 3) := by decide +kernel
theorem dX0_fillTreasury_7 : decode cX0_fillTreasury 7 = .ok ((.iload_n 1), 1) := by decide +kernel
theorem dX0_fillTreasury_8 : decode cX0_fillTreasury 8 = .ok (.iadd, 1) := by decide +kernel
theorem dX0_fillTreasury_9 : decode cX0_fillTreasury 9 = .ok ((.invokestatic 130), 3) := by decide +kernel
theorem dX0_fillTreasury_12 : decode cX0_fillTreasury 12 = .ok ((.putfield 79), 3) := by decide +kernel
theorem dX0_fillTreasury_15 : decode cX0_fillTreasury 15 = .ok (.return_, 1) := by decide +kernel
def p_X0_fillTreasury (b : Nat)  (S : vSt) (a1 : Int32) (post : vSt → Prop) : Prop := ∀ S2, S2 = v_si S b 17 (v_mini 99999 ((S.1 b 17) + a1)) → post S2
set_option maxHeartbeats 4000000 in
set_option maxRecDepth 100000 in
theorem c_X0_fillTreasury (l : Launch) (G : vG)  {b : Nat} (hb : v_isC b)  {S : vSt} (a1 : Int32) (post : vSt → Prop) (h : p_X0_fillTreasury b  S a1 post) : Met l yX0_fillTreasury (v_ws yX0_fillTreasury cX0_fillTreasury 2 none) (v_rm 1 60) (v_Pc G [.ref (G.1 b), .int a1] S) (v_Qv G post) 0 0 (v_A G) := by
  refine v_start (by decide +kernel) (Nat.le_of_ble_eq_true rfl) (fun X hl C D => ?_)
  subst hl
  have C : v_Cx X G cX0_fillTreasury RX0 2 (v_rm 1 60) := C
  show VJ X G S 0 [(0, .ref (G.1 b)), (1, .int a1)] []
  refine V_aload_n C 0 dX0_fillTreasury_0 rfl rfl ?_
  refine V_ldc (v := 99999) C k_RX0_129 dX0_fillTreasury_1 ?_
  refine V_aload_n C 0 dX0_fillTreasury_3 rfl rfl ?_
  refine V_gi C b (v_cb hb 0 (by decide)) (v_co0 hb) F_0_17 k_RX0_79 dX0_fillTreasury_4 ?_
  refine V_iload_n C 1 dX0_fillTreasury_7 rfl rfl ?_
  refine V_iadd C dX0_fillTreasury_8 ?_
  refine V_mini C k_RX0_130 (Nat.le_of_ble_eq_true rfl) ⟨Nat.le_of_ble_eq_true rfl, Nat.le_of_ble_eq_true rfl⟩ dX0_fillTreasury_9 ?_
  refine V_pi C b (v_cb hb 0 (by decide)) (v_co0 hb) P_0_17 k_RX0_79 dX0_fillTreasury_12 ?_
  refine V_topS (fun S2 eS2 => ?_)
  have h := h S2 eS2
  exact V_vret C D dX0_fillTreasury_15 h
/-! HalfAccuser$City.partOf(II)I -/
theorem dX0_partOf_0 : decode cX0_partOf 0 = .ok ((.iload_n 0), 1) := by decide +kernel
theorem dX0_partOf_1 : decode cX0_partOf 1 = .ok ((.iload_n 1), 1) := by decide +kernel
theorem dX0_partOf_2 : decode cX0_partOf 2 = .ok (.imul, 1) := by decide +kernel
theorem dX0_partOf_3 : decode cX0_partOf 3 = .ok ((.bipush 16), 2) := by decide +kernel
theorem dX0_partOf_5 : decode cX0_partOf 5 = .ok (.idiv, 1) := by decide +kernel
theorem dX0_partOf_6 : decode cX0_partOf 6 = .ok (.ireturn, 1) := by decide +kernel
def p_X0_partOf   (S : vSt) (a0 : Int32) (a1 : Int32) (post : Int32 → vSt → Prop) : Prop := post ((a0 * a1) / 16) S
set_option maxHeartbeats 4000000 in
set_option maxRecDepth 100000 in
theorem c_X0_partOf (l : Launch) (G : vG)    {S : vSt} (a0 : Int32) (a1 : Int32) (post : Int32 → vSt → Prop) (h : p_X0_partOf   S a0 a1 post) : Met l yX0_partOf (v_ws yX0_partOf cX0_partOf 2 (some .int)) (v_rm 0 40) (v_Pc G [.int a0, .int a1] S) (v_Qi G post) 0 0 (v_A G) := by
  refine v_start (by decide +kernel) (Nat.le_of_ble_eq_true rfl) (fun X hl C D => ?_)
  subst hl
  have C : v_Cx X G cX0_partOf RX0 2 (v_rm 0 40) := C
  show VJ X G S 0 [(0, .int a0), (1, .int a1)] []
  refine V_iload_n C 0 dX0_partOf_0 rfl rfl ?_
  refine V_iload_n C 1 dX0_partOf_1 rfl rfl ?_
  refine V_imul C dX0_partOf_2 ?_
  refine V_bipush (v := 16) C dX0_partOf_3 (by decide) ?_
  refine V_idiv C dX0_partOf_5 (by decide) ?_
  exact V_iret C D dX0_partOf_6 h
/-! HalfAccuser$City.decide(III)I -/
theorem dX0_decide_0 : decode cX0_decide 0 = .ok ((.aload_n 0), 1) := by decide +kernel
theorem dX0_decide_1 : decode cX0_decide 1 = .ok (.dup, 1) := by decide +kernel
theorem dX0_decide_2 : decode cX0_decide 2 = .ok ((.getfield 82), 3) := by decide +kernel
theorem dX0_decide_5 : decode cX0_decide 5 = .ok ((.iconst 1), 1) := by decide +kernel
theorem dX0_decide_6 : decode cX0_decide 6 = .ok (.iadd, 1) := by decide +kernel
theorem dX0_decide_7 : decode cX0_decide 7 = .ok ((.putfield 82), 3) := by decide +kernel
theorem dX0_decide_10 : decode cX0_decide 10 = .ok ((.aload_n 0), 1) := by decide +kernel
theorem dX0_decide_11 : decode cX0_decide 11 = .ok ((.getfield 49), 3) := by decide +kernel
theorem dX0_decide_14 : decode cX0_decide 14 = .ok ((.iload_n 2), 1) := by decide +kernel
theorem dX0_decide_15 : decode cX0_decide 15 = .ok ((.iload_n 1), 1) := by decide +kernel
theorem dX0_decide_16 : decode cX0_decide 16 = .ok ((.invokestatic 97), 3) := by decide +kernel
theorem dX0_decide_19 : decode cX0_decide 19 = .ok ((.aload_n 0), 1) := by decide +kernel
theorem dX0_decide_20 : decode cX0_decide 20 = .ok ((.getfield 52), 3) := by decide +kernel
theorem dX0_decide_23 : decode cX0_decide 23 = .ok ((.iload_n 2), 1) := by decide +kernel
theorem dX0_decide_24 : decode cX0_decide 24 = .ok ((.iload_n 3), 1) := by decide +kernel
theorem dX0_decide_25 : decode cX0_decide 25 = .ok ((.invokestatic 97), 3) := by decide +kernel
theorem dX0_decide_28 : decode cX0_decide 28 = .ok ((.iload_n 3), 1) := by decide +kernel
theorem dX0_decide_29 : decode cX0_decide 29 = .ok ((.iconst 2), 1) := by decide +kernel
theorem dX0_decide_30 : decode cX0_decide 30 = .ok (.imul, 1) := by decide +kernel
theorem dX0_decide_31 : decode cX0_decide 31 = .ok ((.aload_n 0), 1) := by decide +kernel
theorem dX0_decide_32 : decode cX0_decide 32 = .ok ((.iconst 0), 1) := by decide +kernel
theorem dX0_decide_33 : decode cX0_decide 33 = .ok ((.invokevirtual 138), 3) := by decide +kernel
theorem dX0_decide_36 : decode cX0_decide 36 = .ok ((.if_icmp .le 85), 3) := by decide +kernel
theorem dX0_decide_39 : decode cX0_decide 39 = .ok ((.aload_n 0), 1) := by decide +kernel
theorem dX0_decide_40 : decode cX0_decide 40 = .ok ((.getfield 46), 3) := by decide +kernel
theorem dX0_decide_43 : decode cX0_decide 43 = .ok ((.iload_n 2), 1) := by decide +kernel
theorem dX0_decide_44 : decode cX0_decide 44 = .ok ((.iconst 1), 1) := by decide +kernel
theorem dX0_decide_45 : decode cX0_decide 45 = .ok ((.invokestatic 97), 3) := by decide +kernel
theorem dX0_decide_48 : decode cX0_decide 48 = .ok ((.aload_n 0), 1) := by decide +kernel
theorem dX0_decide_49 : decode cX0_decide 49 = .ok ((.getfield 25), 3) := by decide +kernel
theorem dX0_decide_52 : decode cX0_decide 52 = .ok ((.iload_n 1), 1) := by decide +kernel
theorem dX0_decide_53 : decode cX0_decide 53 = .ok ((.aload_n 0), 1) := by decide +kernel
theorem dX0_decide_54 : decode cX0_decide 54 = .ok ((.getfield 25), 3) := by decide +kernel
theorem dX0_decide_57 : decode cX0_decide 57 = .ok ((.iload_n 1), 1) := by decide +kernel
theorem dX0_decide_58 : decode cX0_decide 58 = .ok ((.invokestatic 104), 3) := by decide +kernel
theorem dX0_decide_61 : decode cX0_decide 61 = .ok ((.iconst 1), 1) := by decide +kernel
theorem dX0_decide_62 : decode cX0_decide 62 = .ok (.iadd, 1) := by decide +kernel
theorem dX0_decide_63 : decode cX0_decide 63 = .ok ((.invokestatic 97), 3) := by decide +kernel
theorem dX0_decide_66 : decode cX0_decide 66 = .ok ((.aload_n 0), 1) := by decide +kernel
theorem dX0_decide_67 : decode cX0_decide 67 = .ok ((.getfield 40), 3) := by decide +kernel
theorem dX0_decide_70 : decode cX0_decide 70 = .ok ((.iload_n 2), 1) := by decide +kernel
theorem dX0_decide_71 : decode cX0_decide 71 = .ok ((.invokestatic 104), 3) := by decide +kernel
theorem dX0_decide_74 : decode cX0_decide 74 = .ok ((.istore 4), 2) := by decide +kernel
theorem dX0_decide_76 : decode cX0_decide 76 = .ok ((.iload 4), 2) := by decide +kernel
theorem dX0_decide_78 : decode cX0_decide 78 = .ok ((.aload_n 0), 1) := by decide +kernel
theorem dX0_decide_79 : decode cX0_decide 79 = .ok ((.iconst 3), 1) := by decide +kernel
theorem dX0_decide_80 : decode cX0_decide 80 = .ok ((.invokevirtual 138), 3) := by decide +kernel
theorem dX0_decide_83 : decode cX0_decide 83 = .ok ((.invokestatic 142), 3) := by decide +kernel
theorem dX0_decide_86 : decode cX0_decide 86 = .ok ((.istore 5), 2) := by decide +kernel
theorem dX0_decide_88 : decode cX0_decide 88 = .ok ((.aload_n 0), 1) := by decide +kernel
theorem dX0_decide_89 : decode cX0_decide 89 = .ok ((.aload_n 0), 1) := by decide +kernel
theorem dX0_decide_90 : decode cX0_decide 90 = .ok ((.getfield 37), 3) := by decide +kernel
theorem dX0_decide_93 : decode cX0_decide 93 = .ok ((.iload_n 2), 1) := by decide +kernel
theorem dX0_decide_94 : decode cX0_decide 94 = .ok ((.invokestatic 104), 3) := by decide +kernel
theorem dX0_decide_97 : decode cX0_decide 97 = .ok ((.iload 4), 2) := by decide +kernel
theorem dX0_decide_99 : decode cX0_decide 99 = .ok (.ineg, 1) := by decide +kernel
theorem dX0_decide_100 : decode cX0_decide 100 = .ok ((.invokevirtual 145), 3) := by decide +kernel
theorem dX0_decide_103 : decode cX0_decide 103 = .ok ((.aload_n 0), 1) := by decide +kernel
theorem dX0_decide_104 : decode cX0_decide 104 = .ok ((.iload_n 1), 1) := by decide +kernel
theorem dX0_decide_105 : decode cX0_decide 105 = .ok ((.iload 5), 2) := by decide +kernel
theorem dX0_decide_107 : decode cX0_decide 107 = .ok ((.invokevirtual 145), 3) := by decide +kernel
theorem dX0_decide_110 : decode cX0_decide 110 = .ok ((.aload_n 0), 1) := by decide +kernel
theorem dX0_decide_111 : decode cX0_decide 111 = .ok ((.iload 4), 2) := by decide +kernel
theorem dX0_decide_113 : decode cX0_decide 113 = .ok ((.iload 5), 2) := by decide +kernel
theorem dX0_decide_115 : decode cX0_decide 115 = .ok (.isub, 1) := by decide +kernel
theorem dX0_decide_116 : decode cX0_decide 116 = .ok ((.invokevirtual 149), 3) := by decide +kernel
theorem dX0_decide_119 : decode cX0_decide 119 = .ok ((.iconst 1), 1) := by decide +kernel
theorem dX0_decide_120 : decode cX0_decide 120 = .ok (.ireturn, 1) := by decide +kernel
theorem dX0_decide_121 : decode cX0_decide 121 = .ok ((.aload_n 0), 1) := by decide +kernel
theorem dX0_decide_122 : decode cX0_decide 122 = .ok ((.getfield 46), 3) := by decide +kernel
theorem dX0_decide_125 : decode cX0_decide 125 = .ok ((.iload_n 2), 1) := by decide +kernel
theorem dX0_decide_126 : decode cX0_decide 126 = .ok ((.iconst 2), 1) := by decide +kernel
theorem dX0_decide_127 : decode cX0_decide 127 = .ok ((.invokestatic 97), 3) := by decide +kernel
theorem dX0_decide_130 : decode cX0_decide 130 = .ok ((.iload_n 3), 1) := by decide +kernel
theorem dX0_decide_131 : decode cX0_decide 131 = .ok ((.aload_n 0), 1) := by decide +kernel
theorem dX0_decide_132 : decode cX0_decide 132 = .ok ((.iconst 1), 1) := by decide +kernel
theorem dX0_decide_133 : decode cX0_decide 133 = .ok ((.invokevirtual 138), 3) := by decide +kernel
theorem dX0_decide_136 : decode cX0_decide 136 = .ok ((.if_icmp .lt 5), 3) := by decide +kernel
theorem dX0_decide_139 : decode cX0_decide 139 = .ok ((.iconst 0), 1) := by decide +kernel
theorem dX0_decide_140 : decode cX0_decide 140 = .ok (.ireturn, 1) := by decide +kernel
theorem dX0_decide_141 : decode cX0_decide 141 = .ok ((.aload_n 0), 1) := by decide +kernel
theorem dX0_decide_142 : decode cX0_decide 142 = .ok ((.getfield 28), 3) := by decide +kernel
theorem dX0_decide_145 : decode cX0_decide 145 = .ok ((.iload_n 1), 1) := by decide +kernel
theorem dX0_decide_146 : decode cX0_decide 146 = .ok ((.aload_n 0), 1) := by decide +kernel
theorem dX0_decide_147 : decode cX0_decide 147 = .ok ((.getfield 28), 3) := by decide +kernel
theorem dX0_decide_150 : decode cX0_decide 150 = .ok ((.iload_n 1), 1) := by decide +kernel
theorem dX0_decide_151 : decode cX0_decide 151 = .ok ((.invokestatic 104), 3) := by decide +kernel
theorem dX0_decide_154 : decode cX0_decide 154 = .ok ((.iconst 1), 1) := by decide +kernel
theorem dX0_decide_155 : decode cX0_decide 155 = .ok (.iadd, 1) := by decide +kernel
theorem dX0_decide_156 : decode cX0_decide 156 = .ok ((.invokestatic 97), 3) := by decide +kernel
theorem dX0_decide_159 : decode cX0_decide 159 = .ok ((.aload_n 0), 1) := by decide +kernel
theorem dX0_decide_160 : decode cX0_decide 160 = .ok ((.iload_n 1), 1) := by decide +kernel
theorem dX0_decide_161 : decode cX0_decide 161 = .ok ((.aload_n 0), 1) := by decide +kernel
theorem dX0_decide_162 : decode cX0_decide 162 = .ok ((.iconst 2), 1) := by decide +kernel
theorem dX0_decide_163 : decode cX0_decide 163 = .ok ((.invokevirtual 138), 3) := by decide +kernel
theorem dX0_decide_166 : decode cX0_decide 166 = .ok (.ineg, 1) := by decide +kernel
theorem dX0_decide_167 : decode cX0_decide 167 = .ok ((.invokevirtual 145), 3) := by decide +kernel
theorem dX0_decide_170 : decode cX0_decide 170 = .ok ((.aload_n 0), 1) := by decide +kernel
theorem dX0_decide_171 : decode cX0_decide 171 = .ok ((.aload_n 0), 1) := by decide +kernel
theorem dX0_decide_172 : decode cX0_decide 172 = .ok ((.iconst 2), 1) := by decide +kernel
theorem dX0_decide_173 : decode cX0_decide 173 = .ok ((.invokevirtual 138), 3) := by decide +kernel
theorem dX0_decide_176 : decode cX0_decide 176 = .ok ((.invokevirtual 149), 3) := by decide +kernel
theorem dX0_decide_179 : decode cX0_decide 179 = .ok ((.iconst 2), 1) := by decide +kernel
theorem dX0_decide_180 : decode cX0_decide 180 = .ok (.ireturn, 1) := by decide +kernel
def p_X0_decide (b : Nat)  (S : vSt) (a1 : Int32) (a2 : Int32) (a3 : Int32) (post : Int32 → vSt → Prop) : Prop := ∀ S33, S33 = v_si S b 18 ((S.1 b 18) + 1) → p_X10_put (b + 13) 10 S33 a2 a1 (fun S34 => p_X10_put (b + 14) 10 S34 a2 a3 (fun S35 => p_X0_ruleOf b S35 0 (fun r37 S36 => (((a3 * 2) ≤ r37 → p_X10_put (b + 12) 10 S36 a2 2 (fun S38 => p_X0_ruleOf b S38 1 (fun r40 S39 => ((a3 < r40 → p_X10_at (b + 6) 8 S39 a1 (fun r42 S41 => p_X10_put (b + 6) 8 S41 a1 (r42 + 1) (fun S43 => p_X0_ruleOf b S43 2 (fun r45 S44 => p_X0_give b S44 a1 (-r45) (fun S46 => p_X0_ruleOf b S46 2 (fun r48 S47 => p_X0_fillTreasury b S47 r48 (fun S49 => post 2 S49))))))) ∧ (¬ a3 < r40 → post 0 S39))))) ∧ (¬ (a3 * 2) ≤ r37 → p_X10_put (b + 12) 10 S36 a2 1 (fun S50 => p_X10_at (b + 5) 8 S50 a1 (fun r52 S51 => p_X10_put (b + 5) 8 S51 a1 (r52 + 1) (fun S53 => p_X10_at (b + 10) 10 S53 a2 (fun r55 S54 => p_X0_ruleOf b S54 3 (fun r57 S56 => p_X0_partOf  S56 r55 r57 (fun r59 S58 => p_X10_at (b + 9) 10 S58 a2 (fun r61 S60 => p_X0_give b S60 r61 (-r55) (fun S62 => p_X0_give b S62 a1 r59 (fun S63 => p_X0_fillTreasury b S63 (r55 - r59) (fun S64 => post 1 S64)))))))))))))))
set_option maxHeartbeats 4000000 in
set_option maxRecDepth 100000 in
theorem c_X0_decide (l : Launch) (G : vG)  {b : Nat} (hb : v_isC b)  {S : vSt} (a1 : Int32) (a2 : Int32) (a3 : Int32) (post : Int32 → vSt → Prop) (h : p_X0_decide b  S a1 a2 a3 post) : Met l yX0_decide (v_ws yX0_decide cX0_decide 6 (some .int)) (v_rm 2 84) (v_Pc G [.ref (G.1 b), .int a1, .int a2, .int a3] S) (v_Qi G post) 0 0 (v_A G) := by
  refine v_start (by decide +kernel) (Nat.le_of_ble_eq_true rfl) (fun X hl C D => ?_)
  subst hl
  have C : v_Cx X G cX0_decide RX0 6 (v_rm 2 84) := C
  show VJ X G S 0 [(0, .ref (G.1 b)), (1, .int a1), (2, .int a2), (3, .int a3)] []
  refine V_aload_n C 0 dX0_decide_0 rfl rfl ?_
  refine V_dup C dX0_decide_1 rfl ?_
  refine V_gi C b (v_cb hb 0 (by decide)) (v_co0 hb) F_0_18 k_RX0_82 dX0_decide_2 ?_
  refine V_iconst (v := 1) C dX0_decide_5 (by decide) ?_
  refine V_iadd C dX0_decide_6 ?_
  refine V_pi C b (v_cb hb 0 (by decide)) (v_co0 hb) P_0_18 k_RX0_82 dX0_decide_7 ?_
  refine V_topS (fun S33 eS33 => ?_)
  have h := h S33 eS33
  refine V_aload_n C 0 dX0_decide_10 rfl rfl ?_
  refine V_gr C b (v_cb hb 0 (by decide)) (v_co0 hb) F_0_12 k_RX0_49 dX0_decide_11 ?_
  refine V_iload_n C 2 dX0_decide_14 rfl rfl ?_
  refine V_iload_n C 1 dX0_decide_15 rfl rfl ?_
  refine V_callSNv (As := [.ref (G.1 (b + 13)), .int a2, .int a1]) (rest := []) C (c_X10_put (v_l X) G (v_cb hb 13 (by decide)) (v_ca13 hb) _ _ _ h) KV_X10_put (List.mem_of_getElem? (i := 6) rfl) rfl rfl rfl (Nat.le_of_ble_eq_true rfl) ⟨Nat.le_of_ble_eq_true rfl, Nat.le_of_ble_eq_true rfl⟩ dX0_decide_16 (fun S34 h => ?_)
  refine V_aload_n C 0 dX0_decide_19 rfl rfl ?_
  refine V_gr C b (v_cb hb 0 (by decide)) (v_co0 hb) F_0_13 k_RX0_52 dX0_decide_20 ?_
  refine V_iload_n C 2 dX0_decide_23 rfl rfl ?_
  refine V_iload_n C 3 dX0_decide_24 rfl rfl ?_
  refine V_callSNv (As := [.ref (G.1 (b + 14)), .int a2, .int a3]) (rest := []) C (c_X10_put (v_l X) G (v_cb hb 14 (by decide)) (v_ca14 hb) _ _ _ h) KV_X10_put (List.mem_of_getElem? (i := 6) rfl) rfl rfl rfl (Nat.le_of_ble_eq_true rfl) ⟨Nat.le_of_ble_eq_true rfl, Nat.le_of_ble_eq_true rfl⟩ dX0_decide_25 (fun S35 h => ?_)
  refine V_iload_n C 3 dX0_decide_28 rfl rfl ?_
  refine V_iconst (v := 2) C dX0_decide_29 (by decide) ?_
  refine V_imul C dX0_decide_30 ?_
  refine V_aload_n C 0 dX0_decide_31 rfl rfl ?_
  refine V_iconst (v := 0) C dX0_decide_32 (by decide) ?_
  refine V_callVi (As := [.int 0]) (rest := [.int (a3 * 2)]) C (c_X0_ruleOf (v_l X) G hb _ _ h) b 0 (v_cb hb 0 (by decide)) (v_co0 hb) (by decide) rfl KV_X0_ruleOf k_RX0_138 rfl rfl rfl (Nat.le_of_ble_eq_true rfl) ⟨Nat.le_of_ble_eq_true rfl, Nat.le_of_ble_eq_true rfl⟩ dX0_decide_33 (fun r37 S36 h => ?_)
  refine V_icmp_le (tgt := 121) C dX0_decide_36 (by decide) (fun c => ?_) (fun c => ?_)
  · have h := h.1 c
    refine V_aload_n C 0 dX0_decide_121 rfl rfl ?_
    refine V_gr C b (v_cb hb 0 (by decide)) (v_co0 hb) F_0_11 k_RX0_46 dX0_decide_122 ?_
    refine V_iload_n C 2 dX0_decide_125 rfl rfl ?_
    refine V_iconst (v := 2) C dX0_decide_126 (by decide) ?_
    refine V_callSNv (As := [.ref (G.1 (b + 12)), .int a2, .int 2]) (rest := []) C (c_X10_put (v_l X) G (v_cb hb 12 (by decide)) (v_ca12 hb) _ _ _ h) KV_X10_put (List.mem_of_getElem? (i := 6) rfl) rfl rfl rfl (Nat.le_of_ble_eq_true rfl) ⟨Nat.le_of_ble_eq_true rfl, Nat.le_of_ble_eq_true rfl⟩ dX0_decide_127 (fun S38 h => ?_)
    refine V_iload_n C 3 dX0_decide_130 rfl rfl ?_
    refine V_aload_n C 0 dX0_decide_131 rfl rfl ?_
    refine V_iconst (v := 1) C dX0_decide_132 (by decide) ?_
    refine V_callVi (As := [.int 1]) (rest := [.int a3]) C (c_X0_ruleOf (v_l X) G hb _ _ h) b 0 (v_cb hb 0 (by decide)) (v_co0 hb) (by decide) rfl KV_X0_ruleOf k_RX0_138 rfl rfl rfl (Nat.le_of_ble_eq_true rfl) ⟨Nat.le_of_ble_eq_true rfl, Nat.le_of_ble_eq_true rfl⟩ dX0_decide_133 (fun r40 S39 h => ?_)
    refine V_icmp_lt (tgt := 141) C dX0_decide_136 (by decide) (fun c => ?_) (fun c => ?_)
    · have h := h.1 c
      refine V_aload_n C 0 dX0_decide_141 rfl rfl ?_
      refine V_gr C b (v_cb hb 0 (by decide)) (v_co0 hb) F_0_5 k_RX0_28 dX0_decide_142 ?_
      refine V_iload_n C 1 dX0_decide_145 rfl rfl ?_
      refine V_aload_n C 0 dX0_decide_146 rfl rfl ?_
      refine V_gr C b (v_cb hb 0 (by decide)) (v_co0 hb) F_0_5 k_RX0_28 dX0_decide_147 ?_
      refine V_iload_n C 1 dX0_decide_150 rfl rfl ?_
      refine V_callSNi (As := [.ref (G.1 (b + 6)), .int a1]) (rest := [.int a1, .ref (G.1 (b + 6))]) C (c_X10_at (v_l X) G (v_cb hb 6 (by decide)) (v_ca6 hb) _ _ h) KV_X10_at (List.mem_of_getElem? (i := 4) rfl) rfl rfl rfl (Nat.le_of_ble_eq_true rfl) ⟨Nat.le_of_ble_eq_true rfl, Nat.le_of_ble_eq_true rfl⟩ dX0_decide_151 (fun r42 S41 h => ?_)
      refine V_iconst (v := 1) C dX0_decide_154 (by decide) ?_
      refine V_iadd C dX0_decide_155 ?_
      refine V_callSNv (As := [.ref (G.1 (b + 6)), .int a1, .int (r42 + 1)]) (rest := []) C (c_X10_put (v_l X) G (v_cb hb 6 (by decide)) (v_ca6 hb) _ _ _ h) KV_X10_put (List.mem_of_getElem? (i := 6) rfl) rfl rfl rfl (Nat.le_of_ble_eq_true rfl) ⟨Nat.le_of_ble_eq_true rfl, Nat.le_of_ble_eq_true rfl⟩ dX0_decide_156 (fun S43 h => ?_)
      refine V_aload_n C 0 dX0_decide_159 rfl rfl ?_
      refine V_iload_n C 1 dX0_decide_160 rfl rfl ?_
      refine V_aload_n C 0 dX0_decide_161 rfl rfl ?_
      refine V_iconst (v := 2) C dX0_decide_162 (by decide) ?_
      refine V_callVi (As := [.int 2]) (rest := [.int a1, .ref (G.1 b)]) C (c_X0_ruleOf (v_l X) G hb _ _ h) b 0 (v_cb hb 0 (by decide)) (v_co0 hb) (by decide) rfl KV_X0_ruleOf k_RX0_138 rfl rfl rfl (Nat.le_of_ble_eq_true rfl) ⟨Nat.le_of_ble_eq_true rfl, Nat.le_of_ble_eq_true rfl⟩ dX0_decide_163 (fun r45 S44 h => ?_)
      refine V_ineg C dX0_decide_166 ?_
      refine V_callVv (As := [.int a1, .int (-r45)]) (rest := []) C (c_X0_give (v_l X) G hb _ _ _ h) b 0 (v_cb hb 0 (by decide)) (v_co0 hb) (by decide) rfl KV_X0_give k_RX0_145 rfl rfl rfl (Nat.le_of_ble_eq_true rfl) ⟨Nat.le_of_ble_eq_true rfl, Nat.le_of_ble_eq_true rfl⟩ dX0_decide_167 (fun S46 h => ?_)
      refine V_aload_n C 0 dX0_decide_170 rfl rfl ?_
      refine V_aload_n C 0 dX0_decide_171 rfl rfl ?_
      refine V_iconst (v := 2) C dX0_decide_172 (by decide) ?_
      refine V_callVi (As := [.int 2]) (rest := [.ref (G.1 b)]) C (c_X0_ruleOf (v_l X) G hb _ _ h) b 0 (v_cb hb 0 (by decide)) (v_co0 hb) (by decide) rfl KV_X0_ruleOf k_RX0_138 rfl rfl rfl (Nat.le_of_ble_eq_true rfl) ⟨Nat.le_of_ble_eq_true rfl, Nat.le_of_ble_eq_true rfl⟩ dX0_decide_173 (fun r48 S47 h => ?_)
      refine V_callVv (As := [.int r48]) (rest := []) C (c_X0_fillTreasury (v_l X) G hb _ _ h) b 0 (v_cb hb 0 (by decide)) (v_co0 hb) (by decide) rfl KV_X0_fillTreasury k_RX0_149 rfl rfl rfl (Nat.le_of_ble_eq_true rfl) ⟨Nat.le_of_ble_eq_true rfl, Nat.le_of_ble_eq_true rfl⟩ dX0_decide_176 (fun S49 h => ?_)
      refine V_iconst (v := 2) C dX0_decide_179 (by decide) ?_
      exact V_iret C D dX0_decide_180 h
    · have h := h.2 c
      refine V_iconst (v := 0) C dX0_decide_139 (by decide) ?_
      exact V_iret C D dX0_decide_140 h
  · have h := h.2 c
    refine V_aload_n C 0 dX0_decide_39 rfl rfl ?_
    refine V_gr C b (v_cb hb 0 (by decide)) (v_co0 hb) F_0_11 k_RX0_46 dX0_decide_40 ?_
    refine V_iload_n C 2 dX0_decide_43 rfl rfl ?_
    refine V_iconst (v := 1) C dX0_decide_44 (by decide) ?_
    refine V_callSNv (As := [.ref (G.1 (b + 12)), .int a2, .int 1]) (rest := []) C (c_X10_put (v_l X) G (v_cb hb 12 (by decide)) (v_ca12 hb) _ _ _ h) KV_X10_put (List.mem_of_getElem? (i := 6) rfl) rfl rfl rfl (Nat.le_of_ble_eq_true rfl) ⟨Nat.le_of_ble_eq_true rfl, Nat.le_of_ble_eq_true rfl⟩ dX0_decide_45 (fun S50 h => ?_)
    refine V_aload_n C 0 dX0_decide_48 rfl rfl ?_
    refine V_gr C b (v_cb hb 0 (by decide)) (v_co0 hb) F_0_4 k_RX0_25 dX0_decide_49 ?_
    refine V_iload_n C 1 dX0_decide_52 rfl rfl ?_
    refine V_aload_n C 0 dX0_decide_53 rfl rfl ?_
    refine V_gr C b (v_cb hb 0 (by decide)) (v_co0 hb) F_0_4 k_RX0_25 dX0_decide_54 ?_
    refine V_iload_n C 1 dX0_decide_57 rfl rfl ?_
    refine V_callSNi (As := [.ref (G.1 (b + 5)), .int a1]) (rest := [.int a1, .ref (G.1 (b + 5))]) C (c_X10_at (v_l X) G (v_cb hb 5 (by decide)) (v_ca5 hb) _ _ h) KV_X10_at (List.mem_of_getElem? (i := 4) rfl) rfl rfl rfl (Nat.le_of_ble_eq_true rfl) ⟨Nat.le_of_ble_eq_true rfl, Nat.le_of_ble_eq_true rfl⟩ dX0_decide_58 (fun r52 S51 h => ?_)
    refine V_iconst (v := 1) C dX0_decide_61 (by decide) ?_
    refine V_iadd C dX0_decide_62 ?_
    refine V_callSNv (As := [.ref (G.1 (b + 5)), .int a1, .int (r52 + 1)]) (rest := []) C (c_X10_put (v_l X) G (v_cb hb 5 (by decide)) (v_ca5 hb) _ _ _ h) KV_X10_put (List.mem_of_getElem? (i := 6) rfl) rfl rfl rfl (Nat.le_of_ble_eq_true rfl) ⟨Nat.le_of_ble_eq_true rfl, Nat.le_of_ble_eq_true rfl⟩ dX0_decide_63 (fun S53 h => ?_)
    refine V_aload_n C 0 dX0_decide_66 rfl rfl ?_
    refine V_gr C b (v_cb hb 0 (by decide)) (v_co0 hb) F_0_9 k_RX0_40 dX0_decide_67 ?_
    refine V_iload_n C 2 dX0_decide_70 rfl rfl ?_
    refine V_callSNi (As := [.ref (G.1 (b + 10)), .int a2]) (rest := []) C (c_X10_at (v_l X) G (v_cb hb 10 (by decide)) (v_ca10 hb) _ _ h) KV_X10_at (List.mem_of_getElem? (i := 4) rfl) rfl rfl rfl (Nat.le_of_ble_eq_true rfl) ⟨Nat.le_of_ble_eq_true rfl, Nat.le_of_ble_eq_true rfl⟩ dX0_decide_71 (fun r55 S54 h => ?_)
    refine V_istore (lv' := [(0, .ref (G.1 b)), (1, .int a1), (2, .int a2), (3, .int a3), (4, .int r55)]) C [1, 2, 3, 4, 0] dX0_decide_74 (by decide) rfl ?_
    refine V_iload C 4 dX0_decide_76 rfl ?_
    refine V_aload_n C 0 dX0_decide_78 rfl rfl ?_
    refine V_iconst (v := 3) C dX0_decide_79 (by decide) ?_
    refine V_callVi (As := [.int 3]) (rest := [.int r55]) C (c_X0_ruleOf (v_l X) G hb _ _ h) b 0 (v_cb hb 0 (by decide)) (v_co0 hb) (by decide) rfl KV_X0_ruleOf k_RX0_138 rfl rfl rfl (Nat.le_of_ble_eq_true rfl) ⟨Nat.le_of_ble_eq_true rfl, Nat.le_of_ble_eq_true rfl⟩ dX0_decide_80 (fun r57 S56 h => ?_)
    refine V_callSi (As := [.int r55, .int r57]) (rest := []) C (c_X0_partOf (v_l X) G  _ _ _ h) KV_X0_partOf k_RX0_142 rfl rfl rfl (Nat.le_of_ble_eq_true rfl) ⟨Nat.le_of_ble_eq_true rfl, Nat.le_of_ble_eq_true rfl⟩ dX0_decide_83 (fun r59 S58 h => ?_)
    refine V_istore (lv' := [(0, .ref (G.1 b)), (1, .int a1), (2, .int a2), (3, .int a3), (4, .int r55), (5, .int r59)]) C [1, 2, 3, 4, 5, 0] dX0_decide_86 (by decide) rfl ?_
    refine V_aload_n C 0 dX0_decide_88 rfl rfl ?_
    refine V_aload_n C 0 dX0_decide_89 rfl rfl ?_
    refine V_gr C b (v_cb hb 0 (by decide)) (v_co0 hb) F_0_8 k_RX0_37 dX0_decide_90 ?_
    refine V_iload_n C 2 dX0_decide_93 rfl rfl ?_
    refine V_callSNi (As := [.ref (G.1 (b + 9)), .int a2]) (rest := [.ref (G.1 b)]) C (c_X10_at (v_l X) G (v_cb hb 9 (by decide)) (v_ca9 hb) _ _ h) KV_X10_at (List.mem_of_getElem? (i := 4) rfl) rfl rfl rfl (Nat.le_of_ble_eq_true rfl) ⟨Nat.le_of_ble_eq_true rfl, Nat.le_of_ble_eq_true rfl⟩ dX0_decide_94 (fun r61 S60 h => ?_)
    refine V_iload C 4 dX0_decide_97 rfl ?_
    refine V_ineg C dX0_decide_99 ?_
    refine V_callVv (As := [.int r61, .int (-r55)]) (rest := []) C (c_X0_give (v_l X) G hb _ _ _ h) b 0 (v_cb hb 0 (by decide)) (v_co0 hb) (by decide) rfl KV_X0_give k_RX0_145 rfl rfl rfl (Nat.le_of_ble_eq_true rfl) ⟨Nat.le_of_ble_eq_true rfl, Nat.le_of_ble_eq_true rfl⟩ dX0_decide_100 (fun S62 h => ?_)
    refine V_aload_n C 0 dX0_decide_103 rfl rfl ?_
    refine V_iload_n C 1 dX0_decide_104 rfl rfl ?_
    refine V_iload C 5 dX0_decide_105 rfl ?_
    refine V_callVv (As := [.int a1, .int r59]) (rest := []) C (c_X0_give (v_l X) G hb _ _ _ h) b 0 (v_cb hb 0 (by decide)) (v_co0 hb) (by decide) rfl KV_X0_give k_RX0_145 rfl rfl rfl (Nat.le_of_ble_eq_true rfl) ⟨Nat.le_of_ble_eq_true rfl, Nat.le_of_ble_eq_true rfl⟩ dX0_decide_107 (fun S63 h => ?_)
    refine V_aload_n C 0 dX0_decide_110 rfl rfl ?_
    refine V_iload C 4 dX0_decide_111 rfl ?_
    refine V_iload C 5 dX0_decide_113 rfl ?_
    refine V_isub C dX0_decide_115 ?_
    refine V_callVv (As := [.int (r55 - r59)]) (rest := []) C (c_X0_fillTreasury (v_l X) G hb _ _ h) b 0 (v_cb hb 0 (by decide)) (v_co0 hb) (by decide) rfl KV_X0_fillTreasury k_RX0_149 rfl rfl rfl (Nat.le_of_ble_eq_true rfl) ⟨Nat.le_of_ble_eq_true rfl, Nat.le_of_ble_eq_true rfl⟩ dX0_decide_116 (fun S64 h => ?_)
    refine V_iconst (v := 1) C dX0_decide_119 (by decide) ?_
    exact V_iret C D dX0_decide_120 h
/-! HalfAccuser$City.settle(III)V -/
theorem dX0_settle_0 : decode cX0_settle 0 = .ok ((.aload_n 0), 1) := by decide +kernel
theorem dX0_settle_1 : decode cX0_settle 1 = .ok ((.aload_n 0), 1) := by decide +kernel
theorem dX0_settle_2 : decode cX0_settle 2 = .ok ((.getfield 37), 3) := by decide +kernel
theorem dX0_settle_5 : decode cX0_settle 5 = .ok ((.iload_n 2), 1) := by decide +kernel
theorem dX0_settle_6 : decode cX0_settle 6 = .ok ((.invokestatic 104), 3) := by decide +kernel
theorem dX0_settle_9 : decode cX0_settle 9 = .ok ((.iload_n 3), 1) := by decide +kernel
theorem dX0_settle_10 : decode cX0_settle 10 = .ok (.ineg, 1) := by decide +kernel
theorem dX0_settle_11 : decode cX0_settle 11 = .ok ((.invokevirtual 145), 3) := by decide +kernel
theorem dX0_settle_14 : decode cX0_settle 14 = .ok ((.aload_n 0), 1) := by decide +kernel
theorem dX0_settle_15 : decode cX0_settle 15 = .ok ((.iload_n 1), 1) := by decide +kernel
theorem dX0_settle_16 : decode cX0_settle 16 = .ok ((.iload_n 3), 1) := by decide +kernel
theorem dX0_settle_17 : decode cX0_settle 17 = .ok ((.invokevirtual 145), 3) := by decide +kernel
theorem dX0_settle_20 : decode cX0_settle 20 = .ok ((.aload_n 0), 1) := by decide +kernel
theorem dX0_settle_21 : decode cX0_settle 21 = .ok ((.getfield 31), 3) := by decide +kernel
theorem dX0_settle_24 : decode cX0_settle 24 = .ok ((.iload_n 1), 1) := by decide +kernel
theorem dX0_settle_25 : decode cX0_settle 25 = .ok ((.aload_n 0), 1) := by decide +kernel
theorem dX0_settle_26 : decode cX0_settle 26 = .ok ((.getfield 31), 3) := by decide +kernel
theorem dX0_settle_29 : decode cX0_settle 29 = .ok ((.iload_n 1), 1) := by decide +kernel
theorem dX0_settle_30 : decode cX0_settle 30 = .ok ((.invokestatic 104), 3) := by decide +kernel
theorem dX0_settle_33 : decode cX0_settle 33 = .ok ((.iconst 1), 1) := by decide +kernel
theorem dX0_settle_34 : decode cX0_settle 34 = .ok ((.iload_n 2), 1) := by decide +kernel
theorem dX0_settle_35 : decode cX0_settle 35 = .ok (.ishl, 1) := by decide +kernel
theorem dX0_settle_36 : decode cX0_settle 36 = .ok (.ior, 1) := by decide +kernel
theorem dX0_settle_37 : decode cX0_settle 37 = .ok ((.invokestatic 97), 3) := by decide +kernel
theorem dX0_settle_40 : decode cX0_settle 40 = .ok (.return_, 1) := by decide +kernel
def p_X0_settle (b : Nat)  (S : vSt) (a1 : Int32) (a2 : Int32) (a3 : Int32) (post : vSt → Prop) : Prop := p_X10_at (b + 9) 10 S a2 (fun r9 S8 => p_X0_give b S8 r9 (-a3) (fun S10 => p_X0_give b S10 a1 a3 (fun S11 => p_X10_at (b + 7) 8 S11 a1 (fun r13 S12 => p_X10_put (b + 7) 8 S12 a1 (r13 ||| ((1 : Int32) <<< (a2 &&& 31))) (fun S14 => post S14)))))
set_option maxHeartbeats 4000000 in
set_option maxRecDepth 100000 in
theorem c_X0_settle (l : Launch) (G : vG)  {b : Nat} (hb : v_isC b)  {S : vSt} (a1 : Int32) (a2 : Int32) (a3 : Int32) (post : vSt → Prop) (h : p_X0_settle b  S a1 a2 a3 post) : Met l yX0_settle (v_ws yX0_settle cX0_settle 4 none) (v_rm 2 84) (v_Pc G [.ref (G.1 b), .int a1, .int a2, .int a3] S) (v_Qv G post) 0 0 (v_A G) := by
  refine v_start (by decide +kernel) (Nat.le_of_ble_eq_true rfl) (fun X hl C D => ?_)
  subst hl
  have C : v_Cx X G cX0_settle RX0 4 (v_rm 2 84) := C
  show VJ X G S 0 [(0, .ref (G.1 b)), (1, .int a1), (2, .int a2), (3, .int a3)] []
  refine V_aload_n C 0 dX0_settle_0 rfl rfl ?_
  refine V_aload_n C 0 dX0_settle_1 rfl rfl ?_
  refine V_gr C b (v_cb hb 0 (by decide)) (v_co0 hb) F_0_8 k_RX0_37 dX0_settle_2 ?_
  refine V_iload_n C 2 dX0_settle_5 rfl rfl ?_
  refine V_callSNi (As := [.ref (G.1 (b + 9)), .int a2]) (rest := [.ref (G.1 b)]) C (c_X10_at (v_l X) G (v_cb hb 9 (by decide)) (v_ca9 hb) _ _ h) KV_X10_at (List.mem_of_getElem? (i := 4) rfl) rfl rfl rfl (Nat.le_of_ble_eq_true rfl) ⟨Nat.le_of_ble_eq_true rfl, Nat.le_of_ble_eq_true rfl⟩ dX0_settle_6 (fun r9 S8 h => ?_)
  refine V_iload_n C 3 dX0_settle_9 rfl rfl ?_
  refine V_ineg C dX0_settle_10 ?_
  refine V_callVv (As := [.int r9, .int (-a3)]) (rest := []) C (c_X0_give (v_l X) G hb _ _ _ h) b 0 (v_cb hb 0 (by decide)) (v_co0 hb) (by decide) rfl KV_X0_give k_RX0_145 rfl rfl rfl (Nat.le_of_ble_eq_true rfl) ⟨Nat.le_of_ble_eq_true rfl, Nat.le_of_ble_eq_true rfl⟩ dX0_settle_11 (fun S10 h => ?_)
  refine V_aload_n C 0 dX0_settle_14 rfl rfl ?_
  refine V_iload_n C 1 dX0_settle_15 rfl rfl ?_
  refine V_iload_n C 3 dX0_settle_16 rfl rfl ?_
  refine V_callVv (As := [.int a1, .int a3]) (rest := []) C (c_X0_give (v_l X) G hb _ _ _ h) b 0 (v_cb hb 0 (by decide)) (v_co0 hb) (by decide) rfl KV_X0_give k_RX0_145 rfl rfl rfl (Nat.le_of_ble_eq_true rfl) ⟨Nat.le_of_ble_eq_true rfl, Nat.le_of_ble_eq_true rfl⟩ dX0_settle_17 (fun S11 h => ?_)
  refine V_aload_n C 0 dX0_settle_20 rfl rfl ?_
  refine V_gr C b (v_cb hb 0 (by decide)) (v_co0 hb) F_0_6 k_RX0_31 dX0_settle_21 ?_
  refine V_iload_n C 1 dX0_settle_24 rfl rfl ?_
  refine V_aload_n C 0 dX0_settle_25 rfl rfl ?_
  refine V_gr C b (v_cb hb 0 (by decide)) (v_co0 hb) F_0_6 k_RX0_31 dX0_settle_26 ?_
  refine V_iload_n C 1 dX0_settle_29 rfl rfl ?_
  refine V_callSNi (As := [.ref (G.1 (b + 7)), .int a1]) (rest := [.int a1, .ref (G.1 (b + 7))]) C (c_X10_at (v_l X) G (v_cb hb 7 (by decide)) (v_ca7 hb) _ _ h) KV_X10_at (List.mem_of_getElem? (i := 4) rfl) rfl rfl rfl (Nat.le_of_ble_eq_true rfl) ⟨Nat.le_of_ble_eq_true rfl, Nat.le_of_ble_eq_true rfl⟩ dX0_settle_30 (fun r13 S12 h => ?_)
  refine V_iconst (v := 1) C dX0_settle_33 (by decide) ?_
  refine V_iload_n C 2 dX0_settle_34 rfl rfl ?_
  refine V_ishl C dX0_settle_35 ?_
  refine V_ior C dX0_settle_36 ?_
  refine V_callSNv (As := [.ref (G.1 (b + 7)), .int a1, .int (r13 ||| ((1 : Int32) <<< (a2 &&& 31)))]) (rest := []) C (c_X10_put (v_l X) G (v_cb hb 7 (by decide)) (v_ca7 hb) _ _ _ h) KV_X10_put (List.mem_of_getElem? (i := 6) rfl) rfl rfl rfl (Nat.le_of_ble_eq_true rfl) ⟨Nat.le_of_ble_eq_true rfl, Nat.le_of_ble_eq_true rfl⟩ dX0_settle_37 (fun S14 h => ?_)
  exact V_vret C D dX0_settle_40 h
/-! HalfAccuser$City.openAgain(I)V -/
theorem dX0_openAgain_0 : decode cX0_openAgain 0 = .ok ((.aload_n 0), 1) := by decide +kernel
theorem dX0_openAgain_1 : decode cX0_openAgain 1 = .ok ((.getfield 46), 3) := by decide +kernel
theorem dX0_openAgain_4 : decode cX0_openAgain 4 = .ok ((.iload_n 1), 1) := by decide +kernel
theorem dX0_openAgain_5 : decode cX0_openAgain 5 = .ok ((.iconst 0), 1) := by decide +kernel
theorem dX0_openAgain_6 : decode cX0_openAgain 6 = .ok ((.invokestatic 97), 3) := by decide +kernel
theorem dX0_openAgain_9 : decode cX0_openAgain 9 = .ok ((.iconst 0), 1) := by decide +kernel
theorem dX0_openAgain_10 : decode cX0_openAgain 10 = .ok ((.istore_n 2), 1) := by decide +kernel
theorem dX0_openAgain_11 : decode cX0_openAgain 11 = .ok ((.iload_n 2), 1) := by decide +kernel
theorem dX0_openAgain_12 : decode cX0_openAgain 12 = .ok ((.aload_n 0), 1) := by decide +kernel
theorem dX0_openAgain_13 : decode cX0_openAgain 13 = .ok ((.getfield 72), 3) := by decide +kernel
theorem dX0_openAgain_16 : decode cX0_openAgain 16 = .ok ((.if_icmp .ge 31), 3) := by decide +kernel
theorem dX0_openAgain_19 : decode cX0_openAgain 19 = .ok ((.aload_n 0), 1) := by decide +kernel
theorem dX0_openAgain_20 : decode cX0_openAgain 20 = .ok ((.getfield 31), 3) := by decide +kernel
theorem dX0_openAgain_23 : decode cX0_openAgain 23 = .ok ((.iload_n 2), 1) := by decide +kernel
theorem dX0_openAgain_24 : decode cX0_openAgain 24 = .ok ((.aload_n 0), 1) := by decide +kernel
theorem dX0_openAgain_25 : decode cX0_openAgain 25 = .ok ((.getfield 31), 3) := by decide +kernel
theorem dX0_openAgain_28 : decode cX0_openAgain 28 = .ok ((.iload_n 2), 1) := by decide +kernel
theorem dX0_openAgain_29 : decode cX0_openAgain 29 = .ok ((.invokestatic 104), 3) := by decide +kernel
theorem dX0_openAgain_32 : decode cX0_openAgain 32 = .ok ((.iconst 1), 1) := by decide +kernel
theorem dX0_openAgain_33 : decode cX0_openAgain 33 = .ok ((.iload_n 1), 1) := by decide +kernel
theorem dX0_openAgain_34 : decode cX0_openAgain 34 = .ok (.ishl, 1) := by decide +kernel
theorem dX0_openAgain_35 : decode cX0_openAgain 35 = .ok ((.iconst (-1)), 1) := by decide +kernel
theorem dX0_openAgain_36 : decode cX0_openAgain 36 = .ok (.ixor, 1) := by decide +kernel
theorem dX0_openAgain_37 : decode cX0_openAgain 37 = .ok (.iand, 1) := by decide +kernel
theorem dX0_openAgain_38 : decode cX0_openAgain 38 = .ok ((.invokestatic 97), 3) := by decide +kernel
theorem dX0_openAgain_41 : decode cX0_openAgain 41 = .ok ((.iinc 2 1), 3) := by decide +kernel
theorem dX0_openAgain_44 : decode cX0_openAgain 44 = .ok ((.goto (-33)), 3) := by decide +kernel
theorem dX0_openAgain_47 : decode cX0_openAgain 47 = .ok (.return_, 1) := by decide +kernel
def p_X0_openAgain_11 (b : Nat) (a1 : Int32)   (post : vSt → Prop) : Nat → vSt → Int32 → Prop
  | 0 => fun _ _ => False
  | fu11 + 1 => fun S x2 => (((S.1 b 15) ≤ x2 → post S) ∧ (¬ (S.1 b 15) ≤ x2 → p_X10_at (b + 7) 8 S x2 (fun r12 S11 => p_X10_put (b + 7) 8 S11 x2 (r12 &&& (((1 : Int32) <<< (a1 &&& 31)) ^^^ (-1))) (fun S13 => ∀ y14 : Int32, y14 = x2 + 1 → (p_X0_openAgain_11 b a1 post fu11) S13 y14))))
theorem e_X0_openAgain_11 (b : Nat) (a1 : Int32)   (post : vSt → Prop) (fu11 : Nat) (S : vSt) (x2 : Int32) : p_X0_openAgain_11 b a1 post (fu11 + 1) S x2 = ((((S.1 b 15) ≤ x2 → post S) ∧ (¬ (S.1 b 15) ≤ x2 → p_X10_at (b + 7) 8 S x2 (fun r12 S11 => p_X10_put (b + 7) 8 S11 x2 (r12 &&& (((1 : Int32) <<< (a1 &&& 31)) ^^^ (-1))) (fun S13 => ∀ y14 : Int32, y14 = x2 + 1 → (p_X0_openAgain_11 b a1 post fu11) S13 y14))))) := rfl
def p_X0_openAgain (b : Nat)  (S : vSt) (a1 : Int32) (post : vSt → Prop) : Prop := p_X10_put (b + 12) 10 S a1 0 (fun S10 => ∃ fu11, p_X0_openAgain_11 b a1 post fu11 S10 0)
set_option maxHeartbeats 4000000 in
set_option maxRecDepth 100000 in
theorem q_X0_openAgain_11 {X : vX} {G : vG}  {post : vSt → Prop} (C : v_Cx X G cX0_openAgain RX0 3 (v_rm 1 62)) (D : v_Rx X G (v_Qv G post) none) {b : Nat} (hb : v_isC b) {a1 : Int32}   : ∀ (fu : Nat) (S : vSt) (x2 : Int32), p_X0_openAgain_11 b a1 post fu S x2 → VJ X G S 11 [(0, .ref (G.1 b)), (1, .int a1), (2, .int x2)] [] := by
  intro fu
  induction fu with
  | zero => intro S x2 h; exact absurd h id
  | succ fu ih =>
    intro S x2 h
    have hK11 := ih
    rw [e_X0_openAgain_11] at h
    refine V_iload_n C 2 dX0_openAgain_11 rfl rfl ?_
    refine V_aload_n C 0 dX0_openAgain_12 rfl rfl ?_
    refine V_gi C b (v_cb hb 0 (by decide)) (v_co0 hb) F_0_15 k_RX0_72 dX0_openAgain_13 ?_
    refine V_icmp_ge (tgt := 47) C dX0_openAgain_16 (by decide) (fun c => ?_) (fun c => ?_)
    · have h := h.1 c
      exact V_vret C D dX0_openAgain_47 h
    · have h := h.2 c
      refine V_aload_n C 0 dX0_openAgain_19 rfl rfl ?_
      refine V_gr C b (v_cb hb 0 (by decide)) (v_co0 hb) F_0_6 k_RX0_31 dX0_openAgain_20 ?_
      refine V_iload_n C 2 dX0_openAgain_23 rfl rfl ?_
      refine V_aload_n C 0 dX0_openAgain_24 rfl rfl ?_
      refine V_gr C b (v_cb hb 0 (by decide)) (v_co0 hb) F_0_6 k_RX0_31 dX0_openAgain_25 ?_
      refine V_iload_n C 2 dX0_openAgain_28 rfl rfl ?_
      refine V_callSNi (As := [.ref (G.1 (b + 7)), .int x2]) (rest := [.int x2, .ref (G.1 (b + 7))]) C (c_X10_at (v_l X) G (v_cb hb 7 (by decide)) (v_ca7 hb) _ _ h) KV_X10_at (List.mem_of_getElem? (i := 4) rfl) rfl rfl rfl (Nat.le_of_ble_eq_true rfl) ⟨Nat.le_of_ble_eq_true rfl, Nat.le_of_ble_eq_true rfl⟩ dX0_openAgain_29 (fun r12 S11 h => ?_)
      refine V_iconst (v := 1) C dX0_openAgain_32 (by decide) ?_
      refine V_iload_n C 1 dX0_openAgain_33 rfl rfl ?_
      refine V_ishl C dX0_openAgain_34 ?_
      refine V_iconst (v := (-1)) C dX0_openAgain_35 (by decide) ?_
      refine V_ixor C dX0_openAgain_36 ?_
      refine V_iand C dX0_openAgain_37 ?_
      refine V_callSNv (As := [.ref (G.1 (b + 7)), .int x2, .int (r12 &&& (((1 : Int32) <<< (a1 &&& 31)) ^^^ (-1)))]) (rest := []) C (c_X10_put (v_l X) G (v_cb hb 7 (by decide)) (v_ca7 hb) _ _ _ h) KV_X10_put (List.mem_of_getElem? (i := 6) rfl) rfl rfl rfl (Nat.le_of_ble_eq_true rfl) ⟨Nat.le_of_ble_eq_true rfl, Nat.le_of_ble_eq_true rfl⟩ dX0_openAgain_38 (fun S13 h => ?_)
      obtain ⟨y14, ey14⟩ : ∃ z : Int32, z = x2 + 1 := ⟨_, rfl⟩
      have h := h y14 ey14
      refine V_iinc (lv' := [(0, .ref (G.1 b)), (1, .int a1), (2, .int y14)]) C 2 [1, 2, 0] y14 dX0_openAgain_41 rfl (by rw [ey14]; rfl) (by decide) rfl ?_
      refine V_goto (tgt := 11) C dX0_openAgain_44 (by decide) ?_
      exact hK11 _ _ h
set_option maxHeartbeats 4000000 in
set_option maxRecDepth 100000 in
theorem c_X0_openAgain (l : Launch) (G : vG)  {b : Nat} (hb : v_isC b)  {S : vSt} (a1 : Int32) (post : vSt → Prop) (h : p_X0_openAgain b  S a1 post) : Met l yX0_openAgain (v_ws yX0_openAgain cX0_openAgain 3 none) (v_rm 1 62) (v_Pc G [.ref (G.1 b), .int a1] S) (v_Qv G post) 0 0 (v_A G) := by
  refine v_start (by decide +kernel) (Nat.le_of_ble_eq_true rfl) (fun X hl C D => ?_)
  subst hl
  have C : v_Cx X G cX0_openAgain RX0 3 (v_rm 1 62) := C
  show VJ X G S 0 [(0, .ref (G.1 b)), (1, .int a1)] []
  refine V_aload_n C 0 dX0_openAgain_0 rfl rfl ?_
  refine V_gr C b (v_cb hb 0 (by decide)) (v_co0 hb) F_0_11 k_RX0_46 dX0_openAgain_1 ?_
  refine V_iload_n C 1 dX0_openAgain_4 rfl rfl ?_
  refine V_iconst (v := 0) C dX0_openAgain_5 (by decide) ?_
  refine V_callSNv (As := [.ref (G.1 (b + 12)), .int a1, .int 0]) (rest := []) C (c_X10_put (v_l X) G (v_cb hb 12 (by decide)) (v_ca12 hb) _ _ _ h) KV_X10_put (List.mem_of_getElem? (i := 6) rfl) rfl rfl rfl (Nat.le_of_ble_eq_true rfl) ⟨Nat.le_of_ble_eq_true rfl, Nat.le_of_ble_eq_true rfl⟩ dX0_openAgain_6 (fun S10 h => ?_)
  refine V_iconst (v := 0) C dX0_openAgain_9 (by decide) ?_
  refine V_istore_n (lv' := [(0, .ref (G.1 b)), (1, .int a1), (2, .int 0)]) C [1, 2, 0] dX0_openAgain_10 rfl (by decide) rfl ?_
  obtain ⟨fu11, h⟩ := h
  exact q_X0_openAgain_11 C D hb fu11 _ _ h
/-! HalfAccuser$City.deedsThat(I)I -/
theorem dX0_deedsThat_0 : decode cX0_deedsThat 0 = .ok ((.iconst 0), 1) := by decide +kernel
theorem dX0_deedsThat_1 : decode cX0_deedsThat 1 = .ok ((.istore_n 2), 1) := by decide +kernel
theorem dX0_deedsThat_2 : decode cX0_deedsThat 2 = .ok ((.iconst 0), 1) := by decide +kernel
theorem dX0_deedsThat_3 : decode cX0_deedsThat 3 = .ok ((.istore_n 3), 1) := by decide +kernel
theorem dX0_deedsThat_4 : decode cX0_deedsThat 4 = .ok ((.iload_n 3), 1) := by decide +kernel
theorem dX0_deedsThat_5 : decode cX0_deedsThat 5 = .ok ((.aload_n 0), 1) := by decide +kernel
theorem dX0_deedsThat_6 : decode cX0_deedsThat 6 = .ok ((.getfield 76), 3) := by decide +kernel
theorem dX0_deedsThat_9 : decode cX0_deedsThat 9 = .ok ((.if_icmp .ge 31), 3) := by decide +kernel
theorem dX0_deedsThat_12 : decode cX0_deedsThat 12 = .ok ((.iload_n 2), 1) := by decide +kernel
theorem dX0_deedsThat_13 : decode cX0_deedsThat 13 = .ok ((.aload_n 0), 1) := by decide +kernel
theorem dX0_deedsThat_14 : decode cX0_deedsThat 14 = .ok ((.getfield 46), 3) := by decide +kernel
theorem dX0_deedsThat_17 : decode cX0_deedsThat 17 = .ok ((.iload_n 3), 1) := by decide +kernel
theorem dX0_deedsThat_18 : decode cX0_deedsThat 18 = .ok ((.invokestatic 104), 3) := by decide +kernel
theorem dX0_deedsThat_21 : decode cX0_deedsThat 21 = .ok ((.iload_n 1), 1) := by decide +kernel
theorem dX0_deedsThat_22 : decode cX0_deedsThat 22 = .ok ((.if_icmp .ne 9), 3) := by decide +kernel
theorem dX0_deedsThat_25 : decode cX0_deedsThat 25 = .ok ((.iconst 1), 1) := by decide +kernel
theorem dX0_deedsThat_26 : decode cX0_deedsThat 26 = .ok ((.iload_n 3), 1) := by decide +kernel
theorem dX0_deedsThat_27 : decode cX0_deedsThat 27 = .ok (.ishl, 1) := by decide +kernel
theorem dX0_deedsThat_28 : decode cX0_deedsThat 28 = .ok ((.goto 4), 3) := by decide +kernel
theorem dX0_deedsThat_31 : decode cX0_deedsThat 31 = .ok ((.iconst 0), 1) := by decide +kernel
theorem dX0_deedsThat_32 : decode cX0_deedsThat 32 = .ok (.ior, 1) := by decide +kernel
theorem dX0_deedsThat_33 : decode cX0_deedsThat 33 = .ok ((.istore_n 2), 1) := by decide +kernel
theorem dX0_deedsThat_34 : decode cX0_deedsThat 34 = .ok ((.iinc 3 1), 3) := by decide +kernel
theorem dX0_deedsThat_37 : decode cX0_deedsThat 37 = .ok ((.goto (-33)), 3) := by decide +kernel
theorem dX0_deedsThat_40 : decode cX0_deedsThat 40 = .ok ((.iload_n 2), 1) := by decide +kernel
theorem dX0_deedsThat_41 : decode cX0_deedsThat 41 = .ok (.ireturn, 1) := by decide +kernel
def p_X0_deedsThat_32 (b : Nat) (a1 : Int32)  (K4 : vSt → Int32 → Int32 → Prop) (post : Int32 → vSt → Prop) (S : vSt) (x3 : Int32) (s0 : Int32) (s1 : Int32) : Prop := ∀ y11 : Int32, y11 = (s1 ||| s0) → ∀ y12 : Int32, y12 = x3 + 1 → K4 S y11 y12
def p_X0_deedsThat_4 (b : Nat) (a1 : Int32)   (post : Int32 → vSt → Prop) : Nat → vSt → Int32 → Int32 → Prop
  | 0 => fun _ _ _ => False
  | fu4 + 1 => fun S x2 x3 => (((S.1 b 16) ≤ x3 → post x2 S) ∧ (¬ (S.1 b 16) ≤ x3 → p_X10_at (b + 12) 10 S x3 (fun r10 S9 => ((¬ r10 = a1 → p_X0_deedsThat_32 b a1 (p_X0_deedsThat_4 b a1 post fu4) post S9 x3 0 x2) ∧ (r10 = a1 → p_X0_deedsThat_32 b a1 (p_X0_deedsThat_4 b a1 post fu4) post S9 x3 ((1 : Int32) <<< (x3 &&& 31)) x2)))))
theorem e_X0_deedsThat_4 (b : Nat) (a1 : Int32)   (post : Int32 → vSt → Prop) (fu4 : Nat) (S : vSt) (x2 : Int32) (x3 : Int32) : p_X0_deedsThat_4 b a1 post (fu4 + 1) S x2 x3 = ((((S.1 b 16) ≤ x3 → post x2 S) ∧ (¬ (S.1 b 16) ≤ x3 → p_X10_at (b + 12) 10 S x3 (fun r10 S9 => ((¬ r10 = a1 → p_X0_deedsThat_32 b a1 (p_X0_deedsThat_4 b a1 post fu4) post S9 x3 0 x2) ∧ (r10 = a1 → p_X0_deedsThat_32 b a1 (p_X0_deedsThat_4 b a1 post fu4) post S9 x3 ((1 : Int32) <<< (x3 &&& 31)) x2)))))) := rfl
def p_X0_deedsThat (b : Nat)  (S : vSt) (a1 : Int32) (post : Int32 → vSt → Prop) : Prop := ∃ fu4, p_X0_deedsThat_4 b a1 post fu4 S 0 0
set_option maxHeartbeats 4000000 in
set_option maxRecDepth 100000 in
theorem q_X0_deedsThat_32 {X : vX} {G : vG}  {post : Int32 → vSt → Prop} (C : v_Cx X G cX0_deedsThat RX0 4 (v_rm 1 61)) (D : v_Rx X G (v_Qi G post) (some .int)) {b : Nat} (hb : v_isC b) {a1 : Int32}  {K4 : vSt → Int32 → Int32 → Prop} (hK4 : ∀ S x2 x3, K4 S x2 x3 → VJ X G S 4 [(0, .ref (G.1 b)), (1, .int a1), (2, .int x2), (3, .int x3)] []) : ∀ (S : vSt) (x3 : Int32) (s0 : Int32) (s1 : Int32), p_X0_deedsThat_32 b a1 K4 post S x3 s0 s1 → VJ X G S 32 [(0, .ref (G.1 b)), (1, .int a1), (3, .int x3)] [.int s0, .int s1] := by
  intro S x3 s0 s1 h
  refine V_ior C dX0_deedsThat_32 ?_
  refine V_topi (fun y11 ey11 => ?_)
  have h := h y11 ey11
  refine V_istore_n (lv' := [(0, .ref (G.1 b)), (1, .int a1), (2, .int y11), (3, .int x3)]) C [1, 2, 0, 3] dX0_deedsThat_33 rfl (by decide) rfl ?_
  obtain ⟨y12, ey12⟩ : ∃ z : Int32, z = x3 + 1 := ⟨_, rfl⟩
  have h := h y12 ey12
  refine V_iinc (lv' := [(0, .ref (G.1 b)), (1, .int a1), (2, .int y11), (3, .int y12)]) C 3 [1, 2, 3, 0] y12 dX0_deedsThat_34 rfl (by rw [ey12]; rfl) (by decide) rfl ?_
  refine V_goto (tgt := 4) C dX0_deedsThat_37 (by decide) ?_
  exact hK4 _ _ _ h
set_option maxHeartbeats 4000000 in
set_option maxRecDepth 100000 in
theorem q_X0_deedsThat_4 {X : vX} {G : vG}  {post : Int32 → vSt → Prop} (C : v_Cx X G cX0_deedsThat RX0 4 (v_rm 1 61)) (D : v_Rx X G (v_Qi G post) (some .int)) {b : Nat} (hb : v_isC b) {a1 : Int32}   : ∀ (fu : Nat) (S : vSt) (x2 : Int32) (x3 : Int32), p_X0_deedsThat_4 b a1 post fu S x2 x3 → VJ X G S 4 [(0, .ref (G.1 b)), (1, .int a1), (2, .int x2), (3, .int x3)] [] := by
  intro fu
  induction fu with
  | zero => intro S x2 x3 h; exact absurd h id
  | succ fu ih =>
    intro S x2 x3 h
    have hK4 := ih
    rw [e_X0_deedsThat_4] at h
    refine V_iload_n C 3 dX0_deedsThat_4 rfl rfl ?_
    refine V_aload_n C 0 dX0_deedsThat_5 rfl rfl ?_
    refine V_gi C b (v_cb hb 0 (by decide)) (v_co0 hb) F_0_16 k_RX0_76 dX0_deedsThat_6 ?_
    refine V_icmp_ge (tgt := 40) C dX0_deedsThat_9 (by decide) (fun c => ?_) (fun c => ?_)
    · have h := h.1 c
      refine V_iload_n C 2 dX0_deedsThat_40 rfl rfl ?_
      exact V_iret C D dX0_deedsThat_41 h
    · have h := h.2 c
      refine V_iload_n C 2 dX0_deedsThat_12 rfl rfl ?_
      refine V_aload_n C 0 dX0_deedsThat_13 rfl rfl ?_
      refine V_gr C b (v_cb hb 0 (by decide)) (v_co0 hb) F_0_11 k_RX0_46 dX0_deedsThat_14 ?_
      refine V_iload_n C 3 dX0_deedsThat_17 rfl rfl ?_
      refine V_callSNi (As := [.ref (G.1 (b + 12)), .int x3]) (rest := [.int x2]) C (c_X10_at (v_l X) G (v_cb hb 12 (by decide)) (v_ca12 hb) _ _ h) KV_X10_at (List.mem_of_getElem? (i := 4) rfl) rfl rfl rfl (Nat.le_of_ble_eq_true rfl) ⟨Nat.le_of_ble_eq_true rfl, Nat.le_of_ble_eq_true rfl⟩ dX0_deedsThat_18 (fun r10 S9 h => ?_)
      refine V_iload_n C 1 dX0_deedsThat_21 rfl rfl ?_
      refine V_icmp_ne (tgt := 31) C dX0_deedsThat_22 (by decide) (fun c => ?_) (fun c => ?_)
      · have h := h.1 c
        refine V_iconst (v := 0) C dX0_deedsThat_31 (by decide) ?_
        refine V_loc (lv' := [(0, .ref (G.1 b)), (1, .int a1), (3, .int x3)]) [0, 1, 3] rfl ?_
        exact q_X0_deedsThat_32 C D hb hK4 _ _ _ _ h
      · have h := h.2 c
        refine V_iconst (v := 1) C dX0_deedsThat_25 (by decide) ?_
        refine V_iload_n C 3 dX0_deedsThat_26 rfl rfl ?_
        refine V_ishl C dX0_deedsThat_27 ?_
        refine V_goto (tgt := 32) C dX0_deedsThat_28 (by decide) ?_
        refine V_loc (lv' := [(0, .ref (G.1 b)), (1, .int a1), (3, .int x3)]) [0, 1, 3] rfl ?_
        exact q_X0_deedsThat_32 C D hb hK4 _ _ _ _ h
set_option maxHeartbeats 4000000 in
set_option maxRecDepth 100000 in
theorem c_X0_deedsThat (l : Launch) (G : vG)  {b : Nat} (hb : v_isC b)  {S : vSt} (a1 : Int32) (post : Int32 → vSt → Prop) (h : p_X0_deedsThat b  S a1 post) : Met l yX0_deedsThat (v_ws yX0_deedsThat cX0_deedsThat 4 (some .int)) (v_rm 1 61) (v_Pc G [.ref (G.1 b), .int a1] S) (v_Qi G post) 0 0 (v_A G) := by
  refine v_start (by decide +kernel) (Nat.le_of_ble_eq_true rfl) (fun X hl C D => ?_)
  subst hl
  have C : v_Cx X G cX0_deedsThat RX0 4 (v_rm 1 61) := C
  show VJ X G S 0 [(0, .ref (G.1 b)), (1, .int a1)] []
  refine V_iconst (v := 0) C dX0_deedsThat_0 (by decide) ?_
  refine V_istore_n (lv' := [(0, .ref (G.1 b)), (1, .int a1), (2, .int 0)]) C [1, 2, 0] dX0_deedsThat_1 rfl (by decide) rfl ?_
  refine V_iconst (v := 0) C dX0_deedsThat_2 (by decide) ?_
  refine V_istore_n (lv' := [(0, .ref (G.1 b)), (1, .int a1), (2, .int 0), (3, .int 0)]) C [1, 2, 3, 0] dX0_deedsThat_3 rfl (by decide) rfl ?_
  obtain ⟨fu4, h⟩ := h
  exact q_X0_deedsThat_4 C D hb fu4 _ _ _ h
/-! HalfAccuser$City.openDeeds()I -/
theorem dX0_openDeeds_0 : decode cX0_openDeeds 0 = .ok ((.aload_n 0), 1) := by decide +kernel
theorem dX0_openDeeds_1 : decode cX0_openDeeds 1 = .ok ((.iconst 0), 1) := by decide +kernel
theorem dX0_openDeeds_2 : decode cX0_openDeeds 2 = .ok ((.invokevirtual 153), 3) := by decide +kernel
theorem dX0_openDeeds_5 : decode cX0_openDeeds 5 = .ok (.ireturn, 1) := by decide +kernel
def p_X0_openDeeds (b : Nat)  (S : vSt)  (post : Int32 → vSt → Prop) : Prop := p_X0_deedsThat b S 0 (fun r4 S3 => post r4 S3)
set_option maxHeartbeats 4000000 in
set_option maxRecDepth 100000 in
theorem c_X0_openDeeds (l : Launch) (G : vG)  {b : Nat} (hb : v_isC b)  {S : vSt}  (post : Int32 → vSt → Prop) (h : p_X0_openDeeds b  S  post) : Met l yX0_openDeeds (v_ws yX0_openDeeds cX0_openDeeds 1 (some .int)) (v_rm 2 84) (v_Pc G [.ref (G.1 b)] S) (v_Qi G post) 0 0 (v_A G) := by
  refine v_start (by decide +kernel) (Nat.le_of_ble_eq_true rfl) (fun X hl C D => ?_)
  subst hl
  have C : v_Cx X G cX0_openDeeds RX0 1 (v_rm 2 84) := C
  show VJ X G S 0 [(0, .ref (G.1 b))] []
  refine V_aload_n C 0 dX0_openDeeds_0 rfl rfl ?_
  refine V_iconst (v := 0) C dX0_openDeeds_1 (by decide) ?_
  refine V_callVi (As := [.int 0]) (rest := []) C (c_X0_deedsThat (v_l X) G hb _ _ h) b 0 (v_cb hb 0 (by decide)) (v_co0 hb) (by decide) rfl KV_X0_deedsThat k_RX0_153 rfl rfl rfl (Nat.le_of_ble_eq_true rfl) ⟨Nat.le_of_ble_eq_true rfl, Nat.le_of_ble_eq_true rfl⟩ dX0_openDeeds_2 (fun r4 S3 h => ?_)
  exact V_iret C D dX0_openDeeds_5 h
/-! HalfAccuser$City.deedsOf(I)I -/
theorem dX0_deedsOf_0 : decode cX0_deedsOf 0 = .ok ((.iconst 0), 1) := by decide +kernel
theorem dX0_deedsOf_1 : decode cX0_deedsOf 1 = .ok ((.istore_n 2), 1) := by decide +kernel
theorem dX0_deedsOf_2 : decode cX0_deedsOf 2 = .ok ((.iconst 0), 1) := by decide +kernel
theorem dX0_deedsOf_3 : decode cX0_deedsOf 3 = .ok ((.istore_n 3), 1) := by decide +kernel
theorem dX0_deedsOf_4 : decode cX0_deedsOf 4 = .ok ((.iload_n 3), 1) := by decide +kernel
theorem dX0_deedsOf_5 : decode cX0_deedsOf 5 = .ok ((.aload_n 0), 1) := by decide +kernel
theorem dX0_deedsOf_6 : decode cX0_deedsOf 6 = .ok ((.getfield 76), 3) := by decide +kernel
theorem dX0_deedsOf_9 : decode cX0_deedsOf 9 = .ok ((.if_icmp .ge 28), 3) := by decide +kernel
theorem dX0_deedsOf_12 : decode cX0_deedsOf 12 = .ok ((.iload_n 2), 1) := by decide +kernel
theorem dX0_deedsOf_13 : decode cX0_deedsOf 13 = .ok ((.aload_n 0), 1) := by decide +kernel
theorem dX0_deedsOf_14 : decode cX0_deedsOf 14 = .ok ((.iload_n 1), 1) := by decide +kernel
theorem dX0_deedsOf_15 : decode cX0_deedsOf 15 = .ok ((.iload_n 3), 1) := by decide +kernel
theorem dX0_deedsOf_16 : decode cX0_deedsOf 16 = .ok ((.invokevirtual 111), 3) := by decide +kernel
theorem dX0_deedsOf_19 : decode cX0_deedsOf 19 = .ok ((.ifCond .eq 9), 3) := by decide +kernel
theorem dX0_deedsOf_22 : decode cX0_deedsOf 22 = .ok ((.iconst 1), 1) := by decide +kernel
theorem dX0_deedsOf_23 : decode cX0_deedsOf 23 = .ok ((.iload_n 3), 1) := by decide +kernel
theorem dX0_deedsOf_24 : decode cX0_deedsOf 24 = .ok (.ishl, 1) := by decide +kernel
theorem dX0_deedsOf_25 : decode cX0_deedsOf 25 = .ok ((.goto 4), 3) := by decide +kernel
theorem dX0_deedsOf_28 : decode cX0_deedsOf 28 = .ok ((.iconst 0), 1) := by decide +kernel
theorem dX0_deedsOf_29 : decode cX0_deedsOf 29 = .ok (.ior, 1) := by decide +kernel
theorem dX0_deedsOf_30 : decode cX0_deedsOf 30 = .ok ((.istore_n 2), 1) := by decide +kernel
theorem dX0_deedsOf_31 : decode cX0_deedsOf 31 = .ok ((.iinc 3 1), 3) := by decide +kernel
theorem dX0_deedsOf_34 : decode cX0_deedsOf 34 = .ok ((.goto (-30)), 3) := by decide +kernel
theorem dX0_deedsOf_37 : decode cX0_deedsOf 37 = .ok ((.iload_n 2), 1) := by decide +kernel
theorem dX0_deedsOf_38 : decode cX0_deedsOf 38 = .ok (.ireturn, 1) := by decide +kernel
def p_X0_deedsOf_29 (b : Nat) (a1 : Int32)  (K4 : vSt → Int32 → Int32 → Prop) (post : Int32 → vSt → Prop) (S : vSt) (x3 : Int32) (s0 : Int32) (s1 : Int32) : Prop := ∀ y11 : Int32, y11 = (s1 ||| s0) → ∀ y12 : Int32, y12 = x3 + 1 → K4 S y11 y12
def p_X0_deedsOf_4 (b : Nat) (a1 : Int32)   (post : Int32 → vSt → Prop) : Nat → vSt → Int32 → Int32 → Prop
  | 0 => fun _ _ _ => False
  | fu4 + 1 => fun S x2 x3 => (((S.1 b 16) ≤ x3 → post x2 S) ∧ (¬ (S.1 b 16) ≤ x3 → p_X0_isOwn b S a1 x3 (fun r10 S9 => ((r10 = false → p_X0_deedsOf_29 b a1 (p_X0_deedsOf_4 b a1 post fu4) post S9 x3 0 x2) ∧ (r10 = true → p_X0_deedsOf_29 b a1 (p_X0_deedsOf_4 b a1 post fu4) post S9 x3 ((1 : Int32) <<< (x3 &&& 31)) x2)))))
theorem e_X0_deedsOf_4 (b : Nat) (a1 : Int32)   (post : Int32 → vSt → Prop) (fu4 : Nat) (S : vSt) (x2 : Int32) (x3 : Int32) : p_X0_deedsOf_4 b a1 post (fu4 + 1) S x2 x3 = ((((S.1 b 16) ≤ x3 → post x2 S) ∧ (¬ (S.1 b 16) ≤ x3 → p_X0_isOwn b S a1 x3 (fun r10 S9 => ((r10 = false → p_X0_deedsOf_29 b a1 (p_X0_deedsOf_4 b a1 post fu4) post S9 x3 0 x2) ∧ (r10 = true → p_X0_deedsOf_29 b a1 (p_X0_deedsOf_4 b a1 post fu4) post S9 x3 ((1 : Int32) <<< (x3 &&& 31)) x2)))))) := rfl
def p_X0_deedsOf (b : Nat)  (S : vSt) (a1 : Int32) (post : Int32 → vSt → Prop) : Prop := ∃ fu4, p_X0_deedsOf_4 b a1 post fu4 S 0 0
set_option maxHeartbeats 4000000 in
set_option maxRecDepth 100000 in
theorem q_X0_deedsOf_29 {X : vX} {G : vG}  {post : Int32 → vSt → Prop} (C : v_Cx X G cX0_deedsOf RX0 4 (v_rm 2 83)) (D : v_Rx X G (v_Qi G post) (some .int)) {b : Nat} (hb : v_isC b) {a1 : Int32}  {K4 : vSt → Int32 → Int32 → Prop} (hK4 : ∀ S x2 x3, K4 S x2 x3 → VJ X G S 4 [(0, .ref (G.1 b)), (1, .int a1), (2, .int x2), (3, .int x3)] []) : ∀ (S : vSt) (x3 : Int32) (s0 : Int32) (s1 : Int32), p_X0_deedsOf_29 b a1 K4 post S x3 s0 s1 → VJ X G S 29 [(0, .ref (G.1 b)), (1, .int a1), (3, .int x3)] [.int s0, .int s1] := by
  intro S x3 s0 s1 h
  refine V_ior C dX0_deedsOf_29 ?_
  refine V_topi (fun y11 ey11 => ?_)
  have h := h y11 ey11
  refine V_istore_n (lv' := [(0, .ref (G.1 b)), (1, .int a1), (2, .int y11), (3, .int x3)]) C [1, 2, 0, 3] dX0_deedsOf_30 rfl (by decide) rfl ?_
  obtain ⟨y12, ey12⟩ : ∃ z : Int32, z = x3 + 1 := ⟨_, rfl⟩
  have h := h y12 ey12
  refine V_iinc (lv' := [(0, .ref (G.1 b)), (1, .int a1), (2, .int y11), (3, .int y12)]) C 3 [1, 2, 3, 0] y12 dX0_deedsOf_31 rfl (by rw [ey12]; rfl) (by decide) rfl ?_
  refine V_goto (tgt := 4) C dX0_deedsOf_34 (by decide) ?_
  exact hK4 _ _ _ h
set_option maxHeartbeats 4000000 in
set_option maxRecDepth 100000 in
theorem q_X0_deedsOf_4 {X : vX} {G : vG}  {post : Int32 → vSt → Prop} (C : v_Cx X G cX0_deedsOf RX0 4 (v_rm 2 83)) (D : v_Rx X G (v_Qi G post) (some .int)) {b : Nat} (hb : v_isC b) {a1 : Int32}   : ∀ (fu : Nat) (S : vSt) (x2 : Int32) (x3 : Int32), p_X0_deedsOf_4 b a1 post fu S x2 x3 → VJ X G S 4 [(0, .ref (G.1 b)), (1, .int a1), (2, .int x2), (3, .int x3)] [] := by
  intro fu
  induction fu with
  | zero => intro S x2 x3 h; exact absurd h id
  | succ fu ih =>
    intro S x2 x3 h
    have hK4 := ih
    rw [e_X0_deedsOf_4] at h
    refine V_iload_n C 3 dX0_deedsOf_4 rfl rfl ?_
    refine V_aload_n C 0 dX0_deedsOf_5 rfl rfl ?_
    refine V_gi C b (v_cb hb 0 (by decide)) (v_co0 hb) F_0_16 k_RX0_76 dX0_deedsOf_6 ?_
    refine V_icmp_ge (tgt := 37) C dX0_deedsOf_9 (by decide) (fun c => ?_) (fun c => ?_)
    · have h := h.1 c
      refine V_iload_n C 2 dX0_deedsOf_37 rfl rfl ?_
      exact V_iret C D dX0_deedsOf_38 h
    · have h := h.2 c
      refine V_iload_n C 2 dX0_deedsOf_12 rfl rfl ?_
      refine V_aload_n C 0 dX0_deedsOf_13 rfl rfl ?_
      refine V_iload_n C 1 dX0_deedsOf_14 rfl rfl ?_
      refine V_iload_n C 3 dX0_deedsOf_15 rfl rfl ?_
      refine V_callVz (As := [.int a1, .int x3]) (rest := [.int x2]) C (c_X0_isOwn (v_l X) G hb _ _ _ h) b 0 (v_cb hb 0 (by decide)) (v_co0 hb) (by decide) rfl KV_X0_isOwn k_RX0_111 rfl rfl rfl (Nat.le_of_ble_eq_true rfl) ⟨Nat.le_of_ble_eq_true rfl, Nat.le_of_ble_eq_true rfl⟩ dX0_deedsOf_16 (fun r10 S9 h => ?_)
      refine V_ifb_eq (tgt := 28) C dX0_deedsOf_19 (by decide) (fun c => ?_) (fun c => ?_)
      · have h := h.1 c
        refine V_iconst (v := 0) C dX0_deedsOf_28 (by decide) ?_
        refine V_loc (lv' := [(0, .ref (G.1 b)), (1, .int a1), (3, .int x3)]) [0, 1, 3] rfl ?_
        exact q_X0_deedsOf_29 C D hb hK4 _ _ _ _ h
      · have h := h.2 c
        refine V_iconst (v := 1) C dX0_deedsOf_22 (by decide) ?_
        refine V_iload_n C 3 dX0_deedsOf_23 rfl rfl ?_
        refine V_ishl C dX0_deedsOf_24 ?_
        refine V_goto (tgt := 29) C dX0_deedsOf_25 (by decide) ?_
        refine V_loc (lv' := [(0, .ref (G.1 b)), (1, .int a1), (3, .int x3)]) [0, 1, 3] rfl ?_
        exact q_X0_deedsOf_29 C D hb hK4 _ _ _ _ h
set_option maxHeartbeats 4000000 in
set_option maxRecDepth 100000 in
theorem c_X0_deedsOf (l : Launch) (G : vG)  {b : Nat} (hb : v_isC b)  {S : vSt} (a1 : Int32) (post : Int32 → vSt → Prop) (h : p_X0_deedsOf b  S a1 post) : Met l yX0_deedsOf (v_ws yX0_deedsOf cX0_deedsOf 4 (some .int)) (v_rm 2 83) (v_Pc G [.ref (G.1 b), .int a1] S) (v_Qi G post) 0 0 (v_A G) := by
  refine v_start (by decide +kernel) (Nat.le_of_ble_eq_true rfl) (fun X hl C D => ?_)
  subst hl
  have C : v_Cx X G cX0_deedsOf RX0 4 (v_rm 2 83) := C
  show VJ X G S 0 [(0, .ref (G.1 b)), (1, .int a1)] []
  refine V_iconst (v := 0) C dX0_deedsOf_0 (by decide) ?_
  refine V_istore_n (lv' := [(0, .ref (G.1 b)), (1, .int a1), (2, .int 0)]) C [1, 2, 0] dX0_deedsOf_1 rfl (by decide) rfl ?_
  refine V_iconst (v := 0) C dX0_deedsOf_2 (by decide) ?_
  refine V_istore_n (lv' := [(0, .ref (G.1 b)), (1, .int a1), (2, .int 0), (3, .int 0)]) C [1, 2, 3, 0] dX0_deedsOf_3 rfl (by decide) rfl ?_
  obtain ⟨fu4, h⟩ := h
  exact q_X0_deedsOf_4 C D hb fu4 _ _ _ h
/-! HalfAccuser$City.ruinedPeople()I -/
theorem dX0_ruinedPeople_0 : decode cX0_ruinedPeople 0 = .ok ((.iconst 0), 1) := by decide +kernel
theorem dX0_ruinedPeople_1 : decode cX0_ruinedPeople 1 = .ok ((.istore_n 1), 1) := by decide +kernel
theorem dX0_ruinedPeople_2 : decode cX0_ruinedPeople 2 = .ok ((.iconst 0), 1) := by decide +kernel
theorem dX0_ruinedPeople_3 : decode cX0_ruinedPeople 3 = .ok ((.istore_n 2), 1) := by decide +kernel
theorem dX0_ruinedPeople_4 : decode cX0_ruinedPeople 4 = .ok ((.iload_n 2), 1) := by decide +kernel
theorem dX0_ruinedPeople_5 : decode cX0_ruinedPeople 5 = .ok ((.aload_n 0), 1) := by decide +kernel
theorem dX0_ruinedPeople_6 : decode cX0_ruinedPeople 6 = .ok ((.getfield 72), 3) := by decide +kernel
theorem dX0_ruinedPeople_9 : decode cX0_ruinedPeople 9 = .ok ((.if_icmp .ge 27), 3) := by decide +kernel
theorem dX0_ruinedPeople_12 : decode cX0_ruinedPeople 12 = .ok ((.iload_n 1), 1) := by decide +kernel
theorem dX0_ruinedPeople_13 : decode cX0_ruinedPeople 13 = .ok ((.aload_n 0), 1) := by decide +kernel
theorem dX0_ruinedPeople_14 : decode cX0_ruinedPeople 14 = .ok ((.iload_n 2), 1) := by decide +kernel
theorem dX0_ruinedPeople_15 : decode cX0_ruinedPeople 15 = .ok ((.invokevirtual 118), 3) := by decide +kernel
theorem dX0_ruinedPeople_18 : decode cX0_ruinedPeople 18 = .ok ((.ifCond .eq 9), 3) := by decide +kernel
theorem dX0_ruinedPeople_21 : decode cX0_ruinedPeople 21 = .ok ((.iconst 1), 1) := by decide +kernel
theorem dX0_ruinedPeople_22 : decode cX0_ruinedPeople 22 = .ok ((.iload_n 2), 1) := by decide +kernel
theorem dX0_ruinedPeople_23 : decode cX0_ruinedPeople 23 = .ok (.ishl, 1) := by decide +kernel
theorem dX0_ruinedPeople_24 : decode cX0_ruinedPeople 24 = .ok ((.goto 4), 3) := by decide +kernel
theorem dX0_ruinedPeople_27 : decode cX0_ruinedPeople 27 = .ok ((.iconst 0), 1) := by decide +kernel
theorem dX0_ruinedPeople_28 : decode cX0_ruinedPeople 28 = .ok (.ior, 1) := by decide +kernel
theorem dX0_ruinedPeople_29 : decode cX0_ruinedPeople 29 = .ok ((.istore_n 1), 1) := by decide +kernel
theorem dX0_ruinedPeople_30 : decode cX0_ruinedPeople 30 = .ok ((.iinc 2 1), 3) := by decide +kernel
theorem dX0_ruinedPeople_33 : decode cX0_ruinedPeople 33 = .ok ((.goto (-29)), 3) := by decide +kernel
theorem dX0_ruinedPeople_36 : decode cX0_ruinedPeople 36 = .ok ((.iload_n 1), 1) := by decide +kernel
theorem dX0_ruinedPeople_37 : decode cX0_ruinedPeople 37 = .ok (.ireturn, 1) := by decide +kernel
def p_X0_ruinedPeople_28 (b : Nat)   (K4 : vSt → Int32 → Int32 → Prop) (post : Int32 → vSt → Prop) (S : vSt) (x2 : Int32) (s0 : Int32) (s1 : Int32) : Prop := ∀ y11 : Int32, y11 = (s1 ||| s0) → ∀ y12 : Int32, y12 = x2 + 1 → K4 S y11 y12
def p_X0_ruinedPeople_4 (b : Nat)    (post : Int32 → vSt → Prop) : Nat → vSt → Int32 → Int32 → Prop
  | 0 => fun _ _ _ => False
  | fu4 + 1 => fun S x1 x2 => (((S.1 b 15) ≤ x2 → post x1 S) ∧ (¬ (S.1 b 15) ≤ x2 → p_X0_isRuined b S x2 (fun r10 S9 => ((r10 = false → p_X0_ruinedPeople_28 b (p_X0_ruinedPeople_4 b post fu4) post S9 x2 0 x1) ∧ (r10 = true → p_X0_ruinedPeople_28 b (p_X0_ruinedPeople_4 b post fu4) post S9 x2 ((1 : Int32) <<< (x2 &&& 31)) x1)))))
theorem e_X0_ruinedPeople_4 (b : Nat)    (post : Int32 → vSt → Prop) (fu4 : Nat) (S : vSt) (x1 : Int32) (x2 : Int32) : p_X0_ruinedPeople_4 b post (fu4 + 1) S x1 x2 = ((((S.1 b 15) ≤ x2 → post x1 S) ∧ (¬ (S.1 b 15) ≤ x2 → p_X0_isRuined b S x2 (fun r10 S9 => ((r10 = false → p_X0_ruinedPeople_28 b (p_X0_ruinedPeople_4 b post fu4) post S9 x2 0 x1) ∧ (r10 = true → p_X0_ruinedPeople_28 b (p_X0_ruinedPeople_4 b post fu4) post S9 x2 ((1 : Int32) <<< (x2 &&& 31)) x1)))))) := rfl
def p_X0_ruinedPeople (b : Nat)  (S : vSt)  (post : Int32 → vSt → Prop) : Prop := ∃ fu4, p_X0_ruinedPeople_4 b post fu4 S 0 0
set_option maxHeartbeats 4000000 in
set_option maxRecDepth 100000 in
theorem q_X0_ruinedPeople_28 {X : vX} {G : vG}  {post : Int32 → vSt → Prop} (C : v_Cx X G cX0_ruinedPeople RX0 3 (v_rm 2 82)) (D : v_Rx X G (v_Qi G post) (some .int)) {b : Nat} (hb : v_isC b)   {K4 : vSt → Int32 → Int32 → Prop} (hK4 : ∀ S x1 x2, K4 S x1 x2 → VJ X G S 4 [(0, .ref (G.1 b)), (1, .int x1), (2, .int x2)] []) : ∀ (S : vSt) (x2 : Int32) (s0 : Int32) (s1 : Int32), p_X0_ruinedPeople_28 b K4 post S x2 s0 s1 → VJ X G S 28 [(0, .ref (G.1 b)), (2, .int x2)] [.int s0, .int s1] := by
  intro S x2 s0 s1 h
  refine V_ior C dX0_ruinedPeople_28 ?_
  refine V_topi (fun y11 ey11 => ?_)
  have h := h y11 ey11
  refine V_istore_n (lv' := [(0, .ref (G.1 b)), (1, .int y11), (2, .int x2)]) C [1, 0, 2] dX0_ruinedPeople_29 rfl (by decide) rfl ?_
  obtain ⟨y12, ey12⟩ : ∃ z : Int32, z = x2 + 1 := ⟨_, rfl⟩
  have h := h y12 ey12
  refine V_iinc (lv' := [(0, .ref (G.1 b)), (1, .int y11), (2, .int y12)]) C 2 [1, 2, 0] y12 dX0_ruinedPeople_30 rfl (by rw [ey12]; rfl) (by decide) rfl ?_
  refine V_goto (tgt := 4) C dX0_ruinedPeople_33 (by decide) ?_
  exact hK4 _ _ _ h
set_option maxHeartbeats 4000000 in
set_option maxRecDepth 100000 in
theorem q_X0_ruinedPeople_4 {X : vX} {G : vG}  {post : Int32 → vSt → Prop} (C : v_Cx X G cX0_ruinedPeople RX0 3 (v_rm 2 82)) (D : v_Rx X G (v_Qi G post) (some .int)) {b : Nat} (hb : v_isC b)    : ∀ (fu : Nat) (S : vSt) (x1 : Int32) (x2 : Int32), p_X0_ruinedPeople_4 b post fu S x1 x2 → VJ X G S 4 [(0, .ref (G.1 b)), (1, .int x1), (2, .int x2)] [] := by
  intro fu
  induction fu with
  | zero => intro S x1 x2 h; exact absurd h id
  | succ fu ih =>
    intro S x1 x2 h
    have hK4 := ih
    rw [e_X0_ruinedPeople_4] at h
    refine V_iload_n C 2 dX0_ruinedPeople_4 rfl rfl ?_
    refine V_aload_n C 0 dX0_ruinedPeople_5 rfl rfl ?_
    refine V_gi C b (v_cb hb 0 (by decide)) (v_co0 hb) F_0_15 k_RX0_72 dX0_ruinedPeople_6 ?_
    refine V_icmp_ge (tgt := 36) C dX0_ruinedPeople_9 (by decide) (fun c => ?_) (fun c => ?_)
    · have h := h.1 c
      refine V_iload_n C 1 dX0_ruinedPeople_36 rfl rfl ?_
      exact V_iret C D dX0_ruinedPeople_37 h
    · have h := h.2 c
      refine V_iload_n C 1 dX0_ruinedPeople_12 rfl rfl ?_
      refine V_aload_n C 0 dX0_ruinedPeople_13 rfl rfl ?_
      refine V_iload_n C 2 dX0_ruinedPeople_14 rfl rfl ?_
      refine V_callVz (As := [.int x2]) (rest := [.int x1]) C (c_X0_isRuined (v_l X) G hb _ _ h) b 0 (v_cb hb 0 (by decide)) (v_co0 hb) (by decide) rfl KV_X0_isRuined k_RX0_118 rfl rfl rfl (Nat.le_of_ble_eq_true rfl) ⟨Nat.le_of_ble_eq_true rfl, Nat.le_of_ble_eq_true rfl⟩ dX0_ruinedPeople_15 (fun r10 S9 h => ?_)
      refine V_ifb_eq (tgt := 27) C dX0_ruinedPeople_18 (by decide) (fun c => ?_) (fun c => ?_)
      · have h := h.1 c
        refine V_iconst (v := 0) C dX0_ruinedPeople_27 (by decide) ?_
        refine V_loc (lv' := [(0, .ref (G.1 b)), (2, .int x2)]) [0, 2] rfl ?_
        exact q_X0_ruinedPeople_28 C D hb hK4 _ _ _ _ h
      · have h := h.2 c
        refine V_iconst (v := 1) C dX0_ruinedPeople_21 (by decide) ?_
        refine V_iload_n C 2 dX0_ruinedPeople_22 rfl rfl ?_
        refine V_ishl C dX0_ruinedPeople_23 ?_
        refine V_goto (tgt := 28) C dX0_ruinedPeople_24 (by decide) ?_
        refine V_loc (lv' := [(0, .ref (G.1 b)), (2, .int x2)]) [0, 2] rfl ?_
        exact q_X0_ruinedPeople_28 C D hb hK4 _ _ _ _ h
set_option maxHeartbeats 4000000 in
set_option maxRecDepth 100000 in
theorem c_X0_ruinedPeople (l : Launch) (G : vG)  {b : Nat} (hb : v_isC b)  {S : vSt}  (post : Int32 → vSt → Prop) (h : p_X0_ruinedPeople b  S  post) : Met l yX0_ruinedPeople (v_ws yX0_ruinedPeople cX0_ruinedPeople 3 (some .int)) (v_rm 2 82) (v_Pc G [.ref (G.1 b)] S) (v_Qi G post) 0 0 (v_A G) := by
  refine v_start (by decide +kernel) (Nat.le_of_ble_eq_true rfl) (fun X hl C D => ?_)
  subst hl
  have C : v_Cx X G cX0_ruinedPeople RX0 3 (v_rm 2 82) := C
  show VJ X G S 0 [(0, .ref (G.1 b))] []
  refine V_iconst (v := 0) C dX0_ruinedPeople_0 (by decide) ?_
  refine V_istore_n (lv' := [(0, .ref (G.1 b)), (1, .int 0)]) C [1, 0] dX0_ruinedPeople_1 rfl (by decide) rfl ?_
  refine V_iconst (v := 0) C dX0_ruinedPeople_2 (by decide) ?_
  refine V_istore_n (lv' := [(0, .ref (G.1 b)), (1, .int 0), (2, .int 0)]) C [1, 2, 0] dX0_ruinedPeople_3 rfl (by decide) rfl ?_
  obtain ⟨fu4, h⟩ := h
  exact q_X0_ruinedPeople_4 C D hb fu4 _ _ _ h
/-! HalfAccuser$City.fact(I)I -/
theorem dX0_fact_0 : decode cX0_fact 0 = .ok ((.iload_n 1), 1) := by decide +kernel
theorem dX0_fact_1 : decode cX0_fact 1 = .ok ((.tableswitch 96 0 10 #[59, 64, 96, 96, 96, 96, 69, 74, 80, 86, 91]), 59) := by decide +kernel
theorem dX0_fact_60 : decode cX0_fact 60 = .ok ((.aload_n 0), 1) := by decide +kernel
theorem dX0_fact_61 : decode cX0_fact 61 = .ok ((.getfield 72), 3) := by decide +kernel
theorem dX0_fact_64 : decode cX0_fact 64 = .ok (.ireturn, 1) := by decide +kernel
theorem dX0_fact_65 : decode cX0_fact 65 = .ok ((.aload_n 0), 1) := by decide +kernel
theorem dX0_fact_66 : decode cX0_fact 66 = .ok ((.getfield 76), 3) := by decide +kernel
theorem dX0_fact_69 : decode cX0_fact 69 = .ok (.ireturn, 1) := by decide +kernel
theorem dX0_fact_70 : decode cX0_fact 70 = .ok ((.aload_n 0), 1) := by decide +kernel
theorem dX0_fact_71 : decode cX0_fact 71 = .ok ((.getfield 79), 3) := by decide +kernel
theorem dX0_fact_74 : decode cX0_fact 74 = .ok (.ireturn, 1) := by decide +kernel
theorem dX0_fact_75 : decode cX0_fact 75 = .ok ((.aload_n 0), 1) := by decide +kernel
theorem dX0_fact_76 : decode cX0_fact 76 = .ok ((.iconst 0), 1) := by decide +kernel
theorem dX0_fact_77 : decode cX0_fact 77 = .ok ((.invokevirtual 153), 3) := by decide +kernel
theorem dX0_fact_80 : decode cX0_fact 80 = .ok (.ireturn, 1) := by decide +kernel
theorem dX0_fact_81 : decode cX0_fact 81 = .ok ((.aload_n 0), 1) := by decide +kernel
theorem dX0_fact_82 : decode cX0_fact 82 = .ok ((.iconst 1), 1) := by decide +kernel
theorem dX0_fact_83 : decode cX0_fact 83 = .ok ((.invokevirtual 153), 3) := by decide +kernel
theorem dX0_fact_86 : decode cX0_fact 86 = .ok (.ireturn, 1) := by decide +kernel
theorem dX0_fact_87 : decode cX0_fact 87 = .ok ((.aload_n 0), 1) := by decide +kernel
theorem dX0_fact_88 : decode cX0_fact 88 = .ok ((.invokevirtual 156), 3) := by decide +kernel
theorem dX0_fact_91 : decode cX0_fact 91 = .ok (.ireturn, 1) := by decide +kernel
theorem dX0_fact_92 : decode cX0_fact 92 = .ok ((.aload_n 0), 1) := by decide +kernel
theorem dX0_fact_93 : decode cX0_fact 93 = .ok ((.getfield 82), 3) := by decide +kernel
theorem dX0_fact_96 : decode cX0_fact 96 = .ok (.ireturn, 1) := by decide +kernel
theorem dX0_fact_97 : decode cX0_fact 97 = .ok ((.aload_n 0), 1) := by decide +kernel
theorem dX0_fact_98 : decode cX0_fact 98 = .ok ((.iload_n 1), 1) := by decide +kernel
theorem dX0_fact_99 : decode cX0_fact 99 = .ok ((.iconst 2), 1) := by decide +kernel
theorem dX0_fact_100 : decode cX0_fact 100 = .ok (.isub, 1) := by decide +kernel
theorem dX0_fact_101 : decode cX0_fact 101 = .ok ((.invokevirtual 138), 3) := by decide +kernel
theorem dX0_fact_104 : decode cX0_fact 104 = .ok (.ireturn, 1) := by decide +kernel
def p_X0_fact (b : Nat)  (S : vSt) (a1 : Int32) (post : Int32 → vSt → Prop) : Prop := ((a1 = 0 → post (S.1 b 15) S) ∧ ((a1 = 1 → post (S.1 b 16) S) ∧ ((a1 = 2 → p_X0_ruleOf b S (a1 - 2) (fun r18 S17 => post r18 S17)) ∧ ((a1 = 3 → p_X0_ruleOf b S (a1 - 2) (fun r20 S19 => post r20 S19)) ∧ ((a1 = 4 → p_X0_ruleOf b S (a1 - 2) (fun r22 S21 => post r22 S21)) ∧ ((a1 = 5 → p_X0_ruleOf b S (a1 - 2) (fun r24 S23 => post r24 S23)) ∧ ((a1 = 6 → post (S.1 b 17) S) ∧ ((a1 = 7 → p_X0_deedsThat b S 0 (fun r26 S25 => post r26 S25)) ∧ ((a1 = 8 → p_X0_deedsThat b S 1 (fun r28 S27 => post r28 S27)) ∧ ((a1 = 9 → p_X0_ruinedPeople b S  (fun r30 S29 => post r30 S29)) ∧ ((a1 = 10 → post (S.1 b 18) S) ∧ (a1 < 0 ∨ 10 < a1 → p_X0_ruleOf b S (a1 - 2) (fun r32 S31 => post r32 S31)))))))))))))
set_option maxHeartbeats 4000000 in
set_option maxRecDepth 100000 in
theorem c_X0_fact (l : Launch) (G : vG)  {b : Nat} (hb : v_isC b)  {S : vSt} (a1 : Int32) (post : Int32 → vSt → Prop) (h : p_X0_fact b  S a1 post) : Met l yX0_fact (v_ws yX0_fact cX0_fact 2 (some .int)) (v_rm 3 104) (v_Pc G [.ref (G.1 b), .int a1] S) (v_Qi G post) 0 0 (v_A G) := by
  refine v_start (by decide +kernel) (Nat.le_of_ble_eq_true rfl) (fun X hl C D => ?_)
  subst hl
  have C : v_Cx X G cX0_fact RX0 2 (v_rm 3 104) := C
  show VJ X G S 0 [(0, .ref (G.1 b)), (1, .int a1)] []
  refine V_iload_n C 1 dX0_fact_0 rfl rfl ?_
  refine V_table (tgtd := 97) C dX0_fact_1 (by decide) (fun c => ?_) (fun k hk c => ?_)
  · have h := h.2.2.2.2.2.2.2.2.2.2.2 (v_iout 0 10 c (by decide) (by decide))
    refine V_aload_n C 0 dX0_fact_97 rfl rfl ?_
    refine V_iload_n C 1 dX0_fact_98 rfl rfl ?_
    refine V_iconst (v := 2) C dX0_fact_99 (by decide) ?_
    refine V_isub C dX0_fact_100 ?_
    refine V_callVi (As := [.int (a1 - 2)]) (rest := []) C (c_X0_ruleOf (v_l X) G hb _ _ h) b 0 (v_cb hb 0 (by decide)) (v_co0 hb) (by decide) rfl KV_X0_ruleOf k_RX0_138 rfl rfl rfl (Nat.le_of_ble_eq_true rfl) ⟨Nat.le_of_ble_eq_true rfl, Nat.le_of_ble_eq_true rfl⟩ dX0_fact_101 (fun r32 S31 h => ?_)
    exact V_iret C D dX0_fact_104 h
  · have hk : k < 11 := hk
    rcases (show k = 0 ∨ k = 1 ∨ k = 2 ∨ k = 3 ∨ k = 4 ∨ k = 5 ∨ k = 6 ∨ k = 7 ∨ k = 8 ∨ k = 9 ∨ k = 10 by omega) with rfl | rfl | rfl | rfl | rfl | rfl | rfl | rfl | rfl | rfl | rfl
    · refine ⟨60, by decide, ?_⟩
      have h := h.1 (v_ieq 0 c (by decide))
      refine V_aload_n C 0 dX0_fact_60 rfl rfl ?_
      refine V_gi C b (v_cb hb 0 (by decide)) (v_co0 hb) F_0_15 k_RX0_72 dX0_fact_61 ?_
      exact V_iret C D dX0_fact_64 h
    · refine ⟨65, by decide, ?_⟩
      have h := h.2.1 (v_ieq 1 c (by decide))
      refine V_aload_n C 0 dX0_fact_65 rfl rfl ?_
      refine V_gi C b (v_cb hb 0 (by decide)) (v_co0 hb) F_0_16 k_RX0_76 dX0_fact_66 ?_
      exact V_iret C D dX0_fact_69 h
    · refine ⟨97, by decide, ?_⟩
      have h := h.2.2.1 (v_ieq 2 c (by decide))
      refine V_aload_n C 0 dX0_fact_97 rfl rfl ?_
      refine V_iload_n C 1 dX0_fact_98 rfl rfl ?_
      refine V_iconst (v := 2) C dX0_fact_99 (by decide) ?_
      refine V_isub C dX0_fact_100 ?_
      refine V_callVi (As := [.int (a1 - 2)]) (rest := []) C (c_X0_ruleOf (v_l X) G hb _ _ h) b 0 (v_cb hb 0 (by decide)) (v_co0 hb) (by decide) rfl KV_X0_ruleOf k_RX0_138 rfl rfl rfl (Nat.le_of_ble_eq_true rfl) ⟨Nat.le_of_ble_eq_true rfl, Nat.le_of_ble_eq_true rfl⟩ dX0_fact_101 (fun r18 S17 h => ?_)
      exact V_iret C D dX0_fact_104 h
    · refine ⟨97, by decide, ?_⟩
      have h := h.2.2.2.1 (v_ieq 3 c (by decide))
      refine V_aload_n C 0 dX0_fact_97 rfl rfl ?_
      refine V_iload_n C 1 dX0_fact_98 rfl rfl ?_
      refine V_iconst (v := 2) C dX0_fact_99 (by decide) ?_
      refine V_isub C dX0_fact_100 ?_
      refine V_callVi (As := [.int (a1 - 2)]) (rest := []) C (c_X0_ruleOf (v_l X) G hb _ _ h) b 0 (v_cb hb 0 (by decide)) (v_co0 hb) (by decide) rfl KV_X0_ruleOf k_RX0_138 rfl rfl rfl (Nat.le_of_ble_eq_true rfl) ⟨Nat.le_of_ble_eq_true rfl, Nat.le_of_ble_eq_true rfl⟩ dX0_fact_101 (fun r20 S19 h => ?_)
      exact V_iret C D dX0_fact_104 h
    · refine ⟨97, by decide, ?_⟩
      have h := h.2.2.2.2.1 (v_ieq 4 c (by decide))
      refine V_aload_n C 0 dX0_fact_97 rfl rfl ?_
      refine V_iload_n C 1 dX0_fact_98 rfl rfl ?_
      refine V_iconst (v := 2) C dX0_fact_99 (by decide) ?_
      refine V_isub C dX0_fact_100 ?_
      refine V_callVi (As := [.int (a1 - 2)]) (rest := []) C (c_X0_ruleOf (v_l X) G hb _ _ h) b 0 (v_cb hb 0 (by decide)) (v_co0 hb) (by decide) rfl KV_X0_ruleOf k_RX0_138 rfl rfl rfl (Nat.le_of_ble_eq_true rfl) ⟨Nat.le_of_ble_eq_true rfl, Nat.le_of_ble_eq_true rfl⟩ dX0_fact_101 (fun r22 S21 h => ?_)
      exact V_iret C D dX0_fact_104 h
    · refine ⟨97, by decide, ?_⟩
      have h := h.2.2.2.2.2.1 (v_ieq 5 c (by decide))
      refine V_aload_n C 0 dX0_fact_97 rfl rfl ?_
      refine V_iload_n C 1 dX0_fact_98 rfl rfl ?_
      refine V_iconst (v := 2) C dX0_fact_99 (by decide) ?_
      refine V_isub C dX0_fact_100 ?_
      refine V_callVi (As := [.int (a1 - 2)]) (rest := []) C (c_X0_ruleOf (v_l X) G hb _ _ h) b 0 (v_cb hb 0 (by decide)) (v_co0 hb) (by decide) rfl KV_X0_ruleOf k_RX0_138 rfl rfl rfl (Nat.le_of_ble_eq_true rfl) ⟨Nat.le_of_ble_eq_true rfl, Nat.le_of_ble_eq_true rfl⟩ dX0_fact_101 (fun r24 S23 h => ?_)
      exact V_iret C D dX0_fact_104 h
    · refine ⟨70, by decide, ?_⟩
      have h := h.2.2.2.2.2.2.1 (v_ieq 6 c (by decide))
      refine V_aload_n C 0 dX0_fact_70 rfl rfl ?_
      refine V_gi C b (v_cb hb 0 (by decide)) (v_co0 hb) F_0_17 k_RX0_79 dX0_fact_71 ?_
      exact V_iret C D dX0_fact_74 h
    · refine ⟨75, by decide, ?_⟩
      have h := h.2.2.2.2.2.2.2.1 (v_ieq 7 c (by decide))
      refine V_aload_n C 0 dX0_fact_75 rfl rfl ?_
      refine V_iconst (v := 0) C dX0_fact_76 (by decide) ?_
      refine V_callVi (As := [.int 0]) (rest := []) C (c_X0_deedsThat (v_l X) G hb _ _ h) b 0 (v_cb hb 0 (by decide)) (v_co0 hb) (by decide) rfl KV_X0_deedsThat k_RX0_153 rfl rfl rfl (Nat.le_of_ble_eq_true rfl) ⟨Nat.le_of_ble_eq_true rfl, Nat.le_of_ble_eq_true rfl⟩ dX0_fact_77 (fun r26 S25 h => ?_)
      exact V_iret C D dX0_fact_80 h
    · refine ⟨81, by decide, ?_⟩
      have h := h.2.2.2.2.2.2.2.2.1 (v_ieq 8 c (by decide))
      refine V_aload_n C 0 dX0_fact_81 rfl rfl ?_
      refine V_iconst (v := 1) C dX0_fact_82 (by decide) ?_
      refine V_callVi (As := [.int 1]) (rest := []) C (c_X0_deedsThat (v_l X) G hb _ _ h) b 0 (v_cb hb 0 (by decide)) (v_co0 hb) (by decide) rfl KV_X0_deedsThat k_RX0_153 rfl rfl rfl (Nat.le_of_ble_eq_true rfl) ⟨Nat.le_of_ble_eq_true rfl, Nat.le_of_ble_eq_true rfl⟩ dX0_fact_83 (fun r28 S27 h => ?_)
      exact V_iret C D dX0_fact_86 h
    · refine ⟨87, by decide, ?_⟩
      have h := h.2.2.2.2.2.2.2.2.2.1 (v_ieq 9 c (by decide))
      refine V_aload_n C 0 dX0_fact_87 rfl rfl ?_
      refine V_callVi (As := []) (rest := []) C (c_X0_ruinedPeople (v_l X) G hb _ h) b 0 (v_cb hb 0 (by decide)) (v_co0 hb) (by decide) rfl KV_X0_ruinedPeople k_RX0_156 rfl rfl rfl (Nat.le_of_ble_eq_true rfl) ⟨Nat.le_of_ble_eq_true rfl, Nat.le_of_ble_eq_true rfl⟩ dX0_fact_88 (fun r30 S29 h => ?_)
      exact V_iret C D dX0_fact_91 h
    · refine ⟨92, by decide, ?_⟩
      have h := h.2.2.2.2.2.2.2.2.2.2.1 (v_ieq 10 c (by decide))
      refine V_aload_n C 0 dX0_fact_92 rfl rfl ?_
      refine V_gi C b (v_cb hb 0 (by decide)) (v_co0 hb) F_0_18 k_RX0_82 dX0_fact_93 ?_
      exact V_iret C D dX0_fact_96 h
/-! HalfAccuser$City.personFact(II)I -/
theorem dX0_personFact_0 : decode cX0_personFact 0 = .ok ((.iload_n 2), 1) := by decide +kernel
theorem dX0_personFact_1 : decode cX0_personFact 1 = .ok ((.tableswitch 77 0 4 #[35, 44, 53, 62, 71]), 35) := by decide +kernel
theorem dX0_personFact_36 : decode cX0_personFact 36 = .ok ((.aload_n 0), 1) := by decide +kernel
theorem dX0_personFact_37 : decode cX0_personFact 37 = .ok ((.getfield 19), 3) := by decide +kernel
theorem dX0_personFact_40 : decode cX0_personFact 40 = .ok ((.iload_n 1), 1) := by decide +kernel
theorem dX0_personFact_41 : decode cX0_personFact 41 = .ok ((.invokestatic 104), 3) := by decide +kernel
theorem dX0_personFact_44 : decode cX0_personFact 44 = .ok (.ireturn, 1) := by decide +kernel
theorem dX0_personFact_45 : decode cX0_personFact 45 = .ok ((.aload_n 0), 1) := by decide +kernel
theorem dX0_personFact_46 : decode cX0_personFact 46 = .ok ((.getfield 22), 3) := by decide +kernel
theorem dX0_personFact_49 : decode cX0_personFact 49 = .ok ((.iload_n 1), 1) := by decide +kernel
theorem dX0_personFact_50 : decode cX0_personFact 50 = .ok ((.invokestatic 104), 3) := by decide +kernel
theorem dX0_personFact_53 : decode cX0_personFact 53 = .ok (.ireturn, 1) := by decide +kernel
theorem dX0_personFact_54 : decode cX0_personFact 54 = .ok ((.aload_n 0), 1) := by decide +kernel
theorem dX0_personFact_55 : decode cX0_personFact 55 = .ok ((.getfield 25), 3) := by decide +kernel
theorem dX0_personFact_58 : decode cX0_personFact 58 = .ok ((.iload_n 1), 1) := by decide +kernel
theorem dX0_personFact_59 : decode cX0_personFact 59 = .ok ((.invokestatic 104), 3) := by decide +kernel
theorem dX0_personFact_62 : decode cX0_personFact 62 = .ok (.ireturn, 1) := by decide +kernel
theorem dX0_personFact_63 : decode cX0_personFact 63 = .ok ((.aload_n 0), 1) := by decide +kernel
theorem dX0_personFact_64 : decode cX0_personFact 64 = .ok ((.getfield 28), 3) := by decide +kernel
theorem dX0_personFact_67 : decode cX0_personFact 67 = .ok ((.iload_n 1), 1) := by decide +kernel
theorem dX0_personFact_68 : decode cX0_personFact 68 = .ok ((.invokestatic 104), 3) := by decide +kernel
theorem dX0_personFact_71 : decode cX0_personFact 71 = .ok (.ireturn, 1) := by decide +kernel
theorem dX0_personFact_72 : decode cX0_personFact 72 = .ok ((.aload_n 0), 1) := by decide +kernel
theorem dX0_personFact_73 : decode cX0_personFact 73 = .ok ((.iload_n 1), 1) := by decide +kernel
theorem dX0_personFact_74 : decode cX0_personFact 74 = .ok ((.invokevirtual 160), 3) := by decide +kernel
theorem dX0_personFact_77 : decode cX0_personFact 77 = .ok (.ireturn, 1) := by decide +kernel
theorem dX0_personFact_78 : decode cX0_personFact 78 = .ok ((.aload_n 0), 1) := by decide +kernel
theorem dX0_personFact_79 : decode cX0_personFact 79 = .ok ((.getfield 31), 3) := by decide +kernel
theorem dX0_personFact_82 : decode cX0_personFact 82 = .ok ((.iload_n 1), 1) := by decide +kernel
theorem dX0_personFact_83 : decode cX0_personFact 83 = .ok ((.invokestatic 104), 3) := by decide +kernel
theorem dX0_personFact_86 : decode cX0_personFact 86 = .ok (.ireturn, 1) := by decide +kernel
def p_X0_personFact (b : Nat)  (S : vSt) (a1 : Int32) (a2 : Int32) (post : Int32 → vSt → Prop) : Prop := ((a2 = 0 → p_X10_at (b + 3) 8 S a1 (fun r14 S13 => post r14 S13)) ∧ ((a2 = 1 → p_X10_at (b + 4) 8 S a1 (fun r16 S15 => post r16 S15)) ∧ ((a2 = 2 → p_X10_at (b + 5) 8 S a1 (fun r18 S17 => post r18 S17)) ∧ ((a2 = 3 → p_X10_at (b + 6) 8 S a1 (fun r20 S19 => post r20 S19)) ∧ ((a2 = 4 → p_X0_deedsOf b S a1 (fun r22 S21 => post r22 S21)) ∧ (a2 < 0 ∨ 4 < a2 → p_X10_at (b + 7) 8 S a1 (fun r24 S23 => post r24 S23)))))))
set_option maxHeartbeats 4000000 in
set_option maxRecDepth 100000 in
theorem c_X0_personFact (l : Launch) (G : vG)  {b : Nat} (hb : v_isC b)  {S : vSt} (a1 : Int32) (a2 : Int32) (post : Int32 → vSt → Prop) (h : p_X0_personFact b  S a1 a2 post) : Met l yX0_personFact (v_ws yX0_personFact cX0_personFact 3 (some .int)) (v_rm 3 106) (v_Pc G [.ref (G.1 b), .int a1, .int a2] S) (v_Qi G post) 0 0 (v_A G) := by
  refine v_start (by decide +kernel) (Nat.le_of_ble_eq_true rfl) (fun X hl C D => ?_)
  subst hl
  have C : v_Cx X G cX0_personFact RX0 3 (v_rm 3 106) := C
  show VJ X G S 0 [(0, .ref (G.1 b)), (1, .int a1), (2, .int a2)] []
  refine V_iload_n C 2 dX0_personFact_0 rfl rfl ?_
  refine V_table (tgtd := 78) C dX0_personFact_1 (by decide) (fun c => ?_) (fun k hk c => ?_)
  · have h := h.2.2.2.2.2 (v_iout 0 4 c (by decide) (by decide))
    refine V_aload_n C 0 dX0_personFact_78 rfl rfl ?_
    refine V_gr C b (v_cb hb 0 (by decide)) (v_co0 hb) F_0_6 k_RX0_31 dX0_personFact_79 ?_
    refine V_iload_n C 1 dX0_personFact_82 rfl rfl ?_
    refine V_callSNi (As := [.ref (G.1 (b + 7)), .int a1]) (rest := []) C (c_X10_at (v_l X) G (v_cb hb 7 (by decide)) (v_ca7 hb) _ _ h) KV_X10_at (List.mem_of_getElem? (i := 4) rfl) rfl rfl rfl (Nat.le_of_ble_eq_true rfl) ⟨Nat.le_of_ble_eq_true rfl, Nat.le_of_ble_eq_true rfl⟩ dX0_personFact_83 (fun r24 S23 h => ?_)
    exact V_iret C D dX0_personFact_86 h
  · have hk : k < 5 := hk
    rcases (show k = 0 ∨ k = 1 ∨ k = 2 ∨ k = 3 ∨ k = 4 by omega) with rfl | rfl | rfl | rfl | rfl
    · refine ⟨36, by decide, ?_⟩
      have h := h.1 (v_ieq 0 c (by decide))
      refine V_aload_n C 0 dX0_personFact_36 rfl rfl ?_
      refine V_gr C b (v_cb hb 0 (by decide)) (v_co0 hb) F_0_2 k_RX0_19 dX0_personFact_37 ?_
      refine V_iload_n C 1 dX0_personFact_40 rfl rfl ?_
      refine V_callSNi (As := [.ref (G.1 (b + 3)), .int a1]) (rest := []) C (c_X10_at (v_l X) G (v_cb hb 3 (by decide)) (v_ca3 hb) _ _ h) KV_X10_at (List.mem_of_getElem? (i := 4) rfl) rfl rfl rfl (Nat.le_of_ble_eq_true rfl) ⟨Nat.le_of_ble_eq_true rfl, Nat.le_of_ble_eq_true rfl⟩ dX0_personFact_41 (fun r14 S13 h => ?_)
      exact V_iret C D dX0_personFact_44 h
    · refine ⟨45, by decide, ?_⟩
      have h := h.2.1 (v_ieq 1 c (by decide))
      refine V_aload_n C 0 dX0_personFact_45 rfl rfl ?_
      refine V_gr C b (v_cb hb 0 (by decide)) (v_co0 hb) F_0_3 k_RX0_22 dX0_personFact_46 ?_
      refine V_iload_n C 1 dX0_personFact_49 rfl rfl ?_
      refine V_callSNi (As := [.ref (G.1 (b + 4)), .int a1]) (rest := []) C (c_X10_at (v_l X) G (v_cb hb 4 (by decide)) (v_ca4 hb) _ _ h) KV_X10_at (List.mem_of_getElem? (i := 4) rfl) rfl rfl rfl (Nat.le_of_ble_eq_true rfl) ⟨Nat.le_of_ble_eq_true rfl, Nat.le_of_ble_eq_true rfl⟩ dX0_personFact_50 (fun r16 S15 h => ?_)
      exact V_iret C D dX0_personFact_53 h
    · refine ⟨54, by decide, ?_⟩
      have h := h.2.2.1 (v_ieq 2 c (by decide))
      refine V_aload_n C 0 dX0_personFact_54 rfl rfl ?_
      refine V_gr C b (v_cb hb 0 (by decide)) (v_co0 hb) F_0_4 k_RX0_25 dX0_personFact_55 ?_
      refine V_iload_n C 1 dX0_personFact_58 rfl rfl ?_
      refine V_callSNi (As := [.ref (G.1 (b + 5)), .int a1]) (rest := []) C (c_X10_at (v_l X) G (v_cb hb 5 (by decide)) (v_ca5 hb) _ _ h) KV_X10_at (List.mem_of_getElem? (i := 4) rfl) rfl rfl rfl (Nat.le_of_ble_eq_true rfl) ⟨Nat.le_of_ble_eq_true rfl, Nat.le_of_ble_eq_true rfl⟩ dX0_personFact_59 (fun r18 S17 h => ?_)
      exact V_iret C D dX0_personFact_62 h
    · refine ⟨63, by decide, ?_⟩
      have h := h.2.2.2.1 (v_ieq 3 c (by decide))
      refine V_aload_n C 0 dX0_personFact_63 rfl rfl ?_
      refine V_gr C b (v_cb hb 0 (by decide)) (v_co0 hb) F_0_5 k_RX0_28 dX0_personFact_64 ?_
      refine V_iload_n C 1 dX0_personFact_67 rfl rfl ?_
      refine V_callSNi (As := [.ref (G.1 (b + 6)), .int a1]) (rest := []) C (c_X10_at (v_l X) G (v_cb hb 6 (by decide)) (v_ca6 hb) _ _ h) KV_X10_at (List.mem_of_getElem? (i := 4) rfl) rfl rfl rfl (Nat.le_of_ble_eq_true rfl) ⟨Nat.le_of_ble_eq_true rfl, Nat.le_of_ble_eq_true rfl⟩ dX0_personFact_68 (fun r20 S19 h => ?_)
      exact V_iret C D dX0_personFact_71 h
    · refine ⟨72, by decide, ?_⟩
      have h := h.2.2.2.2.1 (v_ieq 4 c (by decide))
      refine V_aload_n C 0 dX0_personFact_72 rfl rfl ?_
      refine V_iload_n C 1 dX0_personFact_73 rfl rfl ?_
      refine V_callVi (As := [.int a1]) (rest := []) C (c_X0_deedsOf (v_l X) G hb _ _ h) b 0 (v_cb hb 0 (by decide)) (v_co0 hb) (by decide) rfl KV_X0_deedsOf k_RX0_160 rfl rfl rfl (Nat.le_of_ble_eq_true rfl) ⟨Nat.le_of_ble_eq_true rfl, Nat.le_of_ble_eq_true rfl⟩ dX0_personFact_74 (fun r22 S21 h => ?_)
      exact V_iret C D dX0_personFact_77 h
/-! HalfAccuser$City.deedFact(II)I -/
theorem dX0_deedFact_0 : decode cX0_deedFact 0 = .ok ((.iload_n 2), 1) := by decide +kernel
theorem dX0_deedFact_1 : decode cX0_deedFact 1 = .ok ((.tableswitch 80 0 4 #[35, 44, 53, 62, 71]), 35) := by decide +kernel
theorem dX0_deedFact_36 : decode cX0_deedFact 36 = .ok ((.aload_n 0), 1) := by decide +kernel
theorem dX0_deedFact_37 : decode cX0_deedFact 37 = .ok ((.getfield 37), 3) := by decide +kernel
theorem dX0_deedFact_40 : decode cX0_deedFact 40 = .ok ((.iload_n 1), 1) := by decide +kernel
theorem dX0_deedFact_41 : decode cX0_deedFact 41 = .ok ((.invokestatic 104), 3) := by decide +kernel
theorem dX0_deedFact_44 : decode cX0_deedFact 44 = .ok (.ireturn, 1) := by decide +kernel
theorem dX0_deedFact_45 : decode cX0_deedFact 45 = .ok ((.aload_n 0), 1) := by decide +kernel
theorem dX0_deedFact_46 : decode cX0_deedFact 46 = .ok ((.getfield 40), 3) := by decide +kernel
theorem dX0_deedFact_49 : decode cX0_deedFact 49 = .ok ((.iload_n 1), 1) := by decide +kernel
theorem dX0_deedFact_50 : decode cX0_deedFact 50 = .ok ((.invokestatic 104), 3) := by decide +kernel
theorem dX0_deedFact_53 : decode cX0_deedFact 53 = .ok (.ireturn, 1) := by decide +kernel
theorem dX0_deedFact_54 : decode cX0_deedFact 54 = .ok ((.aload_n 0), 1) := by decide +kernel
theorem dX0_deedFact_55 : decode cX0_deedFact 55 = .ok ((.getfield 43), 3) := by decide +kernel
theorem dX0_deedFact_58 : decode cX0_deedFact 58 = .ok ((.iload_n 1), 1) := by decide +kernel
theorem dX0_deedFact_59 : decode cX0_deedFact 59 = .ok ((.invokestatic 104), 3) := by decide +kernel
theorem dX0_deedFact_62 : decode cX0_deedFact 62 = .ok (.ireturn, 1) := by decide +kernel
theorem dX0_deedFact_63 : decode cX0_deedFact 63 = .ok ((.aload_n 0), 1) := by decide +kernel
theorem dX0_deedFact_64 : decode cX0_deedFact 64 = .ok ((.getfield 46), 3) := by decide +kernel
theorem dX0_deedFact_67 : decode cX0_deedFact 67 = .ok ((.iload_n 1), 1) := by decide +kernel
theorem dX0_deedFact_68 : decode cX0_deedFact 68 = .ok ((.invokestatic 104), 3) := by decide +kernel
theorem dX0_deedFact_71 : decode cX0_deedFact 71 = .ok (.ireturn, 1) := by decide +kernel
theorem dX0_deedFact_72 : decode cX0_deedFact 72 = .ok ((.aload_n 0), 1) := by decide +kernel
theorem dX0_deedFact_73 : decode cX0_deedFact 73 = .ok ((.getfield 49), 3) := by decide +kernel
theorem dX0_deedFact_76 : decode cX0_deedFact 76 = .ok ((.iload_n 1), 1) := by decide +kernel
theorem dX0_deedFact_77 : decode cX0_deedFact 77 = .ok ((.invokestatic 104), 3) := by decide +kernel
theorem dX0_deedFact_80 : decode cX0_deedFact 80 = .ok (.ireturn, 1) := by decide +kernel
theorem dX0_deedFact_81 : decode cX0_deedFact 81 = .ok ((.aload_n 0), 1) := by decide +kernel
theorem dX0_deedFact_82 : decode cX0_deedFact 82 = .ok ((.getfield 52), 3) := by decide +kernel
theorem dX0_deedFact_85 : decode cX0_deedFact 85 = .ok ((.iload_n 1), 1) := by decide +kernel
theorem dX0_deedFact_86 : decode cX0_deedFact 86 = .ok ((.invokestatic 104), 3) := by decide +kernel
theorem dX0_deedFact_89 : decode cX0_deedFact 89 = .ok (.ireturn, 1) := by decide +kernel
def p_X0_deedFact (b : Nat)  (S : vSt) (a1 : Int32) (a2 : Int32) (post : Int32 → vSt → Prop) : Prop := ((a2 = 0 → p_X10_at (b + 9) 10 S a1 (fun r14 S13 => post r14 S13)) ∧ ((a2 = 1 → p_X10_at (b + 10) 10 S a1 (fun r16 S15 => post r16 S15)) ∧ ((a2 = 2 → p_X10_at (b + 11) 10 S a1 (fun r18 S17 => post r18 S17)) ∧ ((a2 = 3 → p_X10_at (b + 12) 10 S a1 (fun r20 S19 => post r20 S19)) ∧ ((a2 = 4 → p_X10_at (b + 13) 10 S a1 (fun r22 S21 => post r22 S21)) ∧ (a2 < 0 ∨ 4 < a2 → p_X10_at (b + 14) 10 S a1 (fun r24 S23 => post r24 S23)))))))
set_option maxHeartbeats 4000000 in
set_option maxRecDepth 100000 in
theorem c_X0_deedFact (l : Launch) (G : vG)  {b : Nat} (hb : v_isC b)  {S : vSt} (a1 : Int32) (a2 : Int32) (post : Int32 → vSt → Prop) (h : p_X0_deedFact b  S a1 a2 post) : Met l yX0_deedFact (v_ws yX0_deedFact cX0_deedFact 3 (some .int)) (v_rm 1 61) (v_Pc G [.ref (G.1 b), .int a1, .int a2] S) (v_Qi G post) 0 0 (v_A G) := by
  refine v_start (by decide +kernel) (Nat.le_of_ble_eq_true rfl) (fun X hl C D => ?_)
  subst hl
  have C : v_Cx X G cX0_deedFact RX0 3 (v_rm 1 61) := C
  show VJ X G S 0 [(0, .ref (G.1 b)), (1, .int a1), (2, .int a2)] []
  refine V_iload_n C 2 dX0_deedFact_0 rfl rfl ?_
  refine V_table (tgtd := 81) C dX0_deedFact_1 (by decide) (fun c => ?_) (fun k hk c => ?_)
  · have h := h.2.2.2.2.2 (v_iout 0 4 c (by decide) (by decide))
    refine V_aload_n C 0 dX0_deedFact_81 rfl rfl ?_
    refine V_gr C b (v_cb hb 0 (by decide)) (v_co0 hb) F_0_13 k_RX0_52 dX0_deedFact_82 ?_
    refine V_iload_n C 1 dX0_deedFact_85 rfl rfl ?_
    refine V_callSNi (As := [.ref (G.1 (b + 14)), .int a1]) (rest := []) C (c_X10_at (v_l X) G (v_cb hb 14 (by decide)) (v_ca14 hb) _ _ h) KV_X10_at (List.mem_of_getElem? (i := 4) rfl) rfl rfl rfl (Nat.le_of_ble_eq_true rfl) ⟨Nat.le_of_ble_eq_true rfl, Nat.le_of_ble_eq_true rfl⟩ dX0_deedFact_86 (fun r24 S23 h => ?_)
    exact V_iret C D dX0_deedFact_89 h
  · have hk : k < 5 := hk
    rcases (show k = 0 ∨ k = 1 ∨ k = 2 ∨ k = 3 ∨ k = 4 by omega) with rfl | rfl | rfl | rfl | rfl
    · refine ⟨36, by decide, ?_⟩
      have h := h.1 (v_ieq 0 c (by decide))
      refine V_aload_n C 0 dX0_deedFact_36 rfl rfl ?_
      refine V_gr C b (v_cb hb 0 (by decide)) (v_co0 hb) F_0_8 k_RX0_37 dX0_deedFact_37 ?_
      refine V_iload_n C 1 dX0_deedFact_40 rfl rfl ?_
      refine V_callSNi (As := [.ref (G.1 (b + 9)), .int a1]) (rest := []) C (c_X10_at (v_l X) G (v_cb hb 9 (by decide)) (v_ca9 hb) _ _ h) KV_X10_at (List.mem_of_getElem? (i := 4) rfl) rfl rfl rfl (Nat.le_of_ble_eq_true rfl) ⟨Nat.le_of_ble_eq_true rfl, Nat.le_of_ble_eq_true rfl⟩ dX0_deedFact_41 (fun r14 S13 h => ?_)
      exact V_iret C D dX0_deedFact_44 h
    · refine ⟨45, by decide, ?_⟩
      have h := h.2.1 (v_ieq 1 c (by decide))
      refine V_aload_n C 0 dX0_deedFact_45 rfl rfl ?_
      refine V_gr C b (v_cb hb 0 (by decide)) (v_co0 hb) F_0_9 k_RX0_40 dX0_deedFact_46 ?_
      refine V_iload_n C 1 dX0_deedFact_49 rfl rfl ?_
      refine V_callSNi (As := [.ref (G.1 (b + 10)), .int a1]) (rest := []) C (c_X10_at (v_l X) G (v_cb hb 10 (by decide)) (v_ca10 hb) _ _ h) KV_X10_at (List.mem_of_getElem? (i := 4) rfl) rfl rfl rfl (Nat.le_of_ble_eq_true rfl) ⟨Nat.le_of_ble_eq_true rfl, Nat.le_of_ble_eq_true rfl⟩ dX0_deedFact_50 (fun r16 S15 h => ?_)
      exact V_iret C D dX0_deedFact_53 h
    · refine ⟨54, by decide, ?_⟩
      have h := h.2.2.1 (v_ieq 2 c (by decide))
      refine V_aload_n C 0 dX0_deedFact_54 rfl rfl ?_
      refine V_gr C b (v_cb hb 0 (by decide)) (v_co0 hb) F_0_10 k_RX0_43 dX0_deedFact_55 ?_
      refine V_iload_n C 1 dX0_deedFact_58 rfl rfl ?_
      refine V_callSNi (As := [.ref (G.1 (b + 11)), .int a1]) (rest := []) C (c_X10_at (v_l X) G (v_cb hb 11 (by decide)) (v_ca11 hb) _ _ h) KV_X10_at (List.mem_of_getElem? (i := 4) rfl) rfl rfl rfl (Nat.le_of_ble_eq_true rfl) ⟨Nat.le_of_ble_eq_true rfl, Nat.le_of_ble_eq_true rfl⟩ dX0_deedFact_59 (fun r18 S17 h => ?_)
      exact V_iret C D dX0_deedFact_62 h
    · refine ⟨63, by decide, ?_⟩
      have h := h.2.2.2.1 (v_ieq 3 c (by decide))
      refine V_aload_n C 0 dX0_deedFact_63 rfl rfl ?_
      refine V_gr C b (v_cb hb 0 (by decide)) (v_co0 hb) F_0_11 k_RX0_46 dX0_deedFact_64 ?_
      refine V_iload_n C 1 dX0_deedFact_67 rfl rfl ?_
      refine V_callSNi (As := [.ref (G.1 (b + 12)), .int a1]) (rest := []) C (c_X10_at (v_l X) G (v_cb hb 12 (by decide)) (v_ca12 hb) _ _ h) KV_X10_at (List.mem_of_getElem? (i := 4) rfl) rfl rfl rfl (Nat.le_of_ble_eq_true rfl) ⟨Nat.le_of_ble_eq_true rfl, Nat.le_of_ble_eq_true rfl⟩ dX0_deedFact_68 (fun r20 S19 h => ?_)
      exact V_iret C D dX0_deedFact_71 h
    · refine ⟨72, by decide, ?_⟩
      have h := h.2.2.2.2.1 (v_ieq 4 c (by decide))
      refine V_aload_n C 0 dX0_deedFact_72 rfl rfl ?_
      refine V_gr C b (v_cb hb 0 (by decide)) (v_co0 hb) F_0_12 k_RX0_49 dX0_deedFact_73 ?_
      refine V_iload_n C 1 dX0_deedFact_76 rfl rfl ?_
      refine V_callSNi (As := [.ref (G.1 (b + 13)), .int a1]) (rest := []) C (c_X10_at (v_l X) G (v_cb hb 13 (by decide)) (v_ca13 hb) _ _ h) KV_X10_at (List.mem_of_getElem? (i := 4) rfl) rfl rfl rfl (Nat.le_of_ble_eq_true rfl) ⟨Nat.le_of_ble_eq_true rfl, Nat.le_of_ble_eq_true rfl⟩ dX0_deedFact_77 (fun r22 S21 h => ?_)
      exact V_iret C D dX0_deedFact_80 h
/-! HalfAccuser$Tape.blame(I)Z -/
theorem dX6_blame_0 : decode cX6_blame 0 = .ok ((.aload_n 0), 1) := by decide +kernel
theorem dX6_blame_1 : decode cX6_blame 1 = .ok ((.aload_n 0), 1) := by decide +kernel
theorem dX6_blame_2 : decode cX6_blame 2 = .ok ((.getfield 95), 3) := by decide +kernel
theorem dX6_blame_5 : decode cX6_blame 5 = .ok ((.iconst 1), 1) := by decide +kernel
theorem dX6_blame_6 : decode cX6_blame 6 = .ok ((.if_icmp .ne 7), 3) := by decide +kernel
theorem dX6_blame_9 : decode cX6_blame 9 = .ok ((.iconst 1), 1) := by decide +kernel
theorem dX6_blame_10 : decode cX6_blame 10 = .ok ((.goto 4), 3) := by decide +kernel
theorem dX6_blame_13 : decode cX6_blame 13 = .ok ((.iload_n 1), 1) := by decide +kernel
theorem dX6_blame_14 : decode cX6_blame 14 = .ok ((.putfield 102), 3) := by decide +kernel
theorem dX6_blame_17 : decode cX6_blame 17 = .ok ((.aload_n 0), 1) := by decide +kernel
theorem dX6_blame_18 : decode cX6_blame 18 = .ok ((.aload_n 0), 1) := by decide +kernel
theorem dX6_blame_19 : decode cX6_blame 19 = .ok ((.getfield 105), 3) := by decide +kernel
theorem dX6_blame_22 : decode cX6_blame 22 = .ok ((.putfield 108), 3) := by decide +kernel
theorem dX6_blame_25 : decode cX6_blame 25 = .ok ((.iconst 0), 1) := by decide +kernel
theorem dX6_blame_26 : decode cX6_blame 26 = .ok (.ireturn, 1) := by decide +kernel
def p_X6_blame_14  (a1 : Int32)   (post : Bool → vSt → Prop) (S : vSt) (s0 : Int32) : Prop := ∀ S3, S3 = v_si S 5 11 s0 → ∀ S4, S4 = v_si S3 5 12 (S3.1 5 8) → post false S4
def p_X6_blame   (S : vSt) (a1 : Int32) (post : Bool → vSt → Prop) : Prop := ((¬ (S.1 5 7) = 1 → p_X6_blame_14 a1 post S a1) ∧ ((S.1 5 7) = 1 → p_X6_blame_14 a1 post S 1))
set_option maxHeartbeats 4000000 in
set_option maxRecDepth 100000 in
theorem q_X6_blame_14 {X : vX} {G : vG}  {post : Bool → vSt → Prop} (C : v_Cx X G cX6_blame RX6 2 (v_rm 0 40)) (D : v_Rx X G (v_Qz G post) (some .boolean))  {a1 : Int32}   : ∀ (S : vSt) (s0 : Int32), p_X6_blame_14 a1 post S s0 → VJ X G S 14 [(0, .ref (G.1 5))] [.int s0, .ref (G.1 5)] := by
  intro S s0 h
  refine V_pi C 5 (by decide) (by decide) P_6_11 k_RX6_102 dX6_blame_14 ?_
  refine V_topS (fun S3 eS3 => ?_)
  have h := h S3 eS3
  refine V_aload_n C 0 dX6_blame_17 rfl rfl ?_
  refine V_aload_n C 0 dX6_blame_18 rfl rfl ?_
  refine V_gi C 5 (by decide) (by decide) F_6_8 k_RX6_105 dX6_blame_19 ?_
  refine V_pi C 5 (by decide) (by decide) P_6_12 k_RX6_108 dX6_blame_22 ?_
  refine V_topS (fun S4 eS4 => ?_)
  have h := h S4 eS4
  refine V_iconst (v := 0) C dX6_blame_25 (by decide) ?_
  exact V_zret0 C D dX6_blame_26 h
set_option maxHeartbeats 4000000 in
set_option maxRecDepth 100000 in
theorem c_X6_blame (l : Launch) (G : vG)    {S : vSt} (a1 : Int32) (post : Bool → vSt → Prop) (h : p_X6_blame   S a1 post) : Met l yX6_blame (v_ws yX6_blame cX6_blame 2 (some .boolean)) (v_rm 0 40) (v_Pc G [.ref (G.1 5), .int a1] S) (v_Qz G post) 0 0 (v_A G) := by
  refine v_start (by decide +kernel) (Nat.le_of_ble_eq_true rfl) (fun X hl C D => ?_)
  subst hl
  have C : v_Cx X G cX6_blame RX6 2 (v_rm 0 40) := C
  show VJ X G S 0 [(0, .ref (G.1 5)), (1, .int a1)] []
  refine V_aload_n C 0 dX6_blame_0 rfl rfl ?_
  refine V_aload_n C 0 dX6_blame_1 rfl rfl ?_
  refine V_gi C 5 (by decide) (by decide) F_6_7 k_RX6_95 dX6_blame_2 ?_
  refine V_iconst (v := 1) C dX6_blame_5 (by decide) ?_
  refine V_icmp_ne (tgt := 13) C dX6_blame_6 (by decide) (fun c => ?_) (fun c => ?_)
  · have h := h.1 c
    refine V_iload_n C 1 dX6_blame_13 rfl rfl ?_
    refine V_loc (lv' := [(0, .ref (G.1 5))]) [0] rfl ?_
    exact q_X6_blame_14 C D  _ _ h
  · have h := h.2 c
    refine V_iconst (v := 1) C dX6_blame_9 (by decide) ?_
    refine V_goto (tgt := 14) C dX6_blame_10 (by decide) ?_
    refine V_loc (lv' := [(0, .ref (G.1 5))]) [0] rfl ?_
    exact q_X6_blame_14 C D  _ _ h
/-! HalfAccuser$Tape.pass()V -/
theorem dX6_pass_0 : decode cX6_pass 0 = .ok ((.aload_n 0), 1) := by decide +kernel
theorem dX6_pass_1 : decode cX6_pass 1 = .ok ((.aload_n 0), 1) := by decide +kernel
theorem dX6_pass_2 : decode cX6_pass 2 = .ok ((.getfield 98), 3) := by decide +kernel
theorem dX6_pass_5 : decode cX6_pass 5 = .ok ((.putfield 111), 3) := by decide +kernel
theorem dX6_pass_8 : decode cX6_pass 8 = .ok ((.aload_n 0), 1) := by decide +kernel
theorem dX6_pass_9 : decode cX6_pass 9 = .ok (.dup, 1) := by decide +kernel
theorem dX6_pass_10 : decode cX6_pass 10 = .ok ((.getfield 59), 3) := by decide +kernel
theorem dX6_pass_13 : decode cX6_pass 13 = .ok ((.iconst 1), 1) := by decide +kernel
theorem dX6_pass_14 : decode cX6_pass 14 = .ok (.iadd, 1) := by decide +kernel
theorem dX6_pass_15 : decode cX6_pass 15 = .ok ((.putfield 59), 3) := by decide +kernel
theorem dX6_pass_18 : decode cX6_pass 18 = .ok ((.aload_n 0), 1) := by decide +kernel
theorem dX6_pass_19 : decode cX6_pass 19 = .ok ((.aload_n 0), 1) := by decide +kernel
theorem dX6_pass_20 : decode cX6_pass 20 = .ok ((.getfield 15), 3) := by decide +kernel
theorem dX6_pass_23 : decode cX6_pass 23 = .ok ((.aload_n 0), 1) := by decide +kernel
theorem dX6_pass_24 : decode cX6_pass 24 = .ok ((.getfield 59), 3) := by decide +kernel
theorem dX6_pass_27 : decode cX6_pass 27 = .ok ((.invokestatic 114), 3) := by decide +kernel
theorem dX6_pass_30 : decode cX6_pass 30 = .ok ((.putfield 95), 3) := by decide +kernel
theorem dX6_pass_33 : decode cX6_pass 33 = .ok ((.aload_n 0), 1) := by decide +kernel
theorem dX6_pass_34 : decode cX6_pass 34 = .ok ((.aload_n 0), 1) := by decide +kernel
theorem dX6_pass_35 : decode cX6_pass 35 = .ok ((.getfield 19), 3) := by decide +kernel
theorem dX6_pass_38 : decode cX6_pass 38 = .ok ((.aload_n 0), 1) := by decide +kernel
theorem dX6_pass_39 : decode cX6_pass 39 = .ok ((.getfield 59), 3) := by decide +kernel
theorem dX6_pass_42 : decode cX6_pass 42 = .ok ((.invokestatic 114), 3) := by decide +kernel
theorem dX6_pass_45 : decode cX6_pass 45 = .ok ((.putfield 105), 3) := by decide +kernel
theorem dX6_pass_48 : decode cX6_pass 48 = .ok ((.aload_n 0), 1) := by decide +kernel
theorem dX6_pass_49 : decode cX6_pass 49 = .ok ((.aload_n 0), 1) := by decide +kernel
theorem dX6_pass_50 : decode cX6_pass 50 = .ok ((.getfield 22), 3) := by decide +kernel
theorem dX6_pass_53 : decode cX6_pass 53 = .ok ((.aload_n 0), 1) := by decide +kernel
theorem dX6_pass_54 : decode cX6_pass 54 = .ok ((.getfield 59), 3) := by decide +kernel
theorem dX6_pass_57 : decode cX6_pass 57 = .ok ((.invokestatic 118), 3) := by decide +kernel
theorem dX6_pass_60 : decode cX6_pass 60 = .ok ((.putfield 98), 3) := by decide +kernel
theorem dX6_pass_63 : decode cX6_pass 63 = .ok (.return_, 1) := by decide +kernel
def p_X6_pass   (S : vSt)  (post : vSt → Prop) : Prop := ∀ S12, S12 = v_sl S 5 10 (S.2 5 9) → ∀ S13, S13 = v_si S12 5 6 ((S12.1 5 6) + 1) → p_X10_at 7 901 S13 (S13.1 5 6) (fun r15 S14 => ∀ S16, S16 = v_si S14 5 7 r15 → p_X10_at 8 901 S16 (S16.1 5 6) (fun r18 S17 => ∀ S19, S19 = v_si S17 5 8 r18 → p_X10_at_ 9 901 S19 (S19.1 5 6) (fun r21 S20 => ∀ S22, S22 = v_sl S20 5 9 r21 → post S22)))
set_option maxHeartbeats 4000000 in
set_option maxRecDepth 100000 in
theorem c_X6_pass (l : Launch) (G : vG)    {S : vSt}  (post : vSt → Prop) (h : p_X6_pass   S  post) : Met l yX6_pass (v_ws yX6_pass cX6_pass 1 none) (v_rm 1 61) (v_Pc G [.ref (G.1 5)] S) (v_Qv G post) 0 0 (v_A G) := by
  refine v_start (by decide +kernel) (Nat.le_of_ble_eq_true rfl) (fun X hl C D => ?_)
  subst hl
  have C : v_Cx X G cX6_pass RX6 1 (v_rm 1 61) := C
  show VJ X G S 0 [(0, .ref (G.1 5))] []
  refine V_aload_n C 0 dX6_pass_0 rfl rfl ?_
  refine V_aload_n C 0 dX6_pass_1 rfl rfl ?_
  refine V_gl C 5 (by decide) (by decide) F_6_9 k_RX6_98 dX6_pass_2 ?_
  refine V_pl C 5 (by decide) (by decide) P_6_10 k_RX6_111 dX6_pass_5 ?_
  refine V_topS (fun S12 eS12 => ?_)
  have h := h S12 eS12
  refine V_aload_n C 0 dX6_pass_8 rfl rfl ?_
  refine V_dup C dX6_pass_9 rfl ?_
  refine V_gi C 5 (by decide) (by decide) F_6_6 k_RX6_59 dX6_pass_10 ?_
  refine V_iconst (v := 1) C dX6_pass_13 (by decide) ?_
  refine V_iadd C dX6_pass_14 ?_
  refine V_pi C 5 (by decide) (by decide) P_6_6 k_RX6_59 dX6_pass_15 ?_
  refine V_topS (fun S13 eS13 => ?_)
  have h := h S13 eS13
  refine V_aload_n C 0 dX6_pass_18 rfl rfl ?_
  refine V_aload_n C 0 dX6_pass_19 rfl rfl ?_
  refine V_ga C 5 (by decide) (by decide) F_6_2 k_RX6_15 dX6_pass_20 ?_
  refine V_aload_n C 0 dX6_pass_23 rfl rfl ?_
  refine V_gi C 5 (by decide) (by decide) F_6_6 k_RX6_59 dX6_pass_24 ?_
  refine V_callSNi (As := [.ref (G.1 7), .int (S13.1 5 6)]) (rest := [.ref (G.1 5)]) C (c_X10_at (v_l X) G (by decide) (by decide) _ _ h) KV_X10_at (List.mem_of_getElem? (i := 26) rfl) rfl rfl rfl (Nat.le_of_ble_eq_true rfl) ⟨Nat.le_of_ble_eq_true rfl, Nat.le_of_ble_eq_true rfl⟩ dX6_pass_27 (fun r15 S14 h => ?_)
  refine V_pi C 5 (by decide) (by decide) P_6_7 k_RX6_95 dX6_pass_30 ?_
  refine V_topS (fun S16 eS16 => ?_)
  have h := h S16 eS16
  refine V_aload_n C 0 dX6_pass_33 rfl rfl ?_
  refine V_aload_n C 0 dX6_pass_34 rfl rfl ?_
  refine V_ga C 5 (by decide) (by decide) F_6_3 k_RX6_19 dX6_pass_35 ?_
  refine V_aload_n C 0 dX6_pass_38 rfl rfl ?_
  refine V_gi C 5 (by decide) (by decide) F_6_6 k_RX6_59 dX6_pass_39 ?_
  refine V_callSNi (As := [.ref (G.1 8), .int (S16.1 5 6)]) (rest := [.ref (G.1 5)]) C (c_X10_at (v_l X) G (by decide) (by decide) _ _ h) KV_X10_at (List.mem_of_getElem? (i := 26) rfl) rfl rfl rfl (Nat.le_of_ble_eq_true rfl) ⟨Nat.le_of_ble_eq_true rfl, Nat.le_of_ble_eq_true rfl⟩ dX6_pass_42 (fun r18 S17 h => ?_)
  refine V_pi C 5 (by decide) (by decide) P_6_8 k_RX6_105 dX6_pass_45 ?_
  refine V_topS (fun S19 eS19 => ?_)
  have h := h S19 eS19
  refine V_aload_n C 0 dX6_pass_48 rfl rfl ?_
  refine V_aload_n C 0 dX6_pass_49 rfl rfl ?_
  refine V_ga C 5 (by decide) (by decide) F_6_4 k_RX6_22 dX6_pass_50 ?_
  refine V_aload_n C 0 dX6_pass_53 rfl rfl ?_
  refine V_gi C 5 (by decide) (by decide) F_6_6 k_RX6_59 dX6_pass_54 ?_
  refine V_callSNl (As := [.ref (G.1 9), .int (S19.1 5 6)]) (rest := [.ref (G.1 5)]) C (c_X10_at_ (v_l X) G (by decide) (by decide) _ _ h) KV_X10_at_ (List.mem_of_getElem? (i := 27) rfl) rfl rfl rfl (Nat.le_of_ble_eq_true rfl) ⟨Nat.le_of_ble_eq_true rfl, Nat.le_of_ble_eq_true rfl⟩ dX6_pass_57 (fun r21 S20 h => ?_)
  refine V_pl C 5 (by decide) (by decide) P_6_9 k_RX6_98 dX6_pass_60 ?_
  refine V_topS (fun S22 eS22 => ?_)
  have h := h S22 eS22
  exact V_vret C D dX6_pass_63 h
/-! HalfAccuser$CityReader.takeNewName()Z -/
theorem dX1_takeNewName_0 : decode cX1_takeNewName 0 = .ok ((.aload_n 0), 1) := by decide +kernel
theorem dX1_takeNewName_1 : decode cX1_takeNewName 1 = .ok ((.getfield 9), 3) := by decide +kernel
theorem dX1_takeNewName_4 : decode cX1_takeNewName 4 = .ok ((.getfield 30), 3) := by decide +kernel
theorem dX1_takeNewName_7 : decode cX1_takeNewName 7 = .ok ((.iconst 3), 1) := by decide +kernel
theorem dX1_takeNewName_8 : decode cX1_takeNewName 8 = .ok ((.if_icmp .eq 12), 3) := by decide +kernel
theorem dX1_takeNewName_11 : decode cX1_takeNewName 11 = .ok ((.aload_n 0), 1) := by decide +kernel
theorem dX1_takeNewName_12 : decode cX1_takeNewName 12 = .ok ((.getfield 9), 3) := by decide +kernel
theorem dX1_takeNewName_15 : decode cX1_takeNewName 15 = .ok ((.iconst 2), 1) := by decide +kernel
theorem dX1_takeNewName_16 : decode cX1_takeNewName 16 = .ok ((.invokevirtual 48), 3) := by decide +kernel
theorem dX1_takeNewName_19 : decode cX1_takeNewName 19 = .ok (.ireturn, 1) := by decide +kernel
theorem dX1_takeNewName_20 : decode cX1_takeNewName 20 = .ok ((.aload_n 0), 1) := by decide +kernel
theorem dX1_takeNewName_21 : decode cX1_takeNewName 21 = .ok ((.getfield 15), 3) := by decide +kernel
theorem dX1_takeNewName_24 : decode cX1_takeNewName 24 = .ok ((.aload_n 0), 1) := by decide +kernel
theorem dX1_takeNewName_25 : decode cX1_takeNewName 25 = .ok ((.getfield 9), 3) := by decide +kernel
theorem dX1_takeNewName_28 : decode cX1_takeNewName 28 = .ok ((.getfield 118), 3) := by decide +kernel
theorem dX1_takeNewName_31 : decode cX1_takeNewName 31 = .ok ((.invokevirtual 121), 3) := by decide +kernel
theorem dX1_takeNewName_34 : decode cX1_takeNewName 34 = .ok ((.iconst (-1)), 1) := by decide +kernel
theorem dX1_takeNewName_35 : decode cX1_takeNewName 35 = .ok ((.if_icmp .ne 21), 3) := by decide +kernel
theorem dX1_takeNewName_38 : decode cX1_takeNewName 38 = .ok ((.aload_n 0), 1) := by decide +kernel
theorem dX1_takeNewName_39 : decode cX1_takeNewName 39 = .ok ((.getfield 15), 3) := by decide +kernel
theorem dX1_takeNewName_42 : decode cX1_takeNewName 42 = .ok ((.aload_n 0), 1) := by decide +kernel
theorem dX1_takeNewName_43 : decode cX1_takeNewName 43 = .ok ((.getfield 9), 3) := by decide +kernel
theorem dX1_takeNewName_46 : decode cX1_takeNewName 46 = .ok ((.getfield 118), 3) := by decide +kernel
theorem dX1_takeNewName_49 : decode cX1_takeNewName 49 = .ok ((.invokevirtual 128), 3) := by decide +kernel
theorem dX1_takeNewName_52 : decode cX1_takeNewName 52 = .ok ((.iconst (-1)), 1) := by decide +kernel
theorem dX1_takeNewName_53 : decode cX1_takeNewName 53 = .ok ((.if_icmp .eq 12), 3) := by decide +kernel
theorem dX1_takeNewName_56 : decode cX1_takeNewName 56 = .ok ((.aload_n 0), 1) := by decide +kernel
theorem dX1_takeNewName_57 : decode cX1_takeNewName 57 = .ok ((.getfield 9), 3) := by decide +kernel
theorem dX1_takeNewName_60 : decode cX1_takeNewName 60 = .ok ((.iconst 3), 1) := by decide +kernel
theorem dX1_takeNewName_61 : decode cX1_takeNewName 61 = .ok ((.invokevirtual 48), 3) := by decide +kernel
theorem dX1_takeNewName_64 : decode cX1_takeNewName 64 = .ok (.ireturn, 1) := by decide +kernel
theorem dX1_takeNewName_65 : decode cX1_takeNewName 65 = .ok ((.aload_n 0), 1) := by decide +kernel
theorem dX1_takeNewName_66 : decode cX1_takeNewName 66 = .ok ((.getfield 9), 3) := by decide +kernel
theorem dX1_takeNewName_69 : decode cX1_takeNewName 69 = .ok ((.invokevirtual 55), 3) := by decide +kernel
theorem dX1_takeNewName_72 : decode cX1_takeNewName 72 = .ok ((.iconst 1), 1) := by decide +kernel
theorem dX1_takeNewName_73 : decode cX1_takeNewName 73 = .ok (.ireturn, 1) := by decide +kernel
def p_X1_takeNewName_56     (post : Bool → vSt → Prop) (S : vSt)  : Prop := p_X6_blame  S 3 (fun r13 S12 => post r13 S12)
def p_X1_takeNewName   (S : vSt)  (post : Bool → vSt → Prop) : Prop := (((S.1 5 7) = 3 → p_X0_personBy 32 S (S.2 5 9) (fun r11 S10 => ((¬ r11 = (-1) → p_X1_takeNewName_56  post S10 ) ∧ (r11 = (-1) → p_X0_deedBy 32 S10 (S10.2 5 9) (fun r13 S12 => ((r13 = (-1) → p_X6_pass  S12  (fun S14 => post true S14)) ∧ (¬ r13 = (-1) → p_X1_takeNewName_56  post S12 ))))))) ∧ (¬ (S.1 5 7) = 3 → p_X6_blame  S 2 (fun r16 S15 => post r16 S15)))
set_option maxHeartbeats 4000000 in
set_option maxRecDepth 100000 in
theorem q_X1_takeNewName_56 {X : vX} {G : vG}  {post : Bool → vSt → Prop} (C : v_Cx X G cX1_takeNewName RX1 1 (v_rm 2 84)) (D : v_Rx X G (v_Qz G post) (some .boolean))     : ∀ (S : vSt), p_X1_takeNewName_56  post S  → VJ X G S 56 [(0, .ref (G.1 55))] [] := by
  intro S  h
  refine V_aload_n C 0 dX1_takeNewName_56 rfl rfl ?_
  refine V_ga C 55 (by decide) (by decide) F_1_0 k_RX1_9 dX1_takeNewName_57 ?_
  refine V_iconst (v := 3) C dX1_takeNewName_60 (by decide) ?_
  refine V_callVz (As := [.int 3]) (rest := []) C (c_X6_blame (v_l X) G  _ _ h) 5 6 (by decide) (by decide) (by decide) rfl KV_X6_blame k_RX1_48 rfl rfl rfl (Nat.le_of_ble_eq_true rfl) ⟨Nat.le_of_ble_eq_true rfl, Nat.le_of_ble_eq_true rfl⟩ dX1_takeNewName_61 (fun r13 S12 h => ?_)
  exact V_zret C D dX1_takeNewName_64 h
set_option maxHeartbeats 4000000 in
set_option maxRecDepth 100000 in
theorem c_X1_takeNewName (l : Launch) (G : vG)    {S : vSt}  (post : Bool → vSt → Prop) (h : p_X1_takeNewName   S  post) : Met l yX1_takeNewName (v_ws yX1_takeNewName cX1_takeNewName 1 (some .boolean)) (v_rm 2 84) (v_Pc G [.ref (G.1 55)] S) (v_Qz G post) 0 0 (v_A G) := by
  refine v_start (by decide +kernel) (Nat.le_of_ble_eq_true rfl) (fun X hl C D => ?_)
  subst hl
  have C : v_Cx X G cX1_takeNewName RX1 1 (v_rm 2 84) := C
  show VJ X G S 0 [(0, .ref (G.1 55))] []
  refine V_aload_n C 0 dX1_takeNewName_0 rfl rfl ?_
  refine V_ga C 55 (by decide) (by decide) F_1_0 k_RX1_9 dX1_takeNewName_1 ?_
  refine V_gi C 5 (by decide) (by decide) F_6_7 k_RX1_30 dX1_takeNewName_4 ?_
  refine V_iconst (v := 3) C dX1_takeNewName_7 (by decide) ?_
  refine V_icmp_eq (tgt := 20) C dX1_takeNewName_8 (by decide) (fun c => ?_) (fun c => ?_)
  · have h := h.1 c
    refine V_aload_n C 0 dX1_takeNewName_20 rfl rfl ?_
    refine V_ga C 55 (by decide) (by decide) F_1_1 k_RX1_15 dX1_takeNewName_21 ?_
    refine V_aload_n C 0 dX1_takeNewName_24 rfl rfl ?_
    refine V_ga C 55 (by decide) (by decide) F_1_0 k_RX1_9 dX1_takeNewName_25 ?_
    refine V_gl C 5 (by decide) (by decide) F_6_9 k_RX1_118 dX1_takeNewName_28 ?_
    refine V_callVi (As := [.long (S.2 5 9)]) (rest := []) C (c_X0_personBy (v_l X) G v_i32 _ _ h) 32 0 (by decide) (by decide) (by decide) rfl KV_X0_personBy k_RX1_121 rfl rfl rfl (Nat.le_of_ble_eq_true rfl) ⟨Nat.le_of_ble_eq_true rfl, Nat.le_of_ble_eq_true rfl⟩ dX1_takeNewName_31 (fun r11 S10 h => ?_)
    refine V_iconst (v := (-1)) C dX1_takeNewName_34 (by decide) ?_
    refine V_icmp_ne (tgt := 56) C dX1_takeNewName_35 (by decide) (fun c => ?_) (fun c => ?_)
    · have h := h.1 c
      exact q_X1_takeNewName_56 C D  _ h
    · have h := h.2 c
      refine V_aload_n C 0 dX1_takeNewName_38 rfl rfl ?_
      refine V_ga C 55 (by decide) (by decide) F_1_1 k_RX1_15 dX1_takeNewName_39 ?_
      refine V_aload_n C 0 dX1_takeNewName_42 rfl rfl ?_
      refine V_ga C 55 (by decide) (by decide) F_1_0 k_RX1_9 dX1_takeNewName_43 ?_
      refine V_gl C 5 (by decide) (by decide) F_6_9 k_RX1_118 dX1_takeNewName_46 ?_
      refine V_callVi (As := [.long (S10.2 5 9)]) (rest := []) C (c_X0_deedBy (v_l X) G v_i32 _ _ h) 32 0 (by decide) (by decide) (by decide) rfl KV_X0_deedBy k_RX1_128 rfl rfl rfl (Nat.le_of_ble_eq_true rfl) ⟨Nat.le_of_ble_eq_true rfl, Nat.le_of_ble_eq_true rfl⟩ dX1_takeNewName_49 (fun r13 S12 h => ?_)
      refine V_iconst (v := (-1)) C dX1_takeNewName_52 (by decide) ?_
      refine V_icmp_eq (tgt := 65) C dX1_takeNewName_53 (by decide) (fun c => ?_) (fun c => ?_)
      · have h := h.1 c
        refine V_aload_n C 0 dX1_takeNewName_65 rfl rfl ?_
        refine V_ga C 55 (by decide) (by decide) F_1_0 k_RX1_9 dX1_takeNewName_66 ?_
        refine V_callVv (As := []) (rest := []) C (c_X6_pass (v_l X) G  _ h) 5 6 (by decide) (by decide) (by decide) rfl KV_X6_pass k_RX1_55 rfl rfl rfl (Nat.le_of_ble_eq_true rfl) ⟨Nat.le_of_ble_eq_true rfl, Nat.le_of_ble_eq_true rfl⟩ dX1_takeNewName_69 (fun S14 h => ?_)
        refine V_iconst (v := 1) C dX1_takeNewName_72 (by decide) ?_
        exact V_zret1 C D dX1_takeNewName_73 h
      · have h := h.2 c
        exact q_X1_takeNewName_56 C D  _ h
  · have h := h.2 c
    refine V_aload_n C 0 dX1_takeNewName_11 rfl rfl ?_
    refine V_ga C 55 (by decide) (by decide) F_1_0 k_RX1_9 dX1_takeNewName_12 ?_
    refine V_iconst (v := 2) C dX1_takeNewName_15 (by decide) ?_
    refine V_callVz (As := [.int 2]) (rest := []) C (c_X6_blame (v_l X) G  _ _ h) 5 6 (by decide) (by decide) (by decide) rfl KV_X6_blame k_RX1_48 rfl rfl rfl (Nat.le_of_ble_eq_true rfl) ⟨Nat.le_of_ble_eq_true rfl, Nat.le_of_ble_eq_true rfl⟩ dX1_takeNewName_16 (fun r16 S15 h => ?_)
    exact V_zret C D dX1_takeNewName_19 h
/-! HalfAccuser$Tape.takeNumber(II)Z -/
theorem dX6_takeNumber_0 : decode cX6_takeNumber 0 = .ok ((.aload_n 0), 1) := by decide +kernel
theorem dX6_takeNumber_1 : decode cX6_takeNumber 1 = .ok ((.getfield 95), 3) := by decide +kernel
theorem dX6_takeNumber_4 : decode cX6_takeNumber 4 = .ok ((.iconst 5), 1) := by decide +kernel
theorem dX6_takeNumber_5 : decode cX6_takeNumber 5 = .ok ((.if_icmp .eq 9), 3) := by decide +kernel
theorem dX6_takeNumber_8 : decode cX6_takeNumber 8 = .ok ((.aload_n 0), 1) := by decide +kernel
theorem dX6_takeNumber_9 : decode cX6_takeNumber 9 = .ok ((.iconst 2), 1) := by decide +kernel
theorem dX6_takeNumber_10 : decode cX6_takeNumber 10 = .ok ((.invokevirtual 124), 3) := by decide +kernel
theorem dX6_takeNumber_13 : decode cX6_takeNumber 13 = .ok (.ireturn, 1) := by decide +kernel
theorem dX6_takeNumber_14 : decode cX6_takeNumber 14 = .ok ((.aload_n 0), 1) := by decide +kernel
theorem dX6_takeNumber_15 : decode cX6_takeNumber 15 = .ok ((.getfield 98), 3) := by decide +kernel
theorem dX6_takeNumber_18 : decode cX6_takeNumber 18 = .ok ((.iload_n 1), 1) := by decide +kernel
theorem dX6_takeNumber_19 : decode cX6_takeNumber 19 = .ok (.i2l, 1) := by decide +kernel
theorem dX6_takeNumber_20 : decode cX6_takeNumber 20 = .ok (.lcmp, 1) := by decide +kernel
theorem dX6_takeNumber_21 : decode cX6_takeNumber 21 = .ok ((.ifCond .lt 13), 3) := by decide +kernel
theorem dX6_takeNumber_24 : decode cX6_takeNumber 24 = .ok ((.aload_n 0), 1) := by decide +kernel
theorem dX6_takeNumber_25 : decode cX6_takeNumber 25 = .ok ((.getfield 98), 3) := by decide +kernel
theorem dX6_takeNumber_28 : decode cX6_takeNumber 28 = .ok ((.iload_n 2), 1) := by decide +kernel
theorem dX6_takeNumber_29 : decode cX6_takeNumber 29 = .ok (.i2l, 1) := by decide +kernel
theorem dX6_takeNumber_30 : decode cX6_takeNumber 30 = .ok (.lcmp, 1) := by decide +kernel
theorem dX6_takeNumber_31 : decode cX6_takeNumber 31 = .ok ((.ifCond .le 9), 3) := by decide +kernel
theorem dX6_takeNumber_34 : decode cX6_takeNumber 34 = .ok ((.aload_n 0), 1) := by decide +kernel
theorem dX6_takeNumber_35 : decode cX6_takeNumber 35 = .ok ((.iconst 4), 1) := by decide +kernel
theorem dX6_takeNumber_36 : decode cX6_takeNumber 36 = .ok ((.invokevirtual 124), 3) := by decide +kernel
theorem dX6_takeNumber_39 : decode cX6_takeNumber 39 = .ok (.ireturn, 1) := by decide +kernel
theorem dX6_takeNumber_40 : decode cX6_takeNumber 40 = .ok ((.aload_n 0), 1) := by decide +kernel
theorem dX6_takeNumber_41 : decode cX6_takeNumber 41 = .ok ((.invokevirtual 62), 3) := by decide +kernel
theorem dX6_takeNumber_44 : decode cX6_takeNumber 44 = .ok ((.iconst 1), 1) := by decide +kernel
theorem dX6_takeNumber_45 : decode cX6_takeNumber 45 = .ok (.ireturn, 1) := by decide +kernel
def p_X6_takeNumber_34  (a1 : Int32) (a2 : Int32)   (post : Bool → vSt → Prop) (S : vSt)  : Prop := p_X6_blame  S 4 (fun r7 S6 => post r7 S6)
def p_X6_takeNumber   (S : vSt) (a1 : Int32) (a2 : Int32) (post : Bool → vSt → Prop) : Prop := (((S.1 5 7) = 5 → (((S.2 5 9) < (Int32.toInt64 a1) → p_X6_takeNumber_34 a1 a2 post S ) ∧ (¬ (S.2 5 9) < (Int32.toInt64 a1) → (((S.2 5 9) ≤ (Int32.toInt64 a2) → p_X6_pass  S  (fun S6 => post true S6)) ∧ (¬ (S.2 5 9) ≤ (Int32.toInt64 a2) → p_X6_takeNumber_34 a1 a2 post S ))))) ∧ (¬ (S.1 5 7) = 5 → p_X6_blame  S 2 (fun r8 S7 => post r8 S7)))
set_option maxHeartbeats 4000000 in
set_option maxRecDepth 100000 in
theorem q_X6_takeNumber_34 {X : vX} {G : vG}  {post : Bool → vSt → Prop} (C : v_Cx X G cX6_takeNumber RX6 3 (v_rm 2 81)) (D : v_Rx X G (v_Qz G post) (some .boolean))  {a1 : Int32} {a2 : Int32}   : ∀ (S : vSt), p_X6_takeNumber_34 a1 a2 post S  → VJ X G S 34 [(0, .ref (G.1 5))] [] := by
  intro S  h
  refine V_aload_n C 0 dX6_takeNumber_34 rfl rfl ?_
  refine V_iconst (v := 4) C dX6_takeNumber_35 (by decide) ?_
  refine V_callVz (As := [.int 4]) (rest := []) C (c_X6_blame (v_l X) G  _ _ h) 5 6 (by decide) (by decide) (by decide) rfl KV_X6_blame k_RX6_124 rfl rfl rfl (Nat.le_of_ble_eq_true rfl) ⟨Nat.le_of_ble_eq_true rfl, Nat.le_of_ble_eq_true rfl⟩ dX6_takeNumber_36 (fun r7 S6 h => ?_)
  exact V_zret C D dX6_takeNumber_39 h
set_option maxHeartbeats 4000000 in
set_option maxRecDepth 100000 in
theorem c_X6_takeNumber (l : Launch) (G : vG)    {S : vSt} (a1 : Int32) (a2 : Int32) (post : Bool → vSt → Prop) (h : p_X6_takeNumber   S a1 a2 post) : Met l yX6_takeNumber (v_ws yX6_takeNumber cX6_takeNumber 3 (some .boolean)) (v_rm 2 81) (v_Pc G [.ref (G.1 5), .int a1, .int a2] S) (v_Qz G post) 0 0 (v_A G) := by
  refine v_start (by decide +kernel) (Nat.le_of_ble_eq_true rfl) (fun X hl C D => ?_)
  subst hl
  have C : v_Cx X G cX6_takeNumber RX6 3 (v_rm 2 81) := C
  show VJ X G S 0 [(0, .ref (G.1 5)), (1, .int a1), (2, .int a2)] []
  refine V_aload_n C 0 dX6_takeNumber_0 rfl rfl ?_
  refine V_gi C 5 (by decide) (by decide) F_6_7 k_RX6_95 dX6_takeNumber_1 ?_
  refine V_iconst (v := 5) C dX6_takeNumber_4 (by decide) ?_
  refine V_icmp_eq (tgt := 14) C dX6_takeNumber_5 (by decide) (fun c => ?_) (fun c => ?_)
  · have h := h.1 c
    refine V_aload_n C 0 dX6_takeNumber_14 rfl rfl ?_
    refine V_gl C 5 (by decide) (by decide) F_6_9 k_RX6_98 dX6_takeNumber_15 ?_
    refine V_iload_n C 1 dX6_takeNumber_18 rfl rfl ?_
    refine V_i2l C dX6_takeNumber_19 ?_
    refine V_lcmp_lt (tgt := 34) C dX6_takeNumber_20 dX6_takeNumber_21 (by decide) (fun c => ?_) (fun c => ?_)
    · have h := h.1 c
      refine V_loc (lv' := [(0, .ref (G.1 5))]) [0] rfl ?_
      exact q_X6_takeNumber_34 C D  _ h
    · have h := h.2 c
      refine V_aload_n C 0 dX6_takeNumber_24 rfl rfl ?_
      refine V_gl C 5 (by decide) (by decide) F_6_9 k_RX6_98 dX6_takeNumber_25 ?_
      refine V_iload_n C 2 dX6_takeNumber_28 rfl rfl ?_
      refine V_i2l C dX6_takeNumber_29 ?_
      refine V_lcmp_le (tgt := 40) C dX6_takeNumber_30 dX6_takeNumber_31 (by decide) (fun c => ?_) (fun c => ?_)
      · have h := h.1 c
        refine V_aload_n C 0 dX6_takeNumber_40 rfl rfl ?_
        refine V_callVv (As := []) (rest := []) C (c_X6_pass (v_l X) G  _ h) 5 6 (by decide) (by decide) (by decide) rfl KV_X6_pass k_RX6_62 rfl rfl rfl (Nat.le_of_ble_eq_true rfl) ⟨Nat.le_of_ble_eq_true rfl, Nat.le_of_ble_eq_true rfl⟩ dX6_takeNumber_41 (fun S6 h => ?_)
        refine V_iconst (v := 1) C dX6_takeNumber_44 (by decide) ?_
        exact V_zret1 C D dX6_takeNumber_45 h
      · have h := h.2 c
        refine V_loc (lv' := [(0, .ref (G.1 5))]) [0] rfl ?_
        exact q_X6_takeNumber_34 C D  _ h
  · have h := h.2 c
    refine V_aload_n C 0 dX6_takeNumber_8 rfl rfl ?_
    refine V_iconst (v := 2) C dX6_takeNumber_9 (by decide) ?_
    refine V_callVz (As := [.int 2]) (rest := []) C (c_X6_blame (v_l X) G  _ _ h) 5 6 (by decide) (by decide) (by decide) rfl KV_X6_blame k_RX6_124 rfl rfl rfl (Nat.le_of_ble_eq_true rfl) ⟨Nat.le_of_ble_eq_true rfl, Nat.le_of_ble_eq_true rfl⟩ dX6_takeNumber_10 (fun r8 S7 h => ?_)
    exact V_zret C D dX6_takeNumber_13 h
/-! HalfAccuser$Tape.isWord(I)Z -/
theorem dX6_isWord_0 : decode cX6_isWord 0 = .ok ((.aload_n 0), 1) := by decide +kernel
theorem dX6_isWord_1 : decode cX6_isWord 1 = .ok ((.getfield 95), 3) := by decide +kernel
theorem dX6_isWord_4 : decode cX6_isWord 4 = .ok ((.iconst 2), 1) := by decide +kernel
theorem dX6_isWord_5 : decode cX6_isWord 5 = .ok ((.if_icmp .ne 17), 3) := by decide +kernel
theorem dX6_isWord_8 : decode cX6_isWord 8 = .ok ((.aload_n 0), 1) := by decide +kernel
theorem dX6_isWord_9 : decode cX6_isWord 9 = .ok ((.getfield 98), 3) := by decide +kernel
theorem dX6_isWord_12 : decode cX6_isWord 12 = .ok ((.iload_n 1), 1) := by decide +kernel
theorem dX6_isWord_13 : decode cX6_isWord 13 = .ok (.i2l, 1) := by decide +kernel
theorem dX6_isWord_14 : decode cX6_isWord 14 = .ok (.lcmp, 1) := by decide +kernel
theorem dX6_isWord_15 : decode cX6_isWord 15 = .ok ((.ifCond .ne 7), 3) := by decide +kernel
theorem dX6_isWord_18 : decode cX6_isWord 18 = .ok ((.iconst 1), 1) := by decide +kernel
theorem dX6_isWord_19 : decode cX6_isWord 19 = .ok ((.goto 4), 3) := by decide +kernel
theorem dX6_isWord_22 : decode cX6_isWord 22 = .ok ((.iconst 0), 1) := by decide +kernel
theorem dX6_isWord_23 : decode cX6_isWord 23 = .ok (.ireturn, 1) := by decide +kernel
def p_X6_isWord   (S : vSt) (a1 : Int32) (post : Bool → vSt → Prop) : Prop := ((¬ (S.1 5 7) = 2 → post false S) ∧ ((S.1 5 7) = 2 → ((¬ (S.2 5 9) = (Int32.toInt64 a1) → post false S) ∧ ((S.2 5 9) = (Int32.toInt64 a1) → post true S))))
set_option maxHeartbeats 4000000 in
set_option maxRecDepth 100000 in
theorem c_X6_isWord (l : Launch) (G : vG)    {S : vSt} (a1 : Int32) (post : Bool → vSt → Prop) (h : p_X6_isWord   S a1 post) : Met l yX6_isWord (v_ws yX6_isWord cX6_isWord 2 (some .boolean)) (v_rm 0 40) (v_Pc G [.ref (G.1 5), .int a1] S) (v_Qz G post) 0 0 (v_A G) := by
  refine v_start (by decide +kernel) (Nat.le_of_ble_eq_true rfl) (fun X hl C D => ?_)
  subst hl
  have C : v_Cx X G cX6_isWord RX6 2 (v_rm 0 40) := C
  show VJ X G S 0 [(0, .ref (G.1 5)), (1, .int a1)] []
  refine V_aload_n C 0 dX6_isWord_0 rfl rfl ?_
  refine V_gi C 5 (by decide) (by decide) F_6_7 k_RX6_95 dX6_isWord_1 ?_
  refine V_iconst (v := 2) C dX6_isWord_4 (by decide) ?_
  refine V_icmp_ne (tgt := 22) C dX6_isWord_5 (by decide) (fun c => ?_) (fun c => ?_)
  · have h := h.1 c
    refine V_iconst (v := 0) C dX6_isWord_22 (by decide) ?_
    exact V_zret0 C D dX6_isWord_23 h
  · have h := h.2 c
    refine V_aload_n C 0 dX6_isWord_8 rfl rfl ?_
    refine V_gl C 5 (by decide) (by decide) F_6_9 k_RX6_98 dX6_isWord_9 ?_
    refine V_iload_n C 1 dX6_isWord_12 rfl rfl ?_
    refine V_i2l C dX6_isWord_13 ?_
    refine V_lcmp_ne (tgt := 22) C dX6_isWord_14 dX6_isWord_15 (by decide) (fun c => ?_) (fun c => ?_)
    · have h := h.1 c
      refine V_iconst (v := 0) C dX6_isWord_22 (by decide) ?_
      exact V_zret0 C D dX6_isWord_23 h
    · have h := h.2 c
      refine V_iconst (v := 1) C dX6_isWord_18 (by decide) ?_
      refine V_goto (tgt := 23) C dX6_isWord_19 (by decide) ?_
      exact V_zret1 C D dX6_isWord_23 h
/-! HalfAccuser$Tape.takeWord(I)Z -/
theorem dX6_takeWord_0 : decode cX6_takeWord 0 = .ok ((.aload_n 0), 1) := by decide +kernel
theorem dX6_takeWord_1 : decode cX6_takeWord 1 = .ok ((.iload_n 1), 1) := by decide +kernel
theorem dX6_takeWord_2 : decode cX6_takeWord 2 = .ok ((.invokevirtual 121), 3) := by decide +kernel
theorem dX6_takeWord_5 : decode cX6_takeWord 5 = .ok ((.ifCond .ne 9), 3) := by decide +kernel
theorem dX6_takeWord_8 : decode cX6_takeWord 8 = .ok ((.aload_n 0), 1) := by decide +kernel
theorem dX6_takeWord_9 : decode cX6_takeWord 9 = .ok ((.iconst 2), 1) := by decide +kernel
theorem dX6_takeWord_10 : decode cX6_takeWord 10 = .ok ((.invokevirtual 124), 3) := by decide +kernel
theorem dX6_takeWord_13 : decode cX6_takeWord 13 = .ok (.ireturn, 1) := by decide +kernel
theorem dX6_takeWord_14 : decode cX6_takeWord 14 = .ok ((.aload_n 0), 1) := by decide +kernel
theorem dX6_takeWord_15 : decode cX6_takeWord 15 = .ok ((.invokevirtual 62), 3) := by decide +kernel
theorem dX6_takeWord_18 : decode cX6_takeWord 18 = .ok ((.iconst 1), 1) := by decide +kernel
theorem dX6_takeWord_19 : decode cX6_takeWord 19 = .ok (.ireturn, 1) := by decide +kernel
def p_X6_takeWord   (S : vSt) (a1 : Int32) (post : Bool → vSt → Prop) : Prop := p_X6_isWord  S a1 (fun r7 S6 => ((r7 = true → p_X6_pass  S6  (fun S8 => post true S8)) ∧ (r7 = false → p_X6_blame  S6 2 (fun r10 S9 => post r10 S9))))
set_option maxHeartbeats 4000000 in
set_option maxRecDepth 100000 in
theorem c_X6_takeWord (l : Launch) (G : vG)    {S : vSt} (a1 : Int32) (post : Bool → vSt → Prop) (h : p_X6_takeWord   S a1 post) : Met l yX6_takeWord (v_ws yX6_takeWord cX6_takeWord 2 (some .boolean)) (v_rm 2 81) (v_Pc G [.ref (G.1 5), .int a1] S) (v_Qz G post) 0 0 (v_A G) := by
  refine v_start (by decide +kernel) (Nat.le_of_ble_eq_true rfl) (fun X hl C D => ?_)
  subst hl
  have C : v_Cx X G cX6_takeWord RX6 2 (v_rm 2 81) := C
  show VJ X G S 0 [(0, .ref (G.1 5)), (1, .int a1)] []
  refine V_aload_n C 0 dX6_takeWord_0 rfl rfl ?_
  refine V_iload_n C 1 dX6_takeWord_1 rfl rfl ?_
  refine V_callVz (As := [.int a1]) (rest := []) C (c_X6_isWord (v_l X) G  _ _ h) 5 6 (by decide) (by decide) (by decide) rfl KV_X6_isWord k_RX6_121 rfl rfl rfl (Nat.le_of_ble_eq_true rfl) ⟨Nat.le_of_ble_eq_true rfl, Nat.le_of_ble_eq_true rfl⟩ dX6_takeWord_2 (fun r7 S6 h => ?_)
  refine V_ifb_ne (tgt := 14) C dX6_takeWord_5 (by decide) (fun c => ?_) (fun c => ?_)
  · have h := h.1 c
    refine V_aload_n C 0 dX6_takeWord_14 rfl rfl ?_
    refine V_callVv (As := []) (rest := []) C (c_X6_pass (v_l X) G  _ h) 5 6 (by decide) (by decide) (by decide) rfl KV_X6_pass k_RX6_62 rfl rfl rfl (Nat.le_of_ble_eq_true rfl) ⟨Nat.le_of_ble_eq_true rfl, Nat.le_of_ble_eq_true rfl⟩ dX6_takeWord_15 (fun S8 h => ?_)
    refine V_iconst (v := 1) C dX6_takeWord_18 (by decide) ?_
    exact V_zret1 C D dX6_takeWord_19 h
  · have h := h.2 c
    refine V_aload_n C 0 dX6_takeWord_8 rfl rfl ?_
    refine V_iconst (v := 2) C dX6_takeWord_9 (by decide) ?_
    refine V_callVz (As := [.int 2]) (rest := []) C (c_X6_blame (v_l X) G  _ _ h) 5 6 (by decide) (by decide) (by decide) rfl KV_X6_blame k_RX6_124 rfl rfl rfl (Nat.le_of_ble_eq_true rfl) ⟨Nat.le_of_ble_eq_true rfl, Nat.le_of_ble_eq_true rfl⟩ dX6_takeWord_10 (fun r10 S9 h => ?_)
    exact V_zret C D dX6_takeWord_13 h
/-! HalfAccuser$CityReader.takeWordAndNumber(III)Z -/
theorem dX1_takeWordAndNumber_0 : decode cX1_takeWordAndNumber 0 = .ok ((.aload_n 0), 1) := by decide +kernel
theorem dX1_takeWordAndNumber_1 : decode cX1_takeWordAndNumber 1 = .ok ((.getfield 9), 3) := by decide +kernel
theorem dX1_takeWordAndNumber_4 : decode cX1_takeWordAndNumber 4 = .ok ((.iload_n 1), 1) := by decide +kernel
theorem dX1_takeWordAndNumber_5 : decode cX1_takeWordAndNumber 5 = .ok ((.invokevirtual 115), 3) := by decide +kernel
theorem dX1_takeWordAndNumber_8 : decode cX1_takeWordAndNumber 8 = .ok ((.ifCond .eq 19), 3) := by decide +kernel
theorem dX1_takeWordAndNumber_11 : decode cX1_takeWordAndNumber 11 = .ok ((.aload_n 0), 1) := by decide +kernel
theorem dX1_takeWordAndNumber_12 : decode cX1_takeWordAndNumber 12 = .ok ((.getfield 9), 3) := by decide +kernel
theorem dX1_takeWordAndNumber_15 : decode cX1_takeWordAndNumber 15 = .ok ((.iload_n 2), 1) := by decide +kernel
theorem dX1_takeWordAndNumber_16 : decode cX1_takeWordAndNumber 16 = .ok ((.iload_n 3), 1) := by decide +kernel
theorem dX1_takeWordAndNumber_17 : decode cX1_takeWordAndNumber 17 = .ok ((.invokevirtual 69), 3) := by decide +kernel
theorem dX1_takeWordAndNumber_20 : decode cX1_takeWordAndNumber 20 = .ok ((.ifCond .eq 7), 3) := by decide +kernel
theorem dX1_takeWordAndNumber_23 : decode cX1_takeWordAndNumber 23 = .ok ((.iconst 1), 1) := by decide +kernel
theorem dX1_takeWordAndNumber_24 : decode cX1_takeWordAndNumber 24 = .ok ((.goto 4), 3) := by decide +kernel
theorem dX1_takeWordAndNumber_27 : decode cX1_takeWordAndNumber 27 = .ok ((.iconst 0), 1) := by decide +kernel
theorem dX1_takeWordAndNumber_28 : decode cX1_takeWordAndNumber 28 = .ok (.ireturn, 1) := by decide +kernel
def p_X1_takeWordAndNumber   (S : vSt) (a1 : Int32) (a2 : Int32) (a3 : Int32) (post : Bool → vSt → Prop) : Prop := p_X6_takeWord  S a1 (fun r6 S5 => ((r6 = false → post false S5) ∧ (r6 = true → p_X6_takeNumber  S5 a2 a3 (fun r8 S7 => ((r8 = false → post false S7) ∧ (r8 = true → post true S7))))))
set_option maxHeartbeats 4000000 in
set_option maxRecDepth 100000 in
theorem c_X1_takeWordAndNumber (l : Launch) (G : vG)    {S : vSt} (a1 : Int32) (a2 : Int32) (a3 : Int32) (post : Bool → vSt → Prop) (h : p_X1_takeWordAndNumber   S a1 a2 a3 post) : Met l yX1_takeWordAndNumber (v_ws yX1_takeWordAndNumber cX1_takeWordAndNumber 4 (some .boolean)) (v_rm 3 103) (v_Pc G [.ref (G.1 55), .int a1, .int a2, .int a3] S) (v_Qz G post) 0 0 (v_A G) := by
  refine v_start (by decide +kernel) (Nat.le_of_ble_eq_true rfl) (fun X hl C D => ?_)
  subst hl
  have C : v_Cx X G cX1_takeWordAndNumber RX1 4 (v_rm 3 103) := C
  show VJ X G S 0 [(0, .ref (G.1 55)), (1, .int a1), (2, .int a2), (3, .int a3)] []
  refine V_aload_n C 0 dX1_takeWordAndNumber_0 rfl rfl ?_
  refine V_ga C 55 (by decide) (by decide) F_1_0 k_RX1_9 dX1_takeWordAndNumber_1 ?_
  refine V_iload_n C 1 dX1_takeWordAndNumber_4 rfl rfl ?_
  refine V_callVz (As := [.int a1]) (rest := []) C (c_X6_takeWord (v_l X) G  _ _ h) 5 6 (by decide) (by decide) (by decide) rfl KV_X6_takeWord k_RX1_115 rfl rfl rfl (Nat.le_of_ble_eq_true rfl) ⟨Nat.le_of_ble_eq_true rfl, Nat.le_of_ble_eq_true rfl⟩ dX1_takeWordAndNumber_5 (fun r6 S5 h => ?_)
  refine V_ifb_eq (tgt := 27) C dX1_takeWordAndNumber_8 (by decide) (fun c => ?_) (fun c => ?_)
  · have h := h.1 c
    refine V_iconst (v := 0) C dX1_takeWordAndNumber_27 (by decide) ?_
    exact V_zret0 C D dX1_takeWordAndNumber_28 h
  · have h := h.2 c
    refine V_aload_n C 0 dX1_takeWordAndNumber_11 rfl rfl ?_
    refine V_ga C 55 (by decide) (by decide) F_1_0 k_RX1_9 dX1_takeWordAndNumber_12 ?_
    refine V_iload_n C 2 dX1_takeWordAndNumber_15 rfl rfl ?_
    refine V_iload_n C 3 dX1_takeWordAndNumber_16 rfl rfl ?_
    refine V_callVz (As := [.int a2, .int a3]) (rest := []) C (c_X6_takeNumber (v_l X) G  _ _ _ h) 5 6 (by decide) (by decide) (by decide) rfl KV_X6_takeNumber k_RX1_69 rfl rfl rfl (Nat.le_of_ble_eq_true rfl) ⟨Nat.le_of_ble_eq_true rfl, Nat.le_of_ble_eq_true rfl⟩ dX1_takeWordAndNumber_17 (fun r8 S7 h => ?_)
    refine V_ifb_eq (tgt := 27) C dX1_takeWordAndNumber_20 (by decide) (fun c => ?_) (fun c => ?_)
    · have h := h.1 c
      refine V_iconst (v := 0) C dX1_takeWordAndNumber_27 (by decide) ?_
      exact V_zret0 C D dX1_takeWordAndNumber_28 h
    · have h := h.2 c
      refine V_iconst (v := 1) C dX1_takeWordAndNumber_23 (by decide) ?_
      refine V_goto (tgt := 28) C dX1_takeWordAndNumber_24 (by decide) ?_
      exact V_zret1 C D dX1_takeWordAndNumber_28 h
/-! HalfAccuser$Tape.number()I -/
theorem dX6_number_0 : decode cX6_number 0 = .ok ((.aload_n 0), 1) := by decide +kernel
theorem dX6_number_1 : decode cX6_number 1 = .ok ((.getfield 111), 3) := by decide +kernel
theorem dX6_number_4 : decode cX6_number 4 = .ok (.l2i, 1) := by decide +kernel
theorem dX6_number_5 : decode cX6_number 5 = .ok (.ireturn, 1) := by decide +kernel
def p_X6_number   (S : vSt)  (post : Int32 → vSt → Prop) : Prop := post (Int64.toInt32 (S.2 5 10)) S
set_option maxHeartbeats 4000000 in
set_option maxRecDepth 100000 in
theorem c_X6_number (l : Launch) (G : vG)    {S : vSt}  (post : Int32 → vSt → Prop) (h : p_X6_number   S  post) : Met l yX6_number (v_ws yX6_number cX6_number 1 (some .int)) (v_rm 0 40) (v_Pc G [.ref (G.1 5)] S) (v_Qi G post) 0 0 (v_A G) := by
  refine v_start (by decide +kernel) (Nat.le_of_ble_eq_true rfl) (fun X hl C D => ?_)
  subst hl
  have C : v_Cx X G cX6_number RX6 1 (v_rm 0 40) := C
  show VJ X G S 0 [(0, .ref (G.1 5))] []
  refine V_aload_n C 0 dX6_number_0 rfl rfl ?_
  refine V_gl C 5 (by decide) (by decide) F_6_10 k_RX6_111 dX6_number_1 ?_
  refine V_l2i C dX6_number_4 ?_
  exact V_iret C D dX6_number_5 h
/-! HalfAccuser$Tape.takeSemicolon()Z -/
theorem dX6_takeSemicolon_0 : decode cX6_takeSemicolon 0 = .ok ((.aload_n 0), 1) := by decide +kernel
theorem dX6_takeSemicolon_1 : decode cX6_takeSemicolon 1 = .ok ((.getfield 95), 3) := by decide +kernel
theorem dX6_takeSemicolon_4 : decode cX6_takeSemicolon 4 = .ok ((.bipush 6), 2) := by decide +kernel
theorem dX6_takeSemicolon_6 : decode cX6_takeSemicolon 6 = .ok ((.if_icmp .ne 14), 3) := by decide +kernel
theorem dX6_takeSemicolon_9 : decode cX6_takeSemicolon 9 = .ok ((.aload_n 0), 1) := by decide +kernel
theorem dX6_takeSemicolon_10 : decode cX6_takeSemicolon 10 = .ok ((.getfield 98), 3) := by decide +kernel
theorem dX6_takeSemicolon_13 : decode cX6_takeSemicolon 13 = .ok ((.ldc2_w 127), 3) := by decide +kernel
theorem dX6_takeSemicolon_16 : decode cX6_takeSemicolon 16 = .ok (.lcmp, 1) := by decide +kernel
theorem dX6_takeSemicolon_17 : decode cX6_takeSemicolon 17 = .ok ((.ifCond .eq 9), 3) := by decide +kernel
theorem dX6_takeSemicolon_20 : decode cX6_takeSemicolon 20 = .ok ((.aload_n 0), 1) := by decide +kernel
theorem dX6_takeSemicolon_21 : decode cX6_takeSemicolon 21 = .ok ((.iconst 2), 1) := by decide +kernel
theorem dX6_takeSemicolon_22 : decode cX6_takeSemicolon 22 = .ok ((.invokevirtual 124), 3) := by decide +kernel
theorem dX6_takeSemicolon_25 : decode cX6_takeSemicolon 25 = .ok (.ireturn, 1) := by decide +kernel
theorem dX6_takeSemicolon_26 : decode cX6_takeSemicolon 26 = .ok ((.aload_n 0), 1) := by decide +kernel
theorem dX6_takeSemicolon_27 : decode cX6_takeSemicolon 27 = .ok ((.invokevirtual 62), 3) := by decide +kernel
theorem dX6_takeSemicolon_30 : decode cX6_takeSemicolon 30 = .ok ((.iconst 1), 1) := by decide +kernel
theorem dX6_takeSemicolon_31 : decode cX6_takeSemicolon 31 = .ok (.ireturn, 1) := by decide +kernel
def p_X6_takeSemicolon_20     (post : Bool → vSt → Prop) (S : vSt)  : Prop := p_X6_blame  S 2 (fun r5 S4 => post r5 S4)
def p_X6_takeSemicolon   (S : vSt)  (post : Bool → vSt → Prop) : Prop := ((¬ (S.1 5 7) = 6 → p_X6_takeSemicolon_20  post S ) ∧ ((S.1 5 7) = 6 → (((S.2 5 9) = 59 → p_X6_pass  S  (fun S4 => post true S4)) ∧ (¬ (S.2 5 9) = 59 → p_X6_takeSemicolon_20  post S ))))
set_option maxHeartbeats 4000000 in
set_option maxRecDepth 100000 in
theorem q_X6_takeSemicolon_20 {X : vX} {G : vG}  {post : Bool → vSt → Prop} (C : v_Cx X G cX6_takeSemicolon RX6 1 (v_rm 2 81)) (D : v_Rx X G (v_Qz G post) (some .boolean))     : ∀ (S : vSt), p_X6_takeSemicolon_20  post S  → VJ X G S 20 [(0, .ref (G.1 5))] [] := by
  intro S  h
  refine V_aload_n C 0 dX6_takeSemicolon_20 rfl rfl ?_
  refine V_iconst (v := 2) C dX6_takeSemicolon_21 (by decide) ?_
  refine V_callVz (As := [.int 2]) (rest := []) C (c_X6_blame (v_l X) G  _ _ h) 5 6 (by decide) (by decide) (by decide) rfl KV_X6_blame k_RX6_124 rfl rfl rfl (Nat.le_of_ble_eq_true rfl) ⟨Nat.le_of_ble_eq_true rfl, Nat.le_of_ble_eq_true rfl⟩ dX6_takeSemicolon_22 (fun r5 S4 h => ?_)
  exact V_zret C D dX6_takeSemicolon_25 h
set_option maxHeartbeats 4000000 in
set_option maxRecDepth 100000 in
theorem c_X6_takeSemicolon (l : Launch) (G : vG)    {S : vSt}  (post : Bool → vSt → Prop) (h : p_X6_takeSemicolon   S  post) : Met l yX6_takeSemicolon (v_ws yX6_takeSemicolon cX6_takeSemicolon 1 (some .boolean)) (v_rm 2 81) (v_Pc G [.ref (G.1 5)] S) (v_Qz G post) 0 0 (v_A G) := by
  refine v_start (by decide +kernel) (Nat.le_of_ble_eq_true rfl) (fun X hl C D => ?_)
  subst hl
  have C : v_Cx X G cX6_takeSemicolon RX6 1 (v_rm 2 81) := C
  show VJ X G S 0 [(0, .ref (G.1 5))] []
  refine V_aload_n C 0 dX6_takeSemicolon_0 rfl rfl ?_
  refine V_gi C 5 (by decide) (by decide) F_6_7 k_RX6_95 dX6_takeSemicolon_1 ?_
  refine V_bipush (v := 6) C dX6_takeSemicolon_4 (by decide) ?_
  refine V_icmp_ne (tgt := 20) C dX6_takeSemicolon_6 (by decide) (fun c => ?_) (fun c => ?_)
  · have h := h.1 c
    exact q_X6_takeSemicolon_20 C D  _ h
  · have h := h.2 c
    refine V_aload_n C 0 dX6_takeSemicolon_9 rfl rfl ?_
    refine V_gl C 5 (by decide) (by decide) F_6_9 k_RX6_98 dX6_takeSemicolon_10 ?_
    refine V_ldc2 (v := 59) C k_RX6_127 dX6_takeSemicolon_13 ?_
    refine V_lcmp_eq (tgt := 26) C dX6_takeSemicolon_16 dX6_takeSemicolon_17 (by decide) (fun c => ?_) (fun c => ?_)
    · have h := h.1 c
      refine V_aload_n C 0 dX6_takeSemicolon_26 rfl rfl ?_
      refine V_callVv (As := []) (rest := []) C (c_X6_pass (v_l X) G  _ h) 5 6 (by decide) (by decide) (by decide) rfl KV_X6_pass k_RX6_62 rfl rfl rfl (Nat.le_of_ble_eq_true rfl) ⟨Nat.le_of_ble_eq_true rfl, Nat.le_of_ble_eq_true rfl⟩ dX6_takeSemicolon_27 (fun S4 h => ?_)
      refine V_iconst (v := 1) C dX6_takeSemicolon_30 (by decide) ?_
      exact V_zret1 C D dX6_takeSemicolon_31 h
    · have h := h.2 c
      exact q_X6_takeSemicolon_20 C D  _ h
/-! HalfAccuser$CityReader.readDeed()Z -/
theorem dX1_readDeed_0 : decode cX1_readDeed 0 = .ok ((.aload_n 0), 1) := by decide +kernel
theorem dX1_readDeed_1 : decode cX1_readDeed 1 = .ok ((.getfield 15), 3) := by decide +kernel
theorem dX1_readDeed_4 : decode cX1_readDeed 4 = .ok ((.getfield 112), 3) := by decide +kernel
theorem dX1_readDeed_7 : decode cX1_readDeed 7 = .ok ((.bipush 10), 2) := by decide +kernel
theorem dX1_readDeed_9 : decode cX1_readDeed 9 = .ok ((.if_icmp .lt 13), 3) := by decide +kernel
theorem dX1_readDeed_12 : decode cX1_readDeed 12 = .ok ((.aload_n 0), 1) := by decide +kernel
theorem dX1_readDeed_13 : decode cX1_readDeed 13 = .ok ((.getfield 9), 3) := by decide +kernel
theorem dX1_readDeed_16 : decode cX1_readDeed 16 = .ok ((.bipush 6), 2) := by decide +kernel
theorem dX1_readDeed_18 : decode cX1_readDeed 18 = .ok ((.invokevirtual 48), 3) := by decide +kernel
theorem dX1_readDeed_21 : decode cX1_readDeed 21 = .ok (.ireturn, 1) := by decide +kernel
theorem dX1_readDeed_22 : decode cX1_readDeed 22 = .ok ((.aload_n 0), 1) := by decide +kernel
theorem dX1_readDeed_23 : decode cX1_readDeed 23 = .ok ((.getfield 9), 3) := by decide +kernel
theorem dX1_readDeed_26 : decode cX1_readDeed 26 = .ok ((.invokevirtual 55), 3) := by decide +kernel
theorem dX1_readDeed_29 : decode cX1_readDeed 29 = .ok ((.aload_n 0), 1) := by decide +kernel
theorem dX1_readDeed_30 : decode cX1_readDeed 30 = .ok ((.invokevirtual 88), 3) := by decide +kernel
theorem dX1_readDeed_33 : decode cX1_readDeed 33 = .ok ((.ifCond .ne 5), 3) := by decide +kernel
theorem dX1_readDeed_36 : decode cX1_readDeed 36 = .ok ((.iconst 0), 1) := by decide +kernel
theorem dX1_readDeed_37 : decode cX1_readDeed 37 = .ok (.ireturn, 1) := by decide +kernel
theorem dX1_readDeed_38 : decode cX1_readDeed 38 = .ok ((.aload_n 0), 1) := by decide +kernel
theorem dX1_readDeed_39 : decode cX1_readDeed 39 = .ok ((.getfield 9), 3) := by decide +kernel
theorem dX1_readDeed_42 : decode cX1_readDeed 42 = .ok ((.getfield 91), 3) := by decide +kernel
theorem dX1_readDeed_45 : decode cX1_readDeed 45 = .ok ((.lstore_n 1), 1) := by decide +kernel
theorem dX1_readDeed_46 : decode cX1_readDeed 46 = .ok ((.aload_n 0), 1) := by decide +kernel
theorem dX1_readDeed_47 : decode cX1_readDeed 47 = .ok ((.getfield 9), 3) := by decide +kernel
theorem dX1_readDeed_50 : decode cX1_readDeed 50 = .ok ((.bipush 8), 2) := by decide +kernel
theorem dX1_readDeed_52 : decode cX1_readDeed 52 = .ok ((.invokevirtual 115), 3) := by decide +kernel
theorem dX1_readDeed_55 : decode cX1_readDeed 55 = .ok ((.ifCond .ne 5), 3) := by decide +kernel
theorem dX1_readDeed_58 : decode cX1_readDeed 58 = .ok ((.iconst 0), 1) := by decide +kernel
theorem dX1_readDeed_59 : decode cX1_readDeed 59 = .ok (.ireturn, 1) := by decide +kernel
theorem dX1_readDeed_60 : decode cX1_readDeed 60 = .ok ((.aload_n 0), 1) := by decide +kernel
theorem dX1_readDeed_61 : decode cX1_readDeed 61 = .ok ((.getfield 9), 3) := by decide +kernel
theorem dX1_readDeed_64 : decode cX1_readDeed 64 = .ok ((.getfield 30), 3) := by decide +kernel
theorem dX1_readDeed_67 : decode cX1_readDeed 67 = .ok ((.iconst 3), 1) := by decide +kernel
theorem dX1_readDeed_68 : decode cX1_readDeed 68 = .ok ((.if_icmp .eq 12), 3) := by decide +kernel
theorem dX1_readDeed_71 : decode cX1_readDeed 71 = .ok ((.aload_n 0), 1) := by decide +kernel
theorem dX1_readDeed_72 : decode cX1_readDeed 72 = .ok ((.getfield 9), 3) := by decide +kernel
theorem dX1_readDeed_75 : decode cX1_readDeed 75 = .ok ((.iconst 2), 1) := by decide +kernel
theorem dX1_readDeed_76 : decode cX1_readDeed 76 = .ok ((.invokevirtual 48), 3) := by decide +kernel
theorem dX1_readDeed_79 : decode cX1_readDeed 79 = .ok (.ireturn, 1) := by decide +kernel
theorem dX1_readDeed_80 : decode cX1_readDeed 80 = .ok ((.aload_n 0), 1) := by decide +kernel
theorem dX1_readDeed_81 : decode cX1_readDeed 81 = .ok ((.getfield 15), 3) := by decide +kernel
theorem dX1_readDeed_84 : decode cX1_readDeed 84 = .ok ((.aload_n 0), 1) := by decide +kernel
theorem dX1_readDeed_85 : decode cX1_readDeed 85 = .ok ((.getfield 9), 3) := by decide +kernel
theorem dX1_readDeed_88 : decode cX1_readDeed 88 = .ok ((.getfield 118), 3) := by decide +kernel
theorem dX1_readDeed_91 : decode cX1_readDeed 91 = .ok ((.invokevirtual 121), 3) := by decide +kernel
theorem dX1_readDeed_94 : decode cX1_readDeed 94 = .ok ((.istore_n 3), 1) := by decide +kernel
theorem dX1_readDeed_95 : decode cX1_readDeed 95 = .ok ((.iload_n 3), 1) := by decide +kernel
theorem dX1_readDeed_96 : decode cX1_readDeed 96 = .ok ((.iconst (-1)), 1) := by decide +kernel
theorem dX1_readDeed_97 : decode cX1_readDeed 97 = .ok ((.if_icmp .ne 12), 3) := by decide +kernel
theorem dX1_readDeed_100 : decode cX1_readDeed 100 = .ok ((.aload_n 0), 1) := by decide +kernel
theorem dX1_readDeed_101 : decode cX1_readDeed 101 = .ok ((.getfield 9), 3) := by decide +kernel
theorem dX1_readDeed_104 : decode cX1_readDeed 104 = .ok ((.iconst 3), 1) := by decide +kernel
theorem dX1_readDeed_105 : decode cX1_readDeed 105 = .ok ((.invokevirtual 48), 3) := by decide +kernel
theorem dX1_readDeed_108 : decode cX1_readDeed 108 = .ok (.ireturn, 1) := by decide +kernel
theorem dX1_readDeed_109 : decode cX1_readDeed 109 = .ok ((.aload_n 0), 1) := by decide +kernel
theorem dX1_readDeed_110 : decode cX1_readDeed 110 = .ok ((.getfield 9), 3) := by decide +kernel
theorem dX1_readDeed_113 : decode cX1_readDeed 113 = .ok ((.invokevirtual 55), 3) := by decide +kernel
theorem dX1_readDeed_116 : decode cX1_readDeed 116 = .ok ((.aload_n 0), 1) := by decide +kernel
theorem dX1_readDeed_117 : decode cX1_readDeed 117 = .ok ((.bipush 9), 2) := by decide +kernel
theorem dX1_readDeed_119 : decode cX1_readDeed 119 = .ok ((.iconst 1), 1) := by decide +kernel
theorem dX1_readDeed_120 : decode cX1_readDeed 120 = .ok ((.sipush 999), 3) := by decide +kernel
theorem dX1_readDeed_123 : decode cX1_readDeed 123 = .ok ((.invokevirtual 102), 3) := by decide +kernel
theorem dX1_readDeed_126 : decode cX1_readDeed 126 = .ok ((.ifCond .ne 5), 3) := by decide +kernel
theorem dX1_readDeed_129 : decode cX1_readDeed 129 = .ok ((.iconst 0), 1) := by decide +kernel
theorem dX1_readDeed_130 : decode cX1_readDeed 130 = .ok (.ireturn, 1) := by decide +kernel
theorem dX1_readDeed_131 : decode cX1_readDeed 131 = .ok ((.aload_n 0), 1) := by decide +kernel
theorem dX1_readDeed_132 : decode cX1_readDeed 132 = .ok ((.getfield 9), 3) := by decide +kernel
theorem dX1_readDeed_135 : decode cX1_readDeed 135 = .ok ((.invokevirtual 75), 3) := by decide +kernel
theorem dX1_readDeed_138 : decode cX1_readDeed 138 = .ok ((.istore 4), 2) := by decide +kernel
theorem dX1_readDeed_140 : decode cX1_readDeed 140 = .ok ((.aload_n 0), 1) := by decide +kernel
theorem dX1_readDeed_141 : decode cX1_readDeed 141 = .ok ((.bipush 10), 2) := by decide +kernel
theorem dX1_readDeed_143 : decode cX1_readDeed 143 = .ok ((.iconst 0), 1) := by decide +kernel
theorem dX1_readDeed_144 : decode cX1_readDeed 144 = .ok ((.bipush 16), 2) := by decide +kernel
theorem dX1_readDeed_146 : decode cX1_readDeed 146 = .ok ((.invokevirtual 102), 3) := by decide +kernel
theorem dX1_readDeed_149 : decode cX1_readDeed 149 = .ok ((.ifCond .ne 5), 3) := by decide +kernel
theorem dX1_readDeed_152 : decode cX1_readDeed 152 = .ok ((.iconst 0), 1) := by decide +kernel
theorem dX1_readDeed_153 : decode cX1_readDeed 153 = .ok (.ireturn, 1) := by decide +kernel
theorem dX1_readDeed_154 : decode cX1_readDeed 154 = .ok ((.aload_n 0), 1) := by decide +kernel
theorem dX1_readDeed_155 : decode cX1_readDeed 155 = .ok ((.getfield 15), 3) := by decide +kernel
theorem dX1_readDeed_158 : decode cX1_readDeed 158 = .ok ((.lload_n 1), 1) := by decide +kernel
theorem dX1_readDeed_159 : decode cX1_readDeed 159 = .ok ((.iload_n 3), 1) := by decide +kernel
theorem dX1_readDeed_160 : decode cX1_readDeed 160 = .ok ((.iload 4), 2) := by decide +kernel
theorem dX1_readDeed_162 : decode cX1_readDeed 162 = .ok ((.aload_n 0), 1) := by decide +kernel
theorem dX1_readDeed_163 : decode cX1_readDeed 163 = .ok ((.getfield 9), 3) := by decide +kernel
theorem dX1_readDeed_166 : decode cX1_readDeed 166 = .ok ((.invokevirtual 75), 3) := by decide +kernel
theorem dX1_readDeed_169 : decode cX1_readDeed 169 = .ok ((.invokevirtual 124), 3) := by decide +kernel
theorem dX1_readDeed_172 : decode cX1_readDeed 172 = .ok (.pop, 1) := by decide +kernel
theorem dX1_readDeed_173 : decode cX1_readDeed 173 = .ok ((.aload_n 0), 1) := by decide +kernel
theorem dX1_readDeed_174 : decode cX1_readDeed 174 = .ok ((.getfield 9), 3) := by decide +kernel
theorem dX1_readDeed_177 : decode cX1_readDeed 177 = .ok ((.invokevirtual 82), 3) := by decide +kernel
theorem dX1_readDeed_180 : decode cX1_readDeed 180 = .ok (.ireturn, 1) := by decide +kernel
def p_X1_readDeed   (S : vSt)  (post : Bool → vSt → Prop) : Prop := (((S.1 32 16) < 10 → p_X6_pass  S  (fun S28 => p_X1_takeNewName  S28  (fun r30 S29 => ((r30 = true → ∀ y31 : Int64, y31 = (S29.2 5 10) → p_X6_takeWord  S29 8 (fun r33 S32 => ((r33 = true → (((S32.1 5 7) = 3 → p_X0_personBy 32 S32 (S32.2 5 9) (fun r35 S34 => ((¬ r35 = (-1) → p_X6_pass  S34  (fun S36 => p_X1_takeWordAndNumber  S36 9 1 999 (fun r38 S37 => ((r38 = true → p_X6_number  S37  (fun r40 S39 => p_X1_takeWordAndNumber  S39 10 0 16 (fun r42 S41 => ((r42 = true → p_X6_number  S41  (fun r44 S43 => p_X0_addDeed 32 S43 y31 r35 r40 r44 (fun r46 S45 => p_X6_takeSemicolon  S45  (fun r48 S47 => post r48 S47)))) ∧ (r42 = false → post false S41))))) ∧ (r38 = false → post false S37))))) ∧ (r35 = (-1) → p_X6_blame  S34 3 (fun r50 S49 => post r50 S49))))) ∧ (¬ (S32.1 5 7) = 3 → p_X6_blame  S32 2 (fun r52 S51 => post r52 S51)))) ∧ (r33 = false → post false S32)))) ∧ (r30 = false → post false S29))))) ∧ (¬ (S.1 32 16) < 10 → p_X6_blame  S 6 (fun r54 S53 => post r54 S53)))
set_option maxHeartbeats 4000000 in
set_option maxRecDepth 100000 in
theorem c_X1_readDeed (l : Launch) (G : vG)    {S : vSt}  (post : Bool → vSt → Prop) (h : p_X1_readDeed   S  post) : Met l yX1_readDeed (v_ws yX1_readDeed cX1_readDeed 5 (some .boolean)) (v_rm 4 126) (v_Pc G [.ref (G.1 55)] S) (v_Qz G post) 0 0 (v_A G) := by
  refine v_start (by decide +kernel) (Nat.le_of_ble_eq_true rfl) (fun X hl C D => ?_)
  subst hl
  have C : v_Cx X G cX1_readDeed RX1 5 (v_rm 4 126) := C
  show VJ X G S 0 [(0, .ref (G.1 55))] []
  refine V_aload_n C 0 dX1_readDeed_0 rfl rfl ?_
  refine V_ga C 55 (by decide) (by decide) F_1_1 k_RX1_15 dX1_readDeed_1 ?_
  refine V_gi C 32 (by decide) (by decide) F_0_16 k_RX1_112 dX1_readDeed_4 ?_
  refine V_bipush (v := 10) C dX1_readDeed_7 (by decide) ?_
  refine V_icmp_lt (tgt := 22) C dX1_readDeed_9 (by decide) (fun c => ?_) (fun c => ?_)
  · have h := h.1 c
    refine V_aload_n C 0 dX1_readDeed_22 rfl rfl ?_
    refine V_ga C 55 (by decide) (by decide) F_1_0 k_RX1_9 dX1_readDeed_23 ?_
    refine V_callVv (As := []) (rest := []) C (c_X6_pass (v_l X) G  _ h) 5 6 (by decide) (by decide) (by decide) rfl KV_X6_pass k_RX1_55 rfl rfl rfl (Nat.le_of_ble_eq_true rfl) ⟨Nat.le_of_ble_eq_true rfl, Nat.le_of_ble_eq_true rfl⟩ dX1_readDeed_26 (fun S28 h => ?_)
    refine V_aload_n C 0 dX1_readDeed_29 rfl rfl ?_
    refine V_callVz (As := []) (rest := []) C (c_X1_takeNewName (v_l X) G  _ h) 55 1 (by decide) (by decide) (by decide) rfl KV_X1_takeNewName k_RX1_88 rfl rfl rfl (Nat.le_of_ble_eq_true rfl) ⟨Nat.le_of_ble_eq_true rfl, Nat.le_of_ble_eq_true rfl⟩ dX1_readDeed_30 (fun r30 S29 h => ?_)
    refine V_ifb_ne (tgt := 38) C dX1_readDeed_33 (by decide) (fun c => ?_) (fun c => ?_)
    · have h := h.1 c
      refine V_aload_n C 0 dX1_readDeed_38 rfl rfl ?_
      refine V_ga C 55 (by decide) (by decide) F_1_0 k_RX1_9 dX1_readDeed_39 ?_
      refine V_gl C 5 (by decide) (by decide) F_6_10 k_RX1_91 dX1_readDeed_42 ?_
      refine V_topl (fun y31 ey31 => ?_)
      have h := h y31 ey31
      refine V_lstore_n (lv' := [(0, .ref (G.1 55)), (1, .long y31)]) C [1, 0] dX1_readDeed_45 rfl (by decide) rfl ?_
      refine V_aload_n C 0 dX1_readDeed_46 rfl rfl ?_
      refine V_ga C 55 (by decide) (by decide) F_1_0 k_RX1_9 dX1_readDeed_47 ?_
      refine V_bipush (v := 8) C dX1_readDeed_50 (by decide) ?_
      refine V_callVz (As := [.int 8]) (rest := []) C (c_X6_takeWord (v_l X) G  _ _ h) 5 6 (by decide) (by decide) (by decide) rfl KV_X6_takeWord k_RX1_115 rfl rfl rfl (Nat.le_of_ble_eq_true rfl) ⟨Nat.le_of_ble_eq_true rfl, Nat.le_of_ble_eq_true rfl⟩ dX1_readDeed_52 (fun r33 S32 h => ?_)
      refine V_ifb_ne (tgt := 60) C dX1_readDeed_55 (by decide) (fun c => ?_) (fun c => ?_)
      · have h := h.1 c
        refine V_aload_n C 0 dX1_readDeed_60 rfl rfl ?_
        refine V_ga C 55 (by decide) (by decide) F_1_0 k_RX1_9 dX1_readDeed_61 ?_
        refine V_gi C 5 (by decide) (by decide) F_6_7 k_RX1_30 dX1_readDeed_64 ?_
        refine V_iconst (v := 3) C dX1_readDeed_67 (by decide) ?_
        refine V_icmp_eq (tgt := 80) C dX1_readDeed_68 (by decide) (fun c => ?_) (fun c => ?_)
        · have h := h.1 c
          refine V_aload_n C 0 dX1_readDeed_80 rfl rfl ?_
          refine V_ga C 55 (by decide) (by decide) F_1_1 k_RX1_15 dX1_readDeed_81 ?_
          refine V_aload_n C 0 dX1_readDeed_84 rfl rfl ?_
          refine V_ga C 55 (by decide) (by decide) F_1_0 k_RX1_9 dX1_readDeed_85 ?_
          refine V_gl C 5 (by decide) (by decide) F_6_9 k_RX1_118 dX1_readDeed_88 ?_
          refine V_callVi (As := [.long (S32.2 5 9)]) (rest := []) C (c_X0_personBy (v_l X) G v_i32 _ _ h) 32 0 (by decide) (by decide) (by decide) rfl KV_X0_personBy k_RX1_121 rfl rfl rfl (Nat.le_of_ble_eq_true rfl) ⟨Nat.le_of_ble_eq_true rfl, Nat.le_of_ble_eq_true rfl⟩ dX1_readDeed_91 (fun r35 S34 h => ?_)
          refine V_istore_n (lv' := [(0, .ref (G.1 55)), (1, .long y31), (3, .int r35)]) C [1, 2, 0] dX1_readDeed_94 rfl (by decide) rfl ?_
          refine V_iload_n C 2 dX1_readDeed_95 rfl rfl ?_
          refine V_iconst (v := (-1)) C dX1_readDeed_96 (by decide) ?_
          refine V_icmp_ne (tgt := 109) C dX1_readDeed_97 (by decide) (fun c => ?_) (fun c => ?_)
          · have h := h.1 c
            refine V_aload_n C 0 dX1_readDeed_109 rfl rfl ?_
            refine V_ga C 55 (by decide) (by decide) F_1_0 k_RX1_9 dX1_readDeed_110 ?_
            refine V_callVv (As := []) (rest := []) C (c_X6_pass (v_l X) G  _ h) 5 6 (by decide) (by decide) (by decide) rfl KV_X6_pass k_RX1_55 rfl rfl rfl (Nat.le_of_ble_eq_true rfl) ⟨Nat.le_of_ble_eq_true rfl, Nat.le_of_ble_eq_true rfl⟩ dX1_readDeed_113 (fun S36 h => ?_)
            refine V_aload_n C 0 dX1_readDeed_116 rfl rfl ?_
            refine V_bipush (v := 9) C dX1_readDeed_117 (by decide) ?_
            refine V_iconst (v := 1) C dX1_readDeed_119 (by decide) ?_
            refine V_sipush (v := 999) C dX1_readDeed_120 (by decide) ?_
            refine V_callVz (As := [.int 9, .int 1, .int 999]) (rest := []) C (c_X1_takeWordAndNumber (v_l X) G  _ _ _ _ h) 55 1 (by decide) (by decide) (by decide) rfl KV_X1_takeWordAndNumber k_RX1_102 rfl rfl rfl (Nat.le_of_ble_eq_true rfl) ⟨Nat.le_of_ble_eq_true rfl, Nat.le_of_ble_eq_true rfl⟩ dX1_readDeed_123 (fun r38 S37 h => ?_)
            refine V_ifb_ne (tgt := 131) C dX1_readDeed_126 (by decide) (fun c => ?_) (fun c => ?_)
            · have h := h.1 c
              refine V_aload_n C 0 dX1_readDeed_131 rfl rfl ?_
              refine V_ga C 55 (by decide) (by decide) F_1_0 k_RX1_9 dX1_readDeed_132 ?_
              refine V_callVi (As := []) (rest := []) C (c_X6_number (v_l X) G  _ h) 5 6 (by decide) (by decide) (by decide) rfl KV_X6_number k_RX1_75 rfl rfl rfl (Nat.le_of_ble_eq_true rfl) ⟨Nat.le_of_ble_eq_true rfl, Nat.le_of_ble_eq_true rfl⟩ dX1_readDeed_135 (fun r40 S39 h => ?_)
              refine V_istore (lv' := [(0, .ref (G.1 55)), (1, .long y31), (3, .int r35), (4, .int r40)]) C [1, 2, 3, 0] dX1_readDeed_138 (by decide) rfl ?_
              refine V_aload_n C 0 dX1_readDeed_140 rfl rfl ?_
              refine V_bipush (v := 10) C dX1_readDeed_141 (by decide) ?_
              refine V_iconst (v := 0) C dX1_readDeed_143 (by decide) ?_
              refine V_bipush (v := 16) C dX1_readDeed_144 (by decide) ?_
              refine V_callVz (As := [.int 10, .int 0, .int 16]) (rest := []) C (c_X1_takeWordAndNumber (v_l X) G  _ _ _ _ h) 55 1 (by decide) (by decide) (by decide) rfl KV_X1_takeWordAndNumber k_RX1_102 rfl rfl rfl (Nat.le_of_ble_eq_true rfl) ⟨Nat.le_of_ble_eq_true rfl, Nat.le_of_ble_eq_true rfl⟩ dX1_readDeed_146 (fun r42 S41 h => ?_)
              refine V_ifb_ne (tgt := 154) C dX1_readDeed_149 (by decide) (fun c => ?_) (fun c => ?_)
              · have h := h.1 c
                refine V_aload_n C 0 dX1_readDeed_154 rfl rfl ?_
                refine V_ga C 55 (by decide) (by decide) F_1_1 k_RX1_15 dX1_readDeed_155 ?_
                refine V_lload_n C 1 dX1_readDeed_158 rfl rfl ?_
                refine V_iload_n C 2 dX1_readDeed_159 rfl rfl ?_
                refine V_iload C 3 dX1_readDeed_160 rfl ?_
                refine V_aload_n C 0 dX1_readDeed_162 rfl rfl ?_
                refine V_ga C 55 (by decide) (by decide) F_1_0 k_RX1_9 dX1_readDeed_163 ?_
                refine V_callVi (As := []) (rest := [.int r40, .int r35, .long y31, .ref (G.1 32)]) C (c_X6_number (v_l X) G  _ h) 5 6 (by decide) (by decide) (by decide) rfl KV_X6_number k_RX1_75 rfl rfl rfl (Nat.le_of_ble_eq_true rfl) ⟨Nat.le_of_ble_eq_true rfl, Nat.le_of_ble_eq_true rfl⟩ dX1_readDeed_166 (fun r44 S43 h => ?_)
                refine V_callVi (As := [.long y31, .int r35, .int r40, .int r44]) (rest := []) C (c_X0_addDeed (v_l X) G v_i32 _ _ _ _ _ h) 32 0 (by decide) (by decide) (by decide) rfl KV_X0_addDeed k_RX1_124 rfl rfl rfl (Nat.le_of_ble_eq_true rfl) ⟨Nat.le_of_ble_eq_true rfl, Nat.le_of_ble_eq_true rfl⟩ dX1_readDeed_169 (fun r46 S45 h => ?_)
                refine V_pop C dX1_readDeed_172 rfl ?_
                refine V_aload_n C 0 dX1_readDeed_173 rfl rfl ?_
                refine V_ga C 55 (by decide) (by decide) F_1_0 k_RX1_9 dX1_readDeed_174 ?_
                refine V_callVz (As := []) (rest := []) C (c_X6_takeSemicolon (v_l X) G  _ h) 5 6 (by decide) (by decide) (by decide) rfl KV_X6_takeSemicolon k_RX1_82 rfl rfl rfl (Nat.le_of_ble_eq_true rfl) ⟨Nat.le_of_ble_eq_true rfl, Nat.le_of_ble_eq_true rfl⟩ dX1_readDeed_177 (fun r48 S47 h => ?_)
                exact V_zret C D dX1_readDeed_180 h
              · have h := h.2 c
                refine V_iconst (v := 0) C dX1_readDeed_152 (by decide) ?_
                exact V_zret0 C D dX1_readDeed_153 h
            · have h := h.2 c
              refine V_iconst (v := 0) C dX1_readDeed_129 (by decide) ?_
              exact V_zret0 C D dX1_readDeed_130 h
          · have h := h.2 c
            refine V_aload_n C 0 dX1_readDeed_100 rfl rfl ?_
            refine V_ga C 55 (by decide) (by decide) F_1_0 k_RX1_9 dX1_readDeed_101 ?_
            refine V_iconst (v := 3) C dX1_readDeed_104 (by decide) ?_
            refine V_callVz (As := [.int 3]) (rest := []) C (c_X6_blame (v_l X) G  _ _ h) 5 6 (by decide) (by decide) (by decide) rfl KV_X6_blame k_RX1_48 rfl rfl rfl (Nat.le_of_ble_eq_true rfl) ⟨Nat.le_of_ble_eq_true rfl, Nat.le_of_ble_eq_true rfl⟩ dX1_readDeed_105 (fun r50 S49 h => ?_)
            exact V_zret C D dX1_readDeed_108 h
        · have h := h.2 c
          refine V_aload_n C 0 dX1_readDeed_71 rfl rfl ?_
          refine V_ga C 55 (by decide) (by decide) F_1_0 k_RX1_9 dX1_readDeed_72 ?_
          refine V_iconst (v := 2) C dX1_readDeed_75 (by decide) ?_
          refine V_callVz (As := [.int 2]) (rest := []) C (c_X6_blame (v_l X) G  _ _ h) 5 6 (by decide) (by decide) (by decide) rfl KV_X6_blame k_RX1_48 rfl rfl rfl (Nat.le_of_ble_eq_true rfl) ⟨Nat.le_of_ble_eq_true rfl, Nat.le_of_ble_eq_true rfl⟩ dX1_readDeed_76 (fun r52 S51 h => ?_)
          exact V_zret C D dX1_readDeed_79 h
      · have h := h.2 c
        refine V_iconst (v := 0) C dX1_readDeed_58 (by decide) ?_
        exact V_zret0 C D dX1_readDeed_59 h
    · have h := h.2 c
      refine V_iconst (v := 0) C dX1_readDeed_36 (by decide) ?_
      exact V_zret0 C D dX1_readDeed_37 h
  · have h := h.2 c
    refine V_aload_n C 0 dX1_readDeed_12 rfl rfl ?_
    refine V_ga C 55 (by decide) (by decide) F_1_0 k_RX1_9 dX1_readDeed_13 ?_
    refine V_bipush (v := 6) C dX1_readDeed_16 (by decide) ?_
    refine V_callVz (As := [.int 6]) (rest := []) C (c_X6_blame (v_l X) G  _ _ h) 5 6 (by decide) (by decide) (by decide) rfl KV_X6_blame k_RX1_48 rfl rfl rfl (Nat.le_of_ble_eq_true rfl) ⟨Nat.le_of_ble_eq_true rfl, Nat.le_of_ble_eq_true rfl⟩ dX1_readDeed_18 (fun r54 S53 h => ?_)
    exact V_zret C D dX1_readDeed_21 h
/-! HalfAccuser$CityReader.readPerson()Z -/
theorem dX1_readPerson_0 : decode cX1_readPerson 0 = .ok ((.aload_n 0), 1) := by decide +kernel
theorem dX1_readPerson_1 : decode cX1_readPerson 1 = .ok ((.getfield 15), 3) := by decide +kernel
theorem dX1_readPerson_4 : decode cX1_readPerson 4 = .ok ((.getfield 85), 3) := by decide +kernel
theorem dX1_readPerson_7 : decode cX1_readPerson 7 = .ok ((.bipush 8), 2) := by decide +kernel
theorem dX1_readPerson_9 : decode cX1_readPerson 9 = .ok ((.if_icmp .lt 13), 3) := by decide +kernel
theorem dX1_readPerson_12 : decode cX1_readPerson 12 = .ok ((.aload_n 0), 1) := by decide +kernel
theorem dX1_readPerson_13 : decode cX1_readPerson 13 = .ok ((.getfield 9), 3) := by decide +kernel
theorem dX1_readPerson_16 : decode cX1_readPerson 16 = .ok ((.bipush 6), 2) := by decide +kernel
theorem dX1_readPerson_18 : decode cX1_readPerson 18 = .ok ((.invokevirtual 48), 3) := by decide +kernel
theorem dX1_readPerson_21 : decode cX1_readPerson 21 = .ok (.ireturn, 1) := by decide +kernel
theorem dX1_readPerson_22 : decode cX1_readPerson 22 = .ok ((.aload_n 0), 1) := by decide +kernel
theorem dX1_readPerson_23 : decode cX1_readPerson 23 = .ok ((.getfield 9), 3) := by decide +kernel
theorem dX1_readPerson_26 : decode cX1_readPerson 26 = .ok ((.invokevirtual 55), 3) := by decide +kernel
theorem dX1_readPerson_29 : decode cX1_readPerson 29 = .ok ((.aload_n 0), 1) := by decide +kernel
theorem dX1_readPerson_30 : decode cX1_readPerson 30 = .ok ((.invokevirtual 88), 3) := by decide +kernel
theorem dX1_readPerson_33 : decode cX1_readPerson 33 = .ok ((.ifCond .ne 5), 3) := by decide +kernel
theorem dX1_readPerson_36 : decode cX1_readPerson 36 = .ok ((.iconst 0), 1) := by decide +kernel
theorem dX1_readPerson_37 : decode cX1_readPerson 37 = .ok (.ireturn, 1) := by decide +kernel
theorem dX1_readPerson_38 : decode cX1_readPerson 38 = .ok ((.aload_n 0), 1) := by decide +kernel
theorem dX1_readPerson_39 : decode cX1_readPerson 39 = .ok ((.getfield 15), 3) := by decide +kernel
theorem dX1_readPerson_42 : decode cX1_readPerson 42 = .ok ((.aload_n 0), 1) := by decide +kernel
theorem dX1_readPerson_43 : decode cX1_readPerson 43 = .ok ((.getfield 9), 3) := by decide +kernel
theorem dX1_readPerson_46 : decode cX1_readPerson 46 = .ok ((.getfield 91), 3) := by decide +kernel
theorem dX1_readPerson_49 : decode cX1_readPerson 49 = .ok ((.invokevirtual 95), 3) := by decide +kernel
theorem dX1_readPerson_52 : decode cX1_readPerson 52 = .ok ((.istore_n 1), 1) := by decide +kernel
theorem dX1_readPerson_53 : decode cX1_readPerson 53 = .ok ((.aload_n 0), 1) := by decide +kernel
theorem dX1_readPerson_54 : decode cX1_readPerson 54 = .ok ((.getfield 9), 3) := by decide +kernel
theorem dX1_readPerson_57 : decode cX1_readPerson 57 = .ok ((.iconst 5), 1) := by decide +kernel
theorem dX1_readPerson_58 : decode cX1_readPerson 58 = .ok ((.invokevirtual 99), 3) := by decide +kernel
theorem dX1_readPerson_61 : decode cX1_readPerson 61 = .ok ((.ifCond .eq 35), 3) := by decide +kernel
theorem dX1_readPerson_64 : decode cX1_readPerson 64 = .ok ((.aload_n 0), 1) := by decide +kernel
theorem dX1_readPerson_65 : decode cX1_readPerson 65 = .ok ((.iconst 5), 1) := by decide +kernel
theorem dX1_readPerson_66 : decode cX1_readPerson 66 = .ok ((.iconst 0), 1) := by decide +kernel
theorem dX1_readPerson_67 : decode cX1_readPerson 67 = .ok ((.sipush 9999), 3) := by decide +kernel
theorem dX1_readPerson_70 : decode cX1_readPerson 70 = .ok ((.invokevirtual 102), 3) := by decide +kernel
theorem dX1_readPerson_73 : decode cX1_readPerson 73 = .ok ((.ifCond .ne 5), 3) := by decide +kernel
theorem dX1_readPerson_76 : decode cX1_readPerson 76 = .ok ((.iconst 0), 1) := by decide +kernel
theorem dX1_readPerson_77 : decode cX1_readPerson 77 = .ok (.ireturn, 1) := by decide +kernel
theorem dX1_readPerson_78 : decode cX1_readPerson 78 = .ok ((.aload_n 0), 1) := by decide +kernel
theorem dX1_readPerson_79 : decode cX1_readPerson 79 = .ok ((.getfield 15), 3) := by decide +kernel
theorem dX1_readPerson_82 : decode cX1_readPerson 82 = .ok ((.getfield 106), 3) := by decide +kernel
theorem dX1_readPerson_85 : decode cX1_readPerson 85 = .ok ((.iload_n 1), 1) := by decide +kernel
theorem dX1_readPerson_86 : decode cX1_readPerson 86 = .ok ((.aload_n 0), 1) := by decide +kernel
theorem dX1_readPerson_87 : decode cX1_readPerson 87 = .ok ((.getfield 9), 3) := by decide +kernel
theorem dX1_readPerson_90 : decode cX1_readPerson 90 = .ok ((.invokevirtual 75), 3) := by decide +kernel
theorem dX1_readPerson_93 : decode cX1_readPerson 93 = .ok ((.invokestatic 78), 3) := by decide +kernel
theorem dX1_readPerson_96 : decode cX1_readPerson 96 = .ok ((.aload_n 0), 1) := by decide +kernel
theorem dX1_readPerson_97 : decode cX1_readPerson 97 = .ok ((.getfield 9), 3) := by decide +kernel
theorem dX1_readPerson_100 : decode cX1_readPerson 100 = .ok ((.bipush 6), 2) := by decide +kernel
theorem dX1_readPerson_102 : decode cX1_readPerson 102 = .ok ((.invokevirtual 99), 3) := by decide +kernel
theorem dX1_readPerson_105 : decode cX1_readPerson 105 = .ok ((.ifCond .eq 35), 3) := by decide +kernel
theorem dX1_readPerson_108 : decode cX1_readPerson 108 = .ok ((.aload_n 0), 1) := by decide +kernel
theorem dX1_readPerson_109 : decode cX1_readPerson 109 = .ok ((.bipush 6), 2) := by decide +kernel
theorem dX1_readPerson_111 : decode cX1_readPerson 111 = .ok ((.iconst 0), 1) := by decide +kernel
theorem dX1_readPerson_112 : decode cX1_readPerson 112 = .ok ((.bipush 16), 2) := by decide +kernel
theorem dX1_readPerson_114 : decode cX1_readPerson 114 = .ok ((.invokevirtual 102), 3) := by decide +kernel
theorem dX1_readPerson_117 : decode cX1_readPerson 117 = .ok ((.ifCond .ne 5), 3) := by decide +kernel
theorem dX1_readPerson_120 : decode cX1_readPerson 120 = .ok ((.iconst 0), 1) := by decide +kernel
theorem dX1_readPerson_121 : decode cX1_readPerson 121 = .ok (.ireturn, 1) := by decide +kernel
theorem dX1_readPerson_122 : decode cX1_readPerson 122 = .ok ((.aload_n 0), 1) := by decide +kernel
theorem dX1_readPerson_123 : decode cX1_readPerson 123 = .ok ((.getfield 15), 3) := by decide +kernel
theorem dX1_readPerson_126 : decode cX1_readPerson 126 = .ok ((.getfield 109), 3) := by decide +kernel
theorem dX1_readPerson_129 : decode cX1_readPerson 129 = .ok ((.iload_n 1), 1) := by decide +kernel
theorem dX1_readPerson_130 : decode cX1_readPerson 130 = .ok ((.aload_n 0), 1) := by decide +kernel
theorem dX1_readPerson_131 : decode cX1_readPerson 131 = .ok ((.getfield 9), 3) := by decide +kernel
theorem dX1_readPerson_134 : decode cX1_readPerson 134 = .ok ((.invokevirtual 75), 3) := by decide +kernel
theorem dX1_readPerson_137 : decode cX1_readPerson 137 = .ok ((.invokestatic 78), 3) := by decide +kernel
theorem dX1_readPerson_140 : decode cX1_readPerson 140 = .ok ((.aload_n 0), 1) := by decide +kernel
theorem dX1_readPerson_141 : decode cX1_readPerson 141 = .ok ((.getfield 9), 3) := by decide +kernel
theorem dX1_readPerson_144 : decode cX1_readPerson 144 = .ok ((.invokevirtual 82), 3) := by decide +kernel
theorem dX1_readPerson_147 : decode cX1_readPerson 147 = .ok (.ireturn, 1) := by decide +kernel
def p_X1_readPerson_140     (post : Bool → vSt → Prop) (S : vSt)  : Prop := p_X6_takeSemicolon  S  (fun r34 S33 => post r34 S33)
def p_X1_readPerson_96     (post : Bool → vSt → Prop) (S : vSt) (x1 : Int32) : Prop := p_X6_isWord  S 6 (fun r32 S31 => ((r32 = false → p_X1_readPerson_140  post S31 ) ∧ (r32 = true → p_X1_takeWordAndNumber  S31 6 0 16 (fun r34 S33 => ((r34 = true → p_X6_number  S33  (fun r36 S35 => p_X10_put 36 8 S35 x1 r36 (fun S37 => p_X1_readPerson_140  post S37 ))) ∧ (r34 = false → post false S33))))))
def p_X1_readPerson   (S : vSt)  (post : Bool → vSt → Prop) : Prop := (((S.1 32 15) < 8 → p_X6_pass  S  (fun S24 => p_X1_takeNewName  S24  (fun r26 S25 => ((r26 = true → p_X0_addPerson 32 S25 (S25.2 5 10) (fun r28 S27 => p_X6_isWord  S27 5 (fun r30 S29 => ((r30 = false → p_X1_readPerson_96  post S29 r28) ∧ (r30 = true → p_X1_takeWordAndNumber  S29 5 0 9999 (fun r32 S31 => ((r32 = true → p_X6_number  S31  (fun r34 S33 => p_X10_put 35 8 S33 r28 r34 (fun S35 => p_X1_readPerson_96  post S35 r28))) ∧ (r32 = false → post false S31)))))))) ∧ (r26 = false → post false S25))))) ∧ (¬ (S.1 32 15) < 8 → p_X6_blame  S 6 (fun r37 S36 => post r37 S36)))
set_option maxHeartbeats 4000000 in
set_option maxRecDepth 100000 in
theorem q_X1_readPerson_140 {X : vX} {G : vG}  {post : Bool → vSt → Prop} (C : v_Cx X G cX1_readPerson RX1 2 (v_rm 4 126)) (D : v_Rx X G (v_Qz G post) (some .boolean))     : ∀ (S : vSt), p_X1_readPerson_140  post S  → VJ X G S 140 [(0, .ref (G.1 55))] [] := by
  intro S  h
  refine V_aload_n C 0 dX1_readPerson_140 rfl rfl ?_
  refine V_ga C 55 (by decide) (by decide) F_1_0 k_RX1_9 dX1_readPerson_141 ?_
  refine V_callVz (As := []) (rest := []) C (c_X6_takeSemicolon (v_l X) G  _ h) 5 6 (by decide) (by decide) (by decide) rfl KV_X6_takeSemicolon k_RX1_82 rfl rfl rfl (Nat.le_of_ble_eq_true rfl) ⟨Nat.le_of_ble_eq_true rfl, Nat.le_of_ble_eq_true rfl⟩ dX1_readPerson_144 (fun r34 S33 h => ?_)
  exact V_zret C D dX1_readPerson_147 h
set_option maxHeartbeats 4000000 in
set_option maxRecDepth 100000 in
theorem q_X1_readPerson_96 {X : vX} {G : vG}  {post : Bool → vSt → Prop} (C : v_Cx X G cX1_readPerson RX1 2 (v_rm 4 126)) (D : v_Rx X G (v_Qz G post) (some .boolean))     : ∀ (S : vSt) (x1 : Int32), p_X1_readPerson_96  post S x1 → VJ X G S 96 [(0, .ref (G.1 55)), (1, .int x1)] [] := by
  intro S x1 h
  refine V_aload_n C 0 dX1_readPerson_96 rfl rfl ?_
  refine V_ga C 55 (by decide) (by decide) F_1_0 k_RX1_9 dX1_readPerson_97 ?_
  refine V_bipush (v := 6) C dX1_readPerson_100 (by decide) ?_
  refine V_callVz (As := [.int 6]) (rest := []) C (c_X6_isWord (v_l X) G  _ _ h) 5 6 (by decide) (by decide) (by decide) rfl KV_X6_isWord k_RX1_99 rfl rfl rfl (Nat.le_of_ble_eq_true rfl) ⟨Nat.le_of_ble_eq_true rfl, Nat.le_of_ble_eq_true rfl⟩ dX1_readPerson_102 (fun r32 S31 h => ?_)
  refine V_ifb_eq (tgt := 140) C dX1_readPerson_105 (by decide) (fun c => ?_) (fun c => ?_)
  · have h := h.1 c
    refine V_loc (lv' := [(0, .ref (G.1 55))]) [0] rfl ?_
    exact q_X1_readPerson_140 C D  _ h
  · have h := h.2 c
    refine V_aload_n C 0 dX1_readPerson_108 rfl rfl ?_
    refine V_bipush (v := 6) C dX1_readPerson_109 (by decide) ?_
    refine V_iconst (v := 0) C dX1_readPerson_111 (by decide) ?_
    refine V_bipush (v := 16) C dX1_readPerson_112 (by decide) ?_
    refine V_callVz (As := [.int 6, .int 0, .int 16]) (rest := []) C (c_X1_takeWordAndNumber (v_l X) G  _ _ _ _ h) 55 1 (by decide) (by decide) (by decide) rfl KV_X1_takeWordAndNumber k_RX1_102 rfl rfl rfl (Nat.le_of_ble_eq_true rfl) ⟨Nat.le_of_ble_eq_true rfl, Nat.le_of_ble_eq_true rfl⟩ dX1_readPerson_114 (fun r34 S33 h => ?_)
    refine V_ifb_ne (tgt := 122) C dX1_readPerson_117 (by decide) (fun c => ?_) (fun c => ?_)
    · have h := h.1 c
      refine V_aload_n C 0 dX1_readPerson_122 rfl rfl ?_
      refine V_ga C 55 (by decide) (by decide) F_1_1 k_RX1_15 dX1_readPerson_123 ?_
      refine V_gr C 32 (by decide) (by decide) F_0_3 k_RX1_109 dX1_readPerson_126 ?_
      refine V_iload_n C 1 dX1_readPerson_129 rfl rfl ?_
      refine V_aload_n C 0 dX1_readPerson_130 rfl rfl ?_
      refine V_ga C 55 (by decide) (by decide) F_1_0 k_RX1_9 dX1_readPerson_131 ?_
      refine V_callVi (As := []) (rest := [.int x1, .ref (G.1 36)]) C (c_X6_number (v_l X) G  _ h) 5 6 (by decide) (by decide) (by decide) rfl KV_X6_number k_RX1_75 rfl rfl rfl (Nat.le_of_ble_eq_true rfl) ⟨Nat.le_of_ble_eq_true rfl, Nat.le_of_ble_eq_true rfl⟩ dX1_readPerson_134 (fun r36 S35 h => ?_)
      refine V_callSNv (As := [.ref (G.1 36), .int x1, .int r36]) (rest := []) C (c_X10_put (v_l X) G (by decide) (by decide) _ _ _ h) KV_X10_put (List.mem_of_getElem? (i := 30) rfl) rfl rfl rfl (Nat.le_of_ble_eq_true rfl) ⟨Nat.le_of_ble_eq_true rfl, Nat.le_of_ble_eq_true rfl⟩ dX1_readPerson_137 (fun S37 h => ?_)
      refine V_loc (lv' := [(0, .ref (G.1 55))]) [0] rfl ?_
      exact q_X1_readPerson_140 C D  _ h
    · have h := h.2 c
      refine V_iconst (v := 0) C dX1_readPerson_120 (by decide) ?_
      exact V_zret0 C D dX1_readPerson_121 h
set_option maxHeartbeats 4000000 in
set_option maxRecDepth 100000 in
theorem c_X1_readPerson (l : Launch) (G : vG)    {S : vSt}  (post : Bool → vSt → Prop) (h : p_X1_readPerson   S  post) : Met l yX1_readPerson (v_ws yX1_readPerson cX1_readPerson 2 (some .boolean)) (v_rm 4 126) (v_Pc G [.ref (G.1 55)] S) (v_Qz G post) 0 0 (v_A G) := by
  refine v_start (by decide +kernel) (Nat.le_of_ble_eq_true rfl) (fun X hl C D => ?_)
  subst hl
  have C : v_Cx X G cX1_readPerson RX1 2 (v_rm 4 126) := C
  show VJ X G S 0 [(0, .ref (G.1 55))] []
  refine V_aload_n C 0 dX1_readPerson_0 rfl rfl ?_
  refine V_ga C 55 (by decide) (by decide) F_1_1 k_RX1_15 dX1_readPerson_1 ?_
  refine V_gi C 32 (by decide) (by decide) F_0_15 k_RX1_85 dX1_readPerson_4 ?_
  refine V_bipush (v := 8) C dX1_readPerson_7 (by decide) ?_
  refine V_icmp_lt (tgt := 22) C dX1_readPerson_9 (by decide) (fun c => ?_) (fun c => ?_)
  · have h := h.1 c
    refine V_aload_n C 0 dX1_readPerson_22 rfl rfl ?_
    refine V_ga C 55 (by decide) (by decide) F_1_0 k_RX1_9 dX1_readPerson_23 ?_
    refine V_callVv (As := []) (rest := []) C (c_X6_pass (v_l X) G  _ h) 5 6 (by decide) (by decide) (by decide) rfl KV_X6_pass k_RX1_55 rfl rfl rfl (Nat.le_of_ble_eq_true rfl) ⟨Nat.le_of_ble_eq_true rfl, Nat.le_of_ble_eq_true rfl⟩ dX1_readPerson_26 (fun S24 h => ?_)
    refine V_aload_n C 0 dX1_readPerson_29 rfl rfl ?_
    refine V_callVz (As := []) (rest := []) C (c_X1_takeNewName (v_l X) G  _ h) 55 1 (by decide) (by decide) (by decide) rfl KV_X1_takeNewName k_RX1_88 rfl rfl rfl (Nat.le_of_ble_eq_true rfl) ⟨Nat.le_of_ble_eq_true rfl, Nat.le_of_ble_eq_true rfl⟩ dX1_readPerson_30 (fun r26 S25 h => ?_)
    refine V_ifb_ne (tgt := 38) C dX1_readPerson_33 (by decide) (fun c => ?_) (fun c => ?_)
    · have h := h.1 c
      refine V_aload_n C 0 dX1_readPerson_38 rfl rfl ?_
      refine V_ga C 55 (by decide) (by decide) F_1_1 k_RX1_15 dX1_readPerson_39 ?_
      refine V_aload_n C 0 dX1_readPerson_42 rfl rfl ?_
      refine V_ga C 55 (by decide) (by decide) F_1_0 k_RX1_9 dX1_readPerson_43 ?_
      refine V_gl C 5 (by decide) (by decide) F_6_10 k_RX1_91 dX1_readPerson_46 ?_
      refine V_callVi (As := [.long (S25.2 5 10)]) (rest := []) C (c_X0_addPerson (v_l X) G v_i32 _ _ h) 32 0 (by decide) (by decide) (by decide) rfl KV_X0_addPerson k_RX1_95 rfl rfl rfl (Nat.le_of_ble_eq_true rfl) ⟨Nat.le_of_ble_eq_true rfl, Nat.le_of_ble_eq_true rfl⟩ dX1_readPerson_49 (fun r28 S27 h => ?_)
      refine V_istore_n (lv' := [(0, .ref (G.1 55)), (1, .int r28)]) C [1, 0] dX1_readPerson_52 rfl (by decide) rfl ?_
      refine V_aload_n C 0 dX1_readPerson_53 rfl rfl ?_
      refine V_ga C 55 (by decide) (by decide) F_1_0 k_RX1_9 dX1_readPerson_54 ?_
      refine V_iconst (v := 5) C dX1_readPerson_57 (by decide) ?_
      refine V_callVz (As := [.int 5]) (rest := []) C (c_X6_isWord (v_l X) G  _ _ h) 5 6 (by decide) (by decide) (by decide) rfl KV_X6_isWord k_RX1_99 rfl rfl rfl (Nat.le_of_ble_eq_true rfl) ⟨Nat.le_of_ble_eq_true rfl, Nat.le_of_ble_eq_true rfl⟩ dX1_readPerson_58 (fun r30 S29 h => ?_)
      refine V_ifb_eq (tgt := 96) C dX1_readPerson_61 (by decide) (fun c => ?_) (fun c => ?_)
      · have h := h.1 c
        exact q_X1_readPerson_96 C D  _ _ h
      · have h := h.2 c
        refine V_aload_n C 0 dX1_readPerson_64 rfl rfl ?_
        refine V_iconst (v := 5) C dX1_readPerson_65 (by decide) ?_
        refine V_iconst (v := 0) C dX1_readPerson_66 (by decide) ?_
        refine V_sipush (v := 9999) C dX1_readPerson_67 (by decide) ?_
        refine V_callVz (As := [.int 5, .int 0, .int 9999]) (rest := []) C (c_X1_takeWordAndNumber (v_l X) G  _ _ _ _ h) 55 1 (by decide) (by decide) (by decide) rfl KV_X1_takeWordAndNumber k_RX1_102 rfl rfl rfl (Nat.le_of_ble_eq_true rfl) ⟨Nat.le_of_ble_eq_true rfl, Nat.le_of_ble_eq_true rfl⟩ dX1_readPerson_70 (fun r32 S31 h => ?_)
        refine V_ifb_ne (tgt := 78) C dX1_readPerson_73 (by decide) (fun c => ?_) (fun c => ?_)
        · have h := h.1 c
          refine V_aload_n C 0 dX1_readPerson_78 rfl rfl ?_
          refine V_ga C 55 (by decide) (by decide) F_1_1 k_RX1_15 dX1_readPerson_79 ?_
          refine V_gr C 32 (by decide) (by decide) F_0_2 k_RX1_106 dX1_readPerson_82 ?_
          refine V_iload_n C 1 dX1_readPerson_85 rfl rfl ?_
          refine V_aload_n C 0 dX1_readPerson_86 rfl rfl ?_
          refine V_ga C 55 (by decide) (by decide) F_1_0 k_RX1_9 dX1_readPerson_87 ?_
          refine V_callVi (As := []) (rest := [.int r28, .ref (G.1 35)]) C (c_X6_number (v_l X) G  _ h) 5 6 (by decide) (by decide) (by decide) rfl KV_X6_number k_RX1_75 rfl rfl rfl (Nat.le_of_ble_eq_true rfl) ⟨Nat.le_of_ble_eq_true rfl, Nat.le_of_ble_eq_true rfl⟩ dX1_readPerson_90 (fun r34 S33 h => ?_)
          refine V_callSNv (As := [.ref (G.1 35), .int r28, .int r34]) (rest := []) C (c_X10_put (v_l X) G (by decide) (by decide) _ _ _ h) KV_X10_put (List.mem_of_getElem? (i := 30) rfl) rfl rfl rfl (Nat.le_of_ble_eq_true rfl) ⟨Nat.le_of_ble_eq_true rfl, Nat.le_of_ble_eq_true rfl⟩ dX1_readPerson_93 (fun S35 h => ?_)
          exact q_X1_readPerson_96 C D  _ _ h
        · have h := h.2 c
          refine V_iconst (v := 0) C dX1_readPerson_76 (by decide) ?_
          exact V_zret0 C D dX1_readPerson_77 h
    · have h := h.2 c
      refine V_iconst (v := 0) C dX1_readPerson_36 (by decide) ?_
      exact V_zret0 C D dX1_readPerson_37 h
  · have h := h.2 c
    refine V_aload_n C 0 dX1_readPerson_12 rfl rfl ?_
    refine V_ga C 55 (by decide) (by decide) F_1_0 k_RX1_9 dX1_readPerson_13 ?_
    refine V_bipush (v := 6) C dX1_readPerson_16 (by decide) ?_
    refine V_callVz (As := [.int 6]) (rest := []) C (c_X6_blame (v_l X) G  _ _ h) 5 6 (by decide) (by decide) (by decide) rfl KV_X6_blame k_RX1_48 rfl rfl rfl (Nat.le_of_ble_eq_true rfl) ⟨Nat.le_of_ble_eq_true rfl, Nat.le_of_ble_eq_true rfl⟩ dX1_readPerson_18 (fun r37 S36 h => ?_)
    exact V_zret C D dX1_readPerson_21 h
/-! HalfAccuser.at([II)I -/
def p_X10_at_s (i0 : Nat)  (S : vSt) (a1 : Int32) (post : Int32 → vSt → Prop) : Prop := ((a1 < 0 → post 0 S) ∧ (¬ a1 < 0 → ((4 ≤ a1 → post 0 S) ∧ (¬ 4 ≤ a1 → (vp_in a1 4 ∧ post ((v_sr i0).2.getD (Int32.toNatClampNeg a1) 0) S)))))
set_option maxHeartbeats 4000000 in
set_option maxRecDepth 100000 in
theorem c_X10_at_s (l : Launch) (G : vG)  {i0 : Nat} (hi0 : i0 < 3)  {S : vSt} (a1 : Int32) (post : Int32 → vSt → Prop) (h : p_X10_at_s i0  S a1 post) : Met l yX10_at (v_ws yX10_at cX10_at 2 (some .int)) (v_rm 0 40) (v_Pc G [.ref (G.1 (145 + i0)), .int a1] S) (v_Qi G post) 0 0 (v_A G) := by
  refine v_start (by decide +kernel) (Nat.le_of_ble_eq_true rfl) (fun X hl C D => ?_)
  subst hl
  have C : v_Cx X G cX10_at RX10 2 (v_rm 0 40) := C
  show VJ X G S 0 [(0, .ref (G.1 (145 + i0))), (1, .int a1)] []
  refine V_iload_n C 1 dX10_at_0 rfl rfl ?_
  refine V_if_lt (tgt := 16) C dX10_at_1 (by decide) (fun c => ?_) (fun c => ?_)
  · have h := h.1 c
    refine V_iconst (v := 0) C dX10_at_16 (by decide) ?_
    exact V_iret C D dX10_at_17 h
  · have h := h.2 c
    refine V_iload_n C 1 dX10_at_4 rfl rfl ?_
    refine V_aload_n C 0 dX10_at_5 rfl rfl ?_
    refine V_tlen C i0 hi0 dX10_at_6 ?_
    refine V_icmp_ge (tgt := 16) C dX10_at_7 (by decide) (fun c => ?_) (fun c => ?_)
    · have h := h.1 c
      refine V_iconst (v := 0) C dX10_at_16 (by decide) ?_
      exact V_iret C D dX10_at_17 h
    · have h := h.2 c
      refine V_aload_n C 0 dX10_at_10 rfl rfl ?_
      refine V_iload_n C 1 dX10_at_11 rfl rfl ?_
      obtain ⟨hi, h⟩ := h
      refine V_tald C i0 hi0 hi dX10_at_12 ?_
      refine V_goto (tgt := 17) C dX10_at_13 (by decide) ?_
      exact V_iret C D dX10_at_17 h
/-! HalfAccuser$CityReader.readRule(I)Z -/
theorem dX1_readRule_0 : decode cX1_readRule 0 = .ok ((.aload_n 0), 1) := by decide +kernel
theorem dX1_readRule_1 : decode cX1_readRule 1 = .ok ((.getfield 24), 3) := by decide +kernel
theorem dX1_readRule_4 : decode cX1_readRule 4 = .ok ((.iload_n 1), 1) := by decide +kernel
theorem dX1_readRule_5 : decode cX1_readRule 5 = .ok ((.invokestatic 51), 3) := by decide +kernel
theorem dX1_readRule_8 : decode cX1_readRule 8 = .ok ((.ifCond .eq 12), 3) := by decide +kernel
theorem dX1_readRule_11 : decode cX1_readRule 11 = .ok ((.aload_n 0), 1) := by decide +kernel
theorem dX1_readRule_12 : decode cX1_readRule 12 = .ok ((.getfield 9), 3) := by decide +kernel
theorem dX1_readRule_15 : decode cX1_readRule 15 = .ok ((.iconst 5), 1) := by decide +kernel
theorem dX1_readRule_16 : decode cX1_readRule 16 = .ok ((.invokevirtual 48), 3) := by decide +kernel
theorem dX1_readRule_19 : decode cX1_readRule 19 = .ok (.ireturn, 1) := by decide +kernel
theorem dX1_readRule_20 : decode cX1_readRule 20 = .ok ((.aload_n 0), 1) := by decide +kernel
theorem dX1_readRule_21 : decode cX1_readRule 21 = .ok ((.getfield 9), 3) := by decide +kernel
theorem dX1_readRule_24 : decode cX1_readRule 24 = .ok ((.invokevirtual 55), 3) := by decide +kernel
theorem dX1_readRule_27 : decode cX1_readRule 27 = .ok ((.aload_n 0), 1) := by decide +kernel
theorem dX1_readRule_28 : decode cX1_readRule 28 = .ok ((.getfield 9), 3) := by decide +kernel
theorem dX1_readRule_31 : decode cX1_readRule 31 = .ok ((.getstatic 58), 3) := by decide +kernel
theorem dX1_readRule_34 : decode cX1_readRule 34 = .ok ((.iload_n 1), 1) := by decide +kernel
theorem dX1_readRule_35 : decode cX1_readRule 35 = .ok ((.invokestatic 62), 3) := by decide +kernel
theorem dX1_readRule_38 : decode cX1_readRule 38 = .ok ((.getstatic 66), 3) := by decide +kernel
theorem dX1_readRule_41 : decode cX1_readRule 41 = .ok ((.iload_n 1), 1) := by decide +kernel
theorem dX1_readRule_42 : decode cX1_readRule 42 = .ok ((.invokestatic 62), 3) := by decide +kernel
theorem dX1_readRule_45 : decode cX1_readRule 45 = .ok ((.invokevirtual 69), 3) := by decide +kernel
theorem dX1_readRule_48 : decode cX1_readRule 48 = .ok ((.ifCond .ne 5), 3) := by decide +kernel
theorem dX1_readRule_51 : decode cX1_readRule 51 = .ok ((.iconst 0), 1) := by decide +kernel
theorem dX1_readRule_52 : decode cX1_readRule 52 = .ok (.ireturn, 1) := by decide +kernel
theorem dX1_readRule_53 : decode cX1_readRule 53 = .ok ((.aload_n 0), 1) := by decide +kernel
theorem dX1_readRule_54 : decode cX1_readRule 54 = .ok (.dup, 1) := by decide +kernel
theorem dX1_readRule_55 : decode cX1_readRule 55 = .ok ((.getfield 24), 3) := by decide +kernel
theorem dX1_readRule_58 : decode cX1_readRule 58 = .ok ((.iconst 1), 1) := by decide +kernel
theorem dX1_readRule_59 : decode cX1_readRule 59 = .ok ((.iload_n 1), 1) := by decide +kernel
theorem dX1_readRule_60 : decode cX1_readRule 60 = .ok (.ishl, 1) := by decide +kernel
theorem dX1_readRule_61 : decode cX1_readRule 61 = .ok (.ior, 1) := by decide +kernel
theorem dX1_readRule_62 : decode cX1_readRule 62 = .ok ((.putfield 24), 3) := by decide +kernel
theorem dX1_readRule_65 : decode cX1_readRule 65 = .ok ((.aload_n 0), 1) := by decide +kernel
theorem dX1_readRule_66 : decode cX1_readRule 66 = .ok ((.getfield 15), 3) := by decide +kernel
theorem dX1_readRule_69 : decode cX1_readRule 69 = .ok ((.getfield 72), 3) := by decide +kernel
theorem dX1_readRule_72 : decode cX1_readRule 72 = .ok ((.iload_n 1), 1) := by decide +kernel
theorem dX1_readRule_73 : decode cX1_readRule 73 = .ok ((.aload_n 0), 1) := by decide +kernel
theorem dX1_readRule_74 : decode cX1_readRule 74 = .ok ((.getfield 9), 3) := by decide +kernel
theorem dX1_readRule_77 : decode cX1_readRule 77 = .ok ((.invokevirtual 75), 3) := by decide +kernel
theorem dX1_readRule_80 : decode cX1_readRule 80 = .ok ((.invokestatic 78), 3) := by decide +kernel
theorem dX1_readRule_83 : decode cX1_readRule 83 = .ok ((.aload_n 0), 1) := by decide +kernel
theorem dX1_readRule_84 : decode cX1_readRule 84 = .ok ((.getfield 9), 3) := by decide +kernel
theorem dX1_readRule_87 : decode cX1_readRule 87 = .ok ((.invokevirtual 82), 3) := by decide +kernel
theorem dX1_readRule_90 : decode cX1_readRule 90 = .ok (.ireturn, 1) := by decide +kernel
def p_X1_readRule   (S : vSt) (a1 : Int32) (post : Bool → vSt → Prop) : Prop := p_X10_isIn  S (S.1 55 2) a1 (fun r19 S18 => ((r19 = false → p_X6_pass  S18  (fun S20 => p_X10_at_s 1 S20 a1 (fun r22 S21 => p_X10_at_s 2 S21 a1 (fun r24 S23 => p_X6_takeNumber  S23 r22 r24 (fun r26 S25 => ((r26 = true → ∀ S27, S27 = v_si S25 55 2 ((S25.1 55 2) ||| ((1 : Int32) <<< (a1 &&& 31))) → p_X6_number  S27  (fun r29 S28 => p_X10_put 33 4 S28 a1 r29 (fun S30 => p_X6_takeSemicolon  S30  (fun r32 S31 => post r32 S31)))) ∧ (r26 = false → post false S25))))))) ∧ (r19 = true → p_X6_blame  S18 5 (fun r34 S33 => post r34 S33))))
set_option maxHeartbeats 4000000 in
set_option maxRecDepth 100000 in
theorem c_X1_readRule (l : Launch) (G : vG)    {S : vSt} (a1 : Int32) (post : Bool → vSt → Prop) (h : p_X1_readRule   S a1 post) : Met l yX1_readRule (v_ws yX1_readRule cX1_readRule 2 (some .boolean)) (v_rm 3 103) (v_Pc G [.ref (G.1 55), .int a1] S) (v_Qz G post) 0 0 (v_A G) := by
  refine v_start (by decide +kernel) (Nat.le_of_ble_eq_true rfl) (fun X hl C D => ?_)
  subst hl
  have C : v_Cx X G cX1_readRule RX1 2 (v_rm 3 103) := C
  show VJ X G S 0 [(0, .ref (G.1 55)), (1, .int a1)] []
  refine V_aload_n C 0 dX1_readRule_0 rfl rfl ?_
  refine V_gi C 55 (by decide) (by decide) F_1_2 k_RX1_24 dX1_readRule_1 ?_
  refine V_iload_n C 1 dX1_readRule_4 rfl rfl ?_
  refine V_callSNz (As := [.int (S.1 55 2), .int a1]) (rest := []) C (c_X10_isIn (v_l X) G  _ _ _ h) KV_X10_isIn (List.mem_of_getElem? (i := 28) rfl) rfl rfl rfl (Nat.le_of_ble_eq_true rfl) ⟨Nat.le_of_ble_eq_true rfl, Nat.le_of_ble_eq_true rfl⟩ dX1_readRule_5 (fun r19 S18 h => ?_)
  refine V_ifb_eq (tgt := 20) C dX1_readRule_8 (by decide) (fun c => ?_) (fun c => ?_)
  · have h := h.1 c
    refine V_aload_n C 0 dX1_readRule_20 rfl rfl ?_
    refine V_ga C 55 (by decide) (by decide) F_1_0 k_RX1_9 dX1_readRule_21 ?_
    refine V_callVv (As := []) (rest := []) C (c_X6_pass (v_l X) G  _ h) 5 6 (by decide) (by decide) (by decide) rfl KV_X6_pass k_RX1_55 rfl rfl rfl (Nat.le_of_ble_eq_true rfl) ⟨Nat.le_of_ble_eq_true rfl, Nat.le_of_ble_eq_true rfl⟩ dX1_readRule_24 (fun S20 h => ?_)
    refine V_aload_n C 0 dX1_readRule_27 rfl rfl ?_
    refine V_ga C 55 (by decide) (by decide) F_1_0 k_RX1_9 dX1_readRule_28 ?_
    refine V_getsN C 1 (by decide) (List.mem_of_getElem? (i := 1) rfl) dX1_readRule_31 ?_
    refine V_iload_n C 1 dX1_readRule_34 rfl rfl ?_
    refine V_callSNi (As := [.ref (G.1 146), .int a1]) (rest := [.ref (G.1 5)]) C (c_X10_at_s (v_l X) G (by decide) _ _ h) KV_X10_at (List.mem_of_getElem? (i := 29) rfl) rfl rfl rfl (Nat.le_of_ble_eq_true rfl) ⟨Nat.le_of_ble_eq_true rfl, Nat.le_of_ble_eq_true rfl⟩ dX1_readRule_35 (fun r22 S21 h => ?_)
    refine V_getsN C 2 (by decide) (List.mem_of_getElem? (i := 2) rfl) dX1_readRule_38 ?_
    refine V_iload_n C 1 dX1_readRule_41 rfl rfl ?_
    refine V_callSNi (As := [.ref (G.1 147), .int a1]) (rest := [.int r22, .ref (G.1 5)]) C (c_X10_at_s (v_l X) G (by decide) _ _ h) KV_X10_at (List.mem_of_getElem? (i := 29) rfl) rfl rfl rfl (Nat.le_of_ble_eq_true rfl) ⟨Nat.le_of_ble_eq_true rfl, Nat.le_of_ble_eq_true rfl⟩ dX1_readRule_42 (fun r24 S23 h => ?_)
    refine V_callVz (As := [.int r22, .int r24]) (rest := []) C (c_X6_takeNumber (v_l X) G  _ _ _ h) 5 6 (by decide) (by decide) (by decide) rfl KV_X6_takeNumber k_RX1_69 rfl rfl rfl (Nat.le_of_ble_eq_true rfl) ⟨Nat.le_of_ble_eq_true rfl, Nat.le_of_ble_eq_true rfl⟩ dX1_readRule_45 (fun r26 S25 h => ?_)
    refine V_ifb_ne (tgt := 53) C dX1_readRule_48 (by decide) (fun c => ?_) (fun c => ?_)
    · have h := h.1 c
      refine V_aload_n C 0 dX1_readRule_53 rfl rfl ?_
      refine V_dup C dX1_readRule_54 rfl ?_
      refine V_gi C 55 (by decide) (by decide) F_1_2 k_RX1_24 dX1_readRule_55 ?_
      refine V_iconst (v := 1) C dX1_readRule_58 (by decide) ?_
      refine V_iload_n C 1 dX1_readRule_59 rfl rfl ?_
      refine V_ishl C dX1_readRule_60 ?_
      refine V_ior C dX1_readRule_61 ?_
      refine V_pi C 55 (by decide) (by decide) P_1_2 k_RX1_24 dX1_readRule_62 ?_
      refine V_topS (fun S27 eS27 => ?_)
      have h := h S27 eS27
      refine V_aload_n C 0 dX1_readRule_65 rfl rfl ?_
      refine V_ga C 55 (by decide) (by decide) F_1_1 k_RX1_15 dX1_readRule_66 ?_
      refine V_gr C 32 (by decide) (by decide) F_0_0 k_RX1_72 dX1_readRule_69 ?_
      refine V_iload_n C 1 dX1_readRule_72 rfl rfl ?_
      refine V_aload_n C 0 dX1_readRule_73 rfl rfl ?_
      refine V_ga C 55 (by decide) (by decide) F_1_0 k_RX1_9 dX1_readRule_74 ?_
      refine V_callVi (As := []) (rest := [.int a1, .ref (G.1 33)]) C (c_X6_number (v_l X) G  _ h) 5 6 (by decide) (by decide) (by decide) rfl KV_X6_number k_RX1_75 rfl rfl rfl (Nat.le_of_ble_eq_true rfl) ⟨Nat.le_of_ble_eq_true rfl, Nat.le_of_ble_eq_true rfl⟩ dX1_readRule_77 (fun r29 S28 h => ?_)
      refine V_callSNv (As := [.ref (G.1 33), .int a1, .int r29]) (rest := []) C (c_X10_put (v_l X) G (by decide) (by decide) _ _ _ h) KV_X10_put (List.mem_of_getElem? (i := 30) rfl) rfl rfl rfl (Nat.le_of_ble_eq_true rfl) ⟨Nat.le_of_ble_eq_true rfl, Nat.le_of_ble_eq_true rfl⟩ dX1_readRule_80 (fun S30 h => ?_)
      refine V_aload_n C 0 dX1_readRule_83 rfl rfl ?_
      refine V_ga C 55 (by decide) (by decide) F_1_0 k_RX1_9 dX1_readRule_84 ?_
      refine V_callVz (As := []) (rest := []) C (c_X6_takeSemicolon (v_l X) G  _ h) 5 6 (by decide) (by decide) (by decide) rfl KV_X6_takeSemicolon k_RX1_82 rfl rfl rfl (Nat.le_of_ble_eq_true rfl) ⟨Nat.le_of_ble_eq_true rfl, Nat.le_of_ble_eq_true rfl⟩ dX1_readRule_87 (fun r32 S31 h => ?_)
      exact V_zret C D dX1_readRule_90 h
    · have h := h.2 c
      refine V_iconst (v := 0) C dX1_readRule_51 (by decide) ?_
      exact V_zret0 C D dX1_readRule_52 h
  · have h := h.2 c
    refine V_aload_n C 0 dX1_readRule_11 rfl rfl ?_
    refine V_ga C 55 (by decide) (by decide) F_1_0 k_RX1_9 dX1_readRule_12 ?_
    refine V_iconst (v := 5) C dX1_readRule_15 (by decide) ?_
    refine V_callVz (As := [.int 5]) (rest := []) C (c_X6_blame (v_l X) G  _ _ h) 5 6 (by decide) (by decide) (by decide) rfl KV_X6_blame k_RX1_48 rfl rfl rfl (Nat.le_of_ble_eq_true rfl) ⟨Nat.le_of_ble_eq_true rfl, Nat.le_of_ble_eq_true rfl⟩ dX1_readRule_16 (fun r34 S33 h => ?_)
    exact V_zret C D dX1_readRule_19 h
/-! HalfAccuser$Tape.wordNow()I -/
theorem dX6_wordNow_0 : decode cX6_wordNow 0 = .ok ((.aload_n 0), 1) := by decide +kernel
theorem dX6_wordNow_1 : decode cX6_wordNow 1 = .ok ((.getfield 95), 3) := by decide +kernel
theorem dX6_wordNow_4 : decode cX6_wordNow 4 = .ok ((.iconst 2), 1) := by decide +kernel
theorem dX6_wordNow_5 : decode cX6_wordNow 5 = .ok ((.if_icmp .ne 11), 3) := by decide +kernel
theorem dX6_wordNow_8 : decode cX6_wordNow 8 = .ok ((.aload_n 0), 1) := by decide +kernel
theorem dX6_wordNow_9 : decode cX6_wordNow 9 = .ok ((.getfield 98), 3) := by decide +kernel
theorem dX6_wordNow_12 : decode cX6_wordNow 12 = .ok (.l2i, 1) := by decide +kernel
theorem dX6_wordNow_13 : decode cX6_wordNow 13 = .ok ((.goto 4), 3) := by decide +kernel
theorem dX6_wordNow_16 : decode cX6_wordNow 16 = .ok ((.iconst (-1)), 1) := by decide +kernel
theorem dX6_wordNow_17 : decode cX6_wordNow 17 = .ok (.ireturn, 1) := by decide +kernel
def p_X6_wordNow   (S : vSt)  (post : Int32 → vSt → Prop) : Prop := ((¬ (S.1 5 7) = 2 → post (-1) S) ∧ ((S.1 5 7) = 2 → post (Int64.toInt32 (S.2 5 9)) S))
set_option maxHeartbeats 4000000 in
set_option maxRecDepth 100000 in
theorem c_X6_wordNow (l : Launch) (G : vG)    {S : vSt}  (post : Int32 → vSt → Prop) (h : p_X6_wordNow   S  post) : Met l yX6_wordNow (v_ws yX6_wordNow cX6_wordNow 1 (some .int)) (v_rm 0 40) (v_Pc G [.ref (G.1 5)] S) (v_Qi G post) 0 0 (v_A G) := by
  refine v_start (by decide +kernel) (Nat.le_of_ble_eq_true rfl) (fun X hl C D => ?_)
  subst hl
  have C : v_Cx X G cX6_wordNow RX6 1 (v_rm 0 40) := C
  show VJ X G S 0 [(0, .ref (G.1 5))] []
  refine V_aload_n C 0 dX6_wordNow_0 rfl rfl ?_
  refine V_gi C 5 (by decide) (by decide) F_6_7 k_RX6_95 dX6_wordNow_1 ?_
  refine V_iconst (v := 2) C dX6_wordNow_4 (by decide) ?_
  refine V_icmp_ne (tgt := 16) C dX6_wordNow_5 (by decide) (fun c => ?_) (fun c => ?_)
  · have h := h.1 c
    refine V_iconst (v := (-1)) C dX6_wordNow_16 (by decide) ?_
    exact V_iret C D dX6_wordNow_17 h
  · have h := h.2 c
    refine V_aload_n C 0 dX6_wordNow_8 rfl rfl ?_
    refine V_gl C 5 (by decide) (by decide) F_6_9 k_RX6_98 dX6_wordNow_9 ?_
    refine V_l2i C dX6_wordNow_12 ?_
    refine V_goto (tgt := 17) C dX6_wordNow_13 (by decide) ?_
    exact V_iret C D dX6_wordNow_17 h
/-! HalfAccuser$CityReader.readText()Z -/
theorem dX1_readText_0 : decode cX1_readText 0 = .ok ((.aload_n 0), 1) := by decide +kernel
theorem dX1_readText_1 : decode cX1_readText 1 = .ok ((.getfield 15), 3) := by decide +kernel
theorem dX1_readText_4 : decode cX1_readText 4 = .ok ((.invokevirtual 19), 3) := by decide +kernel
theorem dX1_readText_7 : decode cX1_readText 7 = .ok ((.aload_n 0), 1) := by decide +kernel
theorem dX1_readText_8 : decode cX1_readText 8 = .ok ((.iconst 0), 1) := by decide +kernel
theorem dX1_readText_9 : decode cX1_readText 9 = .ok ((.putfield 24), 3) := by decide +kernel
theorem dX1_readText_12 : decode cX1_readText 12 = .ok ((.iconst 0), 1) := by decide +kernel
theorem dX1_readText_13 : decode cX1_readText 13 = .ok ((.istore_n 1), 1) := by decide +kernel
theorem dX1_readText_14 : decode cX1_readText 14 = .ok ((.iload_n 1), 1) := by decide +kernel
theorem dX1_readText_15 : decode cX1_readText 15 = .ok ((.sipush 900), 3) := by decide +kernel
theorem dX1_readText_18 : decode cX1_readText 18 = .ok ((.if_icmp .gt 86), 3) := by decide +kernel
theorem dX1_readText_21 : decode cX1_readText 21 = .ok ((.aload_n 0), 1) := by decide +kernel
theorem dX1_readText_22 : decode cX1_readText 22 = .ok ((.getfield 9), 3) := by decide +kernel
theorem dX1_readText_25 : decode cX1_readText 25 = .ok ((.getfield 30), 3) := by decide +kernel
theorem dX1_readText_28 : decode cX1_readText 28 = .ok ((.ifCond .eq 76), 3) := by decide +kernel
theorem dX1_readText_31 : decode cX1_readText 31 = .ok ((.aload_n 0), 1) := by decide +kernel
theorem dX1_readText_32 : decode cX1_readText 32 = .ok ((.getfield 9), 3) := by decide +kernel
theorem dX1_readText_35 : decode cX1_readText 35 = .ok ((.invokevirtual 33), 3) := by decide +kernel
theorem dX1_readText_38 : decode cX1_readText 38 = .ok ((.istore_n 2), 1) := by decide +kernel
theorem dX1_readText_39 : decode cX1_readText 39 = .ok ((.iload_n 2), 1) := by decide +kernel
theorem dX1_readText_40 : decode cX1_readText 40 = .ok ((.ifCond .lt 17), 3) := by decide +kernel
theorem dX1_readText_43 : decode cX1_readText 43 = .ok ((.iload_n 2), 1) := by decide +kernel
theorem dX1_readText_44 : decode cX1_readText 44 = .ok ((.iconst 4), 1) := by decide +kernel
theorem dX1_readText_45 : decode cX1_readText 45 = .ok ((.if_icmp .ge 12), 3) := by decide +kernel
theorem dX1_readText_48 : decode cX1_readText 48 = .ok ((.aload_n 0), 1) := by decide +kernel
theorem dX1_readText_49 : decode cX1_readText 49 = .ok ((.iload_n 2), 1) := by decide +kernel
theorem dX1_readText_50 : decode cX1_readText 50 = .ok ((.invokevirtual 37), 3) := by decide +kernel
theorem dX1_readText_53 : decode cX1_readText 53 = .ok ((.istore_n 3), 1) := by decide +kernel
theorem dX1_readText_54 : decode cX1_readText 54 = .ok ((.goto 38), 3) := by decide +kernel
theorem dX1_readText_57 : decode cX1_readText 57 = .ok ((.iload_n 2), 1) := by decide +kernel
theorem dX1_readText_58 : decode cX1_readText 58 = .ok ((.iconst 4), 1) := by decide +kernel
theorem dX1_readText_59 : decode cX1_readText 59 = .ok ((.if_icmp .ne 11), 3) := by decide +kernel
theorem dX1_readText_62 : decode cX1_readText 62 = .ok ((.aload_n 0), 1) := by decide +kernel
theorem dX1_readText_63 : decode cX1_readText 63 = .ok ((.invokevirtual 41), 3) := by decide +kernel
theorem dX1_readText_66 : decode cX1_readText 66 = .ok ((.istore_n 3), 1) := by decide +kernel
theorem dX1_readText_67 : decode cX1_readText 67 = .ok ((.goto 25), 3) := by decide +kernel
theorem dX1_readText_70 : decode cX1_readText 70 = .ok ((.iload_n 2), 1) := by decide +kernel
theorem dX1_readText_71 : decode cX1_readText 71 = .ok ((.bipush 7), 2) := by decide +kernel
theorem dX1_readText_73 : decode cX1_readText 73 = .ok ((.if_icmp .ne 10), 3) := by decide +kernel
theorem dX1_readText_76 : decode cX1_readText 76 = .ok ((.aload_n 0), 1) := by decide +kernel
theorem dX1_readText_77 : decode cX1_readText 77 = .ok ((.invokevirtual 45), 3) := by decide +kernel
theorem dX1_readText_80 : decode cX1_readText 80 = .ok ((.goto 11), 3) := by decide +kernel
theorem dX1_readText_83 : decode cX1_readText 83 = .ok ((.aload_n 0), 1) := by decide +kernel
theorem dX1_readText_84 : decode cX1_readText 84 = .ok ((.getfield 9), 3) := by decide +kernel
theorem dX1_readText_87 : decode cX1_readText 87 = .ok ((.iconst 2), 1) := by decide +kernel
theorem dX1_readText_88 : decode cX1_readText 88 = .ok ((.invokevirtual 48), 3) := by decide +kernel
theorem dX1_readText_91 : decode cX1_readText 91 = .ok ((.istore_n 3), 1) := by decide +kernel
theorem dX1_readText_92 : decode cX1_readText 92 = .ok ((.iload_n 3), 1) := by decide +kernel
theorem dX1_readText_93 : decode cX1_readText 93 = .ok ((.ifCond .ne 5), 3) := by decide +kernel
theorem dX1_readText_96 : decode cX1_readText 96 = .ok ((.iconst 0), 1) := by decide +kernel
theorem dX1_readText_97 : decode cX1_readText 97 = .ok (.ireturn, 1) := by decide +kernel
theorem dX1_readText_98 : decode cX1_readText 98 = .ok ((.iinc 1 1), 3) := by decide +kernel
theorem dX1_readText_101 : decode cX1_readText 101 = .ok ((.goto (-87)), 3) := by decide +kernel
theorem dX1_readText_104 : decode cX1_readText 104 = .ok ((.iconst 1), 1) := by decide +kernel
theorem dX1_readText_105 : decode cX1_readText 105 = .ok (.ireturn, 1) := by decide +kernel
def p_X1_readText_92    (K14 : vSt → Int32 → Prop) (post : Bool → vSt → Prop) (S : vSt) (x1 : Int32) (x3 : Bool) : Prop := ((x3 = true → ∀ y31 : Int32, y31 = x1 + 1 → K14 S y31) ∧ (x3 = false → post false S))
def p_X1_readText_91    (K14 : vSt → Int32 → Prop) (post : Bool → vSt → Prop) (S : vSt) (x1 : Int32) (s0 : Bool) : Prop := p_X1_readText_92 K14 post S x1 s0
def p_X1_readText_57    (K14 : vSt → Int32 → Prop) (post : Bool → vSt → Prop) (S : vSt) (x1 : Int32) (x2 : Int32) : Prop := ((¬ x2 = 4 → ((¬ x2 = 7 → p_X6_blame  S 2 (fun r30 S29 => p_X1_readText_91 K14 post S29 x1 r30)) ∧ (x2 = 7 → p_X1_readDeed  S  (fun r32 S31 => p_X1_readText_91 K14 post S31 x1 r32)))) ∧ (x2 = 4 → p_X1_readPerson  S  (fun r34 S33 => p_X1_readText_92 K14 post S33 x1 r34)))
def p_X1_readText_14     (post : Bool → vSt → Prop) : Nat → vSt → Int32 → Prop
  | 0 => fun _ _ => False
  | fu14 + 1 => fun S x1 => ((900 < x1 → post true S) ∧ (¬ 900 < x1 → (((S.1 5 7) = 0 → post true S) ∧ (¬ (S.1 5 7) = 0 → p_X6_wordNow  S  (fun r28 S27 => ((r28 < 0 → p_X1_readText_57 (p_X1_readText_14  post fu14) post S27 x1 r28) ∧ (¬ r28 < 0 → ((4 ≤ r28 → p_X1_readText_57 (p_X1_readText_14  post fu14) post S27 x1 r28) ∧ (¬ 4 ≤ r28 → p_X1_readRule  S27 r28 (fun r30 S29 => p_X1_readText_92 (p_X1_readText_14  post fu14) post S29 x1 r30))))))))))
theorem e_X1_readText_14     (post : Bool → vSt → Prop) (fu14 : Nat) (S : vSt) (x1 : Int32) : p_X1_readText_14  post (fu14 + 1) S x1 = (((900 < x1 → post true S) ∧ (¬ 900 < x1 → (((S.1 5 7) = 0 → post true S) ∧ (¬ (S.1 5 7) = 0 → p_X6_wordNow  S  (fun r28 S27 => ((r28 < 0 → p_X1_readText_57 (p_X1_readText_14  post fu14) post S27 x1 r28) ∧ (¬ r28 < 0 → ((4 ≤ r28 → p_X1_readText_57 (p_X1_readText_14  post fu14) post S27 x1 r28) ∧ (¬ 4 ≤ r28 → p_X1_readRule  S27 r28 (fun r30 S29 => p_X1_readText_92 (p_X1_readText_14  post fu14) post S29 x1 r30))))))))))) := rfl
def p_X1_readText   (S : vSt)  (post : Bool → vSt → Prop) : Prop := p_X0_clear 32 S  (fun S25 => ∀ S26, S26 = v_si S25 55 2 0 → ∃ fu14, p_X1_readText_14  post fu14 S26 0)
set_option maxHeartbeats 4000000 in
set_option maxRecDepth 100000 in
theorem q_X1_readText_92 {X : vX} {G : vG}  {post : Bool → vSt → Prop} (C : v_Cx X G cX1_readText RX1 4 (v_rm 5 150)) (D : v_Rx X G (v_Qz G post) (some .boolean))    {K14 : vSt → Int32 → Prop} (hK14 : ∀ S x1, K14 S x1 → VJ X G S 14 [(0, .ref (G.1 55)), (1, .int x1)] []) : ∀ (S : vSt) (x1 : Int32) (x3 : Bool), p_X1_readText_92 K14 post S x1 x3 → VJ X G S 92 [(0, .ref (G.1 55)), (1, .int x1), (3, .int (v_b x3))] [] := by
  intro S x1 x3 h
  refine V_iload_n C 2 dX1_readText_92 rfl rfl ?_
  refine V_ifb_ne (tgt := 98) C dX1_readText_93 (by decide) (fun c => ?_) (fun c => ?_)
  · have h := h.1 c
    obtain ⟨y31, ey31⟩ : ∃ z : Int32, z = x1 + 1 := ⟨_, rfl⟩
    have h := h y31 ey31
    refine V_iinc (lv' := [(0, .ref (G.1 55)), (1, .int y31), (3, .int (v_b x3))]) C 1 [1, 0, 2] y31 dX1_readText_98 rfl (by rw [ey31]; rfl) (by decide) rfl ?_
    refine V_goto (tgt := 14) C dX1_readText_101 (by decide) ?_
    refine V_loc (lv' := [(0, .ref (G.1 55)), (1, .int y31)]) [0, 1] rfl ?_
    exact hK14 _ _ h
  · have h := h.2 c
    refine V_iconst (v := 0) C dX1_readText_96 (by decide) ?_
    exact V_zret0 C D dX1_readText_97 h
set_option maxHeartbeats 4000000 in
set_option maxRecDepth 100000 in
theorem q_X1_readText_91 {X : vX} {G : vG}  {post : Bool → vSt → Prop} (C : v_Cx X G cX1_readText RX1 4 (v_rm 5 150)) (D : v_Rx X G (v_Qz G post) (some .boolean))    {K14 : vSt → Int32 → Prop} (hK14 : ∀ S x1, K14 S x1 → VJ X G S 14 [(0, .ref (G.1 55)), (1, .int x1)] []) : ∀ (S : vSt) (x1 : Int32) (s0 : Bool), p_X1_readText_91 K14 post S x1 s0 → VJ X G S 91 [(0, .ref (G.1 55)), (1, .int x1)] [.int (v_b s0)] := by
  intro S x1 s0 h
  refine V_istore_n (lv' := [(0, .ref (G.1 55)), (1, .int x1), (3, .int (v_b s0))]) C [1, 2, 0] dX1_readText_91 rfl (by decide) rfl ?_
  exact q_X1_readText_92 C D hK14 _ _ _ h
set_option maxHeartbeats 4000000 in
set_option maxRecDepth 100000 in
theorem q_X1_readText_57 {X : vX} {G : vG}  {post : Bool → vSt → Prop} (C : v_Cx X G cX1_readText RX1 4 (v_rm 5 150)) (D : v_Rx X G (v_Qz G post) (some .boolean))    {K14 : vSt → Int32 → Prop} (hK14 : ∀ S x1, K14 S x1 → VJ X G S 14 [(0, .ref (G.1 55)), (1, .int x1)] []) : ∀ (S : vSt) (x1 : Int32) (x2 : Int32), p_X1_readText_57 K14 post S x1 x2 → VJ X G S 57 [(0, .ref (G.1 55)), (1, .int x1), (2, .int x2)] [] := by
  intro S x1 x2 h
  refine V_iload_n C 2 dX1_readText_57 rfl rfl ?_
  refine V_iconst (v := 4) C dX1_readText_58 (by decide) ?_
  refine V_icmp_ne (tgt := 70) C dX1_readText_59 (by decide) (fun c => ?_) (fun c => ?_)
  · have h := h.1 c
    refine V_iload_n C 2 dX1_readText_70 rfl rfl ?_
    refine V_bipush (v := 7) C dX1_readText_71 (by decide) ?_
    refine V_icmp_ne (tgt := 83) C dX1_readText_73 (by decide) (fun c => ?_) (fun c => ?_)
    · have h := h.1 c
      refine V_aload_n C 0 dX1_readText_83 rfl rfl ?_
      refine V_ga C 55 (by decide) (by decide) F_1_0 k_RX1_9 dX1_readText_84 ?_
      refine V_iconst (v := 2) C dX1_readText_87 (by decide) ?_
      refine V_callVz (As := [.int 2]) (rest := []) C (c_X6_blame (v_l X) G  _ _ h) 5 6 (by decide) (by decide) (by decide) rfl KV_X6_blame k_RX1_48 rfl rfl rfl (Nat.le_of_ble_eq_true rfl) ⟨Nat.le_of_ble_eq_true rfl, Nat.le_of_ble_eq_true rfl⟩ dX1_readText_88 (fun r30 S29 h => ?_)
      refine V_loc (lv' := [(0, .ref (G.1 55)), (1, .int x1)]) [0, 1] rfl ?_
      exact q_X1_readText_91 C D hK14 _ _ _ h
    · have h := h.2 c
      refine V_aload_n C 0 dX1_readText_76 rfl rfl ?_
      refine V_callVz (As := []) (rest := []) C (c_X1_readDeed (v_l X) G  _ h) 55 1 (by decide) (by decide) (by decide) rfl KV_X1_readDeed k_RX1_45 rfl rfl rfl (Nat.le_of_ble_eq_true rfl) ⟨Nat.le_of_ble_eq_true rfl, Nat.le_of_ble_eq_true rfl⟩ dX1_readText_77 (fun r32 S31 h => ?_)
      refine V_goto (tgt := 91) C dX1_readText_80 (by decide) ?_
      refine V_loc (lv' := [(0, .ref (G.1 55)), (1, .int x1)]) [0, 1] rfl ?_
      exact q_X1_readText_91 C D hK14 _ _ _ h
  · have h := h.2 c
    refine V_aload_n C 0 dX1_readText_62 rfl rfl ?_
    refine V_callVz (As := []) (rest := []) C (c_X1_readPerson (v_l X) G  _ h) 55 1 (by decide) (by decide) (by decide) rfl KV_X1_readPerson k_RX1_41 rfl rfl rfl (Nat.le_of_ble_eq_true rfl) ⟨Nat.le_of_ble_eq_true rfl, Nat.le_of_ble_eq_true rfl⟩ dX1_readText_63 (fun r34 S33 h => ?_)
    refine V_istore_n (lv' := [(0, .ref (G.1 55)), (1, .int x1), (2, .int x2), (3, .int (v_b r34))]) C [1, 2, 3, 0] dX1_readText_66 rfl (by decide) rfl ?_
    refine V_goto (tgt := 92) C dX1_readText_67 (by decide) ?_
    refine V_loc (lv' := [(0, .ref (G.1 55)), (1, .int x1), (3, .int (v_b r34))]) [0, 1, 3] rfl ?_
    exact q_X1_readText_92 C D hK14 _ _ _ h
set_option maxHeartbeats 4000000 in
set_option maxRecDepth 100000 in
theorem q_X1_readText_14 {X : vX} {G : vG}  {post : Bool → vSt → Prop} (C : v_Cx X G cX1_readText RX1 4 (v_rm 5 150)) (D : v_Rx X G (v_Qz G post) (some .boolean))     : ∀ (fu : Nat) (S : vSt) (x1 : Int32), p_X1_readText_14  post fu S x1 → VJ X G S 14 [(0, .ref (G.1 55)), (1, .int x1)] [] := by
  intro fu
  induction fu with
  | zero => intro S x1 h; exact absurd h id
  | succ fu ih =>
    intro S x1 h
    have hK14 := ih
    rw [e_X1_readText_14] at h
    refine V_iload_n C 1 dX1_readText_14 rfl rfl ?_
    refine V_sipush (v := 900) C dX1_readText_15 (by decide) ?_
    refine V_icmp_gt (tgt := 104) C dX1_readText_18 (by decide) (fun c => ?_) (fun c => ?_)
    · have h := h.1 c
      refine V_iconst (v := 1) C dX1_readText_104 (by decide) ?_
      exact V_zret1 C D dX1_readText_105 h
    · have h := h.2 c
      refine V_aload_n C 0 dX1_readText_21 rfl rfl ?_
      refine V_ga C 55 (by decide) (by decide) F_1_0 k_RX1_9 dX1_readText_22 ?_
      refine V_gi C 5 (by decide) (by decide) F_6_7 k_RX1_30 dX1_readText_25 ?_
      refine V_if_eq (tgt := 104) C dX1_readText_28 (by decide) (fun c => ?_) (fun c => ?_)
      · have h := h.1 c
        refine V_iconst (v := 1) C dX1_readText_104 (by decide) ?_
        exact V_zret1 C D dX1_readText_105 h
      · have h := h.2 c
        refine V_aload_n C 0 dX1_readText_31 rfl rfl ?_
        refine V_ga C 55 (by decide) (by decide) F_1_0 k_RX1_9 dX1_readText_32 ?_
        refine V_callVi (As := []) (rest := []) C (c_X6_wordNow (v_l X) G  _ h) 5 6 (by decide) (by decide) (by decide) rfl KV_X6_wordNow k_RX1_33 rfl rfl rfl (Nat.le_of_ble_eq_true rfl) ⟨Nat.le_of_ble_eq_true rfl, Nat.le_of_ble_eq_true rfl⟩ dX1_readText_35 (fun r28 S27 h => ?_)
        refine V_istore_n (lv' := [(0, .ref (G.1 55)), (1, .int x1), (2, .int r28)]) C [1, 2, 0] dX1_readText_38 rfl (by decide) rfl ?_
        refine V_iload_n C 2 dX1_readText_39 rfl rfl ?_
        refine V_if_lt (tgt := 57) C dX1_readText_40 (by decide) (fun c => ?_) (fun c => ?_)
        · have h := h.1 c
          exact q_X1_readText_57 C D hK14 _ _ _ h
        · have h := h.2 c
          refine V_iload_n C 2 dX1_readText_43 rfl rfl ?_
          refine V_iconst (v := 4) C dX1_readText_44 (by decide) ?_
          refine V_icmp_ge (tgt := 57) C dX1_readText_45 (by decide) (fun c => ?_) (fun c => ?_)
          · have h := h.1 c
            exact q_X1_readText_57 C D hK14 _ _ _ h
          · have h := h.2 c
            refine V_aload_n C 0 dX1_readText_48 rfl rfl ?_
            refine V_iload_n C 2 dX1_readText_49 rfl rfl ?_
            refine V_callVz (As := [.int r28]) (rest := []) C (c_X1_readRule (v_l X) G  _ _ h) 55 1 (by decide) (by decide) (by decide) rfl KV_X1_readRule k_RX1_37 rfl rfl rfl (Nat.le_of_ble_eq_true rfl) ⟨Nat.le_of_ble_eq_true rfl, Nat.le_of_ble_eq_true rfl⟩ dX1_readText_50 (fun r30 S29 h => ?_)
            refine V_istore_n (lv' := [(0, .ref (G.1 55)), (1, .int x1), (2, .int r28), (3, .int (v_b r30))]) C [1, 2, 3, 0] dX1_readText_53 rfl (by decide) rfl ?_
            refine V_goto (tgt := 92) C dX1_readText_54 (by decide) ?_
            refine V_loc (lv' := [(0, .ref (G.1 55)), (1, .int x1), (3, .int (v_b r30))]) [0, 1, 3] rfl ?_
            exact q_X1_readText_92 C D hK14 _ _ _ h
set_option maxHeartbeats 4000000 in
set_option maxRecDepth 100000 in
theorem c_X1_readText (l : Launch) (G : vG)    {S : vSt}  (post : Bool → vSt → Prop) (h : p_X1_readText   S  post) : Met l yX1_readText (v_ws yX1_readText cX1_readText 4 (some .boolean)) (v_rm 5 150) (v_Pc G [.ref (G.1 55)] S) (v_Qz G post) 0 0 (v_A G) := by
  refine v_start (by decide +kernel) (Nat.le_of_ble_eq_true rfl) (fun X hl C D => ?_)
  subst hl
  have C : v_Cx X G cX1_readText RX1 4 (v_rm 5 150) := C
  show VJ X G S 0 [(0, .ref (G.1 55))] []
  refine V_aload_n C 0 dX1_readText_0 rfl rfl ?_
  refine V_ga C 55 (by decide) (by decide) F_1_1 k_RX1_15 dX1_readText_1 ?_
  refine V_callVv (As := []) (rest := []) C (c_X0_clear (v_l X) G v_i32 _ h) 32 0 (by decide) (by decide) (by decide) rfl KV_X0_clear k_RX1_19 rfl rfl rfl (Nat.le_of_ble_eq_true rfl) ⟨Nat.le_of_ble_eq_true rfl, Nat.le_of_ble_eq_true rfl⟩ dX1_readText_4 (fun S25 h => ?_)
  refine V_aload_n C 0 dX1_readText_7 rfl rfl ?_
  refine V_iconst (v := 0) C dX1_readText_8 (by decide) ?_
  refine V_pi C 55 (by decide) (by decide) P_1_2 k_RX1_24 dX1_readText_9 ?_
  refine V_topS (fun S26 eS26 => ?_)
  have h := h S26 eS26
  refine V_iconst (v := 0) C dX1_readText_12 (by decide) ?_
  refine V_istore_n (lv' := [(0, .ref (G.1 55)), (1, .int 0)]) C [1, 0] dX1_readText_13 rfl (by decide) rfl ?_
  obtain ⟨fu14, h⟩ := h
  exact q_X1_readText_14 C D  fu14 _ _ h
