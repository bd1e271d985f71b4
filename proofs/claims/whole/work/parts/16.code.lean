/-! HalfAccuser.copy([I[I)V -/
theorem dX10_copy_0 : decode cX10_copy 0 = .ok ((.aload_n 0), 1) := by decide +kernel
theorem dX10_copy_1 : decode cX10_copy 1 = .ok ((.iconst 0), 1) := by decide +kernel
theorem dX10_copy_2 : decode cX10_copy 2 = .ok ((.aload_n 1), 1) := by decide +kernel
theorem dX10_copy_3 : decode cX10_copy 3 = .ok ((.iconst 0), 1) := by decide +kernel
theorem dX10_copy_4 : decode cX10_copy 4 = .ok ((.aload_n 0), 1) := by decide +kernel
theorem dX10_copy_5 : decode cX10_copy 5 = .ok (.arraylength, 1) := by decide +kernel
theorem dX10_copy_6 : decode cX10_copy 6 = .ok ((.aload_n 1), 1) := by decide +kernel
theorem dX10_copy_7 : decode cX10_copy 7 = .ok (.arraylength, 1) := by decide +kernel
theorem dX10_copy_8 : decode cX10_copy 8 = .ok ((.invokestatic 455), 3) := by decide +kernel
theorem dX10_copy_11 : decode cX10_copy 11 = .ok ((.invokestatic 458), 3) := by decide +kernel
theorem dX10_copy_14 : decode cX10_copy 14 = .ok (.return_, 1) := by decide +kernel
def p_X10_copy (k0 n0 k1 n1 : Nat)  (S : vSt)  (post : vSt → Prop) : Prop := (v_cpo 0 0 (v_mini (Int32.ofNat n0) (Int32.ofNat n1)) n0 n1 ∧ ∀ S2, S2 = v_ci S k0 k1 (Int32.toNatClampNeg 0) (Int32.toNatClampNeg 0) (Int32.toNatClampNeg (v_mini (Int32.ofNat n0) (Int32.ofNat n1))) → post S2)
set_option maxHeartbeats 4000000 in
set_option maxRecDepth 100000 in
theorem c_X10_copy (l : Launch) (G : vG)  {k0 n0 : Nat} (hk0 : k0 < 155) (hs0 : v_sh k0 = (13, n0)) {k1 n1 : Nat} (hk1 : k1 < 155) (hs1 : v_sh k1 = (13, n1))  {S : vSt}  (post : vSt → Prop) (h : p_X10_copy k0 n0 k1 n1  S  post) : Met l yX10_copy (v_ws yX10_copy cX10_copy 2 none) (v_rm 1 80) (v_Pc G [.ref (G.1 k0), .ref (G.1 k1)] S) (v_Qv G post) 0 0 (v_A G) := by
  refine v_start (by decide +kernel) (Nat.le_of_ble_eq_true rfl) (fun X hl C D => ?_)
  subst hl
  have C : v_Cx X G cX10_copy RX10 2 (v_rm 1 80) := C
  show VJ X G S 0 [(0, .ref (G.1 k0)), (1, .ref (G.1 k1))] []
  refine V_aload_n C 0 dX10_copy_0 rfl rfl ?_
  refine V_iconst (v := 0) C dX10_copy_1 (by decide) ?_
  refine V_aload_n C 1 dX10_copy_2 rfl rfl ?_
  refine V_iconst (v := 0) C dX10_copy_3 (by decide) ?_
  refine V_aload_n C 0 dX10_copy_4 rfl rfl ?_
  refine V_alen C k0 n0 hk0 (Or.inr (Or.inl hs0)) dX10_copy_5 ?_
  refine V_aload_n C 1 dX10_copy_6 rfl rfl ?_
  refine V_alen C k1 n1 hk1 (Or.inr (Or.inl hs1)) dX10_copy_7 ?_
  refine V_mini C k_RX10_455 (Nat.le_of_ble_eq_true rfl) ⟨Nat.le_of_ble_eq_true rfl, Nat.le_of_ble_eq_true rfl⟩ dX10_copy_8 ?_
  obtain ⟨ho, h⟩ := h
  refine V_copyi C k0 k1 n0 n1 hk0 hs0 hk1 hs1 ho k_RX10_458 (Nat.le_of_ble_eq_true rfl) ⟨Nat.le_of_ble_eq_true rfl, by decide +kernel⟩ dX10_copy_11 ?_
  refine V_topS (fun S2 eS2 => ?_)
  have h := h S2 eS2
  exact V_vret C D dX10_copy_14 h
/-! HalfAccuser.copy([I[I)V -/
def p_X10_copy_s (i0 k1 n1 : Nat)  (S : vSt)  (post : vSt → Prop) : Prop := (v_cpo 0 0 (v_mini 4 (Int32.ofNat n1)) 4 n1 ∧ ∀ S2, S2 = v_cs S i0 k1 (Int32.toNatClampNeg 0) (Int32.toNatClampNeg 0) (Int32.toNatClampNeg (v_mini 4 (Int32.ofNat n1))) → post S2)
set_option maxHeartbeats 4000000 in
set_option maxRecDepth 100000 in
theorem c_X10_copy_s (l : Launch) (G : vG)  {i0 : Nat} (hi0 : i0 < 3) {k1 n1 : Nat} (hk1 : k1 < 155) (hs1 : v_sh k1 = (13, n1))  {S : vSt}  (post : vSt → Prop) (h : p_X10_copy_s i0 k1 n1  S  post) : Met l yX10_copy (v_ws yX10_copy cX10_copy 2 none) (v_rm 1 80) (v_Pc G [.ref (G.1 (155 + i0)), .ref (G.1 k1)] S) (v_Qv G post) 0 0 (v_A G) := by
  refine v_start (by decide +kernel) (Nat.le_of_ble_eq_true rfl) (fun X hl C D => ?_)
  subst hl
  have C : v_Cx X G cX10_copy RX10 2 (v_rm 1 80) := C
  show VJ X G S 0 [(0, .ref (G.1 (155 + i0))), (1, .ref (G.1 k1))] []
  refine V_aload_n C 0 dX10_copy_0 rfl rfl ?_
  refine V_iconst (v := 0) C dX10_copy_1 (by decide) ?_
  refine V_aload_n C 1 dX10_copy_2 rfl rfl ?_
  refine V_iconst (v := 0) C dX10_copy_3 (by decide) ?_
  refine V_aload_n C 0 dX10_copy_4 rfl rfl ?_
  refine V_tlen C i0 hi0 dX10_copy_5 ?_
  refine V_aload_n C 1 dX10_copy_6 rfl rfl ?_
  refine V_alen C k1 n1 hk1 (Or.inr (Or.inl hs1)) dX10_copy_7 ?_
  refine V_mini C k_RX10_455 (Nat.le_of_ble_eq_true rfl) ⟨Nat.le_of_ble_eq_true rfl, Nat.le_of_ble_eq_true rfl⟩ dX10_copy_8 ?_
  obtain ⟨ho, h⟩ := h
  refine V_copys C i0 k1 n1 hi0 hk1 hs1 ho k_RX10_458 (Nat.le_of_ble_eq_true rfl) ⟨Nat.le_of_ble_eq_true rfl, by decide +kernel⟩ dX10_copy_11 ?_
  refine V_topS (fun S2 eS2 => ?_)
  have h := h S2 eS2
  exact V_vret C D dX10_copy_14 h
/-! HalfAccuser$City.clear()V -/
theorem dX0_clear_0 : decode cX0_clear 0 = .ok ((.getstatic 65), 3) := by decide +kernel
theorem dX0_clear_3 : decode cX0_clear 3 = .ok ((.aload_n 0), 1) := by decide +kernel
theorem dX0_clear_4 : decode cX0_clear 4 = .ok ((.getfield 9), 3) := by decide +kernel
theorem dX0_clear_7 : decode cX0_clear 7 = .ok ((.invokestatic 68), 3) := by decide +kernel
theorem dX0_clear_10 : decode cX0_clear 10 = .ok ((.aload_n 0), 1) := by decide +kernel
theorem dX0_clear_11 : decode cX0_clear 11 = .ok ((.iconst 0), 1) := by decide +kernel
theorem dX0_clear_12 : decode cX0_clear 12 = .ok ((.putfield 72), 3) := by decide +kernel
theorem dX0_clear_15 : decode cX0_clear 15 = .ok ((.aload_n 0), 1) := by decide +kernel
theorem dX0_clear_16 : decode cX0_clear 16 = .ok ((.iconst 0), 1) := by decide +kernel
theorem dX0_clear_17 : decode cX0_clear 17 = .ok ((.putfield 76), 3) := by decide +kernel
theorem dX0_clear_20 : decode cX0_clear 20 = .ok ((.aload_n 0), 1) := by decide +kernel
theorem dX0_clear_21 : decode cX0_clear 21 = .ok ((.iconst 0), 1) := by decide +kernel
theorem dX0_clear_22 : decode cX0_clear 22 = .ok ((.putfield 79), 3) := by decide +kernel
theorem dX0_clear_25 : decode cX0_clear 25 = .ok ((.aload_n 0), 1) := by decide +kernel
theorem dX0_clear_26 : decode cX0_clear 26 = .ok ((.iconst 0), 1) := by decide +kernel
theorem dX0_clear_27 : decode cX0_clear 27 = .ok ((.putfield 82), 3) := by decide +kernel
theorem dX0_clear_30 : decode cX0_clear 30 = .ok ((.aload_n 0), 1) := by decide +kernel
theorem dX0_clear_31 : decode cX0_clear 31 = .ok ((.getfield 58), 3) := by decide +kernel
theorem dX0_clear_34 : decode cX0_clear 34 = .ok ((.invokevirtual 85), 3) := by decide +kernel
theorem dX0_clear_37 : decode cX0_clear 37 = .ok (.return_, 1) := by decide +kernel
def p_X0_clear (b : Nat)  (S : vSt)  (post : vSt → Prop) : Prop := p_X10_copy_s 0 (b + 1) 4 S  (fun S7 => ∀ S8, S8 = v_si S7 b 15 0 → ∀ S9, S9 = v_si S8 b 16 0 → ∀ S10, S10 = v_si S9 b 17 0 → ∀ S11, S11 = v_si S10 b 18 0 → p_X8_clear b S11  (fun S12 => post S12))
set_option maxHeartbeats 4000000 in
set_option maxRecDepth 100000 in
theorem c_X0_clear (l : Launch) (G : vG)  {b : Nat} (hb : v_isC b)  {S : vSt}  (post : vSt → Prop) (h : p_X0_clear b  S  post) : Met l yX0_clear (v_ws yX0_clear cX0_clear 1 none) (v_rm 2 101) (v_Pc G [.ref (G.1 b)] S) (v_Qv G post) 0 0 (v_A G) := by
  refine v_start (by decide +kernel) (Nat.le_of_ble_eq_true rfl) (fun X hl C D => ?_)
  subst hl
  have C : v_Cx X G cX0_clear RX0 1 (v_rm 2 101) := C
  show VJ X G S 0 [(0, .ref (G.1 b))] []
  refine V_getsN C 0 (by decide) (List.mem_of_getElem? (i := 0) rfl) dX0_clear_0 ?_
  refine V_aload_n C 0 dX0_clear_3 rfl rfl ?_
  refine V_gr C b (v_cb hb 0 (by decide)) (v_co0 hb) F_0_0 k_RX0_9 dX0_clear_4 ?_
  refine V_callSNv (As := [.ref (G.1 155), .ref (G.1 (b + 1))]) (rest := []) C (c_X10_copy_s (v_l X) G (by decide) (v_cb hb 1 (by decide)) (v_ca1 hb) _ h) KV_X10_copy (List.mem_of_getElem? (i := 2) rfl) rfl rfl rfl (Nat.le_of_ble_eq_true rfl) ⟨Nat.le_of_ble_eq_true rfl, Nat.le_of_ble_eq_true rfl⟩ dX0_clear_7 (fun S7 h => ?_)
  refine V_aload_n C 0 dX0_clear_10 rfl rfl ?_
  refine V_iconst (v := 0) C dX0_clear_11 (by decide) ?_
  refine V_pi C b (v_cb hb 0 (by decide)) (v_co0 hb) P_0_15 k_RX0_72 dX0_clear_12 ?_
  refine V_topS (fun S8 eS8 => ?_)
  have h := h S8 eS8
  refine V_aload_n C 0 dX0_clear_15 rfl rfl ?_
  refine V_iconst (v := 0) C dX0_clear_16 (by decide) ?_
  refine V_pi C b (v_cb hb 0 (by decide)) (v_co0 hb) P_0_16 k_RX0_76 dX0_clear_17 ?_
  refine V_topS (fun S9 eS9 => ?_)
  have h := h S9 eS9
  refine V_aload_n C 0 dX0_clear_20 rfl rfl ?_
  refine V_iconst (v := 0) C dX0_clear_21 (by decide) ?_
  refine V_pi C b (v_cb hb 0 (by decide)) (v_co0 hb) P_0_17 k_RX0_79 dX0_clear_22 ?_
  refine V_topS (fun S10 eS10 => ?_)
  have h := h S10 eS10
  refine V_aload_n C 0 dX0_clear_25 rfl rfl ?_
  refine V_iconst (v := 0) C dX0_clear_26 (by decide) ?_
  refine V_pi C b (v_cb hb 0 (by decide)) (v_co0 hb) P_0_18 k_RX0_82 dX0_clear_27 ?_
  refine V_topS (fun S11 eS11 => ?_)
  have h := h S11 eS11
  refine V_aload_n C 0 dX0_clear_30 rfl rfl ?_
  refine V_gr C b (v_cb hb 0 (by decide)) (v_co0 hb) F_0_14 k_RX0_58 dX0_clear_31 ?_
  refine V_callVv (As := []) (rest := []) C (c_X8_clear (v_l X) G hb _ h) (b + 15) 8 (v_cb hb 15 (by decide)) (v_co15 hb) (by decide) rfl KV_X8_clear k_RX0_85 rfl rfl rfl (Nat.le_of_ble_eq_true rfl) ⟨Nat.le_of_ble_eq_true rfl, Nat.le_of_ble_eq_true rfl⟩ dX0_clear_34 (fun S12 h => ?_)
  exact V_vret C D dX0_clear_37 h
/-! HalfAccuser.copy([J[J)V -/
theorem dX10_copy__0 : decode cX10_copy_ 0 = .ok ((.aload_n 0), 1) := by decide +kernel
theorem dX10_copy__1 : decode cX10_copy_ 1 = .ok ((.iconst 0), 1) := by decide +kernel
theorem dX10_copy__2 : decode cX10_copy_ 2 = .ok ((.aload_n 1), 1) := by decide +kernel
theorem dX10_copy__3 : decode cX10_copy_ 3 = .ok ((.iconst 0), 1) := by decide +kernel
theorem dX10_copy__4 : decode cX10_copy_ 4 = .ok ((.aload_n 0), 1) := by decide +kernel
theorem dX10_copy__5 : decode cX10_copy_ 5 = .ok (.arraylength, 1) := by decide +kernel
theorem dX10_copy__6 : decode cX10_copy_ 6 = .ok ((.aload_n 1), 1) := by decide +kernel
theorem dX10_copy__7 : decode cX10_copy_ 7 = .ok (.arraylength, 1) := by decide +kernel
theorem dX10_copy__8 : decode cX10_copy_ 8 = .ok ((.invokestatic 455), 3) := by decide +kernel
theorem dX10_copy__11 : decode cX10_copy_ 11 = .ok ((.invokestatic 458), 3) := by decide +kernel
theorem dX10_copy__14 : decode cX10_copy_ 14 = .ok (.return_, 1) := by decide +kernel
def p_X10_copy_ (k0 n0 k1 n1 : Nat)  (S : vSt)  (post : vSt → Prop) : Prop := (v_cpo 0 0 (v_mini (Int32.ofNat n0) (Int32.ofNat n1)) n0 n1 ∧ ∀ S2, S2 = v_cl S k0 k1 (Int32.toNatClampNeg 0) (Int32.toNatClampNeg 0) (Int32.toNatClampNeg (v_mini (Int32.ofNat n0) (Int32.ofNat n1))) → post S2)
set_option maxHeartbeats 4000000 in
set_option maxRecDepth 100000 in
theorem c_X10_copy_ (l : Launch) (G : vG)  {k0 n0 : Nat} (hk0 : k0 < 155) (hs0 : v_sh k0 = (14, n0)) {k1 n1 : Nat} (hk1 : k1 < 155) (hs1 : v_sh k1 = (14, n1))  {S : vSt}  (post : vSt → Prop) (h : p_X10_copy_ k0 n0 k1 n1  S  post) : Met l yX10_copy_ (v_ws yX10_copy_ cX10_copy_ 2 none) (v_rm 1 80) (v_Pc G [.ref (G.1 k0), .ref (G.1 k1)] S) (v_Qv G post) 0 0 (v_A G) := by
  refine v_start (by decide +kernel) (Nat.le_of_ble_eq_true rfl) (fun X hl C D => ?_)
  subst hl
  have C : v_Cx X G cX10_copy_ RX10 2 (v_rm 1 80) := C
  show VJ X G S 0 [(0, .ref (G.1 k0)), (1, .ref (G.1 k1))] []
  refine V_aload_n C 0 dX10_copy__0 rfl rfl ?_
  refine V_iconst (v := 0) C dX10_copy__1 (by decide) ?_
  refine V_aload_n C 1 dX10_copy__2 rfl rfl ?_
  refine V_iconst (v := 0) C dX10_copy__3 (by decide) ?_
  refine V_aload_n C 0 dX10_copy__4 rfl rfl ?_
  refine V_alen C k0 n0 hk0 (Or.inr (Or.inr (Or.inl hs0))) dX10_copy__5 ?_
  refine V_aload_n C 1 dX10_copy__6 rfl rfl ?_
  refine V_alen C k1 n1 hk1 (Or.inr (Or.inr (Or.inl hs1))) dX10_copy__7 ?_
  refine V_mini C k_RX10_455 (Nat.le_of_ble_eq_true rfl) ⟨Nat.le_of_ble_eq_true rfl, Nat.le_of_ble_eq_true rfl⟩ dX10_copy__8 ?_
  obtain ⟨ho, h⟩ := h
  refine V_copyl C k0 k1 n0 n1 hk0 hs0 hk1 hs1 ho k_RX10_458 (Nat.le_of_ble_eq_true rfl) ⟨Nat.le_of_ble_eq_true rfl, by decide +kernel⟩ dX10_copy__11 ?_
  refine V_topS (fun S2 eS2 => ?_)
  have h := h S2 eS2
  exact V_vret C D dX10_copy__14 h
/-! HalfAccuser$Years.copyFrom(LHalfAccuser$Years;)V -/
theorem dX8_copyFrom_0 : decode cX8_copyFrom 0 = .ok ((.aload_n 1), 1) := by decide +kernel
theorem dX8_copyFrom_1 : decode cX8_copyFrom 1 = .ok ((.getfield 11), 3) := by decide +kernel
theorem dX8_copyFrom_4 : decode cX8_copyFrom 4 = .ok ((.aload_n 0), 1) := by decide +kernel
theorem dX8_copyFrom_5 : decode cX8_copyFrom 5 = .ok ((.getfield 11), 3) := by decide +kernel
theorem dX8_copyFrom_8 : decode cX8_copyFrom 8 = .ok ((.invokestatic 41), 3) := by decide +kernel
theorem dX8_copyFrom_11 : decode cX8_copyFrom 11 = .ok ((.aload_n 1), 1) := by decide +kernel
theorem dX8_copyFrom_12 : decode cX8_copyFrom 12 = .ok ((.getfield 15), 3) := by decide +kernel
theorem dX8_copyFrom_15 : decode cX8_copyFrom 15 = .ok ((.aload_n 0), 1) := by decide +kernel
theorem dX8_copyFrom_16 : decode cX8_copyFrom 16 = .ok ((.getfield 15), 3) := by decide +kernel
theorem dX8_copyFrom_19 : decode cX8_copyFrom 19 = .ok ((.invokestatic 41), 3) := by decide +kernel
theorem dX8_copyFrom_22 : decode cX8_copyFrom 22 = .ok ((.aload_n 1), 1) := by decide +kernel
theorem dX8_copyFrom_23 : decode cX8_copyFrom 23 = .ok ((.getfield 18), 3) := by decide +kernel
theorem dX8_copyFrom_26 : decode cX8_copyFrom 26 = .ok ((.aload_n 0), 1) := by decide +kernel
theorem dX8_copyFrom_27 : decode cX8_copyFrom 27 = .ok ((.getfield 18), 3) := by decide +kernel
theorem dX8_copyFrom_30 : decode cX8_copyFrom 30 = .ok ((.invokestatic 41), 3) := by decide +kernel
theorem dX8_copyFrom_33 : decode cX8_copyFrom 33 = .ok ((.aload_n 1), 1) := by decide +kernel
theorem dX8_copyFrom_34 : decode cX8_copyFrom 34 = .ok ((.getfield 21), 3) := by decide +kernel
theorem dX8_copyFrom_37 : decode cX8_copyFrom 37 = .ok ((.aload_n 0), 1) := by decide +kernel
theorem dX8_copyFrom_38 : decode cX8_copyFrom 38 = .ok ((.getfield 21), 3) := by decide +kernel
theorem dX8_copyFrom_41 : decode cX8_copyFrom 41 = .ok ((.invokestatic 41), 3) := by decide +kernel
theorem dX8_copyFrom_44 : decode cX8_copyFrom 44 = .ok ((.aload_n 1), 1) := by decide +kernel
theorem dX8_copyFrom_45 : decode cX8_copyFrom 45 = .ok ((.getfield 24), 3) := by decide +kernel
theorem dX8_copyFrom_48 : decode cX8_copyFrom 48 = .ok ((.aload_n 0), 1) := by decide +kernel
theorem dX8_copyFrom_49 : decode cX8_copyFrom 49 = .ok ((.getfield 24), 3) := by decide +kernel
theorem dX8_copyFrom_52 : decode cX8_copyFrom 52 = .ok ((.invokestatic 41), 3) := by decide +kernel
theorem dX8_copyFrom_55 : decode cX8_copyFrom 55 = .ok ((.aload_n 0), 1) := by decide +kernel
theorem dX8_copyFrom_56 : decode cX8_copyFrom 56 = .ok ((.aload_n 1), 1) := by decide +kernel
theorem dX8_copyFrom_57 : decode cX8_copyFrom 57 = .ok ((.getfield 30), 3) := by decide +kernel
theorem dX8_copyFrom_60 : decode cX8_copyFrom 60 = .ok ((.putfield 30), 3) := by decide +kernel
theorem dX8_copyFrom_63 : decode cX8_copyFrom 63 = .ok ((.aload_n 0), 1) := by decide +kernel
theorem dX8_copyFrom_64 : decode cX8_copyFrom 64 = .ok ((.aload_n 1), 1) := by decide +kernel
theorem dX8_copyFrom_65 : decode cX8_copyFrom 65 = .ok ((.getfield 34), 3) := by decide +kernel
theorem dX8_copyFrom_68 : decode cX8_copyFrom 68 = .ok ((.putfield 34), 3) := by decide +kernel
theorem dX8_copyFrom_71 : decode cX8_copyFrom 71 = .ok ((.aload_n 0), 1) := by decide +kernel
theorem dX8_copyFrom_72 : decode cX8_copyFrom 72 = .ok ((.aload_n 1), 1) := by decide +kernel
theorem dX8_copyFrom_73 : decode cX8_copyFrom 73 = .ok ((.getfield 37), 3) := by decide +kernel
theorem dX8_copyFrom_76 : decode cX8_copyFrom 76 = .ok ((.putfield 37), 3) := by decide +kernel
theorem dX8_copyFrom_79 : decode cX8_copyFrom 79 = .ok (.return_, 1) := by decide +kernel
def p_X8_copyFrom (b b1 : Nat)  (S : vSt)  (post : vSt → Prop) : Prop := p_X10_copy (b1 + 16) 60 (b + 16) 60 S  (fun S9 => p_X10_copy (b1 + 17) 60 (b + 17) 60 S9  (fun S10 => p_X10_copy (b1 + 18) 60 (b + 18) 60 S10  (fun S11 => p_X10_copy (b1 + 19) 60 (b + 19) 60 S11  (fun S12 => p_X10_copy (b1 + 20) 60 (b + 20) 60 S12  (fun S13 => ∀ S14, S14 = v_si S13 (b + 15) 6 (S13.1 (b1 + 15) 6) → ∀ S15, S15 = v_si S14 (b + 15) 7 (S14.1 (b1 + 15) 7) → (v_isb (S15.1 (b1 + 15) 8) ∧ ∀ S16, S16 = v_si S15 (b + 15) 8 (S15.1 (b1 + 15) 8) → post S16))))))
set_option maxHeartbeats 4000000 in
set_option maxRecDepth 100000 in
theorem c_X8_copyFrom (l : Launch) (G : vG)  {b : Nat} (hb : v_isC b) {b1 : Nat} (hb1 : v_isC b1)  {S : vSt}  (post : vSt → Prop) (h : p_X8_copyFrom b b1  S  post) : Met l yX8_copyFrom (v_ws yX8_copyFrom cX8_copyFrom 2 none) (v_rm 2 101) (v_Pc G [.ref (G.1 (b + 15)), .ref (G.1 (b1 + 15))] S) (v_Qv G post) 0 0 (v_A G) := by
  refine v_start (by decide +kernel) (Nat.le_of_ble_eq_true rfl) (fun X hl C D => ?_)
  subst hl
  have C : v_Cx X G cX8_copyFrom RX8 2 (v_rm 2 101) := C
  show VJ X G S 0 [(0, .ref (G.1 (b + 15))), (1, .ref (G.1 (b1 + 15)))] []
  refine V_aload_n C 1 dX8_copyFrom_0 rfl rfl ?_
  refine V_gr C (b1 + 15) (v_cb hb1 15 (by decide)) (v_co15 hb1) F_8_0 k_RX8_11 dX8_copyFrom_1 ?_
  refine V_aload_n C 0 dX8_copyFrom_4 rfl rfl ?_
  refine V_gr C (b + 15) (v_cb hb 15 (by decide)) (v_co15 hb) F_8_0 k_RX8_11 dX8_copyFrom_5 ?_
  refine V_callSNv (As := [.ref (G.1 (b1 + 16)), .ref (G.1 (b + 16))]) (rest := []) C (c_X10_copy (v_l X) G (v_cb hb1 16 (by decide)) (v_ca16 hb1) (v_cb hb 16 (by decide)) (v_ca16 hb) _ h) KV_X10_copy (List.mem_of_getElem? (i := 19) rfl) rfl rfl rfl (Nat.le_of_ble_eq_true rfl) ⟨Nat.le_of_ble_eq_true rfl, Nat.le_of_ble_eq_true rfl⟩ dX8_copyFrom_8 (fun S9 h => ?_)
  refine V_aload_n C 1 dX8_copyFrom_11 rfl rfl ?_
  refine V_gr C (b1 + 15) (v_cb hb1 15 (by decide)) (v_co15 hb1) F_8_1 k_RX8_15 dX8_copyFrom_12 ?_
  refine V_aload_n C 0 dX8_copyFrom_15 rfl rfl ?_
  refine V_gr C (b + 15) (v_cb hb 15 (by decide)) (v_co15 hb) F_8_1 k_RX8_15 dX8_copyFrom_16 ?_
  refine V_callSNv (As := [.ref (G.1 (b1 + 17)), .ref (G.1 (b + 17))]) (rest := []) C (c_X10_copy (v_l X) G (v_cb hb1 17 (by decide)) (v_ca17 hb1) (v_cb hb 17 (by decide)) (v_ca17 hb) _ h) KV_X10_copy (List.mem_of_getElem? (i := 19) rfl) rfl rfl rfl (Nat.le_of_ble_eq_true rfl) ⟨Nat.le_of_ble_eq_true rfl, Nat.le_of_ble_eq_true rfl⟩ dX8_copyFrom_19 (fun S10 h => ?_)
  refine V_aload_n C 1 dX8_copyFrom_22 rfl rfl ?_
  refine V_gr C (b1 + 15) (v_cb hb1 15 (by decide)) (v_co15 hb1) F_8_2 k_RX8_18 dX8_copyFrom_23 ?_
  refine V_aload_n C 0 dX8_copyFrom_26 rfl rfl ?_
  refine V_gr C (b + 15) (v_cb hb 15 (by decide)) (v_co15 hb) F_8_2 k_RX8_18 dX8_copyFrom_27 ?_
  refine V_callSNv (As := [.ref (G.1 (b1 + 18)), .ref (G.1 (b + 18))]) (rest := []) C (c_X10_copy (v_l X) G (v_cb hb1 18 (by decide)) (v_ca18 hb1) (v_cb hb 18 (by decide)) (v_ca18 hb) _ h) KV_X10_copy (List.mem_of_getElem? (i := 19) rfl) rfl rfl rfl (Nat.le_of_ble_eq_true rfl) ⟨Nat.le_of_ble_eq_true rfl, Nat.le_of_ble_eq_true rfl⟩ dX8_copyFrom_30 (fun S11 h => ?_)
  refine V_aload_n C 1 dX8_copyFrom_33 rfl rfl ?_
  refine V_gr C (b1 + 15) (v_cb hb1 15 (by decide)) (v_co15 hb1) F_8_3 k_RX8_21 dX8_copyFrom_34 ?_
  refine V_aload_n C 0 dX8_copyFrom_37 rfl rfl ?_
  refine V_gr C (b + 15) (v_cb hb 15 (by decide)) (v_co15 hb) F_8_3 k_RX8_21 dX8_copyFrom_38 ?_
  refine V_callSNv (As := [.ref (G.1 (b1 + 19)), .ref (G.1 (b + 19))]) (rest := []) C (c_X10_copy (v_l X) G (v_cb hb1 19 (by decide)) (v_ca19 hb1) (v_cb hb 19 (by decide)) (v_ca19 hb) _ h) KV_X10_copy (List.mem_of_getElem? (i := 19) rfl) rfl rfl rfl (Nat.le_of_ble_eq_true rfl) ⟨Nat.le_of_ble_eq_true rfl, Nat.le_of_ble_eq_true rfl⟩ dX8_copyFrom_41 (fun S12 h => ?_)
  refine V_aload_n C 1 dX8_copyFrom_44 rfl rfl ?_
  refine V_gr C (b1 + 15) (v_cb hb1 15 (by decide)) (v_co15 hb1) F_8_4 k_RX8_24 dX8_copyFrom_45 ?_
  refine V_aload_n C 0 dX8_copyFrom_48 rfl rfl ?_
  refine V_gr C (b + 15) (v_cb hb 15 (by decide)) (v_co15 hb) F_8_4 k_RX8_24 dX8_copyFrom_49 ?_
  refine V_callSNv (As := [.ref (G.1 (b1 + 20)), .ref (G.1 (b + 20))]) (rest := []) C (c_X10_copy (v_l X) G (v_cb hb1 20 (by decide)) (v_ca20 hb1) (v_cb hb 20 (by decide)) (v_ca20 hb) _ h) KV_X10_copy (List.mem_of_getElem? (i := 19) rfl) rfl rfl rfl (Nat.le_of_ble_eq_true rfl) ⟨Nat.le_of_ble_eq_true rfl, Nat.le_of_ble_eq_true rfl⟩ dX8_copyFrom_52 (fun S13 h => ?_)
  refine V_aload_n C 0 dX8_copyFrom_55 rfl rfl ?_
  refine V_aload_n C 1 dX8_copyFrom_56 rfl rfl ?_
  refine V_gi C (b1 + 15) (v_cb hb1 15 (by decide)) (v_co15 hb1) F_8_6 k_RX8_30 dX8_copyFrom_57 ?_
  refine V_pi C (b + 15) (v_cb hb 15 (by decide)) (v_co15 hb) P_8_6 k_RX8_30 dX8_copyFrom_60 ?_
  refine V_topS (fun S14 eS14 => ?_)
  have h := h S14 eS14
  refine V_aload_n C 0 dX8_copyFrom_63 rfl rfl ?_
  refine V_aload_n C 1 dX8_copyFrom_64 rfl rfl ?_
  refine V_gi C (b1 + 15) (v_cb hb1 15 (by decide)) (v_co15 hb1) F_8_7 k_RX8_34 dX8_copyFrom_65 ?_
  refine V_pi C (b + 15) (v_cb hb 15 (by decide)) (v_co15 hb) P_8_7 k_RX8_34 dX8_copyFrom_68 ?_
  refine V_topS (fun S15 eS15 => ?_)
  have h := h S15 eS15
  refine V_aload_n C 0 dX8_copyFrom_71 rfl rfl ?_
  refine V_aload_n C 1 dX8_copyFrom_72 rfl rfl ?_
  refine V_gi C (b1 + 15) (v_cb hb1 15 (by decide)) (v_co15 hb1) F_8_8 k_RX8_37 dX8_copyFrom_73 ?_
  obtain ⟨hz, h⟩ := h
  refine V_pz C (b + 15) (v_cb hb 15 (by decide)) (v_co15 hb) P_8_8 k_RX8_37 hz dX8_copyFrom_76 ?_
  refine V_topS (fun S16 eS16 => ?_)
  have h := h S16 eS16
  exact V_vret C D dX8_copyFrom_79 h
/-! HalfAccuser$City.copyFrom(LHalfAccuser$City;)V -/
theorem dX0_copyFrom_0 : decode cX0_copyFrom 0 = .ok ((.aload_n 1), 1) := by decide +kernel
theorem dX0_copyFrom_1 : decode cX0_copyFrom 1 = .ok ((.getfield 9), 3) := by decide +kernel
theorem dX0_copyFrom_4 : decode cX0_copyFrom 4 = .ok ((.aload_n 0), 1) := by decide +kernel
theorem dX0_copyFrom_5 : decode cX0_copyFrom 5 = .ok ((.getfield 9), 3) := by decide +kernel
theorem dX0_copyFrom_8 : decode cX0_copyFrom 8 = .ok ((.invokestatic 68), 3) := by decide +kernel
theorem dX0_copyFrom_11 : decode cX0_copyFrom 11 = .ok ((.aload_n 1), 1) := by decide +kernel
theorem dX0_copyFrom_12 : decode cX0_copyFrom 12 = .ok ((.getfield 15), 3) := by decide +kernel
theorem dX0_copyFrom_15 : decode cX0_copyFrom 15 = .ok ((.aload_n 0), 1) := by decide +kernel
theorem dX0_copyFrom_16 : decode cX0_copyFrom 16 = .ok ((.getfield 15), 3) := by decide +kernel
theorem dX0_copyFrom_19 : decode cX0_copyFrom 19 = .ok ((.invokestatic 86), 3) := by decide +kernel
theorem dX0_copyFrom_22 : decode cX0_copyFrom 22 = .ok ((.aload_n 1), 1) := by decide +kernel
theorem dX0_copyFrom_23 : decode cX0_copyFrom 23 = .ok ((.getfield 19), 3) := by decide +kernel
theorem dX0_copyFrom_26 : decode cX0_copyFrom 26 = .ok ((.aload_n 0), 1) := by decide +kernel
theorem dX0_copyFrom_27 : decode cX0_copyFrom 27 = .ok ((.getfield 19), 3) := by decide +kernel
theorem dX0_copyFrom_30 : decode cX0_copyFrom 30 = .ok ((.invokestatic 68), 3) := by decide +kernel
theorem dX0_copyFrom_33 : decode cX0_copyFrom 33 = .ok ((.aload_n 1), 1) := by decide +kernel
theorem dX0_copyFrom_34 : decode cX0_copyFrom 34 = .ok ((.getfield 22), 3) := by decide +kernel
theorem dX0_copyFrom_37 : decode cX0_copyFrom 37 = .ok ((.aload_n 0), 1) := by decide +kernel
theorem dX0_copyFrom_38 : decode cX0_copyFrom 38 = .ok ((.getfield 22), 3) := by decide +kernel
theorem dX0_copyFrom_41 : decode cX0_copyFrom 41 = .ok ((.invokestatic 68), 3) := by decide +kernel
theorem dX0_copyFrom_44 : decode cX0_copyFrom 44 = .ok ((.aload_n 1), 1) := by decide +kernel
theorem dX0_copyFrom_45 : decode cX0_copyFrom 45 = .ok ((.getfield 25), 3) := by decide +kernel
theorem dX0_copyFrom_48 : decode cX0_copyFrom 48 = .ok ((.aload_n 0), 1) := by decide +kernel
theorem dX0_copyFrom_49 : decode cX0_copyFrom 49 = .ok ((.getfield 25), 3) := by decide +kernel
theorem dX0_copyFrom_52 : decode cX0_copyFrom 52 = .ok ((.invokestatic 68), 3) := by decide +kernel
theorem dX0_copyFrom_55 : decode cX0_copyFrom 55 = .ok ((.aload_n 1), 1) := by decide +kernel
theorem dX0_copyFrom_56 : decode cX0_copyFrom 56 = .ok ((.getfield 28), 3) := by decide +kernel
theorem dX0_copyFrom_59 : decode cX0_copyFrom 59 = .ok ((.aload_n 0), 1) := by decide +kernel
theorem dX0_copyFrom_60 : decode cX0_copyFrom 60 = .ok ((.getfield 28), 3) := by decide +kernel
theorem dX0_copyFrom_63 : decode cX0_copyFrom 63 = .ok ((.invokestatic 68), 3) := by decide +kernel
theorem dX0_copyFrom_66 : decode cX0_copyFrom 66 = .ok ((.aload_n 1), 1) := by decide +kernel
theorem dX0_copyFrom_67 : decode cX0_copyFrom 67 = .ok ((.getfield 31), 3) := by decide +kernel
theorem dX0_copyFrom_70 : decode cX0_copyFrom 70 = .ok ((.aload_n 0), 1) := by decide +kernel
theorem dX0_copyFrom_71 : decode cX0_copyFrom 71 = .ok ((.getfield 31), 3) := by decide +kernel
theorem dX0_copyFrom_74 : decode cX0_copyFrom 74 = .ok ((.invokestatic 68), 3) := by decide +kernel
theorem dX0_copyFrom_77 : decode cX0_copyFrom 77 = .ok ((.aload_n 1), 1) := by decide +kernel
theorem dX0_copyFrom_78 : decode cX0_copyFrom 78 = .ok ((.getfield 34), 3) := by decide +kernel
theorem dX0_copyFrom_81 : decode cX0_copyFrom 81 = .ok ((.aload_n 0), 1) := by decide +kernel
theorem dX0_copyFrom_82 : decode cX0_copyFrom 82 = .ok ((.getfield 34), 3) := by decide +kernel
theorem dX0_copyFrom_85 : decode cX0_copyFrom 85 = .ok ((.invokestatic 86), 3) := by decide +kernel
theorem dX0_copyFrom_88 : decode cX0_copyFrom 88 = .ok ((.aload_n 1), 1) := by decide +kernel
theorem dX0_copyFrom_89 : decode cX0_copyFrom 89 = .ok ((.getfield 37), 3) := by decide +kernel
theorem dX0_copyFrom_92 : decode cX0_copyFrom 92 = .ok ((.aload_n 0), 1) := by decide +kernel
theorem dX0_copyFrom_93 : decode cX0_copyFrom 93 = .ok ((.getfield 37), 3) := by decide +kernel
theorem dX0_copyFrom_96 : decode cX0_copyFrom 96 = .ok ((.invokestatic 68), 3) := by decide +kernel
theorem dX0_copyFrom_99 : decode cX0_copyFrom 99 = .ok ((.aload_n 1), 1) := by decide +kernel
theorem dX0_copyFrom_100 : decode cX0_copyFrom 100 = .ok ((.getfield 40), 3) := by decide +kernel
theorem dX0_copyFrom_103 : decode cX0_copyFrom 103 = .ok ((.aload_n 0), 1) := by decide +kernel
theorem dX0_copyFrom_104 : decode cX0_copyFrom 104 = .ok ((.getfield 40), 3) := by decide +kernel
theorem dX0_copyFrom_107 : decode cX0_copyFrom 107 = .ok ((.invokestatic 68), 3) := by decide +kernel
theorem dX0_copyFrom_110 : decode cX0_copyFrom 110 = .ok ((.aload_n 1), 1) := by decide +kernel
theorem dX0_copyFrom_111 : decode cX0_copyFrom 111 = .ok ((.getfield 43), 3) := by decide +kernel
theorem dX0_copyFrom_114 : decode cX0_copyFrom 114 = .ok ((.aload_n 0), 1) := by decide +kernel
theorem dX0_copyFrom_115 : decode cX0_copyFrom 115 = .ok ((.getfield 43), 3) := by decide +kernel
theorem dX0_copyFrom_118 : decode cX0_copyFrom 118 = .ok ((.invokestatic 68), 3) := by decide +kernel
theorem dX0_copyFrom_121 : decode cX0_copyFrom 121 = .ok ((.aload_n 1), 1) := by decide +kernel
theorem dX0_copyFrom_122 : decode cX0_copyFrom 122 = .ok ((.getfield 46), 3) := by decide +kernel
theorem dX0_copyFrom_125 : decode cX0_copyFrom 125 = .ok ((.aload_n 0), 1) := by decide +kernel
theorem dX0_copyFrom_126 : decode cX0_copyFrom 126 = .ok ((.getfield 46), 3) := by decide +kernel
theorem dX0_copyFrom_129 : decode cX0_copyFrom 129 = .ok ((.invokestatic 68), 3) := by decide +kernel
theorem dX0_copyFrom_132 : decode cX0_copyFrom 132 = .ok ((.aload_n 1), 1) := by decide +kernel
theorem dX0_copyFrom_133 : decode cX0_copyFrom 133 = .ok ((.getfield 49), 3) := by decide +kernel
theorem dX0_copyFrom_136 : decode cX0_copyFrom 136 = .ok ((.aload_n 0), 1) := by decide +kernel
theorem dX0_copyFrom_137 : decode cX0_copyFrom 137 = .ok ((.getfield 49), 3) := by decide +kernel
theorem dX0_copyFrom_140 : decode cX0_copyFrom 140 = .ok ((.invokestatic 68), 3) := by decide +kernel
theorem dX0_copyFrom_143 : decode cX0_copyFrom 143 = .ok ((.aload_n 1), 1) := by decide +kernel
theorem dX0_copyFrom_144 : decode cX0_copyFrom 144 = .ok ((.getfield 52), 3) := by decide +kernel
theorem dX0_copyFrom_147 : decode cX0_copyFrom 147 = .ok ((.aload_n 0), 1) := by decide +kernel
theorem dX0_copyFrom_148 : decode cX0_copyFrom 148 = .ok ((.getfield 52), 3) := by decide +kernel
theorem dX0_copyFrom_151 : decode cX0_copyFrom 151 = .ok ((.invokestatic 68), 3) := by decide +kernel
theorem dX0_copyFrom_154 : decode cX0_copyFrom 154 = .ok ((.aload_n 0), 1) := by decide +kernel
theorem dX0_copyFrom_155 : decode cX0_copyFrom 155 = .ok ((.getfield 58), 3) := by decide +kernel
theorem dX0_copyFrom_158 : decode cX0_copyFrom 158 = .ok ((.aload_n 1), 1) := by decide +kernel
theorem dX0_copyFrom_159 : decode cX0_copyFrom 159 = .ok ((.getfield 58), 3) := by decide +kernel
theorem dX0_copyFrom_162 : decode cX0_copyFrom 162 = .ok ((.invokevirtual 89), 3) := by decide +kernel
theorem dX0_copyFrom_165 : decode cX0_copyFrom 165 = .ok ((.aload_n 0), 1) := by decide +kernel
theorem dX0_copyFrom_166 : decode cX0_copyFrom 166 = .ok ((.aload_n 1), 1) := by decide +kernel
theorem dX0_copyFrom_167 : decode cX0_copyFrom 167 = .ok ((.getfield 72), 3) := by decide +kernel
theorem dX0_copyFrom_170 : decode cX0_copyFrom 170 = .ok ((.putfield 72), 3) := by decide +kernel
theorem dX0_copyFrom_173 : decode cX0_copyFrom 173 = .ok ((.aload_n 0), 1) := by decide +kernel
theorem dX0_copyFrom_174 : decode cX0_copyFrom 174 = .ok ((.aload_n 1), 1) := by decide +kernel
theorem dX0_copyFrom_175 : decode cX0_copyFrom 175 = .ok ((.getfield 76), 3) := by decide +kernel
theorem dX0_copyFrom_178 : decode cX0_copyFrom 178 = .ok ((.putfield 76), 3) := by decide +kernel
theorem dX0_copyFrom_181 : decode cX0_copyFrom 181 = .ok ((.aload_n 0), 1) := by decide +kernel
theorem dX0_copyFrom_182 : decode cX0_copyFrom 182 = .ok ((.aload_n 1), 1) := by decide +kernel
theorem dX0_copyFrom_183 : decode cX0_copyFrom 183 = .ok ((.getfield 79), 3) := by decide +kernel
theorem dX0_copyFrom_186 : decode cX0_copyFrom 186 = .ok ((.putfield 79), 3) := by decide +kernel
theorem dX0_copyFrom_189 : decode cX0_copyFrom 189 = .ok ((.aload_n 0), 1) := by decide +kernel
theorem dX0_copyFrom_190 : decode cX0_copyFrom 190 = .ok ((.aload_n 1), 1) := by decide +kernel
theorem dX0_copyFrom_191 : decode cX0_copyFrom 191 = .ok ((.getfield 82), 3) := by decide +kernel
theorem dX0_copyFrom_194 : decode cX0_copyFrom 194 = .ok ((.putfield 82), 3) := by decide +kernel
theorem dX0_copyFrom_197 : decode cX0_copyFrom 197 = .ok (.return_, 1) := by decide +kernel
def p_X0_copyFrom (b b1 : Nat)  (S : vSt)  (post : vSt → Prop) : Prop := p_X10_copy (b1 + 1) 4 (b + 1) 4 S  (fun S20 => p_X10_copy_ (b1 + 2) 8 (b + 2) 8 S20  (fun S21 => p_X10_copy (b1 + 3) 8 (b + 3) 8 S21  (fun S22 => p_X10_copy (b1 + 4) 8 (b + 4) 8 S22  (fun S23 => p_X10_copy (b1 + 5) 8 (b + 5) 8 S23  (fun S24 => p_X10_copy (b1 + 6) 8 (b + 6) 8 S24  (fun S25 => p_X10_copy (b1 + 7) 8 (b + 7) 8 S25  (fun S26 => p_X10_copy_ (b1 + 8) 10 (b + 8) 10 S26  (fun S27 => p_X10_copy (b1 + 9) 10 (b + 9) 10 S27  (fun S28 => p_X10_copy (b1 + 10) 10 (b + 10) 10 S28  (fun S29 => p_X10_copy (b1 + 11) 10 (b + 11) 10 S29  (fun S30 => p_X10_copy (b1 + 12) 10 (b + 12) 10 S30  (fun S31 => p_X10_copy (b1 + 13) 10 (b + 13) 10 S31  (fun S32 => p_X10_copy (b1 + 14) 10 (b + 14) 10 S32  (fun S33 => p_X8_copyFrom b b1 S33  (fun S34 => ∀ S35, S35 = v_si S34 b 15 (S34.1 b1 15) → ∀ S36, S36 = v_si S35 b 16 (S35.1 b1 16) → ∀ S37, S37 = v_si S36 b 17 (S36.1 b1 17) → ∀ S38, S38 = v_si S37 b 18 (S37.1 b1 18) → post S38)))))))))))))))
set_option maxHeartbeats 4000000 in
set_option maxRecDepth 100000 in
theorem c_X0_copyFrom (l : Launch) (G : vG)  {b : Nat} (hb : v_isC b) {b1 : Nat} (hb1 : v_isC b1)  {S : vSt}  (post : vSt → Prop) (h : p_X0_copyFrom b b1  S  post) : Met l yX0_copyFrom (v_ws yX0_copyFrom cX0_copyFrom 2 none) (v_rm 3 122) (v_Pc G [.ref (G.1 b), .ref (G.1 b1)] S) (v_Qv G post) 0 0 (v_A G) := by
  refine v_start (by decide +kernel) (Nat.le_of_ble_eq_true rfl) (fun X hl C D => ?_)
  subst hl
  have C : v_Cx X G cX0_copyFrom RX0 2 (v_rm 3 122) := C
  show VJ X G S 0 [(0, .ref (G.1 b)), (1, .ref (G.1 b1))] []
  refine V_aload_n C 1 dX0_copyFrom_0 rfl rfl ?_
  refine V_gr C b1 (v_cb hb1 0 (by decide)) (v_co0 hb1) F_0_0 k_RX0_9 dX0_copyFrom_1 ?_
  refine V_aload_n C 0 dX0_copyFrom_4 rfl rfl ?_
  refine V_gr C b (v_cb hb 0 (by decide)) (v_co0 hb) F_0_0 k_RX0_9 dX0_copyFrom_5 ?_
  refine V_callSNv (As := [.ref (G.1 (b1 + 1)), .ref (G.1 (b + 1))]) (rest := []) C (c_X10_copy (v_l X) G (v_cb hb1 1 (by decide)) (v_ca1 hb1) (v_cb hb 1 (by decide)) (v_ca1 hb) _ h) KV_X10_copy (List.mem_of_getElem? (i := 2) rfl) rfl rfl rfl (Nat.le_of_ble_eq_true rfl) ⟨Nat.le_of_ble_eq_true rfl, Nat.le_of_ble_eq_true rfl⟩ dX0_copyFrom_8 (fun S20 h => ?_)
  refine V_aload_n C 1 dX0_copyFrom_11 rfl rfl ?_
  refine V_gr C b1 (v_cb hb1 0 (by decide)) (v_co0 hb1) F_0_1 k_RX0_15 dX0_copyFrom_12 ?_
  refine V_aload_n C 0 dX0_copyFrom_15 rfl rfl ?_
  refine V_gr C b (v_cb hb 0 (by decide)) (v_co0 hb) F_0_1 k_RX0_15 dX0_copyFrom_16 ?_
  refine V_callSNv (As := [.ref (G.1 (b1 + 2)), .ref (G.1 (b + 2))]) (rest := []) C (c_X10_copy_ (v_l X) G (v_cb hb1 2 (by decide)) (v_ca2 hb1) (v_cb hb 2 (by decide)) (v_ca2 hb) _ h) KV_X10_copy_ (List.mem_of_getElem? (i := 18) rfl) rfl rfl rfl (Nat.le_of_ble_eq_true rfl) ⟨Nat.le_of_ble_eq_true rfl, Nat.le_of_ble_eq_true rfl⟩ dX0_copyFrom_19 (fun S21 h => ?_)
  refine V_aload_n C 1 dX0_copyFrom_22 rfl rfl ?_
  refine V_gr C b1 (v_cb hb1 0 (by decide)) (v_co0 hb1) F_0_2 k_RX0_19 dX0_copyFrom_23 ?_
  refine V_aload_n C 0 dX0_copyFrom_26 rfl rfl ?_
  refine V_gr C b (v_cb hb 0 (by decide)) (v_co0 hb) F_0_2 k_RX0_19 dX0_copyFrom_27 ?_
  refine V_callSNv (As := [.ref (G.1 (b1 + 3)), .ref (G.1 (b + 3))]) (rest := []) C (c_X10_copy (v_l X) G (v_cb hb1 3 (by decide)) (v_ca3 hb1) (v_cb hb 3 (by decide)) (v_ca3 hb) _ h) KV_X10_copy (List.mem_of_getElem? (i := 2) rfl) rfl rfl rfl (Nat.le_of_ble_eq_true rfl) ⟨Nat.le_of_ble_eq_true rfl, Nat.le_of_ble_eq_true rfl⟩ dX0_copyFrom_30 (fun S22 h => ?_)
  refine V_aload_n C 1 dX0_copyFrom_33 rfl rfl ?_
  refine V_gr C b1 (v_cb hb1 0 (by decide)) (v_co0 hb1) F_0_3 k_RX0_22 dX0_copyFrom_34 ?_
  refine V_aload_n C 0 dX0_copyFrom_37 rfl rfl ?_
  refine V_gr C b (v_cb hb 0 (by decide)) (v_co0 hb) F_0_3 k_RX0_22 dX0_copyFrom_38 ?_
  refine V_callSNv (As := [.ref (G.1 (b1 + 4)), .ref (G.1 (b + 4))]) (rest := []) C (c_X10_copy (v_l X) G (v_cb hb1 4 (by decide)) (v_ca4 hb1) (v_cb hb 4 (by decide)) (v_ca4 hb) _ h) KV_X10_copy (List.mem_of_getElem? (i := 2) rfl) rfl rfl rfl (Nat.le_of_ble_eq_true rfl) ⟨Nat.le_of_ble_eq_true rfl, Nat.le_of_ble_eq_true rfl⟩ dX0_copyFrom_41 (fun S23 h => ?_)
  refine V_aload_n C 1 dX0_copyFrom_44 rfl rfl ?_
  refine V_gr C b1 (v_cb hb1 0 (by decide)) (v_co0 hb1) F_0_4 k_RX0_25 dX0_copyFrom_45 ?_
  refine V_aload_n C 0 dX0_copyFrom_48 rfl rfl ?_
  refine V_gr C b (v_cb hb 0 (by decide)) (v_co0 hb) F_0_4 k_RX0_25 dX0_copyFrom_49 ?_
  refine V_callSNv (As := [.ref (G.1 (b1 + 5)), .ref (G.1 (b + 5))]) (rest := []) C (c_X10_copy (v_l X) G (v_cb hb1 5 (by decide)) (v_ca5 hb1) (v_cb hb 5 (by decide)) (v_ca5 hb) _ h) KV_X10_copy (List.mem_of_getElem? (i := 2) rfl) rfl rfl rfl (Nat.le_of_ble_eq_true rfl) ⟨Nat.le_of_ble_eq_true rfl, Nat.le_of_ble_eq_true rfl⟩ dX0_copyFrom_52 (fun S24 h => ?_)
  refine V_aload_n C 1 dX0_copyFrom_55 rfl rfl ?_
  refine V_gr C b1 (v_cb hb1 0 (by decide)) (v_co0 hb1) F_0_5 k_RX0_28 dX0_copyFrom_56 ?_
  refine V_aload_n C 0 dX0_copyFrom_59 rfl rfl ?_
  refine V_gr C b (v_cb hb 0 (by decide)) (v_co0 hb) F_0_5 k_RX0_28 dX0_copyFrom_60 ?_
  refine V_callSNv (As := [.ref (G.1 (b1 + 6)), .ref (G.1 (b + 6))]) (rest := []) C (c_X10_copy (v_l X) G (v_cb hb1 6 (by decide)) (v_ca6 hb1) (v_cb hb 6 (by decide)) (v_ca6 hb) _ h) KV_X10_copy (List.mem_of_getElem? (i := 2) rfl) rfl rfl rfl (Nat.le_of_ble_eq_true rfl) ⟨Nat.le_of_ble_eq_true rfl, Nat.le_of_ble_eq_true rfl⟩ dX0_copyFrom_63 (fun S25 h => ?_)
  refine V_aload_n C 1 dX0_copyFrom_66 rfl rfl ?_
  refine V_gr C b1 (v_cb hb1 0 (by decide)) (v_co0 hb1) F_0_6 k_RX0_31 dX0_copyFrom_67 ?_
  refine V_aload_n C 0 dX0_copyFrom_70 rfl rfl ?_
  refine V_gr C b (v_cb hb 0 (by decide)) (v_co0 hb) F_0_6 k_RX0_31 dX0_copyFrom_71 ?_
  refine V_callSNv (As := [.ref (G.1 (b1 + 7)), .ref (G.1 (b + 7))]) (rest := []) C (c_X10_copy (v_l X) G (v_cb hb1 7 (by decide)) (v_ca7 hb1) (v_cb hb 7 (by decide)) (v_ca7 hb) _ h) KV_X10_copy (List.mem_of_getElem? (i := 2) rfl) rfl rfl rfl (Nat.le_of_ble_eq_true rfl) ⟨Nat.le_of_ble_eq_true rfl, Nat.le_of_ble_eq_true rfl⟩ dX0_copyFrom_74 (fun S26 h => ?_)
  refine V_aload_n C 1 dX0_copyFrom_77 rfl rfl ?_
  refine V_gr C b1 (v_cb hb1 0 (by decide)) (v_co0 hb1) F_0_7 k_RX0_34 dX0_copyFrom_78 ?_
  refine V_aload_n C 0 dX0_copyFrom_81 rfl rfl ?_
  refine V_gr C b (v_cb hb 0 (by decide)) (v_co0 hb) F_0_7 k_RX0_34 dX0_copyFrom_82 ?_
  refine V_callSNv (As := [.ref (G.1 (b1 + 8)), .ref (G.1 (b + 8))]) (rest := []) C (c_X10_copy_ (v_l X) G (v_cb hb1 8 (by decide)) (v_ca8 hb1) (v_cb hb 8 (by decide)) (v_ca8 hb) _ h) KV_X10_copy_ (List.mem_of_getElem? (i := 18) rfl) rfl rfl rfl (Nat.le_of_ble_eq_true rfl) ⟨Nat.le_of_ble_eq_true rfl, Nat.le_of_ble_eq_true rfl⟩ dX0_copyFrom_85 (fun S27 h => ?_)
  refine V_aload_n C 1 dX0_copyFrom_88 rfl rfl ?_
  refine V_gr C b1 (v_cb hb1 0 (by decide)) (v_co0 hb1) F_0_8 k_RX0_37 dX0_copyFrom_89 ?_
  refine V_aload_n C 0 dX0_copyFrom_92 rfl rfl ?_
  refine V_gr C b (v_cb hb 0 (by decide)) (v_co0 hb) F_0_8 k_RX0_37 dX0_copyFrom_93 ?_
  refine V_callSNv (As := [.ref (G.1 (b1 + 9)), .ref (G.1 (b + 9))]) (rest := []) C (c_X10_copy (v_l X) G (v_cb hb1 9 (by decide)) (v_ca9 hb1) (v_cb hb 9 (by decide)) (v_ca9 hb) _ h) KV_X10_copy (List.mem_of_getElem? (i := 2) rfl) rfl rfl rfl (Nat.le_of_ble_eq_true rfl) ⟨Nat.le_of_ble_eq_true rfl, Nat.le_of_ble_eq_true rfl⟩ dX0_copyFrom_96 (fun S28 h => ?_)
  refine V_aload_n C 1 dX0_copyFrom_99 rfl rfl ?_
  refine V_gr C b1 (v_cb hb1 0 (by decide)) (v_co0 hb1) F_0_9 k_RX0_40 dX0_copyFrom_100 ?_
  refine V_aload_n C 0 dX0_copyFrom_103 rfl rfl ?_
  refine V_gr C b (v_cb hb 0 (by decide)) (v_co0 hb) F_0_9 k_RX0_40 dX0_copyFrom_104 ?_
  refine V_callSNv (As := [.ref (G.1 (b1 + 10)), .ref (G.1 (b + 10))]) (rest := []) C (c_X10_copy (v_l X) G (v_cb hb1 10 (by decide)) (v_ca10 hb1) (v_cb hb 10 (by decide)) (v_ca10 hb) _ h) KV_X10_copy (List.mem_of_getElem? (i := 2) rfl) rfl rfl rfl (Nat.le_of_ble_eq_true rfl) ⟨Nat.le_of_ble_eq_true rfl, Nat.le_of_ble_eq_true rfl⟩ dX0_copyFrom_107 (fun S29 h => ?_)
  refine V_aload_n C 1 dX0_copyFrom_110 rfl rfl ?_
  refine V_gr C b1 (v_cb hb1 0 (by decide)) (v_co0 hb1) F_0_10 k_RX0_43 dX0_copyFrom_111 ?_
  refine V_aload_n C 0 dX0_copyFrom_114 rfl rfl ?_
  refine V_gr C b (v_cb hb 0 (by decide)) (v_co0 hb) F_0_10 k_RX0_43 dX0_copyFrom_115 ?_
  refine V_callSNv (As := [.ref (G.1 (b1 + 11)), .ref (G.1 (b + 11))]) (rest := []) C (c_X10_copy (v_l X) G (v_cb hb1 11 (by decide)) (v_ca11 hb1) (v_cb hb 11 (by decide)) (v_ca11 hb) _ h) KV_X10_copy (List.mem_of_getElem? (i := 2) rfl) rfl rfl rfl (Nat.le_of_ble_eq_true rfl) ⟨Nat.le_of_ble_eq_true rfl, Nat.le_of_ble_eq_true rfl⟩ dX0_copyFrom_118 (fun S30 h => ?_)
  refine V_aload_n C 1 dX0_copyFrom_121 rfl rfl ?_
  refine V_gr C b1 (v_cb hb1 0 (by decide)) (v_co0 hb1) F_0_11 k_RX0_46 dX0_copyFrom_122 ?_
  refine V_aload_n C 0 dX0_copyFrom_125 rfl rfl ?_
  refine V_gr C b (v_cb hb 0 (by decide)) (v_co0 hb) F_0_11 k_RX0_46 dX0_copyFrom_126 ?_
  refine V_callSNv (As := [.ref (G.1 (b1 + 12)), .ref (G.1 (b + 12))]) (rest := []) C (c_X10_copy (v_l X) G (v_cb hb1 12 (by decide)) (v_ca12 hb1) (v_cb hb 12 (by decide)) (v_ca12 hb) _ h) KV_X10_copy (List.mem_of_getElem? (i := 2) rfl) rfl rfl rfl (Nat.le_of_ble_eq_true rfl) ⟨Nat.le_of_ble_eq_true rfl, Nat.le_of_ble_eq_true rfl⟩ dX0_copyFrom_129 (fun S31 h => ?_)
  refine V_aload_n C 1 dX0_copyFrom_132 rfl rfl ?_
  refine V_gr C b1 (v_cb hb1 0 (by decide)) (v_co0 hb1) F_0_12 k_RX0_49 dX0_copyFrom_133 ?_
  refine V_aload_n C 0 dX0_copyFrom_136 rfl rfl ?_
  refine V_gr C b (v_cb hb 0 (by decide)) (v_co0 hb) F_0_12 k_RX0_49 dX0_copyFrom_137 ?_
  refine V_callSNv (As := [.ref (G.1 (b1 + 13)), .ref (G.1 (b + 13))]) (rest := []) C (c_X10_copy (v_l X) G (v_cb hb1 13 (by decide)) (v_ca13 hb1) (v_cb hb 13 (by decide)) (v_ca13 hb) _ h) KV_X10_copy (List.mem_of_getElem? (i := 2) rfl) rfl rfl rfl (Nat.le_of_ble_eq_true rfl) ⟨Nat.le_of_ble_eq_true rfl, Nat.le_of_ble_eq_true rfl⟩ dX0_copyFrom_140 (fun S32 h => ?_)
  refine V_aload_n C 1 dX0_copyFrom_143 rfl rfl ?_
  refine V_gr C b1 (v_cb hb1 0 (by decide)) (v_co0 hb1) F_0_13 k_RX0_52 dX0_copyFrom_144 ?_
  refine V_aload_n C 0 dX0_copyFrom_147 rfl rfl ?_
  refine V_gr C b (v_cb hb 0 (by decide)) (v_co0 hb) F_0_13 k_RX0_52 dX0_copyFrom_148 ?_
  refine V_callSNv (As := [.ref (G.1 (b1 + 14)), .ref (G.1 (b + 14))]) (rest := []) C (c_X10_copy (v_l X) G (v_cb hb1 14 (by decide)) (v_ca14 hb1) (v_cb hb 14 (by decide)) (v_ca14 hb) _ h) KV_X10_copy (List.mem_of_getElem? (i := 2) rfl) rfl rfl rfl (Nat.le_of_ble_eq_true rfl) ⟨Nat.le_of_ble_eq_true rfl, Nat.le_of_ble_eq_true rfl⟩ dX0_copyFrom_151 (fun S33 h => ?_)
  refine V_aload_n C 0 dX0_copyFrom_154 rfl rfl ?_
  refine V_gr C b (v_cb hb 0 (by decide)) (v_co0 hb) F_0_14 k_RX0_58 dX0_copyFrom_155 ?_
  refine V_aload_n C 1 dX0_copyFrom_158 rfl rfl ?_
  refine V_gr C b1 (v_cb hb1 0 (by decide)) (v_co0 hb1) F_0_14 k_RX0_58 dX0_copyFrom_159 ?_
  refine V_callVv (As := [.ref (G.1 (b1 + 15))]) (rest := []) C (c_X8_copyFrom (v_l X) G hb hb1 _ h) (b + 15) 8 (v_cb hb 15 (by decide)) (v_co15 hb) (by decide) rfl KV_X8_copyFrom k_RX0_89 rfl rfl rfl (Nat.le_of_ble_eq_true rfl) ⟨Nat.le_of_ble_eq_true rfl, Nat.le_of_ble_eq_true rfl⟩ dX0_copyFrom_162 (fun S34 h => ?_)
  refine V_aload_n C 0 dX0_copyFrom_165 rfl rfl ?_
  refine V_aload_n C 1 dX0_copyFrom_166 rfl rfl ?_
  refine V_gi C b1 (v_cb hb1 0 (by decide)) (v_co0 hb1) F_0_15 k_RX0_72 dX0_copyFrom_167 ?_
  refine V_pi C b (v_cb hb 0 (by decide)) (v_co0 hb) P_0_15 k_RX0_72 dX0_copyFrom_170 ?_
  refine V_topS (fun S35 eS35 => ?_)
  have h := h S35 eS35
  refine V_aload_n C 0 dX0_copyFrom_173 rfl rfl ?_
  refine V_aload_n C 1 dX0_copyFrom_174 rfl rfl ?_
  refine V_gi C b1 (v_cb hb1 0 (by decide)) (v_co0 hb1) F_0_16 k_RX0_76 dX0_copyFrom_175 ?_
  refine V_pi C b (v_cb hb 0 (by decide)) (v_co0 hb) P_0_16 k_RX0_76 dX0_copyFrom_178 ?_
  refine V_topS (fun S36 eS36 => ?_)
  have h := h S36 eS36
  refine V_aload_n C 0 dX0_copyFrom_181 rfl rfl ?_
  refine V_aload_n C 1 dX0_copyFrom_182 rfl rfl ?_
  refine V_gi C b1 (v_cb hb1 0 (by decide)) (v_co0 hb1) F_0_17 k_RX0_79 dX0_copyFrom_183 ?_
  refine V_pi C b (v_cb hb 0 (by decide)) (v_co0 hb) P_0_17 k_RX0_79 dX0_copyFrom_186 ?_
  refine V_topS (fun S37 eS37 => ?_)
  have h := h S37 eS37
  refine V_aload_n C 0 dX0_copyFrom_189 rfl rfl ?_
  refine V_aload_n C 1 dX0_copyFrom_190 rfl rfl ?_
  refine V_gi C b1 (v_cb hb1 0 (by decide)) (v_co0 hb1) F_0_18 k_RX0_82 dX0_copyFrom_191 ?_
  refine V_pi C b (v_cb hb 0 (by decide)) (v_co0 hb) P_0_18 k_RX0_82 dX0_copyFrom_194 ?_
  refine V_topS (fun S38 eS38 => ?_)
  have h := h S38 eS38
  exact V_vret C D dX0_copyFrom_197 h
/-! HalfAccuser.at([II)I -/
def p_X10_at_s (i0 : Nat)  (S : vSt) (a1 : Int32) (post : Int32 → vSt → Prop) : Prop := ((a1 < 0 → post 0 S) ∧ (¬ a1 < 0 → ((4 ≤ a1 → post 0 S) ∧ (¬ 4 ≤ a1 → (vp_in a1 4 ∧ post ((v_sr i0).2.getD (Int32.toNatClampNeg a1) 0) S)))))
set_option maxHeartbeats 4000000 in
set_option maxRecDepth 100000 in
theorem c_X10_at_s (l : Launch) (G : vG)  {i0 : Nat} (hi0 : i0 < 3)  {S : vSt} (a1 : Int32) (post : Int32 → vSt → Prop) (h : p_X10_at_s i0  S a1 post) : Met l yX10_at (v_ws yX10_at cX10_at 2 (some .int)) (v_rm 0 40) (v_Pc G [.ref (G.1 (155 + i0)), .int a1] S) (v_Qi G post) 0 0 (v_A G) := by
  refine v_start (by decide +kernel) (Nat.le_of_ble_eq_true rfl) (fun X hl C D => ?_)
  subst hl
  have C : v_Cx X G cX10_at RX10 2 (v_rm 0 40) := C
  show VJ X G S 0 [(0, .ref (G.1 (155 + i0))), (1, .int a1)] []
  refine V_iload_n C 1 dX10_at_0 rfl rfl ?_
  refine V_if_lt (tgt := 16) C dX10_at_1 (by decide) (fun c => ?_) (fun c => ?_)
  · have h := h.1 c
    refine V_iconst (v := 0) C dX10_at_16 (by decide) ?_
    exact V_iret C D dX10_at_17 h
  · have h := h.2 c
    refine V_iload_n C 1 dX10_at_4 rfl rfl ?_
    refine V_aload_n C 0 dX10_at_5 rfl rfl ?_
    refine V_tlen C i0 hi0 dX10_at_6 ?_
    refine V_icmp_ge (tgt := 16) C dX10_at_7 (by decide) (fun c => ?_) (fun c => ?_)
    · have h := h.1 c
      refine V_iconst (v := 0) C dX10_at_16 (by decide) ?_
      exact V_iret C D dX10_at_17 h
    · have h := h.2 c
      refine V_aload_n C 0 dX10_at_10 rfl rfl ?_
      refine V_iload_n C 1 dX10_at_11 rfl rfl ?_
      obtain ⟨hi, h⟩ := h
      refine V_tald C i0 hi0 hi dX10_at_12 ?_
      refine V_goto (tgt := 17) C dX10_at_13 (by decide) ?_
      exact V_iret C D dX10_at_17 h
/-! HalfAccuser$CityReader.readRule(I)Z -/
theorem dX1_readRule_0 : decode cX1_readRule 0 = .ok ((.aload_n 0), 1) := by decide +kernel
theorem dX1_readRule_1 : decode cX1_readRule 1 = .ok ((.getfield 24), 3) := by decide +kernel
theorem dX1_readRule_4 : decode cX1_readRule 4 = .ok ((.iload_n 1), 1) := by decide +kernel
theorem dX1_readRule_5 : decode cX1_readRule 5 = .ok ((.invokestatic 51), 3) := by decide +kernel
theorem dX1_readRule_8 : decode cX1_readRule 8 = .ok ((.ifCond .eq 12), 3) := by decide +kernel
theorem dX1_readRule_11 : decode cX1_readRule 11 = .ok ((.aload_n 0), 1) := by decide +kernel
theorem dX1_readRule_12 : decode cX1_readRule 12 = .ok ((.getfield 9), 3) := by decide +kernel
theorem dX1_readRule_15 : decode cX1_readRule 15 = .ok ((.iconst 5), 1) := by decide +kernel
theorem dX1_readRule_16 : decode cX1_readRule 16 = .ok ((.invokevirtual 48), 3) := by decide +kernel
theorem dX1_readRule_19 : decode cX1_readRule 19 = .ok (.ireturn, 1) := by decide +kernel
theorem dX1_readRule_20 : decode cX1_readRule 20 = .ok ((.aload_n 0), 1) := by decide +kernel
theorem dX1_readRule_21 : decode cX1_readRule 21 = .ok ((.getfield 9), 3) := by decide +kernel
theorem dX1_readRule_24 : decode cX1_readRule 24 = .ok ((.invokevirtual 55), 3) := by decide +kernel
theorem dX1_readRule_27 : decode cX1_readRule 27 = .ok ((.aload_n 0), 1) := by decide +kernel
theorem dX1_readRule_28 : decode cX1_readRule 28 = .ok ((.getfield 9), 3) := by decide +kernel
theorem dX1_readRule_31 : decode cX1_readRule 31 = .ok ((.getstatic 58), 3) := by decide +kernel
theorem dX1_readRule_34 : decode cX1_readRule 34 = .ok ((.iload_n 1), 1) := by decide +kernel
theorem dX1_readRule_35 : decode cX1_readRule 35 = .ok ((.invokestatic 62), 3) := by decide +kernel
theorem dX1_readRule_38 : decode cX1_readRule 38 = .ok ((.getstatic 66), 3) := by decide +kernel
theorem dX1_readRule_41 : decode cX1_readRule 41 = .ok ((.iload_n 1), 1) := by decide +kernel
theorem dX1_readRule_42 : decode cX1_readRule 42 = .ok ((.invokestatic 62), 3) := by decide +kernel
theorem dX1_readRule_45 : decode cX1_readRule 45 = .ok ((.invokevirtual 69), 3) := by decide +kernel
theorem dX1_readRule_48 : decode cX1_readRule 48 = .ok ((.ifCond .ne 5), 3) := by decide +kernel
theorem dX1_readRule_51 : decode cX1_readRule 51 = .ok ((.iconst 0), 1) := by decide +kernel
theorem dX1_readRule_52 : decode cX1_readRule 52 = .ok (.ireturn, 1) := by decide +kernel
theorem dX1_readRule_53 : decode cX1_readRule 53 = .ok ((.aload_n 0), 1) := by decide +kernel
theorem dX1_readRule_54 : decode cX1_readRule 54 = .ok (.dup, 1) := by decide +kernel
theorem dX1_readRule_55 : decode cX1_readRule 55 = .ok ((.getfield 24), 3) := by decide +kernel
theorem dX1_readRule_58 : decode cX1_readRule 58 = .ok ((.iconst 1), 1) := by decide +kernel
theorem dX1_readRule_59 : decode cX1_readRule 59 = .ok ((.iload_n 1), 1) := by decide +kernel
theorem dX1_readRule_60 : decode cX1_readRule 60 = .ok (.ishl, 1) := by decide +kernel
theorem dX1_readRule_61 : decode cX1_readRule 61 = .ok (.ior, 1) := by decide +kernel
theorem dX1_readRule_62 : decode cX1_readRule 62 = .ok ((.putfield 24), 3) := by decide +kernel
theorem dX1_readRule_65 : decode cX1_readRule 65 = .ok ((.aload_n 0), 1) := by decide +kernel
theorem dX1_readRule_66 : decode cX1_readRule 66 = .ok ((.getfield 15), 3) := by decide +kernel
theorem dX1_readRule_69 : decode cX1_readRule 69 = .ok ((.getfield 72), 3) := by decide +kernel
theorem dX1_readRule_72 : decode cX1_readRule 72 = .ok ((.iload_n 1), 1) := by decide +kernel
theorem dX1_readRule_73 : decode cX1_readRule 73 = .ok ((.aload_n 0), 1) := by decide +kernel
theorem dX1_readRule_74 : decode cX1_readRule 74 = .ok ((.getfield 9), 3) := by decide +kernel
theorem dX1_readRule_77 : decode cX1_readRule 77 = .ok ((.invokevirtual 75), 3) := by decide +kernel
theorem dX1_readRule_80 : decode cX1_readRule 80 = .ok ((.invokestatic 78), 3) := by decide +kernel
theorem dX1_readRule_83 : decode cX1_readRule 83 = .ok ((.aload_n 0), 1) := by decide +kernel
theorem dX1_readRule_84 : decode cX1_readRule 84 = .ok ((.getfield 9), 3) := by decide +kernel
theorem dX1_readRule_87 : decode cX1_readRule 87 = .ok ((.invokevirtual 82), 3) := by decide +kernel
theorem dX1_readRule_90 : decode cX1_readRule 90 = .ok (.ireturn, 1) := by decide +kernel
def p_X1_readRule   (S : vSt) (a1 : Int32) (post : Bool → vSt → Prop) : Prop := p_X10_isIn  S (S.1 55 2) a1 (fun r19 S18 => ((r19 = false → p_X6_pass  S18  (fun S20 => p_X10_at_s 1 S20 a1 (fun r22 S21 => p_X10_at_s 2 S21 a1 (fun r24 S23 => p_X6_takeNumber  S23 r22 r24 (fun r26 S25 => ((r26 = true → ∀ S27, S27 = v_si S25 55 2 ((S25.1 55 2) ||| (1 <<< (a1 &&& 31))) → p_X6_number  S27  (fun r29 S28 => p_X10_put 33 4 S28 a1 r29 (fun S30 => p_X6_takeSemicolon  S30  (fun r32 S31 => post r32 S31)))) ∧ (r26 = false → post false S25))))))) ∧ (r19 = true → p_X6_blame  S18 5 (fun r34 S33 => post r34 S33))))
set_option maxHeartbeats 4000000 in
set_option maxRecDepth 100000 in
theorem c_X1_readRule (l : Launch) (G : vG)    {S : vSt} (a1 : Int32) (post : Bool → vSt → Prop) (h : p_X1_readRule   S a1 post) : Met l yX1_readRule (v_ws yX1_readRule cX1_readRule 2 (some .boolean)) (v_rm 3 103) (v_Pc G [.ref (G.1 55), .int a1] S) (v_Qz G post) 0 0 (v_A G) := by
  refine v_start (by decide +kernel) (Nat.le_of_ble_eq_true rfl) (fun X hl C D => ?_)
  subst hl
  have C : v_Cx X G cX1_readRule RX1 2 (v_rm 3 103) := C
  show VJ X G S 0 [(0, .ref (G.1 55)), (1, .int a1)] []
  refine V_aload_n C 0 dX1_readRule_0 rfl rfl ?_
  refine V_gi C 55 (by decide) (by decide) F_1_2 k_RX1_24 dX1_readRule_1 ?_
  refine V_iload_n C 1 dX1_readRule_4 rfl rfl ?_
  refine V_callSNz (As := [.int (S.1 55 2), .int a1]) (rest := []) C (c_X10_isIn (v_l X) G  _ _ _ h) KV_X10_isIn (List.mem_of_getElem? (i := 12) rfl) rfl rfl rfl (Nat.le_of_ble_eq_true rfl) ⟨Nat.le_of_ble_eq_true rfl, Nat.le_of_ble_eq_true rfl⟩ dX1_readRule_5 (fun r19 S18 h => ?_)
  refine V_ifb_eq (tgt := 20) C dX1_readRule_8 (by decide) (fun c => ?_) (fun c => ?_)
  · have h := h.1 c
    refine V_aload_n C 0 dX1_readRule_20 rfl rfl ?_
    refine V_ga C 55 (by decide) (by decide) F_1_0 k_RX1_9 dX1_readRule_21 ?_
    refine V_callVv (As := []) (rest := []) C (c_X6_pass (v_l X) G  _ h) 5 6 (by decide) (by decide) (by decide) rfl KV_X6_pass k_RX1_55 rfl rfl rfl (Nat.le_of_ble_eq_true rfl) ⟨Nat.le_of_ble_eq_true rfl, Nat.le_of_ble_eq_true rfl⟩ dX1_readRule_24 (fun S20 h => ?_)
    refine V_aload_n C 0 dX1_readRule_27 rfl rfl ?_
    refine V_ga C 55 (by decide) (by decide) F_1_0 k_RX1_9 dX1_readRule_28 ?_
    refine V_getsN C 1 (by decide) (List.mem_of_getElem? (i := 1) rfl) dX1_readRule_31 ?_
    refine V_iload_n C 1 dX1_readRule_34 rfl rfl ?_
    refine V_callSNi (As := [.ref (G.1 156), .int a1]) (rest := [.ref (G.1 5)]) C (c_X10_at_s (v_l X) G (by decide) _ _ h) KV_X10_at (List.mem_of_getElem? (i := 13) rfl) rfl rfl rfl (Nat.le_of_ble_eq_true rfl) ⟨Nat.le_of_ble_eq_true rfl, Nat.le_of_ble_eq_true rfl⟩ dX1_readRule_35 (fun r22 S21 h => ?_)
    refine V_getsN C 2 (by decide) (List.mem_of_getElem? (i := 2) rfl) dX1_readRule_38 ?_
    refine V_iload_n C 1 dX1_readRule_41 rfl rfl ?_
    refine V_callSNi (As := [.ref (G.1 157), .int a1]) (rest := [.int r22, .ref (G.1 5)]) C (c_X10_at_s (v_l X) G (by decide) _ _ h) KV_X10_at (List.mem_of_getElem? (i := 13) rfl) rfl rfl rfl (Nat.le_of_ble_eq_true rfl) ⟨Nat.le_of_ble_eq_true rfl, Nat.le_of_ble_eq_true rfl⟩ dX1_readRule_42 (fun r24 S23 h => ?_)
    refine V_callVz (As := [.int r22, .int r24]) (rest := []) C (c_X6_takeNumber (v_l X) G  _ _ _ h) 5 6 (by decide) (by decide) (by decide) rfl KV_X6_takeNumber k_RX1_69 rfl rfl rfl (Nat.le_of_ble_eq_true rfl) ⟨Nat.le_of_ble_eq_true rfl, Nat.le_of_ble_eq_true rfl⟩ dX1_readRule_45 (fun r26 S25 h => ?_)
    refine V_ifb_ne (tgt := 53) C dX1_readRule_48 (by decide) (fun c => ?_) (fun c => ?_)
    · have h := h.1 c
      refine V_aload_n C 0 dX1_readRule_53 rfl rfl ?_
      refine V_dup C dX1_readRule_54 rfl ?_
      refine V_gi C 55 (by decide) (by decide) F_1_2 k_RX1_24 dX1_readRule_55 ?_
      refine V_iconst (v := 1) C dX1_readRule_58 (by decide) ?_
      refine V_iload_n C 1 dX1_readRule_59 rfl rfl ?_
      refine V_ishl C dX1_readRule_60 ?_
      refine V_ior C dX1_readRule_61 ?_
      refine V_pi C 55 (by decide) (by decide) P_1_2 k_RX1_24 dX1_readRule_62 ?_
      refine V_topS (fun S27 eS27 => ?_)
      have h := h S27 eS27
      refine V_aload_n C 0 dX1_readRule_65 rfl rfl ?_
      refine V_ga C 55 (by decide) (by decide) F_1_1 k_RX1_15 dX1_readRule_66 ?_
      refine V_gr C 32 (by decide) (by decide) F_0_0 k_RX1_72 dX1_readRule_69 ?_
      refine V_iload_n C 1 dX1_readRule_72 rfl rfl ?_
      refine V_aload_n C 0 dX1_readRule_73 rfl rfl ?_
      refine V_ga C 55 (by decide) (by decide) F_1_0 k_RX1_9 dX1_readRule_74 ?_
      refine V_callVi (As := []) (rest := [.int a1, .ref (G.1 33)]) C (c_X6_number (v_l X) G  _ h) 5 6 (by decide) (by decide) (by decide) rfl KV_X6_number k_RX1_75 rfl rfl rfl (Nat.le_of_ble_eq_true rfl) ⟨Nat.le_of_ble_eq_true rfl, Nat.le_of_ble_eq_true rfl⟩ dX1_readRule_77 (fun r29 S28 h => ?_)
      refine V_callSNv (As := [.ref (G.1 33), .int a1, .int r29]) (rest := []) C (c_X10_put (v_l X) G (by decide) (by decide) _ _ _ h) KV_X10_put (List.mem_of_getElem? (i := 14) rfl) rfl rfl rfl (Nat.le_of_ble_eq_true rfl) ⟨Nat.le_of_ble_eq_true rfl, Nat.le_of_ble_eq_true rfl⟩ dX1_readRule_80 (fun S30 h => ?_)
      refine V_aload_n C 0 dX1_readRule_83 rfl rfl ?_
      refine V_ga C 55 (by decide) (by decide) F_1_0 k_RX1_9 dX1_readRule_84 ?_
      refine V_callVz (As := []) (rest := []) C (c_X6_takeSemicolon (v_l X) G  _ h) 5 6 (by decide) (by decide) (by decide) rfl KV_X6_takeSemicolon k_RX1_82 rfl rfl rfl (Nat.le_of_ble_eq_true rfl) ⟨Nat.le_of_ble_eq_true rfl, Nat.le_of_ble_eq_true rfl⟩ dX1_readRule_87 (fun r32 S31 h => ?_)
      exact V_zret C D dX1_readRule_90 h
    · have h := h.2 c
      refine V_iconst (v := 0) C dX1_readRule_51 (by decide) ?_
      exact V_zret0 C D dX1_readRule_52 h
  · have h := h.2 c
    refine V_aload_n C 0 dX1_readRule_11 rfl rfl ?_
    refine V_ga C 55 (by decide) (by decide) F_1_0 k_RX1_9 dX1_readRule_12 ?_
    refine V_iconst (v := 5) C dX1_readRule_15 (by decide) ?_
    refine V_callVz (As := [.int 5]) (rest := []) C (c_X6_blame (v_l X) G  _ _ h) 5 6 (by decide) (by decide) (by decide) rfl KV_X6_blame k_RX1_48 rfl rfl rfl (Nat.le_of_ble_eq_true rfl) ⟨Nat.le_of_ble_eq_true rfl, Nat.le_of_ble_eq_true rfl⟩ dX1_readRule_16 (fun r34 S33 h => ?_)
    exact V_zret C D dX1_readRule_19 h
/-! HalfAccuser$CityReader.readText()Z -/
theorem dX1_readText_0 : decode cX1_readText 0 = .ok ((.aload_n 0), 1) := by decide +kernel
theorem dX1_readText_1 : decode cX1_readText 1 = .ok ((.getfield 15), 3) := by decide +kernel
theorem dX1_readText_4 : decode cX1_readText 4 = .ok ((.invokevirtual 19), 3) := by decide +kernel
theorem dX1_readText_7 : decode cX1_readText 7 = .ok ((.aload_n 0), 1) := by decide +kernel
theorem dX1_readText_8 : decode cX1_readText 8 = .ok ((.iconst 0), 1) := by decide +kernel
theorem dX1_readText_9 : decode cX1_readText 9 = .ok ((.putfield 24), 3) := by decide +kernel
theorem dX1_readText_12 : decode cX1_readText 12 = .ok ((.iconst 0), 1) := by decide +kernel
theorem dX1_readText_13 : decode cX1_readText 13 = .ok ((.istore_n 1), 1) := by decide +kernel
theorem dX1_readText_14 : decode cX1_readText 14 = .ok ((.iload_n 1), 1) := by decide +kernel
theorem dX1_readText_15 : decode cX1_readText 15 = .ok ((.sipush 900), 3) := by decide +kernel
theorem dX1_readText_18 : decode cX1_readText 18 = .ok ((.if_icmp .gt 86), 3) := by decide +kernel
theorem dX1_readText_21 : decode cX1_readText 21 = .ok ((.aload_n 0), 1) := by decide +kernel
theorem dX1_readText_22 : decode cX1_readText 22 = .ok ((.getfield 9), 3) := by decide +kernel
theorem dX1_readText_25 : decode cX1_readText 25 = .ok ((.getfield 30), 3) := by decide +kernel
theorem dX1_readText_28 : decode cX1_readText 28 = .ok ((.ifCond .eq 76), 3) := by decide +kernel
theorem dX1_readText_31 : decode cX1_readText 31 = .ok ((.aload_n 0), 1) := by decide +kernel
theorem dX1_readText_32 : decode cX1_readText 32 = .ok ((.getfield 9), 3) := by decide +kernel
theorem dX1_readText_35 : decode cX1_readText 35 = .ok ((.invokevirtual 33), 3) := by decide +kernel
theorem dX1_readText_38 : decode cX1_readText 38 = .ok ((.istore_n 2), 1) := by decide +kernel
theorem dX1_readText_39 : decode cX1_readText 39 = .ok ((.iload_n 2), 1) := by decide +kernel
theorem dX1_readText_40 : decode cX1_readText 40 = .ok ((.ifCond .lt 17), 3) := by decide +kernel
theorem dX1_readText_43 : decode cX1_readText 43 = .ok ((.iload_n 2), 1) := by decide +kernel
theorem dX1_readText_44 : decode cX1_readText 44 = .ok ((.iconst 4), 1) := by decide +kernel
theorem dX1_readText_45 : decode cX1_readText 45 = .ok ((.if_icmp .ge 12), 3) := by decide +kernel
theorem dX1_readText_48 : decode cX1_readText 48 = .ok ((.aload_n 0), 1) := by decide +kernel
theorem dX1_readText_49 : decode cX1_readText 49 = .ok ((.iload_n 2), 1) := by decide +kernel
theorem dX1_readText_50 : decode cX1_readText 50 = .ok ((.invokevirtual 37), 3) := by decide +kernel
theorem dX1_readText_53 : decode cX1_readText 53 = .ok ((.istore_n 3), 1) := by decide +kernel
theorem dX1_readText_54 : decode cX1_readText 54 = .ok ((.goto 38), 3) := by decide +kernel
theorem dX1_readText_57 : decode cX1_readText 57 = .ok ((.iload_n 2), 1) := by decide +kernel
theorem dX1_readText_58 : decode cX1_readText 58 = .ok ((.iconst 4), 1) := by decide +kernel
theorem dX1_readText_59 : decode cX1_readText 59 = .ok ((.if_icmp .ne 11), 3) := by decide +kernel
theorem dX1_readText_62 : decode cX1_readText 62 = .ok ((.aload_n 0), 1) := by decide +kernel
theorem dX1_readText_63 : decode cX1_readText 63 = .ok ((.invokevirtual 41), 3) := by decide +kernel
theorem dX1_readText_66 : decode cX1_readText 66 = .ok ((.istore_n 3), 1) := by decide +kernel
theorem dX1_readText_67 : decode cX1_readText 67 = .ok ((.goto 25), 3) := by decide +kernel
theorem dX1_readText_70 : decode cX1_readText 70 = .ok ((.iload_n 2), 1) := by decide +kernel
theorem dX1_readText_71 : decode cX1_readText 71 = .ok ((.bipush 7), 2) := by decide +kernel
theorem dX1_readText_73 : decode cX1_readText 73 = .ok ((.if_icmp .ne 10), 3) := by decide +kernel
theorem dX1_readText_76 : decode cX1_readText 76 = .ok ((.aload_n 0), 1) := by decide +kernel
theorem dX1_readText_77 : decode cX1_readText 77 = .ok ((.invokevirtual 45), 3) := by decide +kernel
theorem dX1_readText_80 : decode cX1_readText 80 = .ok ((.goto 11), 3) := by decide +kernel
theorem dX1_readText_83 : decode cX1_readText 83 = .ok ((.aload_n 0), 1) := by decide +kernel
theorem dX1_readText_84 : decode cX1_readText 84 = .ok ((.getfield 9), 3) := by decide +kernel
theorem dX1_readText_87 : decode cX1_readText 87 = .ok ((.iconst 2), 1) := by decide +kernel
theorem dX1_readText_88 : decode cX1_readText 88 = .ok ((.invokevirtual 48), 3) := by decide +kernel
theorem dX1_readText_91 : decode cX1_readText 91 = .ok ((.istore_n 3), 1) := by decide +kernel
theorem dX1_readText_92 : decode cX1_readText 92 = .ok ((.iload_n 3), 1) := by decide +kernel
theorem dX1_readText_93 : decode cX1_readText 93 = .ok ((.ifCond .ne 5), 3) := by decide +kernel
theorem dX1_readText_96 : decode cX1_readText 96 = .ok ((.iconst 0), 1) := by decide +kernel
theorem dX1_readText_97 : decode cX1_readText 97 = .ok (.ireturn, 1) := by decide +kernel
theorem dX1_readText_98 : decode cX1_readText 98 = .ok ((.iinc 1 1), 3) := by decide +kernel
theorem dX1_readText_101 : decode cX1_readText 101 = .ok ((.goto (-87)), 3) := by decide +kernel
theorem dX1_readText_104 : decode cX1_readText 104 = .ok ((.iconst 1), 1) := by decide +kernel
theorem dX1_readText_105 : decode cX1_readText 105 = .ok (.ireturn, 1) := by decide +kernel
def p_X1_readText_92    (K14 : vSt → Int32 → Prop) (post : Bool → vSt → Prop) (S : vSt) (x1 : Int32) (x3 : Bool) : Prop := ((x3 = true → ∀ y31 : Int32, y31 = x1 + 1 → K14 S y31) ∧ (x3 = false → post false S))
def p_X1_readText_91    (K14 : vSt → Int32 → Prop) (post : Bool → vSt → Prop) (S : vSt) (x1 : Int32) (s0 : Bool) : Prop := p_X1_readText_92 K14 post S x1 s0
def p_X1_readText_57    (K14 : vSt → Int32 → Prop) (post : Bool → vSt → Prop) (S : vSt) (x1 : Int32) (x2 : Int32) : Prop := ((¬ x2 = 4 → ((¬ x2 = 7 → p_X6_blame  S 2 (fun r30 S29 => p_X1_readText_91 K14 post S29 x1 r30)) ∧ (x2 = 7 → p_X1_readDeed  S  (fun r32 S31 => p_X1_readText_91 K14 post S31 x1 r32)))) ∧ (x2 = 4 → p_X1_readPerson  S  (fun r34 S33 => p_X1_readText_92 K14 post S33 x1 r34)))
def p_X1_readText_14     (post : Bool → vSt → Prop) : Nat → vSt → Int32 → Prop
  | 0 => fun _ _ => False
  | fu14 + 1 => fun S x1 => ((900 < x1 → post true S) ∧ (¬ 900 < x1 → (((S.1 5 7) = 0 → post true S) ∧ (¬ (S.1 5 7) = 0 → p_X6_wordNow  S  (fun r28 S27 => ((r28 < 0 → p_X1_readText_57 (p_X1_readText_14  post fu14) post S27 x1 r28) ∧ (¬ r28 < 0 → ((4 ≤ r28 → p_X1_readText_57 (p_X1_readText_14  post fu14) post S27 x1 r28) ∧ (¬ 4 ≤ r28 → p_X1_readRule  S27 r28 (fun r30 S29 => p_X1_readText_92 (p_X1_readText_14  post fu14) post S29 x1 r30))))))))))
theorem e_X1_readText_14     (post : Bool → vSt → Prop) (fu14 : Nat) (S : vSt) (x1 : Int32) : p_X1_readText_14  post (fu14 + 1) S x1 = (((900 < x1 → post true S) ∧ (¬ 900 < x1 → (((S.1 5 7) = 0 → post true S) ∧ (¬ (S.1 5 7) = 0 → p_X6_wordNow  S  (fun r28 S27 => ((r28 < 0 → p_X1_readText_57 (p_X1_readText_14  post fu14) post S27 x1 r28) ∧ (¬ r28 < 0 → ((4 ≤ r28 → p_X1_readText_57 (p_X1_readText_14  post fu14) post S27 x1 r28) ∧ (¬ 4 ≤ r28 → p_X1_readRule  S27 r28 (fun r30 S29 => p_X1_readText_92 (p_X1_readText_14  post fu14) post S29 x1 r30))))))))))) := rfl
def p_X1_readText   (S : vSt)  (post : Bool → vSt → Prop) : Prop := p_X0_clear 32 S  (fun S25 => ∀ S26, S26 = v_si S25 55 2 0 → ∃ fu14, p_X1_readText_14  post fu14 S26 0)
set_option maxHeartbeats 4000000 in
set_option maxRecDepth 100000 in
theorem q_X1_readText_92 {X : vX} {G : vG}  {post : Bool → vSt → Prop} (C : v_Cx X G cX1_readText RX1 4 (v_rm 5 150)) (D : v_Rx X G (v_Qz G post) (some .boolean))    {K14 : vSt → Int32 → Prop} (hK14 : ∀ S x1, K14 S x1 → VJ X G S 14 [(0, .ref (G.1 55)), (1, .int x1)] []) : ∀ (S : vSt) (x1 : Int32) (x3 : Bool), p_X1_readText_92 K14 post S x1 x3 → VJ X G S 92 [(0, .ref (G.1 55)), (1, .int x1), (3, .int (v_b x3))] [] := by
  intro S x1 x3 h
  refine V_iload_n C 2 dX1_readText_92 rfl rfl ?_
  refine V_ifb_ne (tgt := 98) C dX1_readText_93 (by decide) (fun c => ?_) (fun c => ?_)
  · have h := h.1 c
    obtain ⟨y31, ey31⟩ : ∃ z : Int32, z = x1 + 1 := ⟨_, rfl⟩
    have h := h y31 ey31
    refine V_iinc (lv' := [(0, .ref (G.1 55)), (1, .int y31), (3, .int (v_b x3))]) C 1 [1, 0, 2] y31 dX1_readText_98 rfl (by rw [ey31]; rfl) (by decide) rfl ?_
    refine V_goto (tgt := 14) C dX1_readText_101 (by decide) ?_
    refine V_loc (lv' := [(0, .ref (G.1 55)), (1, .int y31)]) [0, 1] rfl ?_
    exact hK14 _ _ h
  · have h := h.2 c
    refine V_iconst (v := 0) C dX1_readText_96 (by decide) ?_
    exact V_zret0 C D dX1_readText_97 h
set_option maxHeartbeats 4000000 in
set_option maxRecDepth 100000 in
theorem q_X1_readText_91 {X : vX} {G : vG}  {post : Bool → vSt → Prop} (C : v_Cx X G cX1_readText RX1 4 (v_rm 5 150)) (D : v_Rx X G (v_Qz G post) (some .boolean))    {K14 : vSt → Int32 → Prop} (hK14 : ∀ S x1, K14 S x1 → VJ X G S 14 [(0, .ref (G.1 55)), (1, .int x1)] []) : ∀ (S : vSt) (x1 : Int32) (s0 : Bool), p_X1_readText_91 K14 post S x1 s0 → VJ X G S 91 [(0, .ref (G.1 55)), (1, .int x1)] [.int (v_b s0)] := by
  intro S x1 s0 h
  refine V_istore_n (lv' := [(0, .ref (G.1 55)), (1, .int x1), (3, .int (v_b s0))]) C [1, 2, 0] dX1_readText_91 rfl (by decide) rfl ?_
  exact q_X1_readText_92 C D hK14 _ _ _ h
set_option maxHeartbeats 4000000 in
set_option maxRecDepth 100000 in
theorem q_X1_readText_57 {X : vX} {G : vG}  {post : Bool → vSt → Prop} (C : v_Cx X G cX1_readText RX1 4 (v_rm 5 150)) (D : v_Rx X G (v_Qz G post) (some .boolean))    {K14 : vSt → Int32 → Prop} (hK14 : ∀ S x1, K14 S x1 → VJ X G S 14 [(0, .ref (G.1 55)), (1, .int x1)] []) : ∀ (S : vSt) (x1 : Int32) (x2 : Int32), p_X1_readText_57 K14 post S x1 x2 → VJ X G S 57 [(0, .ref (G.1 55)), (1, .int x1), (2, .int x2)] [] := by
  intro S x1 x2 h
  refine V_iload_n C 2 dX1_readText_57 rfl rfl ?_
  refine V_iconst (v := 4) C dX1_readText_58 (by decide) ?_
  refine V_icmp_ne (tgt := 70) C dX1_readText_59 (by decide) (fun c => ?_) (fun c => ?_)
  · have h := h.1 c
    refine V_iload_n C 2 dX1_readText_70 rfl rfl ?_
    refine V_bipush (v := 7) C dX1_readText_71 (by decide) ?_
    refine V_icmp_ne (tgt := 83) C dX1_readText_73 (by decide) (fun c => ?_) (fun c => ?_)
    · have h := h.1 c
      refine V_aload_n C 0 dX1_readText_83 rfl rfl ?_
      refine V_ga C 55 (by decide) (by decide) F_1_0 k_RX1_9 dX1_readText_84 ?_
      refine V_iconst (v := 2) C dX1_readText_87 (by decide) ?_
      refine V_callVz (As := [.int 2]) (rest := []) C (c_X6_blame (v_l X) G  _ _ h) 5 6 (by decide) (by decide) (by decide) rfl KV_X6_blame k_RX1_48 rfl rfl rfl (Nat.le_of_ble_eq_true rfl) ⟨Nat.le_of_ble_eq_true rfl, Nat.le_of_ble_eq_true rfl⟩ dX1_readText_88 (fun r30 S29 h => ?_)
      refine V_loc (lv' := [(0, .ref (G.1 55)), (1, .int x1)]) [0, 1] rfl ?_
      exact q_X1_readText_91 C D hK14 _ _ _ h
    · have h := h.2 c
      refine V_aload_n C 0 dX1_readText_76 rfl rfl ?_
      refine V_callVz (As := []) (rest := []) C (c_X1_readDeed (v_l X) G  _ h) 55 1 (by decide) (by decide) (by decide) rfl KV_X1_readDeed k_RX1_45 rfl rfl rfl (Nat.le_of_ble_eq_true rfl) ⟨Nat.le_of_ble_eq_true rfl, Nat.le_of_ble_eq_true rfl⟩ dX1_readText_77 (fun r32 S31 h => ?_)
      refine V_goto (tgt := 91) C dX1_readText_80 (by decide) ?_
      refine V_loc (lv' := [(0, .ref (G.1 55)), (1, .int x1)]) [0, 1] rfl ?_
      exact q_X1_readText_91 C D hK14 _ _ _ h
  · have h := h.2 c
    refine V_aload_n C 0 dX1_readText_62 rfl rfl ?_
    refine V_callVz (As := []) (rest := []) C (c_X1_readPerson (v_l X) G  _ h) 55 1 (by decide) (by decide) (by decide) rfl KV_X1_readPerson k_RX1_41 rfl rfl rfl (Nat.le_of_ble_eq_true rfl) ⟨Nat.le_of_ble_eq_true rfl, Nat.le_of_ble_eq_true rfl⟩ dX1_readText_63 (fun r34 S33 h => ?_)
    refine V_istore_n (lv' := [(0, .ref (G.1 55)), (1, .int x1), (2, .int x2), (3, .int (v_b r34))]) C [1, 2, 3, 0] dX1_readText_66 rfl (by decide) rfl ?_
    refine V_goto (tgt := 92) C dX1_readText_67 (by decide) ?_
    refine V_loc (lv' := [(0, .ref (G.1 55)), (1, .int x1), (3, .int (v_b r34))]) [0, 1, 3] rfl ?_
    exact q_X1_readText_92 C D hK14 _ _ _ h
set_option maxHeartbeats 4000000 in
set_option maxRecDepth 100000 in
theorem q_X1_readText_14 {X : vX} {G : vG}  {post : Bool → vSt → Prop} (C : v_Cx X G cX1_readText RX1 4 (v_rm 5 150)) (D : v_Rx X G (v_Qz G post) (some .boolean))     : ∀ (fu : Nat) (S : vSt) (x1 : Int32), p_X1_readText_14  post fu S x1 → VJ X G S 14 [(0, .ref (G.1 55)), (1, .int x1)] [] := by
  intro fu
  induction fu with
  | zero => intro S x1 h; exact absurd h id
  | succ fu ih =>
    intro S x1 h
    have hK14 := ih
    rw [e_X1_readText_14] at h
    refine V_iload_n C 1 dX1_readText_14 rfl rfl ?_
    refine V_sipush (v := 900) C dX1_readText_15 (by decide) ?_
    refine V_icmp_gt (tgt := 104) C dX1_readText_18 (by decide) (fun c => ?_) (fun c => ?_)
    · have h := h.1 c
      refine V_iconst (v := 1) C dX1_readText_104 (by decide) ?_
      exact V_zret1 C D dX1_readText_105 h
    · have h := h.2 c
      refine V_aload_n C 0 dX1_readText_21 rfl rfl ?_
      refine V_ga C 55 (by decide) (by decide) F_1_0 k_RX1_9 dX1_readText_22 ?_
      refine V_gi C 5 (by decide) (by decide) F_6_7 k_RX1_30 dX1_readText_25 ?_
      refine V_if_eq (tgt := 104) C dX1_readText_28 (by decide) (fun c => ?_) (fun c => ?_)
      · have h := h.1 c
        refine V_iconst (v := 1) C dX1_readText_104 (by decide) ?_
        exact V_zret1 C D dX1_readText_105 h
      · have h := h.2 c
        refine V_aload_n C 0 dX1_readText_31 rfl rfl ?_
        refine V_ga C 55 (by decide) (by decide) F_1_0 k_RX1_9 dX1_readText_32 ?_
        refine V_callVi (As := []) (rest := []) C (c_X6_wordNow (v_l X) G  _ h) 5 6 (by decide) (by decide) (by decide) rfl KV_X6_wordNow k_RX1_33 rfl rfl rfl (Nat.le_of_ble_eq_true rfl) ⟨Nat.le_of_ble_eq_true rfl, Nat.le_of_ble_eq_true rfl⟩ dX1_readText_35 (fun r28 S27 h => ?_)
        refine V_istore_n (lv' := [(0, .ref (G.1 55)), (1, .int x1), (2, .int r28)]) C [1, 2, 0] dX1_readText_38 rfl (by decide) rfl ?_
        refine V_iload_n C 2 dX1_readText_39 rfl rfl ?_
        refine V_if_lt (tgt := 57) C dX1_readText_40 (by decide) (fun c => ?_) (fun c => ?_)
        · have h := h.1 c
          exact q_X1_readText_57 C D hK14 _ _ _ h
        · have h := h.2 c
          refine V_iload_n C 2 dX1_readText_43 rfl rfl ?_
          refine V_iconst (v := 4) C dX1_readText_44 (by decide) ?_
          refine V_icmp_ge (tgt := 57) C dX1_readText_45 (by decide) (fun c => ?_) (fun c => ?_)
          · have h := h.1 c
            exact q_X1_readText_57 C D hK14 _ _ _ h
          · have h := h.2 c
            refine V_aload_n C 0 dX1_readText_48 rfl rfl ?_
            refine V_iload_n C 2 dX1_readText_49 rfl rfl ?_
            refine V_callVz (As := [.int r28]) (rest := []) C (c_X1_readRule (v_l X) G  _ _ h) 55 1 (by decide) (by decide) (by decide) rfl KV_X1_readRule k_RX1_37 rfl rfl rfl (Nat.le_of_ble_eq_true rfl) ⟨Nat.le_of_ble_eq_true rfl, Nat.le_of_ble_eq_true rfl⟩ dX1_readText_50 (fun r30 S29 h => ?_)
            refine V_istore_n (lv' := [(0, .ref (G.1 55)), (1, .int x1), (2, .int r28), (3, .int (v_b r30))]) C [1, 2, 3, 0] dX1_readText_53 rfl (by decide) rfl ?_
            refine V_goto (tgt := 92) C dX1_readText_54 (by decide) ?_
            refine V_loc (lv' := [(0, .ref (G.1 55)), (1, .int x1), (3, .int (v_b r30))]) [0, 1, 3] rfl ?_
            exact q_X1_readText_92 C D hK14 _ _ _ h
set_option maxHeartbeats 4000000 in
set_option maxRecDepth 100000 in
theorem c_X1_readText (l : Launch) (G : vG)    {S : vSt}  (post : Bool → vSt → Prop) (h : p_X1_readText   S  post) : Met l yX1_readText (v_ws yX1_readText cX1_readText 4 (some .boolean)) (v_rm 5 150) (v_Pc G [.ref (G.1 55)] S) (v_Qz G post) 0 0 (v_A G) := by
  refine v_start (by decide +kernel) (Nat.le_of_ble_eq_true rfl) (fun X hl C D => ?_)
  subst hl
  have C : v_Cx X G cX1_readText RX1 4 (v_rm 5 150) := C
  show VJ X G S 0 [(0, .ref (G.1 55))] []
  refine V_aload_n C 0 dX1_readText_0 rfl rfl ?_
  refine V_ga C 55 (by decide) (by decide) F_1_1 k_RX1_15 dX1_readText_1 ?_
  refine V_callVv (As := []) (rest := []) C (c_X0_clear (v_l X) G v_i32 _ h) 32 0 (by decide) (by decide) (by decide) rfl KV_X0_clear k_RX1_19 rfl rfl rfl (Nat.le_of_ble_eq_true rfl) ⟨Nat.le_of_ble_eq_true rfl, Nat.le_of_ble_eq_true rfl⟩ dX1_readText_4 (fun S25 h => ?_)
  refine V_aload_n C 0 dX1_readText_7 rfl rfl ?_
  refine V_iconst (v := 0) C dX1_readText_8 (by decide) ?_
  refine V_pi C 55 (by decide) (by decide) P_1_2 k_RX1_24 dX1_readText_9 ?_
  refine V_topS (fun S26 eS26 => ?_)
  have h := h S26 eS26
  refine V_iconst (v := 0) C dX1_readText_12 (by decide) ?_
  refine V_istore_n (lv' := [(0, .ref (G.1 55)), (1, .int 0)]) C [1, 0] dX1_readText_13 rfl (by decide) rfl ?_
  obtain ⟨fu14, h⟩ := h
  exact q_X1_readText_14 C D  fu14 _ _ h
/-! HalfAccuser$Games.play(LHalfAccuser$Games;II)J -/
theorem dX2_play_0 : decode cX2_play 0 = .ok ((.iload_n 1), 1) := by decide +kernel
theorem dX2_play_1 : decode cX2_play 1 = .ok ((.aload_n 0), 1) := by decide +kernel
theorem dX2_play_2 : decode cX2_play 2 = .ok ((.getfield 30), 3) := by decide +kernel
theorem dX2_play_5 : decode cX2_play 5 = .ok ((.if_icmp .ge 8), 3) := by decide +kernel
theorem dX2_play_8 : decode cX2_play 8 = .ok ((.iload_n 1), 1) := by decide +kernel
theorem dX2_play_9 : decode cX2_play 9 = .ok ((.iconst 3), 1) := by decide +kernel
theorem dX2_play_10 : decode cX2_play 10 = .ok ((.if_icmp .lt 5), 3) := by decide +kernel
theorem dX2_play_13 : decode cX2_play 13 = .ok ((.lconst 0), 1) := by decide +kernel
theorem dX2_play_14 : decode cX2_play 14 = .ok (.lreturn, 1) := by decide +kernel
theorem dX2_play_15 : decode cX2_play 15 = .ok ((.iload_n 1), 1) := by decide +kernel
theorem dX2_play_16 : decode cX2_play 16 = .ok ((.iconst 2), 1) := by decide +kernel
theorem dX2_play_17 : decode cX2_play 17 = .ok (.irem, 1) := by decide +kernel
theorem dX2_play_18 : decode cX2_play 18 = .ok ((.ifCond .ne 7), 3) := by decide +kernel
theorem dX2_play_21 : decode cX2_play 21 = .ok ((.iconst 1), 1) := by decide +kernel
theorem dX2_play_22 : decode cX2_play 22 = .ok ((.goto 4), 3) := by decide +kernel
theorem dX2_play_25 : decode cX2_play 25 = .ok ((.iconst 0), 1) := by decide +kernel
theorem dX2_play_26 : decode cX2_play 26 = .ok ((.istore_n 3), 1) := by decide +kernel
theorem dX2_play_27 : decode cX2_play 27 = .ok ((.aload_n 0), 1) := by decide +kernel
theorem dX2_play_28 : decode cX2_play 28 = .ok ((.iload_n 1), 1) := by decide +kernel
theorem dX2_play_29 : decode cX2_play 29 = .ok ((.iconst 1), 1) := by decide +kernel
theorem dX2_play_30 : decode cX2_play 30 = .ok (.iadd, 1) := by decide +kernel
theorem dX2_play_31 : decode cX2_play 31 = .ok ((.iload_n 2), 1) := by decide +kernel
theorem dX2_play_32 : decode cX2_play 32 = .ok ((.invokestatic 62), 3) := by decide +kernel
theorem dX2_play_35 : decode cX2_play 35 = .ok ((.lstore 4), 2) := by decide +kernel
theorem dX2_play_37 : decode cX2_play 37 = .ok ((.iconst 0), 1) := by decide +kernel
theorem dX2_play_38 : decode cX2_play 38 = .ok ((.istore 6), 2) := by decide +kernel
theorem dX2_play_40 : decode cX2_play 40 = .ok ((.iload 6), 2) := by decide +kernel
theorem dX2_play_42 : decode cX2_play 42 = .ok ((.aload_n 0), 1) := by decide +kernel
theorem dX2_play_43 : decode cX2_play 43 = .ok ((.getfield 22), 3) := by decide +kernel
theorem dX2_play_46 : decode cX2_play 46 = .ok ((.getfield 34), 3) := by decide +kernel
theorem dX2_play_49 : decode cX2_play 49 = .ok ((.if_icmp .ge 87), 3) := by decide +kernel
theorem dX2_play_52 : decode cX2_play 52 = .ok ((.aload_n 0), 1) := by decide +kernel
theorem dX2_play_53 : decode cX2_play 53 = .ok ((.getfield 9), 3) := by decide +kernel
theorem dX2_play_56 : decode cX2_play 56 = .ok ((.iload 6), 2) := by decide +kernel
theorem dX2_play_58 : decode cX2_play 58 = .ok ((.invokestatic 66), 3) := by decide +kernel
theorem dX2_play_61 : decode cX2_play 61 = .ok ((.iload_n 3), 1) := by decide +kernel
theorem dX2_play_62 : decode cX2_play 62 = .ok ((.ifCond .eq 7), 3) := by decide +kernel
theorem dX2_play_65 : decode cX2_play 65 = .ok ((.iconst 1), 1) := by decide +kernel
theorem dX2_play_66 : decode cX2_play 66 = .ok ((.goto 4), 3) := by decide +kernel
theorem dX2_play_69 : decode cX2_play 69 = .ok ((.iconst 2), 1) := by decide +kernel
theorem dX2_play_70 : decode cX2_play 70 = .ok ((.if_icmp .ne 60), 3) := by decide +kernel
theorem dX2_play_73 : decode cX2_play 73 = .ok ((.iload_n 2), 1) := by decide +kernel
theorem dX2_play_74 : decode cX2_play 74 = .ok ((.iload 6), 2) := by decide +kernel
theorem dX2_play_76 : decode cX2_play 76 = .ok ((.invokestatic 70), 3) := by decide +kernel
theorem dX2_play_79 : decode cX2_play 79 = .ok ((.ifCond .ne 51), 3) := by decide +kernel
theorem dX2_play_82 : decode cX2_play 82 = .ok ((.aload_n 0), 1) := by decide +kernel
theorem dX2_play_83 : decode cX2_play 83 = .ok ((.getfield 15), 3) := by decide +kernel
theorem dX2_play_86 : decode cX2_play 86 = .ok ((.iload 6), 2) := by decide +kernel
theorem dX2_play_88 : decode cX2_play 88 = .ok ((.invokestatic 73), 3) := by decide +kernel
theorem dX2_play_91 : decode cX2_play 91 = .ok ((.aload_n 0), 1) := by decide +kernel
theorem dX2_play_92 : decode cX2_play 92 = .ok ((.iload_n 1), 1) := by decide +kernel
theorem dX2_play_93 : decode cX2_play 93 = .ok ((.iconst 1), 1) := by decide +kernel
theorem dX2_play_94 : decode cX2_play 94 = .ok (.iadd, 1) := by decide +kernel
theorem dX2_play_95 : decode cX2_play 95 = .ok ((.iload_n 2), 1) := by decide +kernel
theorem dX2_play_96 : decode cX2_play 96 = .ok ((.iconst 1), 1) := by decide +kernel
theorem dX2_play_97 : decode cX2_play 97 = .ok ((.iload 6), 2) := by decide +kernel
theorem dX2_play_99 : decode cX2_play 99 = .ok (.ishl, 1) := by decide +kernel
theorem dX2_play_100 : decode cX2_play 100 = .ok (.ior, 1) := by decide +kernel
theorem dX2_play_101 : decode cX2_play 101 = .ok ((.invokestatic 62), 3) := by decide +kernel
theorem dX2_play_104 : decode cX2_play 104 = .ok (.ladd, 1) := by decide +kernel
theorem dX2_play_105 : decode cX2_play 105 = .ok ((.lstore 7), 2) := by decide +kernel
theorem dX2_play_107 : decode cX2_play 107 = .ok ((.iload_n 3), 1) := by decide +kernel
theorem dX2_play_108 : decode cX2_play 108 = .ok ((.ifCond .eq 13), 3) := by decide +kernel
theorem dX2_play_111 : decode cX2_play 111 = .ok ((.lload 4), 2) := by decide +kernel
theorem dX2_play_113 : decode cX2_play 113 = .ok ((.lload 7), 2) := by decide +kernel
theorem dX2_play_115 : decode cX2_play 115 = .ok ((.invokestatic 76), 3) := by decide +kernel
theorem dX2_play_118 : decode cX2_play 118 = .ok ((.goto 10), 3) := by decide +kernel
theorem dX2_play_121 : decode cX2_play 121 = .ok ((.lload 4), 2) := by decide +kernel
theorem dX2_play_123 : decode cX2_play 123 = .ok ((.lload 7), 2) := by decide +kernel
theorem dX2_play_125 : decode cX2_play 125 = .ok ((.invokestatic 82), 3) := by decide +kernel
theorem dX2_play_128 : decode cX2_play 128 = .ok ((.lstore 4), 2) := by decide +kernel
theorem dX2_play_130 : decode cX2_play 130 = .ok ((.iinc 6 1), 3) := by decide +kernel
theorem dX2_play_133 : decode cX2_play 133 = .ok ((.goto (-93)), 3) := by decide +kernel
theorem dX2_play_136 : decode cX2_play 136 = .ok ((.lload 4), 2) := by decide +kernel
theorem dX2_play_138 : decode cX2_play 138 = .ok (.lreturn, 1) := by decide +kernel
def p_X2_play_130  (a1 : Int32) (a2 : Int32) (rc : vSt → Int32 → Int32 → (Int64 → vSt → Prop) → Prop) (K40 : vSt → Bool → Int64 → Int32 → Prop) (post : Int64 → vSt → Prop) (S : vSt) (x3 : Bool) (x4 : Int64) (x6 : Int32) : Prop := ∀ y27 : Int32, y27 = x6 + 1 → K40 S x3 x4 y27
def p_X2_play_128  (a1 : Int32) (a2 : Int32) (rc : vSt → Int32 → Int32 → (Int64 → vSt → Prop) → Prop) (K40 : vSt → Bool → Int64 → Int32 → Prop) (post : Int64 → vSt → Prop) (S : vSt) (x3 : Bool) (x6 : Int32) (s0 : Int64) : Prop := p_X2_play_130 a1 a2 rc K40 post S x3 s0 x6
def p_X2_play_70  (a1 : Int32) (a2 : Int32) (rc : vSt → Int32 → Int32 → (Int64 → vSt → Prop) → Prop) (K40 : vSt → Bool → Int64 → Int32 → Prop) (post : Int64 → vSt → Prop) (S : vSt) (x3 : Bool) (x4 : Int64) (x6 : Int32) (s0 : Int32) (s1 : Int32) : Prop := ((¬ s1 = s0 → p_X2_play_130 a1 a2 rc K40 post S x3 x4 x6) ∧ (s1 = s0 → p_X10_isIn  S a2 x6 (fun r28 S27 => ((r28 = true → p_X2_play_130 a1 a2 rc K40 post S27 x3 x4 x6) ∧ (r28 = false → p_X10_at_ 70 10 S27 x6 (fun r30 S29 => rc S29 (a1 + 1) (a2 ||| (1 <<< (x6 &&& 31))) (fun r32 S31 => ∀ y33 : Int64, y33 = (r30 + r32) → ((x3 = false → p_X2_play_128 a1 a2 rc K40 post S31 x3 x6 (v_minl x4 y33)) ∧ (x3 = true → p_X2_play_128 a1 a2 rc K40 post S31 x3 x6 (v_maxl x4 y33))))))))))
def p_X2_play_40  (a1 : Int32) (a2 : Int32) (rc : vSt → Int32 → Int32 → (Int64 → vSt → Prop) → Prop)  (post : Int64 → vSt → Prop) : Nat → vSt → Bool → Int64 → Int32 → Prop
  | 0 => fun _ _ _ _ => False
  | fu40 + 1 => fun S x3 x4 x6 => (((S.1 10 16) ≤ x6 → post x4 S) ∧ (¬ (S.1 10 16) ≤ x6 → p_X10_at 69 10 S x6 (fun r26 S25 => ((x3 = false → p_X2_play_70 a1 a2 rc (p_X2_play_40 a1 a2 rc post fu40) post S25 x3 x4 x6 2 r26) ∧ (x3 = true → p_X2_play_70 a1 a2 rc (p_X2_play_40 a1 a2 rc post fu40) post S25 x3 x4 x6 1 r26)))))
theorem e_X2_play_40  (a1 : Int32) (a2 : Int32) (rc : vSt → Int32 → Int32 → (Int64 → vSt → Prop) → Prop)  (post : Int64 → vSt → Prop) (fu40 : Nat) (S : vSt) (x3 : Bool) (x4 : Int64) (x6 : Int32) : p_X2_play_40 a1 a2 rc post (fu40 + 1) S x3 x4 x6 = ((((S.1 10 16) ≤ x6 → post x4 S) ∧ (¬ (S.1 10 16) ≤ x6 → p_X10_at 69 10 S x6 (fun r26 S25 => ((x3 = false → p_X2_play_70 a1 a2 rc (p_X2_play_40 a1 a2 rc post fu40) post S25 x3 x4 x6 2 r26) ∧ (x3 = true → p_X2_play_70 a1 a2 rc (p_X2_play_40 a1 a2 rc post fu40) post S25 x3 x4 x6 1 r26)))))) := rfl
def p_X2_play_26  (a1 : Int32) (a2 : Int32) (rc : vSt → Int32 → Int32 → (Int64 → vSt → Prop) → Prop)  (post : Int64 → vSt → Prop) (S : vSt) (s0 : Bool) : Prop := rc S (a1 + 1) a2 (fun r24 S23 => ∃ fu40, p_X2_play_40 a1 a2 rc post fu40 S23 s0 r24 0)
def pb_X2_play  (rc : vSt → Int32 → Int32 → (Int64 → vSt → Prop) → Prop) (S : vSt) (a1 : Int32) (a2 : Int32) (post : Int64 → vSt → Prop) : Prop := (((S.1 68 5) ≤ a1 → post 0 S) ∧ (¬ (S.1 68 5) ≤ a1 → ((a1 < 3 → ((¬ (a1 - a1 / 2 * 2) = 0 → p_X2_play_26 a1 a2 rc post S false) ∧ ((a1 - a1 / 2 * 2) = 0 → p_X2_play_26 a1 a2 rc post S true))) ∧ (¬ a1 < 3 → post 0 S))))
set_option maxHeartbeats 4000000 in
set_option maxRecDepth 100000 in
theorem q_X2_play_130 {X : vX} {G : vG} {f0 l0 : Nat} {post : Int64 → vSt → Prop} (C : v_Cx X G cX2_play RX2 9 (v_rm (f0 + 1) (l0 + 61))) (D : v_Rx X G (v_Ql G post) (some .long))  {a1 : Int32} {a2 : Int32} {rc : vSt → Int32 → Int32 → (Int64 → vSt → Prop) → Prop} (hrc : ∀ (S : vSt) (a1 : Int32) (a2 : Int32) (post : Int64 → vSt → Prop), rc S a1 a2 post → Met (v_l X) yX2_play (v_ws yX2_play cX2_play 9 (some .long)) (v_rm f0 l0) (v_Pc G [.ref (G.1 68), .int a1, .int a2] S) (v_Ql G post) 0 0 (v_A G)) {K40 : vSt → Bool → Int64 → Int32 → Prop} (hK40 : ∀ S x3 x4 x6, K40 S x3 x4 x6 → VJ X G S 40 [(0, .ref (G.1 68)), (1, .int a1), (2, .int a2), (3, .int (v_b x3)), (4, .long x4), (6, .int x6)] []) : ∀ (S : vSt) (x3 : Bool) (x4 : Int64) (x6 : Int32), p_X2_play_130 a1 a2 rc K40 post S x3 x4 x6 → VJ X G S 130 [(0, .ref (G.1 68)), (1, .int a1), (2, .int a2), (3, .int (v_b x3)), (4, .long x4), (6, .int x6)] [] := by
  intro S x3 x4 x6 h
  obtain ⟨y27, ey27⟩ : ∃ z : Int32, z = x6 + 1 := ⟨_, rfl⟩
  have h := h y27 ey27
  refine V_iinc (lv' := [(0, .ref (G.1 68)), (1, .int a1), (2, .int a2), (3, .int (v_b x3)), (4, .long x4), (6, .int y27)]) C 5 [1, 2, 3, 4, 5, 0] y27 dX2_play_130 rfl (by rw [ey27]; rfl) (by decide) rfl ?_
  refine V_goto (tgt := 40) C dX2_play_133 (by decide) ?_
  exact hK40 _ _ _ _ h
set_option maxHeartbeats 4000000 in
set_option maxRecDepth 100000 in
theorem q_X2_play_128 {X : vX} {G : vG} {f0 l0 : Nat} {post : Int64 → vSt → Prop} (C : v_Cx X G cX2_play RX2 9 (v_rm (f0 + 1) (l0 + 61))) (D : v_Rx X G (v_Ql G post) (some .long))  {a1 : Int32} {a2 : Int32} {rc : vSt → Int32 → Int32 → (Int64 → vSt → Prop) → Prop} (hrc : ∀ (S : vSt) (a1 : Int32) (a2 : Int32) (post : Int64 → vSt → Prop), rc S a1 a2 post → Met (v_l X) yX2_play (v_ws yX2_play cX2_play 9 (some .long)) (v_rm f0 l0) (v_Pc G [.ref (G.1 68), .int a1, .int a2] S) (v_Ql G post) 0 0 (v_A G)) {K40 : vSt → Bool → Int64 → Int32 → Prop} (hK40 : ∀ S x3 x4 x6, K40 S x3 x4 x6 → VJ X G S 40 [(0, .ref (G.1 68)), (1, .int a1), (2, .int a2), (3, .int (v_b x3)), (4, .long x4), (6, .int x6)] []) : ∀ (S : vSt) (x3 : Bool) (x6 : Int32) (s0 : Int64), p_X2_play_128 a1 a2 rc K40 post S x3 x6 s0 → VJ X G S 128 [(0, .ref (G.1 68)), (1, .int a1), (2, .int a2), (3, .int (v_b x3)), (6, .int x6)] [.long s0] := by
  intro S x3 x6 s0 h
  refine V_lstore (lv' := [(0, .ref (G.1 68)), (1, .int a1), (2, .int a2), (3, .int (v_b x3)), (4, .long s0), (6, .int x6)]) C [1, 2, 3, 4, 0, 5] dX2_play_128 (by decide) rfl ?_
  exact q_X2_play_130 C D hrc hK40 _ _ _ _ h
set_option maxHeartbeats 4000000 in
set_option maxRecDepth 100000 in
theorem q_X2_play_70 {X : vX} {G : vG} {f0 l0 : Nat} {post : Int64 → vSt → Prop} (C : v_Cx X G cX2_play RX2 9 (v_rm (f0 + 1) (l0 + 61))) (D : v_Rx X G (v_Ql G post) (some .long))  {a1 : Int32} {a2 : Int32} {rc : vSt → Int32 → Int32 → (Int64 → vSt → Prop) → Prop} (hrc : ∀ (S : vSt) (a1 : Int32) (a2 : Int32) (post : Int64 → vSt → Prop), rc S a1 a2 post → Met (v_l X) yX2_play (v_ws yX2_play cX2_play 9 (some .long)) (v_rm f0 l0) (v_Pc G [.ref (G.1 68), .int a1, .int a2] S) (v_Ql G post) 0 0 (v_A G)) {K40 : vSt → Bool → Int64 → Int32 → Prop} (hK40 : ∀ S x3 x4 x6, K40 S x3 x4 x6 → VJ X G S 40 [(0, .ref (G.1 68)), (1, .int a1), (2, .int a2), (3, .int (v_b x3)), (4, .long x4), (6, .int x6)] []) : ∀ (S : vSt) (x3 : Bool) (x4 : Int64) (x6 : Int32) (s0 : Int32) (s1 : Int32), p_X2_play_70 a1 a2 rc K40 post S x3 x4 x6 s0 s1 → VJ X G S 70 [(0, .ref (G.1 68)), (1, .int a1), (2, .int a2), (3, .int (v_b x3)), (4, .long x4), (6, .int x6)] [.int s0, .int s1] := by
  intro S x3 x4 x6 s0 s1 h
  refine V_icmp_ne (tgt := 130) C dX2_play_70 (by decide) (fun c => ?_) (fun c => ?_)
  · have h := h.1 c
    exact q_X2_play_130 C D hrc hK40 _ _ _ _ h
  · have h := h.2 c
    refine V_iload_n C 2 dX2_play_73 rfl rfl ?_
    refine V_iload C 5 dX2_play_74 rfl ?_
    refine V_callSNz (As := [.int a2, .int x6]) (rest := []) C (c_X10_isIn (v_l X) G  _ _ _ h) KV_X10_isIn (List.mem_of_getElem? (i := 34) rfl) rfl rfl rfl (Nat.le_of_ble_eq_true rfl) ⟨by simp only [v_rm]; omega, by simp only [v_rm]; omega⟩ dX2_play_76 (fun r28 S27 h => ?_)
    refine V_ifb_ne (tgt := 130) C dX2_play_79 (by decide) (fun c => ?_) (fun c => ?_)
    · have h := h.1 c
      exact q_X2_play_130 C D hrc hK40 _ _ _ _ h
    · have h := h.2 c
      refine V_aload_n C 0 dX2_play_82 rfl rfl ?_
      refine V_ga C 68 (by decide) (by decide) F_2_3 k_RX2_15 dX2_play_83 ?_
      refine V_iload C 5 dX2_play_86 rfl ?_
      refine V_callSNl (As := [.ref (G.1 70), .int x6]) (rest := []) C (c_X10_at_ (v_l X) G (by decide) (by decide) _ _ h) KV_X10_at_ (List.mem_of_getElem? (i := 35) rfl) rfl rfl rfl (Nat.le_of_ble_eq_true rfl) ⟨by simp only [v_rm]; omega, by simp only [v_rm]; omega⟩ dX2_play_88 (fun r30 S29 h => ?_)
      refine V_aload_n C 0 dX2_play_91 rfl rfl ?_
      refine V_iload_n C 1 dX2_play_92 rfl rfl ?_
      refine V_iconst (v := 1) C dX2_play_93 (by decide) ?_
      refine V_iadd C dX2_play_94 ?_
      refine V_iload_n C 2 dX2_play_95 rfl rfl ?_
      refine V_iconst (v := 1) C dX2_play_96 (by decide) ?_
      refine V_iload C 5 dX2_play_97 rfl ?_
      refine V_ishl C dX2_play_99 ?_
      refine V_ior C dX2_play_100 ?_
      refine V_callSl (As := [.ref (G.1 68), .int (a1 + 1), .int (a2 ||| (1 <<< (x6 &&& 31)))]) (rest := [.long r30]) C (hrc _ _ _ _ h) KV_X2_play k_RX2_62 rfl rfl rfl (Nat.le_of_ble_eq_true rfl) ⟨by simp only [v_rm]; omega, by simp only [v_rm]; omega⟩ dX2_play_101 (fun r32 S31 h => ?_)
      refine V_ladd C dX2_play_104 ?_
      refine V_topl (fun y33 ey33 => ?_)
      have h := h y33 ey33
      refine V_lstore (lv' := [(0, .ref (G.1 68)), (1, .int a1), (2, .int a2), (3, .int (v_b x3)), (4, .long x4), (6, .int x6), (7, .long y33)]) C [1, 2, 3, 4, 5, 6, 0] dX2_play_105 (by decide) rfl ?_
      refine V_iload_n C 3 dX2_play_107 rfl rfl ?_
      refine V_ifb_eq (tgt := 121) C dX2_play_108 (by decide) (fun c => ?_) (fun c => ?_)
      · have h := h.1 c
        refine V_lload C 4 dX2_play_121 rfl ?_
        refine V_lload C 6 dX2_play_123 rfl ?_
        refine V_minl C k_RX2_82 (Nat.le_of_ble_eq_true rfl) ⟨by simp only [v_rm]; omega, by simp only [v_rm]; omega⟩ dX2_play_125 ?_
        refine V_loc (lv' := [(0, .ref (G.1 68)), (1, .int a1), (2, .int a2), (3, .int (v_b x3)), (6, .int x6)]) [0, 1, 2, 3, 5] rfl ?_
        exact q_X2_play_128 C D hrc hK40 _ _ _ _ h
      · have h := h.2 c
        refine V_lload C 4 dX2_play_111 rfl ?_
        refine V_lload C 6 dX2_play_113 rfl ?_
        refine V_maxl C k_RX2_76 (Nat.le_of_ble_eq_true rfl) ⟨by simp only [v_rm]; omega, by simp only [v_rm]; omega⟩ dX2_play_115 ?_
        refine V_goto (tgt := 128) C dX2_play_118 (by decide) ?_
        refine V_loc (lv' := [(0, .ref (G.1 68)), (1, .int a1), (2, .int a2), (3, .int (v_b x3)), (6, .int x6)]) [0, 1, 2, 3, 5] rfl ?_
        exact q_X2_play_128 C D hrc hK40 _ _ _ _ h
set_option maxHeartbeats 4000000 in
set_option maxRecDepth 100000 in
theorem q_X2_play_40 {X : vX} {G : vG} {f0 l0 : Nat} {post : Int64 → vSt → Prop} (C : v_Cx X G cX2_play RX2 9 (v_rm (f0 + 1) (l0 + 61))) (D : v_Rx X G (v_Ql G post) (some .long))  {a1 : Int32} {a2 : Int32} {rc : vSt → Int32 → Int32 → (Int64 → vSt → Prop) → Prop} (hrc : ∀ (S : vSt) (a1 : Int32) (a2 : Int32) (post : Int64 → vSt → Prop), rc S a1 a2 post → Met (v_l X) yX2_play (v_ws yX2_play cX2_play 9 (some .long)) (v_rm f0 l0) (v_Pc G [.ref (G.1 68), .int a1, .int a2] S) (v_Ql G post) 0 0 (v_A G))  : ∀ (fu : Nat) (S : vSt) (x3 : Bool) (x4 : Int64) (x6 : Int32), p_X2_play_40 a1 a2 rc post fu S x3 x4 x6 → VJ X G S 40 [(0, .ref (G.1 68)), (1, .int a1), (2, .int a2), (3, .int (v_b x3)), (4, .long x4), (6, .int x6)] [] := by
  intro fu
  induction fu with
  | zero => intro S x3 x4 x6 h; exact absurd h id
  | succ fu ih =>
    intro S x3 x4 x6 h
    have hK40 := ih
    rw [e_X2_play_40] at h
    refine V_iload C 5 dX2_play_40 rfl ?_
    refine V_aload_n C 0 dX2_play_42 rfl rfl ?_
    refine V_ga C 68 (by decide) (by decide) F_2_0 k_RX2_22 dX2_play_43 ?_
    refine V_gi C 10 (by decide) (by decide) F_0_16 k_RX2_34 dX2_play_46 ?_
    refine V_icmp_ge (tgt := 136) C dX2_play_49 (by decide) (fun c => ?_) (fun c => ?_)
    · have h := h.1 c
      refine V_lload C 4 dX2_play_136 rfl ?_
      exact V_lret C D dX2_play_138 h
    · have h := h.2 c
      refine V_aload_n C 0 dX2_play_52 rfl rfl ?_
      refine V_ga C 68 (by decide) (by decide) F_2_2 k_RX2_9 dX2_play_53 ?_
      refine V_iload C 5 dX2_play_56 rfl ?_
      refine V_callSNi (As := [.ref (G.1 69), .int x6]) (rest := []) C (c_X10_at (v_l X) G (by decide) (by decide) _ _ h) KV_X10_at (List.mem_of_getElem? (i := 33) rfl) rfl rfl rfl (Nat.le_of_ble_eq_true rfl) ⟨by simp only [v_rm]; omega, by simp only [v_rm]; omega⟩ dX2_play_58 (fun r26 S25 h => ?_)
      refine V_iload_n C 3 dX2_play_61 rfl rfl ?_
      refine V_ifb_eq (tgt := 69) C dX2_play_62 (by decide) (fun c => ?_) (fun c => ?_)
      · have h := h.1 c
        refine V_iconst (v := 2) C dX2_play_69 (by decide) ?_
        exact q_X2_play_70 C D hrc hK40 _ _ _ _ _ _ h
      · have h := h.2 c
        refine V_iconst (v := 1) C dX2_play_65 (by decide) ?_
        refine V_goto (tgt := 70) C dX2_play_66 (by decide) ?_
        exact q_X2_play_70 C D hrc hK40 _ _ _ _ _ _ h
set_option maxHeartbeats 4000000 in
set_option maxRecDepth 100000 in
theorem q_X2_play_26 {X : vX} {G : vG} {f0 l0 : Nat} {post : Int64 → vSt → Prop} (C : v_Cx X G cX2_play RX2 9 (v_rm (f0 + 1) (l0 + 61))) (D : v_Rx X G (v_Ql G post) (some .long))  {a1 : Int32} {a2 : Int32} {rc : vSt → Int32 → Int32 → (Int64 → vSt → Prop) → Prop} (hrc : ∀ (S : vSt) (a1 : Int32) (a2 : Int32) (post : Int64 → vSt → Prop), rc S a1 a2 post → Met (v_l X) yX2_play (v_ws yX2_play cX2_play 9 (some .long)) (v_rm f0 l0) (v_Pc G [.ref (G.1 68), .int a1, .int a2] S) (v_Ql G post) 0 0 (v_A G))  : ∀ (S : vSt) (s0 : Bool), p_X2_play_26 a1 a2 rc post S s0 → VJ X G S 26 [(0, .ref (G.1 68)), (1, .int a1), (2, .int a2)] [.int (v_b s0)] := by
  intro S s0 h
  refine V_istore_n (lv' := [(0, .ref (G.1 68)), (1, .int a1), (2, .int a2), (3, .int (v_b s0))]) C [1, 2, 3, 0] dX2_play_26 rfl (by decide) rfl ?_
  refine V_aload_n C 0 dX2_play_27 rfl rfl ?_
  refine V_iload_n C 1 dX2_play_28 rfl rfl ?_
  refine V_iconst (v := 1) C dX2_play_29 (by decide) ?_
  refine V_iadd C dX2_play_30 ?_
  refine V_iload_n C 2 dX2_play_31 rfl rfl ?_
  refine V_callSl (As := [.ref (G.1 68), .int (a1 + 1), .int a2]) (rest := []) C (hrc _ _ _ _ h) KV_X2_play k_RX2_62 rfl rfl rfl (Nat.le_of_ble_eq_true rfl) ⟨by simp only [v_rm]; omega, by simp only [v_rm]; omega⟩ dX2_play_32 (fun r24 S23 h => ?_)
  refine V_lstore (lv' := [(0, .ref (G.1 68)), (1, .int a1), (2, .int a2), (3, .int (v_b s0)), (4, .long r24)]) C [1, 2, 3, 4, 0] dX2_play_35 (by decide) rfl ?_
  refine V_iconst (v := 0) C dX2_play_37 (by decide) ?_
  refine V_istore (lv' := [(0, .ref (G.1 68)), (1, .int a1), (2, .int a2), (3, .int (v_b s0)), (4, .long r24), (6, .int 0)]) C [1, 2, 3, 4, 5, 0] dX2_play_38 (by decide) rfl ?_
  obtain ⟨fu40, h⟩ := h
  exact q_X2_play_40 C D hrc fu40 _ _ _ _ h
set_option maxHeartbeats 4000000 in
set_option maxRecDepth 100000 in
theorem co_X2_play (l : Launch) (G : vG) {f0 l0 : Nat}  {rc : vSt → Int32 → Int32 → (Int64 → vSt → Prop) → Prop} (hrc : ∀ (S : vSt) (a1 : Int32) (a2 : Int32) (post : Int64 → vSt → Prop), rc S a1 a2 post → Met l yX2_play (v_ws yX2_play cX2_play 9 (some .long)) (v_rm f0 l0) (v_Pc G [.ref (G.1 68), .int a1, .int a2] S) (v_Ql G post) 0 0 (v_A G)) {S : vSt} (a1 : Int32) (a2 : Int32) (post : Int64 → vSt → Prop) (h : pb_X2_play  rc S a1 a2 post) : Met l yX2_play (v_ws yX2_play cX2_play 9 (some .long)) (v_rm (f0 + 1) (l0 + 61)) (v_Pc G [.ref (G.1 68), .int a1, .int a2] S) (v_Ql G post) 0 0 (v_A G) := by
  refine v_start (by decide +kernel) (Nat.le_of_ble_eq_true rfl) (fun X hl C D => ?_)
  subst hl
  have C : v_Cx X G cX2_play RX2 9 (v_rm (f0 + 1) (l0 + 61)) := C
  show VJ X G S 0 [(0, .ref (G.1 68)), (1, .int a1), (2, .int a2)] []
  refine V_iload_n C 1 dX2_play_0 rfl rfl ?_
  refine V_aload_n C 0 dX2_play_1 rfl rfl ?_
  refine V_gi C 68 (by decide) (by decide) F_2_5 k_RX2_30 dX2_play_2 ?_
  refine V_icmp_ge (tgt := 13) C dX2_play_5 (by decide) (fun c => ?_) (fun c => ?_)
  · have h := h.1 c
    refine V_lconst (v := 0) C dX2_play_13 (by decide) ?_
    exact V_lret C D dX2_play_14 h
  · have h := h.2 c
    refine V_iload_n C 1 dX2_play_8 rfl rfl ?_
    refine V_iconst (v := 3) C dX2_play_9 (by decide) ?_
    refine V_icmp_lt (tgt := 15) C dX2_play_10 (by decide) (fun c => ?_) (fun c => ?_)
    · have h := h.1 c
      refine V_iload_n C 1 dX2_play_15 rfl rfl ?_
      refine V_iconst (v := 2) C dX2_play_16 (by decide) ?_
      refine V_irem C dX2_play_17 (by decide) ?_
      refine V_if_ne (tgt := 25) C dX2_play_18 (by decide) (fun c => ?_) (fun c => ?_)
      · have h := h.1 c
        refine V_iconst (v := 0) C dX2_play_25 (by decide) ?_
        exact q_X2_play_26 C D hrc _ _ h
      · have h := h.2 c
        refine V_iconst (v := 1) C dX2_play_21 (by decide) ?_
        refine V_goto (tgt := 26) C dX2_play_22 (by decide) ?_
        exact q_X2_play_26 C D hrc _ _ h
    · have h := h.2 c
      refine V_lconst (v := 0) C dX2_play_13 (by decide) ?_
      exact V_lret C D dX2_play_14 h
def p_X2_play : Nat → vSt → Int32 → Int32 → (Int64 → vSt → Prop) → Prop
  | 0 => fun _ _ _ _ => False
  | d + 1 => fun S a1 a2 post => pb_X2_play (p_X2_play d) S a1 a2 post
theorem c_X2_play (d : Nat) : ∀ (l : Launch) (G : vG) {S : vSt} (a1 : Int32) (a2 : Int32) (post : Int64 → vSt → Prop) (h : p_X2_play d S a1 a2 post), Met l yX2_play (v_ws yX2_play cX2_play 9 (some .long)) (v_rm (1 * d) (61 * d)) (v_Pc G [.ref (G.1 68), .int a1, .int a2] S) (v_Ql G post) 0 0 (v_A G) := by
  induction d with
  | zero => intro l G S a1 a2 post h; exact absurd h id
  | succ d ih =>
    intro l G S a1 a2 post h
    exact co_X2_play l G (rc := p_X2_play d) (f0 := 1 * d) (l0 := 61 * d) (fun S a1 a2 post h => ih l G a1 a2 post h) a1 a2 post h
/-! HalfAccuser$Games.outcome()J -/
theorem dX2_outcome_0 : decode cX2_outcome 0 = .ok ((.aload_n 0), 1) := by decide +kernel
theorem dX2_outcome_1 : decode cX2_outcome 1 = .ok ((.iconst 0), 1) := by decide +kernel
theorem dX2_outcome_2 : decode cX2_outcome 2 = .ok ((.iconst 0), 1) := by decide +kernel
theorem dX2_outcome_3 : decode cX2_outcome 3 = .ok ((.invokestatic 62), 3) := by decide +kernel
theorem dX2_outcome_6 : decode cX2_outcome 6 = .ok (.lreturn, 1) := by decide +kernel
def p_X2_outcome   (S : vSt)  (post : Int64 → vSt → Prop) : Prop := p_X2_play 6 S 0 0 (fun r4 S3 => post r4 S3)
set_option maxHeartbeats 4000000 in
set_option maxRecDepth 100000 in
theorem c_X2_outcome (l : Launch) (G : vG)    {S : vSt}  (post : Int64 → vSt → Prop) (h : p_X2_outcome   S  post) : Met l yX2_outcome (v_ws yX2_outcome cX2_outcome 1 (some .long)) (v_rm 7 394) (v_Pc G [.ref (G.1 68)] S) (v_Ql G post) 0 0 (v_A G) := by
  refine v_start (by decide +kernel) (Nat.le_of_ble_eq_true rfl) (fun X hl C D => ?_)
  subst hl
  have C : v_Cx X G cX2_outcome RX2 1 (v_rm 7 394) := C
  show VJ X G S 0 [(0, .ref (G.1 68))] []
  refine V_aload_n C 0 dX2_outcome_0 rfl rfl ?_
  refine V_iconst (v := 0) C dX2_outcome_1 (by decide) ?_
  refine V_iconst (v := 0) C dX2_outcome_2 (by decide) ?_
  refine V_callSl (As := [.ref (G.1 68), .int 0, .int 0]) (rest := []) C (c_X2_play 6 (v_l X) G  _ _ _ h) KV_X2_play k_RX2_62 rfl rfl rfl (Nat.le_of_ble_eq_true rfl) ⟨Nat.le_of_ble_eq_true rfl, Nat.le_of_ble_eq_true rfl⟩ dX2_outcome_3 (fun r4 S3 h => ?_)
  exact V_lret C D dX2_outcome_6 h
/-! HalfAccuser$Games.firstMove()I -/
theorem dX2_firstMove_0 : decode cX2_firstMove 0 = .ok ((.aload_n 0), 1) := by decide +kernel
theorem dX2_firstMove_1 : decode cX2_firstMove 1 = .ok ((.invokevirtual 85), 3) := by decide +kernel
theorem dX2_firstMove_4 : decode cX2_firstMove 4 = .ok ((.lstore_n 1), 1) := by decide +kernel
theorem dX2_firstMove_5 : decode cX2_firstMove 5 = .ok ((.iconst 0), 1) := by decide +kernel
theorem dX2_firstMove_6 : decode cX2_firstMove 6 = .ok ((.istore_n 3), 1) := by decide +kernel
theorem dX2_firstMove_7 : decode cX2_firstMove 7 = .ok ((.iload_n 3), 1) := by decide +kernel
theorem dX2_firstMove_8 : decode cX2_firstMove 8 = .ok ((.aload_n 0), 1) := by decide +kernel
theorem dX2_firstMove_9 : decode cX2_firstMove 9 = .ok ((.getfield 22), 3) := by decide +kernel
theorem dX2_firstMove_12 : decode cX2_firstMove 12 = .ok ((.getfield 34), 3) := by decide +kernel
theorem dX2_firstMove_15 : decode cX2_firstMove 15 = .ok ((.if_icmp .ge 45), 3) := by decide +kernel
theorem dX2_firstMove_18 : decode cX2_firstMove 18 = .ok ((.aload_n 0), 1) := by decide +kernel
theorem dX2_firstMove_19 : decode cX2_firstMove 19 = .ok ((.getfield 9), 3) := by decide +kernel
theorem dX2_firstMove_22 : decode cX2_firstMove 22 = .ok ((.iload_n 3), 1) := by decide +kernel
theorem dX2_firstMove_23 : decode cX2_firstMove 23 = .ok ((.invokestatic 66), 3) := by decide +kernel
theorem dX2_firstMove_26 : decode cX2_firstMove 26 = .ok ((.iconst 1), 1) := by decide +kernel
theorem dX2_firstMove_27 : decode cX2_firstMove 27 = .ok ((.if_icmp .ne 27), 3) := by decide +kernel
theorem dX2_firstMove_30 : decode cX2_firstMove 30 = .ok ((.aload_n 0), 1) := by decide +kernel
theorem dX2_firstMove_31 : decode cX2_firstMove 31 = .ok ((.getfield 15), 3) := by decide +kernel
theorem dX2_firstMove_34 : decode cX2_firstMove 34 = .ok ((.iload_n 3), 1) := by decide +kernel
theorem dX2_firstMove_35 : decode cX2_firstMove 35 = .ok ((.invokestatic 73), 3) := by decide +kernel
theorem dX2_firstMove_38 : decode cX2_firstMove 38 = .ok ((.aload_n 0), 1) := by decide +kernel
theorem dX2_firstMove_39 : decode cX2_firstMove 39 = .ok ((.iconst 1), 1) := by decide +kernel
theorem dX2_firstMove_40 : decode cX2_firstMove 40 = .ok ((.iconst 1), 1) := by decide +kernel
theorem dX2_firstMove_41 : decode cX2_firstMove 41 = .ok ((.iload_n 3), 1) := by decide +kernel
theorem dX2_firstMove_42 : decode cX2_firstMove 42 = .ok (.ishl, 1) := by decide +kernel
theorem dX2_firstMove_43 : decode cX2_firstMove 43 = .ok ((.invokestatic 62), 3) := by decide +kernel
theorem dX2_firstMove_46 : decode cX2_firstMove 46 = .ok (.ladd, 1) := by decide +kernel
theorem dX2_firstMove_47 : decode cX2_firstMove 47 = .ok ((.lload_n 1), 1) := by decide +kernel
theorem dX2_firstMove_48 : decode cX2_firstMove 48 = .ok (.lcmp, 1) := by decide +kernel
theorem dX2_firstMove_49 : decode cX2_firstMove 49 = .ok ((.ifCond .ne 5), 3) := by decide +kernel
theorem dX2_firstMove_52 : decode cX2_firstMove 52 = .ok ((.iload_n 3), 1) := by decide +kernel
theorem dX2_firstMove_53 : decode cX2_firstMove 53 = .ok (.ireturn, 1) := by decide +kernel
theorem dX2_firstMove_54 : decode cX2_firstMove 54 = .ok ((.iinc 3 1), 3) := by decide +kernel
theorem dX2_firstMove_57 : decode cX2_firstMove 57 = .ok ((.goto (-50)), 3) := by decide +kernel
theorem dX2_firstMove_60 : decode cX2_firstMove 60 = .ok ((.iconst (-1)), 1) := by decide +kernel
theorem dX2_firstMove_61 : decode cX2_firstMove 61 = .ok (.ireturn, 1) := by decide +kernel
def p_X2_firstMove_54    (K7 : vSt → Int64 → Int32 → Prop) (post : Int32 → vSt → Prop) (S : vSt) (x1 : Int64) (x3 : Int32) : Prop := ∀ y21 : Int32, y21 = x3 + 1 → K7 S x1 y21
def p_X2_firstMove_7     (post : Int32 → vSt → Prop) : Nat → vSt → Int64 → Int32 → Prop
  | 0 => fun _ _ _ => False
  | fu7 + 1 => fun S x1 x3 => (((S.1 10 16) ≤ x3 → post (-1) S) ∧ (¬ (S.1 10 16) ≤ x3 → p_X10_at 69 10 S x3 (fun r20 S19 => ((¬ r20 = 1 → p_X2_firstMove_54 (p_X2_firstMove_7  post fu7) post S19 x1 x3) ∧ (r20 = 1 → p_X10_at_ 70 10 S19 x3 (fun r22 S21 => p_X2_play 6 S21 1 (1 <<< (x3 &&& 31)) (fun r24 S23 => ((¬ (r22 + r24) = x1 → p_X2_firstMove_54 (p_X2_firstMove_7  post fu7) post S23 x1 x3) ∧ ((r22 + r24) = x1 → post x3 S23)))))))))
theorem e_X2_firstMove_7     (post : Int32 → vSt → Prop) (fu7 : Nat) (S : vSt) (x1 : Int64) (x3 : Int32) : p_X2_firstMove_7  post (fu7 + 1) S x1 x3 = ((((S.1 10 16) ≤ x3 → post (-1) S) ∧ (¬ (S.1 10 16) ≤ x3 → p_X10_at 69 10 S x3 (fun r20 S19 => ((¬ r20 = 1 → p_X2_firstMove_54 (p_X2_firstMove_7  post fu7) post S19 x1 x3) ∧ (r20 = 1 → p_X10_at_ 70 10 S19 x3 (fun r22 S21 => p_X2_play 6 S21 1 (1 <<< (x3 &&& 31)) (fun r24 S23 => ((¬ (r22 + r24) = x1 → p_X2_firstMove_54 (p_X2_firstMove_7  post fu7) post S23 x1 x3) ∧ ((r22 + r24) = x1 → post x3 S23)))))))))) := rfl
def p_X2_firstMove   (S : vSt)  (post : Int32 → vSt → Prop) : Prop := p_X2_outcome  S  (fun r18 S17 => ∃ fu7, p_X2_firstMove_7  post fu7 S17 r18 0)
set_option maxHeartbeats 4000000 in
set_option maxRecDepth 100000 in
theorem q_X2_firstMove_54 {X : vX} {G : vG}  {post : Int32 → vSt → Prop} (C : v_Cx X G cX2_firstMove RX2 4 (v_rm 8 414)) (D : v_Rx X G (v_Qi G post) (some .int))    {K7 : vSt → Int64 → Int32 → Prop} (hK7 : ∀ S x1 x3, K7 S x1 x3 → VJ X G S 7 [(0, .ref (G.1 68)), (1, .long x1), (3, .int x3)] []) : ∀ (S : vSt) (x1 : Int64) (x3 : Int32), p_X2_firstMove_54 K7 post S x1 x3 → VJ X G S 54 [(0, .ref (G.1 68)), (1, .long x1), (3, .int x3)] [] := by
  intro S x1 x3 h
  obtain ⟨y21, ey21⟩ : ∃ z : Int32, z = x3 + 1 := ⟨_, rfl⟩
  have h := h y21 ey21
  refine V_iinc (lv' := [(0, .ref (G.1 68)), (1, .long x1), (3, .int y21)]) C 2 [1, 2, 0] y21 dX2_firstMove_54 rfl (by rw [ey21]; rfl) (by decide) rfl ?_
  refine V_goto (tgt := 7) C dX2_firstMove_57 (by decide) ?_
  exact hK7 _ _ _ h
set_option maxHeartbeats 4000000 in
set_option maxRecDepth 100000 in
theorem q_X2_firstMove_7 {X : vX} {G : vG}  {post : Int32 → vSt → Prop} (C : v_Cx X G cX2_firstMove RX2 4 (v_rm 8 414)) (D : v_Rx X G (v_Qi G post) (some .int))     : ∀ (fu : Nat) (S : vSt) (x1 : Int64) (x3 : Int32), p_X2_firstMove_7  post fu S x1 x3 → VJ X G S 7 [(0, .ref (G.1 68)), (1, .long x1), (3, .int x3)] [] := by
  intro fu
  induction fu with
  | zero => intro S x1 x3 h; exact absurd h id
  | succ fu ih =>
    intro S x1 x3 h
    have hK7 := ih
    rw [e_X2_firstMove_7] at h
    refine V_iload_n C 2 dX2_firstMove_7 rfl rfl ?_
    refine V_aload_n C 0 dX2_firstMove_8 rfl rfl ?_
    refine V_ga C 68 (by decide) (by decide) F_2_0 k_RX2_22 dX2_firstMove_9 ?_
    refine V_gi C 10 (by decide) (by decide) F_0_16 k_RX2_34 dX2_firstMove_12 ?_
    refine V_icmp_ge (tgt := 60) C dX2_firstMove_15 (by decide) (fun c => ?_) (fun c => ?_)
    · have h := h.1 c
      refine V_iconst (v := (-1)) C dX2_firstMove_60 (by decide) ?_
      exact V_iret C D dX2_firstMove_61 h
    · have h := h.2 c
      refine V_aload_n C 0 dX2_firstMove_18 rfl rfl ?_
      refine V_ga C 68 (by decide) (by decide) F_2_2 k_RX2_9 dX2_firstMove_19 ?_
      refine V_iload_n C 2 dX2_firstMove_22 rfl rfl ?_
      refine V_callSNi (As := [.ref (G.1 69), .int x3]) (rest := []) C (c_X10_at (v_l X) G (by decide) (by decide) _ _ h) KV_X10_at (List.mem_of_getElem? (i := 33) rfl) rfl rfl rfl (Nat.le_of_ble_eq_true rfl) ⟨Nat.le_of_ble_eq_true rfl, Nat.le_of_ble_eq_true rfl⟩ dX2_firstMove_23 (fun r20 S19 h => ?_)
      refine V_iconst (v := 1) C dX2_firstMove_26 (by decide) ?_
      refine V_icmp_ne (tgt := 54) C dX2_firstMove_27 (by decide) (fun c => ?_) (fun c => ?_)
      · have h := h.1 c
        exact q_X2_firstMove_54 C D hK7 _ _ _ h
      · have h := h.2 c
        refine V_aload_n C 0 dX2_firstMove_30 rfl rfl ?_
        refine V_ga C 68 (by decide) (by decide) F_2_3 k_RX2_15 dX2_firstMove_31 ?_
        refine V_iload_n C 2 dX2_firstMove_34 rfl rfl ?_
        refine V_callSNl (As := [.ref (G.1 70), .int x3]) (rest := []) C (c_X10_at_ (v_l X) G (by decide) (by decide) _ _ h) KV_X10_at_ (List.mem_of_getElem? (i := 35) rfl) rfl rfl rfl (Nat.le_of_ble_eq_true rfl) ⟨Nat.le_of_ble_eq_true rfl, Nat.le_of_ble_eq_true rfl⟩ dX2_firstMove_35 (fun r22 S21 h => ?_)
        refine V_aload_n C 0 dX2_firstMove_38 rfl rfl ?_
        refine V_iconst (v := 1) C dX2_firstMove_39 (by decide) ?_
        refine V_iconst (v := 1) C dX2_firstMove_40 (by decide) ?_
        refine V_iload_n C 2 dX2_firstMove_41 rfl rfl ?_
        refine V_ishl C dX2_firstMove_42 ?_
        refine V_callSl (As := [.ref (G.1 68), .int 1, .int (1 <<< (x3 &&& 31))]) (rest := [.long r22]) C (c_X2_play 6 (v_l X) G  _ _ _ h) KV_X2_play k_RX2_62 rfl rfl rfl (Nat.le_of_ble_eq_true rfl) ⟨Nat.le_of_ble_eq_true rfl, Nat.le_of_ble_eq_true rfl⟩ dX2_firstMove_43 (fun r24 S23 h => ?_)
        refine V_ladd C dX2_firstMove_46 ?_
        refine V_lload_n C 1 dX2_firstMove_47 rfl rfl ?_
        refine V_lcmp_ne (tgt := 54) C dX2_firstMove_48 dX2_firstMove_49 (by decide) (fun c => ?_) (fun c => ?_)
        · have h := h.1 c
          exact q_X2_firstMove_54 C D hK7 _ _ _ h
        · have h := h.2 c
          refine V_iload_n C 2 dX2_firstMove_52 rfl rfl ?_
          exact V_iret C D dX2_firstMove_53 h
set_option maxHeartbeats 4000000 in
set_option maxRecDepth 100000 in
theorem c_X2_firstMove (l : Launch) (G : vG)    {S : vSt}  (post : Int32 → vSt → Prop) (h : p_X2_firstMove   S  post) : Met l yX2_firstMove (v_ws yX2_firstMove cX2_firstMove 4 (some .int)) (v_rm 8 414) (v_Pc G [.ref (G.1 68)] S) (v_Qi G post) 0 0 (v_A G) := by
  refine v_start (by decide +kernel) (Nat.le_of_ble_eq_true rfl) (fun X hl C D => ?_)
  subst hl
  have C : v_Cx X G cX2_firstMove RX2 4 (v_rm 8 414) := C
  show VJ X G S 0 [(0, .ref (G.1 68))] []
  refine V_aload_n C 0 dX2_firstMove_0 rfl rfl ?_
  refine V_callVl (As := []) (rest := []) C (c_X2_outcome (v_l X) G  _ h) 68 2 (by decide) (by decide) (by decide) rfl KV_X2_outcome k_RX2_85 rfl rfl rfl (Nat.le_of_ble_eq_true rfl) ⟨Nat.le_of_ble_eq_true rfl, Nat.le_of_ble_eq_true rfl⟩ dX2_firstMove_1 (fun r18 S17 h => ?_)
  refine V_lstore_n (lv' := [(0, .ref (G.1 68)), (1, .long r18)]) C [1, 0] dX2_firstMove_4 rfl (by decide) rfl ?_
  refine V_iconst (v := 0) C dX2_firstMove_5 (by decide) ?_
  refine V_istore_n (lv' := [(0, .ref (G.1 68)), (1, .long r18), (3, .int 0)]) C [1, 2, 0] dX2_firstMove_6 rfl (by decide) rfl ?_
  obtain ⟨fu7, h⟩ := h
  exact q_X2_firstMove_7 C D  fu7 _ _ _ h
/-! HalfAccuser$Life.holds(LHalfAccuser$City;III)Z -/
theorem dX4_holds_0 : decode cX4_holds 0 = .ok ((.iload_n 2), 1) := by decide +kernel
theorem dX4_holds_1 : decode cX4_holds 1 = .ok ((.lookupswitch 91 #[(17, 43), (18, 49), (60, 55), (62, 73)]), 43) := by decide +kernel
theorem dX4_holds_44 : decode cX4_holds 44 = .ok ((.aload_n 0), 1) := by decide +kernel
theorem dX4_holds_45 : decode cX4_holds 45 = .ok ((.iload_n 1), 1) := by decide +kernel
theorem dX4_holds_46 : decode cX4_holds 46 = .ok ((.invokevirtual 129), 3) := by decide +kernel
theorem dX4_holds_49 : decode cX4_holds 49 = .ok (.ireturn, 1) := by decide +kernel
theorem dX4_holds_50 : decode cX4_holds 50 = .ok ((.aload_n 0), 1) := by decide +kernel
theorem dX4_holds_51 : decode cX4_holds 51 = .ok ((.iload_n 1), 1) := by decide +kernel
theorem dX4_holds_52 : decode cX4_holds 52 = .ok ((.invokevirtual 133), 3) := by decide +kernel
theorem dX4_holds_55 : decode cX4_holds 55 = .ok (.ireturn, 1) := by decide +kernel
theorem dX4_holds_56 : decode cX4_holds 56 = .ok ((.aload_n 0), 1) := by decide +kernel
theorem dX4_holds_57 : decode cX4_holds 57 = .ok ((.getfield 136), 3) := by decide +kernel
theorem dX4_holds_60 : decode cX4_holds 60 = .ok ((.iload_n 1), 1) := by decide +kernel
theorem dX4_holds_61 : decode cX4_holds 61 = .ok ((.invokestatic 59), 3) := by decide +kernel
theorem dX4_holds_64 : decode cX4_holds 64 = .ok ((.iload_n 3), 1) := by decide +kernel
theorem dX4_holds_65 : decode cX4_holds 65 = .ok ((.if_icmp .ge 7), 3) := by decide +kernel
theorem dX4_holds_68 : decode cX4_holds 68 = .ok ((.iconst 1), 1) := by decide +kernel
theorem dX4_holds_69 : decode cX4_holds 69 = .ok ((.goto 4), 3) := by decide +kernel
theorem dX4_holds_72 : decode cX4_holds 72 = .ok ((.iconst 0), 1) := by decide +kernel
theorem dX4_holds_73 : decode cX4_holds 73 = .ok (.ireturn, 1) := by decide +kernel
theorem dX4_holds_74 : decode cX4_holds 74 = .ok ((.aload_n 0), 1) := by decide +kernel
theorem dX4_holds_75 : decode cX4_holds 75 = .ok ((.getfield 136), 3) := by decide +kernel
theorem dX4_holds_78 : decode cX4_holds 78 = .ok ((.iload_n 1), 1) := by decide +kernel
theorem dX4_holds_79 : decode cX4_holds 79 = .ok ((.invokestatic 59), 3) := by decide +kernel
theorem dX4_holds_82 : decode cX4_holds 82 = .ok ((.iload_n 3), 1) := by decide +kernel
theorem dX4_holds_83 : decode cX4_holds 83 = .ok ((.if_icmp .le 7), 3) := by decide +kernel
theorem dX4_holds_86 : decode cX4_holds 86 = .ok ((.iconst 1), 1) := by decide +kernel
theorem dX4_holds_87 : decode cX4_holds 87 = .ok ((.goto 4), 3) := by decide +kernel
theorem dX4_holds_90 : decode cX4_holds 90 = .ok ((.iconst 0), 1) := by decide +kernel
theorem dX4_holds_91 : decode cX4_holds 91 = .ok (.ireturn, 1) := by decide +kernel
theorem dX4_holds_92 : decode cX4_holds 92 = .ok ((.aload_n 0), 1) := by decide +kernel
theorem dX4_holds_93 : decode cX4_holds 93 = .ok ((.getfield 136), 3) := by decide +kernel
theorem dX4_holds_96 : decode cX4_holds 96 = .ok ((.iload_n 1), 1) := by decide +kernel
theorem dX4_holds_97 : decode cX4_holds 97 = .ok ((.invokestatic 59), 3) := by decide +kernel
theorem dX4_holds_100 : decode cX4_holds 100 = .ok ((.iload_n 3), 1) := by decide +kernel
theorem dX4_holds_101 : decode cX4_holds 101 = .ok ((.if_icmp .ne 7), 3) := by decide +kernel
theorem dX4_holds_104 : decode cX4_holds 104 = .ok ((.iconst 1), 1) := by decide +kernel
theorem dX4_holds_105 : decode cX4_holds 105 = .ok ((.goto 4), 3) := by decide +kernel
theorem dX4_holds_108 : decode cX4_holds 108 = .ok ((.iconst 0), 1) := by decide +kernel
theorem dX4_holds_109 : decode cX4_holds 109 = .ok (.ireturn, 1) := by decide +kernel
def p_X4_holds (b0 : Nat)  (S : vSt) (a1 : Int32) (a2 : Int32) (a3 : Int32) (post : Bool → vSt → Prop) : Prop := ((a2 = 17 → p_X0_isOpen b0 S a1 (fun r12 S11 => post r12 S11)) ∧ ((a2 = 18 → p_X0_isRuined b0 S a1 (fun r14 S13 => post r14 S13)) ∧ ((a2 = 60 → p_X10_at (b0 + 3) 8 S a1 (fun r16 S15 => ((a3 ≤ r16 → post false S15) ∧ (¬ a3 ≤ r16 → post true S15)))) ∧ ((a2 = 62 → p_X10_at (b0 + 3) 8 S a1 (fun r18 S17 => ((r18 ≤ a3 → post false S17) ∧ (¬ r18 ≤ a3 → post true S17)))) ∧ (¬ a2 = 17 ∧ ¬ a2 = 18 ∧ ¬ a2 = 60 ∧ ¬ a2 = 62 → p_X10_at (b0 + 3) 8 S a1 (fun r20 S19 => ((¬ r20 = a3 → post false S19) ∧ (r20 = a3 → post true S19))))))))
set_option maxHeartbeats 4000000 in
set_option maxRecDepth 100000 in
theorem c_X4_holds (l : Launch) (G : vG)  {b0 : Nat} (hb0 : v_isC b0)  {S : vSt} (a1 : Int32) (a2 : Int32) (a3 : Int32) (post : Bool → vSt → Prop) (h : p_X4_holds b0  S a1 a2 a3 post) : Met l yX4_holds (v_ws yX4_holds cX4_holds 4 (some .boolean)) (v_rm 2 82) (v_Pc G [.ref (G.1 b0), .int a1, .int a2, .int a3] S) (v_Qz G post) 0 0 (v_A G) := by
  refine v_start (by decide +kernel) (Nat.le_of_ble_eq_true rfl) (fun X hl C D => ?_)
  subst hl
  have C : v_Cx X G cX4_holds RX4 4 (v_rm 2 82) := C
  show VJ X G S 0 [(0, .ref (G.1 b0)), (1, .int a1), (2, .int a2), (3, .int a3)] []
  refine V_iload_n C 2 dX4_holds_0 rfl rfl ?_
  by_cases c0 : a2 = 17
  · refine V_lookup C dX4_holds_1 (by decide) 44 43 (by rw [c0]; decide) (by decide) ?_
    have h := h.1 c0
    refine V_aload_n C 0 dX4_holds_44 rfl rfl ?_
    refine V_iload_n C 1 dX4_holds_45 rfl rfl ?_
    refine V_callVz (As := [.int a1]) (rest := []) C (c_X0_isOpen (v_l X) G hb0 _ _ h) b0 0 (v_cb hb0 0 (by decide)) (v_co0 hb0) (by decide) rfl KV_X0_isOpen k_RX4_129 rfl rfl rfl (Nat.le_of_ble_eq_true rfl) ⟨Nat.le_of_ble_eq_true rfl, Nat.le_of_ble_eq_true rfl⟩ dX4_holds_46 (fun r12 S11 h => ?_)
    exact V_zret C D dX4_holds_49 h
  by_cases c1 : a2 = 18
  · refine V_lookup C dX4_holds_1 (by decide) 50 49 (by rw [c1]; decide) (by decide) ?_
    have h := h.2.1 c1
    refine V_aload_n C 0 dX4_holds_50 rfl rfl ?_
    refine V_iload_n C 1 dX4_holds_51 rfl rfl ?_
    refine V_callVz (As := [.int a1]) (rest := []) C (c_X0_isRuined (v_l X) G hb0 _ _ h) b0 0 (v_cb hb0 0 (by decide)) (v_co0 hb0) (by decide) rfl KV_X0_isRuined k_RX4_133 rfl rfl rfl (Nat.le_of_ble_eq_true rfl) ⟨Nat.le_of_ble_eq_true rfl, Nat.le_of_ble_eq_true rfl⟩ dX4_holds_52 (fun r14 S13 h => ?_)
    exact V_zret C D dX4_holds_55 h
  by_cases c2 : a2 = 60
  · refine V_lookup C dX4_holds_1 (by decide) 56 55 (by rw [c2]; decide) (by decide) ?_
    have h := h.2.2.1 c2
    refine V_aload_n C 0 dX4_holds_56 rfl rfl ?_
    refine V_gr C b0 (v_cb hb0 0 (by decide)) (v_co0 hb0) F_0_2 k_RX4_136 dX4_holds_57 ?_
    refine V_iload_n C 1 dX4_holds_60 rfl rfl ?_
    refine V_callSNi (As := [.ref (G.1 (b0 + 3)), .int a1]) (rest := []) C (c_X10_at (v_l X) G (v_cb hb0 3 (by decide)) (v_ca3 hb0) _ _ h) KV_X10_at (List.mem_of_getElem? (i := 39) rfl) rfl rfl rfl (Nat.le_of_ble_eq_true rfl) ⟨Nat.le_of_ble_eq_true rfl, Nat.le_of_ble_eq_true rfl⟩ dX4_holds_61 (fun r16 S15 h => ?_)
    refine V_iload_n C 3 dX4_holds_64 rfl rfl ?_
    refine V_icmp_ge (tgt := 72) C dX4_holds_65 (by decide) (fun c => ?_) (fun c => ?_)
    · have h := h.1 c
      refine V_iconst (v := 0) C dX4_holds_72 (by decide) ?_
      exact V_zret0 C D dX4_holds_73 h
    · have h := h.2 c
      refine V_iconst (v := 1) C dX4_holds_68 (by decide) ?_
      refine V_goto (tgt := 73) C dX4_holds_69 (by decide) ?_
      exact V_zret1 C D dX4_holds_73 h
  by_cases c3 : a2 = 62
  · refine V_lookup C dX4_holds_1 (by decide) 74 73 (by rw [c3]; decide) (by decide) ?_
    have h := h.2.2.2.1 c3
    refine V_aload_n C 0 dX4_holds_74 rfl rfl ?_
    refine V_gr C b0 (v_cb hb0 0 (by decide)) (v_co0 hb0) F_0_2 k_RX4_136 dX4_holds_75 ?_
    refine V_iload_n C 1 dX4_holds_78 rfl rfl ?_
    refine V_callSNi (As := [.ref (G.1 (b0 + 3)), .int a1]) (rest := []) C (c_X10_at (v_l X) G (v_cb hb0 3 (by decide)) (v_ca3 hb0) _ _ h) KV_X10_at (List.mem_of_getElem? (i := 39) rfl) rfl rfl rfl (Nat.le_of_ble_eq_true rfl) ⟨Nat.le_of_ble_eq_true rfl, Nat.le_of_ble_eq_true rfl⟩ dX4_holds_79 (fun r18 S17 h => ?_)
    refine V_iload_n C 3 dX4_holds_82 rfl rfl ?_
    refine V_icmp_le (tgt := 90) C dX4_holds_83 (by decide) (fun c => ?_) (fun c => ?_)
    · have h := h.1 c
      refine V_iconst (v := 0) C dX4_holds_90 (by decide) ?_
      exact V_zret0 C D dX4_holds_91 h
    · have h := h.2 c
      refine V_iconst (v := 1) C dX4_holds_86 (by decide) ?_
      refine V_goto (tgt := 91) C dX4_holds_87 (by decide) ?_
      exact V_zret1 C D dX4_holds_91 h
  refine V_lookup C dX4_holds_1 (by decide) 92 91 (v_lk4 (v_ine 17 c0 (by decide)) (v_ine 18 c1 (by decide)) (v_ine 60 c2 (by decide)) (v_ine 62 c3 (by decide))) (by decide) ?_
  have h := h.2.2.2.2 ⟨c0, c1, c2, c3⟩
  refine V_aload_n C 0 dX4_holds_92 rfl rfl ?_
  refine V_gr C b0 (v_cb hb0 0 (by decide)) (v_co0 hb0) F_0_2 k_RX4_136 dX4_holds_93 ?_
  refine V_iload_n C 1 dX4_holds_96 rfl rfl ?_
  refine V_callSNi (As := [.ref (G.1 (b0 + 3)), .int a1]) (rest := []) C (c_X10_at (v_l X) G (v_cb hb0 3 (by decide)) (v_ca3 hb0) _ _ h) KV_X10_at (List.mem_of_getElem? (i := 39) rfl) rfl rfl rfl (Nat.le_of_ble_eq_true rfl) ⟨Nat.le_of_ble_eq_true rfl, Nat.le_of_ble_eq_true rfl⟩ dX4_holds_97 (fun r20 S19 h => ?_)
  refine V_iload_n C 3 dX4_holds_100 rfl rfl ?_
  refine V_icmp_ne (tgt := 108) C dX4_holds_101 (by decide) (fun c => ?_) (fun c => ?_)
  · have h := h.1 c
    refine V_iconst (v := 0) C dX4_holds_108 (by decide) ?_
    exact V_zret0 C D dX4_holds_109 h
  · have h := h.2 c
    refine V_iconst (v := 1) C dX4_holds_104 (by decide) ?_
    refine V_goto (tgt := 109) C dX4_holds_105 (by decide) ?_
    exact V_zret1 C D dX4_holds_109 h
/-! HalfAccuser$Life.doStep(LHalfAccuser$City;II)I -/
theorem dX4_doStep_0 : decode cX4_doStep 0 = .ok ((.aload_n 1), 1) := by decide +kernel
theorem dX4_doStep_1 : decode cX4_doStep 1 = .ok ((.getfield 47), 3) := by decide +kernel
theorem dX4_doStep_4 : decode cX4_doStep 4 = .ok ((.getfield 74), 3) := by decide +kernel
theorem dX4_doStep_7 : decode cX4_doStep 7 = .ok ((.iload_n 3), 1) := by decide +kernel
theorem dX4_doStep_8 : decode cX4_doStep 8 = .ok ((.invokestatic 59), 3) := by decide +kernel
theorem dX4_doStep_11 : decode cX4_doStep 11 = .ok ((.istore 4), 2) := by decide +kernel
theorem dX4_doStep_13 : decode cX4_doStep 13 = .ok ((.aload_n 1), 1) := by decide +kernel
theorem dX4_doStep_14 : decode cX4_doStep 14 = .ok ((.getfield 47), 3) := by decide +kernel
theorem dX4_doStep_17 : decode cX4_doStep 17 = .ok ((.getfield 77), 3) := by decide +kernel
theorem dX4_doStep_20 : decode cX4_doStep 20 = .ok ((.iload_n 3), 1) := by decide +kernel
theorem dX4_doStep_21 : decode cX4_doStep 21 = .ok ((.invokestatic 59), 3) := by decide +kernel
theorem dX4_doStep_24 : decode cX4_doStep 24 = .ok ((.istore 5), 2) := by decide +kernel
theorem dX4_doStep_26 : decode cX4_doStep 26 = .ok ((.aload_n 1), 1) := by decide +kernel
theorem dX4_doStep_27 : decode cX4_doStep 27 = .ok ((.getfield 47), 3) := by decide +kernel
theorem dX4_doStep_30 : decode cX4_doStep 30 = .ok ((.getfield 80), 3) := by decide +kernel
theorem dX4_doStep_33 : decode cX4_doStep 33 = .ok ((.iload_n 3), 1) := by decide +kernel
theorem dX4_doStep_34 : decode cX4_doStep 34 = .ok ((.invokestatic 59), 3) := by decide +kernel
theorem dX4_doStep_37 : decode cX4_doStep 37 = .ok ((.istore 6), 2) := by decide +kernel
theorem dX4_doStep_39 : decode cX4_doStep 39 = .ok ((.iload_n 2), 1) := by decide +kernel
theorem dX4_doStep_40 : decode cX4_doStep 40 = .ok ((.tableswitch 184 11 16 #[40, 52, 184, 86, 97, 151]), 40) := by decide +kernel
theorem dX4_doStep_80 : decode cX4_doStep 80 = .ok ((.aload_n 0), 1) := by decide +kernel
theorem dX4_doStep_81 : decode cX4_doStep 81 = .ok ((.aload_n 1), 1) := by decide +kernel
theorem dX4_doStep_82 : decode cX4_doStep 82 = .ok ((.iload 4), 2) := by decide +kernel
theorem dX4_doStep_84 : decode cX4_doStep 84 = .ok ((.iload 5), 2) := by decide +kernel
theorem dX4_doStep_86 : decode cX4_doStep 86 = .ok ((.invokevirtual 83), 3) := by decide +kernel
theorem dX4_doStep_89 : decode cX4_doStep 89 = .ok ((.goto 143), 3) := by decide +kernel
theorem dX4_doStep_92 : decode cX4_doStep 92 = .ok ((.aload_n 1), 1) := by decide +kernel
theorem dX4_doStep_93 : decode cX4_doStep 93 = .ok ((.iload 4), 2) := by decide +kernel
theorem dX4_doStep_95 : decode cX4_doStep 95 = .ok ((.iload 5), 2) := by decide +kernel
theorem dX4_doStep_97 : decode cX4_doStep 97 = .ok ((.iload 6), 2) := by decide +kernel
theorem dX4_doStep_99 : decode cX4_doStep 99 = .ok ((.invokevirtual 87), 3) := by decide +kernel
theorem dX4_doStep_102 : decode cX4_doStep 102 = .ok ((.ifCond .eq 16), 3) := by decide +kernel
theorem dX4_doStep_105 : decode cX4_doStep 105 = .ok ((.aload_n 1), 1) := by decide +kernel
theorem dX4_doStep_106 : decode cX4_doStep 106 = .ok ((.iload 4), 2) := by decide +kernel
theorem dX4_doStep_108 : decode cX4_doStep 108 = .ok ((.iload 5), 2) := by decide +kernel
theorem dX4_doStep_110 : decode cX4_doStep 110 = .ok ((.iload 6), 2) := by decide +kernel
theorem dX4_doStep_112 : decode cX4_doStep 112 = .ok ((.invokevirtual 91), 3) := by decide +kernel
theorem dX4_doStep_115 : decode cX4_doStep 115 = .ok ((.goto 117), 3) := by decide +kernel
theorem dX4_doStep_118 : decode cX4_doStep 118 = .ok ((.aload_n 0), 1) := by decide +kernel
theorem dX4_doStep_119 : decode cX4_doStep 119 = .ok ((.iconst 0), 1) := by decide +kernel
theorem dX4_doStep_120 : decode cX4_doStep 120 = .ok ((.invokevirtual 95), 3) := by decide +kernel
theorem dX4_doStep_123 : decode cX4_doStep 123 = .ok ((.goto 109), 3) := by decide +kernel
theorem dX4_doStep_126 : decode cX4_doStep 126 = .ok ((.aload_n 1), 1) := by decide +kernel
theorem dX4_doStep_127 : decode cX4_doStep 127 = .ok ((.iload 4), 2) := by decide +kernel
theorem dX4_doStep_129 : decode cX4_doStep 129 = .ok ((.iload 6), 2) := by decide +kernel
theorem dX4_doStep_131 : decode cX4_doStep 131 = .ok ((.invokevirtual 98), 3) := by decide +kernel
theorem dX4_doStep_134 : decode cX4_doStep 134 = .ok ((.goto 98), 3) := by decide +kernel
theorem dX4_doStep_137 : decode cX4_doStep 137 = .ok ((.aload_n 1), 1) := by decide +kernel
theorem dX4_doStep_138 : decode cX4_doStep 138 = .ok ((.getfield 102), 3) := by decide +kernel
theorem dX4_doStep_141 : decode cX4_doStep 141 = .ok ((.ifCond .le 42), 3) := by decide +kernel
theorem dX4_doStep_144 : decode cX4_doStep 144 = .ok ((.aload_n 1), 1) := by decide +kernel
theorem dX4_doStep_145 : decode cX4_doStep 145 = .ok ((.getfield 105), 3) := by decide +kernel
theorem dX4_doStep_148 : decode cX4_doStep 148 = .ok ((.ifCond .le 35), 3) := by decide +kernel
theorem dX4_doStep_151 : decode cX4_doStep 151 = .ok ((.aload_n 0), 1) := by decide +kernel
theorem dX4_doStep_152 : decode cX4_doStep 152 = .ok ((.aload_n 1), 1) := by decide +kernel
theorem dX4_doStep_153 : decode cX4_doStep 153 = .ok ((.getfield 102), 3) := by decide +kernel
theorem dX4_doStep_156 : decode cX4_doStep 156 = .ok ((.invokevirtual 30), 3) := by decide +kernel
theorem dX4_doStep_159 : decode cX4_doStep 159 = .ok ((.istore 4), 2) := by decide +kernel
theorem dX4_doStep_161 : decode cX4_doStep 161 = .ok ((.aload_n 0), 1) := by decide +kernel
theorem dX4_doStep_162 : decode cX4_doStep 162 = .ok ((.aload_n 1), 1) := by decide +kernel
theorem dX4_doStep_163 : decode cX4_doStep 163 = .ok ((.getfield 105), 3) := by decide +kernel
theorem dX4_doStep_166 : decode cX4_doStep 166 = .ok ((.invokevirtual 30), 3) := by decide +kernel
theorem dX4_doStep_169 : decode cX4_doStep 169 = .ok ((.istore 5), 2) := by decide +kernel
theorem dX4_doStep_171 : decode cX4_doStep 171 = .ok ((.aload_n 0), 1) := by decide +kernel
theorem dX4_doStep_172 : decode cX4_doStep 172 = .ok ((.aload_n 1), 1) := by decide +kernel
theorem dX4_doStep_173 : decode cX4_doStep 173 = .ok ((.iload 4), 2) := by decide +kernel
theorem dX4_doStep_175 : decode cX4_doStep 175 = .ok ((.iload 5), 2) := by decide +kernel
theorem dX4_doStep_177 : decode cX4_doStep 177 = .ok ((.invokevirtual 83), 3) := by decide +kernel
theorem dX4_doStep_180 : decode cX4_doStep 180 = .ok ((.goto 52), 3) := by decide +kernel
theorem dX4_doStep_183 : decode cX4_doStep 183 = .ok ((.aload_n 0), 1) := by decide +kernel
theorem dX4_doStep_184 : decode cX4_doStep 184 = .ok ((.iconst 0), 1) := by decide +kernel
theorem dX4_doStep_185 : decode cX4_doStep 185 = .ok ((.invokevirtual 95), 3) := by decide +kernel
theorem dX4_doStep_188 : decode cX4_doStep 188 = .ok ((.goto 44), 3) := by decide +kernel
theorem dX4_doStep_191 : decode cX4_doStep 191 = .ok ((.aload_n 1), 1) := by decide +kernel
theorem dX4_doStep_192 : decode cX4_doStep 192 = .ok ((.iload 4), 2) := by decide +kernel
theorem dX4_doStep_194 : decode cX4_doStep 194 = .ok ((.iload 5), 2) := by decide +kernel
theorem dX4_doStep_196 : decode cX4_doStep 196 = .ok ((.iload 6), 2) := by decide +kernel
theorem dX4_doStep_198 : decode cX4_doStep 198 = .ok ((.invokestatic 108), 3) := by decide +kernel
theorem dX4_doStep_201 : decode cX4_doStep 201 = .ok ((.ifCond .eq 9), 3) := by decide +kernel
theorem dX4_doStep_204 : decode cX4_doStep 204 = .ok ((.iload_n 3), 1) := by decide +kernel
theorem dX4_doStep_205 : decode cX4_doStep 205 = .ok ((.iconst 1), 1) := by decide +kernel
theorem dX4_doStep_206 : decode cX4_doStep 206 = .ok (.iadd, 1) := by decide +kernel
theorem dX4_doStep_207 : decode cX4_doStep 207 = .ok ((.goto 16), 3) := by decide +kernel
theorem dX4_doStep_210 : decode cX4_doStep 210 = .ok ((.aload_n 1), 1) := by decide +kernel
theorem dX4_doStep_211 : decode cX4_doStep 211 = .ok ((.getfield 47), 3) := by decide +kernel
theorem dX4_doStep_214 : decode cX4_doStep 214 = .ok ((.getfield 112), 3) := by decide +kernel
theorem dX4_doStep_217 : decode cX4_doStep 217 = .ok ((.iload_n 3), 1) := by decide +kernel
theorem dX4_doStep_218 : decode cX4_doStep 218 = .ok ((.invokestatic 59), 3) := by decide +kernel
theorem dX4_doStep_221 : decode cX4_doStep 221 = .ok ((.iconst 1), 1) := by decide +kernel
theorem dX4_doStep_222 : decode cX4_doStep 222 = .ok (.iadd, 1) := by decide +kernel
theorem dX4_doStep_223 : decode cX4_doStep 223 = .ok (.ireturn, 1) := by decide +kernel
theorem dX4_doStep_224 : decode cX4_doStep 224 = .ok ((.aload_n 1), 1) := by decide +kernel
theorem dX4_doStep_225 : decode cX4_doStep 225 = .ok ((.getfield 47), 3) := by decide +kernel
theorem dX4_doStep_228 : decode cX4_doStep 228 = .ok ((.iload_n 3), 1) := by decide +kernel
theorem dX4_doStep_229 : decode cX4_doStep 229 = .ok ((.invokevirtual 115), 3) := by decide +kernel
theorem dX4_doStep_232 : decode cX4_doStep 232 = .ok ((.iload_n 3), 1) := by decide +kernel
theorem dX4_doStep_233 : decode cX4_doStep 233 = .ok ((.iconst 1), 1) := by decide +kernel
theorem dX4_doStep_234 : decode cX4_doStep 234 = .ok (.iadd, 1) := by decide +kernel
theorem dX4_doStep_235 : decode cX4_doStep 235 = .ok (.ireturn, 1) := by decide +kernel
def p_X4_doStep_183 (b1 : Nat) (a2 : Int32) (a3 : Int32)   (post : Int32 → vSt → Prop) (S : vSt)  : Prop := p_X4_count  S 0 (fun S38 => post (a3 + 1) S38)
def p_X4_doStep (b1 : Nat)  (S : vSt) (a2 : Int32) (a3 : Int32) (post : Int32 → vSt → Prop) : Prop := p_X10_at (b1 + 17) 60 S a3 (fun r26 S25 => p_X10_at (b1 + 18) 60 S25 a3 (fun r28 S27 => p_X10_at (b1 + 19) 60 S27 a3 (fun r30 S29 => ((a2 = 11 → p_X4_accuse b1 S29 r26 r28 (fun S31 => post (a3 + 1) S31)) ∧ ((a2 = 12 → p_X0_mayDrop b1 S29 r26 r28 r30 (fun r33 S32 => ((r33 = false → p_X4_count  S32 0 (fun S34 => post (a3 + 1) S34)) ∧ (r33 = true → p_X0_settle b1 S32 r26 r28 r30 (fun S35 => post (a3 + 1) S35))))) ∧ ((a2 = 13 → p_X8_beginLoop b1 S29 a3 (fun S36 => post (a3 + 1) S36)) ∧ ((a2 = 14 → p_X0_give b1 S29 r26 r30 (fun S37 => post (a3 + 1) S37)) ∧ ((a2 = 15 → (((S29.1 b1 15) ≤ 0 → p_X4_doStep_183 b1 a2 a3 post S29 ) ∧ (¬ (S29.1 b1 15) ≤ 0 → (((S29.1 b1 16) ≤ 0 → p_X4_doStep_183 b1 a2 a3 post S29 ) ∧ (¬ (S29.1 b1 16) ≤ 0 → p_X4_draw  S29 (S29.1 b1 15) (fun r39 S38 => p_X4_draw  S38 (S38.1 b1 16) (fun r41 S40 => p_X4_accuse b1 S40 r39 r41 (fun S42 => post (a3 + 1) S42)))))))) ∧ ((a2 = 16 → p_X4_holds b1 S29 r26 r28 r30 (fun r44 S43 => ((r44 = false → p_X10_at (b1 + 20) 60 S43 a3 (fun r46 S45 => post (r46 + 1) S45)) ∧ (r44 = true → post (a3 + 1) S43)))) ∧ (a2 < 11 ∨ 16 < a2 → p_X8_beginLoop b1 S29 a3 (fun S47 => post (a3 + 1) S47)))))))))))
set_option maxHeartbeats 4000000 in
set_option maxRecDepth 100000 in
theorem q_X4_doStep_183 {X : vX} {G : vG}  {post : Int32 → vSt → Prop} (C : v_Cx X G cX4_doStep RX4 7 (v_rm 5 153)) (D : v_Rx X G (v_Qi G post) (some .int)) {b1 : Nat} (hb1 : v_isC b1) {a2 : Int32} {a3 : Int32}   : ∀ (S : vSt), p_X4_doStep_183 b1 a2 a3 post S  → VJ X G S 183 [(0, .ref (G.1 74)), (3, .int a3)] [] := by
  intro S  h
  refine V_aload_n C 0 dX4_doStep_183 rfl rfl ?_
  refine V_iconst (v := 0) C dX4_doStep_184 (by decide) ?_
  refine V_callVv (As := [.int 0]) (rest := []) C (c_X4_count (v_l X) G  _ _ h) 74 4 (by decide) (by decide) (by decide) rfl KV_X4_count k_RX4_95 rfl rfl rfl (Nat.le_of_ble_eq_true rfl) ⟨Nat.le_of_ble_eq_true rfl, Nat.le_of_ble_eq_true rfl⟩ dX4_doStep_185 (fun S38 h => ?_)
  refine V_goto (tgt := 232) C dX4_doStep_188 (by decide) ?_
  refine V_iload_n C 1 dX4_doStep_232 rfl rfl ?_
  refine V_iconst (v := 1) C dX4_doStep_233 (by decide) ?_
  refine V_iadd C dX4_doStep_234 ?_
  exact V_iret C D dX4_doStep_235 h
set_option maxHeartbeats 4000000 in
set_option maxRecDepth 100000 in
theorem c_X4_doStep (l : Launch) (G : vG)  {b1 : Nat} (hb1 : v_isC b1)  {S : vSt} (a2 : Int32) (a3 : Int32) (post : Int32 → vSt → Prop) (h : p_X4_doStep b1  S a2 a3 post) : Met l yX4_doStep (v_ws yX4_doStep cX4_doStep 7 (some .int)) (v_rm 5 153) (v_Pc G [.ref (G.1 74), .ref (G.1 b1), .int a2, .int a3] S) (v_Qi G post) 0 0 (v_A G) := by
  refine v_start (by decide +kernel) (Nat.le_of_ble_eq_true rfl) (fun X hl C D => ?_)
  subst hl
  have C : v_Cx X G cX4_doStep RX4 7 (v_rm 5 153) := C
  show VJ X G S 0 [(0, .ref (G.1 74)), (1, .ref (G.1 b1)), (2, .int a2), (3, .int a3)] []
  refine V_aload_n C 1 dX4_doStep_0 rfl rfl ?_
  refine V_gr C b1 (v_cb hb1 0 (by decide)) (v_co0 hb1) F_0_14 k_RX4_47 dX4_doStep_1 ?_
  refine V_gr C (b1 + 15) (v_cb hb1 15 (by decide)) (v_co15 hb1) F_8_1 k_RX4_74 dX4_doStep_4 ?_
  refine V_iload_n C 3 dX4_doStep_7 rfl rfl ?_
  refine V_callSNi (As := [.ref (G.1 (b1 + 17)), .int a3]) (rest := []) C (c_X10_at (v_l X) G (v_cb hb1 17 (by decide)) (v_ca17 hb1) _ _ h) KV_X10_at (List.mem_of_getElem? (i := 39) rfl) rfl rfl rfl (Nat.le_of_ble_eq_true rfl) ⟨Nat.le_of_ble_eq_true rfl, Nat.le_of_ble_eq_true rfl⟩ dX4_doStep_8 (fun r26 S25 h => ?_)
  refine V_istore (lv' := [(0, .ref (G.1 74)), (1, .ref (G.1 b1)), (2, .int a2), (3, .int a3), (4, .int r26)]) C [1, 2, 3, 4, 0] dX4_doStep_11 (by decide) rfl ?_
  refine V_aload_n C 1 dX4_doStep_13 rfl rfl ?_
  refine V_gr C b1 (v_cb hb1 0 (by decide)) (v_co0 hb1) F_0_14 k_RX4_47 dX4_doStep_14 ?_
  refine V_gr C (b1 + 15) (v_cb hb1 15 (by decide)) (v_co15 hb1) F_8_2 k_RX4_77 dX4_doStep_17 ?_
  refine V_iload_n C 3 dX4_doStep_20 rfl rfl ?_
  refine V_callSNi (As := [.ref (G.1 (b1 + 18)), .int a3]) (rest := []) C (c_X10_at (v_l X) G (v_cb hb1 18 (by decide)) (v_ca18 hb1) _ _ h) KV_X10_at (List.mem_of_getElem? (i := 39) rfl) rfl rfl rfl (Nat.le_of_ble_eq_true rfl) ⟨Nat.le_of_ble_eq_true rfl, Nat.le_of_ble_eq_true rfl⟩ dX4_doStep_21 (fun r28 S27 h => ?_)
  refine V_istore (lv' := [(0, .ref (G.1 74)), (1, .ref (G.1 b1)), (2, .int a2), (3, .int a3), (4, .int r26), (5, .int r28)]) C [1, 2, 3, 4, 5, 0] dX4_doStep_24 (by decide) rfl ?_
  refine V_aload_n C 1 dX4_doStep_26 rfl rfl ?_
  refine V_gr C b1 (v_cb hb1 0 (by decide)) (v_co0 hb1) F_0_14 k_RX4_47 dX4_doStep_27 ?_
  refine V_gr C (b1 + 15) (v_cb hb1 15 (by decide)) (v_co15 hb1) F_8_3 k_RX4_80 dX4_doStep_30 ?_
  refine V_iload_n C 3 dX4_doStep_33 rfl rfl ?_
  refine V_callSNi (As := [.ref (G.1 (b1 + 19)), .int a3]) (rest := []) C (c_X10_at (v_l X) G (v_cb hb1 19 (by decide)) (v_ca19 hb1) _ _ h) KV_X10_at (List.mem_of_getElem? (i := 39) rfl) rfl rfl rfl (Nat.le_of_ble_eq_true rfl) ⟨Nat.le_of_ble_eq_true rfl, Nat.le_of_ble_eq_true rfl⟩ dX4_doStep_34 (fun r30 S29 h => ?_)
  refine V_istore (lv' := [(0, .ref (G.1 74)), (1, .ref (G.1 b1)), (2, .int a2), (3, .int a3), (4, .int r26), (5, .int r28), (6, .int r30)]) C [1, 2, 3, 4, 5, 6, 0] dX4_doStep_37 (by decide) rfl ?_
  refine V_iload_n C 2 dX4_doStep_39 rfl rfl ?_
  refine V_table (tgtd := 224) C dX4_doStep_40 (by decide) (fun c => ?_) (fun k hk c => ?_)
  · have h := h.2.2.2.2.2.2 (v_iout 11 16 c (by decide) (by decide))
    refine V_aload_n C 1 dX4_doStep_224 rfl rfl ?_
    refine V_gr C b1 (v_cb hb1 0 (by decide)) (v_co0 hb1) F_0_14 k_RX4_47 dX4_doStep_225 ?_
    refine V_iload_n C 3 dX4_doStep_228 rfl rfl ?_
    refine V_callVv (As := [.int a3]) (rest := []) C (c_X8_beginLoop (v_l X) G hb1 _ _ h) (b1 + 15) 8 (v_cb hb1 15 (by decide)) (v_co15 hb1) (by decide) rfl KV_X8_beginLoop k_RX4_115 rfl rfl rfl (Nat.le_of_ble_eq_true rfl) ⟨Nat.le_of_ble_eq_true rfl, Nat.le_of_ble_eq_true rfl⟩ dX4_doStep_229 (fun S47 h => ?_)
    refine V_iload_n C 3 dX4_doStep_232 rfl rfl ?_
    refine V_iconst (v := 1) C dX4_doStep_233 (by decide) ?_
    refine V_iadd C dX4_doStep_234 ?_
    exact V_iret C D dX4_doStep_235 h
  · have hk : k < 6 := hk
    rcases (show k = 0 ∨ k = 1 ∨ k = 2 ∨ k = 3 ∨ k = 4 ∨ k = 5 by omega) with rfl | rfl | rfl | rfl | rfl | rfl
    · refine ⟨80, by decide, ?_⟩
      have h := h.1 (v_ieq 11 c (by decide))
      refine V_aload_n C 0 dX4_doStep_80 rfl rfl ?_
      refine V_aload_n C 1 dX4_doStep_81 rfl rfl ?_
      refine V_iload C 4 dX4_doStep_82 rfl ?_
      refine V_iload C 5 dX4_doStep_84 rfl ?_
      refine V_callVv (As := [.ref (G.1 b1), .int r26, .int r28]) (rest := []) C (c_X4_accuse (v_l X) G hb1 _ _ _ h) 74 4 (by decide) (by decide) (by decide) rfl KV_X4_accuse k_RX4_83 rfl rfl rfl (Nat.le_of_ble_eq_true rfl) ⟨Nat.le_of_ble_eq_true rfl, Nat.le_of_ble_eq_true rfl⟩ dX4_doStep_86 (fun S31 h => ?_)
      refine V_goto (tgt := 232) C dX4_doStep_89 (by decide) ?_
      refine V_iload_n C 3 dX4_doStep_232 rfl rfl ?_
      refine V_iconst (v := 1) C dX4_doStep_233 (by decide) ?_
      refine V_iadd C dX4_doStep_234 ?_
      exact V_iret C D dX4_doStep_235 h
    · refine ⟨92, by decide, ?_⟩
      have h := h.2.1 (v_ieq 12 c (by decide))
      refine V_aload_n C 1 dX4_doStep_92 rfl rfl ?_
      refine V_iload C 4 dX4_doStep_93 rfl ?_
      refine V_iload C 5 dX4_doStep_95 rfl ?_
      refine V_iload C 6 dX4_doStep_97 rfl ?_
      refine V_callVz (As := [.int r26, .int r28, .int r30]) (rest := []) C (c_X0_mayDrop (v_l X) G hb1 _ _ _ _ h) b1 0 (v_cb hb1 0 (by decide)) (v_co0 hb1) (by decide) rfl KV_X0_mayDrop k_RX4_87 rfl rfl rfl (Nat.le_of_ble_eq_true rfl) ⟨Nat.le_of_ble_eq_true rfl, Nat.le_of_ble_eq_true rfl⟩ dX4_doStep_99 (fun r33 S32 h => ?_)
      refine V_ifb_eq (tgt := 118) C dX4_doStep_102 (by decide) (fun c => ?_) (fun c => ?_)
      · have h := h.1 c
        refine V_aload_n C 0 dX4_doStep_118 rfl rfl ?_
        refine V_iconst (v := 0) C dX4_doStep_119 (by decide) ?_
        refine V_callVv (As := [.int 0]) (rest := []) C (c_X4_count (v_l X) G  _ _ h) 74 4 (by decide) (by decide) (by decide) rfl KV_X4_count k_RX4_95 rfl rfl rfl (Nat.le_of_ble_eq_true rfl) ⟨Nat.le_of_ble_eq_true rfl, Nat.le_of_ble_eq_true rfl⟩ dX4_doStep_120 (fun S34 h => ?_)
        refine V_goto (tgt := 232) C dX4_doStep_123 (by decide) ?_
        refine V_iload_n C 3 dX4_doStep_232 rfl rfl ?_
        refine V_iconst (v := 1) C dX4_doStep_233 (by decide) ?_
        refine V_iadd C dX4_doStep_234 ?_
        exact V_iret C D dX4_doStep_235 h
      · have h := h.2 c
        refine V_aload_n C 1 dX4_doStep_105 rfl rfl ?_
        refine V_iload C 4 dX4_doStep_106 rfl ?_
        refine V_iload C 5 dX4_doStep_108 rfl ?_
        refine V_iload C 6 dX4_doStep_110 rfl ?_
        refine V_callVv (As := [.int r26, .int r28, .int r30]) (rest := []) C (c_X0_settle (v_l X) G hb1 _ _ _ _ h) b1 0 (v_cb hb1 0 (by decide)) (v_co0 hb1) (by decide) rfl KV_X0_settle k_RX4_91 rfl rfl rfl (Nat.le_of_ble_eq_true rfl) ⟨Nat.le_of_ble_eq_true rfl, Nat.le_of_ble_eq_true rfl⟩ dX4_doStep_112 (fun S35 h => ?_)
        refine V_goto (tgt := 232) C dX4_doStep_115 (by decide) ?_
        refine V_iload_n C 3 dX4_doStep_232 rfl rfl ?_
        refine V_iconst (v := 1) C dX4_doStep_233 (by decide) ?_
        refine V_iadd C dX4_doStep_234 ?_
        exact V_iret C D dX4_doStep_235 h
    · refine ⟨224, by decide, ?_⟩
      have h := h.2.2.1 (v_ieq 13 c (by decide))
      refine V_aload_n C 1 dX4_doStep_224 rfl rfl ?_
      refine V_gr C b1 (v_cb hb1 0 (by decide)) (v_co0 hb1) F_0_14 k_RX4_47 dX4_doStep_225 ?_
      refine V_iload_n C 3 dX4_doStep_228 rfl rfl ?_
      refine V_callVv (As := [.int a3]) (rest := []) C (c_X8_beginLoop (v_l X) G hb1 _ _ h) (b1 + 15) 8 (v_cb hb1 15 (by decide)) (v_co15 hb1) (by decide) rfl KV_X8_beginLoop k_RX4_115 rfl rfl rfl (Nat.le_of_ble_eq_true rfl) ⟨Nat.le_of_ble_eq_true rfl, Nat.le_of_ble_eq_true rfl⟩ dX4_doStep_229 (fun S36 h => ?_)
      refine V_iload_n C 3 dX4_doStep_232 rfl rfl ?_
      refine V_iconst (v := 1) C dX4_doStep_233 (by decide) ?_
      refine V_iadd C dX4_doStep_234 ?_
      exact V_iret C D dX4_doStep_235 h
    · refine ⟨126, by decide, ?_⟩
      have h := h.2.2.2.1 (v_ieq 14 c (by decide))
      refine V_aload_n C 1 dX4_doStep_126 rfl rfl ?_
      refine V_iload C 4 dX4_doStep_127 rfl ?_
      refine V_iload C 6 dX4_doStep_129 rfl ?_
      refine V_callVv (As := [.int r26, .int r30]) (rest := []) C (c_X0_give (v_l X) G hb1 _ _ _ h) b1 0 (v_cb hb1 0 (by decide)) (v_co0 hb1) (by decide) rfl KV_X0_give k_RX4_98 rfl rfl rfl (Nat.le_of_ble_eq_true rfl) ⟨Nat.le_of_ble_eq_true rfl, Nat.le_of_ble_eq_true rfl⟩ dX4_doStep_131 (fun S37 h => ?_)
      refine V_goto (tgt := 232) C dX4_doStep_134 (by decide) ?_
      refine V_iload_n C 3 dX4_doStep_232 rfl rfl ?_
      refine V_iconst (v := 1) C dX4_doStep_233 (by decide) ?_
      refine V_iadd C dX4_doStep_234 ?_
      exact V_iret C D dX4_doStep_235 h
    · refine ⟨137, by decide, ?_⟩
      have h := h.2.2.2.2.1 (v_ieq 15 c (by decide))
      refine V_aload_n C 1 dX4_doStep_137 rfl rfl ?_
      refine V_gi C b1 (v_cb hb1 0 (by decide)) (v_co0 hb1) F_0_15 k_RX4_102 dX4_doStep_138 ?_
      refine V_if_le (tgt := 183) C dX4_doStep_141 (by decide) (fun c => ?_) (fun c => ?_)
      · have h := h.1 c
        refine V_loc (lv' := [(0, .ref (G.1 74)), (3, .int a3)]) [0, 3] rfl ?_
        exact q_X4_doStep_183 C D hb1 _ h
      · have h := h.2 c
        refine V_aload_n C 1 dX4_doStep_144 rfl rfl ?_
        refine V_gi C b1 (v_cb hb1 0 (by decide)) (v_co0 hb1) F_0_16 k_RX4_105 dX4_doStep_145 ?_
        refine V_if_le (tgt := 183) C dX4_doStep_148 (by decide) (fun c => ?_) (fun c => ?_)
        · have h := h.1 c
          refine V_loc (lv' := [(0, .ref (G.1 74)), (3, .int a3)]) [0, 3] rfl ?_
          exact q_X4_doStep_183 C D hb1 _ h
        · have h := h.2 c
          refine V_aload_n C 0 dX4_doStep_151 rfl rfl ?_
          refine V_aload_n C 1 dX4_doStep_152 rfl rfl ?_
          refine V_gi C b1 (v_cb hb1 0 (by decide)) (v_co0 hb1) F_0_15 k_RX4_102 dX4_doStep_153 ?_
          refine V_callVi (As := [.int (S29.1 b1 15)]) (rest := []) C (c_X4_draw (v_l X) G  _ _ h) 74 4 (by decide) (by decide) (by decide) rfl KV_X4_draw k_RX4_30 rfl rfl rfl (Nat.le_of_ble_eq_true rfl) ⟨Nat.le_of_ble_eq_true rfl, Nat.le_of_ble_eq_true rfl⟩ dX4_doStep_156 (fun r39 S38 h => ?_)
          refine V_istore (lv' := [(0, .ref (G.1 74)), (1, .ref (G.1 b1)), (2, .int a2), (3, .int a3), (4, .int r39), (5, .int r28), (6, .int r30)]) C [1, 2, 3, 4, 0, 5, 6] dX4_doStep_159 (by decide) rfl ?_
          refine V_aload_n C 0 dX4_doStep_161 rfl rfl ?_
          refine V_aload_n C 1 dX4_doStep_162 rfl rfl ?_
          refine V_gi C b1 (v_cb hb1 0 (by decide)) (v_co0 hb1) F_0_16 k_RX4_105 dX4_doStep_163 ?_
          refine V_callVi (As := [.int (S38.1 b1 16)]) (rest := []) C (c_X4_draw (v_l X) G  _ _ h) 74 4 (by decide) (by decide) (by decide) rfl KV_X4_draw k_RX4_30 rfl rfl rfl (Nat.le_of_ble_eq_true rfl) ⟨Nat.le_of_ble_eq_true rfl, Nat.le_of_ble_eq_true rfl⟩ dX4_doStep_166 (fun r41 S40 h => ?_)
          refine V_istore (lv' := [(0, .ref (G.1 74)), (1, .ref (G.1 b1)), (2, .int a2), (3, .int a3), (4, .int r39), (5, .int r41), (6, .int r30)]) C [1, 2, 3, 4, 5, 0, 6] dX4_doStep_169 (by decide) rfl ?_
          refine V_aload_n C 0 dX4_doStep_171 rfl rfl ?_
          refine V_aload_n C 1 dX4_doStep_172 rfl rfl ?_
          refine V_iload C 4 dX4_doStep_173 rfl ?_
          refine V_iload C 5 dX4_doStep_175 rfl ?_
          refine V_callVv (As := [.ref (G.1 b1), .int r39, .int r41]) (rest := []) C (c_X4_accuse (v_l X) G hb1 _ _ _ h) 74 4 (by decide) (by decide) (by decide) rfl KV_X4_accuse k_RX4_83 rfl rfl rfl (Nat.le_of_ble_eq_true rfl) ⟨Nat.le_of_ble_eq_true rfl, Nat.le_of_ble_eq_true rfl⟩ dX4_doStep_177 (fun S42 h => ?_)
          refine V_goto (tgt := 232) C dX4_doStep_180 (by decide) ?_
          refine V_iload_n C 3 dX4_doStep_232 rfl rfl ?_
          refine V_iconst (v := 1) C dX4_doStep_233 (by decide) ?_
          refine V_iadd C dX4_doStep_234 ?_
          exact V_iret C D dX4_doStep_235 h
    · refine ⟨191, by decide, ?_⟩
      have h := h.2.2.2.2.2.1 (v_ieq 16 c (by decide))
      refine V_aload_n C 1 dX4_doStep_191 rfl rfl ?_
      refine V_iload C 4 dX4_doStep_192 rfl ?_
      refine V_iload C 5 dX4_doStep_194 rfl ?_
      refine V_iload C 6 dX4_doStep_196 rfl ?_
      refine V_callSz (As := [.ref (G.1 b1), .int r26, .int r28, .int r30]) (rest := []) C (c_X4_holds (v_l X) G hb1 _ _ _ _ h) KV_X4_holds k_RX4_108 rfl rfl rfl (Nat.le_of_ble_eq_true rfl) ⟨Nat.le_of_ble_eq_true rfl, Nat.le_of_ble_eq_true rfl⟩ dX4_doStep_198 (fun r44 S43 h => ?_)
      refine V_ifb_eq (tgt := 210) C dX4_doStep_201 (by decide) (fun c => ?_) (fun c => ?_)
      · have h := h.1 c
        refine V_aload_n C 1 dX4_doStep_210 rfl rfl ?_
        refine V_gr C b1 (v_cb hb1 0 (by decide)) (v_co0 hb1) F_0_14 k_RX4_47 dX4_doStep_211 ?_
        refine V_gr C (b1 + 15) (v_cb hb1 15 (by decide)) (v_co15 hb1) F_8_4 k_RX4_112 dX4_doStep_214 ?_
        refine V_iload_n C 3 dX4_doStep_217 rfl rfl ?_
        refine V_callSNi (As := [.ref (G.1 (b1 + 20)), .int a3]) (rest := []) C (c_X10_at (v_l X) G (v_cb hb1 20 (by decide)) (v_ca20 hb1) _ _ h) KV_X10_at (List.mem_of_getElem? (i := 39) rfl) rfl rfl rfl (Nat.le_of_ble_eq_true rfl) ⟨Nat.le_of_ble_eq_true rfl, Nat.le_of_ble_eq_true rfl⟩ dX4_doStep_218 (fun r46 S45 h => ?_)
        refine V_iconst (v := 1) C dX4_doStep_221 (by decide) ?_
        refine V_iadd C dX4_doStep_222 ?_
        exact V_iret C D dX4_doStep_223 h
      · have h := h.2 c
        refine V_iload_n C 3 dX4_doStep_204 rfl rfl ?_
        refine V_iconst (v := 1) C dX4_doStep_205 (by decide) ?_
        refine V_iadd C dX4_doStep_206 ?_
        refine V_goto (tgt := 223) C dX4_doStep_207 (by decide) ?_
        exact V_iret C D dX4_doStep_223 h
/-! HalfAccuser$Life.run(LHalfAccuser$City;I)V -/
theorem dX4_run_0 : decode cX4_run 0 = .ok ((.aload_n 0), 1) := by decide +kernel
theorem dX4_run_1 : decode cX4_run 1 = .ok ((.getfield 11), 3) := by decide +kernel
theorem dX4_run_4 : decode cX4_run 4 = .ok ((.iconst 0), 1) := by decide +kernel
theorem dX4_run_5 : decode cX4_run 5 = .ok ((.invokestatic 33), 3) := by decide +kernel
theorem dX4_run_8 : decode cX4_run 8 = .ok ((.aload_n 0), 1) := by decide +kernel
theorem dX4_run_9 : decode cX4_run 9 = .ok ((.iconst 0), 1) := by decide +kernel
theorem dX4_run_10 : decode cX4_run 10 = .ok ((.putfield 39), 3) := by decide +kernel
theorem dX4_run_13 : decode cX4_run 13 = .ok ((.aload_n 0), 1) := by decide +kernel
theorem dX4_run_14 : decode cX4_run 14 = .ok ((.iload_n 2), 1) := by decide +kernel
theorem dX4_run_15 : decode cX4_run 15 = .ok ((.invokevirtual 42), 3) := by decide +kernel
theorem dX4_run_18 : decode cX4_run 18 = .ok ((.iconst 0), 1) := by decide +kernel
theorem dX4_run_19 : decode cX4_run 19 = .ok ((.istore_n 3), 1) := by decide +kernel
theorem dX4_run_20 : decode cX4_run 20 = .ok ((.iconst 0), 1) := by decide +kernel
theorem dX4_run_21 : decode cX4_run 21 = .ok ((.istore 4), 2) := by decide +kernel
theorem dX4_run_23 : decode cX4_run 23 = .ok ((.iload 4), 2) := by decide +kernel
theorem dX4_run_25 : decode cX4_run 25 = .ok ((.ldc 46), 2) := by decide +kernel
theorem dX4_run_27 : decode cX4_run 27 = .ok ((.if_icmp .ge 99), 3) := by decide +kernel
theorem dX4_run_30 : decode cX4_run 30 = .ok ((.iload_n 3), 1) := by decide +kernel
theorem dX4_run_31 : decode cX4_run 31 = .ok ((.aload_n 1), 1) := by decide +kernel
theorem dX4_run_32 : decode cX4_run 32 = .ok ((.getfield 47), 3) := by decide +kernel
theorem dX4_run_35 : decode cX4_run 35 = .ok ((.getfield 51), 3) := by decide +kernel
theorem dX4_run_38 : decode cX4_run 38 = .ok ((.if_icmp .ge 88), 3) := by decide +kernel
theorem dX4_run_41 : decode cX4_run 41 = .ok ((.aload_n 1), 1) := by decide +kernel
theorem dX4_run_42 : decode cX4_run 42 = .ok ((.getfield 47), 3) := by decide +kernel
theorem dX4_run_45 : decode cX4_run 45 = .ok ((.getfield 56), 3) := by decide +kernel
theorem dX4_run_48 : decode cX4_run 48 = .ok ((.iload_n 3), 1) := by decide +kernel
theorem dX4_run_49 : decode cX4_run 49 = .ok ((.invokestatic 59), 3) := by decide +kernel
theorem dX4_run_52 : decode cX4_run 52 = .ok ((.istore 5), 2) := by decide +kernel
theorem dX4_run_54 : decode cX4_run 54 = .ok ((.iload 5), 2) := by decide +kernel
theorem dX4_run_56 : decode cX4_run 56 = .ok ((.bipush 20), 2) := by decide +kernel
theorem dX4_run_58 : decode cX4_run 58 = .ok ((.if_icmp .ne 15), 3) := by decide +kernel
theorem dX4_run_61 : decode cX4_run 61 = .ok ((.aload_n 1), 1) := by decide +kernel
theorem dX4_run_62 : decode cX4_run 62 = .ok ((.getfield 47), 3) := by decide +kernel
theorem dX4_run_65 : decode cX4_run 65 = .ok ((.iload_n 3), 1) := by decide +kernel
theorem dX4_run_66 : decode cX4_run 66 = .ok ((.invokevirtual 63), 3) := by decide +kernel
theorem dX4_run_69 : decode cX4_run 69 = .ok ((.istore_n 3), 1) := by decide +kernel
theorem dX4_run_70 : decode cX4_run 70 = .ok ((.goto 50), 3) := by decide +kernel
theorem dX4_run_73 : decode cX4_run 73 = .ok ((.aload_n 0), 1) := by decide +kernel
theorem dX4_run_74 : decode cX4_run 74 = .ok ((.getfield 39), 3) := by decide +kernel
theorem dX4_run_77 : decode cX4_run 77 = .ok ((.sipush 300), 3) := by decide +kernel
theorem dX4_run_80 : decode cX4_run 80 = .ok ((.if_icmp .lt 13), 3) := by decide +kernel
theorem dX4_run_83 : decode cX4_run 83 = .ok ((.aload_n 0), 1) := by decide +kernel
theorem dX4_run_84 : decode cX4_run 84 = .ok ((.getfield 11), 3) := by decide +kernel
theorem dX4_run_87 : decode cX4_run 87 = .ok ((.iconst 4), 1) := by decide +kernel
theorem dX4_run_88 : decode cX4_run 88 = .ok ((.iconst 1), 1) := by decide +kernel
theorem dX4_run_89 : decode cX4_run 89 = .ok ((.invokestatic 66), 3) := by decide +kernel
theorem dX4_run_92 : decode cX4_run 92 = .ok (.return_, 1) := by decide +kernel
theorem dX4_run_93 : decode cX4_run 93 = .ok ((.aload_n 0), 1) := by decide +kernel
theorem dX4_run_94 : decode cX4_run 94 = .ok (.dup, 1) := by decide +kernel
theorem dX4_run_95 : decode cX4_run 95 = .ok ((.getfield 39), 3) := by decide +kernel
theorem dX4_run_98 : decode cX4_run 98 = .ok ((.iconst 1), 1) := by decide +kernel
theorem dX4_run_99 : decode cX4_run 99 = .ok (.iadd, 1) := by decide +kernel
theorem dX4_run_100 : decode cX4_run 100 = .ok ((.putfield 39), 3) := by decide +kernel
theorem dX4_run_103 : decode cX4_run 103 = .ok ((.iload 5), 2) := by decide +kernel
theorem dX4_run_105 : decode cX4_run 105 = .ok ((.bipush 21), 2) := by decide +kernel
theorem dX4_run_107 : decode cX4_run 107 = .ok ((.if_icmp .ne 4), 3) := by decide +kernel
theorem dX4_run_110 : decode cX4_run 110 = .ok (.return_, 1) := by decide +kernel
theorem dX4_run_111 : decode cX4_run 111 = .ok ((.aload_n 0), 1) := by decide +kernel
theorem dX4_run_112 : decode cX4_run 112 = .ok ((.aload_n 1), 1) := by decide +kernel
theorem dX4_run_113 : decode cX4_run 113 = .ok ((.iload 5), 2) := by decide +kernel
theorem dX4_run_115 : decode cX4_run 115 = .ok ((.iload_n 3), 1) := by decide +kernel
theorem dX4_run_116 : decode cX4_run 116 = .ok ((.invokevirtual 70), 3) := by decide +kernel
theorem dX4_run_119 : decode cX4_run 119 = .ok ((.istore_n 3), 1) := by decide +kernel
theorem dX4_run_120 : decode cX4_run 120 = .ok ((.iinc 4 1), 3) := by decide +kernel
theorem dX4_run_123 : decode cX4_run 123 = .ok ((.goto (-100)), 3) := by decide +kernel
theorem dX4_run_126 : decode cX4_run 126 = .ok (.return_, 1) := by decide +kernel
def p_X4_run_120 (b1 : Nat) (a2 : Int32)  (K23 : vSt → Int32 → Int32 → Prop) (post : vSt → Prop) (S : vSt) (x3 : Int32) (x4 : Int32) : Prop := ∀ y30 : Int32, y30 = x4 + 1 → K23 S x3 y30
def p_X4_run_23 (b1 : Nat) (a2 : Int32)   (post : vSt → Prop) : Nat → vSt → Int32 → Int32 → Prop
  | 0 => fun _ _ _ => False
  | fu23 + 1 => fun S x3 x4 => ((1000000 ≤ x4 → post S) ∧ (¬ 1000000 ≤ x4 → (((S.1 (b1 + 15) 6) ≤ x3 → post S) ∧ (¬ (S.1 (b1 + 15) 6) ≤ x3 → p_X10_at (b1 + 16) 60 S x3 (fun r26 S25 => ((¬ r26 = 20 → (((S25.1 74 1) < 300 → ∀ S27, S27 = v_si S25 74 1 ((S25.1 74 1) + 1) → ((¬ r26 = 21 → p_X4_doStep b1 S27 r26 x3 (fun r29 S28 => p_X4_run_120 b1 a2 (p_X4_run_23 b1 a2 post fu23) post S28 r29 x4)) ∧ (r26 = 21 → post S27))) ∧ (¬ (S25.1 74 1) < 300 → p_X10_put 75 5 S25 4 1 (fun S30 => post S30)))) ∧ (r26 = 20 → p_X8_behindEnd b1 S25 x3 (fun r32 S31 => p_X4_run_120 b1 a2 (p_X4_run_23 b1 a2 post fu23) post S31 r32 x4))))))))
theorem e_X4_run_23 (b1 : Nat) (a2 : Int32)   (post : vSt → Prop) (fu23 : Nat) (S : vSt) (x3 : Int32) (x4 : Int32) : p_X4_run_23 b1 a2 post (fu23 + 1) S x3 x4 = (((1000000 ≤ x4 → post S) ∧ (¬ 1000000 ≤ x4 → (((S.1 (b1 + 15) 6) ≤ x3 → post S) ∧ (¬ (S.1 (b1 + 15) 6) ≤ x3 → p_X10_at (b1 + 16) 60 S x3 (fun r26 S25 => ((¬ r26 = 20 → (((S25.1 74 1) < 300 → ∀ S27, S27 = v_si S25 74 1 ((S25.1 74 1) + 1) → ((¬ r26 = 21 → p_X4_doStep b1 S27 r26 x3 (fun r29 S28 => p_X4_run_120 b1 a2 (p_X4_run_23 b1 a2 post fu23) post S28 r29 x4)) ∧ (r26 = 21 → post S27))) ∧ (¬ (S25.1 74 1) < 300 → p_X10_put 75 5 S25 4 1 (fun S30 => post S30)))) ∧ (r26 = 20 → p_X8_behindEnd b1 S25 x3 (fun r32 S31 => p_X4_run_120 b1 a2 (p_X4_run_23 b1 a2 post fu23) post S31 r32 x4))))))))) := rfl
def p_X4_run (b1 : Nat)  (S : vSt) (a2 : Int32) (post : vSt → Prop) : Prop := p_J7_fill_53178 75 5 S 0 (fun S22 => ∀ S23, S23 = v_si S22 74 1 0 → p_X4_sow  S23 a2 (fun S24 => ∃ fu23, p_X4_run_23 b1 a2 post fu23 S24 0 0))
set_option maxHeartbeats 4000000 in
set_option maxRecDepth 100000 in
theorem q_X4_run_120 {X : vX} {G : vG}  {post : vSt → Prop} (C : v_Cx X G cX4_run RX4 6 (v_rm 6 179)) (D : v_Rx X G (v_Qv G post) none) {b1 : Nat} (hb1 : v_isC b1) {a2 : Int32}  {K23 : vSt → Int32 → Int32 → Prop} (hK23 : ∀ S x3 x4, K23 S x3 x4 → VJ X G S 23 [(0, .ref (G.1 74)), (1, .ref (G.1 b1)), (3, .int x3), (4, .int x4)] []) : ∀ (S : vSt) (x3 : Int32) (x4 : Int32), p_X4_run_120 b1 a2 K23 post S x3 x4 → VJ X G S 120 [(0, .ref (G.1 74)), (1, .ref (G.1 b1)), (3, .int x3), (4, .int x4)] [] := by
  intro S x3 x4 h
  obtain ⟨y30, ey30⟩ : ∃ z : Int32, z = x4 + 1 := ⟨_, rfl⟩
  have h := h y30 ey30
  refine V_iinc (lv' := [(0, .ref (G.1 74)), (1, .ref (G.1 b1)), (3, .int x3), (4, .int y30)]) C 3 [1, 2, 3, 0] y30 dX4_run_120 rfl (by rw [ey30]; rfl) (by decide) rfl ?_
  refine V_goto (tgt := 23) C dX4_run_123 (by decide) ?_
  exact hK23 _ _ _ h
set_option maxHeartbeats 4000000 in
set_option maxRecDepth 100000 in
theorem q_X4_run_23 {X : vX} {G : vG}  {post : vSt → Prop} (C : v_Cx X G cX4_run RX4 6 (v_rm 6 179)) (D : v_Rx X G (v_Qv G post) none) {b1 : Nat} (hb1 : v_isC b1) {a2 : Int32}   : ∀ (fu : Nat) (S : vSt) (x3 : Int32) (x4 : Int32), p_X4_run_23 b1 a2 post fu S x3 x4 → VJ X G S 23 [(0, .ref (G.1 74)), (1, .ref (G.1 b1)), (3, .int x3), (4, .int x4)] [] := by
  intro fu
  induction fu with
  | zero => intro S x3 x4 h; exact absurd h id
  | succ fu ih =>
    intro S x3 x4 h
    have hK23 := ih
    rw [e_X4_run_23] at h
    refine V_iload C 3 dX4_run_23 rfl ?_
    refine V_ldc (v := 1000000) C k_RX4_46 dX4_run_25 ?_
    refine V_icmp_ge (tgt := 126) C dX4_run_27 (by decide) (fun c => ?_) (fun c => ?_)
    · have h := h.1 c
      exact V_vret C D dX4_run_126 h
    · have h := h.2 c
      refine V_iload_n C 2 dX4_run_30 rfl rfl ?_
      refine V_aload_n C 1 dX4_run_31 rfl rfl ?_
      refine V_gr C b1 (v_cb hb1 0 (by decide)) (v_co0 hb1) F_0_14 k_RX4_47 dX4_run_32 ?_
      refine V_gi C (b1 + 15) (v_cb hb1 15 (by decide)) (v_co15 hb1) F_8_6 k_RX4_51 dX4_run_35 ?_
      refine V_icmp_ge (tgt := 126) C dX4_run_38 (by decide) (fun c => ?_) (fun c => ?_)
      · have h := h.1 c
        exact V_vret C D dX4_run_126 h
      · have h := h.2 c
        refine V_aload_n C 1 dX4_run_41 rfl rfl ?_
        refine V_gr C b1 (v_cb hb1 0 (by decide)) (v_co0 hb1) F_0_14 k_RX4_47 dX4_run_42 ?_
        refine V_gr C (b1 + 15) (v_cb hb1 15 (by decide)) (v_co15 hb1) F_8_0 k_RX4_56 dX4_run_45 ?_
        refine V_iload_n C 2 dX4_run_48 rfl rfl ?_
        refine V_callSNi (As := [.ref (G.1 (b1 + 16)), .int x3]) (rest := []) C (c_X10_at (v_l X) G (v_cb hb1 16 (by decide)) (v_ca16 hb1) _ _ h) KV_X10_at (List.mem_of_getElem? (i := 39) rfl) rfl rfl rfl (Nat.le_of_ble_eq_true rfl) ⟨Nat.le_of_ble_eq_true rfl, Nat.le_of_ble_eq_true rfl⟩ dX4_run_49 (fun r26 S25 h => ?_)
        refine V_istore (lv' := [(0, .ref (G.1 74)), (1, .ref (G.1 b1)), (3, .int x3), (4, .int x4), (5, .int r26)]) C [1, 2, 3, 4, 0] dX4_run_52 (by decide) rfl ?_
        refine V_iload C 4 dX4_run_54 rfl ?_
        refine V_bipush (v := 20) C dX4_run_56 (by decide) ?_
        refine V_icmp_ne (tgt := 73) C dX4_run_58 (by decide) (fun c => ?_) (fun c => ?_)
        · have h := h.1 c
          refine V_aload_n C 0 dX4_run_73 rfl rfl ?_
          refine V_gi C 74 (by decide) (by decide) F_4_1 k_RX4_39 dX4_run_74 ?_
          refine V_sipush (v := 300) C dX4_run_77 (by decide) ?_
          refine V_icmp_lt (tgt := 93) C dX4_run_80 (by decide) (fun c => ?_) (fun c => ?_)
          · have h := h.1 c
            refine V_aload_n C 0 dX4_run_93 rfl rfl ?_
            refine V_dup C dX4_run_94 rfl ?_
            refine V_gi C 74 (by decide) (by decide) F_4_1 k_RX4_39 dX4_run_95 ?_
            refine V_iconst (v := 1) C dX4_run_98 (by decide) ?_
            refine V_iadd C dX4_run_99 ?_
            refine V_pi C 74 (by decide) (by decide) P_4_1 k_RX4_39 dX4_run_100 ?_
            refine V_topS (fun S27 eS27 => ?_)
            have h := h S27 eS27
            refine V_iload C 4 dX4_run_103 rfl ?_
            refine V_bipush (v := 21) C dX4_run_105 (by decide) ?_
            refine V_icmp_ne (tgt := 111) C dX4_run_107 (by decide) (fun c => ?_) (fun c => ?_)
            · have h := h.1 c
              refine V_aload_n C 0 dX4_run_111 rfl rfl ?_
              refine V_aload_n C 1 dX4_run_112 rfl rfl ?_
              refine V_iload C 4 dX4_run_113 rfl ?_
              refine V_iload_n C 2 dX4_run_115 rfl rfl ?_
              refine V_callVi (As := [.ref (G.1 b1), .int r26, .int x3]) (rest := []) C (c_X4_doStep (v_l X) G hb1 _ _ _ h) 74 4 (by decide) (by decide) (by decide) rfl KV_X4_doStep k_RX4_70 rfl rfl rfl (Nat.le_of_ble_eq_true rfl) ⟨Nat.le_of_ble_eq_true rfl, Nat.le_of_ble_eq_true rfl⟩ dX4_run_116 (fun r29 S28 h => ?_)
              refine V_istore_n (lv' := [(0, .ref (G.1 74)), (1, .ref (G.1 b1)), (3, .int r29), (4, .int x4), (5, .int r26)]) C [1, 2, 0, 3, 4] dX4_run_119 rfl (by decide) rfl ?_
              refine V_loc (lv' := [(0, .ref (G.1 74)), (1, .ref (G.1 b1)), (3, .int r29), (4, .int x4)]) [0, 1, 2, 3] rfl ?_
              exact q_X4_run_120 C D hb1 hK23 _ _ _ h
            · have h := h.2 c
              exact V_vret C D dX4_run_110 h
          · have h := h.2 c
            refine V_aload_n C 0 dX4_run_83 rfl rfl ?_
            refine V_ga C 74 (by decide) (by decide) F_4_0 k_RX4_11 dX4_run_84 ?_
            refine V_iconst (v := 4) C dX4_run_87 (by decide) ?_
            refine V_iconst (v := 1) C dX4_run_88 (by decide) ?_
            refine V_callSNv (As := [.ref (G.1 75), .int 4, .int 1]) (rest := []) C (c_X10_put (v_l X) G (by decide) (by decide) _ _ _ h) KV_X10_put (List.mem_of_getElem? (i := 41) rfl) rfl rfl rfl (Nat.le_of_ble_eq_true rfl) ⟨Nat.le_of_ble_eq_true rfl, Nat.le_of_ble_eq_true rfl⟩ dX4_run_89 (fun S30 h => ?_)
            exact V_vret C D dX4_run_92 h
        · have h := h.2 c
          refine V_aload_n C 1 dX4_run_61 rfl rfl ?_
          refine V_gr C b1 (v_cb hb1 0 (by decide)) (v_co0 hb1) F_0_14 k_RX4_47 dX4_run_62 ?_
          refine V_iload_n C 2 dX4_run_65 rfl rfl ?_
          refine V_callVi (As := [.int x3]) (rest := []) C (c_X8_behindEnd (v_l X) G hb1 _ _ h) (b1 + 15) 8 (v_cb hb1 15 (by decide)) (v_co15 hb1) (by decide) rfl KV_X8_behindEnd k_RX4_63 rfl rfl rfl (Nat.le_of_ble_eq_true rfl) ⟨Nat.le_of_ble_eq_true rfl, Nat.le_of_ble_eq_true rfl⟩ dX4_run_66 (fun r32 S31 h => ?_)
          refine V_istore_n (lv' := [(0, .ref (G.1 74)), (1, .ref (G.1 b1)), (3, .int r32), (4, .int x4), (5, .int r26)]) C [1, 2, 0, 3, 4] dX4_run_69 rfl (by decide) rfl ?_
          refine V_goto (tgt := 120) C dX4_run_70 (by decide) ?_
          refine V_loc (lv' := [(0, .ref (G.1 74)), (1, .ref (G.1 b1)), (3, .int r32), (4, .int x4)]) [0, 1, 2, 3] rfl ?_
          exact q_X4_run_120 C D hb1 hK23 _ _ _ h
set_option maxHeartbeats 4000000 in
set_option maxRecDepth 100000 in
theorem c_X4_run (l : Launch) (G : vG)  {b1 : Nat} (hb1 : v_isC b1)  {S : vSt} (a2 : Int32) (post : vSt → Prop) (h : p_X4_run b1  S a2 post) : Met l yX4_run (v_ws yX4_run cX4_run 6 none) (v_rm 6 179) (v_Pc G [.ref (G.1 74), .ref (G.1 b1), .int a2] S) (v_Qv G post) 0 0 (v_A G) := by
  refine v_start (by decide +kernel) (Nat.le_of_ble_eq_true rfl) (fun X hl C D => ?_)
  subst hl
  have C : v_Cx X G cX4_run RX4 6 (v_rm 6 179) := C
  show VJ X G S 0 [(0, .ref (G.1 74)), (1, .ref (G.1 b1)), (2, .int a2)] []
  refine V_aload_n C 0 dX4_run_0 rfl rfl ?_
  refine V_ga C 74 (by decide) (by decide) F_4_0 k_RX4_11 dX4_run_1 ?_
  refine V_iconst (v := 0) C dX4_run_4 (by decide) ?_
  refine V_callSv (As := [.ref (G.1 75), .int 0]) (rest := []) C (c_J7_fill_53178 (v_l X) G (by decide) (by decide) _ _ h) KV_J7_fill_53178 k_RX4_33 rfl rfl rfl (Nat.le_of_ble_eq_true rfl) ⟨Nat.le_of_ble_eq_true rfl, Nat.le_of_ble_eq_true rfl⟩ dX4_run_5 (fun S22 h => ?_)
  refine V_aload_n C 0 dX4_run_8 rfl rfl ?_
  refine V_iconst (v := 0) C dX4_run_9 (by decide) ?_
  refine V_pi C 74 (by decide) (by decide) P_4_1 k_RX4_39 dX4_run_10 ?_
  refine V_topS (fun S23 eS23 => ?_)
  have h := h S23 eS23
  refine V_aload_n C 0 dX4_run_13 rfl rfl ?_
  refine V_iload_n C 2 dX4_run_14 rfl rfl ?_
  refine V_callVv (As := [.int a2]) (rest := []) C (c_X4_sow (v_l X) G  _ _ h) 74 4 (by decide) (by decide) (by decide) rfl KV_X4_sow k_RX4_42 rfl rfl rfl (Nat.le_of_ble_eq_true rfl) ⟨Nat.le_of_ble_eq_true rfl, Nat.le_of_ble_eq_true rfl⟩ dX4_run_15 (fun S24 h => ?_)
  refine V_iconst (v := 0) C dX4_run_18 (by decide) ?_
  refine V_istore_n (lv' := [(0, .ref (G.1 74)), (1, .ref (G.1 b1)), (2, .int a2), (3, .int 0)]) C [1, 2, 3, 0] dX4_run_19 rfl (by decide) rfl ?_
  refine V_iconst (v := 0) C dX4_run_20 (by decide) ?_
  refine V_istore (lv' := [(0, .ref (G.1 74)), (1, .ref (G.1 b1)), (2, .int a2), (3, .int 0), (4, .int 0)]) C [1, 2, 3, 4, 0] dX4_run_21 (by decide) rfl ?_
  refine V_loc (lv' := [(0, .ref (G.1 74)), (1, .ref (G.1 b1)), (3, .int 0), (4, .int 0)]) [0, 1, 3, 4] rfl ?_
  obtain ⟨fu23, h⟩ := h
  exact q_X4_run_23 C D hb1 fu23 _ _ _ h
/-! HalfAccuser$Tape.keywordOf(II)I -/
theorem dX6_keywordOf_0 : decode cX6_keywordOf 0 = .ok ((.iconst 0), 1) := by decide +kernel
theorem dX6_keywordOf_1 : decode cX6_keywordOf 1 = .ok ((.istore_n 3), 1) := by decide +kernel
theorem dX6_keywordOf_2 : decode cX6_keywordOf 2 = .ok ((.iload_n 1), 1) := by decide +kernel
theorem dX6_keywordOf_3 : decode cX6_keywordOf 3 = .ok ((.istore 4), 2) := by decide +kernel
theorem dX6_keywordOf_5 : decode cX6_keywordOf 5 = .ok ((.iconst 1), 1) := by decide +kernel
theorem dX6_keywordOf_6 : decode cX6_keywordOf 6 = .ok ((.istore 5), 2) := by decide +kernel
theorem dX6_keywordOf_8 : decode cX6_keywordOf 8 = .ok ((.iconst 0), 1) := by decide +kernel
theorem dX6_keywordOf_9 : decode cX6_keywordOf 9 = .ok ((.istore 6), 2) := by decide +kernel
theorem dX6_keywordOf_11 : decode cX6_keywordOf 11 = .ok ((.iload 6), 2) := by decide +kernel
theorem dX6_keywordOf_13 : decode cX6_keywordOf 13 = .ok ((.ldc 80), 2) := by decide +kernel
theorem dX6_keywordOf_15 : decode cX6_keywordOf 15 = .ok ((.invokevirtual 82), 3) := by decide +kernel
theorem dX6_keywordOf_18 : decode cX6_keywordOf 18 = .ok ((.if_icmp .ge 82), 3) := by decide +kernel
theorem dX6_keywordOf_21 : decode cX6_keywordOf 21 = .ok ((.ldc 80), 2) := by decide +kernel
theorem dX6_keywordOf_23 : decode cX6_keywordOf 23 = .ok ((.iload 6), 2) := by decide +kernel
theorem dX6_keywordOf_25 : decode cX6_keywordOf 25 = .ok ((.invokevirtual 87), 3) := by decide +kernel
theorem dX6_keywordOf_28 : decode cX6_keywordOf 28 = .ok ((.istore 7), 2) := by decide +kernel
theorem dX6_keywordOf_30 : decode cX6_keywordOf 30 = .ok ((.iload 7), 2) := by decide +kernel
theorem dX6_keywordOf_32 : decode cX6_keywordOf 32 = .ok ((.bipush 32), 2) := by decide +kernel
theorem dX6_keywordOf_34 : decode cX6_keywordOf 34 = .ok ((.if_icmp .eq 38), 3) := by decide +kernel
theorem dX6_keywordOf_37 : decode cX6_keywordOf 37 = .ok ((.iload 5), 2) := by decide +kernel
theorem dX6_keywordOf_39 : decode cX6_keywordOf 39 = .ok ((.ifCond .eq 24), 3) := by decide +kernel
theorem dX6_keywordOf_42 : decode cX6_keywordOf 42 = .ok ((.iload 4), 2) := by decide +kernel
theorem dX6_keywordOf_44 : decode cX6_keywordOf 44 = .ok ((.iload_n 2), 1) := by decide +kernel
theorem dX6_keywordOf_45 : decode cX6_keywordOf 45 = .ok ((.if_icmp .ge 18), 3) := by decide +kernel
theorem dX6_keywordOf_48 : decode cX6_keywordOf 48 = .ok ((.aload_n 0), 1) := by decide +kernel
theorem dX6_keywordOf_49 : decode cX6_keywordOf 49 = .ok ((.iload 4), 2) := by decide +kernel
theorem dX6_keywordOf_51 : decode cX6_keywordOf 51 = .ok ((.invokevirtual 33), 3) := by decide +kernel
theorem dX6_keywordOf_54 : decode cX6_keywordOf 54 = .ok ((.iload 7), 2) := by decide +kernel
theorem dX6_keywordOf_56 : decode cX6_keywordOf 56 = .ok ((.if_icmp .ne 7), 3) := by decide +kernel
theorem dX6_keywordOf_59 : decode cX6_keywordOf 59 = .ok ((.iconst 1), 1) := by decide +kernel
theorem dX6_keywordOf_60 : decode cX6_keywordOf 60 = .ok ((.goto 4), 3) := by decide +kernel
theorem dX6_keywordOf_63 : decode cX6_keywordOf 63 = .ok ((.iconst 0), 1) := by decide +kernel
theorem dX6_keywordOf_64 : decode cX6_keywordOf 64 = .ok ((.istore 5), 2) := by decide +kernel
theorem dX6_keywordOf_66 : decode cX6_keywordOf 66 = .ok ((.iinc 4 1), 3) := by decide +kernel
theorem dX6_keywordOf_69 : decode cX6_keywordOf 69 = .ok ((.goto 25), 3) := by decide +kernel
theorem dX6_keywordOf_72 : decode cX6_keywordOf 72 = .ok ((.iload 5), 2) := by decide +kernel
theorem dX6_keywordOf_74 : decode cX6_keywordOf 74 = .ok ((.ifCond .eq 11), 3) := by decide +kernel
theorem dX6_keywordOf_77 : decode cX6_keywordOf 77 = .ok ((.iload 4), 2) := by decide +kernel
theorem dX6_keywordOf_79 : decode cX6_keywordOf 79 = .ok ((.iload_n 2), 1) := by decide +kernel
theorem dX6_keywordOf_80 : decode cX6_keywordOf 80 = .ok ((.if_icmp .ne 5), 3) := by decide +kernel
theorem dX6_keywordOf_83 : decode cX6_keywordOf 83 = .ok ((.iload_n 3), 1) := by decide +kernel
theorem dX6_keywordOf_84 : decode cX6_keywordOf 84 = .ok (.ireturn, 1) := by decide +kernel
theorem dX6_keywordOf_85 : decode cX6_keywordOf 85 = .ok ((.iinc 3 1), 3) := by decide +kernel
theorem dX6_keywordOf_88 : decode cX6_keywordOf 88 = .ok ((.iload_n 1), 1) := by decide +kernel
theorem dX6_keywordOf_89 : decode cX6_keywordOf 89 = .ok ((.istore 4), 2) := by decide +kernel
theorem dX6_keywordOf_91 : decode cX6_keywordOf 91 = .ok ((.iconst 1), 1) := by decide +kernel
theorem dX6_keywordOf_92 : decode cX6_keywordOf 92 = .ok ((.istore 5), 2) := by decide +kernel
theorem dX6_keywordOf_94 : decode cX6_keywordOf 94 = .ok ((.iinc 6 1), 3) := by decide +kernel
theorem dX6_keywordOf_97 : decode cX6_keywordOf 97 = .ok ((.goto (-86)), 3) := by decide +kernel
theorem dX6_keywordOf_100 : decode cX6_keywordOf 100 = .ok ((.iconst (-1)), 1) := by decide +kernel
theorem dX6_keywordOf_101 : decode cX6_keywordOf 101 = .ok (.ireturn, 1) := by decide +kernel
def p_X6_keywordOf_94  (a1 : Int32) (a2 : Int32)  (K11 : vSt → Int32 → Int32 → Bool → Int32 → Prop) (post : Int32 → vSt → Prop) (S : vSt) (x3 : Int32) (x4 : Int32) (x5 : Bool) (x6 : Int32) : Prop := ∀ y21 : Int32, y21 = x6 + 1 → K11 S x3 x4 x5 y21
def p_X6_keywordOf_85  (a1 : Int32) (a2 : Int32)  (K11 : vSt → Int32 → Int32 → Bool → Int32 → Prop) (post : Int32 → vSt → Prop) (S : vSt) (x3 : Int32) (x6 : Int32) : Prop := ∀ y20 : Int32, y20 = x3 + 1 → p_X6_keywordOf_94 a1 a2 K11 post S y20 a1 true x6
def p_X6_keywordOf_64  (a1 : Int32) (a2 : Int32)  (K11 : vSt → Int32 → Int32 → Bool → Int32 → Prop) (post : Int32 → vSt → Prop) (S : vSt) (x3 : Int32) (x4 : Int32) (x6 : Int32) (s0 : Bool) : Prop := ∀ y20 : Int32, y20 = x4 + 1 → p_X6_keywordOf_94 a1 a2 K11 post S x3 y20 s0 x6
def p_X6_keywordOf_63  (a1 : Int32) (a2 : Int32)  (K11 : vSt → Int32 → Int32 → Bool → Int32 → Prop) (post : Int32 → vSt → Prop) (S : vSt) (x3 : Int32) (x4 : Int32) (x6 : Int32) : Prop := p_X6_keywordOf_64 a1 a2 K11 post S x3 x4 x6 false
def p_X6_keywordOf_11  (a1 : Int32) (a2 : Int32)   (post : Int32 → vSt → Prop) : Nat → vSt → Int32 → Int32 → Bool → Int32 → Prop
  | 0 => fun _ _ _ _ _ => False
  | fu11 + 1 => fun S x3 x4 x5 x6 => ((120 ≤ x6 → post (-1) S) ∧ (¬ 120 ≤ x6 → (vp_in x6 120 ∧ ∀ y19 : Int32, y19 = (v_kw.getD (Int32.toNatClampNeg x6) 0) → ((y19 = 32 → ((x5 = false → p_X6_keywordOf_85 a1 a2 (p_X6_keywordOf_11 a1 a2 post fu11) post S x3 x6) ∧ (x5 = true → ((¬ x4 = a2 → p_X6_keywordOf_85 a1 a2 (p_X6_keywordOf_11 a1 a2 post fu11) post S x3 x6) ∧ (x4 = a2 → post x3 S))))) ∧ (¬ y19 = 32 → ((x5 = false → p_X6_keywordOf_63 a1 a2 (p_X6_keywordOf_11 a1 a2 post fu11) post S x3 x4 x6) ∧ (x5 = true → ((a2 ≤ x4 → p_X6_keywordOf_63 a1 a2 (p_X6_keywordOf_11 a1 a2 post fu11) post S x3 x4 x6) ∧ (¬ a2 ≤ x4 → p_X6_byteAt  S x4 (fun r21 S20 => ((¬ r21 = y19 → p_X6_keywordOf_63 a1 a2 (p_X6_keywordOf_11 a1 a2 post fu11) post S20 x3 x4 x6) ∧ (r21 = y19 → p_X6_keywordOf_64 a1 a2 (p_X6_keywordOf_11 a1 a2 post fu11) post S20 x3 x4 x6 true))))))))))))
theorem e_X6_keywordOf_11  (a1 : Int32) (a2 : Int32)   (post : Int32 → vSt → Prop) (fu11 : Nat) (S : vSt) (x3 : Int32) (x4 : Int32) (x5 : Bool) (x6 : Int32) : p_X6_keywordOf_11 a1 a2 post (fu11 + 1) S x3 x4 x5 x6 = (((120 ≤ x6 → post (-1) S) ∧ (¬ 120 ≤ x6 → (vp_in x6 120 ∧ ∀ y19 : Int32, y19 = (v_kw.getD (Int32.toNatClampNeg x6) 0) → ((y19 = 32 → ((x5 = false → p_X6_keywordOf_85 a1 a2 (p_X6_keywordOf_11 a1 a2 post fu11) post S x3 x6) ∧ (x5 = true → ((¬ x4 = a2 → p_X6_keywordOf_85 a1 a2 (p_X6_keywordOf_11 a1 a2 post fu11) post S x3 x6) ∧ (x4 = a2 → post x3 S))))) ∧ (¬ y19 = 32 → ((x5 = false → p_X6_keywordOf_63 a1 a2 (p_X6_keywordOf_11 a1 a2 post fu11) post S x3 x4 x6) ∧ (x5 = true → ((a2 ≤ x4 → p_X6_keywordOf_63 a1 a2 (p_X6_keywordOf_11 a1 a2 post fu11) post S x3 x4 x6) ∧ (¬ a2 ≤ x4 → p_X6_byteAt  S x4 (fun r21 S20 => ((¬ r21 = y19 → p_X6_keywordOf_63 a1 a2 (p_X6_keywordOf_11 a1 a2 post fu11) post S20 x3 x4 x6) ∧ (r21 = y19 → p_X6_keywordOf_64 a1 a2 (p_X6_keywordOf_11 a1 a2 post fu11) post S20 x3 x4 x6 true))))))))))))) := rfl
def p_X6_keywordOf   (S : vSt) (a1 : Int32) (a2 : Int32) (post : Int32 → vSt → Prop) : Prop := ∃ fu11, p_X6_keywordOf_11 a1 a2 post fu11 S 0 a1 true 0
set_option maxHeartbeats 4000000 in
set_option maxRecDepth 100000 in
theorem q_X6_keywordOf_94 {X : vX} {G : vG}  {post : Int32 → vSt → Prop} (C : v_Cx X G cX6_keywordOf RX6 8 (v_rm 4 220)) (D : v_Rx X G (v_Qi G post) (some .int))  {a1 : Int32} {a2 : Int32}  {K11 : vSt → Int32 → Int32 → Bool → Int32 → Prop} (hK11 : ∀ S x3 x4 x5 x6, K11 S x3 x4 x5 x6 → VJ X G S 11 [(0, .ref (G.1 5)), (1, .int a1), (2, .int a2), (3, .int x3), (4, .int x4), (5, .int (v_b x5)), (6, .int x6)] []) : ∀ (S : vSt) (x3 : Int32) (x4 : Int32) (x5 : Bool) (x6 : Int32), p_X6_keywordOf_94 a1 a2 K11 post S x3 x4 x5 x6 → VJ X G S 94 [(0, .ref (G.1 5)), (1, .int a1), (2, .int a2), (3, .int x3), (4, .int x4), (5, .int (v_b x5)), (6, .int x6)] [] := by
  intro S x3 x4 x5 x6 h
  obtain ⟨y21, ey21⟩ : ∃ z : Int32, z = x6 + 1 := ⟨_, rfl⟩
  have h := h y21 ey21
  refine V_iinc (lv' := [(0, .ref (G.1 5)), (1, .int a1), (2, .int a2), (3, .int x3), (4, .int x4), (5, .int (v_b x5)), (6, .int y21)]) C 6 [1, 2, 3, 4, 5, 6, 0] y21 dX6_keywordOf_94 rfl (by rw [ey21]; rfl) (by decide) rfl ?_
  refine V_goto (tgt := 11) C dX6_keywordOf_97 (by decide) ?_
  exact hK11 _ _ _ _ _ h
set_option maxHeartbeats 4000000 in
set_option maxRecDepth 100000 in
theorem q_X6_keywordOf_85 {X : vX} {G : vG}  {post : Int32 → vSt → Prop} (C : v_Cx X G cX6_keywordOf RX6 8 (v_rm 4 220)) (D : v_Rx X G (v_Qi G post) (some .int))  {a1 : Int32} {a2 : Int32}  {K11 : vSt → Int32 → Int32 → Bool → Int32 → Prop} (hK11 : ∀ S x3 x4 x5 x6, K11 S x3 x4 x5 x6 → VJ X G S 11 [(0, .ref (G.1 5)), (1, .int a1), (2, .int a2), (3, .int x3), (4, .int x4), (5, .int (v_b x5)), (6, .int x6)] []) : ∀ (S : vSt) (x3 : Int32) (x6 : Int32), p_X6_keywordOf_85 a1 a2 K11 post S x3 x6 → VJ X G S 85 [(0, .ref (G.1 5)), (1, .int a1), (2, .int a2), (3, .int x3), (6, .int x6)] [] := by
  intro S x3 x6 h
  obtain ⟨y20, ey20⟩ : ∃ z : Int32, z = x3 + 1 := ⟨_, rfl⟩
  have h := h y20 ey20
  refine V_iinc (lv' := [(0, .ref (G.1 5)), (1, .int a1), (2, .int a2), (3, .int y20), (6, .int x6)]) C 3 [1, 2, 3, 0, 4] y20 dX6_keywordOf_85 rfl (by rw [ey20]; rfl) (by decide) rfl ?_
  refine V_iload_n C 1 dX6_keywordOf_88 rfl rfl ?_
  refine V_istore (lv' := [(0, .ref (G.1 5)), (1, .int a1), (2, .int a2), (3, .int y20), (4, .int a1), (6, .int x6)]) C [1, 2, 3, 4, 0, 5] dX6_keywordOf_89 (by decide) rfl ?_
  refine V_iconst (v := 1) C dX6_keywordOf_91 (by decide) ?_
  refine V_istore (lv' := [(0, .ref (G.1 5)), (1, .int a1), (2, .int a2), (3, .int y20), (4, .int a1), (5, .int 1), (6, .int x6)]) C [1, 2, 3, 4, 5, 0, 6] dX6_keywordOf_92 (by decide) rfl ?_
  exact q_X6_keywordOf_94 C D hK11 _ _ _ _ _ h
set_option maxHeartbeats 4000000 in
set_option maxRecDepth 100000 in
theorem q_X6_keywordOf_64 {X : vX} {G : vG}  {post : Int32 → vSt → Prop} (C : v_Cx X G cX6_keywordOf RX6 8 (v_rm 4 220)) (D : v_Rx X G (v_Qi G post) (some .int))  {a1 : Int32} {a2 : Int32}  {K11 : vSt → Int32 → Int32 → Bool → Int32 → Prop} (hK11 : ∀ S x3 x4 x5 x6, K11 S x3 x4 x5 x6 → VJ X G S 11 [(0, .ref (G.1 5)), (1, .int a1), (2, .int a2), (3, .int x3), (4, .int x4), (5, .int (v_b x5)), (6, .int x6)] []) : ∀ (S : vSt) (x3 : Int32) (x4 : Int32) (x6 : Int32) (s0 : Bool), p_X6_keywordOf_64 a1 a2 K11 post S x3 x4 x6 s0 → VJ X G S 64 [(0, .ref (G.1 5)), (1, .int a1), (2, .int a2), (3, .int x3), (4, .int x4), (6, .int x6)] [.int (v_b s0)] := by
  intro S x3 x4 x6 s0 h
  refine V_istore (lv' := [(0, .ref (G.1 5)), (1, .int a1), (2, .int a2), (3, .int x3), (4, .int x4), (5, .int (v_b s0)), (6, .int x6)]) C [1, 2, 3, 4, 5, 0, 6] dX6_keywordOf_64 (by decide) rfl ?_
  obtain ⟨y20, ey20⟩ : ∃ z : Int32, z = x4 + 1 := ⟨_, rfl⟩
  have h := h y20 ey20
  refine V_iinc (lv' := [(0, .ref (G.1 5)), (1, .int a1), (2, .int a2), (3, .int x3), (4, .int y20), (5, .int (v_b s0)), (6, .int x6)]) C 4 [1, 2, 3, 4, 0, 5, 6] y20 dX6_keywordOf_66 rfl (by rw [ey20]; rfl) (by decide) rfl ?_
  refine V_goto (tgt := 94) C dX6_keywordOf_69 (by decide) ?_
  exact q_X6_keywordOf_94 C D hK11 _ _ _ _ _ h
set_option maxHeartbeats 4000000 in
set_option maxRecDepth 100000 in
theorem q_X6_keywordOf_63 {X : vX} {G : vG}  {post : Int32 → vSt → Prop} (C : v_Cx X G cX6_keywordOf RX6 8 (v_rm 4 220)) (D : v_Rx X G (v_Qi G post) (some .int))  {a1 : Int32} {a2 : Int32}  {K11 : vSt → Int32 → Int32 → Bool → Int32 → Prop} (hK11 : ∀ S x3 x4 x5 x6, K11 S x3 x4 x5 x6 → VJ X G S 11 [(0, .ref (G.1 5)), (1, .int a1), (2, .int a2), (3, .int x3), (4, .int x4), (5, .int (v_b x5)), (6, .int x6)] []) : ∀ (S : vSt) (x3 : Int32) (x4 : Int32) (x6 : Int32), p_X6_keywordOf_63 a1 a2 K11 post S x3 x4 x6 → VJ X G S 63 [(0, .ref (G.1 5)), (1, .int a1), (2, .int a2), (3, .int x3), (4, .int x4), (6, .int x6)] [] := by
  intro S x3 x4 x6 h
  refine V_iconst (v := 0) C dX6_keywordOf_63 (by decide) ?_
  exact q_X6_keywordOf_64 C D hK11 _ _ _ _ _ h
set_option maxHeartbeats 4000000 in
set_option maxRecDepth 100000 in
theorem q_X6_keywordOf_11 {X : vX} {G : vG}  {post : Int32 → vSt → Prop} (C : v_Cx X G cX6_keywordOf RX6 8 (v_rm 4 220)) (D : v_Rx X G (v_Qi G post) (some .int))  {a1 : Int32} {a2 : Int32}   : ∀ (fu : Nat) (S : vSt) (x3 : Int32) (x4 : Int32) (x5 : Bool) (x6 : Int32), p_X6_keywordOf_11 a1 a2 post fu S x3 x4 x5 x6 → VJ X G S 11 [(0, .ref (G.1 5)), (1, .int a1), (2, .int a2), (3, .int x3), (4, .int x4), (5, .int (v_b x5)), (6, .int x6)] [] := by
  intro fu
  induction fu with
  | zero => intro S x3 x4 x5 x6 h; exact absurd h id
  | succ fu ih =>
    intro S x3 x4 x5 x6 h
    have hK11 := ih
    rw [e_X6_keywordOf_11] at h
    refine V_iload C 6 dX6_keywordOf_11 rfl ?_
    refine V_kldc C (tx := "") rfl rfl dX6_keywordOf_13 ?_
    refine V_callKi (As := []) (rest := [.int x6]) C (c_strlen (v_l X) G (fun r S1 => r = 120 ∧ S = S1) ⟨rfl, rfl⟩) KV_J0_length_8abf5 k_RX6_82 rfl rfl rfl (Nat.le_of_ble_eq_true rfl) ⟨Nat.le_of_ble_eq_true rfl, Nat.le_of_ble_eq_true rfl⟩ dX6_keywordOf_15 (fun r S1 h0 => ?_)
    obtain ⟨rfl, rfl⟩ := h0
    refine V_icmp_ge (tgt := 100) C dX6_keywordOf_18 (by decide) (fun c => ?_) (fun c => ?_)
    · have h := h.1 c
      refine V_iconst (v := (-1)) C dX6_keywordOf_100 (by decide) ?_
      exact V_iret C D dX6_keywordOf_101 h
    · have h := h.2 c
      refine V_kldc C (tx := "") rfl rfl dX6_keywordOf_21 ?_
      refine V_iload C 6 dX6_keywordOf_23 rfl ?_
      obtain ⟨hi, h⟩ := h
      refine V_callKi (As := [.int x6]) (rest := []) C (c_charAt (v_l X) G hi (fun r S1 => r = (v_kw.getD (Int32.toNatClampNeg x6) 0) ∧ S = S1) ⟨rfl, rfl⟩) KV_J0_charAt_5068e k_RX6_87 rfl rfl rfl (Nat.le_of_ble_eq_true rfl) ⟨Nat.le_of_ble_eq_true rfl, Nat.le_of_ble_eq_true rfl⟩ dX6_keywordOf_25 (fun r S1 h0 => ?_)
      obtain ⟨rfl, rfl⟩ := h0
      refine V_topi (fun y19 ey19 => ?_)
      have h := h y19 ey19
      refine V_istore (lv' := [(0, .ref (G.1 5)), (1, .int a1), (2, .int a2), (3, .int x3), (4, .int x4), (5, .int (v_b x5)), (6, .int x6), (7, .int y19)]) C [1, 2, 3, 4, 5, 6, 7, 0] dX6_keywordOf_28 (by decide) rfl ?_
      refine V_iload C 7 dX6_keywordOf_30 rfl ?_
      refine V_bipush (v := 32) C dX6_keywordOf_32 (by decide) ?_
      refine V_icmp_eq (tgt := 72) C dX6_keywordOf_34 (by decide) (fun c => ?_) (fun c => ?_)
      · have h := h.1 c
        refine V_iload C 5 dX6_keywordOf_72 rfl ?_
        refine V_ifb_eq (tgt := 85) C dX6_keywordOf_74 (by decide) (fun c => ?_) (fun c => ?_)
        · have h := h.1 c
          refine V_loc (lv' := [(0, .ref (G.1 5)), (1, .int a1), (2, .int a2), (3, .int x3), (6, .int x6)]) [0, 1, 2, 3, 6] rfl ?_
          exact q_X6_keywordOf_85 C D hK11 _ _ _ h
        · have h := h.2 c
          refine V_iload C 4 dX6_keywordOf_77 rfl ?_
          refine V_iload_n C 2 dX6_keywordOf_79 rfl rfl ?_
          refine V_icmp_ne (tgt := 85) C dX6_keywordOf_80 (by decide) (fun c => ?_) (fun c => ?_)
          · have h := h.1 c
            refine V_loc (lv' := [(0, .ref (G.1 5)), (1, .int a1), (2, .int a2), (3, .int x3), (6, .int x6)]) [0, 1, 2, 3, 6] rfl ?_
            exact q_X6_keywordOf_85 C D hK11 _ _ _ h
          · have h := h.2 c
            refine V_iload_n C 3 dX6_keywordOf_83 rfl rfl ?_
            exact V_iret C D dX6_keywordOf_84 h
      · have h := h.2 c
        refine V_iload C 5 dX6_keywordOf_37 rfl ?_
        refine V_ifb_eq (tgt := 63) C dX6_keywordOf_39 (by decide) (fun c => ?_) (fun c => ?_)
        · have h := h.1 c
          refine V_loc (lv' := [(0, .ref (G.1 5)), (1, .int a1), (2, .int a2), (3, .int x3), (4, .int x4), (6, .int x6)]) [0, 1, 2, 3, 4, 6] rfl ?_
          exact q_X6_keywordOf_63 C D hK11 _ _ _ _ h
        · have h := h.2 c
          refine V_iload C 4 dX6_keywordOf_42 rfl ?_
          refine V_iload_n C 2 dX6_keywordOf_44 rfl rfl ?_
          refine V_icmp_ge (tgt := 63) C dX6_keywordOf_45 (by decide) (fun c => ?_) (fun c => ?_)
          · have h := h.1 c
            refine V_loc (lv' := [(0, .ref (G.1 5)), (1, .int a1), (2, .int a2), (3, .int x3), (4, .int x4), (6, .int x6)]) [0, 1, 2, 3, 4, 6] rfl ?_
            exact q_X6_keywordOf_63 C D hK11 _ _ _ _ h
          · have h := h.2 c
            refine V_aload_n C 0 dX6_keywordOf_48 rfl rfl ?_
            refine V_iload C 4 dX6_keywordOf_49 rfl ?_
            refine V_callVi (As := [.int x4]) (rest := []) C (c_X6_byteAt (v_l X) G  _ _ h) 5 6 (by decide) (by decide) (by decide) rfl KV_X6_byteAt k_RX6_33 rfl rfl rfl (Nat.le_of_ble_eq_true rfl) ⟨Nat.le_of_ble_eq_true rfl, Nat.le_of_ble_eq_true rfl⟩ dX6_keywordOf_51 (fun r21 S20 h => ?_)
            refine V_iload C 7 dX6_keywordOf_54 rfl ?_
            refine V_icmp_ne (tgt := 63) C dX6_keywordOf_56 (by decide) (fun c => ?_) (fun c => ?_)
            · have h := h.1 c
              refine V_loc (lv' := [(0, .ref (G.1 5)), (1, .int a1), (2, .int a2), (3, .int x3), (4, .int x4), (6, .int x6)]) [0, 1, 2, 3, 4, 6] rfl ?_
              exact q_X6_keywordOf_63 C D hK11 _ _ _ _ h
            · have h := h.2 c
              refine V_iconst (v := 1) C dX6_keywordOf_59 (by decide) ?_
              refine V_goto (tgt := 64) C dX6_keywordOf_60 (by decide) ?_
              refine V_loc (lv' := [(0, .ref (G.1 5)), (1, .int a1), (2, .int a2), (3, .int x3), (4, .int x4), (6, .int x6)]) [0, 1, 2, 3, 4, 6] rfl ?_
              exact q_X6_keywordOf_64 C D hK11 _ _ _ _ _ h
set_option maxHeartbeats 4000000 in
set_option maxRecDepth 100000 in
theorem c_X6_keywordOf (l : Launch) (G : vG)    {S : vSt} (a1 : Int32) (a2 : Int32) (post : Int32 → vSt → Prop) (h : p_X6_keywordOf   S a1 a2 post) : Met l yX6_keywordOf (v_ws yX6_keywordOf cX6_keywordOf 8 (some .int)) (v_rm 4 220) (v_Pc G [.ref (G.1 5), .int a1, .int a2] S) (v_Qi G post) 0 0 (v_A G) := by
  refine v_start (by decide +kernel) (Nat.le_of_ble_eq_true rfl) (fun X hl C D => ?_)
  subst hl
  have C : v_Cx X G cX6_keywordOf RX6 8 (v_rm 4 220) := C
  show VJ X G S 0 [(0, .ref (G.1 5)), (1, .int a1), (2, .int a2)] []
  refine V_iconst (v := 0) C dX6_keywordOf_0 (by decide) ?_
  refine V_istore_n (lv' := [(0, .ref (G.1 5)), (1, .int a1), (2, .int a2), (3, .int 0)]) C [1, 2, 3, 0] dX6_keywordOf_1 rfl (by decide) rfl ?_
  refine V_iload_n C 1 dX6_keywordOf_2 rfl rfl ?_
  refine V_istore (lv' := [(0, .ref (G.1 5)), (1, .int a1), (2, .int a2), (3, .int 0), (4, .int a1)]) C [1, 2, 3, 4, 0] dX6_keywordOf_3 (by decide) rfl ?_
  refine V_iconst (v := 1) C dX6_keywordOf_5 (by decide) ?_
  refine V_istore (lv' := [(0, .ref (G.1 5)), (1, .int a1), (2, .int a2), (3, .int 0), (4, .int a1), (5, .int 1)]) C [1, 2, 3, 4, 5, 0] dX6_keywordOf_6 (by decide) rfl ?_
  refine V_iconst (v := 0) C dX6_keywordOf_8 (by decide) ?_
  refine V_istore (lv' := [(0, .ref (G.1 5)), (1, .int a1), (2, .int a2), (3, .int 0), (4, .int a1), (5, .int 1), (6, .int 0)]) C [1, 2, 3, 4, 5, 6, 0] dX6_keywordOf_9 (by decide) rfl ?_
  obtain ⟨fu11, h⟩ := h
  exact q_X6_keywordOf_11 C D  fu11 _ _ _ _ _ h
/-! HalfAccuser$Tape.addWord(II)V -/
theorem dX6_addWord_0 : decode cX6_addWord 0 = .ok ((.aload_n 0), 1) := by decide +kernel
theorem dX6_addWord_1 : decode cX6_addWord 1 = .ok ((.iload_n 1), 1) := by decide +kernel
theorem dX6_addWord_2 : decode cX6_addWord 2 = .ok ((.iload_n 2), 1) := by decide +kernel
theorem dX6_addWord_3 : decode cX6_addWord 3 = .ok ((.invokevirtual 72), 3) := by decide +kernel
theorem dX6_addWord_6 : decode cX6_addWord 6 = .ok ((.istore_n 3), 1) := by decide +kernel
theorem dX6_addWord_7 : decode cX6_addWord 7 = .ok ((.iload_n 3), 1) := by decide +kernel
theorem dX6_addWord_8 : decode cX6_addWord 8 = .ok ((.iconst (-1)), 1) := by decide +kernel
theorem dX6_addWord_9 : decode cX6_addWord 9 = .ok ((.if_icmp .eq 14), 3) := by decide +kernel
theorem dX6_addWord_12 : decode cX6_addWord 12 = .ok ((.aload_n 0), 1) := by decide +kernel
theorem dX6_addWord_13 : decode cX6_addWord 13 = .ok ((.iconst 2), 1) := by decide +kernel
theorem dX6_addWord_14 : decode cX6_addWord 14 = .ok ((.iload_n 1), 1) := by decide +kernel
theorem dX6_addWord_15 : decode cX6_addWord 15 = .ok ((.iload_n 3), 1) := by decide +kernel
theorem dX6_addWord_16 : decode cX6_addWord 16 = .ok (.i2l, 1) := by decide +kernel
theorem dX6_addWord_17 : decode cX6_addWord 17 = .ok ((.invokevirtual 55), 3) := by decide +kernel
theorem dX6_addWord_20 : decode cX6_addWord 20 = .ok ((.goto 33), 3) := by decide +kernel
theorem dX6_addWord_23 : decode cX6_addWord 23 = .ok ((.iload_n 2), 1) := by decide +kernel
theorem dX6_addWord_24 : decode cX6_addWord 24 = .ok ((.iload_n 1), 1) := by decide +kernel
theorem dX6_addWord_25 : decode cX6_addWord 25 = .ok (.isub, 1) := by decide +kernel
theorem dX6_addWord_26 : decode cX6_addWord 26 = .ok ((.bipush 8), 2) := by decide +kernel
theorem dX6_addWord_28 : decode cX6_addWord 28 = .ok ((.if_icmp .le 13), 3) := by decide +kernel
theorem dX6_addWord_31 : decode cX6_addWord 31 = .ok ((.aload_n 0), 1) := by decide +kernel
theorem dX6_addWord_32 : decode cX6_addWord 32 = .ok ((.iconst 4), 1) := by decide +kernel
theorem dX6_addWord_33 : decode cX6_addWord 33 = .ok ((.iload_n 1), 1) := by decide +kernel
theorem dX6_addWord_34 : decode cX6_addWord 34 = .ok ((.lconst 0), 1) := by decide +kernel
theorem dX6_addWord_35 : decode cX6_addWord 35 = .ok ((.invokevirtual 55), 3) := by decide +kernel
theorem dX6_addWord_38 : decode cX6_addWord 38 = .ok ((.goto 15), 3) := by decide +kernel
theorem dX6_addWord_41 : decode cX6_addWord 41 = .ok ((.aload_n 0), 1) := by decide +kernel
theorem dX6_addWord_42 : decode cX6_addWord 42 = .ok ((.iconst 3), 1) := by decide +kernel
theorem dX6_addWord_43 : decode cX6_addWord 43 = .ok ((.iload_n 1), 1) := by decide +kernel
theorem dX6_addWord_44 : decode cX6_addWord 44 = .ok ((.aload_n 0), 1) := by decide +kernel
theorem dX6_addWord_45 : decode cX6_addWord 45 = .ok ((.iload_n 1), 1) := by decide +kernel
theorem dX6_addWord_46 : decode cX6_addWord 46 = .ok ((.iload_n 2), 1) := by decide +kernel
theorem dX6_addWord_47 : decode cX6_addWord 47 = .ok ((.invokevirtual 76), 3) := by decide +kernel
theorem dX6_addWord_50 : decode cX6_addWord 50 = .ok ((.invokevirtual 55), 3) := by decide +kernel
theorem dX6_addWord_53 : decode cX6_addWord 53 = .ok (.return_, 1) := by decide +kernel
def p_X6_addWord   (S : vSt) (a1 : Int32) (a2 : Int32) (post : vSt → Prop) : Prop := p_X6_keywordOf  S a1 a2 (fun r9 S8 => ((r9 = (-1) → (((a2 - a1) ≤ 8 → p_X6_nameOf  S8 a1 a2 (fun r11 S10 => p_X6_addToken  S10 3 a1 r11 (fun S12 => post S12))) ∧ (¬ (a2 - a1) ≤ 8 → p_X6_addToken  S8 4 a1 0 (fun S13 => post S13)))) ∧ (¬ r9 = (-1) → p_X6_addToken  S8 2 a1 (Int32.toInt64 r9) (fun S14 => post S14))))
set_option maxHeartbeats 4000000 in
set_option maxRecDepth 100000 in
theorem c_X6_addWord (l : Launch) (G : vG)    {S : vSt} (a1 : Int32) (a2 : Int32) (post : vSt → Prop) (h : p_X6_addWord   S a1 a2 post) : Met l yX6_addWord (v_ws yX6_addWord cX6_addWord 4 none) (v_rm 5 247) (v_Pc G [.ref (G.1 5), .int a1, .int a2] S) (v_Qv G post) 0 0 (v_A G) := by
  refine v_start (by decide +kernel) (Nat.le_of_ble_eq_true rfl) (fun X hl C D => ?_)
  subst hl
  have C : v_Cx X G cX6_addWord RX6 4 (v_rm 5 247) := C
  show VJ X G S 0 [(0, .ref (G.1 5)), (1, .int a1), (2, .int a2)] []
  refine V_aload_n C 0 dX6_addWord_0 rfl rfl ?_
  refine V_iload_n C 1 dX6_addWord_1 rfl rfl ?_
  refine V_iload_n C 2 dX6_addWord_2 rfl rfl ?_
  refine V_callVi (As := [.int a1, .int a2]) (rest := []) C (c_X6_keywordOf (v_l X) G  _ _ _ h) 5 6 (by decide) (by decide) (by decide) rfl KV_X6_keywordOf k_RX6_72 rfl rfl rfl (Nat.le_of_ble_eq_true rfl) ⟨Nat.le_of_ble_eq_true rfl, Nat.le_of_ble_eq_true rfl⟩ dX6_addWord_3 (fun r9 S8 h => ?_)
  refine V_istore_n (lv' := [(0, .ref (G.1 5)), (1, .int a1), (2, .int a2), (3, .int r9)]) C [1, 2, 3, 0] dX6_addWord_6 rfl (by decide) rfl ?_
  refine V_iload_n C 3 dX6_addWord_7 rfl rfl ?_
  refine V_iconst (v := (-1)) C dX6_addWord_8 (by decide) ?_
  refine V_icmp_eq (tgt := 23) C dX6_addWord_9 (by decide) (fun c => ?_) (fun c => ?_)
  · have h := h.1 c
    refine V_iload_n C 2 dX6_addWord_23 rfl rfl ?_
    refine V_iload_n C 1 dX6_addWord_24 rfl rfl ?_
    refine V_isub C dX6_addWord_25 ?_
    refine V_bipush (v := 8) C dX6_addWord_26 (by decide) ?_
    refine V_icmp_le (tgt := 41) C dX6_addWord_28 (by decide) (fun c => ?_) (fun c => ?_)
    · have h := h.1 c
      refine V_aload_n C 0 dX6_addWord_41 rfl rfl ?_
      refine V_iconst (v := 3) C dX6_addWord_42 (by decide) ?_
      refine V_iload_n C 1 dX6_addWord_43 rfl rfl ?_
      refine V_aload_n C 0 dX6_addWord_44 rfl rfl ?_
      refine V_iload_n C 1 dX6_addWord_45 rfl rfl ?_
      refine V_iload_n C 2 dX6_addWord_46 rfl rfl ?_
      refine V_callVl (As := [.int a1, .int a2]) (rest := [.int a1, .int 3, .ref (G.1 5)]) C (c_X6_nameOf (v_l X) G  _ _ _ h) 5 6 (by decide) (by decide) (by decide) rfl KV_X6_nameOf k_RX6_76 rfl rfl rfl (Nat.le_of_ble_eq_true rfl) ⟨Nat.le_of_ble_eq_true rfl, Nat.le_of_ble_eq_true rfl⟩ dX6_addWord_47 (fun r11 S10 h => ?_)
      refine V_callVv (As := [.int 3, .int a1, .long r11]) (rest := []) C (c_X6_addToken (v_l X) G  _ _ _ _ h) 5 6 (by decide) (by decide) (by decide) rfl KV_X6_addToken k_RX6_55 rfl rfl rfl (Nat.le_of_ble_eq_true rfl) ⟨Nat.le_of_ble_eq_true rfl, Nat.le_of_ble_eq_true rfl⟩ dX6_addWord_50 (fun S12 h => ?_)
      exact V_vret C D dX6_addWord_53 h
    · have h := h.2 c
      refine V_aload_n C 0 dX6_addWord_31 rfl rfl ?_
      refine V_iconst (v := 4) C dX6_addWord_32 (by decide) ?_
      refine V_iload_n C 1 dX6_addWord_33 rfl rfl ?_
      refine V_lconst (v := 0) C dX6_addWord_34 (by decide) ?_
      refine V_callVv (As := [.int 4, .int a1, .long 0]) (rest := []) C (c_X6_addToken (v_l X) G  _ _ _ _ h) 5 6 (by decide) (by decide) (by decide) rfl KV_X6_addToken k_RX6_55 rfl rfl rfl (Nat.le_of_ble_eq_true rfl) ⟨Nat.le_of_ble_eq_true rfl, Nat.le_of_ble_eq_true rfl⟩ dX6_addWord_35 (fun S13 h => ?_)
      refine V_goto (tgt := 53) C dX6_addWord_38 (by decide) ?_
      exact V_vret C D dX6_addWord_53 h
  · have h := h.2 c
    refine V_aload_n C 0 dX6_addWord_12 rfl rfl ?_
    refine V_iconst (v := 2) C dX6_addWord_13 (by decide) ?_
    refine V_iload_n C 1 dX6_addWord_14 rfl rfl ?_
    refine V_iload_n C 3 dX6_addWord_15 rfl rfl ?_
    refine V_i2l C dX6_addWord_16 ?_
    refine V_callVv (As := [.int 2, .int a1, .long (Int32.toInt64 r9)]) (rest := []) C (c_X6_addToken (v_l X) G  _ _ _ _ h) 5 6 (by decide) (by decide) (by decide) rfl KV_X6_addToken k_RX6_55 rfl rfl rfl (Nat.le_of_ble_eq_true rfl) ⟨Nat.le_of_ble_eq_true rfl, Nat.le_of_ble_eq_true rfl⟩ dX6_addWord_17 (fun S14 h => ?_)
    refine V_goto (tgt := 53) C dX6_addWord_20 (by decide) ?_
    exact V_vret C D dX6_addWord_53 h
/-! HalfAccuser$Tape.split(I)V -/
theorem dX6_split_0 : decode cX6_split 0 = .ok ((.aload_n 0), 1) := by decide +kernel
theorem dX6_split_1 : decode cX6_split 1 = .ok ((.iconst 0), 1) := by decide +kernel
theorem dX6_split_2 : decode cX6_split 2 = .ok ((.putfield 30), 3) := by decide +kernel
theorem dX6_split_5 : decode cX6_split 5 = .ok ((.iconst 0), 1) := by decide +kernel
theorem dX6_split_6 : decode cX6_split 6 = .ok ((.istore_n 2), 1) := by decide +kernel
theorem dX6_split_7 : decode cX6_split 7 = .ok ((.iconst 0), 1) := by decide +kernel
theorem dX6_split_8 : decode cX6_split 8 = .ok ((.istore_n 3), 1) := by decide +kernel
theorem dX6_split_9 : decode cX6_split 9 = .ok ((.iload_n 3), 1) := by decide +kernel
theorem dX6_split_10 : decode cX6_split 10 = .ok ((.iload_n 1), 1) := by decide +kernel
theorem dX6_split_11 : decode cX6_split 11 = .ok ((.if_icmp .gt 145), 3) := by decide +kernel
theorem dX6_split_14 : decode cX6_split 14 = .ok ((.iload_n 2), 1) := by decide +kernel
theorem dX6_split_15 : decode cX6_split 15 = .ok ((.iload_n 1), 1) := by decide +kernel
theorem dX6_split_16 : decode cX6_split 16 = .ok ((.if_icmp .ge 140), 3) := by decide +kernel
theorem dX6_split_19 : decode cX6_split 19 = .ok ((.aload_n 0), 1) := by decide +kernel
theorem dX6_split_20 : decode cX6_split 20 = .ok ((.iload_n 2), 1) := by decide +kernel
theorem dX6_split_21 : decode cX6_split 21 = .ok ((.invokevirtual 33), 3) := by decide +kernel
theorem dX6_split_24 : decode cX6_split 24 = .ok ((.istore 4), 2) := by decide +kernel
theorem dX6_split_26 : decode cX6_split 26 = .ok ((.iload_n 2), 1) := by decide +kernel
theorem dX6_split_27 : decode cX6_split 27 = .ok ((.iconst 1), 1) := by decide +kernel
theorem dX6_split_28 : decode cX6_split 28 = .ok (.iadd, 1) := by decide +kernel
theorem dX6_split_29 : decode cX6_split 29 = .ok ((.istore 5), 2) := by decide +kernel
theorem dX6_split_31 : decode cX6_split 31 = .ok ((.iload 4), 2) := by decide +kernel
theorem dX6_split_33 : decode cX6_split 33 = .ok ((.invokestatic 37), 3) := by decide +kernel
theorem dX6_split_36 : decode cX6_split 36 = .ok ((.ifCond .eq 22), 3) := by decide +kernel
theorem dX6_split_39 : decode cX6_split 39 = .ok ((.aload_n 0), 1) := by decide +kernel
theorem dX6_split_40 : decode cX6_split 40 = .ok ((.iload_n 2), 1) := by decide +kernel
theorem dX6_split_41 : decode cX6_split 41 = .ok ((.iload_n 1), 1) := by decide +kernel
theorem dX6_split_42 : decode cX6_split 42 = .ok ((.iconst 1), 1) := by decide +kernel
theorem dX6_split_43 : decode cX6_split 43 = .ok ((.invokevirtual 41), 3) := by decide +kernel
theorem dX6_split_46 : decode cX6_split 46 = .ok ((.istore 5), 2) := by decide +kernel
theorem dX6_split_48 : decode cX6_split 48 = .ok ((.aload_n 0), 1) := by decide +kernel
theorem dX6_split_49 : decode cX6_split 49 = .ok ((.iload_n 2), 1) := by decide +kernel
theorem dX6_split_50 : decode cX6_split 50 = .ok ((.iload 5), 2) := by decide +kernel
theorem dX6_split_52 : decode cX6_split 52 = .ok ((.invokevirtual 45), 3) := by decide +kernel
theorem dX6_split_55 : decode cX6_split 55 = .ok ((.goto 92), 3) := by decide +kernel
theorem dX6_split_58 : decode cX6_split 58 = .ok ((.iload 4), 2) := by decide +kernel
theorem dX6_split_60 : decode cX6_split 60 = .ok ((.invokestatic 49), 3) := by decide +kernel
theorem dX6_split_63 : decode cX6_split 63 = .ok ((.ifCond .eq 22), 3) := by decide +kernel
theorem dX6_split_66 : decode cX6_split 66 = .ok ((.aload_n 0), 1) := by decide +kernel
theorem dX6_split_67 : decode cX6_split 67 = .ok ((.iload_n 2), 1) := by decide +kernel
theorem dX6_split_68 : decode cX6_split 68 = .ok ((.iload_n 1), 1) := by decide +kernel
theorem dX6_split_69 : decode cX6_split 69 = .ok ((.iconst 0), 1) := by decide +kernel
theorem dX6_split_70 : decode cX6_split 70 = .ok ((.invokevirtual 41), 3) := by decide +kernel
theorem dX6_split_73 : decode cX6_split 73 = .ok ((.istore 5), 2) := by decide +kernel
theorem dX6_split_75 : decode cX6_split 75 = .ok ((.aload_n 0), 1) := by decide +kernel
theorem dX6_split_76 : decode cX6_split 76 = .ok ((.iload_n 2), 1) := by decide +kernel
theorem dX6_split_77 : decode cX6_split 77 = .ok ((.iload 5), 2) := by decide +kernel
theorem dX6_split_79 : decode cX6_split 79 = .ok ((.invokevirtual 52), 3) := by decide +kernel
theorem dX6_split_82 : decode cX6_split 82 = .ok ((.goto 65), 3) := by decide +kernel
theorem dX6_split_85 : decode cX6_split 85 = .ok ((.iload 4), 2) := by decide +kernel
theorem dX6_split_87 : decode cX6_split 87 = .ok ((.bipush 59), 2) := by decide +kernel
theorem dX6_split_89 : decode cX6_split 89 = .ok ((.if_icmp .eq 24), 3) := by decide +kernel
theorem dX6_split_92 : decode cX6_split 92 = .ok ((.iload 4), 2) := by decide +kernel
theorem dX6_split_94 : decode cX6_split 94 = .ok ((.bipush 60), 2) := by decide +kernel
theorem dX6_split_96 : decode cX6_split 96 = .ok ((.if_icmp .eq 17), 3) := by decide +kernel
theorem dX6_split_99 : decode cX6_split 99 = .ok ((.iload 4), 2) := by decide +kernel
theorem dX6_split_101 : decode cX6_split 101 = .ok ((.bipush 62), 2) := by decide +kernel
theorem dX6_split_103 : decode cX6_split 103 = .ok ((.if_icmp .eq 10), 3) := by decide +kernel
theorem dX6_split_106 : decode cX6_split 106 = .ok ((.iload 4), 2) := by decide +kernel
theorem dX6_split_108 : decode cX6_split 108 = .ok ((.bipush 61), 2) := by decide +kernel
theorem dX6_split_110 : decode cX6_split 110 = .ok ((.if_icmp .ne 16), 3) := by decide +kernel
theorem dX6_split_113 : decode cX6_split 113 = .ok ((.aload_n 0), 1) := by decide +kernel
theorem dX6_split_114 : decode cX6_split 114 = .ok ((.bipush 6), 2) := by decide +kernel
theorem dX6_split_116 : decode cX6_split 116 = .ok ((.iload_n 2), 1) := by decide +kernel
theorem dX6_split_117 : decode cX6_split 117 = .ok ((.iload 4), 2) := by decide +kernel
theorem dX6_split_119 : decode cX6_split 119 = .ok (.i2l, 1) := by decide +kernel
theorem dX6_split_120 : decode cX6_split 120 = .ok ((.invokevirtual 55), 3) := by decide +kernel
theorem dX6_split_123 : decode cX6_split 123 = .ok ((.goto 24), 3) := by decide +kernel
theorem dX6_split_126 : decode cX6_split 126 = .ok ((.iload 4), 2) := by decide +kernel
theorem dX6_split_128 : decode cX6_split 128 = .ok ((.bipush 10), 2) := by decide +kernel
theorem dX6_split_130 : decode cX6_split 130 = .ok ((.if_icmp .eq 17), 3) := by decide +kernel
theorem dX6_split_133 : decode cX6_split 133 = .ok ((.iload 4), 2) := by decide +kernel
theorem dX6_split_135 : decode cX6_split 135 = .ok ((.bipush 32), 2) := by decide +kernel
theorem dX6_split_137 : decode cX6_split 137 = .ok ((.if_icmp .eq 10), 3) := by decide +kernel
theorem dX6_split_140 : decode cX6_split 140 = .ok ((.aload_n 0), 1) := by decide +kernel
theorem dX6_split_141 : decode cX6_split 141 = .ok ((.iconst 1), 1) := by decide +kernel
theorem dX6_split_142 : decode cX6_split 142 = .ok ((.iload_n 2), 1) := by decide +kernel
theorem dX6_split_143 : decode cX6_split 143 = .ok ((.lconst 0), 1) := by decide +kernel
theorem dX6_split_144 : decode cX6_split 144 = .ok ((.invokevirtual 55), 3) := by decide +kernel
theorem dX6_split_147 : decode cX6_split 147 = .ok ((.iload 5), 2) := by decide +kernel
theorem dX6_split_149 : decode cX6_split 149 = .ok ((.istore_n 2), 1) := by decide +kernel
theorem dX6_split_150 : decode cX6_split 150 = .ok ((.iinc 3 1), 3) := by decide +kernel
theorem dX6_split_153 : decode cX6_split 153 = .ok ((.goto (-144)), 3) := by decide +kernel
theorem dX6_split_156 : decode cX6_split 156 = .ok ((.aload_n 0), 1) := by decide +kernel
theorem dX6_split_157 : decode cX6_split 157 = .ok ((.iconst 0), 1) := by decide +kernel
theorem dX6_split_158 : decode cX6_split 158 = .ok ((.iload_n 1), 1) := by decide +kernel
theorem dX6_split_159 : decode cX6_split 159 = .ok ((.lconst 0), 1) := by decide +kernel
theorem dX6_split_160 : decode cX6_split 160 = .ok ((.invokevirtual 55), 3) := by decide +kernel
theorem dX6_split_163 : decode cX6_split 163 = .ok ((.aload_n 0), 1) := by decide +kernel
theorem dX6_split_164 : decode cX6_split 164 = .ok ((.iconst (-1)), 1) := by decide +kernel
theorem dX6_split_165 : decode cX6_split 165 = .ok ((.putfield 59), 3) := by decide +kernel
theorem dX6_split_168 : decode cX6_split 168 = .ok ((.aload_n 0), 1) := by decide +kernel
theorem dX6_split_169 : decode cX6_split 169 = .ok ((.invokevirtual 62), 3) := by decide +kernel
theorem dX6_split_172 : decode cX6_split 172 = .ok (.return_, 1) := by decide +kernel
def p_X6_split_156  (a1 : Int32)   (post : vSt → Prop) (S : vSt)  : Prop := p_X6_addToken  S 0 a1 0 (fun S38 => ∀ S39, S39 = v_si S38 5 6 (-1) → p_X6_pass  S39  (fun S40 => post S40))
def p_X6_split_147  (a1 : Int32)  (K9 : vSt → Int32 → Int32 → Prop) (post : vSt → Prop) (S : vSt) (x3 : Int32) (x5 : Int32) : Prop := ∀ y46 : Int32, y46 = x3 + 1 → K9 S x5 y46
def p_X6_split_113  (a1 : Int32)  (K9 : vSt → Int32 → Int32 → Prop) (post : vSt → Prop) (S : vSt) (x2 : Int32) (x3 : Int32) (x4 : Int32) (x5 : Int32) : Prop := p_X6_addToken  S 6 x2 (Int32.toInt64 x4) (fun S45 => p_X6_split_147 a1 K9 post S45 x3 x5)
def p_X6_split_9  (a1 : Int32)   (post : vSt → Prop) : Nat → vSt → Int32 → Int32 → Prop
  | 0 => fun _ _ _ => False
  | fu9 + 1 => fun S x2 x3 => ((a1 < x3 → p_X6_split_156 a1 post S ) ∧ (¬ a1 < x3 → ((a1 ≤ x2 → p_X6_split_156 a1 post S ) ∧ (¬ a1 ≤ x2 → p_X6_byteAt  S x2 (fun r39 S38 => ∀ y40 : Int32, y40 = (x2 + 1) → p_X6_isLetter  S38 r39 (fun r42 S41 => ((r42 = false → p_X6_isDigit  S41 r39 (fun r44 S43 => ((r44 = false → ((r39 = 59 → p_X6_split_113 a1 (p_X6_split_9 a1 post fu9) post S43 x2 x3 r39 y40) ∧ (¬ r39 = 59 → ((r39 = 60 → p_X6_split_113 a1 (p_X6_split_9 a1 post fu9) post S43 x2 x3 r39 y40) ∧ (¬ r39 = 60 → ((r39 = 62 → p_X6_split_113 a1 (p_X6_split_9 a1 post fu9) post S43 x2 x3 r39 y40) ∧ (¬ r39 = 62 → ((¬ r39 = 61 → ((r39 = 10 → p_X6_split_147 a1 (p_X6_split_9 a1 post fu9) post S43 x3 y40) ∧ (¬ r39 = 10 → ((r39 = 32 → p_X6_split_147 a1 (p_X6_split_9 a1 post fu9) post S43 x3 y40) ∧ (¬ r39 = 32 → p_X6_addToken  S43 1 x2 0 (fun S45 => p_X6_split_147 a1 (p_X6_split_9 a1 post fu9) post S45 x3 y40)))))) ∧ (r39 = 61 → p_X6_split_113 a1 (p_X6_split_9 a1 post fu9) post S43 x2 x3 r39 y40))))))))) ∧ (r44 = true → p_X6_runEnd  S43 x2 a1 false (fun r47 S46 => p_X6_addNumber  S46 x2 r47 (fun S48 => p_X6_split_147 a1 (p_X6_split_9 a1 post fu9) post S48 x3 r47)))))) ∧ (r42 = true → p_X6_runEnd  S41 x2 a1 true (fun r50 S49 => p_X6_addWord  S49 x2 r50 (fun S51 => p_X6_split_147 a1 (p_X6_split_9 a1 post fu9) post S51 x3 r50))))))))))
theorem e_X6_split_9  (a1 : Int32)   (post : vSt → Prop) (fu9 : Nat) (S : vSt) (x2 : Int32) (x3 : Int32) : p_X6_split_9 a1 post (fu9 + 1) S x2 x3 = (((a1 < x3 → p_X6_split_156 a1 post S ) ∧ (¬ a1 < x3 → ((a1 ≤ x2 → p_X6_split_156 a1 post S ) ∧ (¬ a1 ≤ x2 → p_X6_byteAt  S x2 (fun r39 S38 => ∀ y40 : Int32, y40 = (x2 + 1) → p_X6_isLetter  S38 r39 (fun r42 S41 => ((r42 = false → p_X6_isDigit  S41 r39 (fun r44 S43 => ((r44 = false → ((r39 = 59 → p_X6_split_113 a1 (p_X6_split_9 a1 post fu9) post S43 x2 x3 r39 y40) ∧ (¬ r39 = 59 → ((r39 = 60 → p_X6_split_113 a1 (p_X6_split_9 a1 post fu9) post S43 x2 x3 r39 y40) ∧ (¬ r39 = 60 → ((r39 = 62 → p_X6_split_113 a1 (p_X6_split_9 a1 post fu9) post S43 x2 x3 r39 y40) ∧ (¬ r39 = 62 → ((¬ r39 = 61 → ((r39 = 10 → p_X6_split_147 a1 (p_X6_split_9 a1 post fu9) post S43 x3 y40) ∧ (¬ r39 = 10 → ((r39 = 32 → p_X6_split_147 a1 (p_X6_split_9 a1 post fu9) post S43 x3 y40) ∧ (¬ r39 = 32 → p_X6_addToken  S43 1 x2 0 (fun S45 => p_X6_split_147 a1 (p_X6_split_9 a1 post fu9) post S45 x3 y40)))))) ∧ (r39 = 61 → p_X6_split_113 a1 (p_X6_split_9 a1 post fu9) post S43 x2 x3 r39 y40))))))))) ∧ (r44 = true → p_X6_runEnd  S43 x2 a1 false (fun r47 S46 => p_X6_addNumber  S46 x2 r47 (fun S48 => p_X6_split_147 a1 (p_X6_split_9 a1 post fu9) post S48 x3 r47)))))) ∧ (r42 = true → p_X6_runEnd  S41 x2 a1 true (fun r50 S49 => p_X6_addWord  S49 x2 r50 (fun S51 => p_X6_split_147 a1 (p_X6_split_9 a1 post fu9) post S51 x3 r50))))))))))) := rfl
def p_X6_split   (S : vSt) (a1 : Int32) (post : vSt → Prop) : Prop := ∀ S37, S37 = v_si S 5 5 0 → ∃ fu9, p_X6_split_9 a1 post fu9 S37 0 0
set_option maxHeartbeats 4000000 in
set_option maxRecDepth 100000 in
theorem q_X6_split_156 {X : vX} {G : vG}  {post : vSt → Prop} (C : v_Cx X G cX6_split RX6 6 (v_rm 6 270)) (D : v_Rx X G (v_Qv G post) none)  {a1 : Int32}   : ∀ (S : vSt), p_X6_split_156 a1 post S  → VJ X G S 156 [(0, .ref (G.1 5)), (1, .int a1)] [] := by
  intro S  h
  refine V_aload_n C 0 dX6_split_156 rfl rfl ?_
  refine V_iconst (v := 0) C dX6_split_157 (by decide) ?_
  refine V_iload_n C 1 dX6_split_158 rfl rfl ?_
  refine V_lconst (v := 0) C dX6_split_159 (by decide) ?_
  refine V_callVv (As := [.int 0, .int a1, .long 0]) (rest := []) C (c_X6_addToken (v_l X) G  _ _ _ _ h) 5 6 (by decide) (by decide) (by decide) rfl KV_X6_addToken k_RX6_55 rfl rfl rfl (Nat.le_of_ble_eq_true rfl) ⟨Nat.le_of_ble_eq_true rfl, Nat.le_of_ble_eq_true rfl⟩ dX6_split_160 (fun S38 h => ?_)
  refine V_aload_n C 0 dX6_split_163 rfl rfl ?_
  refine V_iconst (v := (-1)) C dX6_split_164 (by decide) ?_
  refine V_pi C 5 (by decide) (by decide) P_6_6 k_RX6_59 dX6_split_165 ?_
  refine V_topS (fun S39 eS39 => ?_)
  have h := h S39 eS39
  refine V_aload_n C 0 dX6_split_168 rfl rfl ?_
  refine V_callVv (As := []) (rest := []) C (c_X6_pass (v_l X) G  _ h) 5 6 (by decide) (by decide) (by decide) rfl KV_X6_pass k_RX6_62 rfl rfl rfl (Nat.le_of_ble_eq_true rfl) ⟨Nat.le_of_ble_eq_true rfl, Nat.le_of_ble_eq_true rfl⟩ dX6_split_169 (fun S40 h => ?_)
  exact V_vret C D dX6_split_172 h
set_option maxHeartbeats 4000000 in
set_option maxRecDepth 100000 in
theorem q_X6_split_147 {X : vX} {G : vG}  {post : vSt → Prop} (C : v_Cx X G cX6_split RX6 6 (v_rm 6 270)) (D : v_Rx X G (v_Qv G post) none)  {a1 : Int32}  {K9 : vSt → Int32 → Int32 → Prop} (hK9 : ∀ S x2 x3, K9 S x2 x3 → VJ X G S 9 [(0, .ref (G.1 5)), (1, .int a1), (2, .int x2), (3, .int x3)] []) : ∀ (S : vSt) (x3 : Int32) (x5 : Int32), p_X6_split_147 a1 K9 post S x3 x5 → VJ X G S 147 [(0, .ref (G.1 5)), (1, .int a1), (3, .int x3), (5, .int x5)] [] := by
  intro S x3 x5 h
  refine V_iload C 3 dX6_split_147 rfl ?_
  refine V_istore_n (lv' := [(0, .ref (G.1 5)), (1, .int a1), (2, .int x5), (3, .int x3), (5, .int x5)]) C [1, 2, 0, 3, 4] dX6_split_149 rfl (by decide) rfl ?_
  obtain ⟨y46, ey46⟩ : ∃ z : Int32, z = x3 + 1 := ⟨_, rfl⟩
  have h := h y46 ey46
  refine V_iinc (lv' := [(0, .ref (G.1 5)), (1, .int a1), (2, .int x5), (3, .int y46), (5, .int x5)]) C 3 [1, 2, 3, 0, 4] y46 dX6_split_150 rfl (by rw [ey46]; rfl) (by decide) rfl ?_
  refine V_goto (tgt := 9) C dX6_split_153 (by decide) ?_
  refine V_loc (lv' := [(0, .ref (G.1 5)), (1, .int a1), (2, .int x5), (3, .int y46)]) [0, 1, 2, 3] rfl ?_
  exact hK9 _ _ _ h
set_option maxHeartbeats 4000000 in
set_option maxRecDepth 100000 in
theorem q_X6_split_113 {X : vX} {G : vG}  {post : vSt → Prop} (C : v_Cx X G cX6_split RX6 6 (v_rm 6 270)) (D : v_Rx X G (v_Qv G post) none)  {a1 : Int32}  {K9 : vSt → Int32 → Int32 → Prop} (hK9 : ∀ S x2 x3, K9 S x2 x3 → VJ X G S 9 [(0, .ref (G.1 5)), (1, .int a1), (2, .int x2), (3, .int x3)] []) : ∀ (S : vSt) (x2 : Int32) (x3 : Int32) (x4 : Int32) (x5 : Int32), p_X6_split_113 a1 K9 post S x2 x3 x4 x5 → VJ X G S 113 [(0, .ref (G.1 5)), (1, .int a1), (2, .int x2), (3, .int x3), (4, .int x4), (5, .int x5)] [] := by
  intro S x2 x3 x4 x5 h
  refine V_aload_n C 0 dX6_split_113 rfl rfl ?_
  refine V_bipush (v := 6) C dX6_split_114 (by decide) ?_
  refine V_iload_n C 2 dX6_split_116 rfl rfl ?_
  refine V_iload C 4 dX6_split_117 rfl ?_
  refine V_i2l C dX6_split_119 ?_
  refine V_callVv (As := [.int 6, .int x2, .long (Int32.toInt64 x4)]) (rest := []) C (c_X6_addToken (v_l X) G  _ _ _ _ h) 5 6 (by decide) (by decide) (by decide) rfl KV_X6_addToken k_RX6_55 rfl rfl rfl (Nat.le_of_ble_eq_true rfl) ⟨Nat.le_of_ble_eq_true rfl, Nat.le_of_ble_eq_true rfl⟩ dX6_split_120 (fun S45 h => ?_)
  refine V_goto (tgt := 147) C dX6_split_123 (by decide) ?_
  refine V_loc (lv' := [(0, .ref (G.1 5)), (1, .int a1), (3, .int x3), (5, .int x5)]) [0, 1, 3, 5] rfl ?_
  exact q_X6_split_147 C D hK9 _ _ _ h
set_option maxHeartbeats 4000000 in
set_option maxRecDepth 100000 in
theorem q_X6_split_9 {X : vX} {G : vG}  {post : vSt → Prop} (C : v_Cx X G cX6_split RX6 6 (v_rm 6 270)) (D : v_Rx X G (v_Qv G post) none)  {a1 : Int32}   : ∀ (fu : Nat) (S : vSt) (x2 : Int32) (x3 : Int32), p_X6_split_9 a1 post fu S x2 x3 → VJ X G S 9 [(0, .ref (G.1 5)), (1, .int a1), (2, .int x2), (3, .int x3)] [] := by
  intro fu
  induction fu with
  | zero => intro S x2 x3 h; exact absurd h id
  | succ fu ih =>
    intro S x2 x3 h
    have hK9 := ih
    rw [e_X6_split_9] at h
    refine V_iload_n C 3 dX6_split_9 rfl rfl ?_
    refine V_iload_n C 1 dX6_split_10 rfl rfl ?_
    refine V_icmp_gt (tgt := 156) C dX6_split_11 (by decide) (fun c => ?_) (fun c => ?_)
    · have h := h.1 c
      refine V_loc (lv' := [(0, .ref (G.1 5)), (1, .int a1)]) [0, 1] rfl ?_
      exact q_X6_split_156 C D  _ h
    · have h := h.2 c
      refine V_iload_n C 2 dX6_split_14 rfl rfl ?_
      refine V_iload_n C 1 dX6_split_15 rfl rfl ?_
      refine V_icmp_ge (tgt := 156) C dX6_split_16 (by decide) (fun c => ?_) (fun c => ?_)
      · have h := h.1 c
        refine V_loc (lv' := [(0, .ref (G.1 5)), (1, .int a1)]) [0, 1] rfl ?_
        exact q_X6_split_156 C D  _ h
      · have h := h.2 c
        refine V_aload_n C 0 dX6_split_19 rfl rfl ?_
        refine V_iload_n C 2 dX6_split_20 rfl rfl ?_
        refine V_callVi (As := [.int x2]) (rest := []) C (c_X6_byteAt (v_l X) G  _ _ h) 5 6 (by decide) (by decide) (by decide) rfl KV_X6_byteAt k_RX6_33 rfl rfl rfl (Nat.le_of_ble_eq_true rfl) ⟨Nat.le_of_ble_eq_true rfl, Nat.le_of_ble_eq_true rfl⟩ dX6_split_21 (fun r39 S38 h => ?_)
        refine V_istore (lv' := [(0, .ref (G.1 5)), (1, .int a1), (2, .int x2), (3, .int x3), (4, .int r39)]) C [1, 2, 3, 4, 0] dX6_split_24 (by decide) rfl ?_
        refine V_iload_n C 2 dX6_split_26 rfl rfl ?_
        refine V_iconst (v := 1) C dX6_split_27 (by decide) ?_
        refine V_iadd C dX6_split_28 ?_
        refine V_topi (fun y40 ey40 => ?_)
        have h := h y40 ey40
        refine V_istore (lv' := [(0, .ref (G.1 5)), (1, .int a1), (2, .int x2), (3, .int x3), (4, .int r39), (5, .int y40)]) C [1, 2, 3, 4, 5, 0] dX6_split_29 (by decide) rfl ?_
        refine V_iload C 4 dX6_split_31 rfl ?_
        refine V_callSz (As := [.int r39]) (rest := []) C (c_X6_isLetter (v_l X) G  _ _ h) KV_X6_isLetter k_RX6_37 rfl rfl rfl (Nat.le_of_ble_eq_true rfl) ⟨Nat.le_of_ble_eq_true rfl, Nat.le_of_ble_eq_true rfl⟩ dX6_split_33 (fun r42 S41 h => ?_)
        refine V_ifb_eq (tgt := 58) C dX6_split_36 (by decide) (fun c => ?_) (fun c => ?_)
        · have h := h.1 c
          refine V_iload C 4 dX6_split_58 rfl ?_
          refine V_callSz (As := [.int r39]) (rest := []) C (c_X6_isDigit (v_l X) G  _ _ h) KV_X6_isDigit k_RX6_49 rfl rfl rfl (Nat.le_of_ble_eq_true rfl) ⟨Nat.le_of_ble_eq_true rfl, Nat.le_of_ble_eq_true rfl⟩ dX6_split_60 (fun r44 S43 h => ?_)
          refine V_ifb_eq (tgt := 85) C dX6_split_63 (by decide) (fun c => ?_) (fun c => ?_)
          · have h := h.1 c
            refine V_iload C 4 dX6_split_85 rfl ?_
            refine V_bipush (v := 59) C dX6_split_87 (by decide) ?_
            refine V_icmp_eq (tgt := 113) C dX6_split_89 (by decide) (fun c => ?_) (fun c => ?_)
            · have h := h.1 c
              exact q_X6_split_113 C D hK9 _ _ _ _ _ h
            · have h := h.2 c
              refine V_iload C 4 dX6_split_92 rfl ?_
              refine V_bipush (v := 60) C dX6_split_94 (by decide) ?_
              refine V_icmp_eq (tgt := 113) C dX6_split_96 (by decide) (fun c => ?_) (fun c => ?_)
              · have h := h.1 c
                exact q_X6_split_113 C D hK9 _ _ _ _ _ h
              · have h := h.2 c
                refine V_iload C 4 dX6_split_99 rfl ?_
                refine V_bipush (v := 62) C dX6_split_101 (by decide) ?_
                refine V_icmp_eq (tgt := 113) C dX6_split_103 (by decide) (fun c => ?_) (fun c => ?_)
                · have h := h.1 c
                  exact q_X6_split_113 C D hK9 _ _ _ _ _ h
                · have h := h.2 c
                  refine V_iload C 4 dX6_split_106 rfl ?_
                  refine V_bipush (v := 61) C dX6_split_108 (by decide) ?_
                  refine V_icmp_ne (tgt := 126) C dX6_split_110 (by decide) (fun c => ?_) (fun c => ?_)
                  · have h := h.1 c
                    refine V_iload C 4 dX6_split_126 rfl ?_
                    refine V_bipush (v := 10) C dX6_split_128 (by decide) ?_
                    refine V_icmp_eq (tgt := 147) C dX6_split_130 (by decide) (fun c => ?_) (fun c => ?_)
                    · have h := h.1 c
                      refine V_loc (lv' := [(0, .ref (G.1 5)), (1, .int a1), (3, .int x3), (5, .int y40)]) [0, 1, 3, 5] rfl ?_
                      exact q_X6_split_147 C D hK9 _ _ _ h
                    · have h := h.2 c
                      refine V_iload C 4 dX6_split_133 rfl ?_
                      refine V_bipush (v := 32) C dX6_split_135 (by decide) ?_
                      refine V_icmp_eq (tgt := 147) C dX6_split_137 (by decide) (fun c => ?_) (fun c => ?_)
                      · have h := h.1 c
                        refine V_loc (lv' := [(0, .ref (G.1 5)), (1, .int a1), (3, .int x3), (5, .int y40)]) [0, 1, 3, 5] rfl ?_
                        exact q_X6_split_147 C D hK9 _ _ _ h
                      · have h := h.2 c
                        refine V_aload_n C 0 dX6_split_140 rfl rfl ?_
                        refine V_iconst (v := 1) C dX6_split_141 (by decide) ?_
                        refine V_iload_n C 2 dX6_split_142 rfl rfl ?_
                        refine V_lconst (v := 0) C dX6_split_143 (by decide) ?_
                        refine V_callVv (As := [.int 1, .int x2, .long 0]) (rest := []) C (c_X6_addToken (v_l X) G  _ _ _ _ h) 5 6 (by decide) (by decide) (by decide) rfl KV_X6_addToken k_RX6_55 rfl rfl rfl (Nat.le_of_ble_eq_true rfl) ⟨Nat.le_of_ble_eq_true rfl, Nat.le_of_ble_eq_true rfl⟩ dX6_split_144 (fun S45 h => ?_)
                        refine V_loc (lv' := [(0, .ref (G.1 5)), (1, .int a1), (3, .int x3), (5, .int y40)]) [0, 1, 3, 5] rfl ?_
                        exact q_X6_split_147 C D hK9 _ _ _ h
                  · have h := h.2 c
                    exact q_X6_split_113 C D hK9 _ _ _ _ _ h
          · have h := h.2 c
            refine V_aload_n C 0 dX6_split_66 rfl rfl ?_
            refine V_iload_n C 2 dX6_split_67 rfl rfl ?_
            refine V_iload_n C 1 dX6_split_68 rfl rfl ?_
            refine V_iconst (v := 0) C dX6_split_69 (by decide) ?_
            refine V_callVi (As := [.int x2, .int a1, .int (v_b false)]) (rest := []) C (c_X6_runEnd (v_l X) G  _ _ _ _ h) 5 6 (by decide) (by decide) (by decide) rfl KV_X6_runEnd k_RX6_41 rfl rfl rfl (Nat.le_of_ble_eq_true rfl) ⟨Nat.le_of_ble_eq_true rfl, Nat.le_of_ble_eq_true rfl⟩ dX6_split_70 (fun r47 S46 h => ?_)
            refine V_istore (lv' := [(0, .ref (G.1 5)), (1, .int a1), (2, .int x2), (3, .int x3), (4, .int r39), (5, .int r47)]) C [1, 2, 3, 4, 5, 0] dX6_split_73 (by decide) rfl ?_
            refine V_aload_n C 0 dX6_split_75 rfl rfl ?_
            refine V_iload_n C 2 dX6_split_76 rfl rfl ?_
            refine V_iload C 5 dX6_split_77 rfl ?_
            refine V_callVv (As := [.int x2, .int r47]) (rest := []) C (c_X6_addNumber (v_l X) G  _ _ _ h) 5 6 (by decide) (by decide) (by decide) rfl KV_X6_addNumber k_RX6_52 rfl rfl rfl (Nat.le_of_ble_eq_true rfl) ⟨Nat.le_of_ble_eq_true rfl, Nat.le_of_ble_eq_true rfl⟩ dX6_split_79 (fun S48 h => ?_)
            refine V_goto (tgt := 147) C dX6_split_82 (by decide) ?_
            refine V_loc (lv' := [(0, .ref (G.1 5)), (1, .int a1), (3, .int x3), (5, .int r47)]) [0, 1, 3, 5] rfl ?_
            exact q_X6_split_147 C D hK9 _ _ _ h
        · have h := h.2 c
          refine V_aload_n C 0 dX6_split_39 rfl rfl ?_
          refine V_iload_n C 2 dX6_split_40 rfl rfl ?_
          refine V_iload_n C 1 dX6_split_41 rfl rfl ?_
          refine V_iconst (v := 1) C dX6_split_42 (by decide) ?_
          refine V_callVi (As := [.int x2, .int a1, .int (v_b true)]) (rest := []) C (c_X6_runEnd (v_l X) G  _ _ _ _ h) 5 6 (by decide) (by decide) (by decide) rfl KV_X6_runEnd k_RX6_41 rfl rfl rfl (Nat.le_of_ble_eq_true rfl) ⟨Nat.le_of_ble_eq_true rfl, Nat.le_of_ble_eq_true rfl⟩ dX6_split_43 (fun r50 S49 h => ?_)
          refine V_istore (lv' := [(0, .ref (G.1 5)), (1, .int a1), (2, .int x2), (3, .int x3), (4, .int r39), (5, .int r50)]) C [1, 2, 3, 4, 5, 0] dX6_split_46 (by decide) rfl ?_
          refine V_aload_n C 0 dX6_split_48 rfl rfl ?_
          refine V_iload_n C 2 dX6_split_49 rfl rfl ?_
          refine V_iload C 5 dX6_split_50 rfl ?_
          refine V_callVv (As := [.int x2, .int r50]) (rest := []) C (c_X6_addWord (v_l X) G  _ _ _ h) 5 6 (by decide) (by decide) (by decide) rfl KV_X6_addWord k_RX6_45 rfl rfl rfl (Nat.le_of_ble_eq_true rfl) ⟨Nat.le_of_ble_eq_true rfl, Nat.le_of_ble_eq_true rfl⟩ dX6_split_52 (fun S51 h => ?_)
          refine V_goto (tgt := 147) C dX6_split_55 (by decide) ?_
          refine V_loc (lv' := [(0, .ref (G.1 5)), (1, .int a1), (3, .int x3), (5, .int r50)]) [0, 1, 3, 5] rfl ?_
          exact q_X6_split_147 C D hK9 _ _ _ h
set_option maxHeartbeats 4000000 in
set_option maxRecDepth 100000 in
theorem c_X6_split (l : Launch) (G : vG)    {S : vSt} (a1 : Int32) (post : vSt → Prop) (h : p_X6_split   S a1 post) : Met l yX6_split (v_ws yX6_split cX6_split 6 none) (v_rm 6 270) (v_Pc G [.ref (G.1 5), .int a1] S) (v_Qv G post) 0 0 (v_A G) := by
  refine v_start (by decide +kernel) (Nat.le_of_ble_eq_true rfl) (fun X hl C D => ?_)
  subst hl
  have C : v_Cx X G cX6_split RX6 6 (v_rm 6 270) := C
  show VJ X G S 0 [(0, .ref (G.1 5)), (1, .int a1)] []
  refine V_aload_n C 0 dX6_split_0 rfl rfl ?_
  refine V_iconst (v := 0) C dX6_split_1 (by decide) ?_
  refine V_pi C 5 (by decide) (by decide) P_6_5 k_RX6_30 dX6_split_2 ?_
  refine V_topS (fun S37 eS37 => ?_)
  have h := h S37 eS37
  refine V_iconst (v := 0) C dX6_split_5 (by decide) ?_
  refine V_istore_n (lv' := [(0, .ref (G.1 5)), (1, .int a1), (2, .int 0)]) C [1, 2, 0] dX6_split_6 rfl (by decide) rfl ?_
  refine V_iconst (v := 0) C dX6_split_7 (by decide) ?_
  refine V_istore_n (lv' := [(0, .ref (G.1 5)), (1, .int a1), (2, .int 0), (3, .int 0)]) C [1, 2, 3, 0] dX6_split_8 rfl (by decide) rfl ?_
  obtain ⟨fu9, h⟩ := h
  exact q_X6_split_9 C D  fu9 _ _ _ h
/-! HalfAccuser$Trays.move(IIIII)V -/
theorem dX7_move_0 : decode cX7_move 0 = .ok ((.aload_n 0), 1) := by decide +kernel
theorem dX7_move_1 : decode cX7_move 1 = .ok ((.iload_n 1), 1) := by decide +kernel
theorem dX7_move_2 : decode cX7_move 2 = .ok ((.iload_n 2), 1) := by decide +kernel
theorem dX7_move_3 : decode cX7_move 3 = .ok ((.iload 5), 2) := by decide +kernel
theorem dX7_move_5 : decode cX7_move 5 = .ok ((.invokevirtual 47), 3) := by decide +kernel
theorem dX7_move_8 : decode cX7_move 8 = .ok ((.ifCond .eq 41), 3) := by decide +kernel
theorem dX7_move_11 : decode cX7_move 11 = .ok ((.aload_n 0), 1) := by decide +kernel
theorem dX7_move_12 : decode cX7_move 12 = .ok ((.iload_n 3), 1) := by decide +kernel
theorem dX7_move_13 : decode cX7_move 13 = .ok ((.iload 4), 2) := by decide +kernel
theorem dX7_move_15 : decode cX7_move 15 = .ok ((.iload 5), 2) := by decide +kernel
theorem dX7_move_17 : decode cX7_move 17 = .ok ((.invokevirtual 47), 3) := by decide +kernel
theorem dX7_move_20 : decode cX7_move 20 = .ok ((.ifCond .eq 29), 3) := by decide +kernel
theorem dX7_move_23 : decode cX7_move 23 = .ok ((.aload_n 0), 1) := by decide +kernel
theorem dX7_move_24 : decode cX7_move 24 = .ok ((.getfield 11), 3) := by decide +kernel
theorem dX7_move_27 : decode cX7_move 27 = .ok ((.iload_n 1), 1) := by decide +kernel
theorem dX7_move_28 : decode cX7_move 28 = .ok ((.bipush 60), 2) := by decide +kernel
theorem dX7_move_30 : decode cX7_move 30 = .ok (.imul, 1) := by decide +kernel
theorem dX7_move_31 : decode cX7_move 31 = .ok ((.iload_n 2), 1) := by decide +kernel
theorem dX7_move_32 : decode cX7_move 32 = .ok (.iadd, 1) := by decide +kernel
theorem dX7_move_33 : decode cX7_move 33 = .ok ((.aload_n 0), 1) := by decide +kernel
theorem dX7_move_34 : decode cX7_move 34 = .ok ((.getfield 11), 3) := by decide +kernel
theorem dX7_move_37 : decode cX7_move 37 = .ok ((.iload_n 3), 1) := by decide +kernel
theorem dX7_move_38 : decode cX7_move 38 = .ok ((.bipush 60), 2) := by decide +kernel
theorem dX7_move_40 : decode cX7_move 40 = .ok (.imul, 1) := by decide +kernel
theorem dX7_move_41 : decode cX7_move 41 = .ok ((.iload 4), 2) := by decide +kernel
theorem dX7_move_43 : decode cX7_move 43 = .ok (.iadd, 1) := by decide +kernel
theorem dX7_move_44 : decode cX7_move 44 = .ok ((.iload 5), 2) := by decide +kernel
theorem dX7_move_46 : decode cX7_move 46 = .ok ((.invokestatic 58), 3) := by decide +kernel
theorem dX7_move_49 : decode cX7_move 49 = .ok (.return_, 1) := by decide +kernel
def p_X7_move   (S : vSt) (a1 : Int32) (a2 : Int32) (a3 : Int32) (a4 : Int32) (a5 : Int32) (post : vSt → Prop) : Prop := p_X7_hasRun  S a1 a2 a5 (fun r7 S6 => ((r7 = false → post S6) ∧ (r7 = true → p_X7_hasRun  S6 a3 a4 a5 (fun r9 S8 => ((r9 = false → post S8) ∧ (r9 = true → (v_cpo ((a1 * 60) + a2) ((a3 * 60) + a4) a5 240 240 ∧ ∀ S10, S10 = v_cl S8 2 2 (Int32.toNatClampNeg ((a1 * 60) + a2)) (Int32.toNatClampNeg ((a3 * 60) + a4)) (Int32.toNatClampNeg a5) → post S10)))))))
set_option maxHeartbeats 4000000 in
set_option maxRecDepth 100000 in
theorem c_X7_move (l : Launch) (G : vG)    {S : vSt} (a1 : Int32) (a2 : Int32) (a3 : Int32) (a4 : Int32) (a5 : Int32) (post : vSt → Prop) (h : p_X7_move   S a1 a2 a3 a4 a5 post) : Met l yX7_move (v_ws yX7_move cX7_move 6 none) (v_rm 2 85) (v_Pc G [.ref (G.1 1), .int a1, .int a2, .int a3, .int a4, .int a5] S) (v_Qv G post) 0 0 (v_A G) := by
  refine v_start (by decide +kernel) (Nat.le_of_ble_eq_true rfl) (fun X hl C D => ?_)
  subst hl
  have C : v_Cx X G cX7_move RX7 6 (v_rm 2 85) := C
  show VJ X G S 0 [(0, .ref (G.1 1)), (1, .int a1), (2, .int a2), (3, .int a3), (4, .int a4), (5, .int a5)] []
  refine V_aload_n C 0 dX7_move_0 rfl rfl ?_
  refine V_iload_n C 1 dX7_move_1 rfl rfl ?_
  refine V_iload_n C 2 dX7_move_2 rfl rfl ?_
  refine V_iload C 5 dX7_move_3 rfl ?_
  refine V_callVz (As := [.int a1, .int a2, .int a5]) (rest := []) C (c_X7_hasRun (v_l X) G  _ _ _ _ h) 1 7 (by decide) (by decide) (by decide) rfl KV_X7_hasRun k_RX7_47 rfl rfl rfl (Nat.le_of_ble_eq_true rfl) ⟨Nat.le_of_ble_eq_true rfl, Nat.le_of_ble_eq_true rfl⟩ dX7_move_5 (fun r7 S6 h => ?_)
  refine V_ifb_eq (tgt := 49) C dX7_move_8 (by decide) (fun c => ?_) (fun c => ?_)
  · have h := h.1 c
    exact V_vret C D dX7_move_49 h
  · have h := h.2 c
    refine V_aload_n C 0 dX7_move_11 rfl rfl ?_
    refine V_iload_n C 3 dX7_move_12 rfl rfl ?_
    refine V_iload C 4 dX7_move_13 rfl ?_
    refine V_iload C 5 dX7_move_15 rfl ?_
    refine V_callVz (As := [.int a3, .int a4, .int a5]) (rest := []) C (c_X7_hasRun (v_l X) G  _ _ _ _ h) 1 7 (by decide) (by decide) (by decide) rfl KV_X7_hasRun k_RX7_47 rfl rfl rfl (Nat.le_of_ble_eq_true rfl) ⟨Nat.le_of_ble_eq_true rfl, Nat.le_of_ble_eq_true rfl⟩ dX7_move_17 (fun r9 S8 h => ?_)
    refine V_ifb_eq (tgt := 49) C dX7_move_20 (by decide) (fun c => ?_) (fun c => ?_)
    · have h := h.1 c
      exact V_vret C D dX7_move_49 h
    · have h := h.2 c
      refine V_aload_n C 0 dX7_move_23 rfl rfl ?_
      refine V_ga C 1 (by decide) (by decide) F_7_0 k_RX7_11 dX7_move_24 ?_
      refine V_iload_n C 1 dX7_move_27 rfl rfl ?_
      refine V_bipush (v := 60) C dX7_move_28 (by decide) ?_
      refine V_imul C dX7_move_30 ?_
      refine V_iload_n C 2 dX7_move_31 rfl rfl ?_
      refine V_iadd C dX7_move_32 ?_
      refine V_aload_n C 0 dX7_move_33 rfl rfl ?_
      refine V_ga C 1 (by decide) (by decide) F_7_0 k_RX7_11 dX7_move_34 ?_
      refine V_iload_n C 3 dX7_move_37 rfl rfl ?_
      refine V_bipush (v := 60) C dX7_move_38 (by decide) ?_
      refine V_imul C dX7_move_40 ?_
      refine V_iload C 4 dX7_move_41 rfl ?_
      refine V_iadd C dX7_move_43 ?_
      refine V_iload C 5 dX7_move_44 rfl ?_
      obtain ⟨ho, h⟩ := h
      refine V_copyl C 2 2 240 240 (by decide) (by decide) (by decide) (by decide) ho k_RX7_58 (Nat.le_of_ble_eq_true rfl) ⟨Nat.le_of_ble_eq_true rfl, by decide +kernel⟩ dX7_move_46 ?_
      refine V_topS (fun S10 eS10 => ?_)
      have h := h S10 eS10
      exact V_vret C D dX7_move_49 h
/-! HalfAccuser.pour(IIIII)Z -/
theorem dX10_pour_0 : decode cX10_pour 0 = .ok ((.aload_n 0), 1) := by decide +kernel
theorem dX10_pour_1 : decode cX10_pour 1 = .ok ((.getfield 10), 3) := by decide +kernel
theorem dX10_pour_4 : decode cX10_pour 4 = .ok ((.iload_n 1), 1) := by decide +kernel
theorem dX10_pour_5 : decode cX10_pour 5 = .ok ((.iload_n 2), 1) := by decide +kernel
theorem dX10_pour_6 : decode cX10_pour 6 = .ok ((.iload_n 3), 1) := by decide +kernel
theorem dX10_pour_7 : decode cX10_pour 7 = .ok ((.iload 4), 2) := by decide +kernel
theorem dX10_pour_9 : decode cX10_pour 9 = .ok ((.iload 5), 2) := by decide +kernel
theorem dX10_pour_11 : decode cX10_pour 11 = .ok ((.invokevirtual 134), 3) := by decide +kernel
theorem dX10_pour_14 : decode cX10_pour 14 = .ok ((.istore 6), 2) := by decide +kernel
theorem dX10_pour_16 : decode cX10_pour 16 = .ok ((.iload 6), 2) := by decide +kernel
theorem dX10_pour_18 : decode cX10_pour 18 = .ok ((.ifCond .ne 17), 3) := by decide +kernel
theorem dX10_pour_21 : decode cX10_pour 21 = .ok ((.aload_n 0), 1) := by decide +kernel
theorem dX10_pour_22 : decode cX10_pour 22 = .ok ((.getfield 10), 3) := by decide +kernel
theorem dX10_pour_25 : decode cX10_pour 25 = .ok ((.iload_n 1), 1) := by decide +kernel
theorem dX10_pour_26 : decode cX10_pour 26 = .ok ((.iload_n 2), 1) := by decide +kernel
theorem dX10_pour_27 : decode cX10_pour 27 = .ok ((.iload_n 3), 1) := by decide +kernel
theorem dX10_pour_28 : decode cX10_pour 28 = .ok ((.iload 4), 2) := by decide +kernel
theorem dX10_pour_30 : decode cX10_pour 30 = .ok ((.iload 5), 2) := by decide +kernel
theorem dX10_pour_32 : decode cX10_pour 32 = .ok ((.invokevirtual 138), 3) := by decide +kernel
theorem dX10_pour_35 : decode cX10_pour 35 = .ok ((.aload_n 0), 1) := by decide +kernel
theorem dX10_pour_36 : decode cX10_pour 36 = .ok ((.iload 6), 2) := by decide +kernel
theorem dX10_pour_38 : decode cX10_pour 38 = .ok ((.invokevirtual 116), 3) := by decide +kernel
theorem dX10_pour_41 : decode cX10_pour 41 = .ok (.ireturn, 1) := by decide +kernel
def p_X10_pour_35  (a1 : Int32) (a2 : Int32) (a3 : Int32) (a4 : Int32) (a5 : Int32)   (post : Bool → vSt → Prop) (S : vSt) (x6 : Int32) : Prop := p_X10_settled  S x6 (fun r9 S8 => post r9 S8)
def p_X10_pour   (S : vSt) (a1 : Int32) (a2 : Int32) (a3 : Int32) (a4 : Int32) (a5 : Int32) (post : Bool → vSt → Prop) : Prop := p_X7_pourStatus  S a1 a2 a3 a4 a5 (fun r7 S6 => ((¬ r7 = 0 → p_X10_pour_35 a1 a2 a3 a4 a5 post S6 r7) ∧ (r7 = 0 → p_X7_move  S6 a1 a2 a3 a4 a5 (fun S8 => p_X10_pour_35 a1 a2 a3 a4 a5 post S8 r7))))
set_option maxHeartbeats 4000000 in
set_option maxRecDepth 100000 in
theorem q_X10_pour_35 {X : vX} {G : vG}  {post : Bool → vSt → Prop} (C : v_Cx X G cX10_pour RX10 7 (v_rm 3 110)) (D : v_Rx X G (v_Qz G post) (some .boolean))  {a1 : Int32} {a2 : Int32} {a3 : Int32} {a4 : Int32} {a5 : Int32}   : ∀ (S : vSt) (x6 : Int32), p_X10_pour_35 a1 a2 a3 a4 a5 post S x6 → VJ X G S 35 [(0, .ref (G.1 0)), (6, .int x6)] [] := by
  intro S x6 h
  refine V_aload_n C 0 dX10_pour_35 rfl rfl ?_
  refine V_iload C 1 dX10_pour_36 rfl ?_
  refine V_callVz (As := [.int x6]) (rest := []) C (c_X10_settled (v_l X) G  _ _ h) 0 10 (by decide) (by decide) (by decide) rfl KV_X10_settled k_RX10_116 rfl rfl rfl (Nat.le_of_ble_eq_true rfl) ⟨Nat.le_of_ble_eq_true rfl, Nat.le_of_ble_eq_true rfl⟩ dX10_pour_38 (fun r9 S8 h => ?_)
  exact V_zret C D dX10_pour_41 h
set_option maxHeartbeats 4000000 in
set_option maxRecDepth 100000 in
theorem c_X10_pour (l : Launch) (G : vG)    {S : vSt} (a1 : Int32) (a2 : Int32) (a3 : Int32) (a4 : Int32) (a5 : Int32) (post : Bool → vSt → Prop) (h : p_X10_pour   S a1 a2 a3 a4 a5 post) : Met l yX10_pour (v_ws yX10_pour cX10_pour 7 (some .boolean)) (v_rm 3 110) (v_Pc G [.ref (G.1 0), .int a1, .int a2, .int a3, .int a4, .int a5] S) (v_Qz G post) 0 0 (v_A G) := by
  refine v_start (by decide +kernel) (Nat.le_of_ble_eq_true rfl) (fun X hl C D => ?_)
  subst hl
  have C : v_Cx X G cX10_pour RX10 7 (v_rm 3 110) := C
  show VJ X G S 0 [(0, .ref (G.1 0)), (1, .int a1), (2, .int a2), (3, .int a3), (4, .int a4), (5, .int a5)] []
  refine V_aload_n C 0 dX10_pour_0 rfl rfl ?_
  refine V_ga C 0 (by decide) (by decide) F_10_0 k_RX10_10 dX10_pour_1 ?_
  refine V_iload_n C 1 dX10_pour_4 rfl rfl ?_
  refine V_iload_n C 2 dX10_pour_5 rfl rfl ?_
  refine V_iload_n C 3 dX10_pour_6 rfl rfl ?_
  refine V_iload C 4 dX10_pour_7 rfl ?_
  refine V_iload C 5 dX10_pour_9 rfl ?_
  refine V_callVi (As := [.int a1, .int a2, .int a3, .int a4, .int a5]) (rest := []) C (c_X7_pourStatus (v_l X) G  _ _ _ _ _ _ h) 1 7 (by decide) (by decide) (by decide) rfl KV_X7_pourStatus k_RX10_134 rfl rfl rfl (Nat.le_of_ble_eq_true rfl) ⟨Nat.le_of_ble_eq_true rfl, Nat.le_of_ble_eq_true rfl⟩ dX10_pour_11 (fun r7 S6 h => ?_)
  refine V_istore (lv' := [(0, .ref (G.1 0)), (1, .int a1), (2, .int a2), (3, .int a3), (4, .int a4), (5, .int a5), (6, .int r7)]) C [1, 2, 3, 4, 5, 6, 0] dX10_pour_14 (by decide) rfl ?_
  refine V_iload C 6 dX10_pour_16 rfl ?_
  refine V_if_ne (tgt := 35) C dX10_pour_18 (by decide) (fun c => ?_) (fun c => ?_)
  · have h := h.1 c
    refine V_loc (lv' := [(0, .ref (G.1 0)), (6, .int r7)]) [0, 6] rfl ?_
    exact q_X10_pour_35 C D  _ _ h
  · have h := h.2 c
    refine V_aload_n C 0 dX10_pour_21 rfl rfl ?_
    refine V_ga C 0 (by decide) (by decide) F_10_0 k_RX10_10 dX10_pour_22 ?_
    refine V_iload_n C 1 dX10_pour_25 rfl rfl ?_
    refine V_iload_n C 2 dX10_pour_26 rfl rfl ?_
    refine V_iload_n C 3 dX10_pour_27 rfl rfl ?_
    refine V_iload C 4 dX10_pour_28 rfl ?_
    refine V_iload C 5 dX10_pour_30 rfl ?_
    refine V_callVv (As := [.int a1, .int a2, .int a3, .int a4, .int a5]) (rest := []) C (c_X7_move (v_l X) G  _ _ _ _ _ _ h) 1 7 (by decide) (by decide) (by decide) rfl KV_X7_move k_RX10_138 rfl rfl rfl (Nat.le_of_ble_eq_true rfl) ⟨Nat.le_of_ble_eq_true rfl, Nat.le_of_ble_eq_true rfl⟩ dX10_pour_32 (fun S8 h => ?_)
    refine V_loc (lv' := [(0, .ref (G.1 0)), (6, .int r7)]) [0, 6] rfl ?_
    exact q_X10_pour_35 C D  _ _ h
/-! HalfAccuser.city(I)I -/
theorem dX10_city_0 : decode cX10_city 0 = .ok ((.iload_n 1), 1) := by decide +kernel
theorem dX10_city_1 : decode cX10_city 1 = .ok ((.ifCond .lt 14), 3) := by decide +kernel
theorem dX10_city_4 : decode cX10_city 4 = .ok ((.iload_n 1), 1) := by decide +kernel
theorem dX10_city_5 : decode cX10_city 5 = .ok ((.aload_n 0), 1) := by decide +kernel
theorem dX10_city_6 : decode cX10_city 6 = .ok ((.getfield 19), 3) := by decide +kernel
theorem dX10_city_9 : decode cX10_city 9 = .ok ((.getfield 150), 3) := by decide +kernel
theorem dX10_city_12 : decode cX10_city 12 = .ok ((.if_icmp .le 9), 3) := by decide +kernel
theorem dX10_city_15 : decode cX10_city 15 = .ok ((.aload_n 0), 1) := by decide +kernel
theorem dX10_city_16 : decode cX10_city 16 = .ok ((.iconst 5), 1) := by decide +kernel
theorem dX10_city_17 : decode cX10_city 17 = .ok ((.invokevirtual 153), 3) := by decide +kernel
theorem dX10_city_20 : decode cX10_city 20 = .ok (.ireturn, 1) := by decide +kernel
theorem dX10_city_21 : decode cX10_city 21 = .ok ((.aload_n 0), 1) := by decide +kernel
theorem dX10_city_22 : decode cX10_city 22 = .ok ((.getfield 19), 3) := by decide +kernel
theorem dX10_city_25 : decode cX10_city 25 = .ok ((.iload_n 1), 1) := by decide +kernel
theorem dX10_city_26 : decode cX10_city 26 = .ok ((.invokevirtual 157), 3) := by decide +kernel
theorem dX10_city_29 : decode cX10_city 29 = .ok ((.aload_n 0), 1) := by decide +kernel
theorem dX10_city_30 : decode cX10_city 30 = .ok ((.aload_n 0), 1) := by decide +kernel
theorem dX10_city_31 : decode cX10_city 31 = .ok ((.getfield 42), 3) := by decide +kernel
theorem dX10_city_34 : decode cX10_city 34 = .ok ((.invokevirtual 160), 3) := by decide +kernel
theorem dX10_city_37 : decode cX10_city 37 = .ok ((.invokevirtual 163), 3) := by decide +kernel
theorem dX10_city_40 : decode cX10_city 40 = .ok ((.ifCond .ne 10), 3) := by decide +kernel
theorem dX10_city_43 : decode cX10_city 43 = .ok ((.aload_n 0), 1) := by decide +kernel
theorem dX10_city_44 : decode cX10_city 44 = .ok ((.bipush 10), 2) := by decide +kernel
theorem dX10_city_46 : decode cX10_city 46 = .ok ((.invokevirtual 153), 3) := by decide +kernel
theorem dX10_city_49 : decode cX10_city 49 = .ok (.ireturn, 1) := by decide +kernel
theorem dX10_city_50 : decode cX10_city 50 = .ok ((.aload_n 0), 1) := by decide +kernel
theorem dX10_city_51 : decode cX10_city 51 = .ok ((.getfield 26), 3) := by decide +kernel
theorem dX10_city_54 : decode cX10_city 54 = .ok ((.aload_n 0), 1) := by decide +kernel
theorem dX10_city_55 : decode cX10_city 55 = .ok ((.getfield 30), 3) := by decide +kernel
theorem dX10_city_58 : decode cX10_city 58 = .ok ((.invokevirtual 167), 3) := by decide +kernel
theorem dX10_city_61 : decode cX10_city 61 = .ok ((.aload_n 0), 1) := by decide +kernel
theorem dX10_city_62 : decode cX10_city 62 = .ok ((.aload_n 0), 1) := by decide +kernel
theorem dX10_city_63 : decode cX10_city 63 = .ok ((.getfield 26), 3) := by decide +kernel
theorem dX10_city_66 : decode cX10_city 66 = .ok ((.getfield 170), 3) := by decide +kernel
theorem dX10_city_69 : decode cX10_city 69 = .ok ((.invokevirtual 173), 3) := by decide +kernel
theorem dX10_city_72 : decode cX10_city 72 = .ok (.ireturn, 1) := by decide +kernel
def p_X10_city_15  (a1 : Int32)   (post : Int32 → vSt → Prop) (S : vSt)  : Prop := p_X10_refused  S 5 (fun r14 S13 => post r14 S13)
def p_X10_city   (S : vSt) (a1 : Int32) (post : Int32 → vSt → Prop) : Prop := ((a1 < 0 → p_X10_city_15 a1 post S ) ∧ (¬ a1 < 0 → ((a1 ≤ (S.1 5 1) → p_X6_split  S a1 (fun S13 => p_X1_readText  S13  (fun r15 S14 => p_X10_tellFault  S14 r15 (fun r17 S16 => ((r17 = true → p_X0_copyFrom 10 32 S16  (fun S18 => p_X10_told  S18 (S18.1 10 16) (fun r20 S19 => post r20 S19))) ∧ (r17 = false → p_X10_refused  S16 10 (fun r22 S21 => post r22 S21))))))) ∧ (¬ a1 ≤ (S.1 5 1) → p_X10_city_15 a1 post S ))))
set_option maxHeartbeats 4000000 in
set_option maxRecDepth 100000 in
theorem q_X10_city_15 {X : vX} {G : vG}  {post : Int32 → vSt → Prop} (C : v_Cx X G cX10_city RX10 2 (v_rm 7 295)) (D : v_Rx X G (v_Qi G post) (some .int))  {a1 : Int32}   : ∀ (S : vSt), p_X10_city_15 a1 post S  → VJ X G S 15 [(0, .ref (G.1 0))] [] := by
  intro S  h
  refine V_aload_n C 0 dX10_city_15 rfl rfl ?_
  refine V_iconst (v := 5) C dX10_city_16 (by decide) ?_
  refine V_callVi (As := [.int 5]) (rest := []) C (c_X10_refused (v_l X) G  _ _ h) 0 10 (by decide) (by decide) (by decide) rfl KV_X10_refused k_RX10_153 rfl rfl rfl (Nat.le_of_ble_eq_true rfl) ⟨Nat.le_of_ble_eq_true rfl, Nat.le_of_ble_eq_true rfl⟩ dX10_city_17 (fun r14 S13 h => ?_)
  exact V_iret C D dX10_city_20 h
set_option maxHeartbeats 4000000 in
set_option maxRecDepth 100000 in
theorem c_X10_city (l : Launch) (G : vG)    {S : vSt} (a1 : Int32) (post : Int32 → vSt → Prop) (h : p_X10_city   S a1 post) : Met l yX10_city (v_ws yX10_city cX10_city 2 (some .int)) (v_rm 7 295) (v_Pc G [.ref (G.1 0), .int a1] S) (v_Qi G post) 0 0 (v_A G) := by
  refine v_start (by decide +kernel) (Nat.le_of_ble_eq_true rfl) (fun X hl C D => ?_)
  subst hl
  have C : v_Cx X G cX10_city RX10 2 (v_rm 7 295) := C
  show VJ X G S 0 [(0, .ref (G.1 0)), (1, .int a1)] []
  refine V_iload_n C 1 dX10_city_0 rfl rfl ?_
  refine V_if_lt (tgt := 15) C dX10_city_1 (by decide) (fun c => ?_) (fun c => ?_)
  · have h := h.1 c
    refine V_loc (lv' := [(0, .ref (G.1 0))]) [0] rfl ?_
    exact q_X10_city_15 C D  _ h
  · have h := h.2 c
    refine V_iload_n C 1 dX10_city_4 rfl rfl ?_
    refine V_aload_n C 0 dX10_city_5 rfl rfl ?_
    refine V_ga C 0 (by decide) (by decide) F_10_1 k_RX10_19 dX10_city_6 ?_
    refine V_gi C 5 (by decide) (by decide) F_6_1 k_RX10_150 dX10_city_9 ?_
    refine V_icmp_le (tgt := 21) C dX10_city_12 (by decide) (fun c => ?_) (fun c => ?_)
    · have h := h.1 c
      refine V_aload_n C 0 dX10_city_21 rfl rfl ?_
      refine V_ga C 0 (by decide) (by decide) F_10_1 k_RX10_19 dX10_city_22 ?_
      refine V_iload_n C 1 dX10_city_25 rfl rfl ?_
      refine V_callVv (As := [.int a1]) (rest := []) C (c_X6_split (v_l X) G  _ _ h) 5 6 (by decide) (by decide) (by decide) rfl KV_X6_split k_RX10_157 rfl rfl rfl (Nat.le_of_ble_eq_true rfl) ⟨Nat.le_of_ble_eq_true rfl, Nat.le_of_ble_eq_true rfl⟩ dX10_city_26 (fun S13 h => ?_)
      refine V_aload_n C 0 dX10_city_29 rfl rfl ?_
      refine V_aload_n C 0 dX10_city_30 rfl rfl ?_
      refine V_ga C 0 (by decide) (by decide) F_10_5 k_RX10_42 dX10_city_31 ?_
      refine V_callVz (As := []) (rest := [.ref (G.1 0)]) C (c_X1_readText (v_l X) G  _ h) 55 1 (by decide) (by decide) (by decide) rfl KV_X1_readText k_RX10_160 rfl rfl rfl (Nat.le_of_ble_eq_true rfl) ⟨Nat.le_of_ble_eq_true rfl, Nat.le_of_ble_eq_true rfl⟩ dX10_city_34 (fun r15 S14 h => ?_)
      refine V_callVz (As := [.int (v_b r15)]) (rest := []) C (c_X10_tellFault (v_l X) G  _ _ h) 0 10 (by decide) (by decide) (by decide) rfl KV_X10_tellFault k_RX10_163 rfl rfl rfl (Nat.le_of_ble_eq_true rfl) ⟨Nat.le_of_ble_eq_true rfl, Nat.le_of_ble_eq_true rfl⟩ dX10_city_37 (fun r17 S16 h => ?_)
      refine V_ifb_ne (tgt := 50) C dX10_city_40 (by decide) (fun c => ?_) (fun c => ?_)
      · have h := h.1 c
        refine V_aload_n C 0 dX10_city_50 rfl rfl ?_
        refine V_ga C 0 (by decide) (by decide) F_10_2 k_RX10_26 dX10_city_51 ?_
        refine V_aload_n C 0 dX10_city_54 rfl rfl ?_
        refine V_ga C 0 (by decide) (by decide) F_10_3 k_RX10_30 dX10_city_55 ?_
        refine V_callVv (As := [.ref (G.1 32)]) (rest := []) C (c_X0_copyFrom (v_l X) G v_i10 v_i32 _ h) 10 0 (by decide) (by decide) (by decide) rfl KV_X0_copyFrom k_RX10_167 rfl rfl rfl (Nat.le_of_ble_eq_true rfl) ⟨Nat.le_of_ble_eq_true rfl, Nat.le_of_ble_eq_true rfl⟩ dX10_city_58 (fun S18 h => ?_)
        refine V_aload_n C 0 dX10_city_61 rfl rfl ?_
        refine V_aload_n C 0 dX10_city_62 rfl rfl ?_
        refine V_ga C 0 (by decide) (by decide) F_10_2 k_RX10_26 dX10_city_63 ?_
        refine V_gi C 10 (by decide) (by decide) F_0_16 k_RX10_170 dX10_city_66 ?_
        refine V_callVi (As := [.int (S18.1 10 16)]) (rest := []) C (c_X10_told (v_l X) G  _ _ h) 0 10 (by decide) (by decide) (by decide) rfl KV_X10_told k_RX10_173 rfl rfl rfl (Nat.le_of_ble_eq_true rfl) ⟨Nat.le_of_ble_eq_true rfl, Nat.le_of_ble_eq_true rfl⟩ dX10_city_69 (fun r20 S19 h => ?_)
        exact V_iret C D dX10_city_72 h
      · have h := h.2 c
        refine V_aload_n C 0 dX10_city_43 rfl rfl ?_
        refine V_bipush (v := 10) C dX10_city_44 (by decide) ?_
        refine V_callVi (As := [.int 10]) (rest := []) C (c_X10_refused (v_l X) G  _ _ h) 0 10 (by decide) (by decide) (by decide) rfl KV_X10_refused k_RX10_153 rfl rfl rfl (Nat.le_of_ble_eq_true rfl) ⟨Nat.le_of_ble_eq_true rfl, Nat.le_of_ble_eq_true rfl⟩ dX10_city_46 (fun r22 S21 h => ?_)
        exact V_iret C D dX10_city_49 h
    · have h := h.2 c
      refine V_loc (lv' := [(0, .ref (G.1 0))]) [0] rfl ?_
      exact q_X10_city_15 C D  _ h
/-! HalfAccuser.years(I)I -/
theorem dX10_years_0 : decode cX10_years 0 = .ok ((.iload_n 1), 1) := by decide +kernel
theorem dX10_years_1 : decode cX10_years 1 = .ok ((.ifCond .lt 21), 3) := by decide +kernel
theorem dX10_years_4 : decode cX10_years 4 = .ok ((.iload_n 1), 1) := by decide +kernel
theorem dX10_years_5 : decode cX10_years 5 = .ok ((.aload_n 0), 1) := by decide +kernel
theorem dX10_years_6 : decode cX10_years 6 = .ok ((.getfield 19), 3) := by decide +kernel
theorem dX10_years_9 : decode cX10_years 9 = .ok ((.getfield 150), 3) := by decide +kernel
theorem dX10_years_12 : decode cX10_years 12 = .ok ((.if_icmp .gt 10), 3) := by decide +kernel
theorem dX10_years_15 : decode cX10_years 15 = .ok ((.iload_n 1), 1) := by decide +kernel
theorem dX10_years_16 : decode cX10_years 16 = .ok ((.sipush 300), 3) := by decide +kernel
theorem dX10_years_19 : decode cX10_years 19 = .ok ((.if_icmp .le 9), 3) := by decide +kernel
theorem dX10_years_22 : decode cX10_years 22 = .ok ((.aload_n 0), 1) := by decide +kernel
theorem dX10_years_23 : decode cX10_years 23 = .ok ((.iconst 5), 1) := by decide +kernel
theorem dX10_years_24 : decode cX10_years 24 = .ok ((.invokevirtual 153), 3) := by decide +kernel
theorem dX10_years_27 : decode cX10_years 27 = .ok (.ireturn, 1) := by decide +kernel
theorem dX10_years_28 : decode cX10_years 28 = .ok ((.aload_n 0), 1) := by decide +kernel
theorem dX10_years_29 : decode cX10_years 29 = .ok ((.getfield 19), 3) := by decide +kernel
theorem dX10_years_32 : decode cX10_years 32 = .ok ((.iload_n 1), 1) := by decide +kernel
theorem dX10_years_33 : decode cX10_years 33 = .ok ((.invokevirtual 157), 3) := by decide +kernel
theorem dX10_years_36 : decode cX10_years 36 = .ok ((.aload_n 0), 1) := by decide +kernel
theorem dX10_years_37 : decode cX10_years 37 = .ok ((.aload_n 0), 1) := by decide +kernel
theorem dX10_years_38 : decode cX10_years 38 = .ok ((.getfield 55), 3) := by decide +kernel
theorem dX10_years_41 : decode cX10_years 41 = .ok ((.invokevirtual 176), 3) := by decide +kernel
theorem dX10_years_44 : decode cX10_years 44 = .ok ((.invokevirtual 163), 3) := by decide +kernel
theorem dX10_years_47 : decode cX10_years 47 = .ok ((.ifCond .ne 10), 3) := by decide +kernel
theorem dX10_years_50 : decode cX10_years 50 = .ok ((.aload_n 0), 1) := by decide +kernel
theorem dX10_years_51 : decode cX10_years 51 = .ok ((.bipush 10), 2) := by decide +kernel
theorem dX10_years_53 : decode cX10_years 53 = .ok ((.invokevirtual 153), 3) := by decide +kernel
theorem dX10_years_56 : decode cX10_years 56 = .ok (.ireturn, 1) := by decide +kernel
theorem dX10_years_57 : decode cX10_years 57 = .ok ((.aload_n 0), 1) := by decide +kernel
theorem dX10_years_58 : decode cX10_years 58 = .ok ((.getfield 26), 3) := by decide +kernel
theorem dX10_years_61 : decode cX10_years 61 = .ok ((.getfield 48), 3) := by decide +kernel
theorem dX10_years_64 : decode cX10_years 64 = .ok ((.aload_n 0), 1) := by decide +kernel
theorem dX10_years_65 : decode cX10_years 65 = .ok ((.getfield 30), 3) := by decide +kernel
theorem dX10_years_68 : decode cX10_years 68 = .ok ((.getfield 48), 3) := by decide +kernel
theorem dX10_years_71 : decode cX10_years 71 = .ok ((.invokevirtual 177), 3) := by decide +kernel
theorem dX10_years_74 : decode cX10_years 74 = .ok ((.aload_n 0), 1) := by decide +kernel
theorem dX10_years_75 : decode cX10_years 75 = .ok ((.aload_n 0), 1) := by decide +kernel
theorem dX10_years_76 : decode cX10_years 76 = .ok ((.getfield 26), 3) := by decide +kernel
theorem dX10_years_79 : decode cX10_years 79 = .ok ((.getfield 48), 3) := by decide +kernel
theorem dX10_years_82 : decode cX10_years 82 = .ok ((.getfield 182), 3) := by decide +kernel
theorem dX10_years_85 : decode cX10_years 85 = .ok ((.invokevirtual 173), 3) := by decide +kernel
theorem dX10_years_88 : decode cX10_years 88 = .ok (.ireturn, 1) := by decide +kernel
def p_X10_years_22  (a1 : Int32)   (post : Int32 → vSt → Prop) (S : vSt)  : Prop := p_X10_refused  S 5 (fun r14 S13 => post r14 S13)
def p_X10_years   (S : vSt) (a1 : Int32) (post : Int32 → vSt → Prop) : Prop := ((a1 < 0 → p_X10_years_22 a1 post S ) ∧ (¬ a1 < 0 → (((S.1 5 1) < a1 → p_X10_years_22 a1 post S ) ∧ (¬ (S.1 5 1) < a1 → ((a1 ≤ 300 → p_X6_split  S a1 (fun S13 => p_X9_readText  S13  (fun r15 S14 => p_X10_tellFault  S14 r15 (fun r17 S16 => ((r17 = true → p_X8_copyFrom 10 32 S16  (fun S18 => p_X10_told  S18 (S18.1 25 7) (fun r20 S19 => post r20 S19))) ∧ (r17 = false → p_X10_refused  S16 10 (fun r22 S21 => post r22 S21))))))) ∧ (¬ a1 ≤ 300 → p_X10_years_22 a1 post S ))))))
set_option maxHeartbeats 4000000 in
set_option maxRecDepth 100000 in
theorem q_X10_years_22 {X : vX} {G : vG}  {post : Int32 → vSt → Prop} (C : v_Cx X G cX10_years RX10 2 (v_rm 7 295)) (D : v_Rx X G (v_Qi G post) (some .int))  {a1 : Int32}   : ∀ (S : vSt), p_X10_years_22 a1 post S  → VJ X G S 22 [(0, .ref (G.1 0))] [] := by
  intro S  h
  refine V_aload_n C 0 dX10_years_22 rfl rfl ?_
  refine V_iconst (v := 5) C dX10_years_23 (by decide) ?_
  refine V_callVi (As := [.int 5]) (rest := []) C (c_X10_refused (v_l X) G  _ _ h) 0 10 (by decide) (by decide) (by decide) rfl KV_X10_refused k_RX10_153 rfl rfl rfl (Nat.le_of_ble_eq_true rfl) ⟨Nat.le_of_ble_eq_true rfl, Nat.le_of_ble_eq_true rfl⟩ dX10_years_24 (fun r14 S13 h => ?_)
  exact V_iret C D dX10_years_27 h
set_option maxHeartbeats 4000000 in
set_option maxRecDepth 100000 in
theorem c_X10_years (l : Launch) (G : vG)    {S : vSt} (a1 : Int32) (post : Int32 → vSt → Prop) (h : p_X10_years   S a1 post) : Met l yX10_years (v_ws yX10_years cX10_years 2 (some .int)) (v_rm 7 295) (v_Pc G [.ref (G.1 0), .int a1] S) (v_Qi G post) 0 0 (v_A G) := by
  refine v_start (by decide +kernel) (Nat.le_of_ble_eq_true rfl) (fun X hl C D => ?_)
  subst hl
  have C : v_Cx X G cX10_years RX10 2 (v_rm 7 295) := C
  show VJ X G S 0 [(0, .ref (G.1 0)), (1, .int a1)] []
  refine V_iload_n C 1 dX10_years_0 rfl rfl ?_
  refine V_if_lt (tgt := 22) C dX10_years_1 (by decide) (fun c => ?_) (fun c => ?_)
  · have h := h.1 c
    refine V_loc (lv' := [(0, .ref (G.1 0))]) [0] rfl ?_
    exact q_X10_years_22 C D  _ h
  · have h := h.2 c
    refine V_iload_n C 1 dX10_years_4 rfl rfl ?_
    refine V_aload_n C 0 dX10_years_5 rfl rfl ?_
    refine V_ga C 0 (by decide) (by decide) F_10_1 k_RX10_19 dX10_years_6 ?_
    refine V_gi C 5 (by decide) (by decide) F_6_1 k_RX10_150 dX10_years_9 ?_
    refine V_icmp_gt (tgt := 22) C dX10_years_12 (by decide) (fun c => ?_) (fun c => ?_)
    · have h := h.1 c
      refine V_loc (lv' := [(0, .ref (G.1 0))]) [0] rfl ?_
      exact q_X10_years_22 C D  _ h
    · have h := h.2 c
      refine V_iload_n C 1 dX10_years_15 rfl rfl ?_
      refine V_sipush (v := 300) C dX10_years_16 (by decide) ?_
      refine V_icmp_le (tgt := 28) C dX10_years_19 (by decide) (fun c => ?_) (fun c => ?_)
      · have h := h.1 c
        refine V_aload_n C 0 dX10_years_28 rfl rfl ?_
        refine V_ga C 0 (by decide) (by decide) F_10_1 k_RX10_19 dX10_years_29 ?_
        refine V_iload_n C 1 dX10_years_32 rfl rfl ?_
        refine V_callVv (As := [.int a1]) (rest := []) C (c_X6_split (v_l X) G  _ _ h) 5 6 (by decide) (by decide) (by decide) rfl KV_X6_split k_RX10_157 rfl rfl rfl (Nat.le_of_ble_eq_true rfl) ⟨Nat.le_of_ble_eq_true rfl, Nat.le_of_ble_eq_true rfl⟩ dX10_years_33 (fun S13 h => ?_)
        refine V_aload_n C 0 dX10_years_36 rfl rfl ?_
        refine V_aload_n C 0 dX10_years_37 rfl rfl ?_
        refine V_ga C 0 (by decide) (by decide) F_10_6 k_RX10_55 dX10_years_38 ?_
        refine V_callVz (As := []) (rest := [.ref (G.1 0)]) C (c_X9_readText (v_l X) G  _ h) 56 9 (by decide) (by decide) (by decide) rfl KV_X9_readText k_RX10_176 rfl rfl rfl (Nat.le_of_ble_eq_true rfl) ⟨Nat.le_of_ble_eq_true rfl, Nat.le_of_ble_eq_true rfl⟩ dX10_years_41 (fun r15 S14 h => ?_)
        refine V_callVz (As := [.int (v_b r15)]) (rest := []) C (c_X10_tellFault (v_l X) G  _ _ h) 0 10 (by decide) (by decide) (by decide) rfl KV_X10_tellFault k_RX10_163 rfl rfl rfl (Nat.le_of_ble_eq_true rfl) ⟨Nat.le_of_ble_eq_true rfl, Nat.le_of_ble_eq_true rfl⟩ dX10_years_44 (fun r17 S16 h => ?_)
        refine V_ifb_ne (tgt := 57) C dX10_years_47 (by decide) (fun c => ?_) (fun c => ?_)
        · have h := h.1 c
          refine V_aload_n C 0 dX10_years_57 rfl rfl ?_
          refine V_ga C 0 (by decide) (by decide) F_10_2 k_RX10_26 dX10_years_58 ?_
          refine V_gr C 10 (by decide) (by decide) F_0_14 k_RX10_48 dX10_years_61 ?_
          refine V_aload_n C 0 dX10_years_64 rfl rfl ?_
          refine V_ga C 0 (by decide) (by decide) F_10_3 k_RX10_30 dX10_years_65 ?_
          refine V_gr C 32 (by decide) (by decide) F_0_14 k_RX10_48 dX10_years_68 ?_
          refine V_callVv (As := [.ref (G.1 47)]) (rest := []) C (c_X8_copyFrom (v_l X) G v_i10 v_i32 _ h) 25 8 (by decide) (by decide) (by decide) rfl KV_X8_copyFrom k_RX10_177 rfl rfl rfl (Nat.le_of_ble_eq_true rfl) ⟨Nat.le_of_ble_eq_true rfl, Nat.le_of_ble_eq_true rfl⟩ dX10_years_71 (fun S18 h => ?_)
          refine V_aload_n C 0 dX10_years_74 rfl rfl ?_
          refine V_aload_n C 0 dX10_years_75 rfl rfl ?_
          refine V_ga C 0 (by decide) (by decide) F_10_2 k_RX10_26 dX10_years_76 ?_
          refine V_gr C 10 (by decide) (by decide) F_0_14 k_RX10_48 dX10_years_79 ?_
          refine V_gi C 25 (by decide) (by decide) F_8_7 k_RX10_182 dX10_years_82 ?_
          refine V_callVi (As := [.int (S18.1 25 7)]) (rest := []) C (c_X10_told (v_l X) G  _ _ h) 0 10 (by decide) (by decide) (by decide) rfl KV_X10_told k_RX10_173 rfl rfl rfl (Nat.le_of_ble_eq_true rfl) ⟨Nat.le_of_ble_eq_true rfl, Nat.le_of_ble_eq_true rfl⟩ dX10_years_85 (fun r20 S19 h => ?_)
          exact V_iret C D dX10_years_88 h
        · have h := h.2 c
          refine V_aload_n C 0 dX10_years_50 rfl rfl ?_
          refine V_bipush (v := 10) C dX10_years_51 (by decide) ?_
          refine V_callVi (As := [.int 10]) (rest := []) C (c_X10_refused (v_l X) G  _ _ h) 0 10 (by decide) (by decide) (by decide) rfl KV_X10_refused k_RX10_153 rfl rfl rfl (Nat.le_of_ble_eq_true rfl) ⟨Nat.le_of_ble_eq_true rfl, Nat.le_of_ble_eq_true rfl⟩ dX10_years_53 (fun r22 S21 h => ?_)
          exact V_iret C D dX10_years_56 h
      · have h := h.2 c
        refine V_loc (lv' := [(0, .ref (G.1 0))]) [0] rfl ?_
        exact q_X10_years_22 C D  _ h
/-! HalfAccuser.rule(II)Z -/
theorem dX10_rule_0 : decode cX10_rule 0 = .ok ((.iload_n 1), 1) := by decide +kernel
theorem dX10_rule_1 : decode cX10_rule 1 = .ok ((.ifCond .lt 30), 3) := by decide +kernel
theorem dX10_rule_4 : decode cX10_rule 4 = .ok ((.iload_n 1), 1) := by decide +kernel
theorem dX10_rule_5 : decode cX10_rule 5 = .ok ((.iconst 4), 1) := by decide +kernel
theorem dX10_rule_6 : decode cX10_rule 6 = .ok ((.if_icmp .ge 25), 3) := by decide +kernel
theorem dX10_rule_9 : decode cX10_rule 9 = .ok ((.iload_n 2), 1) := by decide +kernel
theorem dX10_rule_10 : decode cX10_rule 10 = .ok ((.getstatic 262), 3) := by decide +kernel
theorem dX10_rule_13 : decode cX10_rule 13 = .ok ((.iload_n 1), 1) := by decide +kernel
theorem dX10_rule_14 : decode cX10_rule 14 = .ok ((.invokestatic 212), 3) := by decide +kernel
theorem dX10_rule_17 : decode cX10_rule 17 = .ok ((.if_icmp .lt 14), 3) := by decide +kernel
theorem dX10_rule_20 : decode cX10_rule 20 = .ok ((.iload_n 2), 1) := by decide +kernel
theorem dX10_rule_21 : decode cX10_rule 21 = .ok ((.getstatic 265), 3) := by decide +kernel
theorem dX10_rule_24 : decode cX10_rule 24 = .ok ((.iload_n 1), 1) := by decide +kernel
theorem dX10_rule_25 : decode cX10_rule 25 = .ok ((.invokestatic 212), 3) := by decide +kernel
theorem dX10_rule_28 : decode cX10_rule 28 = .ok ((.if_icmp .le 9), 3) := by decide +kernel
theorem dX10_rule_31 : decode cX10_rule 31 = .ok ((.aload_n 0), 1) := by decide +kernel
theorem dX10_rule_32 : decode cX10_rule 32 = .ok ((.iconst 5), 1) := by decide +kernel
theorem dX10_rule_33 : decode cX10_rule 33 = .ok ((.invokevirtual 116), 3) := by decide +kernel
theorem dX10_rule_36 : decode cX10_rule 36 = .ok (.ireturn, 1) := by decide +kernel
theorem dX10_rule_37 : decode cX10_rule 37 = .ok ((.aload_n 0), 1) := by decide +kernel
theorem dX10_rule_38 : decode cX10_rule 38 = .ok ((.getfield 26), 3) := by decide +kernel
theorem dX10_rule_41 : decode cX10_rule 41 = .ok ((.getfield 268), 3) := by decide +kernel
theorem dX10_rule_44 : decode cX10_rule 44 = .ok ((.iload_n 1), 1) := by decide +kernel
theorem dX10_rule_45 : decode cX10_rule 45 = .ok ((.iload_n 2), 1) := by decide +kernel
theorem dX10_rule_46 : decode cX10_rule 46 = .ok ((.invokestatic 254), 3) := by decide +kernel
theorem dX10_rule_49 : decode cX10_rule 49 = .ok ((.aload_n 0), 1) := by decide +kernel
theorem dX10_rule_50 : decode cX10_rule 50 = .ok ((.iconst 0), 1) := by decide +kernel
theorem dX10_rule_51 : decode cX10_rule 51 = .ok ((.invokevirtual 116), 3) := by decide +kernel
theorem dX10_rule_54 : decode cX10_rule 54 = .ok (.ireturn, 1) := by decide +kernel
def p_X10_rule_31  (a1 : Int32) (a2 : Int32)   (post : Bool → vSt → Prop) (S : vSt)  : Prop := p_X10_settled  S 5 (fun r11 S10 => post r11 S10)
def p_X10_rule   (S : vSt) (a1 : Int32) (a2 : Int32) (post : Bool → vSt → Prop) : Prop := ((a1 < 0 → p_X10_rule_31 a1 a2 post S ) ∧ (¬ a1 < 0 → ((4 ≤ a1 → p_X10_rule_31 a1 a2 post S ) ∧ (¬ 4 ≤ a1 → p_X10_at_s 1 S a1 (fun r11 S10 => ((a2 < r11 → p_X10_rule_31 a1 a2 post S10 ) ∧ (¬ a2 < r11 → p_X10_at_s 2 S10 a1 (fun r13 S12 => ((a2 ≤ r13 → p_X10_put 11 4 S12 a1 a2 (fun S14 => p_X10_settled  S14 0 (fun r16 S15 => post r16 S15))) ∧ (¬ a2 ≤ r13 → p_X10_rule_31 a1 a2 post S12 ))))))))))
set_option maxHeartbeats 4000000 in
set_option maxRecDepth 100000 in
theorem q_X10_rule_31 {X : vX} {G : vG}  {post : Bool → vSt → Prop} (C : v_Cx X G cX10_rule RX10 3 (v_rm 1 62)) (D : v_Rx X G (v_Qz G post) (some .boolean))  {a1 : Int32} {a2 : Int32}   : ∀ (S : vSt), p_X10_rule_31 a1 a2 post S  → VJ X G S 31 [(0, .ref (G.1 0))] [] := by
  intro S  h
  refine V_aload_n C 0 dX10_rule_31 rfl rfl ?_
  refine V_iconst (v := 5) C dX10_rule_32 (by decide) ?_
  refine V_callVz (As := [.int 5]) (rest := []) C (c_X10_settled (v_l X) G  _ _ h) 0 10 (by decide) (by decide) (by decide) rfl KV_X10_settled k_RX10_116 rfl rfl rfl (Nat.le_of_ble_eq_true rfl) ⟨Nat.le_of_ble_eq_true rfl, Nat.le_of_ble_eq_true rfl⟩ dX10_rule_33 (fun r11 S10 h => ?_)
  exact V_zret C D dX10_rule_36 h
set_option maxHeartbeats 4000000 in
set_option maxRecDepth 100000 in
theorem c_X10_rule (l : Launch) (G : vG)    {S : vSt} (a1 : Int32) (a2 : Int32) (post : Bool → vSt → Prop) (h : p_X10_rule   S a1 a2 post) : Met l yX10_rule (v_ws yX10_rule cX10_rule 3 (some .boolean)) (v_rm 1 62) (v_Pc G [.ref (G.1 0), .int a1, .int a2] S) (v_Qz G post) 0 0 (v_A G) := by
  refine v_start (by decide +kernel) (Nat.le_of_ble_eq_true rfl) (fun X hl C D => ?_)
  subst hl
  have C : v_Cx X G cX10_rule RX10 3 (v_rm 1 62) := C
  show VJ X G S 0 [(0, .ref (G.1 0)), (1, .int a1), (2, .int a2)] []
  refine V_iload_n C 1 dX10_rule_0 rfl rfl ?_
  refine V_if_lt (tgt := 31) C dX10_rule_1 (by decide) (fun c => ?_) (fun c => ?_)
  · have h := h.1 c
    refine V_loc (lv' := [(0, .ref (G.1 0))]) [0] rfl ?_
    exact q_X10_rule_31 C D  _ h
  · have h := h.2 c
    refine V_iload_n C 1 dX10_rule_4 rfl rfl ?_
    refine V_iconst (v := 4) C dX10_rule_5 (by decide) ?_
    refine V_icmp_ge (tgt := 31) C dX10_rule_6 (by decide) (fun c => ?_) (fun c => ?_)
    · have h := h.1 c
      refine V_loc (lv' := [(0, .ref (G.1 0))]) [0] rfl ?_
      exact q_X10_rule_31 C D  _ h
    · have h := h.2 c
      refine V_iload_n C 2 dX10_rule_9 rfl rfl ?_
      refine V_gets C 1 (by decide) k_RX10_262 dX10_rule_10 ?_
      refine V_iload_n C 1 dX10_rule_13 rfl rfl ?_
      refine V_callSi (As := [.ref (G.1 156), .int a1]) (rest := [.int a2]) C (c_X10_at_s (v_l X) G (by decide) _ _ h) KV_X10_at k_RX10_212 rfl rfl rfl (Nat.le_of_ble_eq_true rfl) ⟨Nat.le_of_ble_eq_true rfl, Nat.le_of_ble_eq_true rfl⟩ dX10_rule_14 (fun r11 S10 h => ?_)
      refine V_icmp_lt (tgt := 31) C dX10_rule_17 (by decide) (fun c => ?_) (fun c => ?_)
      · have h := h.1 c
        refine V_loc (lv' := [(0, .ref (G.1 0))]) [0] rfl ?_
        exact q_X10_rule_31 C D  _ h
      · have h := h.2 c
        refine V_iload_n C 2 dX10_rule_20 rfl rfl ?_
        refine V_gets C 2 (by decide) k_RX10_265 dX10_rule_21 ?_
        refine V_iload_n C 1 dX10_rule_24 rfl rfl ?_
        refine V_callSi (As := [.ref (G.1 157), .int a1]) (rest := [.int a2]) C (c_X10_at_s (v_l X) G (by decide) _ _ h) KV_X10_at k_RX10_212 rfl rfl rfl (Nat.le_of_ble_eq_true rfl) ⟨Nat.le_of_ble_eq_true rfl, Nat.le_of_ble_eq_true rfl⟩ dX10_rule_25 (fun r13 S12 h => ?_)
        refine V_icmp_le (tgt := 37) C dX10_rule_28 (by decide) (fun c => ?_) (fun c => ?_)
        · have h := h.1 c
          refine V_aload_n C 0 dX10_rule_37 rfl rfl ?_
          refine V_ga C 0 (by decide) (by decide) F_10_2 k_RX10_26 dX10_rule_38 ?_
          refine V_gr C 10 (by decide) (by decide) F_0_0 k_RX10_268 dX10_rule_41 ?_
          refine V_iload_n C 1 dX10_rule_44 rfl rfl ?_
          refine V_iload_n C 2 dX10_rule_45 rfl rfl ?_
          refine V_callSv (As := [.ref (G.1 11), .int a1, .int a2]) (rest := []) C (c_X10_put (v_l X) G (by decide) (by decide) _ _ _ h) KV_X10_put k_RX10_254 rfl rfl rfl (Nat.le_of_ble_eq_true rfl) ⟨Nat.le_of_ble_eq_true rfl, Nat.le_of_ble_eq_true rfl⟩ dX10_rule_46 (fun S14 h => ?_)
          refine V_aload_n C 0 dX10_rule_49 rfl rfl ?_
          refine V_iconst (v := 0) C dX10_rule_50 (by decide) ?_
          refine V_callVz (As := [.int 0]) (rest := []) C (c_X10_settled (v_l X) G  _ _ h) 0 10 (by decide) (by decide) (by decide) rfl KV_X10_settled k_RX10_116 rfl rfl rfl (Nat.le_of_ble_eq_true rfl) ⟨Nat.le_of_ble_eq_true rfl, Nat.le_of_ble_eq_true rfl⟩ dX10_rule_51 (fun r16 S15 h => ?_)
          exact V_zret C D dX10_rule_54 h
        · have h := h.2 c
          refine V_loc (lv' := [(0, .ref (G.1 0))]) [0] rfl ?_
          exact q_X10_rule_31 C D  _ h
/-! HalfAccuser.seen()LHalfAccuser$Hopes; -/
theorem dX10_seen_0 : decode cX10_seen 0 = .ok ((.aload_n 0), 1) := by decide +kernel
theorem dX10_seen_1 : decode cX10_seen 1 = .ok ((.getfield 64), 3) := by decide +kernel
theorem dX10_seen_4 : decode cX10_seen 4 = .ok ((.invokevirtual 365), 3) := by decide +kernel
theorem dX10_seen_7 : decode cX10_seen 7 = .ok ((.aload_n 0), 1) := by decide +kernel
theorem dX10_seen_8 : decode cX10_seen 8 = .ok ((.getfield 64), 3) := by decide +kernel
theorem dX10_seen_11 : decode cX10_seen 11 = .ok (.areturn, 1) := by decide +kernel
def p_X10_seen   (S : vSt)  (post : vSt → Prop) : Prop := p_X3_see  S  (fun S2 => post S2)
set_option maxHeartbeats 4000000 in
set_option maxRecDepth 100000 in
theorem c_X10_seen (l : Launch) (G : vG)    {S : vSt}  (post : vSt → Prop) (h : p_X10_seen   S  post) : Met l yX10_seen (v_ws yX10_seen cX10_seen 1 (some (.object "HalfAccuser$Hopes"))) (v_rm 5 156) (v_Pc G [.ref (G.1 0)] S) (v_Qr G 58 post) 0 0 (v_A G) := by
  refine v_start (by decide +kernel) (Nat.le_of_ble_eq_true rfl) (fun X hl C D => ?_)
  subst hl
  have C : v_Cx X G cX10_seen RX10 1 (v_rm 5 156) := C
  show VJ X G S 0 [(0, .ref (G.1 0))] []
  refine V_aload_n C 0 dX10_seen_0 rfl rfl ?_
  refine V_ga C 0 (by decide) (by decide) F_10_7 k_RX10_64 dX10_seen_1 ?_
  refine V_callVv (As := []) (rest := []) C (c_X3_see (v_l X) G  _ h) 58 3 (by decide) (by decide) (by decide) rfl KV_X3_see k_RX10_365 rfl rfl rfl (Nat.le_of_ble_eq_true rfl) ⟨Nat.le_of_ble_eq_true rfl, Nat.le_of_ble_eq_true rfl⟩ dX10_seen_4 (fun S2 h => ?_)
  refine V_aload_n C 0 dX10_seen_7 rfl rfl ?_
  refine V_ga C 0 (by decide) (by decide) F_10_7 k_RX10_64 dX10_seen_8 ?_
  exact V_aret C 58 D dX10_seen_11 h
/-! HalfAccuser.gain(II)Z -/
theorem dX10_gain_0 : decode cX10_gain 0 = .ok ((.aload_n 0), 1) := by decide +kernel
theorem dX10_gain_1 : decode cX10_gain 1 = .ok ((.iload_n 1), 1) := by decide +kernel
theorem dX10_gain_2 : decode cX10_gain 2 = .ok ((.iload_n 2), 1) := by decide +kernel
theorem dX10_gain_3 : decode cX10_gain 3 = .ok ((.invokevirtual 304), 3) := by decide +kernel
theorem dX10_gain_6 : decode cX10_gain 6 = .ok ((.istore_n 3), 1) := by decide +kernel
theorem dX10_gain_7 : decode cX10_gain 7 = .ok ((.iload_n 3), 1) := by decide +kernel
theorem dX10_gain_8 : decode cX10_gain 8 = .ok ((.ifCond .eq 9), 3) := by decide +kernel
theorem dX10_gain_11 : decode cX10_gain 11 = .ok ((.aload_n 0), 1) := by decide +kernel
theorem dX10_gain_12 : decode cX10_gain 12 = .ok ((.iload_n 3), 1) := by decide +kernel
theorem dX10_gain_13 : decode cX10_gain 13 = .ok ((.invokevirtual 116), 3) := by decide +kernel
theorem dX10_gain_16 : decode cX10_gain 16 = .ok (.ireturn, 1) := by decide +kernel
theorem dX10_gain_17 : decode cX10_gain 17 = .ok ((.aload_n 0), 1) := by decide +kernel
theorem dX10_gain_18 : decode cX10_gain 18 = .ok ((.aload_n 0), 1) := by decide +kernel
theorem dX10_gain_19 : decode cX10_gain 19 = .ok ((.invokevirtual 307), 3) := by decide +kernel
theorem dX10_gain_22 : decode cX10_gain 22 = .ok ((.iload_n 1), 1) := by decide +kernel
theorem dX10_gain_23 : decode cX10_gain 23 = .ok ((.iload_n 2), 1) := by decide +kernel
theorem dX10_gain_24 : decode cX10_gain 24 = .ok ((.invokevirtual 311), 3) := by decide +kernel
theorem dX10_gain_27 : decode cX10_gain 27 = .ok ((.aload_n 0), 1) := by decide +kernel
theorem dX10_gain_28 : decode cX10_gain 28 = .ok ((.getfield 64), 3) := by decide +kernel
theorem dX10_gain_31 : decode cX10_gain 31 = .ok ((.invokevirtual 290), 3) := by decide +kernel
theorem dX10_gain_34 : decode cX10_gain 34 = .ok ((.invokevirtual 294), 3) := by decide +kernel
theorem dX10_gain_37 : decode cX10_gain 37 = .ok (.ireturn, 1) := by decide +kernel
def p_X10_gain   (S : vSt) (a1 : Int32) (a2 : Int32) (post : Bool → vSt → Prop) : Prop := p_X10_meanStatus  S a1 a2 (fun r13 S12 => ((r13 = 0 → p_X10_seen  S12  (fun S14 => p_X3_gainOf  S14 a1 a2 (fun r16 S15 => p_X3_whole  S15  (fun r18 S17 => p_X10_tell  S17 r16 r18 (fun r20 S19 => post r20 S19))))) ∧ (¬ r13 = 0 → p_X10_settled  S12 r13 (fun r22 S21 => post r22 S21))))
set_option maxHeartbeats 4000000 in
set_option maxRecDepth 100000 in
theorem c_X10_gain (l : Launch) (G : vG)    {S : vSt} (a1 : Int32) (a2 : Int32) (post : Bool → vSt → Prop) (h : p_X10_gain   S a1 a2 post) : Met l yX10_gain (v_ws yX10_gain cX10_gain 4 (some .boolean)) (v_rm 6 176) (v_Pc G [.ref (G.1 0), .int a1, .int a2] S) (v_Qz G post) 0 0 (v_A G) := by
  refine v_start (by decide +kernel) (Nat.le_of_ble_eq_true rfl) (fun X hl C D => ?_)
  subst hl
  have C : v_Cx X G cX10_gain RX10 4 (v_rm 6 176) := C
  show VJ X G S 0 [(0, .ref (G.1 0)), (1, .int a1), (2, .int a2)] []
  refine V_aload_n C 0 dX10_gain_0 rfl rfl ?_
  refine V_iload_n C 1 dX10_gain_1 rfl rfl ?_
  refine V_iload_n C 2 dX10_gain_2 rfl rfl ?_
  refine V_callVi (As := [.int a1, .int a2]) (rest := []) C (c_X10_meanStatus (v_l X) G  _ _ _ h) 0 10 (by decide) (by decide) (by decide) rfl KV_X10_meanStatus k_RX10_304 rfl rfl rfl (Nat.le_of_ble_eq_true rfl) ⟨Nat.le_of_ble_eq_true rfl, Nat.le_of_ble_eq_true rfl⟩ dX10_gain_3 (fun r13 S12 h => ?_)
  refine V_istore_n (lv' := [(0, .ref (G.1 0)), (1, .int a1), (2, .int a2), (3, .int r13)]) C [1, 2, 3, 0] dX10_gain_6 rfl (by decide) rfl ?_
  refine V_iload_n C 3 dX10_gain_7 rfl rfl ?_
  refine V_if_eq (tgt := 17) C dX10_gain_8 (by decide) (fun c => ?_) (fun c => ?_)
  · have h := h.1 c
    refine V_aload_n C 0 dX10_gain_17 rfl rfl ?_
    refine V_aload_n C 0 dX10_gain_18 rfl rfl ?_
    refine V_callVr (As := []) (rest := [.ref (G.1 0)]) C (c_X10_seen (v_l X) G  _ h) 0 10 (by decide) (by decide) (by decide) rfl KV_X10_seen k_RX10_307 rfl rfl rfl (Nat.le_of_ble_eq_true rfl) ⟨Nat.le_of_ble_eq_true rfl, Nat.le_of_ble_eq_true rfl⟩ dX10_gain_19 (fun S14 h => ?_)
    refine V_iload_n C 1 dX10_gain_22 rfl rfl ?_
    refine V_iload_n C 2 dX10_gain_23 rfl rfl ?_
    refine V_callVl (As := [.int a1, .int a2]) (rest := [.ref (G.1 0)]) C (c_X3_gainOf (v_l X) G  _ _ _ h) 58 3 (by decide) (by decide) (by decide) rfl KV_X3_gainOf k_RX10_311 rfl rfl rfl (Nat.le_of_ble_eq_true rfl) ⟨Nat.le_of_ble_eq_true rfl, Nat.le_of_ble_eq_true rfl⟩ dX10_gain_24 (fun r16 S15 h => ?_)
    refine V_aload_n C 0 dX10_gain_27 rfl rfl ?_
    refine V_ga C 0 (by decide) (by decide) F_10_7 k_RX10_64 dX10_gain_28 ?_
    refine V_callVl (As := []) (rest := [.long r16, .ref (G.1 0)]) C (c_X3_whole (v_l X) G  _ h) 58 3 (by decide) (by decide) (by decide) rfl KV_X3_whole k_RX10_290 rfl rfl rfl (Nat.le_of_ble_eq_true rfl) ⟨Nat.le_of_ble_eq_true rfl, Nat.le_of_ble_eq_true rfl⟩ dX10_gain_31 (fun r18 S17 h => ?_)
    refine V_callVz (As := [.long r16, .long r18]) (rest := []) C (c_X10_tell (v_l X) G  _ _ _ h) 0 10 (by decide) (by decide) (by decide) rfl KV_X10_tell k_RX10_294 rfl rfl rfl (Nat.le_of_ble_eq_true rfl) ⟨Nat.le_of_ble_eq_true rfl, Nat.le_of_ble_eq_true rfl⟩ dX10_gain_34 (fun r20 S19 h => ?_)
    exact V_zret C D dX10_gain_37 h
  · have h := h.2 c
    refine V_aload_n C 0 dX10_gain_11 rfl rfl ?_
    refine V_iload_n C 3 dX10_gain_12 rfl rfl ?_
    refine V_callVz (As := [.int r13]) (rest := []) C (c_X10_settled (v_l X) G  _ _ h) 0 10 (by decide) (by decide) (by decide) rfl KV_X10_settled k_RX10_116 rfl rfl rfl (Nat.le_of_ble_eq_true rfl) ⟨Nat.le_of_ble_eq_true rfl, Nat.le_of_ble_eq_true rfl⟩ dX10_gain_13 (fun r22 S21 h => ?_)
    exact V_zret C D dX10_gain_16 h
/-! HalfAccuser.loss(II)Z -/
theorem dX10_loss_0 : decode cX10_loss 0 = .ok ((.aload_n 0), 1) := by decide +kernel
theorem dX10_loss_1 : decode cX10_loss 1 = .ok ((.iload_n 1), 1) := by decide +kernel
theorem dX10_loss_2 : decode cX10_loss 2 = .ok ((.iload_n 2), 1) := by decide +kernel
theorem dX10_loss_3 : decode cX10_loss 3 = .ok ((.invokevirtual 304), 3) := by decide +kernel
theorem dX10_loss_6 : decode cX10_loss 6 = .ok ((.istore_n 3), 1) := by decide +kernel
theorem dX10_loss_7 : decode cX10_loss 7 = .ok ((.iload_n 3), 1) := by decide +kernel
theorem dX10_loss_8 : decode cX10_loss 8 = .ok ((.ifCond .eq 9), 3) := by decide +kernel
theorem dX10_loss_11 : decode cX10_loss 11 = .ok ((.aload_n 0), 1) := by decide +kernel
theorem dX10_loss_12 : decode cX10_loss 12 = .ok ((.iload_n 3), 1) := by decide +kernel
theorem dX10_loss_13 : decode cX10_loss 13 = .ok ((.invokevirtual 116), 3) := by decide +kernel
theorem dX10_loss_16 : decode cX10_loss 16 = .ok (.ireturn, 1) := by decide +kernel
theorem dX10_loss_17 : decode cX10_loss 17 = .ok ((.aload_n 0), 1) := by decide +kernel
theorem dX10_loss_18 : decode cX10_loss 18 = .ok ((.aload_n 0), 1) := by decide +kernel
theorem dX10_loss_19 : decode cX10_loss 19 = .ok ((.invokevirtual 307), 3) := by decide +kernel
theorem dX10_loss_22 : decode cX10_loss 22 = .ok ((.iload_n 1), 1) := by decide +kernel
theorem dX10_loss_23 : decode cX10_loss 23 = .ok ((.iload_n 2), 1) := by decide +kernel
theorem dX10_loss_24 : decode cX10_loss 24 = .ok ((.invokevirtual 314), 3) := by decide +kernel
theorem dX10_loss_27 : decode cX10_loss 27 = .ok ((.aload_n 0), 1) := by decide +kernel
theorem dX10_loss_28 : decode cX10_loss 28 = .ok ((.getfield 64), 3) := by decide +kernel
theorem dX10_loss_31 : decode cX10_loss 31 = .ok ((.invokevirtual 290), 3) := by decide +kernel
theorem dX10_loss_34 : decode cX10_loss 34 = .ok ((.invokevirtual 294), 3) := by decide +kernel
theorem dX10_loss_37 : decode cX10_loss 37 = .ok (.ireturn, 1) := by decide +kernel
def p_X10_loss   (S : vSt) (a1 : Int32) (a2 : Int32) (post : Bool → vSt → Prop) : Prop := p_X10_meanStatus  S a1 a2 (fun r13 S12 => ((r13 = 0 → p_X10_seen  S12  (fun S14 => p_X3_lossOf  S14 a1 a2 (fun r16 S15 => p_X3_whole  S15  (fun r18 S17 => p_X10_tell  S17 r16 r18 (fun r20 S19 => post r20 S19))))) ∧ (¬ r13 = 0 → p_X10_settled  S12 r13 (fun r22 S21 => post r22 S21))))
set_option maxHeartbeats 4000000 in
set_option maxRecDepth 100000 in
theorem c_X10_loss (l : Launch) (G : vG)    {S : vSt} (a1 : Int32) (a2 : Int32) (post : Bool → vSt → Prop) (h : p_X10_loss   S a1 a2 post) : Met l yX10_loss (v_ws yX10_loss cX10_loss 4 (some .boolean)) (v_rm 6 176) (v_Pc G [.ref (G.1 0), .int a1, .int a2] S) (v_Qz G post) 0 0 (v_A G) := by
  refine v_start (by decide +kernel) (Nat.le_of_ble_eq_true rfl) (fun X hl C D => ?_)
  subst hl
  have C : v_Cx X G cX10_loss RX10 4 (v_rm 6 176) := C
  show VJ X G S 0 [(0, .ref (G.1 0)), (1, .int a1), (2, .int a2)] []
  refine V_aload_n C 0 dX10_loss_0 rfl rfl ?_
  refine V_iload_n C 1 dX10_loss_1 rfl rfl ?_
  refine V_iload_n C 2 dX10_loss_2 rfl rfl ?_
  refine V_callVi (As := [.int a1, .int a2]) (rest := []) C (c_X10_meanStatus (v_l X) G  _ _ _ h) 0 10 (by decide) (by decide) (by decide) rfl KV_X10_meanStatus k_RX10_304 rfl rfl rfl (Nat.le_of_ble_eq_true rfl) ⟨Nat.le_of_ble_eq_true rfl, Nat.le_of_ble_eq_true rfl⟩ dX10_loss_3 (fun r13 S12 h => ?_)
  refine V_istore_n (lv' := [(0, .ref (G.1 0)), (1, .int a1), (2, .int a2), (3, .int r13)]) C [1, 2, 3, 0] dX10_loss_6 rfl (by decide) rfl ?_
  refine V_iload_n C 3 dX10_loss_7 rfl rfl ?_
  refine V_if_eq (tgt := 17) C dX10_loss_8 (by decide) (fun c => ?_) (fun c => ?_)
  · have h := h.1 c
    refine V_aload_n C 0 dX10_loss_17 rfl rfl ?_
    refine V_aload_n C 0 dX10_loss_18 rfl rfl ?_
    refine V_callVr (As := []) (rest := [.ref (G.1 0)]) C (c_X10_seen (v_l X) G  _ h) 0 10 (by decide) (by decide) (by decide) rfl KV_X10_seen k_RX10_307 rfl rfl rfl (Nat.le_of_ble_eq_true rfl) ⟨Nat.le_of_ble_eq_true rfl, Nat.le_of_ble_eq_true rfl⟩ dX10_loss_19 (fun S14 h => ?_)
    refine V_iload_n C 1 dX10_loss_22 rfl rfl ?_
    refine V_iload_n C 2 dX10_loss_23 rfl rfl ?_
    refine V_callVl (As := [.int a1, .int a2]) (rest := [.ref (G.1 0)]) C (c_X3_lossOf (v_l X) G  _ _ _ h) 58 3 (by decide) (by decide) (by decide) rfl KV_X3_lossOf k_RX10_314 rfl rfl rfl (Nat.le_of_ble_eq_true rfl) ⟨Nat.le_of_ble_eq_true rfl, Nat.le_of_ble_eq_true rfl⟩ dX10_loss_24 (fun r16 S15 h => ?_)
    refine V_aload_n C 0 dX10_loss_27 rfl rfl ?_
    refine V_ga C 0 (by decide) (by decide) F_10_7 k_RX10_64 dX10_loss_28 ?_
    refine V_callVl (As := []) (rest := [.long r16, .ref (G.1 0)]) C (c_X3_whole (v_l X) G  _ h) 58 3 (by decide) (by decide) (by decide) rfl KV_X3_whole k_RX10_290 rfl rfl rfl (Nat.le_of_ble_eq_true rfl) ⟨Nat.le_of_ble_eq_true rfl, Nat.le_of_ble_eq_true rfl⟩ dX10_loss_31 (fun r18 S17 h => ?_)
    refine V_callVz (As := [.long r16, .long r18]) (rest := []) C (c_X10_tell (v_l X) G  _ _ _ h) 0 10 (by decide) (by decide) (by decide) rfl KV_X10_tell k_RX10_294 rfl rfl rfl (Nat.le_of_ble_eq_true rfl) ⟨Nat.le_of_ble_eq_true rfl, Nat.le_of_ble_eq_true rfl⟩ dX10_loss_34 (fun r20 S19 h => ?_)
    exact V_zret C D dX10_loss_37 h
  · have h := h.2 c
    refine V_aload_n C 0 dX10_loss_11 rfl rfl ?_
    refine V_iload_n C 3 dX10_loss_12 rfl rfl ?_
    refine V_callVz (As := [.int r13]) (rest := []) C (c_X10_settled (v_l X) G  _ _ h) 0 10 (by decide) (by decide) (by decide) rfl KV_X10_settled k_RX10_116 rfl rfl rfl (Nat.le_of_ble_eq_true rfl) ⟨Nat.le_of_ble_eq_true rfl, Nat.le_of_ble_eq_true rfl⟩ dX10_loss_13 (fun r22 S21 h => ?_)
    exact V_zret C D dX10_loss_16 h
/-! HalfAccuser.best(I)I -/
theorem dX10_best_0 : decode cX10_best 0 = .ok ((.aload_n 0), 1) := by decide +kernel
theorem dX10_best_1 : decode cX10_best 1 = .ok ((.getfield 26), 3) := by decide +kernel
theorem dX10_best_4 : decode cX10_best 4 = .ok ((.iload_n 1), 1) := by decide +kernel
theorem dX10_best_5 : decode cX10_best 5 = .ok ((.invokevirtual 188), 3) := by decide +kernel
theorem dX10_best_8 : decode cX10_best 8 = .ok ((.ifCond .ne 9), 3) := by decide +kernel
theorem dX10_best_11 : decode cX10_best 11 = .ok ((.aload_n 0), 1) := by decide +kernel
theorem dX10_best_12 : decode cX10_best 12 = .ok ((.iconst 2), 1) := by decide +kernel
theorem dX10_best_13 : decode cX10_best 13 = .ok ((.invokevirtual 153), 3) := by decide +kernel
theorem dX10_best_16 : decode cX10_best 16 = .ok (.ireturn, 1) := by decide +kernel
theorem dX10_best_17 : decode cX10_best 17 = .ok ((.aload_n 0), 1) := by decide +kernel
theorem dX10_best_18 : decode cX10_best 18 = .ok ((.aload_n 0), 1) := by decide +kernel
theorem dX10_best_19 : decode cX10_best 19 = .ok ((.invokevirtual 307), 3) := by decide +kernel
theorem dX10_best_22 : decode cX10_best 22 = .ok ((.iload_n 1), 1) := by decide +kernel
theorem dX10_best_23 : decode cX10_best 23 = .ok ((.invokevirtual 317), 3) := by decide +kernel
theorem dX10_best_26 : decode cX10_best 26 = .ok ((.invokevirtual 320), 3) := by decide +kernel
theorem dX10_best_29 : decode cX10_best 29 = .ok (.ireturn, 1) := by decide +kernel
def p_X10_best   (S : vSt) (a1 : Int32) (post : Int32 → vSt → Prop) : Prop := p_X0_hasPerson 10 S a1 (fun r11 S10 => ((r11 = true → p_X10_seen  S10  (fun S12 => p_X3_bestDeed  S12 a1 (fun r14 S13 => p_X10_toldIfAny  S13 r14 (fun r16 S15 => post r16 S15)))) ∧ (r11 = false → p_X10_refused  S10 2 (fun r18 S17 => post r18 S17))))
set_option maxHeartbeats 4000000 in
set_option maxRecDepth 100000 in
theorem c_X10_best (l : Launch) (G : vG)    {S : vSt} (a1 : Int32) (post : Int32 → vSt → Prop) (h : p_X10_best   S a1 post) : Met l yX10_best (v_ws yX10_best cX10_best 2 (some .int)) (v_rm 6 176) (v_Pc G [.ref (G.1 0), .int a1] S) (v_Qi G post) 0 0 (v_A G) := by
  refine v_start (by decide +kernel) (Nat.le_of_ble_eq_true rfl) (fun X hl C D => ?_)
  subst hl
  have C : v_Cx X G cX10_best RX10 2 (v_rm 6 176) := C
  show VJ X G S 0 [(0, .ref (G.1 0)), (1, .int a1)] []
  refine V_aload_n C 0 dX10_best_0 rfl rfl ?_
  refine V_ga C 0 (by decide) (by decide) F_10_2 k_RX10_26 dX10_best_1 ?_
  refine V_iload_n C 1 dX10_best_4 rfl rfl ?_
  refine V_callVz (As := [.int a1]) (rest := []) C (c_X0_hasPerson (v_l X) G v_i10 _ _ h) 10 0 (by decide) (by decide) (by decide) rfl KV_X0_hasPerson k_RX10_188 rfl rfl rfl (Nat.le_of_ble_eq_true rfl) ⟨Nat.le_of_ble_eq_true rfl, Nat.le_of_ble_eq_true rfl⟩ dX10_best_5 (fun r11 S10 h => ?_)
  refine V_ifb_ne (tgt := 17) C dX10_best_8 (by decide) (fun c => ?_) (fun c => ?_)
  · have h := h.1 c
    refine V_aload_n C 0 dX10_best_17 rfl rfl ?_
    refine V_aload_n C 0 dX10_best_18 rfl rfl ?_
    refine V_callVr (As := []) (rest := [.ref (G.1 0)]) C (c_X10_seen (v_l X) G  _ h) 0 10 (by decide) (by decide) (by decide) rfl KV_X10_seen k_RX10_307 rfl rfl rfl (Nat.le_of_ble_eq_true rfl) ⟨Nat.le_of_ble_eq_true rfl, Nat.le_of_ble_eq_true rfl⟩ dX10_best_19 (fun S12 h => ?_)
    refine V_iload_n C 1 dX10_best_22 rfl rfl ?_
    refine V_callVi (As := [.int a1]) (rest := [.ref (G.1 0)]) C (c_X3_bestDeed (v_l X) G  _ _ h) 58 3 (by decide) (by decide) (by decide) rfl KV_X3_bestDeed k_RX10_317 rfl rfl rfl (Nat.le_of_ble_eq_true rfl) ⟨Nat.le_of_ble_eq_true rfl, Nat.le_of_ble_eq_true rfl⟩ dX10_best_23 (fun r14 S13 h => ?_)
    refine V_callVi (As := [.int r14]) (rest := []) C (c_X10_toldIfAny (v_l X) G  _ _ h) 0 10 (by decide) (by decide) (by decide) rfl KV_X10_toldIfAny k_RX10_320 rfl rfl rfl (Nat.le_of_ble_eq_true rfl) ⟨Nat.le_of_ble_eq_true rfl, Nat.le_of_ble_eq_true rfl⟩ dX10_best_26 (fun r16 S15 h => ?_)
    exact V_iret C D dX10_best_29 h
  · have h := h.2 c
    refine V_aload_n C 0 dX10_best_11 rfl rfl ?_
    refine V_iconst (v := 2) C dX10_best_12 (by decide) ?_
    refine V_callVi (As := [.int 2]) (rest := []) C (c_X10_refused (v_l X) G  _ _ h) 0 10 (by decide) (by decide) (by decide) rfl KV_X10_refused k_RX10_153 rfl rfl rfl (Nat.le_of_ble_eq_true rfl) ⟨Nat.le_of_ble_eq_true rfl, Nat.le_of_ble_eq_true rfl⟩ dX10_best_13 (fun r18 S17 h => ?_)
    exact V_iret C D dX10_best_16 h
/-! HalfAccuser.plan(II)Z -/
theorem dX10_plan_0 : decode cX10_plan 0 = .ok ((.aload_n 0), 1) := by decide +kernel
theorem dX10_plan_1 : decode cX10_plan 1 = .ok ((.getfield 26), 3) := by decide +kernel
theorem dX10_plan_4 : decode cX10_plan 4 = .ok ((.iload_n 1), 1) := by decide +kernel
theorem dX10_plan_5 : decode cX10_plan 5 = .ok ((.invokevirtual 188), 3) := by decide +kernel
theorem dX10_plan_8 : decode cX10_plan 8 = .ok ((.ifCond .ne 9), 3) := by decide +kernel
theorem dX10_plan_11 : decode cX10_plan 11 = .ok ((.aload_n 0), 1) := by decide +kernel
theorem dX10_plan_12 : decode cX10_plan 12 = .ok ((.iconst 2), 1) := by decide +kernel
theorem dX10_plan_13 : decode cX10_plan 13 = .ok ((.invokevirtual 116), 3) := by decide +kernel
theorem dX10_plan_16 : decode cX10_plan 16 = .ok (.ireturn, 1) := by decide +kernel
theorem dX10_plan_17 : decode cX10_plan 17 = .ok ((.iload_n 2), 1) := by decide +kernel
theorem dX10_plan_18 : decode cX10_plan 18 = .ok ((.ifCond .lt 9), 3) := by decide +kernel
theorem dX10_plan_21 : decode cX10_plan 21 = .ok ((.iload_n 2), 1) := by decide +kernel
theorem dX10_plan_22 : decode cX10_plan 22 = .ok ((.bipush 10), 2) := by decide +kernel
theorem dX10_plan_24 : decode cX10_plan 24 = .ok ((.if_icmp .le 9), 3) := by decide +kernel
theorem dX10_plan_27 : decode cX10_plan 27 = .ok ((.aload_n 0), 1) := by decide +kernel
theorem dX10_plan_28 : decode cX10_plan 28 = .ok ((.iconst 5), 1) := by decide +kernel
theorem dX10_plan_29 : decode cX10_plan 29 = .ok ((.invokevirtual 116), 3) := by decide +kernel
theorem dX10_plan_32 : decode cX10_plan 32 = .ok (.ireturn, 1) := by decide +kernel
theorem dX10_plan_33 : decode cX10_plan 33 = .ok ((.aload_n 0), 1) := by decide +kernel
theorem dX10_plan_34 : decode cX10_plan 34 = .ok ((.aload_n 0), 1) := by decide +kernel
theorem dX10_plan_35 : decode cX10_plan 35 = .ok ((.invokevirtual 307), 3) := by decide +kernel
theorem dX10_plan_38 : decode cX10_plan 38 = .ok ((.iload_n 1), 1) := by decide +kernel
theorem dX10_plan_39 : decode cX10_plan 39 = .ok ((.iload_n 2), 1) := by decide +kernel
theorem dX10_plan_40 : decode cX10_plan 40 = .ok ((.invokevirtual 323), 3) := by decide +kernel
theorem dX10_plan_43 : decode cX10_plan 43 = .ok ((.aload_n 0), 1) := by decide +kernel
theorem dX10_plan_44 : decode cX10_plan 44 = .ok ((.getfield 64), 3) := by decide +kernel
theorem dX10_plan_47 : decode cX10_plan 47 = .ok ((.invokevirtual 290), 3) := by decide +kernel
theorem dX10_plan_50 : decode cX10_plan 50 = .ok ((.invokevirtual 294), 3) := by decide +kernel
theorem dX10_plan_53 : decode cX10_plan 53 = .ok (.ireturn, 1) := by decide +kernel
def p_X10_plan_27  (a1 : Int32) (a2 : Int32)   (post : Bool → vSt → Prop) (S : vSt)  : Prop := p_X10_settled  S 5 (fun r17 S16 => post r17 S16)
def p_X10_plan   (S : vSt) (a1 : Int32) (a2 : Int32) (post : Bool → vSt → Prop) : Prop := p_X0_hasPerson 10 S a1 (fun r15 S14 => ((r15 = true → ((a2 < 0 → p_X10_plan_27 a1 a2 post S14 ) ∧ (¬ a2 < 0 → ((a2 ≤ 10 → p_X10_seen  S14  (fun S16 => p_X3_bestSum  S16 a1 a2 (fun r18 S17 => p_X3_whole  S17  (fun r20 S19 => p_X10_tell  S19 r18 r20 (fun r22 S21 => post r22 S21))))) ∧ (¬ a2 ≤ 10 → p_X10_plan_27 a1 a2 post S14 ))))) ∧ (r15 = false → p_X10_settled  S14 2 (fun r24 S23 => post r24 S23))))
set_option maxHeartbeats 4000000 in
set_option maxRecDepth 100000 in
theorem q_X10_plan_27 {X : vX} {G : vG}  {post : Bool → vSt → Prop} (C : v_Cx X G cX10_plan RX10 3 (v_rm 6 176)) (D : v_Rx X G (v_Qz G post) (some .boolean))  {a1 : Int32} {a2 : Int32}   : ∀ (S : vSt), p_X10_plan_27 a1 a2 post S  → VJ X G S 27 [(0, .ref (G.1 0))] [] := by
  intro S  h
  refine V_aload_n C 0 dX10_plan_27 rfl rfl ?_
  refine V_iconst (v := 5) C dX10_plan_28 (by decide) ?_
  refine V_callVz (As := [.int 5]) (rest := []) C (c_X10_settled (v_l X) G  _ _ h) 0 10 (by decide) (by decide) (by decide) rfl KV_X10_settled k_RX10_116 rfl rfl rfl (Nat.le_of_ble_eq_true rfl) ⟨Nat.le_of_ble_eq_true rfl, Nat.le_of_ble_eq_true rfl⟩ dX10_plan_29 (fun r17 S16 h => ?_)
  exact V_zret C D dX10_plan_32 h
set_option maxHeartbeats 4000000 in
set_option maxRecDepth 100000 in
theorem c_X10_plan (l : Launch) (G : vG)    {S : vSt} (a1 : Int32) (a2 : Int32) (post : Bool → vSt → Prop) (h : p_X10_plan   S a1 a2 post) : Met l yX10_plan (v_ws yX10_plan cX10_plan 3 (some .boolean)) (v_rm 6 176) (v_Pc G [.ref (G.1 0), .int a1, .int a2] S) (v_Qz G post) 0 0 (v_A G) := by
  refine v_start (by decide +kernel) (Nat.le_of_ble_eq_true rfl) (fun X hl C D => ?_)
  subst hl
  have C : v_Cx X G cX10_plan RX10 3 (v_rm 6 176) := C
  show VJ X G S 0 [(0, .ref (G.1 0)), (1, .int a1), (2, .int a2)] []
  refine V_aload_n C 0 dX10_plan_0 rfl rfl ?_
  refine V_ga C 0 (by decide) (by decide) F_10_2 k_RX10_26 dX10_plan_1 ?_
  refine V_iload_n C 1 dX10_plan_4 rfl rfl ?_
  refine V_callVz (As := [.int a1]) (rest := []) C (c_X0_hasPerson (v_l X) G v_i10 _ _ h) 10 0 (by decide) (by decide) (by decide) rfl KV_X0_hasPerson k_RX10_188 rfl rfl rfl (Nat.le_of_ble_eq_true rfl) ⟨Nat.le_of_ble_eq_true rfl, Nat.le_of_ble_eq_true rfl⟩ dX10_plan_5 (fun r15 S14 h => ?_)
  refine V_ifb_ne (tgt := 17) C dX10_plan_8 (by decide) (fun c => ?_) (fun c => ?_)
  · have h := h.1 c
    refine V_iload_n C 2 dX10_plan_17 rfl rfl ?_
    refine V_if_lt (tgt := 27) C dX10_plan_18 (by decide) (fun c => ?_) (fun c => ?_)
    · have h := h.1 c
      refine V_loc (lv' := [(0, .ref (G.1 0))]) [0] rfl ?_
      exact q_X10_plan_27 C D  _ h
    · have h := h.2 c
      refine V_iload_n C 2 dX10_plan_21 rfl rfl ?_
      refine V_bipush (v := 10) C dX10_plan_22 (by decide) ?_
      refine V_icmp_le (tgt := 33) C dX10_plan_24 (by decide) (fun c => ?_) (fun c => ?_)
      · have h := h.1 c
        refine V_aload_n C 0 dX10_plan_33 rfl rfl ?_
        refine V_aload_n C 0 dX10_plan_34 rfl rfl ?_
        refine V_callVr (As := []) (rest := [.ref (G.1 0)]) C (c_X10_seen (v_l X) G  _ h) 0 10 (by decide) (by decide) (by decide) rfl KV_X10_seen k_RX10_307 rfl rfl rfl (Nat.le_of_ble_eq_true rfl) ⟨Nat.le_of_ble_eq_true rfl, Nat.le_of_ble_eq_true rfl⟩ dX10_plan_35 (fun S16 h => ?_)
        refine V_iload_n C 1 dX10_plan_38 rfl rfl ?_
        refine V_iload_n C 2 dX10_plan_39 rfl rfl ?_
        refine V_callVl (As := [.int a1, .int a2]) (rest := [.ref (G.1 0)]) C (c_X3_bestSum (v_l X) G  _ _ _ h) 58 3 (by decide) (by decide) (by decide) rfl KV_X3_bestSum k_RX10_323 rfl rfl rfl (Nat.le_of_ble_eq_true rfl) ⟨Nat.le_of_ble_eq_true rfl, Nat.le_of_ble_eq_true rfl⟩ dX10_plan_40 (fun r18 S17 h => ?_)
        refine V_aload_n C 0 dX10_plan_43 rfl rfl ?_
        refine V_ga C 0 (by decide) (by decide) F_10_7 k_RX10_64 dX10_plan_44 ?_
        refine V_callVl (As := []) (rest := [.long r18, .ref (G.1 0)]) C (c_X3_whole (v_l X) G  _ h) 58 3 (by decide) (by decide) (by decide) rfl KV_X3_whole k_RX10_290 rfl rfl rfl (Nat.le_of_ble_eq_true rfl) ⟨Nat.le_of_ble_eq_true rfl, Nat.le_of_ble_eq_true rfl⟩ dX10_plan_47 (fun r20 S19 h => ?_)
        refine V_callVz (As := [.long r18, .long r20]) (rest := []) C (c_X10_tell (v_l X) G  _ _ _ h) 0 10 (by decide) (by decide) (by decide) rfl KV_X10_tell k_RX10_294 rfl rfl rfl (Nat.le_of_ble_eq_true rfl) ⟨Nat.le_of_ble_eq_true rfl, Nat.le_of_ble_eq_true rfl⟩ dX10_plan_50 (fun r22 S21 h => ?_)
        exact V_zret C D dX10_plan_53 h
      · have h := h.2 c
        refine V_loc (lv' := [(0, .ref (G.1 0))]) [0] rfl ?_
        exact q_X10_plan_27 C D  _ h
  · have h := h.2 c
    refine V_aload_n C 0 dX10_plan_11 rfl rfl ?_
    refine V_iconst (v := 2) C dX10_plan_12 (by decide) ?_
    refine V_callVz (As := [.int 2]) (rest := []) C (c_X10_settled (v_l X) G  _ _ h) 0 10 (by decide) (by decide) (by decide) rfl KV_X10_settled k_RX10_116 rfl rfl rfl (Nat.le_of_ble_eq_true rfl) ⟨Nat.le_of_ble_eq_true rfl, Nat.le_of_ble_eq_true rfl⟩ dX10_plan_13 (fun r24 S23 h => ?_)
    exact V_zret C D dX10_plan_16 h
/-! HalfAccuser.accuser(I)I -/
theorem dX10_accuser_0 : decode cX10_accuser 0 = .ok ((.aload_n 0), 1) := by decide +kernel
theorem dX10_accuser_1 : decode cX10_accuser 1 = .ok ((.getfield 26), 3) := by decide +kernel
theorem dX10_accuser_4 : decode cX10_accuser 4 = .ok ((.iload_n 1), 1) := by decide +kernel
theorem dX10_accuser_5 : decode cX10_accuser 5 = .ok ((.invokevirtual 194), 3) := by decide +kernel
theorem dX10_accuser_8 : decode cX10_accuser 8 = .ok ((.ifCond .ne 9), 3) := by decide +kernel
theorem dX10_accuser_11 : decode cX10_accuser 11 = .ok ((.aload_n 0), 1) := by decide +kernel
theorem dX10_accuser_12 : decode cX10_accuser 12 = .ok ((.iconst 2), 1) := by decide +kernel
theorem dX10_accuser_13 : decode cX10_accuser 13 = .ok ((.invokevirtual 153), 3) := by decide +kernel
theorem dX10_accuser_16 : decode cX10_accuser 16 = .ok (.ireturn, 1) := by decide +kernel
theorem dX10_accuser_17 : decode cX10_accuser 17 = .ok ((.aload_n 0), 1) := by decide +kernel
theorem dX10_accuser_18 : decode cX10_accuser 18 = .ok ((.aload_n 0), 1) := by decide +kernel
theorem dX10_accuser_19 : decode cX10_accuser 19 = .ok ((.invokevirtual 307), 3) := by decide +kernel
theorem dX10_accuser_22 : decode cX10_accuser 22 = .ok ((.iload_n 1), 1) := by decide +kernel
theorem dX10_accuser_23 : decode cX10_accuser 23 = .ok ((.invokevirtual 326), 3) := by decide +kernel
theorem dX10_accuser_26 : decode cX10_accuser 26 = .ok ((.invokevirtual 320), 3) := by decide +kernel
theorem dX10_accuser_29 : decode cX10_accuser 29 = .ok (.ireturn, 1) := by decide +kernel
def p_X10_accuser   (S : vSt) (a1 : Int32) (post : Int32 → vSt → Prop) : Prop := p_X0_hasDeed 10 S a1 (fun r11 S10 => ((r11 = true → p_X10_seen  S10  (fun S12 => p_X3_bestAccuser  S12 a1 (fun r14 S13 => p_X10_toldIfAny  S13 r14 (fun r16 S15 => post r16 S15)))) ∧ (r11 = false → p_X10_refused  S10 2 (fun r18 S17 => post r18 S17))))
set_option maxHeartbeats 4000000 in
set_option maxRecDepth 100000 in
theorem c_X10_accuser (l : Launch) (G : vG)    {S : vSt} (a1 : Int32) (post : Int32 → vSt → Prop) (h : p_X10_accuser   S a1 post) : Met l yX10_accuser (v_ws yX10_accuser cX10_accuser 2 (some .int)) (v_rm 6 176) (v_Pc G [.ref (G.1 0), .int a1] S) (v_Qi G post) 0 0 (v_A G) := by
  refine v_start (by decide +kernel) (Nat.le_of_ble_eq_true rfl) (fun X hl C D => ?_)
  subst hl
  have C : v_Cx X G cX10_accuser RX10 2 (v_rm 6 176) := C
  show VJ X G S 0 [(0, .ref (G.1 0)), (1, .int a1)] []
  refine V_aload_n C 0 dX10_accuser_0 rfl rfl ?_
  refine V_ga C 0 (by decide) (by decide) F_10_2 k_RX10_26 dX10_accuser_1 ?_
  refine V_iload_n C 1 dX10_accuser_4 rfl rfl ?_
  refine V_callVz (As := [.int a1]) (rest := []) C (c_X0_hasDeed (v_l X) G v_i10 _ _ h) 10 0 (by decide) (by decide) (by decide) rfl KV_X0_hasDeed k_RX10_194 rfl rfl rfl (Nat.le_of_ble_eq_true rfl) ⟨Nat.le_of_ble_eq_true rfl, Nat.le_of_ble_eq_true rfl⟩ dX10_accuser_5 (fun r11 S10 h => ?_)
  refine V_ifb_ne (tgt := 17) C dX10_accuser_8 (by decide) (fun c => ?_) (fun c => ?_)
  · have h := h.1 c
    refine V_aload_n C 0 dX10_accuser_17 rfl rfl ?_
    refine V_aload_n C 0 dX10_accuser_18 rfl rfl ?_
    refine V_callVr (As := []) (rest := [.ref (G.1 0)]) C (c_X10_seen (v_l X) G  _ h) 0 10 (by decide) (by decide) (by decide) rfl KV_X10_seen k_RX10_307 rfl rfl rfl (Nat.le_of_ble_eq_true rfl) ⟨Nat.le_of_ble_eq_true rfl, Nat.le_of_ble_eq_true rfl⟩ dX10_accuser_19 (fun S12 h => ?_)
    refine V_iload_n C 1 dX10_accuser_22 rfl rfl ?_
    refine V_callVi (As := [.int a1]) (rest := [.ref (G.1 0)]) C (c_X3_bestAccuser (v_l X) G  _ _ h) 58 3 (by decide) (by decide) (by decide) rfl KV_X3_bestAccuser k_RX10_326 rfl rfl rfl (Nat.le_of_ble_eq_true rfl) ⟨Nat.le_of_ble_eq_true rfl, Nat.le_of_ble_eq_true rfl⟩ dX10_accuser_23 (fun r14 S13 h => ?_)
    refine V_callVi (As := [.int r14]) (rest := []) C (c_X10_toldIfAny (v_l X) G  _ _ h) 0 10 (by decide) (by decide) (by decide) rfl KV_X10_toldIfAny k_RX10_320 rfl rfl rfl (Nat.le_of_ble_eq_true rfl) ⟨Nat.le_of_ble_eq_true rfl, Nat.le_of_ble_eq_true rfl⟩ dX10_accuser_26 (fun r16 S15 h => ?_)
    exact V_iret C D dX10_accuser_29 h
  · have h := h.2 c
    refine V_aload_n C 0 dX10_accuser_11 rfl rfl ?_
    refine V_iconst (v := 2) C dX10_accuser_12 (by decide) ?_
    refine V_callVi (As := [.int 2]) (rest := []) C (c_X10_refused (v_l X) G  _ _ h) 0 10 (by decide) (by decide) (by decide) rfl KV_X10_refused k_RX10_153 rfl rfl rfl (Nat.le_of_ble_eq_true rfl) ⟨Nat.le_of_ble_eq_true rfl, Nat.le_of_ble_eq_true rfl⟩ dX10_accuser_13 (fun r18 S17 h => ?_)
    exact V_iret C D dX10_accuser_16 h
/-! HalfAccuser.dreaded(I)I -/
theorem dX10_dreaded_0 : decode cX10_dreaded 0 = .ok ((.aload_n 0), 1) := by decide +kernel
theorem dX10_dreaded_1 : decode cX10_dreaded 1 = .ok ((.getfield 26), 3) := by decide +kernel
theorem dX10_dreaded_4 : decode cX10_dreaded 4 = .ok ((.iload_n 1), 1) := by decide +kernel
theorem dX10_dreaded_5 : decode cX10_dreaded 5 = .ok ((.invokevirtual 188), 3) := by decide +kernel
theorem dX10_dreaded_8 : decode cX10_dreaded 8 = .ok ((.ifCond .ne 9), 3) := by decide +kernel
theorem dX10_dreaded_11 : decode cX10_dreaded 11 = .ok ((.aload_n 0), 1) := by decide +kernel
theorem dX10_dreaded_12 : decode cX10_dreaded 12 = .ok ((.iconst 2), 1) := by decide +kernel
theorem dX10_dreaded_13 : decode cX10_dreaded 13 = .ok ((.invokevirtual 153), 3) := by decide +kernel
theorem dX10_dreaded_16 : decode cX10_dreaded 16 = .ok (.ireturn, 1) := by decide +kernel
theorem dX10_dreaded_17 : decode cX10_dreaded 17 = .ok ((.aload_n 0), 1) := by decide +kernel
theorem dX10_dreaded_18 : decode cX10_dreaded 18 = .ok ((.aload_n 0), 1) := by decide +kernel
theorem dX10_dreaded_19 : decode cX10_dreaded 19 = .ok ((.invokevirtual 307), 3) := by decide +kernel
theorem dX10_dreaded_22 : decode cX10_dreaded 22 = .ok ((.iload_n 1), 1) := by decide +kernel
theorem dX10_dreaded_23 : decode cX10_dreaded 23 = .ok ((.invokevirtual 329), 3) := by decide +kernel
theorem dX10_dreaded_26 : decode cX10_dreaded 26 = .ok ((.invokevirtual 320), 3) := by decide +kernel
theorem dX10_dreaded_29 : decode cX10_dreaded 29 = .ok (.ireturn, 1) := by decide +kernel
def p_X10_dreaded   (S : vSt) (a1 : Int32) (post : Int32 → vSt → Prop) : Prop := p_X0_hasPerson 10 S a1 (fun r11 S10 => ((r11 = true → p_X10_seen  S10  (fun S12 => p_X3_worstDeed  S12 a1 (fun r14 S13 => p_X10_toldIfAny  S13 r14 (fun r16 S15 => post r16 S15)))) ∧ (r11 = false → p_X10_refused  S10 2 (fun r18 S17 => post r18 S17))))
set_option maxHeartbeats 4000000 in
set_option maxRecDepth 100000 in
theorem c_X10_dreaded (l : Launch) (G : vG)    {S : vSt} (a1 : Int32) (post : Int32 → vSt → Prop) (h : p_X10_dreaded   S a1 post) : Met l yX10_dreaded (v_ws yX10_dreaded cX10_dreaded 2 (some .int)) (v_rm 6 176) (v_Pc G [.ref (G.1 0), .int a1] S) (v_Qi G post) 0 0 (v_A G) := by
  refine v_start (by decide +kernel) (Nat.le_of_ble_eq_true rfl) (fun X hl C D => ?_)
  subst hl
  have C : v_Cx X G cX10_dreaded RX10 2 (v_rm 6 176) := C
  show VJ X G S 0 [(0, .ref (G.1 0)), (1, .int a1)] []
  refine V_aload_n C 0 dX10_dreaded_0 rfl rfl ?_
  refine V_ga C 0 (by decide) (by decide) F_10_2 k_RX10_26 dX10_dreaded_1 ?_
  refine V_iload_n C 1 dX10_dreaded_4 rfl rfl ?_
  refine V_callVz (As := [.int a1]) (rest := []) C (c_X0_hasPerson (v_l X) G v_i10 _ _ h) 10 0 (by decide) (by decide) (by decide) rfl KV_X0_hasPerson k_RX10_188 rfl rfl rfl (Nat.le_of_ble_eq_true rfl) ⟨Nat.le_of_ble_eq_true rfl, Nat.le_of_ble_eq_true rfl⟩ dX10_dreaded_5 (fun r11 S10 h => ?_)
  refine V_ifb_ne (tgt := 17) C dX10_dreaded_8 (by decide) (fun c => ?_) (fun c => ?_)
  · have h := h.1 c
    refine V_aload_n C 0 dX10_dreaded_17 rfl rfl ?_
    refine V_aload_n C 0 dX10_dreaded_18 rfl rfl ?_
    refine V_callVr (As := []) (rest := [.ref (G.1 0)]) C (c_X10_seen (v_l X) G  _ h) 0 10 (by decide) (by decide) (by decide) rfl KV_X10_seen k_RX10_307 rfl rfl rfl (Nat.le_of_ble_eq_true rfl) ⟨Nat.le_of_ble_eq_true rfl, Nat.le_of_ble_eq_true rfl⟩ dX10_dreaded_19 (fun S12 h => ?_)
    refine V_iload_n C 1 dX10_dreaded_22 rfl rfl ?_
    refine V_callVi (As := [.int a1]) (rest := [.ref (G.1 0)]) C (c_X3_worstDeed (v_l X) G  _ _ h) 58 3 (by decide) (by decide) (by decide) rfl KV_X3_worstDeed k_RX10_329 rfl rfl rfl (Nat.le_of_ble_eq_true rfl) ⟨Nat.le_of_ble_eq_true rfl, Nat.le_of_ble_eq_true rfl⟩ dX10_dreaded_23 (fun r14 S13 h => ?_)
    refine V_callVi (As := [.int r14]) (rest := []) C (c_X10_toldIfAny (v_l X) G  _ _ h) 0 10 (by decide) (by decide) (by decide) rfl KV_X10_toldIfAny k_RX10_320 rfl rfl rfl (Nat.le_of_ble_eq_true rfl) ⟨Nat.le_of_ble_eq_true rfl, Nat.le_of_ble_eq_true rfl⟩ dX10_dreaded_26 (fun r16 S15 h => ?_)
    exact V_iret C D dX10_dreaded_29 h
  · have h := h.2 c
    refine V_aload_n C 0 dX10_dreaded_11 rfl rfl ?_
    refine V_iconst (v := 2) C dX10_dreaded_12 (by decide) ?_
    refine V_callVi (As := [.int 2]) (rest := []) C (c_X10_refused (v_l X) G  _ _ h) 0 10 (by decide) (by decide) (by decide) rfl KV_X10_refused k_RX10_153 rfl rfl rfl (Nat.le_of_ble_eq_true rfl) ⟨Nat.le_of_ble_eq_true rfl, Nat.le_of_ble_eq_true rfl⟩ dX10_dreaded_13 (fun r18 S17 h => ?_)
    exact V_iret C D dX10_dreaded_16 h
/-! HalfAccuser.dread(I)Z -/
theorem dX10_dread_0 : decode cX10_dread 0 = .ok ((.aload_n 0), 1) := by decide +kernel
theorem dX10_dread_1 : decode cX10_dread 1 = .ok ((.getfield 26), 3) := by decide +kernel
theorem dX10_dread_4 : decode cX10_dread 4 = .ok ((.iload_n 1), 1) := by decide +kernel
theorem dX10_dread_5 : decode cX10_dread 5 = .ok ((.invokevirtual 188), 3) := by decide +kernel
theorem dX10_dread_8 : decode cX10_dread 8 = .ok ((.ifCond .ne 9), 3) := by decide +kernel
theorem dX10_dread_11 : decode cX10_dread 11 = .ok ((.aload_n 0), 1) := by decide +kernel
theorem dX10_dread_12 : decode cX10_dread 12 = .ok ((.iconst 2), 1) := by decide +kernel
theorem dX10_dread_13 : decode cX10_dread 13 = .ok ((.invokevirtual 116), 3) := by decide +kernel
theorem dX10_dread_16 : decode cX10_dread 16 = .ok (.ireturn, 1) := by decide +kernel
theorem dX10_dread_17 : decode cX10_dread 17 = .ok ((.aload_n 0), 1) := by decide +kernel
theorem dX10_dread_18 : decode cX10_dread 18 = .ok ((.aload_n 0), 1) := by decide +kernel
theorem dX10_dread_19 : decode cX10_dread 19 = .ok ((.invokevirtual 307), 3) := by decide +kernel
theorem dX10_dread_22 : decode cX10_dread 22 = .ok ((.iload_n 1), 1) := by decide +kernel
theorem dX10_dread_23 : decode cX10_dread 23 = .ok ((.invokevirtual 332), 3) := by decide +kernel
theorem dX10_dread_26 : decode cX10_dread 26 = .ok ((.aload_n 0), 1) := by decide +kernel
theorem dX10_dread_27 : decode cX10_dread 27 = .ok ((.getfield 64), 3) := by decide +kernel
theorem dX10_dread_30 : decode cX10_dread 30 = .ok ((.invokevirtual 290), 3) := by decide +kernel
theorem dX10_dread_33 : decode cX10_dread 33 = .ok ((.invokevirtual 294), 3) := by decide +kernel
theorem dX10_dread_36 : decode cX10_dread 36 = .ok (.ireturn, 1) := by decide +kernel
def p_X10_dread   (S : vSt) (a1 : Int32) (post : Bool → vSt → Prop) : Prop := p_X0_hasPerson 10 S a1 (fun r13 S12 => ((r13 = true → p_X10_seen  S12  (fun S14 => p_X3_dreadOf  S14 a1 (fun r16 S15 => p_X3_whole  S15  (fun r18 S17 => p_X10_tell  S17 r16 r18 (fun r20 S19 => post r20 S19))))) ∧ (r13 = false → p_X10_settled  S12 2 (fun r22 S21 => post r22 S21))))
set_option maxHeartbeats 4000000 in
set_option maxRecDepth 100000 in
theorem c_X10_dread (l : Launch) (G : vG)    {S : vSt} (a1 : Int32) (post : Bool → vSt → Prop) (h : p_X10_dread   S a1 post) : Met l yX10_dread (v_ws yX10_dread cX10_dread 2 (some .boolean)) (v_rm 6 176) (v_Pc G [.ref (G.1 0), .int a1] S) (v_Qz G post) 0 0 (v_A G) := by
  refine v_start (by decide +kernel) (Nat.le_of_ble_eq_true rfl) (fun X hl C D => ?_)
  subst hl
  have C : v_Cx X G cX10_dread RX10 2 (v_rm 6 176) := C
  show VJ X G S 0 [(0, .ref (G.1 0)), (1, .int a1)] []
  refine V_aload_n C 0 dX10_dread_0 rfl rfl ?_
  refine V_ga C 0 (by decide) (by decide) F_10_2 k_RX10_26 dX10_dread_1 ?_
  refine V_iload_n C 1 dX10_dread_4 rfl rfl ?_
  refine V_callVz (As := [.int a1]) (rest := []) C (c_X0_hasPerson (v_l X) G v_i10 _ _ h) 10 0 (by decide) (by decide) (by decide) rfl KV_X0_hasPerson k_RX10_188 rfl rfl rfl (Nat.le_of_ble_eq_true rfl) ⟨Nat.le_of_ble_eq_true rfl, Nat.le_of_ble_eq_true rfl⟩ dX10_dread_5 (fun r13 S12 h => ?_)
  refine V_ifb_ne (tgt := 17) C dX10_dread_8 (by decide) (fun c => ?_) (fun c => ?_)
  · have h := h.1 c
    refine V_aload_n C 0 dX10_dread_17 rfl rfl ?_
    refine V_aload_n C 0 dX10_dread_18 rfl rfl ?_
    refine V_callVr (As := []) (rest := [.ref (G.1 0)]) C (c_X10_seen (v_l X) G  _ h) 0 10 (by decide) (by decide) (by decide) rfl KV_X10_seen k_RX10_307 rfl rfl rfl (Nat.le_of_ble_eq_true rfl) ⟨Nat.le_of_ble_eq_true rfl, Nat.le_of_ble_eq_true rfl⟩ dX10_dread_19 (fun S14 h => ?_)
    refine V_iload_n C 1 dX10_dread_22 rfl rfl ?_
    refine V_callVl (As := [.int a1]) (rest := [.ref (G.1 0)]) C (c_X3_dreadOf (v_l X) G  _ _ h) 58 3 (by decide) (by decide) (by decide) rfl KV_X3_dreadOf k_RX10_332 rfl rfl rfl (Nat.le_of_ble_eq_true rfl) ⟨Nat.le_of_ble_eq_true rfl, Nat.le_of_ble_eq_true rfl⟩ dX10_dread_23 (fun r16 S15 h => ?_)
    refine V_aload_n C 0 dX10_dread_26 rfl rfl ?_
    refine V_ga C 0 (by decide) (by decide) F_10_7 k_RX10_64 dX10_dread_27 ?_
    refine V_callVl (As := []) (rest := [.long r16, .ref (G.1 0)]) C (c_X3_whole (v_l X) G  _ h) 58 3 (by decide) (by decide) (by decide) rfl KV_X3_whole k_RX10_290 rfl rfl rfl (Nat.le_of_ble_eq_true rfl) ⟨Nat.le_of_ble_eq_true rfl, Nat.le_of_ble_eq_true rfl⟩ dX10_dread_30 (fun r18 S17 h => ?_)
    refine V_callVz (As := [.long r16, .long r18]) (rest := []) C (c_X10_tell (v_l X) G  _ _ _ h) 0 10 (by decide) (by decide) (by decide) rfl KV_X10_tell k_RX10_294 rfl rfl rfl (Nat.le_of_ble_eq_true rfl) ⟨Nat.le_of_ble_eq_true rfl, Nat.le_of_ble_eq_true rfl⟩ dX10_dread_33 (fun r20 S19 h => ?_)
    exact V_zret C D dX10_dread_36 h
  · have h := h.2 c
    refine V_aload_n C 0 dX10_dread_11 rfl rfl ?_
    refine V_iconst (v := 2) C dX10_dread_12 (by decide) ?_
    refine V_callVz (As := [.int 2]) (rest := []) C (c_X10_settled (v_l X) G  _ _ h) 0 10 (by decide) (by decide) (by decide) rfl KV_X10_settled k_RX10_116 rfl rfl rfl (Nat.le_of_ble_eq_true rfl) ⟨Nat.le_of_ble_eq_true rfl, Nat.le_of_ble_eq_true rfl⟩ dX10_dread_13 (fun r22 S21 h => ?_)
    exact V_zret C D dX10_dread_16 h
/-! HalfAccuser.friend(I)I -/
theorem dX10_friend_0 : decode cX10_friend 0 = .ok ((.aload_n 0), 1) := by decide +kernel
theorem dX10_friend_1 : decode cX10_friend 1 = .ok ((.getfield 26), 3) := by decide +kernel
theorem dX10_friend_4 : decode cX10_friend 4 = .ok ((.iload_n 1), 1) := by decide +kernel
theorem dX10_friend_5 : decode cX10_friend 5 = .ok ((.invokevirtual 194), 3) := by decide +kernel
theorem dX10_friend_8 : decode cX10_friend 8 = .ok ((.ifCond .ne 9), 3) := by decide +kernel
theorem dX10_friend_11 : decode cX10_friend 11 = .ok ((.aload_n 0), 1) := by decide +kernel
theorem dX10_friend_12 : decode cX10_friend 12 = .ok ((.iconst 2), 1) := by decide +kernel
theorem dX10_friend_13 : decode cX10_friend 13 = .ok ((.invokevirtual 153), 3) := by decide +kernel
theorem dX10_friend_16 : decode cX10_friend 16 = .ok (.ireturn, 1) := by decide +kernel
theorem dX10_friend_17 : decode cX10_friend 17 = .ok ((.aload_n 0), 1) := by decide +kernel
theorem dX10_friend_18 : decode cX10_friend 18 = .ok ((.aload_n 0), 1) := by decide +kernel
theorem dX10_friend_19 : decode cX10_friend 19 = .ok ((.invokevirtual 307), 3) := by decide +kernel
theorem dX10_friend_22 : decode cX10_friend 22 = .ok ((.iload_n 1), 1) := by decide +kernel
theorem dX10_friend_23 : decode cX10_friend 23 = .ok ((.invokevirtual 336), 3) := by decide +kernel
theorem dX10_friend_26 : decode cX10_friend 26 = .ok ((.invokevirtual 320), 3) := by decide +kernel
theorem dX10_friend_29 : decode cX10_friend 29 = .ok (.ireturn, 1) := by decide +kernel
def p_X10_friend   (S : vSt) (a1 : Int32) (post : Int32 → vSt → Prop) : Prop := p_X0_hasDeed 10 S a1 (fun r11 S10 => ((r11 = true → p_X10_seen  S10  (fun S12 => p_X3_mildestAccuser  S12 a1 (fun r14 S13 => p_X10_toldIfAny  S13 r14 (fun r16 S15 => post r16 S15)))) ∧ (r11 = false → p_X10_refused  S10 2 (fun r18 S17 => post r18 S17))))
set_option maxHeartbeats 4000000 in
set_option maxRecDepth 100000 in
theorem c_X10_friend (l : Launch) (G : vG)    {S : vSt} (a1 : Int32) (post : Int32 → vSt → Prop) (h : p_X10_friend   S a1 post) : Met l yX10_friend (v_ws yX10_friend cX10_friend 2 (some .int)) (v_rm 6 176) (v_Pc G [.ref (G.1 0), .int a1] S) (v_Qi G post) 0 0 (v_A G) := by
  refine v_start (by decide +kernel) (Nat.le_of_ble_eq_true rfl) (fun X hl C D => ?_)
  subst hl
  have C : v_Cx X G cX10_friend RX10 2 (v_rm 6 176) := C
  show VJ X G S 0 [(0, .ref (G.1 0)), (1, .int a1)] []
  refine V_aload_n C 0 dX10_friend_0 rfl rfl ?_
  refine V_ga C 0 (by decide) (by decide) F_10_2 k_RX10_26 dX10_friend_1 ?_
  refine V_iload_n C 1 dX10_friend_4 rfl rfl ?_
  refine V_callVz (As := [.int a1]) (rest := []) C (c_X0_hasDeed (v_l X) G v_i10 _ _ h) 10 0 (by decide) (by decide) (by decide) rfl KV_X0_hasDeed k_RX10_194 rfl rfl rfl (Nat.le_of_ble_eq_true rfl) ⟨Nat.le_of_ble_eq_true rfl, Nat.le_of_ble_eq_true rfl⟩ dX10_friend_5 (fun r11 S10 h => ?_)
  refine V_ifb_ne (tgt := 17) C dX10_friend_8 (by decide) (fun c => ?_) (fun c => ?_)
  · have h := h.1 c
    refine V_aload_n C 0 dX10_friend_17 rfl rfl ?_
    refine V_aload_n C 0 dX10_friend_18 rfl rfl ?_
    refine V_callVr (As := []) (rest := [.ref (G.1 0)]) C (c_X10_seen (v_l X) G  _ h) 0 10 (by decide) (by decide) (by decide) rfl KV_X10_seen k_RX10_307 rfl rfl rfl (Nat.le_of_ble_eq_true rfl) ⟨Nat.le_of_ble_eq_true rfl, Nat.le_of_ble_eq_true rfl⟩ dX10_friend_19 (fun S12 h => ?_)
    refine V_iload_n C 1 dX10_friend_22 rfl rfl ?_
    refine V_callVi (As := [.int a1]) (rest := [.ref (G.1 0)]) C (c_X3_mildestAccuser (v_l X) G  _ _ h) 58 3 (by decide) (by decide) (by decide) rfl KV_X3_mildestAccuser k_RX10_336 rfl rfl rfl (Nat.le_of_ble_eq_true rfl) ⟨Nat.le_of_ble_eq_true rfl, Nat.le_of_ble_eq_true rfl⟩ dX10_friend_23 (fun r14 S13 h => ?_)
    refine V_callVi (As := [.int r14]) (rest := []) C (c_X10_toldIfAny (v_l X) G  _ _ h) 0 10 (by decide) (by decide) (by decide) rfl KV_X10_toldIfAny k_RX10_320 rfl rfl rfl (Nat.le_of_ble_eq_true rfl) ⟨Nat.le_of_ble_eq_true rfl, Nat.le_of_ble_eq_true rfl⟩ dX10_friend_26 (fun r16 S15 h => ?_)
    exact V_iret C D dX10_friend_29 h
  · have h := h.2 c
    refine V_aload_n C 0 dX10_friend_11 rfl rfl ?_
    refine V_iconst (v := 2) C dX10_friend_12 (by decide) ?_
    refine V_callVi (As := [.int 2]) (rest := []) C (c_X10_refused (v_l X) G  _ _ h) 0 10 (by decide) (by decide) (by decide) rfl KV_X10_refused k_RX10_153 rfl rfl rfl (Nat.le_of_ble_eq_true rfl) ⟨Nat.le_of_ble_eq_true rfl, Nat.le_of_ble_eq_true rfl⟩ dX10_friend_13 (fun r18 S17 h => ?_)
    exact V_iret C D dX10_friend_16 h
/-! HalfAccuser.quiet()I -/
theorem dX10_quiet_0 : decode cX10_quiet 0 = .ok ((.aload_n 0), 1) := by decide +kernel
theorem dX10_quiet_1 : decode cX10_quiet 1 = .ok ((.aload_n 0), 1) := by decide +kernel
theorem dX10_quiet_2 : decode cX10_quiet 2 = .ok ((.getfield 26), 3) := by decide +kernel
theorem dX10_quiet_5 : decode cX10_quiet 5 = .ok ((.invokevirtual 339), 3) := by decide +kernel
theorem dX10_quiet_8 : decode cX10_quiet 8 = .ok ((.aload_n 0), 1) := by decide +kernel
theorem dX10_quiet_9 : decode cX10_quiet 9 = .ok ((.invokevirtual 307), 3) := by decide +kernel
theorem dX10_quiet_12 : decode cX10_quiet 12 = .ok ((.aload_n 0), 1) := by decide +kernel
theorem dX10_quiet_13 : decode cX10_quiet 13 = .ok ((.getfield 26), 3) := by decide +kernel
theorem dX10_quiet_16 : decode cX10_quiet 16 = .ok ((.iconst 3), 1) := by decide +kernel
theorem dX10_quiet_17 : decode cX10_quiet 17 = .ok ((.invokevirtual 220), 3) := by decide +kernel
theorem dX10_quiet_20 : decode cX10_quiet 20 = .ok ((.aload_n 0), 1) := by decide +kernel
theorem dX10_quiet_21 : decode cX10_quiet 21 = .ok ((.getfield 26), 3) := by decide +kernel
theorem dX10_quiet_24 : decode cX10_quiet 24 = .ok ((.iconst 2), 1) := by decide +kernel
theorem dX10_quiet_25 : decode cX10_quiet 25 = .ok ((.invokevirtual 220), 3) := by decide +kernel
theorem dX10_quiet_28 : decode cX10_quiet 28 = .ok ((.invokevirtual 343), 3) := by decide +kernel
theorem dX10_quiet_31 : decode cX10_quiet 31 = .ok ((.iconst (-1)), 1) := by decide +kernel
theorem dX10_quiet_32 : decode cX10_quiet 32 = .ok (.ixor, 1) := by decide +kernel
theorem dX10_quiet_33 : decode cX10_quiet 33 = .ok (.iand, 1) := by decide +kernel
theorem dX10_quiet_34 : decode cX10_quiet 34 = .ok ((.invokevirtual 173), 3) := by decide +kernel
theorem dX10_quiet_37 : decode cX10_quiet 37 = .ok (.ireturn, 1) := by decide +kernel
def p_X10_quiet   (S : vSt)  (post : Int32 → vSt → Prop) : Prop := p_X0_openDeeds 10 S  (fun r13 S12 => p_X10_seen  S12  (fun S14 => p_X0_ruleOf 10 S14 3 (fun r16 S15 => p_X0_ruleOf 10 S15 2 (fun r18 S17 => p_X3_gladSet  S17 r16 r18 (fun r20 S19 => p_X10_told  S19 (r13 &&& (r20 ^^^ (-1))) (fun r22 S21 => post r22 S21))))))
set_option maxHeartbeats 4000000 in
set_option maxRecDepth 100000 in
theorem c_X10_quiet (l : Launch) (G : vG)    {S : vSt}  (post : Int32 → vSt → Prop) (h : p_X10_quiet   S  post) : Met l yX10_quiet (v_ws yX10_quiet cX10_quiet 1 (some .int)) (v_rm 6 176) (v_Pc G [.ref (G.1 0)] S) (v_Qi G post) 0 0 (v_A G) := by
  refine v_start (by decide +kernel) (Nat.le_of_ble_eq_true rfl) (fun X hl C D => ?_)
  subst hl
  have C : v_Cx X G cX10_quiet RX10 1 (v_rm 6 176) := C
  show VJ X G S 0 [(0, .ref (G.1 0))] []
  refine V_aload_n C 0 dX10_quiet_0 rfl rfl ?_
  refine V_aload_n C 0 dX10_quiet_1 rfl rfl ?_
  refine V_ga C 0 (by decide) (by decide) F_10_2 k_RX10_26 dX10_quiet_2 ?_
  refine V_callVi (As := []) (rest := [.ref (G.1 0)]) C (c_X0_openDeeds (v_l X) G v_i10 _ h) 10 0 (by decide) (by decide) (by decide) rfl KV_X0_openDeeds k_RX10_339 rfl rfl rfl (Nat.le_of_ble_eq_true rfl) ⟨Nat.le_of_ble_eq_true rfl, Nat.le_of_ble_eq_true rfl⟩ dX10_quiet_5 (fun r13 S12 h => ?_)
  refine V_aload_n C 0 dX10_quiet_8 rfl rfl ?_
  refine V_callVr (As := []) (rest := [.int r13, .ref (G.1 0)]) C (c_X10_seen (v_l X) G  _ h) 0 10 (by decide) (by decide) (by decide) rfl KV_X10_seen k_RX10_307 rfl rfl rfl (Nat.le_of_ble_eq_true rfl) ⟨Nat.le_of_ble_eq_true rfl, Nat.le_of_ble_eq_true rfl⟩ dX10_quiet_9 (fun S14 h => ?_)
  refine V_aload_n C 0 dX10_quiet_12 rfl rfl ?_
  refine V_ga C 0 (by decide) (by decide) F_10_2 k_RX10_26 dX10_quiet_13 ?_
  refine V_iconst (v := 3) C dX10_quiet_16 (by decide) ?_
  refine V_callVi (As := [.int 3]) (rest := [.ref (G.1 58), .int r13, .ref (G.1 0)]) C (c_X0_ruleOf (v_l X) G v_i10 _ _ h) 10 0 (by decide) (by decide) (by decide) rfl KV_X0_ruleOf k_RX10_220 rfl rfl rfl (Nat.le_of_ble_eq_true rfl) ⟨Nat.le_of_ble_eq_true rfl, Nat.le_of_ble_eq_true rfl⟩ dX10_quiet_17 (fun r16 S15 h => ?_)
  refine V_aload_n C 0 dX10_quiet_20 rfl rfl ?_
  refine V_ga C 0 (by decide) (by decide) F_10_2 k_RX10_26 dX10_quiet_21 ?_
  refine V_iconst (v := 2) C dX10_quiet_24 (by decide) ?_
  refine V_callVi (As := [.int 2]) (rest := [.int r16, .ref (G.1 58), .int r13, .ref (G.1 0)]) C (c_X0_ruleOf (v_l X) G v_i10 _ _ h) 10 0 (by decide) (by decide) (by decide) rfl KV_X0_ruleOf k_RX10_220 rfl rfl rfl (Nat.le_of_ble_eq_true rfl) ⟨Nat.le_of_ble_eq_true rfl, Nat.le_of_ble_eq_true rfl⟩ dX10_quiet_25 (fun r18 S17 h => ?_)
  refine V_callVi (As := [.int r16, .int r18]) (rest := [.int r13, .ref (G.1 0)]) C (c_X3_gladSet (v_l X) G  _ _ _ h) 58 3 (by decide) (by decide) (by decide) rfl KV_X3_gladSet k_RX10_343 rfl rfl rfl (Nat.le_of_ble_eq_true rfl) ⟨Nat.le_of_ble_eq_true rfl, Nat.le_of_ble_eq_true rfl⟩ dX10_quiet_28 (fun r20 S19 h => ?_)
  refine V_iconst (v := (-1)) C dX10_quiet_31 (by decide) ?_
  refine V_ixor C dX10_quiet_32 ?_
  refine V_iand C dX10_quiet_33 ?_
  refine V_callVi (As := [.int (r13 &&& (r20 ^^^ (-1)))]) (rest := []) C (c_X10_told (v_l X) G  _ _ h) 0 10 (by decide) (by decide) (by decide) rfl KV_X10_told k_RX10_173 rfl rfl rfl (Nat.le_of_ble_eq_true rfl) ⟨Nat.le_of_ble_eq_true rfl, Nat.le_of_ble_eq_true rfl⟩ dX10_quiet_34 (fun r22 S21 h => ?_)
  exact V_iret C D dX10_quiet_37 h
/-! HalfAccuser.trade(III)I -/
theorem dX10_trade_0 : decode cX10_trade 0 = .ok ((.aload_n 0), 1) := by decide +kernel
theorem dX10_trade_1 : decode cX10_trade 1 = .ok ((.iload_n 1), 1) := by decide +kernel
theorem dX10_trade_2 : decode cX10_trade 2 = .ok ((.iload_n 2), 1) := by decide +kernel
theorem dX10_trade_3 : decode cX10_trade 3 = .ok ((.invokevirtual 216), 3) := by decide +kernel
theorem dX10_trade_6 : decode cX10_trade 6 = .ok ((.ifCond .ne 9), 3) := by decide +kernel
theorem dX10_trade_9 : decode cX10_trade 9 = .ok ((.aload_n 0), 1) := by decide +kernel
theorem dX10_trade_10 : decode cX10_trade 10 = .ok ((.iconst 2), 1) := by decide +kernel
theorem dX10_trade_11 : decode cX10_trade 11 = .ok ((.invokevirtual 153), 3) := by decide +kernel
theorem dX10_trade_14 : decode cX10_trade 14 = .ok (.ireturn, 1) := by decide +kernel
theorem dX10_trade_15 : decode cX10_trade 15 = .ok ((.iload_n 3), 1) := by decide +kernel
theorem dX10_trade_16 : decode cX10_trade 16 = .ok ((.ifCond .lt 8), 3) := by decide +kernel
theorem dX10_trade_19 : decode cX10_trade 19 = .ok ((.iload_n 3), 1) := by decide +kernel
theorem dX10_trade_20 : decode cX10_trade 20 = .ok ((.iconst 1), 1) := by decide +kernel
theorem dX10_trade_21 : decode cX10_trade 21 = .ok ((.if_icmp .le 9), 3) := by decide +kernel
theorem dX10_trade_24 : decode cX10_trade 24 = .ok ((.aload_n 0), 1) := by decide +kernel
theorem dX10_trade_25 : decode cX10_trade 25 = .ok ((.iconst 5), 1) := by decide +kernel
theorem dX10_trade_26 : decode cX10_trade 26 = .ok ((.invokevirtual 153), 3) := by decide +kernel
theorem dX10_trade_29 : decode cX10_trade 29 = .ok (.ireturn, 1) := by decide +kernel
theorem dX10_trade_30 : decode cX10_trade 30 = .ok ((.aload_n 0), 1) := by decide +kernel
theorem dX10_trade_31 : decode cX10_trade 31 = .ok ((.getfield 26), 3) := by decide +kernel
theorem dX10_trade_34 : decode cX10_trade 34 = .ok ((.iload_n 1), 1) := by decide +kernel
theorem dX10_trade_35 : decode cX10_trade 35 = .ok ((.iload_n 2), 1) := by decide +kernel
theorem dX10_trade_36 : decode cX10_trade 36 = .ok ((.invokevirtual 223), 3) := by decide +kernel
theorem dX10_trade_39 : decode cX10_trade 39 = .ok ((.ifCond .ne 10), 3) := by decide +kernel
theorem dX10_trade_42 : decode cX10_trade 42 = .ok ((.aload_n 0), 1) := by decide +kernel
theorem dX10_trade_43 : decode cX10_trade 43 = .ok ((.bipush 9), 2) := by decide +kernel
theorem dX10_trade_45 : decode cX10_trade 45 = .ok ((.invokevirtual 153), 3) := by decide +kernel
theorem dX10_trade_48 : decode cX10_trade 48 = .ok (.ireturn, 1) := by decide +kernel
theorem dX10_trade_49 : decode cX10_trade 49 = .ok ((.aload_n 0), 1) := by decide +kernel
theorem dX10_trade_50 : decode cX10_trade 50 = .ok ((.invokevirtual 307), 3) := by decide +kernel
theorem dX10_trade_53 : decode cX10_trade 53 = .ok ((.iload_n 1), 1) := by decide +kernel
theorem dX10_trade_54 : decode cX10_trade 54 = .ok ((.iload_n 2), 1) := by decide +kernel
theorem dX10_trade_55 : decode cX10_trade 55 = .ok ((.invokevirtual 346), 3) := by decide +kernel
theorem dX10_trade_58 : decode cX10_trade 58 = .ok ((.istore 4), 2) := by decide +kernel
theorem dX10_trade_60 : decode cX10_trade 60 = .ok ((.aload_n 0), 1) := by decide +kernel
theorem dX10_trade_61 : decode cX10_trade 61 = .ok ((.getfield 64), 3) := by decide +kernel
theorem dX10_trade_64 : decode cX10_trade 64 = .ok ((.iload_n 1), 1) := by decide +kernel
theorem dX10_trade_65 : decode cX10_trade 65 = .ok ((.iload_n 2), 1) := by decide +kernel
theorem dX10_trade_66 : decode cX10_trade 66 = .ok ((.invokevirtual 349), 3) := by decide +kernel
theorem dX10_trade_69 : decode cX10_trade 69 = .ok ((.istore 5), 2) := by decide +kernel
theorem dX10_trade_71 : decode cX10_trade 71 = .ok ((.iload 4), 2) := by decide +kernel
theorem dX10_trade_73 : decode cX10_trade 73 = .ok ((.iload 5), 2) := by decide +kernel
theorem dX10_trade_75 : decode cX10_trade 75 = .ok ((.if_icmp .le 10), 3) := by decide +kernel
theorem dX10_trade_78 : decode cX10_trade 78 = .ok ((.aload_n 0), 1) := by decide +kernel
theorem dX10_trade_79 : decode cX10_trade 79 = .ok ((.bipush 8), 2) := by decide +kernel
theorem dX10_trade_81 : decode cX10_trade 81 = .ok ((.invokevirtual 153), 3) := by decide +kernel
theorem dX10_trade_84 : decode cX10_trade 84 = .ok (.ireturn, 1) := by decide +kernel
theorem dX10_trade_85 : decode cX10_trade 85 = .ok ((.aload_n 0), 1) := by decide +kernel
theorem dX10_trade_86 : decode cX10_trade 86 = .ok ((.iload_n 3), 1) := by decide +kernel
theorem dX10_trade_87 : decode cX10_trade 87 = .ok ((.ifCond .ne 8), 3) := by decide +kernel
theorem dX10_trade_90 : decode cX10_trade 90 = .ok ((.iload 4), 2) := by decide +kernel
theorem dX10_trade_92 : decode cX10_trade 92 = .ok ((.goto 5), 3) := by decide +kernel
theorem dX10_trade_95 : decode cX10_trade 95 = .ok ((.iload 5), 2) := by decide +kernel
theorem dX10_trade_97 : decode cX10_trade 97 = .ok ((.invokevirtual 173), 3) := by decide +kernel
theorem dX10_trade_100 : decode cX10_trade 100 = .ok (.ireturn, 1) := by decide +kernel
def p_X10_trade_24  (a1 : Int32) (a2 : Int32) (a3 : Int32)   (post : Int32 → vSt → Prop) (S : vSt)  : Prop := p_X10_refused  S 5 (fun r23 S22 => post r23 S22)
def p_X10_trade_97  (a1 : Int32) (a2 : Int32) (a3 : Int32)   (post : Int32 → vSt → Prop) (S : vSt) (s0 : Int32) : Prop := p_X10_told  S s0 (fun r30 S29 => post r30 S29)
def p_X10_trade   (S : vSt) (a1 : Int32) (a2 : Int32) (a3 : Int32) (post : Int32 → vSt → Prop) : Prop := p_X10_areThere  S a1 a2 (fun r21 S20 => ((r21 = true → ((a3 < 0 → p_X10_trade_24 a1 a2 a3 post S20 ) ∧ (¬ a3 < 0 → ((a3 ≤ 1 → p_X0_mayCharge 10 S20 a1 a2 (fun r23 S22 => ((r23 = true → p_X10_seen  S22  (fun S24 => p_X3_fewestCoins  S24 a1 a2 (fun r26 S25 => p_X3_mostCoins  S25 a1 a2 (fun r28 S27 => ((r26 ≤ r28 → ((¬ a3 = 0 → p_X10_trade_97 a1 a2 a3 post S27 r28) ∧ (a3 = 0 → p_X10_trade_97 a1 a2 a3 post S27 r26))) ∧ (¬ r26 ≤ r28 → p_X10_refused  S27 8 (fun r30 S29 => post r30 S29))))))) ∧ (r23 = false → p_X10_refused  S22 9 (fun r32 S31 => post r32 S31))))) ∧ (¬ a3 ≤ 1 → p_X10_trade_24 a1 a2 a3 post S20 ))))) ∧ (r21 = false → p_X10_refused  S20 2 (fun r34 S33 => post r34 S33))))
set_option maxHeartbeats 4000000 in
set_option maxRecDepth 100000 in
theorem q_X10_trade_24 {X : vX} {G : vG}  {post : Int32 → vSt → Prop} (C : v_Cx X G cX10_trade RX10 6 (v_rm 6 176)) (D : v_Rx X G (v_Qi G post) (some .int))  {a1 : Int32} {a2 : Int32} {a3 : Int32}   : ∀ (S : vSt), p_X10_trade_24 a1 a2 a3 post S  → VJ X G S 24 [(0, .ref (G.1 0))] [] := by
  intro S  h
  refine V_aload_n C 0 dX10_trade_24 rfl rfl ?_
  refine V_iconst (v := 5) C dX10_trade_25 (by decide) ?_
  refine V_callVi (As := [.int 5]) (rest := []) C (c_X10_refused (v_l X) G  _ _ h) 0 10 (by decide) (by decide) (by decide) rfl KV_X10_refused k_RX10_153 rfl rfl rfl (Nat.le_of_ble_eq_true rfl) ⟨Nat.le_of_ble_eq_true rfl, Nat.le_of_ble_eq_true rfl⟩ dX10_trade_26 (fun r23 S22 h => ?_)
  exact V_iret C D dX10_trade_29 h
set_option maxHeartbeats 4000000 in
set_option maxRecDepth 100000 in
theorem q_X10_trade_97 {X : vX} {G : vG}  {post : Int32 → vSt → Prop} (C : v_Cx X G cX10_trade RX10 6 (v_rm 6 176)) (D : v_Rx X G (v_Qi G post) (some .int))  {a1 : Int32} {a2 : Int32} {a3 : Int32}   : ∀ (S : vSt) (s0 : Int32), p_X10_trade_97 a1 a2 a3 post S s0 → VJ X G S 97 [] [.int s0, .ref (G.1 0)] := by
  intro S s0 h
  refine V_callVi (As := [.int s0]) (rest := []) C (c_X10_told (v_l X) G  _ _ h) 0 10 (by decide) (by decide) (by decide) rfl KV_X10_told k_RX10_173 rfl rfl rfl (Nat.le_of_ble_eq_true rfl) ⟨Nat.le_of_ble_eq_true rfl, Nat.le_of_ble_eq_true rfl⟩ dX10_trade_97 (fun r30 S29 h => ?_)
  exact V_iret C D dX10_trade_100 h
set_option maxHeartbeats 4000000 in
set_option maxRecDepth 100000 in
theorem c_X10_trade (l : Launch) (G : vG)    {S : vSt} (a1 : Int32) (a2 : Int32) (a3 : Int32) (post : Int32 → vSt → Prop) (h : p_X10_trade   S a1 a2 a3 post) : Met l yX10_trade (v_ws yX10_trade cX10_trade 6 (some .int)) (v_rm 6 176) (v_Pc G [.ref (G.1 0), .int a1, .int a2, .int a3] S) (v_Qi G post) 0 0 (v_A G) := by
  refine v_start (by decide +kernel) (Nat.le_of_ble_eq_true rfl) (fun X hl C D => ?_)
  subst hl
  have C : v_Cx X G cX10_trade RX10 6 (v_rm 6 176) := C
  show VJ X G S 0 [(0, .ref (G.1 0)), (1, .int a1), (2, .int a2), (3, .int a3)] []
  refine V_aload_n C 0 dX10_trade_0 rfl rfl ?_
  refine V_iload_n C 1 dX10_trade_1 rfl rfl ?_
  refine V_iload_n C 2 dX10_trade_2 rfl rfl ?_
  refine V_callVz (As := [.int a1, .int a2]) (rest := []) C (c_X10_areThere (v_l X) G  _ _ _ h) 0 10 (by decide) (by decide) (by decide) rfl KV_X10_areThere k_RX10_216 rfl rfl rfl (Nat.le_of_ble_eq_true rfl) ⟨Nat.le_of_ble_eq_true rfl, Nat.le_of_ble_eq_true rfl⟩ dX10_trade_3 (fun r21 S20 h => ?_)
  refine V_ifb_ne (tgt := 15) C dX10_trade_6 (by decide) (fun c => ?_) (fun c => ?_)
  · have h := h.1 c
    refine V_iload_n C 3 dX10_trade_15 rfl rfl ?_
    refine V_if_lt (tgt := 24) C dX10_trade_16 (by decide) (fun c => ?_) (fun c => ?_)
    · have h := h.1 c
      refine V_loc (lv' := [(0, .ref (G.1 0))]) [0] rfl ?_
      exact q_X10_trade_24 C D  _ h
    · have h := h.2 c
      refine V_iload_n C 3 dX10_trade_19 rfl rfl ?_
      refine V_iconst (v := 1) C dX10_trade_20 (by decide) ?_
      refine V_icmp_le (tgt := 30) C dX10_trade_21 (by decide) (fun c => ?_) (fun c => ?_)
      · have h := h.1 c
        refine V_aload_n C 0 dX10_trade_30 rfl rfl ?_
        refine V_ga C 0 (by decide) (by decide) F_10_2 k_RX10_26 dX10_trade_31 ?_
        refine V_iload_n C 1 dX10_trade_34 rfl rfl ?_
        refine V_iload_n C 2 dX10_trade_35 rfl rfl ?_
        refine V_callVz (As := [.int a1, .int a2]) (rest := []) C (c_X0_mayCharge (v_l X) G v_i10 _ _ _ h) 10 0 (by decide) (by decide) (by decide) rfl KV_X0_mayCharge k_RX10_223 rfl rfl rfl (Nat.le_of_ble_eq_true rfl) ⟨Nat.le_of_ble_eq_true rfl, Nat.le_of_ble_eq_true rfl⟩ dX10_trade_36 (fun r23 S22 h => ?_)
        refine V_ifb_ne (tgt := 49) C dX10_trade_39 (by decide) (fun c => ?_) (fun c => ?_)
        · have h := h.1 c
          refine V_aload_n C 0 dX10_trade_49 rfl rfl ?_
          refine V_callVr (As := []) (rest := []) C (c_X10_seen (v_l X) G  _ h) 0 10 (by decide) (by decide) (by decide) rfl KV_X10_seen k_RX10_307 rfl rfl rfl (Nat.le_of_ble_eq_true rfl) ⟨Nat.le_of_ble_eq_true rfl, Nat.le_of_ble_eq_true rfl⟩ dX10_trade_50 (fun S24 h => ?_)
          refine V_iload_n C 1 dX10_trade_53 rfl rfl ?_
          refine V_iload_n C 2 dX10_trade_54 rfl rfl ?_
          refine V_callVi (As := [.int a1, .int a2]) (rest := []) C (c_X3_fewestCoins (v_l X) G  _ _ _ h) 58 3 (by decide) (by decide) (by decide) rfl KV_X3_fewestCoins k_RX10_346 rfl rfl rfl (Nat.le_of_ble_eq_true rfl) ⟨Nat.le_of_ble_eq_true rfl, Nat.le_of_ble_eq_true rfl⟩ dX10_trade_55 (fun r26 S25 h => ?_)
          refine V_istore (lv' := [(0, .ref (G.1 0)), (1, .int a1), (2, .int a2), (3, .int a3), (4, .int r26)]) C [1, 2, 3, 4, 0] dX10_trade_58 (by decide) rfl ?_
          refine V_aload_n C 0 dX10_trade_60 rfl rfl ?_
          refine V_ga C 0 (by decide) (by decide) F_10_7 k_RX10_64 dX10_trade_61 ?_
          refine V_iload_n C 1 dX10_trade_64 rfl rfl ?_
          refine V_iload_n C 2 dX10_trade_65 rfl rfl ?_
          refine V_callVi (As := [.int a1, .int a2]) (rest := []) C (c_X3_mostCoins (v_l X) G  _ _ _ h) 58 3 (by decide) (by decide) (by decide) rfl KV_X3_mostCoins k_RX10_349 rfl rfl rfl (Nat.le_of_ble_eq_true rfl) ⟨Nat.le_of_ble_eq_true rfl, Nat.le_of_ble_eq_true rfl⟩ dX10_trade_66 (fun r28 S27 h => ?_)
          refine V_istore (lv' := [(0, .ref (G.1 0)), (1, .int a1), (2, .int a2), (3, .int a3), (4, .int r26), (5, .int r28)]) C [1, 2, 3, 4, 5, 0] dX10_trade_69 (by decide) rfl ?_
          refine V_iload C 4 dX10_trade_71 rfl ?_
          refine V_iload C 5 dX10_trade_73 rfl ?_
          refine V_icmp_le (tgt := 85) C dX10_trade_75 (by decide) (fun c => ?_) (fun c => ?_)
          · have h := h.1 c
            refine V_aload_n C 0 dX10_trade_85 rfl rfl ?_
            refine V_iload_n C 3 dX10_trade_86 rfl rfl ?_
            refine V_if_ne (tgt := 95) C dX10_trade_87 (by decide) (fun c => ?_) (fun c => ?_)
            · have h := h.1 c
              refine V_iload C 5 dX10_trade_95 rfl ?_
              refine V_loc (lv' := []) [] rfl ?_
              exact q_X10_trade_97 C D  _ _ h
            · have h := h.2 c
              refine V_iload C 4 dX10_trade_90 rfl ?_
              refine V_goto (tgt := 97) C dX10_trade_92 (by decide) ?_
              refine V_loc (lv' := []) [] rfl ?_
              exact q_X10_trade_97 C D  _ _ h
          · have h := h.2 c
            refine V_aload_n C 0 dX10_trade_78 rfl rfl ?_
            refine V_bipush (v := 8) C dX10_trade_79 (by decide) ?_
            refine V_callVi (As := [.int 8]) (rest := []) C (c_X10_refused (v_l X) G  _ _ h) 0 10 (by decide) (by decide) (by decide) rfl KV_X10_refused k_RX10_153 rfl rfl rfl (Nat.le_of_ble_eq_true rfl) ⟨Nat.le_of_ble_eq_true rfl, Nat.le_of_ble_eq_true rfl⟩ dX10_trade_81 (fun r30 S29 h => ?_)
            exact V_iret C D dX10_trade_84 h
        · have h := h.2 c
          refine V_aload_n C 0 dX10_trade_42 rfl rfl ?_
          refine V_bipush (v := 9) C dX10_trade_43 (by decide) ?_
          refine V_callVi (As := [.int 9]) (rest := []) C (c_X10_refused (v_l X) G  _ _ h) 0 10 (by decide) (by decide) (by decide) rfl KV_X10_refused k_RX10_153 rfl rfl rfl (Nat.le_of_ble_eq_true rfl) ⟨Nat.le_of_ble_eq_true rfl, Nat.le_of_ble_eq_true rfl⟩ dX10_trade_45 (fun r32 S31 h => ?_)
          exact V_iret C D dX10_trade_48 h
      · have h := h.2 c
        refine V_loc (lv' := [(0, .ref (G.1 0))]) [0] rfl ?_
        exact q_X10_trade_24 C D  _ h
  · have h := h.2 c
    refine V_aload_n C 0 dX10_trade_9 rfl rfl ?_
    refine V_iconst (v := 2) C dX10_trade_10 (by decide) ?_
    refine V_callVi (As := [.int 2]) (rest := []) C (c_X10_refused (v_l X) G  _ _ h) 0 10 (by decide) (by decide) (by decide) rfl KV_X10_refused k_RX10_153 rfl rfl rfl (Nat.le_of_ble_eq_true rfl) ⟨Nat.le_of_ble_eq_true rfl, Nat.le_of_ble_eq_true rfl⟩ dX10_trade_11 (fun r34 S33 h => ?_)
    exact V_iret C D dX10_trade_14 h
/-! HalfAccuser.leastShare(I)I -/
theorem dX10_leastShare_0 : decode cX10_leastShare 0 = .ok ((.aload_n 0), 1) := by decide +kernel
theorem dX10_leastShare_1 : decode cX10_leastShare 1 = .ok ((.getfield 26), 3) := by decide +kernel
theorem dX10_leastShare_4 : decode cX10_leastShare 4 = .ok ((.iload_n 1), 1) := by decide +kernel
theorem dX10_leastShare_5 : decode cX10_leastShare 5 = .ok ((.invokevirtual 194), 3) := by decide +kernel
theorem dX10_leastShare_8 : decode cX10_leastShare 8 = .ok ((.ifCond .ne 9), 3) := by decide +kernel
theorem dX10_leastShare_11 : decode cX10_leastShare 11 = .ok ((.aload_n 0), 1) := by decide +kernel
theorem dX10_leastShare_12 : decode cX10_leastShare 12 = .ok ((.iconst 2), 1) := by decide +kernel
theorem dX10_leastShare_13 : decode cX10_leastShare 13 = .ok ((.invokevirtual 153), 3) := by decide +kernel
theorem dX10_leastShare_16 : decode cX10_leastShare 16 = .ok (.ireturn, 1) := by decide +kernel
theorem dX10_leastShare_17 : decode cX10_leastShare 17 = .ok ((.aload_n 0), 1) := by decide +kernel
theorem dX10_leastShare_18 : decode cX10_leastShare 18 = .ok ((.aload_n 0), 1) := by decide +kernel
theorem dX10_leastShare_19 : decode cX10_leastShare 19 = .ok ((.invokevirtual 307), 3) := by decide +kernel
theorem dX10_leastShare_22 : decode cX10_leastShare 22 = .ok ((.iload_n 1), 1) := by decide +kernel
theorem dX10_leastShare_23 : decode cX10_leastShare 23 = .ok ((.invokevirtual 352), 3) := by decide +kernel
theorem dX10_leastShare_26 : decode cX10_leastShare 26 = .ok ((.invokevirtual 320), 3) := by decide +kernel
theorem dX10_leastShare_29 : decode cX10_leastShare 29 = .ok (.ireturn, 1) := by decide +kernel
def p_X10_leastShare   (S : vSt) (a1 : Int32) (post : Int32 → vSt → Prop) : Prop := p_X0_hasDeed 10 S a1 (fun r11 S10 => ((r11 = true → p_X10_seen  S10  (fun S12 => p_X3_leastGladShare  S12 a1 (fun r14 S13 => p_X10_toldIfAny  S13 r14 (fun r16 S15 => post r16 S15)))) ∧ (r11 = false → p_X10_refused  S10 2 (fun r18 S17 => post r18 S17))))
set_option maxHeartbeats 4000000 in
set_option maxRecDepth 100000 in
theorem c_X10_leastShare (l : Launch) (G : vG)    {S : vSt} (a1 : Int32) (post : Int32 → vSt → Prop) (h : p_X10_leastShare   S a1 post) : Met l yX10_leastShare (v_ws yX10_leastShare cX10_leastShare 2 (some .int)) (v_rm 6 176) (v_Pc G [.ref (G.1 0), .int a1] S) (v_Qi G post) 0 0 (v_A G) := by
  refine v_start (by decide +kernel) (Nat.le_of_ble_eq_true rfl) (fun X hl C D => ?_)
  subst hl
  have C : v_Cx X G cX10_leastShare RX10 2 (v_rm 6 176) := C
  show VJ X G S 0 [(0, .ref (G.1 0)), (1, .int a1)] []
  refine V_aload_n C 0 dX10_leastShare_0 rfl rfl ?_
  refine V_ga C 0 (by decide) (by decide) F_10_2 k_RX10_26 dX10_leastShare_1 ?_
  refine V_iload_n C 1 dX10_leastShare_4 rfl rfl ?_
  refine V_callVz (As := [.int a1]) (rest := []) C (c_X0_hasDeed (v_l X) G v_i10 _ _ h) 10 0 (by decide) (by decide) (by decide) rfl KV_X0_hasDeed k_RX10_194 rfl rfl rfl (Nat.le_of_ble_eq_true rfl) ⟨Nat.le_of_ble_eq_true rfl, Nat.le_of_ble_eq_true rfl⟩ dX10_leastShare_5 (fun r11 S10 h => ?_)
  refine V_ifb_ne (tgt := 17) C dX10_leastShare_8 (by decide) (fun c => ?_) (fun c => ?_)
  · have h := h.1 c
    refine V_aload_n C 0 dX10_leastShare_17 rfl rfl ?_
    refine V_aload_n C 0 dX10_leastShare_18 rfl rfl ?_
    refine V_callVr (As := []) (rest := [.ref (G.1 0)]) C (c_X10_seen (v_l X) G  _ h) 0 10 (by decide) (by decide) (by decide) rfl KV_X10_seen k_RX10_307 rfl rfl rfl (Nat.le_of_ble_eq_true rfl) ⟨Nat.le_of_ble_eq_true rfl, Nat.le_of_ble_eq_true rfl⟩ dX10_leastShare_19 (fun S12 h => ?_)
    refine V_iload_n C 1 dX10_leastShare_22 rfl rfl ?_
    refine V_callVi (As := [.int a1]) (rest := [.ref (G.1 0)]) C (c_X3_leastGladShare (v_l X) G  _ _ h) 58 3 (by decide) (by decide) (by decide) rfl KV_X3_leastGladShare k_RX10_352 rfl rfl rfl (Nat.le_of_ble_eq_true rfl) ⟨Nat.le_of_ble_eq_true rfl, Nat.le_of_ble_eq_true rfl⟩ dX10_leastShare_23 (fun r14 S13 h => ?_)
    refine V_callVi (As := [.int r14]) (rest := []) C (c_X10_toldIfAny (v_l X) G  _ _ h) 0 10 (by decide) (by decide) (by decide) rfl KV_X10_toldIfAny k_RX10_320 rfl rfl rfl (Nat.le_of_ble_eq_true rfl) ⟨Nat.le_of_ble_eq_true rfl, Nat.le_of_ble_eq_true rfl⟩ dX10_leastShare_26 (fun r16 S15 h => ?_)
    exact V_iret C D dX10_leastShare_29 h
  · have h := h.2 c
    refine V_aload_n C 0 dX10_leastShare_11 rfl rfl ?_
    refine V_iconst (v := 2) C dX10_leastShare_12 (by decide) ?_
    refine V_callVi (As := [.int 2]) (rest := []) C (c_X10_refused (v_l X) G  _ _ h) 0 10 (by decide) (by decide) (by decide) rfl KV_X10_refused k_RX10_153 rfl rfl rfl (Nat.le_of_ble_eq_true rfl) ⟨Nat.le_of_ble_eq_true rfl, Nat.le_of_ble_eq_true rfl⟩ dX10_leastShare_13 (fun r18 S17 h => ?_)
    exact V_iret C D dX10_leastShare_16 h
/-! HalfAccuser.leastFine(I)I -/
theorem dX10_leastFine_0 : decode cX10_leastFine 0 = .ok ((.aload_n 0), 1) := by decide +kernel
theorem dX10_leastFine_1 : decode cX10_leastFine 1 = .ok ((.getfield 26), 3) := by decide +kernel
theorem dX10_leastFine_4 : decode cX10_leastFine 4 = .ok ((.iload_n 1), 1) := by decide +kernel
theorem dX10_leastFine_5 : decode cX10_leastFine 5 = .ok ((.invokevirtual 194), 3) := by decide +kernel
theorem dX10_leastFine_8 : decode cX10_leastFine 8 = .ok ((.ifCond .ne 9), 3) := by decide +kernel
theorem dX10_leastFine_11 : decode cX10_leastFine 11 = .ok ((.aload_n 0), 1) := by decide +kernel
theorem dX10_leastFine_12 : decode cX10_leastFine 12 = .ok ((.iconst 2), 1) := by decide +kernel
theorem dX10_leastFine_13 : decode cX10_leastFine 13 = .ok ((.invokevirtual 153), 3) := by decide +kernel
theorem dX10_leastFine_16 : decode cX10_leastFine 16 = .ok (.ireturn, 1) := by decide +kernel
theorem dX10_leastFine_17 : decode cX10_leastFine 17 = .ok ((.aload_n 0), 1) := by decide +kernel
theorem dX10_leastFine_18 : decode cX10_leastFine 18 = .ok ((.aload_n 0), 1) := by decide +kernel
theorem dX10_leastFine_19 : decode cX10_leastFine 19 = .ok ((.invokevirtual 307), 3) := by decide +kernel
theorem dX10_leastFine_22 : decode cX10_leastFine 22 = .ok ((.iload_n 1), 1) := by decide +kernel
theorem dX10_leastFine_23 : decode cX10_leastFine 23 = .ok ((.invokevirtual 355), 3) := by decide +kernel
theorem dX10_leastFine_26 : decode cX10_leastFine 26 = .ok ((.invokevirtual 320), 3) := by decide +kernel
theorem dX10_leastFine_29 : decode cX10_leastFine 29 = .ok (.ireturn, 1) := by decide +kernel
def p_X10_leastFine   (S : vSt) (a1 : Int32) (post : Int32 → vSt → Prop) : Prop := p_X0_hasDeed 10 S a1 (fun r11 S10 => ((r11 = true → p_X10_seen  S10  (fun S12 => p_X3_leastGladFine  S12 a1 (fun r14 S13 => p_X10_toldIfAny  S13 r14 (fun r16 S15 => post r16 S15)))) ∧ (r11 = false → p_X10_refused  S10 2 (fun r18 S17 => post r18 S17))))
set_option maxHeartbeats 4000000 in
set_option maxRecDepth 100000 in
theorem c_X10_leastFine (l : Launch) (G : vG)    {S : vSt} (a1 : Int32) (post : Int32 → vSt → Prop) (h : p_X10_leastFine   S a1 post) : Met l yX10_leastFine (v_ws yX10_leastFine cX10_leastFine 2 (some .int)) (v_rm 6 176) (v_Pc G [.ref (G.1 0), .int a1] S) (v_Qi G post) 0 0 (v_A G) := by
  refine v_start (by decide +kernel) (Nat.le_of_ble_eq_true rfl) (fun X hl C D => ?_)
  subst hl
  have C : v_Cx X G cX10_leastFine RX10 2 (v_rm 6 176) := C
  show VJ X G S 0 [(0, .ref (G.1 0)), (1, .int a1)] []
  refine V_aload_n C 0 dX10_leastFine_0 rfl rfl ?_
  refine V_ga C 0 (by decide) (by decide) F_10_2 k_RX10_26 dX10_leastFine_1 ?_
  refine V_iload_n C 1 dX10_leastFine_4 rfl rfl ?_
  refine V_callVz (As := [.int a1]) (rest := []) C (c_X0_hasDeed (v_l X) G v_i10 _ _ h) 10 0 (by decide) (by decide) (by decide) rfl KV_X0_hasDeed k_RX10_194 rfl rfl rfl (Nat.le_of_ble_eq_true rfl) ⟨Nat.le_of_ble_eq_true rfl, Nat.le_of_ble_eq_true rfl⟩ dX10_leastFine_5 (fun r11 S10 h => ?_)
  refine V_ifb_ne (tgt := 17) C dX10_leastFine_8 (by decide) (fun c => ?_) (fun c => ?_)
  · have h := h.1 c
    refine V_aload_n C 0 dX10_leastFine_17 rfl rfl ?_
    refine V_aload_n C 0 dX10_leastFine_18 rfl rfl ?_
    refine V_callVr (As := []) (rest := [.ref (G.1 0)]) C (c_X10_seen (v_l X) G  _ h) 0 10 (by decide) (by decide) (by decide) rfl KV_X10_seen k_RX10_307 rfl rfl rfl (Nat.le_of_ble_eq_true rfl) ⟨Nat.le_of_ble_eq_true rfl, Nat.le_of_ble_eq_true rfl⟩ dX10_leastFine_19 (fun S12 h => ?_)
    refine V_iload_n C 1 dX10_leastFine_22 rfl rfl ?_
    refine V_callVi (As := [.int a1]) (rest := [.ref (G.1 0)]) C (c_X3_leastGladFine (v_l X) G  _ _ h) 58 3 (by decide) (by decide) (by decide) rfl KV_X3_leastGladFine k_RX10_355 rfl rfl rfl (Nat.le_of_ble_eq_true rfl) ⟨Nat.le_of_ble_eq_true rfl, Nat.le_of_ble_eq_true rfl⟩ dX10_leastFine_23 (fun r14 S13 h => ?_)
    refine V_callVi (As := [.int r14]) (rest := []) C (c_X10_toldIfAny (v_l X) G  _ _ h) 0 10 (by decide) (by decide) (by decide) rfl KV_X10_toldIfAny k_RX10_320 rfl rfl rfl (Nat.le_of_ble_eq_true rfl) ⟨Nat.le_of_ble_eq_true rfl, Nat.le_of_ble_eq_true rfl⟩ dX10_leastFine_26 (fun r16 S15 h => ?_)
    exact V_iret C D dX10_leastFine_29 h
  · have h := h.2 c
    refine V_aload_n C 0 dX10_leastFine_11 rfl rfl ?_
    refine V_iconst (v := 2) C dX10_leastFine_12 (by decide) ?_
    refine V_callVi (As := [.int 2]) (rest := []) C (c_X10_refused (v_l X) G  _ _ h) 0 10 (by decide) (by decide) (by decide) rfl KV_X10_refused k_RX10_153 rfl rfl rfl (Nat.le_of_ble_eq_true rfl) ⟨Nat.le_of_ble_eq_true rfl, Nat.le_of_ble_eq_true rfl⟩ dX10_leastFine_13 (fun r18 S17 h => ?_)
    exact V_iret C D dX10_leastFine_16 h
/-! HalfAccuser.mostPenalty(I)I -/
theorem dX10_mostPenalty_0 : decode cX10_mostPenalty 0 = .ok ((.aload_n 0), 1) := by decide +kernel
theorem dX10_mostPenalty_1 : decode cX10_mostPenalty 1 = .ok ((.getfield 26), 3) := by decide +kernel
theorem dX10_mostPenalty_4 : decode cX10_mostPenalty 4 = .ok ((.iload_n 1), 1) := by decide +kernel
theorem dX10_mostPenalty_5 : decode cX10_mostPenalty 5 = .ok ((.invokevirtual 194), 3) := by decide +kernel
theorem dX10_mostPenalty_8 : decode cX10_mostPenalty 8 = .ok ((.ifCond .ne 9), 3) := by decide +kernel
theorem dX10_mostPenalty_11 : decode cX10_mostPenalty 11 = .ok ((.aload_n 0), 1) := by decide +kernel
theorem dX10_mostPenalty_12 : decode cX10_mostPenalty 12 = .ok ((.iconst 2), 1) := by decide +kernel
theorem dX10_mostPenalty_13 : decode cX10_mostPenalty 13 = .ok ((.invokevirtual 153), 3) := by decide +kernel
theorem dX10_mostPenalty_16 : decode cX10_mostPenalty 16 = .ok (.ireturn, 1) := by decide +kernel
theorem dX10_mostPenalty_17 : decode cX10_mostPenalty 17 = .ok ((.aload_n 0), 1) := by decide +kernel
theorem dX10_mostPenalty_18 : decode cX10_mostPenalty 18 = .ok ((.aload_n 0), 1) := by decide +kernel
theorem dX10_mostPenalty_19 : decode cX10_mostPenalty 19 = .ok ((.invokevirtual 307), 3) := by decide +kernel
theorem dX10_mostPenalty_22 : decode cX10_mostPenalty 22 = .ok ((.iload_n 1), 1) := by decide +kernel
theorem dX10_mostPenalty_23 : decode cX10_mostPenalty 23 = .ok ((.invokevirtual 358), 3) := by decide +kernel
theorem dX10_mostPenalty_26 : decode cX10_mostPenalty 26 = .ok ((.invokevirtual 320), 3) := by decide +kernel
theorem dX10_mostPenalty_29 : decode cX10_mostPenalty 29 = .ok (.ireturn, 1) := by decide +kernel
def p_X10_mostPenalty   (S : vSt) (a1 : Int32) (post : Int32 → vSt → Prop) : Prop := p_X0_hasDeed 10 S a1 (fun r11 S10 => ((r11 = true → p_X10_seen  S10  (fun S12 => p_X3_mostGladPenalty  S12 a1 (fun r14 S13 => p_X10_toldIfAny  S13 r14 (fun r16 S15 => post r16 S15)))) ∧ (r11 = false → p_X10_refused  S10 2 (fun r18 S17 => post r18 S17))))
set_option maxHeartbeats 4000000 in
set_option maxRecDepth 100000 in
theorem c_X10_mostPenalty (l : Launch) (G : vG)    {S : vSt} (a1 : Int32) (post : Int32 → vSt → Prop) (h : p_X10_mostPenalty   S a1 post) : Met l yX10_mostPenalty (v_ws yX10_mostPenalty cX10_mostPenalty 2 (some .int)) (v_rm 6 176) (v_Pc G [.ref (G.1 0), .int a1] S) (v_Qi G post) 0 0 (v_A G) := by
  refine v_start (by decide +kernel) (Nat.le_of_ble_eq_true rfl) (fun X hl C D => ?_)
  subst hl
  have C : v_Cx X G cX10_mostPenalty RX10 2 (v_rm 6 176) := C
  show VJ X G S 0 [(0, .ref (G.1 0)), (1, .int a1)] []
  refine V_aload_n C 0 dX10_mostPenalty_0 rfl rfl ?_
  refine V_ga C 0 (by decide) (by decide) F_10_2 k_RX10_26 dX10_mostPenalty_1 ?_
  refine V_iload_n C 1 dX10_mostPenalty_4 rfl rfl ?_
  refine V_callVz (As := [.int a1]) (rest := []) C (c_X0_hasDeed (v_l X) G v_i10 _ _ h) 10 0 (by decide) (by decide) (by decide) rfl KV_X0_hasDeed k_RX10_194 rfl rfl rfl (Nat.le_of_ble_eq_true rfl) ⟨Nat.le_of_ble_eq_true rfl, Nat.le_of_ble_eq_true rfl⟩ dX10_mostPenalty_5 (fun r11 S10 h => ?_)
  refine V_ifb_ne (tgt := 17) C dX10_mostPenalty_8 (by decide) (fun c => ?_) (fun c => ?_)
  · have h := h.1 c
    refine V_aload_n C 0 dX10_mostPenalty_17 rfl rfl ?_
    refine V_aload_n C 0 dX10_mostPenalty_18 rfl rfl ?_
    refine V_callVr (As := []) (rest := [.ref (G.1 0)]) C (c_X10_seen (v_l X) G  _ h) 0 10 (by decide) (by decide) (by decide) rfl KV_X10_seen k_RX10_307 rfl rfl rfl (Nat.le_of_ble_eq_true rfl) ⟨Nat.le_of_ble_eq_true rfl, Nat.le_of_ble_eq_true rfl⟩ dX10_mostPenalty_19 (fun S12 h => ?_)
    refine V_iload_n C 1 dX10_mostPenalty_22 rfl rfl ?_
    refine V_callVi (As := [.int a1]) (rest := [.ref (G.1 0)]) C (c_X3_mostGladPenalty (v_l X) G  _ _ h) 58 3 (by decide) (by decide) (by decide) rfl KV_X3_mostGladPenalty k_RX10_358 rfl rfl rfl (Nat.le_of_ble_eq_true rfl) ⟨Nat.le_of_ble_eq_true rfl, Nat.le_of_ble_eq_true rfl⟩ dX10_mostPenalty_23 (fun r14 S13 h => ?_)
    refine V_callVi (As := [.int r14]) (rest := []) C (c_X10_toldIfAny (v_l X) G  _ _ h) 0 10 (by decide) (by decide) (by decide) rfl KV_X10_toldIfAny k_RX10_320 rfl rfl rfl (Nat.le_of_ble_eq_true rfl) ⟨Nat.le_of_ble_eq_true rfl, Nat.le_of_ble_eq_true rfl⟩ dX10_mostPenalty_26 (fun r16 S15 h => ?_)
    exact V_iret C D dX10_mostPenalty_29 h
  · have h := h.2 c
    refine V_aload_n C 0 dX10_mostPenalty_11 rfl rfl ?_
    refine V_iconst (v := 2) C dX10_mostPenalty_12 (by decide) ?_
    refine V_callVi (As := [.int 2]) (rest := []) C (c_X10_refused (v_l X) G  _ _ h) 0 10 (by decide) (by decide) (by decide) rfl KV_X10_refused k_RX10_153 rfl rfl rfl (Nat.le_of_ble_eq_true rfl) ⟨Nat.le_of_ble_eq_true rfl, Nat.le_of_ble_eq_true rfl⟩ dX10_mostPenalty_13 (fun r18 S17 h => ?_)
    exact V_iret C D dX10_mostPenalty_16 h
/-! HalfAccuser.gladBy(II)I -/
theorem dX10_gladBy_0 : decode cX10_gladBy 0 = .ok ((.iload_n 1), 1) := by decide +kernel
theorem dX10_gladBy_1 : decode cX10_gladBy 1 = .ok ((.ifCond .lt 20), 3) := by decide +kernel
theorem dX10_gladBy_4 : decode cX10_gladBy 4 = .ok ((.iload_n 1), 1) := by decide +kernel
theorem dX10_gladBy_5 : decode cX10_gladBy 5 = .ok ((.bipush 16), 2) := by decide +kernel
theorem dX10_gladBy_7 : decode cX10_gladBy 7 = .ok ((.if_icmp .gt 14), 3) := by decide +kernel
theorem dX10_gladBy_10 : decode cX10_gladBy 10 = .ok ((.iload_n 2), 1) := by decide +kernel
theorem dX10_gladBy_11 : decode cX10_gladBy 11 = .ok ((.ifCond .lt 10), 3) := by decide +kernel
theorem dX10_gladBy_14 : decode cX10_gladBy 14 = .ok ((.iload_n 2), 1) := by decide +kernel
theorem dX10_gladBy_15 : decode cX10_gladBy 15 = .ok ((.sipush 999), 3) := by decide +kernel
theorem dX10_gladBy_18 : decode cX10_gladBy 18 = .ok ((.if_icmp .le 9), 3) := by decide +kernel
theorem dX10_gladBy_21 : decode cX10_gladBy 21 = .ok ((.aload_n 0), 1) := by decide +kernel
theorem dX10_gladBy_22 : decode cX10_gladBy 22 = .ok ((.iconst 5), 1) := by decide +kernel
theorem dX10_gladBy_23 : decode cX10_gladBy 23 = .ok ((.invokevirtual 153), 3) := by decide +kernel
theorem dX10_gladBy_26 : decode cX10_gladBy 26 = .ok (.ireturn, 1) := by decide +kernel
theorem dX10_gladBy_27 : decode cX10_gladBy 27 = .ok ((.aload_n 0), 1) := by decide +kernel
theorem dX10_gladBy_28 : decode cX10_gladBy 28 = .ok ((.aload_n 0), 1) := by decide +kernel
theorem dX10_gladBy_29 : decode cX10_gladBy 29 = .ok ((.invokevirtual 307), 3) := by decide +kernel
theorem dX10_gladBy_32 : decode cX10_gladBy 32 = .ok ((.iload_n 1), 1) := by decide +kernel
theorem dX10_gladBy_33 : decode cX10_gladBy 33 = .ok ((.iload_n 2), 1) := by decide +kernel
theorem dX10_gladBy_34 : decode cX10_gladBy 34 = .ok ((.invokevirtual 343), 3) := by decide +kernel
theorem dX10_gladBy_37 : decode cX10_gladBy 37 = .ok ((.invokevirtual 173), 3) := by decide +kernel
theorem dX10_gladBy_40 : decode cX10_gladBy 40 = .ok (.ireturn, 1) := by decide +kernel
def p_X10_gladBy_21  (a1 : Int32) (a2 : Int32)   (post : Int32 → vSt → Prop) (S : vSt)  : Prop := p_X10_refused  S 5 (fun r9 S8 => post r9 S8)
def p_X10_gladBy   (S : vSt) (a1 : Int32) (a2 : Int32) (post : Int32 → vSt → Prop) : Prop := ((a1 < 0 → p_X10_gladBy_21 a1 a2 post S ) ∧ (¬ a1 < 0 → ((16 < a1 → p_X10_gladBy_21 a1 a2 post S ) ∧ (¬ 16 < a1 → ((a2 < 0 → p_X10_gladBy_21 a1 a2 post S ) ∧ (¬ a2 < 0 → ((a2 ≤ 999 → p_X10_seen  S  (fun S8 => p_X3_gladSet  S8 a1 a2 (fun r10 S9 => p_X10_told  S9 r10 (fun r12 S11 => post r12 S11)))) ∧ (¬ a2 ≤ 999 → p_X10_gladBy_21 a1 a2 post S ))))))))
set_option maxHeartbeats 4000000 in
set_option maxRecDepth 100000 in
theorem q_X10_gladBy_21 {X : vX} {G : vG}  {post : Int32 → vSt → Prop} (C : v_Cx X G cX10_gladBy RX10 3 (v_rm 6 176)) (D : v_Rx X G (v_Qi G post) (some .int))  {a1 : Int32} {a2 : Int32}   : ∀ (S : vSt), p_X10_gladBy_21 a1 a2 post S  → VJ X G S 21 [(0, .ref (G.1 0))] [] := by
  intro S  h
  refine V_aload_n C 0 dX10_gladBy_21 rfl rfl ?_
  refine V_iconst (v := 5) C dX10_gladBy_22 (by decide) ?_
  refine V_callVi (As := [.int 5]) (rest := []) C (c_X10_refused (v_l X) G  _ _ h) 0 10 (by decide) (by decide) (by decide) rfl KV_X10_refused k_RX10_153 rfl rfl rfl (Nat.le_of_ble_eq_true rfl) ⟨Nat.le_of_ble_eq_true rfl, Nat.le_of_ble_eq_true rfl⟩ dX10_gladBy_23 (fun r9 S8 h => ?_)
  exact V_iret C D dX10_gladBy_26 h
set_option maxHeartbeats 4000000 in
set_option maxRecDepth 100000 in
theorem c_X10_gladBy (l : Launch) (G : vG)    {S : vSt} (a1 : Int32) (a2 : Int32) (post : Int32 → vSt → Prop) (h : p_X10_gladBy   S a1 a2 post) : Met l yX10_gladBy (v_ws yX10_gladBy cX10_gladBy 3 (some .int)) (v_rm 6 176) (v_Pc G [.ref (G.1 0), .int a1, .int a2] S) (v_Qi G post) 0 0 (v_A G) := by
  refine v_start (by decide +kernel) (Nat.le_of_ble_eq_true rfl) (fun X hl C D => ?_)
  subst hl
  have C : v_Cx X G cX10_gladBy RX10 3 (v_rm 6 176) := C
  show VJ X G S 0 [(0, .ref (G.1 0)), (1, .int a1), (2, .int a2)] []
  refine V_iload_n C 1 dX10_gladBy_0 rfl rfl ?_
  refine V_if_lt (tgt := 21) C dX10_gladBy_1 (by decide) (fun c => ?_) (fun c => ?_)
  · have h := h.1 c
    refine V_loc (lv' := [(0, .ref (G.1 0))]) [0] rfl ?_
    exact q_X10_gladBy_21 C D  _ h
  · have h := h.2 c
    refine V_iload_n C 1 dX10_gladBy_4 rfl rfl ?_
    refine V_bipush (v := 16) C dX10_gladBy_5 (by decide) ?_
    refine V_icmp_gt (tgt := 21) C dX10_gladBy_7 (by decide) (fun c => ?_) (fun c => ?_)
    · have h := h.1 c
      refine V_loc (lv' := [(0, .ref (G.1 0))]) [0] rfl ?_
      exact q_X10_gladBy_21 C D  _ h
    · have h := h.2 c
      refine V_iload_n C 2 dX10_gladBy_10 rfl rfl ?_
      refine V_if_lt (tgt := 21) C dX10_gladBy_11 (by decide) (fun c => ?_) (fun c => ?_)
      · have h := h.1 c
        refine V_loc (lv' := [(0, .ref (G.1 0))]) [0] rfl ?_
        exact q_X10_gladBy_21 C D  _ h
      · have h := h.2 c
        refine V_iload_n C 2 dX10_gladBy_14 rfl rfl ?_
        refine V_sipush (v := 999) C dX10_gladBy_15 (by decide) ?_
        refine V_icmp_le (tgt := 27) C dX10_gladBy_18 (by decide) (fun c => ?_) (fun c => ?_)
        · have h := h.1 c
          refine V_aload_n C 0 dX10_gladBy_27 rfl rfl ?_
          refine V_aload_n C 0 dX10_gladBy_28 rfl rfl ?_
          refine V_callVr (As := []) (rest := [.ref (G.1 0)]) C (c_X10_seen (v_l X) G  _ h) 0 10 (by decide) (by decide) (by decide) rfl KV_X10_seen k_RX10_307 rfl rfl rfl (Nat.le_of_ble_eq_true rfl) ⟨Nat.le_of_ble_eq_true rfl, Nat.le_of_ble_eq_true rfl⟩ dX10_gladBy_29 (fun S8 h => ?_)
          refine V_iload_n C 1 dX10_gladBy_32 rfl rfl ?_
          refine V_iload_n C 2 dX10_gladBy_33 rfl rfl ?_
          refine V_callVi (As := [.int a1, .int a2]) (rest := [.ref (G.1 0)]) C (c_X3_gladSet (v_l X) G  _ _ _ h) 58 3 (by decide) (by decide) (by decide) rfl KV_X3_gladSet k_RX10_343 rfl rfl rfl (Nat.le_of_ble_eq_true rfl) ⟨Nat.le_of_ble_eq_true rfl, Nat.le_of_ble_eq_true rfl⟩ dX10_gladBy_34 (fun r10 S9 h => ?_)
          refine V_callVi (As := [.int r10]) (rest := []) C (c_X10_told (v_l X) G  _ _ h) 0 10 (by decide) (by decide) (by decide) rfl KV_X10_told k_RX10_173 rfl rfl rfl (Nat.le_of_ble_eq_true rfl) ⟨Nat.le_of_ble_eq_true rfl, Nat.le_of_ble_eq_true rfl⟩ dX10_gladBy_37 (fun r12 S11 h => ?_)
          exact V_iret C D dX10_gladBy_40 h
        · have h := h.2 c
          refine V_loc (lv' := [(0, .ref (G.1 0))]) [0] rfl ?_
          exact q_X10_gladBy_21 C D  _ h
/-! HalfAccuser.game(III)Z -/
theorem dX10_game_0 : decode cX10_game 0 = .ok ((.aload_n 0), 1) := by decide +kernel
theorem dX10_game_1 : decode cX10_game 1 = .ok ((.iload_n 1), 1) := by decide +kernel
theorem dX10_game_2 : decode cX10_game 2 = .ok ((.iload_n 2), 1) := by decide +kernel
theorem dX10_game_3 : decode cX10_game 3 = .ok ((.iload_n 3), 1) := by decide +kernel
theorem dX10_game_4 : decode cX10_game 4 = .ok ((.iconst 0), 1) := by decide +kernel
theorem dX10_game_5 : decode cX10_game 5 = .ok ((.invokevirtual 361), 3) := by decide +kernel
theorem dX10_game_8 : decode cX10_game 8 = .ok ((.istore 4), 2) := by decide +kernel
theorem dX10_game_10 : decode cX10_game 10 = .ok ((.iload 4), 2) := by decide +kernel
theorem dX10_game_12 : decode cX10_game 12 = .ok ((.ifCond .eq 10), 3) := by decide +kernel
theorem dX10_game_15 : decode cX10_game 15 = .ok ((.aload_n 0), 1) := by decide +kernel
theorem dX10_game_16 : decode cX10_game 16 = .ok ((.iload 4), 2) := by decide +kernel
theorem dX10_game_18 : decode cX10_game 18 = .ok ((.invokevirtual 116), 3) := by decide +kernel
theorem dX10_game_21 : decode cX10_game 21 = .ok (.ireturn, 1) := by decide +kernel
theorem dX10_game_22 : decode cX10_game 22 = .ok ((.aload_n 0), 1) := by decide +kernel
theorem dX10_game_23 : decode cX10_game 23 = .ok ((.getfield 64), 3) := by decide +kernel
theorem dX10_game_26 : decode cX10_game 26 = .ok ((.invokevirtual 365), 3) := by decide +kernel
theorem dX10_game_29 : decode cX10_game 29 = .ok ((.aload_n 0), 1) := by decide +kernel
theorem dX10_game_30 : decode cX10_game 30 = .ok ((.getfield 73), 3) := by decide +kernel
theorem dX10_game_33 : decode cX10_game 33 = .ok ((.iload_n 1), 1) := by decide +kernel
theorem dX10_game_34 : decode cX10_game 34 = .ok ((.iload_n 2), 1) := by decide +kernel
theorem dX10_game_35 : decode cX10_game 35 = .ok ((.iload_n 3), 1) := by decide +kernel
theorem dX10_game_36 : decode cX10_game 36 = .ok ((.invokevirtual 368), 3) := by decide +kernel
theorem dX10_game_39 : decode cX10_game 39 = .ok ((.aload_n 0), 1) := by decide +kernel
theorem dX10_game_40 : decode cX10_game 40 = .ok ((.aload_n 0), 1) := by decide +kernel
theorem dX10_game_41 : decode cX10_game 41 = .ok ((.getfield 73), 3) := by decide +kernel
theorem dX10_game_44 : decode cX10_game 44 = .ok ((.invokevirtual 371), 3) := by decide +kernel
theorem dX10_game_47 : decode cX10_game 47 = .ok ((.aload_n 0), 1) := by decide +kernel
theorem dX10_game_48 : decode cX10_game 48 = .ok ((.getfield 64), 3) := by decide +kernel
theorem dX10_game_51 : decode cX10_game 51 = .ok ((.invokevirtual 290), 3) := by decide +kernel
theorem dX10_game_54 : decode cX10_game 54 = .ok ((.invokevirtual 294), 3) := by decide +kernel
theorem dX10_game_57 : decode cX10_game 57 = .ok (.ireturn, 1) := by decide +kernel
def p_X10_game   (S : vSt) (a1 : Int32) (a2 : Int32) (a3 : Int32) (post : Bool → vSt → Prop) : Prop := p_X10_gameStatus  S a1 a2 a3 0 (fun r14 S13 => ((r14 = 0 → p_X3_see  S13  (fun S15 => p_X2_setGame  S15 a1 a2 a3 (fun S16 => p_X2_outcome  S16  (fun r18 S17 => p_X3_whole  S17  (fun r20 S19 => p_X10_tell  S19 r18 r20 (fun r22 S21 => post r22 S21)))))) ∧ (¬ r14 = 0 → p_X10_settled  S13 r14 (fun r24 S23 => post r24 S23))))
set_option maxHeartbeats 4000000 in
set_option maxRecDepth 100000 in
theorem c_X10_game (l : Launch) (G : vG)    {S : vSt} (a1 : Int32) (a2 : Int32) (a3 : Int32) (post : Bool → vSt → Prop) (h : p_X10_game   S a1 a2 a3 post) : Met l yX10_game (v_ws yX10_game cX10_game 5 (some .boolean)) (v_rm 8 414) (v_Pc G [.ref (G.1 0), .int a1, .int a2, .int a3] S) (v_Qz G post) 0 0 (v_A G) := by
  refine v_start (by decide +kernel) (Nat.le_of_ble_eq_true rfl) (fun X hl C D => ?_)
  subst hl
  have C : v_Cx X G cX10_game RX10 5 (v_rm 8 414) := C
  show VJ X G S 0 [(0, .ref (G.1 0)), (1, .int a1), (2, .int a2), (3, .int a3)] []
  refine V_aload_n C 0 dX10_game_0 rfl rfl ?_
  refine V_iload_n C 1 dX10_game_1 rfl rfl ?_
  refine V_iload_n C 2 dX10_game_2 rfl rfl ?_
  refine V_iload_n C 3 dX10_game_3 rfl rfl ?_
  refine V_iconst (v := 0) C dX10_game_4 (by decide) ?_
  refine V_callVi (As := [.int a1, .int a2, .int a3, .int 0]) (rest := []) C (c_X10_gameStatus (v_l X) G  _ _ _ _ _ h) 0 10 (by decide) (by decide) (by decide) rfl KV_X10_gameStatus k_RX10_361 rfl rfl rfl (Nat.le_of_ble_eq_true rfl) ⟨Nat.le_of_ble_eq_true rfl, Nat.le_of_ble_eq_true rfl⟩ dX10_game_5 (fun r14 S13 h => ?_)
  refine V_istore (lv' := [(0, .ref (G.1 0)), (1, .int a1), (2, .int a2), (3, .int a3), (4, .int r14)]) C [1, 2, 3, 4, 0] dX10_game_8 (by decide) rfl ?_
  refine V_iload C 4 dX10_game_10 rfl ?_
  refine V_if_eq (tgt := 22) C dX10_game_12 (by decide) (fun c => ?_) (fun c => ?_)
  · have h := h.1 c
    refine V_aload_n C 0 dX10_game_22 rfl rfl ?_
    refine V_ga C 0 (by decide) (by decide) F_10_7 k_RX10_64 dX10_game_23 ?_
    refine V_callVv (As := []) (rest := []) C (c_X3_see (v_l X) G  _ h) 58 3 (by decide) (by decide) (by decide) rfl KV_X3_see k_RX10_365 rfl rfl rfl (Nat.le_of_ble_eq_true rfl) ⟨Nat.le_of_ble_eq_true rfl, Nat.le_of_ble_eq_true rfl⟩ dX10_game_26 (fun S15 h => ?_)
    refine V_aload_n C 0 dX10_game_29 rfl rfl ?_
    refine V_ga C 0 (by decide) (by decide) F_10_8 k_RX10_73 dX10_game_30 ?_
    refine V_iload_n C 1 dX10_game_33 rfl rfl ?_
    refine V_iload_n C 2 dX10_game_34 rfl rfl ?_
    refine V_iload_n C 3 dX10_game_35 rfl rfl ?_
    refine V_callVv (As := [.int a1, .int a2, .int a3]) (rest := []) C (c_X2_setGame (v_l X) G  _ _ _ _ h) 68 2 (by decide) (by decide) (by decide) rfl KV_X2_setGame k_RX10_368 rfl rfl rfl (Nat.le_of_ble_eq_true rfl) ⟨Nat.le_of_ble_eq_true rfl, Nat.le_of_ble_eq_true rfl⟩ dX10_game_36 (fun S16 h => ?_)
    refine V_aload_n C 0 dX10_game_39 rfl rfl ?_
    refine V_aload_n C 0 dX10_game_40 rfl rfl ?_
    refine V_ga C 0 (by decide) (by decide) F_10_8 k_RX10_73 dX10_game_41 ?_
    refine V_callVl (As := []) (rest := [.ref (G.1 0)]) C (c_X2_outcome (v_l X) G  _ h) 68 2 (by decide) (by decide) (by decide) rfl KV_X2_outcome k_RX10_371 rfl rfl rfl (Nat.le_of_ble_eq_true rfl) ⟨Nat.le_of_ble_eq_true rfl, Nat.le_of_ble_eq_true rfl⟩ dX10_game_44 (fun r18 S17 h => ?_)
    refine V_aload_n C 0 dX10_game_47 rfl rfl ?_
    refine V_ga C 0 (by decide) (by decide) F_10_7 k_RX10_64 dX10_game_48 ?_
    refine V_callVl (As := []) (rest := [.long r18, .ref (G.1 0)]) C (c_X3_whole (v_l X) G  _ h) 58 3 (by decide) (by decide) (by decide) rfl KV_X3_whole k_RX10_290 rfl rfl rfl (Nat.le_of_ble_eq_true rfl) ⟨Nat.le_of_ble_eq_true rfl, Nat.le_of_ble_eq_true rfl⟩ dX10_game_51 (fun r20 S19 h => ?_)
    refine V_callVz (As := [.long r18, .long r20]) (rest := []) C (c_X10_tell (v_l X) G  _ _ _ h) 0 10 (by decide) (by decide) (by decide) rfl KV_X10_tell k_RX10_294 rfl rfl rfl (Nat.le_of_ble_eq_true rfl) ⟨Nat.le_of_ble_eq_true rfl, Nat.le_of_ble_eq_true rfl⟩ dX10_game_54 (fun r22 S21 h => ?_)
    exact V_zret C D dX10_game_57 h
  · have h := h.2 c
    refine V_aload_n C 0 dX10_game_15 rfl rfl ?_
    refine V_iload C 4 dX10_game_16 rfl ?_
    refine V_callVz (As := [.int r14]) (rest := []) C (c_X10_settled (v_l X) G  _ _ h) 0 10 (by decide) (by decide) (by decide) rfl KV_X10_settled k_RX10_116 rfl rfl rfl (Nat.le_of_ble_eq_true rfl) ⟨Nat.le_of_ble_eq_true rfl, Nat.le_of_ble_eq_true rfl⟩ dX10_game_18 (fun r24 S23 h => ?_)
    exact V_zret C D dX10_game_21 h
/-! HalfAccuser.moveOf(III)I -/
theorem dX10_moveOf_0 : decode cX10_moveOf 0 = .ok ((.aload_n 0), 1) := by decide +kernel
theorem dX10_moveOf_1 : decode cX10_moveOf 1 = .ok ((.iload_n 1), 1) := by decide +kernel
theorem dX10_moveOf_2 : decode cX10_moveOf 2 = .ok ((.iload_n 2), 1) := by decide +kernel
theorem dX10_moveOf_3 : decode cX10_moveOf 3 = .ok ((.iload_n 3), 1) := by decide +kernel
theorem dX10_moveOf_4 : decode cX10_moveOf 4 = .ok ((.iconst 1), 1) := by decide +kernel
theorem dX10_moveOf_5 : decode cX10_moveOf 5 = .ok ((.invokevirtual 361), 3) := by decide +kernel
theorem dX10_moveOf_8 : decode cX10_moveOf 8 = .ok ((.istore 4), 2) := by decide +kernel
theorem dX10_moveOf_10 : decode cX10_moveOf 10 = .ok ((.iload 4), 2) := by decide +kernel
theorem dX10_moveOf_12 : decode cX10_moveOf 12 = .ok ((.ifCond .eq 10), 3) := by decide +kernel
theorem dX10_moveOf_15 : decode cX10_moveOf 15 = .ok ((.aload_n 0), 1) := by decide +kernel
theorem dX10_moveOf_16 : decode cX10_moveOf 16 = .ok ((.iload 4), 2) := by decide +kernel
theorem dX10_moveOf_18 : decode cX10_moveOf 18 = .ok ((.invokevirtual 153), 3) := by decide +kernel
theorem dX10_moveOf_21 : decode cX10_moveOf 21 = .ok (.ireturn, 1) := by decide +kernel
theorem dX10_moveOf_22 : decode cX10_moveOf 22 = .ok ((.aload_n 0), 1) := by decide +kernel
theorem dX10_moveOf_23 : decode cX10_moveOf 23 = .ok ((.getfield 64), 3) := by decide +kernel
theorem dX10_moveOf_26 : decode cX10_moveOf 26 = .ok ((.invokevirtual 365), 3) := by decide +kernel
theorem dX10_moveOf_29 : decode cX10_moveOf 29 = .ok ((.aload_n 0), 1) := by decide +kernel
theorem dX10_moveOf_30 : decode cX10_moveOf 30 = .ok ((.getfield 73), 3) := by decide +kernel
theorem dX10_moveOf_33 : decode cX10_moveOf 33 = .ok ((.iload_n 1), 1) := by decide +kernel
theorem dX10_moveOf_34 : decode cX10_moveOf 34 = .ok ((.iload_n 2), 1) := by decide +kernel
theorem dX10_moveOf_35 : decode cX10_moveOf 35 = .ok ((.iload_n 3), 1) := by decide +kernel
theorem dX10_moveOf_36 : decode cX10_moveOf 36 = .ok ((.invokevirtual 368), 3) := by decide +kernel
theorem dX10_moveOf_39 : decode cX10_moveOf 39 = .ok ((.aload_n 0), 1) := by decide +kernel
theorem dX10_moveOf_40 : decode cX10_moveOf 40 = .ok ((.aload_n 0), 1) := by decide +kernel
theorem dX10_moveOf_41 : decode cX10_moveOf 41 = .ok ((.getfield 73), 3) := by decide +kernel
theorem dX10_moveOf_44 : decode cX10_moveOf 44 = .ok ((.invokevirtual 374), 3) := by decide +kernel
theorem dX10_moveOf_47 : decode cX10_moveOf 47 = .ok ((.invokevirtual 320), 3) := by decide +kernel
theorem dX10_moveOf_50 : decode cX10_moveOf 50 = .ok (.ireturn, 1) := by decide +kernel
def p_X10_moveOf   (S : vSt) (a1 : Int32) (a2 : Int32) (a3 : Int32) (post : Int32 → vSt → Prop) : Prop := p_X10_gameStatus  S a1 a2 a3 1 (fun r12 S11 => ((r12 = 0 → p_X3_see  S11  (fun S13 => p_X2_setGame  S13 a1 a2 a3 (fun S14 => p_X2_firstMove  S14  (fun r16 S15 => p_X10_toldIfAny  S15 r16 (fun r18 S17 => post r18 S17))))) ∧ (¬ r12 = 0 → p_X10_refused  S11 r12 (fun r20 S19 => post r20 S19))))
set_option maxHeartbeats 4000000 in
set_option maxRecDepth 100000 in
theorem c_X10_moveOf (l : Launch) (G : vG)    {S : vSt} (a1 : Int32) (a2 : Int32) (a3 : Int32) (post : Int32 → vSt → Prop) (h : p_X10_moveOf   S a1 a2 a3 post) : Met l yX10_moveOf (v_ws yX10_moveOf cX10_moveOf 5 (some .int)) (v_rm 9 437) (v_Pc G [.ref (G.1 0), .int a1, .int a2, .int a3] S) (v_Qi G post) 0 0 (v_A G) := by
  refine v_start (by decide +kernel) (Nat.le_of_ble_eq_true rfl) (fun X hl C D => ?_)
  subst hl
  have C : v_Cx X G cX10_moveOf RX10 5 (v_rm 9 437) := C
  show VJ X G S 0 [(0, .ref (G.1 0)), (1, .int a1), (2, .int a2), (3, .int a3)] []
  refine V_aload_n C 0 dX10_moveOf_0 rfl rfl ?_
  refine V_iload_n C 1 dX10_moveOf_1 rfl rfl ?_
  refine V_iload_n C 2 dX10_moveOf_2 rfl rfl ?_
  refine V_iload_n C 3 dX10_moveOf_3 rfl rfl ?_
  refine V_iconst (v := 1) C dX10_moveOf_4 (by decide) ?_
  refine V_callVi (As := [.int a1, .int a2, .int a3, .int 1]) (rest := []) C (c_X10_gameStatus (v_l X) G  _ _ _ _ _ h) 0 10 (by decide) (by decide) (by decide) rfl KV_X10_gameStatus k_RX10_361 rfl rfl rfl (Nat.le_of_ble_eq_true rfl) ⟨Nat.le_of_ble_eq_true rfl, Nat.le_of_ble_eq_true rfl⟩ dX10_moveOf_5 (fun r12 S11 h => ?_)
  refine V_istore (lv' := [(0, .ref (G.1 0)), (1, .int a1), (2, .int a2), (3, .int a3), (4, .int r12)]) C [1, 2, 3, 4, 0] dX10_moveOf_8 (by decide) rfl ?_
  refine V_iload C 4 dX10_moveOf_10 rfl ?_
  refine V_if_eq (tgt := 22) C dX10_moveOf_12 (by decide) (fun c => ?_) (fun c => ?_)
  · have h := h.1 c
    refine V_aload_n C 0 dX10_moveOf_22 rfl rfl ?_
    refine V_ga C 0 (by decide) (by decide) F_10_7 k_RX10_64 dX10_moveOf_23 ?_
    refine V_callVv (As := []) (rest := []) C (c_X3_see (v_l X) G  _ h) 58 3 (by decide) (by decide) (by decide) rfl KV_X3_see k_RX10_365 rfl rfl rfl (Nat.le_of_ble_eq_true rfl) ⟨Nat.le_of_ble_eq_true rfl, Nat.le_of_ble_eq_true rfl⟩ dX10_moveOf_26 (fun S13 h => ?_)
    refine V_aload_n C 0 dX10_moveOf_29 rfl rfl ?_
    refine V_ga C 0 (by decide) (by decide) F_10_8 k_RX10_73 dX10_moveOf_30 ?_
    refine V_iload_n C 1 dX10_moveOf_33 rfl rfl ?_
    refine V_iload_n C 2 dX10_moveOf_34 rfl rfl ?_
    refine V_iload_n C 3 dX10_moveOf_35 rfl rfl ?_
    refine V_callVv (As := [.int a1, .int a2, .int a3]) (rest := []) C (c_X2_setGame (v_l X) G  _ _ _ _ h) 68 2 (by decide) (by decide) (by decide) rfl KV_X2_setGame k_RX10_368 rfl rfl rfl (Nat.le_of_ble_eq_true rfl) ⟨Nat.le_of_ble_eq_true rfl, Nat.le_of_ble_eq_true rfl⟩ dX10_moveOf_36 (fun S14 h => ?_)
    refine V_aload_n C 0 dX10_moveOf_39 rfl rfl ?_
    refine V_aload_n C 0 dX10_moveOf_40 rfl rfl ?_
    refine V_ga C 0 (by decide) (by decide) F_10_8 k_RX10_73 dX10_moveOf_41 ?_
    refine V_callVi (As := []) (rest := [.ref (G.1 0)]) C (c_X2_firstMove (v_l X) G  _ h) 68 2 (by decide) (by decide) (by decide) rfl KV_X2_firstMove k_RX10_374 rfl rfl rfl (Nat.le_of_ble_eq_true rfl) ⟨Nat.le_of_ble_eq_true rfl, Nat.le_of_ble_eq_true rfl⟩ dX10_moveOf_44 (fun r16 S15 h => ?_)
    refine V_callVi (As := [.int r16]) (rest := []) C (c_X10_toldIfAny (v_l X) G  _ _ h) 0 10 (by decide) (by decide) (by decide) rfl KV_X10_toldIfAny k_RX10_320 rfl rfl rfl (Nat.le_of_ble_eq_true rfl) ⟨Nat.le_of_ble_eq_true rfl, Nat.le_of_ble_eq_true rfl⟩ dX10_moveOf_47 (fun r18 S17 h => ?_)
    exact V_iret C D dX10_moveOf_50 h
  · have h := h.2 c
    refine V_aload_n C 0 dX10_moveOf_15 rfl rfl ?_
    refine V_iload C 4 dX10_moveOf_16 rfl ?_
    refine V_callVi (As := [.int r12]) (rest := []) C (c_X10_refused (v_l X) G  _ _ h) 0 10 (by decide) (by decide) (by decide) rfl KV_X10_refused k_RX10_153 rfl rfl rfl (Nat.le_of_ble_eq_true rfl) ⟨Nat.le_of_ble_eq_true rfl, Nat.le_of_ble_eq_true rfl⟩ dX10_moveOf_18 (fun r20 S19 h => ?_)
    exact V_iret C D dX10_moveOf_21 h
/-! HalfAccuser.live(I)I -/
theorem dX10_live_0 : decode cX10_live 0 = .ok ((.iload_n 1), 1) := by decide +kernel
theorem dX10_live_1 : decode cX10_live 1 = .ok ((.ifCond .lt 10), 3) := by decide +kernel
theorem dX10_live_4 : decode cX10_live 4 = .ok ((.iload_n 1), 1) := by decide +kernel
theorem dX10_live_5 : decode cX10_live 5 = .ok ((.sipush 9999), 3) := by decide +kernel
theorem dX10_live_8 : decode cX10_live 8 = .ok ((.if_icmp .le 9), 3) := by decide +kernel
theorem dX10_live_11 : decode cX10_live 11 = .ok ((.aload_n 0), 1) := by decide +kernel
theorem dX10_live_12 : decode cX10_live 12 = .ok ((.iconst 5), 1) := by decide +kernel
theorem dX10_live_13 : decode cX10_live 13 = .ok ((.invokevirtual 153), 3) := by decide +kernel
theorem dX10_live_16 : decode cX10_live 16 = .ok (.ireturn, 1) := by decide +kernel
theorem dX10_live_17 : decode cX10_live 17 = .ok ((.aload_n 0), 1) := by decide +kernel
theorem dX10_live_18 : decode cX10_live 18 = .ok ((.getfield 26), 3) := by decide +kernel
theorem dX10_live_21 : decode cX10_live 21 = .ok ((.getfield 48), 3) := by decide +kernel
theorem dX10_live_24 : decode cX10_live 24 = .ok ((.getfield 411), 3) := by decide +kernel
theorem dX10_live_27 : decode cX10_live 27 = .ok ((.ifCond .ne 10), 3) := by decide +kernel
theorem dX10_live_30 : decode cX10_live 30 = .ok ((.aload_n 0), 1) := by decide +kernel
theorem dX10_live_31 : decode cX10_live 31 = .ok ((.bipush 8), 2) := by decide +kernel
theorem dX10_live_33 : decode cX10_live 33 = .ok ((.invokevirtual 153), 3) := by decide +kernel
theorem dX10_live_36 : decode cX10_live 36 = .ok (.ireturn, 1) := by decide +kernel
theorem dX10_live_37 : decode cX10_live 37 = .ok ((.aload_n 0), 1) := by decide +kernel
theorem dX10_live_38 : decode cX10_live 38 = .ok ((.getfield 87), 3) := by decide +kernel
theorem dX10_live_41 : decode cX10_live 41 = .ok ((.aload_n 0), 1) := by decide +kernel
theorem dX10_live_42 : decode cX10_live 42 = .ok ((.getfield 26), 3) := by decide +kernel
theorem dX10_live_45 : decode cX10_live 45 = .ok ((.iload_n 1), 1) := by decide +kernel
theorem dX10_live_46 : decode cX10_live 46 = .ok ((.invokevirtual 415), 3) := by decide +kernel
theorem dX10_live_49 : decode cX10_live 49 = .ok ((.aload_n 0), 1) := by decide +kernel
theorem dX10_live_50 : decode cX10_live 50 = .ok ((.getfield 87), 3) := by decide +kernel
theorem dX10_live_53 : decode cX10_live 53 = .ok ((.getfield 419), 3) := by decide +kernel
theorem dX10_live_56 : decode cX10_live 56 = .ok ((.aload_n 0), 1) := by decide +kernel
theorem dX10_live_57 : decode cX10_live 57 = .ok ((.getfield 91), 3) := by decide +kernel
theorem dX10_live_60 : decode cX10_live 60 = .ok ((.invokestatic 422), 3) := by decide +kernel
theorem dX10_live_63 : decode cX10_live 63 = .ok ((.aload_n 0), 1) := by decide +kernel
theorem dX10_live_64 : decode cX10_live 64 = .ok ((.iconst 1), 1) := by decide +kernel
theorem dX10_live_65 : decode cX10_live 65 = .ok ((.putfield 426), 3) := by decide +kernel
theorem dX10_live_68 : decode cX10_live 68 = .ok ((.aload_n 0), 1) := by decide +kernel
theorem dX10_live_69 : decode cX10_live 69 = .ok ((.aload_n 0), 1) := by decide +kernel
theorem dX10_live_70 : decode cX10_live 70 = .ok ((.getfield 87), 3) := by decide +kernel
theorem dX10_live_73 : decode cX10_live 73 = .ok ((.getfield 429), 3) := by decide +kernel
theorem dX10_live_76 : decode cX10_live 76 = .ok ((.invokevirtual 173), 3) := by decide +kernel
theorem dX10_live_79 : decode cX10_live 79 = .ok (.ireturn, 1) := by decide +kernel
def p_X10_live_11  (a1 : Int32)   (post : Int32 → vSt → Prop) (S : vSt)  : Prop := p_X10_refused  S 5 (fun r11 S10 => post r11 S10)
def p_X10_live   (S : vSt) (a1 : Int32) (post : Int32 → vSt → Prop) : Prop := ((a1 < 0 → p_X10_live_11 a1 post S ) ∧ (¬ a1 < 0 → ((a1 ≤ 9999 → ((¬ (S.1 25 8) = 0 → p_X4_run 10 S a1 (fun S10 => p_X10_copy 75 5 76 5 S10  (fun S11 => ∀ S12, S12 = v_si S11 0 12 1 → p_X10_told  S12 (S12.1 74 1) (fun r14 S13 => post r14 S13)))) ∧ ((S.1 25 8) = 0 → p_X10_refused  S 8 (fun r16 S15 => post r16 S15)))) ∧ (¬ a1 ≤ 9999 → p_X10_live_11 a1 post S ))))
set_option maxHeartbeats 4000000 in
set_option maxRecDepth 100000 in
theorem q_X10_live_11 {X : vX} {G : vG}  {post : Int32 → vSt → Prop} (C : v_Cx X G cX10_live RX10 2 (v_rm 7 204)) (D : v_Rx X G (v_Qi G post) (some .int))  {a1 : Int32}   : ∀ (S : vSt), p_X10_live_11 a1 post S  → VJ X G S 11 [(0, .ref (G.1 0))] [] := by
  intro S  h
  refine V_aload_n C 0 dX10_live_11 rfl rfl ?_
  refine V_iconst (v := 5) C dX10_live_12 (by decide) ?_
  refine V_callVi (As := [.int 5]) (rest := []) C (c_X10_refused (v_l X) G  _ _ h) 0 10 (by decide) (by decide) (by decide) rfl KV_X10_refused k_RX10_153 rfl rfl rfl (Nat.le_of_ble_eq_true rfl) ⟨Nat.le_of_ble_eq_true rfl, Nat.le_of_ble_eq_true rfl⟩ dX10_live_13 (fun r11 S10 h => ?_)
  exact V_iret C D dX10_live_16 h
set_option maxHeartbeats 4000000 in
set_option maxRecDepth 100000 in
theorem c_X10_live (l : Launch) (G : vG)    {S : vSt} (a1 : Int32) (post : Int32 → vSt → Prop) (h : p_X10_live   S a1 post) : Met l yX10_live (v_ws yX10_live cX10_live 2 (some .int)) (v_rm 7 204) (v_Pc G [.ref (G.1 0), .int a1] S) (v_Qi G post) 0 0 (v_A G) := by
  refine v_start (by decide +kernel) (Nat.le_of_ble_eq_true rfl) (fun X hl C D => ?_)
  subst hl
  have C : v_Cx X G cX10_live RX10 2 (v_rm 7 204) := C
  show VJ X G S 0 [(0, .ref (G.1 0)), (1, .int a1)] []
  refine V_iload_n C 1 dX10_live_0 rfl rfl ?_
  refine V_if_lt (tgt := 11) C dX10_live_1 (by decide) (fun c => ?_) (fun c => ?_)
  · have h := h.1 c
    refine V_loc (lv' := [(0, .ref (G.1 0))]) [0] rfl ?_
    exact q_X10_live_11 C D  _ h
  · have h := h.2 c
    refine V_iload_n C 1 dX10_live_4 rfl rfl ?_
    refine V_sipush (v := 9999) C dX10_live_5 (by decide) ?_
    refine V_icmp_le (tgt := 17) C dX10_live_8 (by decide) (fun c => ?_) (fun c => ?_)
    · have h := h.1 c
      refine V_aload_n C 0 dX10_live_17 rfl rfl ?_
      refine V_ga C 0 (by decide) (by decide) F_10_2 k_RX10_26 dX10_live_18 ?_
      refine V_gr C 10 (by decide) (by decide) F_0_14 k_RX10_48 dX10_live_21 ?_
      refine V_gi C 25 (by decide) (by decide) F_8_8 k_RX10_411 dX10_live_24 ?_
      refine V_if_ne (tgt := 37) C dX10_live_27 (by decide) (fun c => ?_) (fun c => ?_)
      · have h := h.1 c
        refine V_aload_n C 0 dX10_live_37 rfl rfl ?_
        refine V_ga C 0 (by decide) (by decide) F_10_10 k_RX10_87 dX10_live_38 ?_
        refine V_aload_n C 0 dX10_live_41 rfl rfl ?_
        refine V_ga C 0 (by decide) (by decide) F_10_2 k_RX10_26 dX10_live_42 ?_
        refine V_iload_n C 1 dX10_live_45 rfl rfl ?_
        refine V_callVv (As := [.ref (G.1 10), .int a1]) (rest := []) C (c_X4_run (v_l X) G v_i10 _ _ h) 74 4 (by decide) (by decide) (by decide) rfl KV_X4_run k_RX10_415 rfl rfl rfl (Nat.le_of_ble_eq_true rfl) ⟨Nat.le_of_ble_eq_true rfl, Nat.le_of_ble_eq_true rfl⟩ dX10_live_46 (fun S10 h => ?_)
        refine V_aload_n C 0 dX10_live_49 rfl rfl ?_
        refine V_ga C 0 (by decide) (by decide) F_10_10 k_RX10_87 dX10_live_50 ?_
        refine V_ga C 74 (by decide) (by decide) F_4_0 k_RX10_419 dX10_live_53 ?_
        refine V_aload_n C 0 dX10_live_56 rfl rfl ?_
        refine V_ga C 0 (by decide) (by decide) F_10_11 k_RX10_91 dX10_live_57 ?_
        refine V_callSv (As := [.ref (G.1 75), .ref (G.1 76)]) (rest := []) C (c_X10_copy (v_l X) G (by decide) (by decide) (by decide) (by decide) _ h) KV_X10_copy k_RX10_422 rfl rfl rfl (Nat.le_of_ble_eq_true rfl) ⟨Nat.le_of_ble_eq_true rfl, Nat.le_of_ble_eq_true rfl⟩ dX10_live_60 (fun S11 h => ?_)
        refine V_aload_n C 0 dX10_live_63 rfl rfl ?_
        refine V_iconst (v := 1) C dX10_live_64 (by decide) ?_
        refine V_pz C 0 (by decide) (by decide) P_10_12 k_RX10_426 v_isb_1 dX10_live_65 ?_
        refine V_topS (fun S12 eS12 => ?_)
        have h := h S12 eS12
        refine V_aload_n C 0 dX10_live_68 rfl rfl ?_
        refine V_aload_n C 0 dX10_live_69 rfl rfl ?_
        refine V_ga C 0 (by decide) (by decide) F_10_10 k_RX10_87 dX10_live_70 ?_
        refine V_gi C 74 (by decide) (by decide) F_4_1 k_RX10_429 dX10_live_73 ?_
        refine V_callVi (As := [.int (S12.1 74 1)]) (rest := []) C (c_X10_told (v_l X) G  _ _ h) 0 10 (by decide) (by decide) (by decide) rfl KV_X10_told k_RX10_173 rfl rfl rfl (Nat.le_of_ble_eq_true rfl) ⟨Nat.le_of_ble_eq_true rfl, Nat.le_of_ble_eq_true rfl⟩ dX10_live_76 (fun r14 S13 h => ?_)
        exact V_iret C D dX10_live_79 h
      · have h := h.2 c
        refine V_aload_n C 0 dX10_live_30 rfl rfl ?_
        refine V_bipush (v := 8) C dX10_live_31 (by decide) ?_
        refine V_callVi (As := [.int 8]) (rest := []) C (c_X10_refused (v_l X) G  _ _ h) 0 10 (by decide) (by decide) (by decide) rfl KV_X10_refused k_RX10_153 rfl rfl rfl (Nat.le_of_ble_eq_true rfl) ⟨Nat.le_of_ble_eq_true rfl, Nat.le_of_ble_eq_true rfl⟩ dX10_live_33 (fun r16 S15 h => ?_)
        exact V_iret C D dX10_live_36 h
    · have h := h.2 c
      refine V_loc (lv' := [(0, .ref (G.1 0))]) [0] rfl ?_
      exact q_X10_live_11 C D  _ h
/-! HalfAccuser.mean(II)Z -/
theorem dX10_mean_0 : decode cX10_mean 0 = .ok ((.iload_n 1), 1) := by decide +kernel
theorem dX10_mean_1 : decode cX10_mean 1 = .ok ((.ifCond .lt 32), 3) := by decide +kernel
theorem dX10_mean_4 : decode cX10_mean 4 = .ok ((.iload_n 1), 1) := by decide +kernel
theorem dX10_mean_5 : decode cX10_mean 5 = .ok ((.sipush 9999), 3) := by decide +kernel
theorem dX10_mean_8 : decode cX10_mean 8 = .ok ((.if_icmp .gt 25), 3) := by decide +kernel
theorem dX10_mean_11 : decode cX10_mean 11 = .ok ((.iload_n 2), 1) := by decide +kernel
theorem dX10_mean_12 : decode cX10_mean 12 = .ok ((.iconst 1), 1) := by decide +kernel
theorem dX10_mean_13 : decode cX10_mean 13 = .ok ((.if_icmp .lt 20), 3) := by decide +kernel
theorem dX10_mean_16 : decode cX10_mean 16 = .ok ((.iload_n 2), 1) := by decide +kernel
theorem dX10_mean_17 : decode cX10_mean 17 = .ok ((.bipush 20), 2) := by decide +kernel
theorem dX10_mean_19 : decode cX10_mean 19 = .ok ((.if_icmp .gt 14), 3) := by decide +kernel
theorem dX10_mean_22 : decode cX10_mean 22 = .ok ((.iload_n 1), 1) := by decide +kernel
theorem dX10_mean_23 : decode cX10_mean 23 = .ok ((.iload_n 2), 1) := by decide +kernel
theorem dX10_mean_24 : decode cX10_mean 24 = .ok (.iadd, 1) := by decide +kernel
theorem dX10_mean_25 : decode cX10_mean 25 = .ok ((.iconst 1), 1) := by decide +kernel
theorem dX10_mean_26 : decode cX10_mean 26 = .ok (.isub, 1) := by decide +kernel
theorem dX10_mean_27 : decode cX10_mean 27 = .ok ((.sipush 9999), 3) := by decide +kernel
theorem dX10_mean_30 : decode cX10_mean 30 = .ok ((.if_icmp .le 9), 3) := by decide +kernel
theorem dX10_mean_33 : decode cX10_mean 33 = .ok ((.aload_n 0), 1) := by decide +kernel
theorem dX10_mean_34 : decode cX10_mean 34 = .ok ((.iconst 5), 1) := by decide +kernel
theorem dX10_mean_35 : decode cX10_mean 35 = .ok ((.invokevirtual 116), 3) := by decide +kernel
theorem dX10_mean_38 : decode cX10_mean 38 = .ok (.ireturn, 1) := by decide +kernel
theorem dX10_mean_39 : decode cX10_mean 39 = .ok ((.aload_n 0), 1) := by decide +kernel
theorem dX10_mean_40 : decode cX10_mean 40 = .ok ((.getfield 26), 3) := by decide +kernel
theorem dX10_mean_43 : decode cX10_mean 43 = .ok ((.getfield 48), 3) := by decide +kernel
theorem dX10_mean_46 : decode cX10_mean 46 = .ok ((.getfield 411), 3) := by decide +kernel
theorem dX10_mean_49 : decode cX10_mean 49 = .ok ((.ifCond .ne 10), 3) := by decide +kernel
theorem dX10_mean_52 : decode cX10_mean 52 = .ok ((.aload_n 0), 1) := by decide +kernel
theorem dX10_mean_53 : decode cX10_mean 53 = .ok ((.bipush 8), 2) := by decide +kernel
theorem dX10_mean_55 : decode cX10_mean 55 = .ok ((.invokevirtual 116), 3) := by decide +kernel
theorem dX10_mean_58 : decode cX10_mean 58 = .ok (.ireturn, 1) := by decide +kernel
theorem dX10_mean_59 : decode cX10_mean 59 = .ok ((.lconst 0), 1) := by decide +kernel
theorem dX10_mean_60 : decode cX10_mean 60 = .ok ((.lstore_n 3), 1) := by decide +kernel
theorem dX10_mean_61 : decode cX10_mean 61 = .ok ((.iconst 0), 1) := by decide +kernel
theorem dX10_mean_62 : decode cX10_mean 62 = .ok ((.istore 5), 2) := by decide +kernel
theorem dX10_mean_64 : decode cX10_mean 64 = .ok ((.iload 5), 2) := by decide +kernel
theorem dX10_mean_66 : decode cX10_mean 66 = .ok ((.iload_n 2), 1) := by decide +kernel
theorem dX10_mean_67 : decode cX10_mean 67 = .ok ((.if_icmp .ge 46), 3) := by decide +kernel
theorem dX10_mean_70 : decode cX10_mean 70 = .ok ((.aload_n 0), 1) := by decide +kernel
theorem dX10_mean_71 : decode cX10_mean 71 = .ok ((.getfield 30), 3) := by decide +kernel
theorem dX10_mean_74 : decode cX10_mean 74 = .ok ((.aload_n 0), 1) := by decide +kernel
theorem dX10_mean_75 : decode cX10_mean 75 = .ok ((.getfield 26), 3) := by decide +kernel
theorem dX10_mean_78 : decode cX10_mean 78 = .ok ((.invokevirtual 167), 3) := by decide +kernel
theorem dX10_mean_81 : decode cX10_mean 81 = .ok ((.aload_n 0), 1) := by decide +kernel
theorem dX10_mean_82 : decode cX10_mean 82 = .ok ((.getfield 87), 3) := by decide +kernel
theorem dX10_mean_85 : decode cX10_mean 85 = .ok ((.aload_n 0), 1) := by decide +kernel
theorem dX10_mean_86 : decode cX10_mean 86 = .ok ((.getfield 30), 3) := by decide +kernel
theorem dX10_mean_89 : decode cX10_mean 89 = .ok ((.iload_n 1), 1) := by decide +kernel
theorem dX10_mean_90 : decode cX10_mean 90 = .ok ((.iload 5), 2) := by decide +kernel
theorem dX10_mean_92 : decode cX10_mean 92 = .ok (.iadd, 1) := by decide +kernel
theorem dX10_mean_93 : decode cX10_mean 93 = .ok ((.invokevirtual 415), 3) := by decide +kernel
theorem dX10_mean_96 : decode cX10_mean 96 = .ok ((.lload_n 3), 1) := by decide +kernel
theorem dX10_mean_97 : decode cX10_mean 97 = .ok ((.aload_n 0), 1) := by decide +kernel
theorem dX10_mean_98 : decode cX10_mean 98 = .ok ((.getfield 30), 3) := by decide +kernel
theorem dX10_mean_101 : decode cX10_mean 101 = .ok ((.getfield 430), 3) := by decide +kernel
theorem dX10_mean_104 : decode cX10_mean 104 = .ok (.i2l, 1) := by decide +kernel
theorem dX10_mean_105 : decode cX10_mean 105 = .ok (.ladd, 1) := by decide +kernel
theorem dX10_mean_106 : decode cX10_mean 106 = .ok ((.lstore_n 3), 1) := by decide +kernel
theorem dX10_mean_107 : decode cX10_mean 107 = .ok ((.iinc 5 1), 3) := by decide +kernel
theorem dX10_mean_110 : decode cX10_mean 110 = .ok ((.goto (-46)), 3) := by decide +kernel
theorem dX10_mean_113 : decode cX10_mean 113 = .ok ((.aload_n 0), 1) := by decide +kernel
theorem dX10_mean_114 : decode cX10_mean 114 = .ok ((.lload_n 3), 1) := by decide +kernel
theorem dX10_mean_115 : decode cX10_mean 115 = .ok ((.iload_n 2), 1) := by decide +kernel
theorem dX10_mean_116 : decode cX10_mean 116 = .ok (.i2l, 1) := by decide +kernel
theorem dX10_mean_117 : decode cX10_mean 117 = .ok ((.invokevirtual 294), 3) := by decide +kernel
theorem dX10_mean_120 : decode cX10_mean 120 = .ok (.ireturn, 1) := by decide +kernel
def p_X10_mean_33  (a1 : Int32) (a2 : Int32)   (post : Bool → vSt → Prop) (S : vSt)  : Prop := p_X10_settled  S 5 (fun r18 S17 => post r18 S17)
def p_X10_mean_64  (a1 : Int32) (a2 : Int32)   (post : Bool → vSt → Prop) : Nat → vSt → Int64 → Int32 → Prop
  | 0 => fun _ _ _ => False
  | fu64 + 1 => fun S x3 x5 => ((a2 ≤ x5 → p_X10_tell  S x3 (Int32.toInt64 a2) (fun r18 S17 => post r18 S17)) ∧ (¬ a2 ≤ x5 → p_X0_copyFrom 32 10 S  (fun S19 => p_X4_run 32 S19 (a1 + x5) (fun S20 => ∀ y21 : Int64, y21 = (x3 + (Int32.toInt64 (S20.1 32 17))) → ∀ y22 : Int32, y22 = x5 + 1 → (p_X10_mean_64 a1 a2 post fu64) S20 y21 y22))))
theorem e_X10_mean_64  (a1 : Int32) (a2 : Int32)   (post : Bool → vSt → Prop) (fu64 : Nat) (S : vSt) (x3 : Int64) (x5 : Int32) : p_X10_mean_64 a1 a2 post (fu64 + 1) S x3 x5 = (((a2 ≤ x5 → p_X10_tell  S x3 (Int32.toInt64 a2) (fun r18 S17 => post r18 S17)) ∧ (¬ a2 ≤ x5 → p_X0_copyFrom 32 10 S  (fun S19 => p_X4_run 32 S19 (a1 + x5) (fun S20 => ∀ y21 : Int64, y21 = (x3 + (Int32.toInt64 (S20.1 32 17))) → ∀ y22 : Int32, y22 = x5 + 1 → (p_X10_mean_64 a1 a2 post fu64) S20 y21 y22))))) := rfl
def p_X10_mean   (S : vSt) (a1 : Int32) (a2 : Int32) (post : Bool → vSt → Prop) : Prop := ((a1 < 0 → p_X10_mean_33 a1 a2 post S ) ∧ (¬ a1 < 0 → ((9999 < a1 → p_X10_mean_33 a1 a2 post S ) ∧ (¬ 9999 < a1 → ((a2 < 1 → p_X10_mean_33 a1 a2 post S ) ∧ (¬ a2 < 1 → ((20 < a2 → p_X10_mean_33 a1 a2 post S ) ∧ (¬ 20 < a2 → ((((a1 + a2) - 1) ≤ 9999 → ((¬ (S.1 25 8) = 0 → ∃ fu64, p_X10_mean_64 a1 a2 post fu64 S 0 0) ∧ ((S.1 25 8) = 0 → p_X10_settled  S 8 (fun r18 S17 => post r18 S17)))) ∧ (¬ ((a1 + a2) - 1) ≤ 9999 → p_X10_mean_33 a1 a2 post S ))))))))))
set_option maxHeartbeats 4000000 in
set_option maxRecDepth 100000 in
theorem q_X10_mean_33 {X : vX} {G : vG}  {post : Bool → vSt → Prop} (C : v_Cx X G cX10_mean RX10 6 (v_rm 7 204)) (D : v_Rx X G (v_Qz G post) (some .boolean))  {a1 : Int32} {a2 : Int32}   : ∀ (S : vSt), p_X10_mean_33 a1 a2 post S  → VJ X G S 33 [(0, .ref (G.1 0))] [] := by
  intro S  h
  refine V_aload_n C 0 dX10_mean_33 rfl rfl ?_
  refine V_iconst (v := 5) C dX10_mean_34 (by decide) ?_
  refine V_callVz (As := [.int 5]) (rest := []) C (c_X10_settled (v_l X) G  _ _ h) 0 10 (by decide) (by decide) (by decide) rfl KV_X10_settled k_RX10_116 rfl rfl rfl (Nat.le_of_ble_eq_true rfl) ⟨Nat.le_of_ble_eq_true rfl, Nat.le_of_ble_eq_true rfl⟩ dX10_mean_35 (fun r18 S17 h => ?_)
  exact V_zret C D dX10_mean_38 h
set_option maxHeartbeats 4000000 in
set_option maxRecDepth 100000 in
theorem q_X10_mean_64 {X : vX} {G : vG}  {post : Bool → vSt → Prop} (C : v_Cx X G cX10_mean RX10 6 (v_rm 7 204)) (D : v_Rx X G (v_Qz G post) (some .boolean))  {a1 : Int32} {a2 : Int32}   : ∀ (fu : Nat) (S : vSt) (x3 : Int64) (x5 : Int32), p_X10_mean_64 a1 a2 post fu S x3 x5 → VJ X G S 64 [(0, .ref (G.1 0)), (1, .int a1), (2, .int a2), (3, .long x3), (5, .int x5)] [] := by
  intro fu
  induction fu with
  | zero => intro S x3 x5 h; exact absurd h id
  | succ fu ih =>
    intro S x3 x5 h
    have hK64 := ih
    rw [e_X10_mean_64] at h
    refine V_iload C 4 dX10_mean_64 rfl ?_
    refine V_iload_n C 2 dX10_mean_66 rfl rfl ?_
    refine V_icmp_ge (tgt := 113) C dX10_mean_67 (by decide) (fun c => ?_) (fun c => ?_)
    · have h := h.1 c
      refine V_aload_n C 0 dX10_mean_113 rfl rfl ?_
      refine V_lload_n C 3 dX10_mean_114 rfl rfl ?_
      refine V_iload_n C 2 dX10_mean_115 rfl rfl ?_
      refine V_i2l C dX10_mean_116 ?_
      refine V_callVz (As := [.long x3, .long (Int32.toInt64 a2)]) (rest := []) C (c_X10_tell (v_l X) G  _ _ _ h) 0 10 (by decide) (by decide) (by decide) rfl KV_X10_tell k_RX10_294 rfl rfl rfl (Nat.le_of_ble_eq_true rfl) ⟨Nat.le_of_ble_eq_true rfl, Nat.le_of_ble_eq_true rfl⟩ dX10_mean_117 (fun r18 S17 h => ?_)
      exact V_zret C D dX10_mean_120 h
    · have h := h.2 c
      refine V_aload_n C 0 dX10_mean_70 rfl rfl ?_
      refine V_ga C 0 (by decide) (by decide) F_10_3 k_RX10_30 dX10_mean_71 ?_
      refine V_aload_n C 0 dX10_mean_74 rfl rfl ?_
      refine V_ga C 0 (by decide) (by decide) F_10_2 k_RX10_26 dX10_mean_75 ?_
      refine V_callVv (As := [.ref (G.1 10)]) (rest := []) C (c_X0_copyFrom (v_l X) G v_i32 v_i10 _ h) 32 0 (by decide) (by decide) (by decide) rfl KV_X0_copyFrom k_RX10_167 rfl rfl rfl (Nat.le_of_ble_eq_true rfl) ⟨Nat.le_of_ble_eq_true rfl, Nat.le_of_ble_eq_true rfl⟩ dX10_mean_78 (fun S19 h => ?_)
      refine V_aload_n C 0 dX10_mean_81 rfl rfl ?_
      refine V_ga C 0 (by decide) (by decide) F_10_10 k_RX10_87 dX10_mean_82 ?_
      refine V_aload_n C 0 dX10_mean_85 rfl rfl ?_
      refine V_ga C 0 (by decide) (by decide) F_10_3 k_RX10_30 dX10_mean_86 ?_
      refine V_iload_n C 1 dX10_mean_89 rfl rfl ?_
      refine V_iload C 4 dX10_mean_90 rfl ?_
      refine V_iadd C dX10_mean_92 ?_
      refine V_callVv (As := [.ref (G.1 32), .int (a1 + x5)]) (rest := []) C (c_X4_run (v_l X) G v_i32 _ _ h) 74 4 (by decide) (by decide) (by decide) rfl KV_X4_run k_RX10_415 rfl rfl rfl (Nat.le_of_ble_eq_true rfl) ⟨Nat.le_of_ble_eq_true rfl, Nat.le_of_ble_eq_true rfl⟩ dX10_mean_93 (fun S20 h => ?_)
      refine V_lload_n C 3 dX10_mean_96 rfl rfl ?_
      refine V_aload_n C 0 dX10_mean_97 rfl rfl ?_
      refine V_ga C 0 (by decide) (by decide) F_10_3 k_RX10_30 dX10_mean_98 ?_
      refine V_gi C 32 (by decide) (by decide) F_0_17 k_RX10_430 dX10_mean_101 ?_
      refine V_i2l C dX10_mean_104 ?_
      refine V_ladd C dX10_mean_105 ?_
      refine V_topl (fun y21 ey21 => ?_)
      have h := h y21 ey21
      refine V_lstore_n (lv' := [(0, .ref (G.1 0)), (1, .int a1), (2, .int a2), (3, .long y21), (5, .int x5)]) C [1, 2, 3, 0, 4] dX10_mean_106 rfl (by decide) rfl ?_
      obtain ⟨y22, ey22⟩ : ∃ z : Int32, z = x5 + 1 := ⟨_, rfl⟩
      have h := h y22 ey22
      refine V_iinc (lv' := [(0, .ref (G.1 0)), (1, .int a1), (2, .int a2), (3, .long y21), (5, .int y22)]) C 4 [1, 2, 3, 4, 0] y22 dX10_mean_107 rfl (by rw [ey22]; rfl) (by decide) rfl ?_
      refine V_goto (tgt := 64) C dX10_mean_110 (by decide) ?_
      exact hK64 _ _ _ h
set_option maxHeartbeats 4000000 in
set_option maxRecDepth 100000 in
theorem c_X10_mean (l : Launch) (G : vG)    {S : vSt} (a1 : Int32) (a2 : Int32) (post : Bool → vSt → Prop) (h : p_X10_mean   S a1 a2 post) : Met l yX10_mean (v_ws yX10_mean cX10_mean 6 (some .boolean)) (v_rm 7 204) (v_Pc G [.ref (G.1 0), .int a1, .int a2] S) (v_Qz G post) 0 0 (v_A G) := by
  refine v_start (by decide +kernel) (Nat.le_of_ble_eq_true rfl) (fun X hl C D => ?_)
  subst hl
  have C : v_Cx X G cX10_mean RX10 6 (v_rm 7 204) := C
  show VJ X G S 0 [(0, .ref (G.1 0)), (1, .int a1), (2, .int a2)] []
  refine V_iload_n C 1 dX10_mean_0 rfl rfl ?_
  refine V_if_lt (tgt := 33) C dX10_mean_1 (by decide) (fun c => ?_) (fun c => ?_)
  · have h := h.1 c
    refine V_loc (lv' := [(0, .ref (G.1 0))]) [0] rfl ?_
    exact q_X10_mean_33 C D  _ h
  · have h := h.2 c
    refine V_iload_n C 1 dX10_mean_4 rfl rfl ?_
    refine V_sipush (v := 9999) C dX10_mean_5 (by decide) ?_
    refine V_icmp_gt (tgt := 33) C dX10_mean_8 (by decide) (fun c => ?_) (fun c => ?_)
    · have h := h.1 c
      refine V_loc (lv' := [(0, .ref (G.1 0))]) [0] rfl ?_
      exact q_X10_mean_33 C D  _ h
    · have h := h.2 c
      refine V_iload_n C 2 dX10_mean_11 rfl rfl ?_
      refine V_iconst (v := 1) C dX10_mean_12 (by decide) ?_
      refine V_icmp_lt (tgt := 33) C dX10_mean_13 (by decide) (fun c => ?_) (fun c => ?_)
      · have h := h.1 c
        refine V_loc (lv' := [(0, .ref (G.1 0))]) [0] rfl ?_
        exact q_X10_mean_33 C D  _ h
      · have h := h.2 c
        refine V_iload_n C 2 dX10_mean_16 rfl rfl ?_
        refine V_bipush (v := 20) C dX10_mean_17 (by decide) ?_
        refine V_icmp_gt (tgt := 33) C dX10_mean_19 (by decide) (fun c => ?_) (fun c => ?_)
        · have h := h.1 c
          refine V_loc (lv' := [(0, .ref (G.1 0))]) [0] rfl ?_
          exact q_X10_mean_33 C D  _ h
        · have h := h.2 c
          refine V_iload_n C 1 dX10_mean_22 rfl rfl ?_
          refine V_iload_n C 2 dX10_mean_23 rfl rfl ?_
          refine V_iadd C dX10_mean_24 ?_
          refine V_iconst (v := 1) C dX10_mean_25 (by decide) ?_
          refine V_isub C dX10_mean_26 ?_
          refine V_sipush (v := 9999) C dX10_mean_27 (by decide) ?_
          refine V_icmp_le (tgt := 39) C dX10_mean_30 (by decide) (fun c => ?_) (fun c => ?_)
          · have h := h.1 c
            refine V_aload_n C 0 dX10_mean_39 rfl rfl ?_
            refine V_ga C 0 (by decide) (by decide) F_10_2 k_RX10_26 dX10_mean_40 ?_
            refine V_gr C 10 (by decide) (by decide) F_0_14 k_RX10_48 dX10_mean_43 ?_
            refine V_gi C 25 (by decide) (by decide) F_8_8 k_RX10_411 dX10_mean_46 ?_
            refine V_if_ne (tgt := 59) C dX10_mean_49 (by decide) (fun c => ?_) (fun c => ?_)
            · have h := h.1 c
              refine V_lconst (v := 0) C dX10_mean_59 (by decide) ?_
              refine V_lstore_n (lv' := [(0, .ref (G.1 0)), (1, .int a1), (2, .int a2), (3, .long 0)]) C [1, 2, 3, 0] dX10_mean_60 rfl (by decide) rfl ?_
              refine V_iconst (v := 0) C dX10_mean_61 (by decide) ?_
              refine V_istore (lv' := [(0, .ref (G.1 0)), (1, .int a1), (2, .int a2), (3, .long 0), (5, .int 0)]) C [1, 2, 3, 4, 0] dX10_mean_62 (by decide) rfl ?_
              obtain ⟨fu64, h⟩ := h
              exact q_X10_mean_64 C D  fu64 _ _ _ h
            · have h := h.2 c
              refine V_aload_n C 0 dX10_mean_52 rfl rfl ?_
              refine V_bipush (v := 8) C dX10_mean_53 (by decide) ?_
              refine V_callVz (As := [.int 8]) (rest := []) C (c_X10_settled (v_l X) G  _ _ h) 0 10 (by decide) (by decide) (by decide) rfl KV_X10_settled k_RX10_116 rfl rfl rfl (Nat.le_of_ble_eq_true rfl) ⟨Nat.le_of_ble_eq_true rfl, Nat.le_of_ble_eq_true rfl⟩ dX10_mean_55 (fun r18 S17 h => ?_)
              exact V_zret C D dX10_mean_58 h
          · have h := h.2 c
            refine V_loc (lv' := [(0, .ref (G.1 0))]) [0] rfl ?_
            exact q_X10_mean_33 C D  _ h
/-! HalfAccuser.mark()I -/
theorem dX10_mark_0 : decode cX10_mark 0 = .ok ((.aload_n 0), 1) := by decide +kernel
theorem dX10_mark_1 : decode cX10_mark 1 = .ok ((.getfield 433), 3) := by decide +kernel
theorem dX10_mark_4 : decode cX10_mark 4 = .ok ((.ifCond .lt 15), 3) := by decide +kernel
theorem dX10_mark_7 : decode cX10_mark 7 = .ok ((.aload_n 0), 1) := by decide +kernel
theorem dX10_mark_8 : decode cX10_mark 8 = .ok ((.getfield 433), 3) := by decide +kernel
theorem dX10_mark_11 : decode cX10_mark 11 = .ok ((.aload_n 0), 1) := by decide +kernel
theorem dX10_mark_12 : decode cX10_mark 12 = .ok ((.getfield 33), 3) := by decide +kernel
theorem dX10_mark_15 : decode cX10_mark 15 = .ok (.arraylength, 1) := by decide +kernel
theorem dX10_mark_16 : decode cX10_mark 16 = .ok ((.if_icmp .lt 10), 3) := by decide +kernel
theorem dX10_mark_19 : decode cX10_mark 19 = .ok ((.aload_n 0), 1) := by decide +kernel
theorem dX10_mark_20 : decode cX10_mark 20 = .ok ((.bipush 7), 2) := by decide +kernel
theorem dX10_mark_22 : decode cX10_mark 22 = .ok ((.invokevirtual 153), 3) := by decide +kernel
theorem dX10_mark_25 : decode cX10_mark 25 = .ok (.ireturn, 1) := by decide +kernel
theorem dX10_mark_26 : decode cX10_mark 26 = .ok ((.aload_n 0), 1) := by decide +kernel
theorem dX10_mark_27 : decode cX10_mark 27 = .ok ((.getfield 33), 3) := by decide +kernel
theorem dX10_mark_30 : decode cX10_mark 30 = .ok ((.aload_n 0), 1) := by decide +kernel
theorem dX10_mark_31 : decode cX10_mark 31 = .ok ((.getfield 433), 3) := by decide +kernel
theorem dX10_mark_34 : decode cX10_mark 34 = .ok (.aaload, 1) := by decide +kernel
theorem dX10_mark_35 : decode cX10_mark 35 = .ok ((.astore_n 1), 1) := by decide +kernel
theorem dX10_mark_36 : decode cX10_mark 36 = .ok ((.aload_n 1), 1) := by decide +kernel
theorem dX10_mark_37 : decode cX10_mark 37 = .ok ((.ifnonnull 10), 3) := by decide +kernel
theorem dX10_mark_40 : decode cX10_mark 40 = .ok ((.aload_n 0), 1) := by decide +kernel
theorem dX10_mark_41 : decode cX10_mark 41 = .ok ((.bipush 7), 2) := by decide +kernel
theorem dX10_mark_43 : decode cX10_mark 43 = .ok ((.invokevirtual 153), 3) := by decide +kernel
theorem dX10_mark_46 : decode cX10_mark 46 = .ok (.ireturn, 1) := by decide +kernel
theorem dX10_mark_47 : decode cX10_mark 47 = .ok ((.aload_n 1), 1) := by decide +kernel
theorem dX10_mark_48 : decode cX10_mark 48 = .ok ((.aload_n 0), 1) := by decide +kernel
theorem dX10_mark_49 : decode cX10_mark 49 = .ok ((.getfield 26), 3) := by decide +kernel
theorem dX10_mark_52 : decode cX10_mark 52 = .ok ((.invokevirtual 167), 3) := by decide +kernel
theorem dX10_mark_55 : decode cX10_mark 55 = .ok ((.aload_n 0), 1) := by decide +kernel
theorem dX10_mark_56 : decode cX10_mark 56 = .ok (.dup, 1) := by decide +kernel
theorem dX10_mark_57 : decode cX10_mark 57 = .ok ((.getfield 433), 3) := by decide +kernel
theorem dX10_mark_60 : decode cX10_mark 60 = .ok ((.iconst 1), 1) := by decide +kernel
theorem dX10_mark_61 : decode cX10_mark 61 = .ok (.iadd, 1) := by decide +kernel
theorem dX10_mark_62 : decode cX10_mark 62 = .ok ((.putfield 433), 3) := by decide +kernel
theorem dX10_mark_65 : decode cX10_mark 65 = .ok ((.aload_n 0), 1) := by decide +kernel
theorem dX10_mark_66 : decode cX10_mark 66 = .ok ((.aload_n 0), 1) := by decide +kernel
theorem dX10_mark_67 : decode cX10_mark 67 = .ok ((.getfield 433), 3) := by decide +kernel
theorem dX10_mark_70 : decode cX10_mark 70 = .ok ((.invokevirtual 173), 3) := by decide +kernel
theorem dX10_mark_73 : decode cX10_mark 73 = .ok (.ireturn, 1) := by decide +kernel
def p_X10_mark_19     (post : Int32 → vSt → Prop) (S : vSt)  : Prop := p_X10_refused  S 7 (fun r9 S8 => post r9 S8)
def p_X10_mark   (S : vSt)  (post : Int32 → vSt → Prop) : Prop := (((S.1 0 13) < 0 → p_X10_mark_19  post S ) ∧ (¬ (S.1 0 13) < 0 → (((S.1 0 13) < 3 → (vp_in (S.1 0 13) 3 ∧ ∀ m8 : Nat, m8 = 77 + 22 * (Int32.toNatClampNeg (S.1 0 13)) → p_X0_copyFrom m8 10 S  (fun S9 => ∀ S10, S10 = v_si S9 0 13 ((S9.1 0 13) + 1) → p_X10_told  S10 (S10.1 0 13) (fun r12 S11 => post r12 S11)))) ∧ (¬ (S.1 0 13) < 3 → p_X10_mark_19  post S ))))
set_option maxHeartbeats 4000000 in
set_option maxRecDepth 100000 in
theorem q_X10_mark_19 {X : vX} {G : vG}  {post : Int32 → vSt → Prop} (C : v_Cx X G cX10_mark RX10 2 (v_rm 4 143)) (D : v_Rx X G (v_Qi G post) (some .int))     : ∀ (S : vSt), p_X10_mark_19  post S  → VJ X G S 19 [(0, .ref (G.1 0))] [] := by
  intro S  h
  refine V_aload_n C 0 dX10_mark_19 rfl rfl ?_
  refine V_bipush (v := 7) C dX10_mark_20 (by decide) ?_
  refine V_callVi (As := [.int 7]) (rest := []) C (c_X10_refused (v_l X) G  _ _ h) 0 10 (by decide) (by decide) (by decide) rfl KV_X10_refused k_RX10_153 rfl rfl rfl (Nat.le_of_ble_eq_true rfl) ⟨Nat.le_of_ble_eq_true rfl, Nat.le_of_ble_eq_true rfl⟩ dX10_mark_22 (fun r9 S8 h => ?_)
  exact V_iret C D dX10_mark_25 h
set_option maxHeartbeats 4000000 in
set_option maxRecDepth 100000 in
theorem c_X10_mark (l : Launch) (G : vG)    {S : vSt}  (post : Int32 → vSt → Prop) (h : p_X10_mark   S  post) : Met l yX10_mark (v_ws yX10_mark cX10_mark 2 (some .int)) (v_rm 4 143) (v_Pc G [.ref (G.1 0)] S) (v_Qi G post) 0 0 (v_A G) := by
  refine v_start (by decide +kernel) (Nat.le_of_ble_eq_true rfl) (fun X hl C D => ?_)
  subst hl
  have C : v_Cx X G cX10_mark RX10 2 (v_rm 4 143) := C
  show VJ X G S 0 [(0, .ref (G.1 0))] []
  refine V_aload_n C 0 dX10_mark_0 rfl rfl ?_
  refine V_gi C 0 (by decide) (by decide) F_10_13 k_RX10_433 dX10_mark_1 ?_
  refine V_if_lt (tgt := 19) C dX10_mark_4 (by decide) (fun c => ?_) (fun c => ?_)
  · have h := h.1 c
    exact q_X10_mark_19 C D  _ h
  · have h := h.2 c
    refine V_aload_n C 0 dX10_mark_7 rfl rfl ?_
    refine V_gi C 0 (by decide) (by decide) F_10_13 k_RX10_433 dX10_mark_8 ?_
    refine V_aload_n C 0 dX10_mark_11 rfl rfl ?_
    refine V_ga C 0 (by decide) (by decide) F_10_4 k_RX10_33 dX10_mark_12 ?_
    refine V_alen C 54 3 (by decide) (Or.inr (Or.inr (Or.inr (by decide)))) dX10_mark_15 ?_
    refine V_icmp_lt (tgt := 26) C dX10_mark_16 (by decide) (fun c => ?_) (fun c => ?_)
    · have h := h.1 c
      refine V_aload_n C 0 dX10_mark_26 rfl rfl ?_
      refine V_ga C 0 (by decide) (by decide) F_10_4 k_RX10_33 dX10_mark_27 ?_
      refine V_aload_n C 0 dX10_mark_30 rfl rfl ?_
      refine V_gi C 0 (by decide) (by decide) F_10_13 k_RX10_433 dX10_mark_31 ?_
      obtain ⟨hi, h⟩ := h
      obtain ⟨m8, em8⟩ : ∃ z : Nat, z = 77 + 22 * (Int32.toNatClampNeg (S.1 0 13)) := ⟨_, rfl⟩
      have h := h m8 em8
      have hm8 : v_isC m8 := v_mkC hi em8
      refine V_aald2 C 54 3 (by decide) (by decide) hi em8 dX10_mark_34 ?_
      refine V_astore_n (lv' := [(0, .ref (G.1 0)), (1, .ref (G.1 m8))]) C [1, 0] dX10_mark_35 rfl (by decide) rfl ?_
      refine V_aload_n C 1 dX10_mark_36 rfl rfl ?_
      refine V_ifnonnull (tgt := 47) C dX10_mark_37 (by decide) ?_
      refine V_aload_n C 1 dX10_mark_47 rfl rfl ?_
      refine V_aload_n C 0 dX10_mark_48 rfl rfl ?_
      refine V_ga C 0 (by decide) (by decide) F_10_2 k_RX10_26 dX10_mark_49 ?_
      refine V_callVv (As := [.ref (G.1 10)]) (rest := []) C (c_X0_copyFrom (v_l X) G hm8 v_i10 _ h) m8 0 (v_cb hm8 0 (by decide)) (v_co0 hm8) (by decide) rfl KV_X0_copyFrom k_RX10_167 rfl rfl rfl (Nat.le_of_ble_eq_true rfl) ⟨Nat.le_of_ble_eq_true rfl, Nat.le_of_ble_eq_true rfl⟩ dX10_mark_52 (fun S9 h => ?_)
      refine V_aload_n C 0 dX10_mark_55 rfl rfl ?_
      refine V_dup C dX10_mark_56 rfl ?_
      refine V_gi C 0 (by decide) (by decide) F_10_13 k_RX10_433 dX10_mark_57 ?_
      refine V_iconst (v := 1) C dX10_mark_60 (by decide) ?_
      refine V_iadd C dX10_mark_61 ?_
      refine V_pi C 0 (by decide) (by decide) P_10_13 k_RX10_433 dX10_mark_62 ?_
      refine V_topS (fun S10 eS10 => ?_)
      have h := h S10 eS10
      refine V_aload_n C 0 dX10_mark_65 rfl rfl ?_
      refine V_aload_n C 0 dX10_mark_66 rfl rfl ?_
      refine V_gi C 0 (by decide) (by decide) F_10_13 k_RX10_433 dX10_mark_67 ?_
      refine V_callVi (As := [.int (S10.1 0 13)]) (rest := []) C (c_X10_told (v_l X) G  _ _ h) 0 10 (by decide) (by decide) (by decide) rfl KV_X10_told k_RX10_173 rfl rfl rfl (Nat.le_of_ble_eq_true rfl) ⟨Nat.le_of_ble_eq_true rfl, Nat.le_of_ble_eq_true rfl⟩ dX10_mark_70 (fun r12 S11 h => ?_)
      exact V_iret C D dX10_mark_73 h
    · have h := h.2 c
      exact q_X10_mark_19 C D  _ h
/-! HalfAccuser.back()I -/
theorem dX10_back_0 : decode cX10_back 0 = .ok ((.aload_n 0), 1) := by decide +kernel
theorem dX10_back_1 : decode cX10_back 1 = .ok ((.getfield 433), 3) := by decide +kernel
theorem dX10_back_4 : decode cX10_back 4 = .ok ((.iconst 1), 1) := by decide +kernel
theorem dX10_back_5 : decode cX10_back 5 = .ok (.isub, 1) := by decide +kernel
theorem dX10_back_6 : decode cX10_back 6 = .ok ((.istore_n 1), 1) := by decide +kernel
theorem dX10_back_7 : decode cX10_back 7 = .ok ((.iload_n 1), 1) := by decide +kernel
theorem dX10_back_8 : decode cX10_back 8 = .ok ((.ifCond .lt 12), 3) := by decide +kernel
theorem dX10_back_11 : decode cX10_back 11 = .ok ((.iload_n 1), 1) := by decide +kernel
theorem dX10_back_12 : decode cX10_back 12 = .ok ((.aload_n 0), 1) := by decide +kernel
theorem dX10_back_13 : decode cX10_back 13 = .ok ((.getfield 33), 3) := by decide +kernel
theorem dX10_back_16 : decode cX10_back 16 = .ok (.arraylength, 1) := by decide +kernel
theorem dX10_back_17 : decode cX10_back 17 = .ok ((.if_icmp .lt 10), 3) := by decide +kernel
theorem dX10_back_20 : decode cX10_back 20 = .ok ((.aload_n 0), 1) := by decide +kernel
theorem dX10_back_21 : decode cX10_back 21 = .ok ((.bipush 8), 2) := by decide +kernel
theorem dX10_back_23 : decode cX10_back 23 = .ok ((.invokevirtual 153), 3) := by decide +kernel
theorem dX10_back_26 : decode cX10_back 26 = .ok (.ireturn, 1) := by decide +kernel
theorem dX10_back_27 : decode cX10_back 27 = .ok ((.aload_n 0), 1) := by decide +kernel
theorem dX10_back_28 : decode cX10_back 28 = .ok ((.getfield 33), 3) := by decide +kernel
theorem dX10_back_31 : decode cX10_back 31 = .ok ((.iload_n 1), 1) := by decide +kernel
theorem dX10_back_32 : decode cX10_back 32 = .ok (.aaload, 1) := by decide +kernel
theorem dX10_back_33 : decode cX10_back 33 = .ok ((.astore_n 2), 1) := by decide +kernel
theorem dX10_back_34 : decode cX10_back 34 = .ok ((.aload_n 2), 1) := by decide +kernel
theorem dX10_back_35 : decode cX10_back 35 = .ok ((.ifnonnull 10), 3) := by decide +kernel
theorem dX10_back_38 : decode cX10_back 38 = .ok ((.aload_n 0), 1) := by decide +kernel
theorem dX10_back_39 : decode cX10_back 39 = .ok ((.bipush 8), 2) := by decide +kernel
theorem dX10_back_41 : decode cX10_back 41 = .ok ((.invokevirtual 153), 3) := by decide +kernel
theorem dX10_back_44 : decode cX10_back 44 = .ok (.ireturn, 1) := by decide +kernel
theorem dX10_back_45 : decode cX10_back 45 = .ok ((.aload_n 0), 1) := by decide +kernel
theorem dX10_back_46 : decode cX10_back 46 = .ok ((.getfield 26), 3) := by decide +kernel
theorem dX10_back_49 : decode cX10_back 49 = .ok ((.aload_n 2), 1) := by decide +kernel
theorem dX10_back_50 : decode cX10_back 50 = .ok ((.invokevirtual 167), 3) := by decide +kernel
theorem dX10_back_53 : decode cX10_back 53 = .ok ((.aload_n 0), 1) := by decide +kernel
theorem dX10_back_54 : decode cX10_back 54 = .ok ((.iload_n 1), 1) := by decide +kernel
theorem dX10_back_55 : decode cX10_back 55 = .ok ((.putfield 433), 3) := by decide +kernel
theorem dX10_back_58 : decode cX10_back 58 = .ok ((.aload_n 0), 1) := by decide +kernel
theorem dX10_back_59 : decode cX10_back 59 = .ok ((.aload_n 0), 1) := by decide +kernel
theorem dX10_back_60 : decode cX10_back 60 = .ok ((.getfield 433), 3) := by decide +kernel
theorem dX10_back_63 : decode cX10_back 63 = .ok ((.invokevirtual 173), 3) := by decide +kernel
theorem dX10_back_66 : decode cX10_back 66 = .ok (.ireturn, 1) := by decide +kernel
def p_X10_back_20     (post : Int32 → vSt → Prop) (S : vSt)  : Prop := p_X10_refused  S 8 (fun r11 S10 => post r11 S10)
def p_X10_back   (S : vSt)  (post : Int32 → vSt → Prop) : Prop := ∀ y9 : Int32, y9 = ((S.1 0 13) - 1) → ((y9 < 0 → p_X10_back_20  post S ) ∧ (¬ y9 < 0 → ((y9 < 3 → (vp_in y9 3 ∧ ∀ m10 : Nat, m10 = 77 + 22 * (Int32.toNatClampNeg y9) → p_X0_copyFrom 10 m10 S  (fun S11 => ∀ S12, S12 = v_si S11 0 13 y9 → p_X10_told  S12 (S12.1 0 13) (fun r14 S13 => post r14 S13)))) ∧ (¬ y9 < 3 → p_X10_back_20  post S ))))
set_option maxHeartbeats 4000000 in
set_option maxRecDepth 100000 in
theorem q_X10_back_20 {X : vX} {G : vG}  {post : Int32 → vSt → Prop} (C : v_Cx X G cX10_back RX10 3 (v_rm 4 143)) (D : v_Rx X G (v_Qi G post) (some .int))     : ∀ (S : vSt), p_X10_back_20  post S  → VJ X G S 20 [(0, .ref (G.1 0))] [] := by
  intro S  h
  refine V_aload_n C 0 dX10_back_20 rfl rfl ?_
  refine V_bipush (v := 8) C dX10_back_21 (by decide) ?_
  refine V_callVi (As := [.int 8]) (rest := []) C (c_X10_refused (v_l X) G  _ _ h) 0 10 (by decide) (by decide) (by decide) rfl KV_X10_refused k_RX10_153 rfl rfl rfl (Nat.le_of_ble_eq_true rfl) ⟨Nat.le_of_ble_eq_true rfl, Nat.le_of_ble_eq_true rfl⟩ dX10_back_23 (fun r11 S10 h => ?_)
  exact V_iret C D dX10_back_26 h
set_option maxHeartbeats 4000000 in
set_option maxRecDepth 100000 in
theorem c_X10_back (l : Launch) (G : vG)    {S : vSt}  (post : Int32 → vSt → Prop) (h : p_X10_back   S  post) : Met l yX10_back (v_ws yX10_back cX10_back 3 (some .int)) (v_rm 4 143) (v_Pc G [.ref (G.1 0)] S) (v_Qi G post) 0 0 (v_A G) := by
  refine v_start (by decide +kernel) (Nat.le_of_ble_eq_true rfl) (fun X hl C D => ?_)
  subst hl
  have C : v_Cx X G cX10_back RX10 3 (v_rm 4 143) := C
  show VJ X G S 0 [(0, .ref (G.1 0))] []
  refine V_aload_n C 0 dX10_back_0 rfl rfl ?_
  refine V_gi C 0 (by decide) (by decide) F_10_13 k_RX10_433 dX10_back_1 ?_
  refine V_iconst (v := 1) C dX10_back_4 (by decide) ?_
  refine V_isub C dX10_back_5 ?_
  refine V_topi (fun y9 ey9 => ?_)
  have h := h y9 ey9
  refine V_istore_n (lv' := [(0, .ref (G.1 0)), (1, .int y9)]) C [1, 0] dX10_back_6 rfl (by decide) rfl ?_
  refine V_iload_n C 1 dX10_back_7 rfl rfl ?_
  refine V_if_lt (tgt := 20) C dX10_back_8 (by decide) (fun c => ?_) (fun c => ?_)
  · have h := h.1 c
    refine V_loc (lv' := [(0, .ref (G.1 0))]) [0] rfl ?_
    exact q_X10_back_20 C D  _ h
  · have h := h.2 c
    refine V_iload_n C 1 dX10_back_11 rfl rfl ?_
    refine V_aload_n C 0 dX10_back_12 rfl rfl ?_
    refine V_ga C 0 (by decide) (by decide) F_10_4 k_RX10_33 dX10_back_13 ?_
    refine V_alen C 54 3 (by decide) (Or.inr (Or.inr (Or.inr (by decide)))) dX10_back_16 ?_
    refine V_icmp_lt (tgt := 27) C dX10_back_17 (by decide) (fun c => ?_) (fun c => ?_)
    · have h := h.1 c
      refine V_aload_n C 0 dX10_back_27 rfl rfl ?_
      refine V_ga C 0 (by decide) (by decide) F_10_4 k_RX10_33 dX10_back_28 ?_
      refine V_iload_n C 1 dX10_back_31 rfl rfl ?_
      obtain ⟨hi, h⟩ := h
      obtain ⟨m10, em10⟩ : ∃ z : Nat, z = 77 + 22 * (Int32.toNatClampNeg y9) := ⟨_, rfl⟩
      have h := h m10 em10
      have hm10 : v_isC m10 := v_mkC hi em10
      refine V_aald2 C 54 3 (by decide) (by decide) hi em10 dX10_back_32 ?_
      refine V_astore_n (lv' := [(0, .ref (G.1 0)), (1, .int y9), (2, .ref (G.1 m10))]) C [1, 2, 0] dX10_back_33 rfl (by decide) rfl ?_
      refine V_aload_n C 2 dX10_back_34 rfl rfl ?_
      refine V_ifnonnull (tgt := 45) C dX10_back_35 (by decide) ?_
      refine V_aload_n C 0 dX10_back_45 rfl rfl ?_
      refine V_ga C 0 (by decide) (by decide) F_10_2 k_RX10_26 dX10_back_46 ?_
      refine V_aload_n C 2 dX10_back_49 rfl rfl ?_
      refine V_callVv (As := [.ref (G.1 m10)]) (rest := []) C (c_X0_copyFrom (v_l X) G v_i10 hm10 _ h) 10 0 (by decide) (by decide) (by decide) rfl KV_X0_copyFrom k_RX10_167 rfl rfl rfl (Nat.le_of_ble_eq_true rfl) ⟨Nat.le_of_ble_eq_true rfl, Nat.le_of_ble_eq_true rfl⟩ dX10_back_50 (fun S11 h => ?_)
      refine V_aload_n C 0 dX10_back_53 rfl rfl ?_
      refine V_iload_n C 1 dX10_back_54 rfl rfl ?_
      refine V_pi C 0 (by decide) (by decide) P_10_13 k_RX10_433 dX10_back_55 ?_
      refine V_topS (fun S12 eS12 => ?_)
      have h := h S12 eS12
      refine V_aload_n C 0 dX10_back_58 rfl rfl ?_
      refine V_aload_n C 0 dX10_back_59 rfl rfl ?_
      refine V_gi C 0 (by decide) (by decide) F_10_13 k_RX10_433 dX10_back_60 ?_
      refine V_callVi (As := [.int (S12.1 0 13)]) (rest := []) C (c_X10_told (v_l X) G  _ _ h) 0 10 (by decide) (by decide) (by decide) rfl KV_X10_told k_RX10_173 rfl rfl rfl (Nat.le_of_ble_eq_true rfl) ⟨Nat.le_of_ble_eq_true rfl, Nat.le_of_ble_eq_true rfl⟩ dX10_back_63 (fun r14 S13 h => ?_)
      exact V_iret C D dX10_back_66 h
    · have h := h.2 c
      refine V_loc (lv' := [(0, .ref (G.1 0))]) [0] rfl ?_
      exact q_X10_back_20 C D  _ h
/-! HalfAccuserModel.readStep(I)V -/
theorem dX11_readStep_0 : decode cX11_readStep 0 = .ok ((.aload_n 0), 1) := by decide +kernel
theorem dX11_readStep_1 : decode cX11_readStep 1 = .ok ((.invokevirtual 184), 3) := by decide +kernel
theorem dX11_readStep_4 : decode cX11_readStep 4 = .ok ((.istore_n 2), 1) := by decide +kernel
theorem dX11_readStep_5 : decode cX11_readStep 5 = .ok ((.iload_n 2), 1) := by decide +kernel
theorem dX11_readStep_6 : decode cX11_readStep 6 = .ok ((.iconst 4), 1) := by decide +kernel
theorem dX11_readStep_7 : decode cX11_readStep 7 = .ok ((.if_icmp .eq 8), 3) := by decide +kernel
theorem dX11_readStep_10 : decode cX11_readStep 10 = .ok ((.iload_n 2), 1) := by decide +kernel
theorem dX11_readStep_11 : decode cX11_readStep 11 = .ok ((.iconst 5), 1) := by decide +kernel
theorem dX11_readStep_12 : decode cX11_readStep 12 = .ok ((.if_icmp .ne 7), 3) := by decide +kernel
theorem dX11_readStep_15 : decode cX11_readStep 15 = .ok ((.iconst 1), 1) := by decide +kernel
theorem dX11_readStep_16 : decode cX11_readStep 16 = .ok ((.goto 4), 3) := by decide +kernel
theorem dX11_readStep_19 : decode cX11_readStep 19 = .ok ((.iconst 0), 1) := by decide +kernel
theorem dX11_readStep_20 : decode cX11_readStep 20 = .ok ((.istore_n 3), 1) := by decide +kernel
theorem dX11_readStep_21 : decode cX11_readStep 21 = .ok ((.iload_n 2), 1) := by decide +kernel
theorem dX11_readStep_22 : decode cX11_readStep 22 = .ok ((.ifCond .ge 7), 3) := by decide +kernel
theorem dX11_readStep_25 : decode cX11_readStep 25 = .ok ((.aload_n 0), 1) := by decide +kernel
theorem dX11_readStep_26 : decode cX11_readStep 26 = .ok ((.invokevirtual 210), 3) := by decide +kernel
theorem dX11_readStep_29 : decode cX11_readStep 29 = .ok ((.aload_n 0), 1) := by decide +kernel
theorem dX11_readStep_30 : decode cX11_readStep 30 = .ok ((.getfield 197), 3) := by decide +kernel
theorem dX11_readStep_33 : decode cX11_readStep 33 = .ok ((.ifCond .ne 22), 3) := by decide +kernel
theorem dX11_readStep_36 : decode cX11_readStep 36 = .ok ((.aload_n 0), 1) := by decide +kernel
theorem dX11_readStep_37 : decode cX11_readStep 37 = .ok ((.getfield 280), 3) := by decide +kernel
theorem dX11_readStep_40 : decode cX11_readStep 40 = .ok ((.bipush 30), 2) := by decide +kernel
theorem dX11_readStep_42 : decode cX11_readStep 42 = .ok ((.if_icmp .ne 13), 3) := by decide +kernel
theorem dX11_readStep_45 : decode cX11_readStep 45 = .ok ((.aload_n 0), 1) := by decide +kernel
theorem dX11_readStep_46 : decode cX11_readStep 46 = .ok ((.bipush 6), 2) := by decide +kernel
theorem dX11_readStep_48 : decode cX11_readStep 48 = .ok ((.aload_n 0), 1) := by decide +kernel
theorem dX11_readStep_49 : decode cX11_readStep 49 = .ok ((.getfield 109), 3) := by decide +kernel
theorem dX11_readStep_52 : decode cX11_readStep 52 = .ok ((.invokevirtual 203), 3) := by decide +kernel
theorem dX11_readStep_55 : decode cX11_readStep 55 = .ok ((.aload_n 0), 1) := by decide +kernel
theorem dX11_readStep_56 : decode cX11_readStep 56 = .ok ((.getfield 197), 3) := by decide +kernel
theorem dX11_readStep_59 : decode cX11_readStep 59 = .ok ((.ifCond .ne 22), 3) := by decide +kernel
theorem dX11_readStep_62 : decode cX11_readStep 62 = .ok ((.iload_n 3), 1) := by decide +kernel
theorem dX11_readStep_63 : decode cX11_readStep 63 = .ok ((.ifCond .eq 18), 3) := by decide +kernel
theorem dX11_readStep_66 : decode cX11_readStep 66 = .ok ((.iload_n 1), 1) := by decide +kernel
theorem dX11_readStep_67 : decode cX11_readStep 67 = .ok ((.iconst 3), 1) := by decide +kernel
theorem dX11_readStep_68 : decode cX11_readStep 68 = .ok ((.if_icmp .ne 13), 3) := by decide +kernel
theorem dX11_readStep_71 : decode cX11_readStep 71 = .ok ((.aload_n 0), 1) := by decide +kernel
theorem dX11_readStep_72 : decode cX11_readStep 72 = .ok ((.bipush 7), 2) := by decide +kernel
theorem dX11_readStep_74 : decode cX11_readStep 74 = .ok ((.aload_n 0), 1) := by decide +kernel
theorem dX11_readStep_75 : decode cX11_readStep 75 = .ok ((.getfield 109), 3) := by decide +kernel
theorem dX11_readStep_78 : decode cX11_readStep 78 = .ok ((.invokevirtual 203), 3) := by decide +kernel
theorem dX11_readStep_81 : decode cX11_readStep 81 = .ok ((.aload_n 0), 1) := by decide +kernel
theorem dX11_readStep_82 : decode cX11_readStep 82 = .ok ((.getfield 197), 3) := by decide +kernel
theorem dX11_readStep_85 : decode cX11_readStep 85 = .ok ((.ifCond .le 4), 3) := by decide +kernel
theorem dX11_readStep_88 : decode cX11_readStep 88 = .ok (.return_, 1) := by decide +kernel
theorem dX11_readStep_89 : decode cX11_readStep 89 = .ok ((.sipush 1630), 3) := by decide +kernel
theorem dX11_readStep_92 : decode cX11_readStep 92 = .ok ((.bipush 9), 2) := by decide +kernel
theorem dX11_readStep_94 : decode cX11_readStep 94 = .ok ((.aload_n 0), 1) := by decide +kernel
theorem dX11_readStep_95 : decode cX11_readStep 95 = .ok ((.getfield 280), 3) := by decide +kernel
theorem dX11_readStep_98 : decode cX11_readStep 98 = .ok (.imul, 1) := by decide +kernel
theorem dX11_readStep_99 : decode cX11_readStep 99 = .ok (.iadd, 1) := by decide +kernel
theorem dX11_readStep_100 : decode cX11_readStep 100 = .ok ((.istore 4), 2) := by decide +kernel
theorem dX11_readStep_102 : decode cX11_readStep 102 = .ok ((.aload_n 0), 1) := by decide +kernel
theorem dX11_readStep_103 : decode cX11_readStep 103 = .ok (.dup, 1) := by decide +kernel
theorem dX11_readStep_104 : decode cX11_readStep 104 = .ok ((.getfield 280), 3) := by decide +kernel
theorem dX11_readStep_107 : decode cX11_readStep 107 = .ok ((.iconst 1), 1) := by decide +kernel
theorem dX11_readStep_108 : decode cX11_readStep 108 = .ok (.iadd, 1) := by decide +kernel
theorem dX11_readStep_109 : decode cX11_readStep 109 = .ok ((.putfield 280), 3) := by decide +kernel
theorem dX11_readStep_112 : decode cX11_readStep 112 = .ok ((.aload_n 0), 1) := by decide +kernel
theorem dX11_readStep_113 : decode cX11_readStep 113 = .ok ((.invokevirtual 207), 3) := by decide +kernel
theorem dX11_readStep_116 : decode cX11_readStep 116 = .ok ((.aload_n 0), 1) := by decide +kernel
theorem dX11_readStep_117 : decode cX11_readStep 117 = .ok ((.getfield 35), 3) := by decide +kernel
theorem dX11_readStep_120 : decode cX11_readStep 120 = .ok ((.iload 4), 2) := by decide +kernel
theorem dX11_readStep_122 : decode cX11_readStep 122 = .ok ((.iload_n 2), 1) := by decide +kernel
theorem dX11_readStep_123 : decode cX11_readStep 123 = .ok (.iastore, 1) := by decide +kernel
theorem dX11_readStep_124 : decode cX11_readStep 124 = .ok ((.aload_n 0), 1) := by decide +kernel
theorem dX11_readStep_125 : decode cX11_readStep 125 = .ok ((.iload 4), 2) := by decide +kernel
theorem dX11_readStep_127 : decode cX11_readStep 127 = .ok ((.invokevirtual 283), 3) := by decide +kernel
theorem dX11_readStep_130 : decode cX11_readStep 130 = .ok ((.aload_n 0), 1) := by decide +kernel
theorem dX11_readStep_131 : decode cX11_readStep 131 = .ok ((.aload_n 0), 1) := by decide +kernel
theorem dX11_readStep_132 : decode cX11_readStep 132 = .ok ((.bipush 59), 2) := by decide +kernel
theorem dX11_readStep_134 : decode cX11_readStep 134 = .ok ((.invokevirtual 268), 3) := by decide +kernel
theorem dX11_readStep_137 : decode cX11_readStep 137 = .ok ((.invokevirtual 213), 3) := by decide +kernel
theorem dX11_readStep_140 : decode cX11_readStep 140 = .ok ((.iload_n 3), 1) := by decide +kernel
theorem dX11_readStep_141 : decode cX11_readStep 141 = .ok ((.ifCond .eq 27), 3) := by decide +kernel
theorem dX11_readStep_144 : decode cX11_readStep 144 = .ok ((.aload_n 0), 1) := by decide +kernel
theorem dX11_readStep_145 : decode cX11_readStep 145 = .ok ((.getfield 197), 3) := by decide +kernel
theorem dX11_readStep_148 : decode cX11_readStep 148 = .ok ((.ifCond .ne 20), 3) := by decide +kernel
theorem dX11_readStep_151 : decode cX11_readStep 151 = .ok ((.aload_n 0), 1) := by decide +kernel
theorem dX11_readStep_152 : decode cX11_readStep 152 = .ok ((.invokevirtual 191), 3) := by decide +kernel
theorem dX11_readStep_155 : decode cX11_readStep 155 = .ok ((.ifCond .ne 13), 3) := by decide +kernel
theorem dX11_readStep_158 : decode cX11_readStep 158 = .ok ((.aload_n 0), 1) := by decide +kernel
theorem dX11_readStep_159 : decode cX11_readStep 159 = .ok ((.iload_n 1), 1) := by decide +kernel
theorem dX11_readStep_160 : decode cX11_readStep 160 = .ok ((.iconst 1), 1) := by decide +kernel
theorem dX11_readStep_161 : decode cX11_readStep 161 = .ok (.iadd, 1) := by decide +kernel
theorem dX11_readStep_162 : decode cX11_readStep 162 = .ok ((.invokevirtual 286), 3) := by decide +kernel
theorem dX11_readStep_165 : decode cX11_readStep 165 = .ok ((.goto (-25)), 3) := by decide +kernel
theorem dX11_readStep_168 : decode cX11_readStep 168 = .ok ((.iload_n 3), 1) := by decide +kernel
theorem dX11_readStep_169 : decode cX11_readStep 169 = .ok ((.ifCond .eq 21), 3) := by decide +kernel
theorem dX11_readStep_172 : decode cX11_readStep 172 = .ok ((.aload_n 0), 1) := by decide +kernel
theorem dX11_readStep_173 : decode cX11_readStep 173 = .ok ((.aload_n 0), 1) := by decide +kernel
theorem dX11_readStep_174 : decode cX11_readStep 174 = .ok ((.invokevirtual 191), 3) := by decide +kernel
theorem dX11_readStep_177 : decode cX11_readStep 177 = .ok ((.invokevirtual 213), 3) := by decide +kernel
theorem dX11_readStep_180 : decode cX11_readStep 180 = .ok ((.aload_n 0), 1) := by decide +kernel
theorem dX11_readStep_181 : decode cX11_readStep 181 = .ok ((.aload_n 0), 1) := by decide +kernel
theorem dX11_readStep_182 : decode cX11_readStep 182 = .ok ((.bipush 59), 2) := by decide +kernel
theorem dX11_readStep_184 : decode cX11_readStep 184 = .ok ((.invokevirtual 268), 3) := by decide +kernel
theorem dX11_readStep_187 : decode cX11_readStep 187 = .ok ((.invokevirtual 213), 3) := by decide +kernel
theorem dX11_readStep_190 : decode cX11_readStep 190 = .ok ((.aload_n 0), 1) := by decide +kernel
theorem dX11_readStep_191 : decode cX11_readStep 191 = .ok ((.getfield 35), 3) := by decide +kernel
theorem dX11_readStep_194 : decode cX11_readStep 194 = .ok ((.iload 4), 2) := by decide +kernel
theorem dX11_readStep_196 : decode cX11_readStep 196 = .ok ((.bipush 8), 2) := by decide +kernel
theorem dX11_readStep_198 : decode cX11_readStep 198 = .ok (.iadd, 1) := by decide +kernel
theorem dX11_readStep_199 : decode cX11_readStep 199 = .ok ((.aload_n 0), 1) := by decide +kernel
theorem dX11_readStep_200 : decode cX11_readStep 200 = .ok ((.getfield 280), 3) := by decide +kernel
theorem dX11_readStep_203 : decode cX11_readStep 203 = .ok (.iastore, 1) := by decide +kernel
theorem dX11_readStep_204 : decode cX11_readStep 204 = .ok (.return_, 1) := by decide +kernel
def p_X11_readStep_190  (a1 : Int32) (rc : vSt → Int32 → (vSt → Prop) → Prop)  (post : vSt → Prop) (S : vSt) (x4 : Int32) : Prop := (vp_in (x4 + 8) 1900 ∧ ∀ S34, S34 = v_si S 148 (Int32.toNatClampNeg (x4 + 8)) (S.1 143 25) → post S34)
def p_X11_readStep_168  (a1 : Int32) (rc : vSt → Int32 → (vSt → Prop) → Prop)  (post : vSt → Prop) (S : vSt) (x3 : Bool) (x4 : Int32) : Prop := ((x3 = false → p_X11_readStep_190 a1 rc post S x4) ∧ (x3 = true → p_X11_isEnd  S  (fun r35 S34 => p_X11_must  S34 r35 (fun S36 => p_X11_isSign  S36 59 (fun r38 S37 => p_X11_must  S37 r38 (fun S39 => p_X11_readStep_190 a1 rc post S39 x4))))))
def p_X11_readStep_140  (a1 : Int32) (rc : vSt → Int32 → (vSt → Prop) → Prop)  (post : vSt → Prop) : Nat → vSt → Bool → Int32 → Prop
  | 0 => fun _ _ _ => False
  | fu140 + 1 => fun S x3 x4 => ((x3 = false → p_X11_readStep_168 a1 rc post S x3 x4) ∧ (x3 = true → ((¬ (S.1 143 12) = 0 → p_X11_readStep_168 a1 rc post S x3 x4) ∧ ((S.1 143 12) = 0 → p_X11_isEnd  S  (fun r35 S34 => ((r35 = true → p_X11_readStep_168 a1 rc post S34 x3 x4) ∧ (r35 = false → rc S34 (a1 + 1) (fun S36 => (p_X11_readStep_140 a1 rc post fu140) S36 x3 x4))))))))
theorem e_X11_readStep_140  (a1 : Int32) (rc : vSt → Int32 → (vSt → Prop) → Prop)  (post : vSt → Prop) (fu140 : Nat) (S : vSt) (x3 : Bool) (x4 : Int32) : p_X11_readStep_140 a1 rc post (fu140 + 1) S x3 x4 = (((x3 = false → p_X11_readStep_168 a1 rc post S x3 x4) ∧ (x3 = true → ((¬ (S.1 143 12) = 0 → p_X11_readStep_168 a1 rc post S x3 x4) ∧ ((S.1 143 12) = 0 → p_X11_isEnd  S  (fun r35 S34 => ((r35 = true → p_X11_readStep_168 a1 rc post S34 x3 x4) ∧ (r35 = false → rc S34 (a1 + 1) (fun S36 => (p_X11_readStep_140 a1 rc post fu140) S36 x3 x4))))))))) := rfl
def p_X11_readStep_81  (a1 : Int32) (rc : vSt → Int32 → (vSt → Prop) → Prop)  (post : vSt → Prop) (S : vSt) (x2 : Int32) (x3 : Bool) : Prop := (((S.1 143 12) ≤ 0 → ∀ y26 : Int32, y26 = (1630 + (9 * (S.1 143 25))) → ∀ S27, S27 = v_si S 143 25 ((S.1 143 25) + 1) → p_X11_advance  S27  (fun S28 => (vp_in y26 1900 ∧ ∀ S29, S29 = v_si S28 148 (Int32.toNatClampNeg y26) x2 → p_X11_readRest  S29 y26 (fun S30 => p_X11_isSign  S30 59 (fun r32 S31 => p_X11_must  S31 r32 (fun S33 => ∃ fu140, p_X11_readStep_140 a1 rc post fu140 S33 x3 y26)))))) ∧ (¬ (S.1 143 12) ≤ 0 → post S))
def p_X11_readStep_55  (a1 : Int32) (rc : vSt → Int32 → (vSt → Prop) → Prop)  (post : vSt → Prop) (S : vSt) (x2 : Int32) (x3 : Bool) : Prop := ((¬ (S.1 143 12) = 0 → p_X11_readStep_81 a1 rc post S x2 x3) ∧ ((S.1 143 12) = 0 → ((x3 = false → p_X11_readStep_81 a1 rc post S x2 x3) ∧ (x3 = true → ((¬ a1 = 3 → p_X11_readStep_81 a1 rc post S x2 x3) ∧ (a1 = 3 → p_X11_fail  S 7 (S.1 143 15) (fun S26 => p_X11_readStep_81 a1 rc post S26 x2 x3)))))))
def p_X11_readStep_29  (a1 : Int32) (rc : vSt → Int32 → (vSt → Prop) → Prop)  (post : vSt → Prop) (S : vSt) (x2 : Int32) (x3 : Bool) : Prop := ((¬ (S.1 143 12) = 0 → p_X11_readStep_55 a1 rc post S x2 x3) ∧ ((S.1 143 12) = 0 → ((¬ (S.1 143 25) = 30 → p_X11_readStep_55 a1 rc post S x2 x3) ∧ ((S.1 143 25) = 30 → p_X11_fail  S 6 (S.1 143 15) (fun S26 => p_X11_readStep_55 a1 rc post S26 x2 x3)))))
def p_X11_readStep_20  (a1 : Int32) (rc : vSt → Int32 → (vSt → Prop) → Prop)  (post : vSt → Prop) (S : vSt) (x2 : Int32) (s0 : Bool) : Prop := ((0 ≤ x2 → p_X11_readStep_29 a1 rc post S x2 s0) ∧ (¬ 0 ≤ x2 → p_X11_amiss  S  (fun S26 => p_X11_readStep_29 a1 rc post S26 x2 s0)))
def p_X11_readStep_15  (a1 : Int32) (rc : vSt → Int32 → (vSt → Prop) → Prop)  (post : vSt → Prop) (S : vSt) (x2 : Int32) : Prop := p_X11_readStep_20 a1 rc post S x2 true
def pb_X11_readStep  (rc : vSt → Int32 → (vSt → Prop) → Prop) (S : vSt) (a1 : Int32) (post : vSt → Prop) : Prop := p_X11_stepWord  S  (fun r25 S24 => ((r25 = 4 → p_X11_readStep_15 a1 rc post S24 r25) ∧ (¬ r25 = 4 → ((¬ r25 = 5 → p_X11_readStep_20 a1 rc post S24 r25 false) ∧ (r25 = 5 → p_X11_readStep_15 a1 rc post S24 r25)))))
set_option maxHeartbeats 4000000 in
set_option maxRecDepth 100000 in
theorem q_X11_readStep_190 {X : vX} {G : vG} {f0 l0 : Nat} {post : vSt → Prop} (C : v_Cx X G cX11_readStep RX11 5 (v_rm (f0 + 7) (l0 + 194))) (D : v_Rx X G (v_Qv G post) none)  {a1 : Int32} {rc : vSt → Int32 → (vSt → Prop) → Prop} (hrc : ∀ (S : vSt) (a1 : Int32) (post : vSt → Prop), rc S a1 post → Met (v_l X) yX11_readStep (v_ws yX11_readStep cX11_readStep 5 none) (v_rm f0 l0) (v_Pc G [.ref (G.1 143), .int a1] S) (v_Qv G post) 0 0 (v_A G))  : ∀ (S : vSt) (x4 : Int32), p_X11_readStep_190 a1 rc post S x4 → VJ X G S 190 [(0, .ref (G.1 143)), (4, .int x4)] [] := by
  intro S x4 h
  refine V_aload_n C 0 dX11_readStep_190 rfl rfl ?_
  refine V_ga C 143 (by decide) (by decide) F_11_20 k_RX11_35 dX11_readStep_191 ?_
  refine V_iload C 1 dX11_readStep_194 rfl ?_
  refine V_bipush (v := 8) C dX11_readStep_196 (by decide) ?_
  refine V_iadd C dX11_readStep_198 ?_
  refine V_aload_n C 0 dX11_readStep_199 rfl rfl ?_
  refine V_gi C 143 (by decide) (by decide) F_11_25 k_RX11_280 dX11_readStep_200 ?_
  obtain ⟨hi, h⟩ := h
  refine V_iast C 148 1900 (by decide) (by decide) hi dX11_readStep_203 ?_
  refine V_topS (fun S34 eS34 => ?_)
  have h := h S34 eS34
  exact V_vret C D dX11_readStep_204 h
set_option maxHeartbeats 4000000 in
set_option maxRecDepth 100000 in
theorem q_X11_readStep_168 {X : vX} {G : vG} {f0 l0 : Nat} {post : vSt → Prop} (C : v_Cx X G cX11_readStep RX11 5 (v_rm (f0 + 7) (l0 + 194))) (D : v_Rx X G (v_Qv G post) none)  {a1 : Int32} {rc : vSt → Int32 → (vSt → Prop) → Prop} (hrc : ∀ (S : vSt) (a1 : Int32) (post : vSt → Prop), rc S a1 post → Met (v_l X) yX11_readStep (v_ws yX11_readStep cX11_readStep 5 none) (v_rm f0 l0) (v_Pc G [.ref (G.1 143), .int a1] S) (v_Qv G post) 0 0 (v_A G))  : ∀ (S : vSt) (x3 : Bool) (x4 : Int32), p_X11_readStep_168 a1 rc post S x3 x4 → VJ X G S 168 [(0, .ref (G.1 143)), (3, .int (v_b x3)), (4, .int x4)] [] := by
  intro S x3 x4 h
  refine V_iload_n C 1 dX11_readStep_168 rfl rfl ?_
  refine V_ifb_eq (tgt := 190) C dX11_readStep_169 (by decide) (fun c => ?_) (fun c => ?_)
  · have h := h.1 c
    refine V_loc (lv' := [(0, .ref (G.1 143)), (4, .int x4)]) [0, 2] rfl ?_
    exact q_X11_readStep_190 C D hrc _ _ h
  · have h := h.2 c
    refine V_aload_n C 0 dX11_readStep_172 rfl rfl ?_
    refine V_aload_n C 0 dX11_readStep_173 rfl rfl ?_
    refine V_callVz (As := []) (rest := [.ref (G.1 143)]) C (c_X11_isEnd (v_l X) G  _ h) 143 11 (by decide) (by decide) (by decide) rfl KV_X11_isEnd k_RX11_191 rfl rfl rfl (Nat.le_of_ble_eq_true rfl) ⟨by simp only [v_rm]; omega, by simp only [v_rm]; omega⟩ dX11_readStep_174 (fun r35 S34 h => ?_)
    refine V_callVv (As := [.int (v_b r35)]) (rest := []) C (c_X11_must (v_l X) G  _ _ h) 143 11 (by decide) (by decide) (by decide) rfl KV_X11_must k_RX11_213 rfl rfl rfl (Nat.le_of_ble_eq_true rfl) ⟨by simp only [v_rm]; omega, by simp only [v_rm]; omega⟩ dX11_readStep_177 (fun S36 h => ?_)
    refine V_aload_n C 0 dX11_readStep_180 rfl rfl ?_
    refine V_aload_n C 0 dX11_readStep_181 rfl rfl ?_
    refine V_bipush (v := 59) C dX11_readStep_182 (by decide) ?_
    refine V_callVz (As := [.int 59]) (rest := [.ref (G.1 143)]) C (c_X11_isSign (v_l X) G  _ _ h) 143 11 (by decide) (by decide) (by decide) rfl KV_X11_isSign k_RX11_268 rfl rfl rfl (Nat.le_of_ble_eq_true rfl) ⟨by simp only [v_rm]; omega, by simp only [v_rm]; omega⟩ dX11_readStep_184 (fun r38 S37 h => ?_)
    refine V_callVv (As := [.int (v_b r38)]) (rest := []) C (c_X11_must (v_l X) G  _ _ h) 143 11 (by decide) (by decide) (by decide) rfl KV_X11_must k_RX11_213 rfl rfl rfl (Nat.le_of_ble_eq_true rfl) ⟨by simp only [v_rm]; omega, by simp only [v_rm]; omega⟩ dX11_readStep_187 (fun S39 h => ?_)
    refine V_loc (lv' := [(0, .ref (G.1 143)), (4, .int x4)]) [0, 2] rfl ?_
    exact q_X11_readStep_190 C D hrc _ _ h
set_option maxHeartbeats 4000000 in
set_option maxRecDepth 100000 in
theorem q_X11_readStep_140 {X : vX} {G : vG} {f0 l0 : Nat} {post : vSt → Prop} (C : v_Cx X G cX11_readStep RX11 5 (v_rm (f0 + 7) (l0 + 194))) (D : v_Rx X G (v_Qv G post) none)  {a1 : Int32} {rc : vSt → Int32 → (vSt → Prop) → Prop} (hrc : ∀ (S : vSt) (a1 : Int32) (post : vSt → Prop), rc S a1 post → Met (v_l X) yX11_readStep (v_ws yX11_readStep cX11_readStep 5 none) (v_rm f0 l0) (v_Pc G [.ref (G.1 143), .int a1] S) (v_Qv G post) 0 0 (v_A G))  : ∀ (fu : Nat) (S : vSt) (x3 : Bool) (x4 : Int32), p_X11_readStep_140 a1 rc post fu S x3 x4 → VJ X G S 140 [(0, .ref (G.1 143)), (1, .int a1), (3, .int (v_b x3)), (4, .int x4)] [] := by
  intro fu
  induction fu with
  | zero => intro S x3 x4 h; exact absurd h id
  | succ fu ih =>
    intro S x3 x4 h
    have hK140 := ih
    rw [e_X11_readStep_140] at h
    refine V_iload_n C 2 dX11_readStep_140 rfl rfl ?_
    refine V_ifb_eq (tgt := 168) C dX11_readStep_141 (by decide) (fun c => ?_) (fun c => ?_)
    · have h := h.1 c
      refine V_loc (lv' := [(0, .ref (G.1 143)), (3, .int (v_b x3)), (4, .int x4)]) [0, 2, 3] rfl ?_
      exact q_X11_readStep_168 C D hrc _ _ _ h
    · have h := h.2 c
      refine V_aload_n C 0 dX11_readStep_144 rfl rfl ?_
      refine V_gi C 143 (by decide) (by decide) F_11_12 k_RX11_197 dX11_readStep_145 ?_
      refine V_if_ne (tgt := 168) C dX11_readStep_148 (by decide) (fun c => ?_) (fun c => ?_)
      · have h := h.1 c
        refine V_loc (lv' := [(0, .ref (G.1 143)), (3, .int (v_b x3)), (4, .int x4)]) [0, 2, 3] rfl ?_
        exact q_X11_readStep_168 C D hrc _ _ _ h
      · have h := h.2 c
        refine V_aload_n C 0 dX11_readStep_151 rfl rfl ?_
        refine V_callVz (As := []) (rest := []) C (c_X11_isEnd (v_l X) G  _ h) 143 11 (by decide) (by decide) (by decide) rfl KV_X11_isEnd k_RX11_191 rfl rfl rfl (Nat.le_of_ble_eq_true rfl) ⟨by simp only [v_rm]; omega, by simp only [v_rm]; omega⟩ dX11_readStep_152 (fun r35 S34 h => ?_)
        refine V_ifb_ne (tgt := 168) C dX11_readStep_155 (by decide) (fun c => ?_) (fun c => ?_)
        · have h := h.1 c
          refine V_loc (lv' := [(0, .ref (G.1 143)), (3, .int (v_b x3)), (4, .int x4)]) [0, 2, 3] rfl ?_
          exact q_X11_readStep_168 C D hrc _ _ _ h
        · have h := h.2 c
          refine V_aload_n C 0 dX11_readStep_158 rfl rfl ?_
          refine V_iload_n C 1 dX11_readStep_159 rfl rfl ?_
          refine V_iconst (v := 1) C dX11_readStep_160 (by decide) ?_
          refine V_iadd C dX11_readStep_161 ?_
          refine V_callVv (As := [.int (a1 + 1)]) (rest := []) C (hrc _ _ _ h) 143 11 (by decide) (by decide) (by decide) rfl KV_X11_readStep k_RX11_286 rfl rfl rfl (Nat.le_of_ble_eq_true rfl) ⟨by simp only [v_rm]; omega, by simp only [v_rm]; omega⟩ dX11_readStep_162 (fun S36 h => ?_)
          refine V_goto (tgt := 140) C dX11_readStep_165 (by decide) ?_
          exact hK140 _ _ _ h
set_option maxHeartbeats 4000000 in
set_option maxRecDepth 100000 in
theorem q_X11_readStep_81 {X : vX} {G : vG} {f0 l0 : Nat} {post : vSt → Prop} (C : v_Cx X G cX11_readStep RX11 5 (v_rm (f0 + 7) (l0 + 194))) (D : v_Rx X G (v_Qv G post) none)  {a1 : Int32} {rc : vSt → Int32 → (vSt → Prop) → Prop} (hrc : ∀ (S : vSt) (a1 : Int32) (post : vSt → Prop), rc S a1 post → Met (v_l X) yX11_readStep (v_ws yX11_readStep cX11_readStep 5 none) (v_rm f0 l0) (v_Pc G [.ref (G.1 143), .int a1] S) (v_Qv G post) 0 0 (v_A G))  : ∀ (S : vSt) (x2 : Int32) (x3 : Bool), p_X11_readStep_81 a1 rc post S x2 x3 → VJ X G S 81 [(0, .ref (G.1 143)), (1, .int a1), (2, .int x2), (3, .int (v_b x3))] [] := by
  intro S x2 x3 h
  refine V_aload_n C 0 dX11_readStep_81 rfl rfl ?_
  refine V_gi C 143 (by decide) (by decide) F_11_12 k_RX11_197 dX11_readStep_82 ?_
  refine V_if_le (tgt := 89) C dX11_readStep_85 (by decide) (fun c => ?_) (fun c => ?_)
  · have h := h.1 c
    refine V_sipush (v := 1630) C dX11_readStep_89 (by decide) ?_
    refine V_bipush (v := 9) C dX11_readStep_92 (by decide) ?_
    refine V_aload_n C 0 dX11_readStep_94 rfl rfl ?_
    refine V_gi C 143 (by decide) (by decide) F_11_25 k_RX11_280 dX11_readStep_95 ?_
    refine V_imul C dX11_readStep_98 ?_
    refine V_iadd C dX11_readStep_99 ?_
    refine V_topi (fun y26 ey26 => ?_)
    have h := h y26 ey26
    refine V_istore (lv' := [(0, .ref (G.1 143)), (1, .int a1), (2, .int x2), (3, .int (v_b x3)), (4, .int y26)]) C [1, 2, 3, 4, 0] dX11_readStep_100 (by decide) rfl ?_
    refine V_aload_n C 0 dX11_readStep_102 rfl rfl ?_
    refine V_dup C dX11_readStep_103 rfl ?_
    refine V_gi C 143 (by decide) (by decide) F_11_25 k_RX11_280 dX11_readStep_104 ?_
    refine V_iconst (v := 1) C dX11_readStep_107 (by decide) ?_
    refine V_iadd C dX11_readStep_108 ?_
    refine V_pi C 143 (by decide) (by decide) P_11_25 k_RX11_280 dX11_readStep_109 ?_
    refine V_topS (fun S27 eS27 => ?_)
    have h := h S27 eS27
    refine V_aload_n C 0 dX11_readStep_112 rfl rfl ?_
    refine V_callVv (As := []) (rest := []) C (c_X11_advance (v_l X) G  _ h) 143 11 (by decide) (by decide) (by decide) rfl KV_X11_advance k_RX11_207 rfl rfl rfl (Nat.le_of_ble_eq_true rfl) ⟨by simp only [v_rm]; omega, by simp only [v_rm]; omega⟩ dX11_readStep_113 (fun S28 h => ?_)
    refine V_aload_n C 0 dX11_readStep_116 rfl rfl ?_
    refine V_ga C 143 (by decide) (by decide) F_11_20 k_RX11_35 dX11_readStep_117 ?_
    refine V_iload C 4 dX11_readStep_120 rfl ?_
    refine V_iload_n C 2 dX11_readStep_122 rfl rfl ?_
    obtain ⟨hi, h⟩ := h
    refine V_iast C 148 1900 (by decide) (by decide) hi dX11_readStep_123 ?_
    refine V_topS (fun S29 eS29 => ?_)
    have h := h S29 eS29
    refine V_aload_n C 0 dX11_readStep_124 rfl rfl ?_
    refine V_iload C 4 dX11_readStep_125 rfl ?_
    refine V_callVv (As := [.int y26]) (rest := []) C (c_X11_readRest (v_l X) G  _ _ h) 143 11 (by decide) (by decide) (by decide) rfl KV_X11_readRest k_RX11_283 rfl rfl rfl (Nat.le_of_ble_eq_true rfl) ⟨by simp only [v_rm]; omega, by simp only [v_rm]; omega⟩ dX11_readStep_127 (fun S30 h => ?_)
    refine V_aload_n C 0 dX11_readStep_130 rfl rfl ?_
    refine V_aload_n C 0 dX11_readStep_131 rfl rfl ?_
    refine V_bipush (v := 59) C dX11_readStep_132 (by decide) ?_
    refine V_callVz (As := [.int 59]) (rest := [.ref (G.1 143)]) C (c_X11_isSign (v_l X) G  _ _ h) 143 11 (by decide) (by decide) (by decide) rfl KV_X11_isSign k_RX11_268 rfl rfl rfl (Nat.le_of_ble_eq_true rfl) ⟨by simp only [v_rm]; omega, by simp only [v_rm]; omega⟩ dX11_readStep_134 (fun r32 S31 h => ?_)
    refine V_callVv (As := [.int (v_b r32)]) (rest := []) C (c_X11_must (v_l X) G  _ _ h) 143 11 (by decide) (by decide) (by decide) rfl KV_X11_must k_RX11_213 rfl rfl rfl (Nat.le_of_ble_eq_true rfl) ⟨by simp only [v_rm]; omega, by simp only [v_rm]; omega⟩ dX11_readStep_137 (fun S33 h => ?_)
    refine V_loc (lv' := [(0, .ref (G.1 143)), (1, .int a1), (3, .int (v_b x3)), (4, .int y26)]) [0, 1, 3, 4] rfl ?_
    obtain ⟨fu140, h⟩ := h
    exact q_X11_readStep_140 C D hrc fu140 _ _ _ h
  · have h := h.2 c
    exact V_vret C D dX11_readStep_88 h
set_option maxHeartbeats 4000000 in
set_option maxRecDepth 100000 in
theorem q_X11_readStep_55 {X : vX} {G : vG} {f0 l0 : Nat} {post : vSt → Prop} (C : v_Cx X G cX11_readStep RX11 5 (v_rm (f0 + 7) (l0 + 194))) (D : v_Rx X G (v_Qv G post) none)  {a1 : Int32} {rc : vSt → Int32 → (vSt → Prop) → Prop} (hrc : ∀ (S : vSt) (a1 : Int32) (post : vSt → Prop), rc S a1 post → Met (v_l X) yX11_readStep (v_ws yX11_readStep cX11_readStep 5 none) (v_rm f0 l0) (v_Pc G [.ref (G.1 143), .int a1] S) (v_Qv G post) 0 0 (v_A G))  : ∀ (S : vSt) (x2 : Int32) (x3 : Bool), p_X11_readStep_55 a1 rc post S x2 x3 → VJ X G S 55 [(0, .ref (G.1 143)), (1, .int a1), (2, .int x2), (3, .int (v_b x3))] [] := by
  intro S x2 x3 h
  refine V_aload_n C 0 dX11_readStep_55 rfl rfl ?_
  refine V_gi C 143 (by decide) (by decide) F_11_12 k_RX11_197 dX11_readStep_56 ?_
  refine V_if_ne (tgt := 81) C dX11_readStep_59 (by decide) (fun c => ?_) (fun c => ?_)
  · have h := h.1 c
    exact q_X11_readStep_81 C D hrc _ _ _ h
  · have h := h.2 c
    refine V_iload_n C 3 dX11_readStep_62 rfl rfl ?_
    refine V_ifb_eq (tgt := 81) C dX11_readStep_63 (by decide) (fun c => ?_) (fun c => ?_)
    · have h := h.1 c
      exact q_X11_readStep_81 C D hrc _ _ _ h
    · have h := h.2 c
      refine V_iload_n C 1 dX11_readStep_66 rfl rfl ?_
      refine V_iconst (v := 3) C dX11_readStep_67 (by decide) ?_
      refine V_icmp_ne (tgt := 81) C dX11_readStep_68 (by decide) (fun c => ?_) (fun c => ?_)
      · have h := h.1 c
        exact q_X11_readStep_81 C D hrc _ _ _ h
      · have h := h.2 c
        refine V_aload_n C 0 dX11_readStep_71 rfl rfl ?_
        refine V_bipush (v := 7) C dX11_readStep_72 (by decide) ?_
        refine V_aload_n C 0 dX11_readStep_74 rfl rfl ?_
        refine V_gi C 143 (by decide) (by decide) F_11_15 k_RX11_109 dX11_readStep_75 ?_
        refine V_callVv (As := [.int 7, .int (S.1 143 15)]) (rest := []) C (c_X11_fail (v_l X) G  _ _ _ h) 143 11 (by decide) (by decide) (by decide) rfl KV_X11_fail k_RX11_203 rfl rfl rfl (Nat.le_of_ble_eq_true rfl) ⟨by simp only [v_rm]; omega, by simp only [v_rm]; omega⟩ dX11_readStep_78 (fun S26 h => ?_)
        exact q_X11_readStep_81 C D hrc _ _ _ h
set_option maxHeartbeats 4000000 in
set_option maxRecDepth 100000 in
theorem q_X11_readStep_29 {X : vX} {G : vG} {f0 l0 : Nat} {post : vSt → Prop} (C : v_Cx X G cX11_readStep RX11 5 (v_rm (f0 + 7) (l0 + 194))) (D : v_Rx X G (v_Qv G post) none)  {a1 : Int32} {rc : vSt → Int32 → (vSt → Prop) → Prop} (hrc : ∀ (S : vSt) (a1 : Int32) (post : vSt → Prop), rc S a1 post → Met (v_l X) yX11_readStep (v_ws yX11_readStep cX11_readStep 5 none) (v_rm f0 l0) (v_Pc G [.ref (G.1 143), .int a1] S) (v_Qv G post) 0 0 (v_A G))  : ∀ (S : vSt) (x2 : Int32) (x3 : Bool), p_X11_readStep_29 a1 rc post S x2 x3 → VJ X G S 29 [(0, .ref (G.1 143)), (1, .int a1), (2, .int x2), (3, .int (v_b x3))] [] := by
  intro S x2 x3 h
  refine V_aload_n C 0 dX11_readStep_29 rfl rfl ?_
  refine V_gi C 143 (by decide) (by decide) F_11_12 k_RX11_197 dX11_readStep_30 ?_
  refine V_if_ne (tgt := 55) C dX11_readStep_33 (by decide) (fun c => ?_) (fun c => ?_)
  · have h := h.1 c
    exact q_X11_readStep_55 C D hrc _ _ _ h
  · have h := h.2 c
    refine V_aload_n C 0 dX11_readStep_36 rfl rfl ?_
    refine V_gi C 143 (by decide) (by decide) F_11_25 k_RX11_280 dX11_readStep_37 ?_
    refine V_bipush (v := 30) C dX11_readStep_40 (by decide) ?_
    refine V_icmp_ne (tgt := 55) C dX11_readStep_42 (by decide) (fun c => ?_) (fun c => ?_)
    · have h := h.1 c
      exact q_X11_readStep_55 C D hrc _ _ _ h
    · have h := h.2 c
      refine V_aload_n C 0 dX11_readStep_45 rfl rfl ?_
      refine V_bipush (v := 6) C dX11_readStep_46 (by decide) ?_
      refine V_aload_n C 0 dX11_readStep_48 rfl rfl ?_
      refine V_gi C 143 (by decide) (by decide) F_11_15 k_RX11_109 dX11_readStep_49 ?_
      refine V_callVv (As := [.int 6, .int (S.1 143 15)]) (rest := []) C (c_X11_fail (v_l X) G  _ _ _ h) 143 11 (by decide) (by decide) (by decide) rfl KV_X11_fail k_RX11_203 rfl rfl rfl (Nat.le_of_ble_eq_true rfl) ⟨by simp only [v_rm]; omega, by simp only [v_rm]; omega⟩ dX11_readStep_52 (fun S26 h => ?_)
      exact q_X11_readStep_55 C D hrc _ _ _ h
set_option maxHeartbeats 4000000 in
set_option maxRecDepth 100000 in
theorem q_X11_readStep_20 {X : vX} {G : vG} {f0 l0 : Nat} {post : vSt → Prop} (C : v_Cx X G cX11_readStep RX11 5 (v_rm (f0 + 7) (l0 + 194))) (D : v_Rx X G (v_Qv G post) none)  {a1 : Int32} {rc : vSt → Int32 → (vSt → Prop) → Prop} (hrc : ∀ (S : vSt) (a1 : Int32) (post : vSt → Prop), rc S a1 post → Met (v_l X) yX11_readStep (v_ws yX11_readStep cX11_readStep 5 none) (v_rm f0 l0) (v_Pc G [.ref (G.1 143), .int a1] S) (v_Qv G post) 0 0 (v_A G))  : ∀ (S : vSt) (x2 : Int32) (s0 : Bool), p_X11_readStep_20 a1 rc post S x2 s0 → VJ X G S 20 [(0, .ref (G.1 143)), (1, .int a1), (2, .int x2)] [.int (v_b s0)] := by
  intro S x2 s0 h
  refine V_istore_n (lv' := [(0, .ref (G.1 143)), (1, .int a1), (2, .int x2), (3, .int (v_b s0))]) C [1, 2, 3, 0] dX11_readStep_20 rfl (by decide) rfl ?_
  refine V_iload_n C 2 dX11_readStep_21 rfl rfl ?_
  refine V_if_ge (tgt := 29) C dX11_readStep_22 (by decide) (fun c => ?_) (fun c => ?_)
  · have h := h.1 c
    exact q_X11_readStep_29 C D hrc _ _ _ h
  · have h := h.2 c
    refine V_aload_n C 0 dX11_readStep_25 rfl rfl ?_
    refine V_callVv (As := []) (rest := []) C (c_X11_amiss (v_l X) G  _ h) 143 11 (by decide) (by decide) (by decide) rfl KV_X11_amiss k_RX11_210 rfl rfl rfl (Nat.le_of_ble_eq_true rfl) ⟨by simp only [v_rm]; omega, by simp only [v_rm]; omega⟩ dX11_readStep_26 (fun S26 h => ?_)
    exact q_X11_readStep_29 C D hrc _ _ _ h
set_option maxHeartbeats 4000000 in
set_option maxRecDepth 100000 in
theorem q_X11_readStep_15 {X : vX} {G : vG} {f0 l0 : Nat} {post : vSt → Prop} (C : v_Cx X G cX11_readStep RX11 5 (v_rm (f0 + 7) (l0 + 194))) (D : v_Rx X G (v_Qv G post) none)  {a1 : Int32} {rc : vSt → Int32 → (vSt → Prop) → Prop} (hrc : ∀ (S : vSt) (a1 : Int32) (post : vSt → Prop), rc S a1 post → Met (v_l X) yX11_readStep (v_ws yX11_readStep cX11_readStep 5 none) (v_rm f0 l0) (v_Pc G [.ref (G.1 143), .int a1] S) (v_Qv G post) 0 0 (v_A G))  : ∀ (S : vSt) (x2 : Int32), p_X11_readStep_15 a1 rc post S x2 → VJ X G S 15 [(0, .ref (G.1 143)), (1, .int a1), (2, .int x2)] [] := by
  intro S x2 h
  refine V_iconst (v := 1) C dX11_readStep_15 (by decide) ?_
  refine V_goto (tgt := 20) C dX11_readStep_16 (by decide) ?_
  exact q_X11_readStep_20 C D hrc _ _ _ h
set_option maxHeartbeats 4000000 in
set_option maxRecDepth 100000 in
theorem co_X11_readStep (l : Launch) (G : vG) {f0 l0 : Nat}  {rc : vSt → Int32 → (vSt → Prop) → Prop} (hrc : ∀ (S : vSt) (a1 : Int32) (post : vSt → Prop), rc S a1 post → Met l yX11_readStep (v_ws yX11_readStep cX11_readStep 5 none) (v_rm f0 l0) (v_Pc G [.ref (G.1 143), .int a1] S) (v_Qv G post) 0 0 (v_A G)) {S : vSt} (a1 : Int32) (post : vSt → Prop) (h : pb_X11_readStep  rc S a1 post) : Met l yX11_readStep (v_ws yX11_readStep cX11_readStep 5 none) (v_rm (f0 + 7) (l0 + 194)) (v_Pc G [.ref (G.1 143), .int a1] S) (v_Qv G post) 0 0 (v_A G) := by
  refine v_start (by decide +kernel) (Nat.le_of_ble_eq_true rfl) (fun X hl C D => ?_)
  subst hl
  have C : v_Cx X G cX11_readStep RX11 5 (v_rm (f0 + 7) (l0 + 194)) := C
  show VJ X G S 0 [(0, .ref (G.1 143)), (1, .int a1)] []
  refine V_aload_n C 0 dX11_readStep_0 rfl rfl ?_
  refine V_callVi (As := []) (rest := []) C (c_X11_stepWord (v_l X) G  _ h) 143 11 (by decide) (by decide) (by decide) rfl KV_X11_stepWord k_RX11_184 rfl rfl rfl (Nat.le_of_ble_eq_true rfl) ⟨by simp only [v_rm]; omega, by simp only [v_rm]; omega⟩ dX11_readStep_1 (fun r25 S24 h => ?_)
  refine V_istore_n (lv' := [(0, .ref (G.1 143)), (1, .int a1), (2, .int r25)]) C [1, 2, 0] dX11_readStep_4 rfl (by decide) rfl ?_
  refine V_iload_n C 2 dX11_readStep_5 rfl rfl ?_
  refine V_iconst (v := 4) C dX11_readStep_6 (by decide) ?_
  refine V_icmp_eq (tgt := 15) C dX11_readStep_7 (by decide) (fun c => ?_) (fun c => ?_)
  · have h := h.1 c
    exact q_X11_readStep_15 C D hrc _ _ h
  · have h := h.2 c
    refine V_iload_n C 2 dX11_readStep_10 rfl rfl ?_
    refine V_iconst (v := 5) C dX11_readStep_11 (by decide) ?_
    refine V_icmp_ne (tgt := 19) C dX11_readStep_12 (by decide) (fun c => ?_) (fun c => ?_)
    · have h := h.1 c
      refine V_iconst (v := 0) C dX11_readStep_19 (by decide) ?_
      exact q_X11_readStep_20 C D hrc _ _ _ h
    · have h := h.2 c
      exact q_X11_readStep_15 C D hrc _ _ h
def p_X11_readStep : Nat → vSt → Int32 → (vSt → Prop) → Prop
  | 0 => fun _ _ _ => False
  | d + 1 => fun S a1 post => pb_X11_readStep (p_X11_readStep d) S a1 post
theorem c_X11_readStep (d : Nat) : ∀ (l : Launch) (G : vG) {S : vSt} (a1 : Int32) (post : vSt → Prop) (h : p_X11_readStep d S a1 post), Met l yX11_readStep (v_ws yX11_readStep cX11_readStep 5 none) (v_rm (7 * d) (194 * d)) (v_Pc G [.ref (G.1 143), .int a1] S) (v_Qv G post) 0 0 (v_A G) := by
  induction d with
  | zero => intro l G S a1 post h; exact absurd h id
  | succ d ih =>
    intro l G S a1 post h
    exact co_X11_readStep l G (rc := p_X11_readStep d) (f0 := 7 * d) (l0 := 194 * d) (fun S a1 post h => ih l G a1 post h) a1 post h
/-! HalfAccuserModel.years(I)I -/
theorem dX11_years_0 : decode cX11_years 0 = .ok ((.aload_n 0), 1) := by decide +kernel
theorem dX11_years_1 : decode cX11_years 1 = .ok ((.iconst 0), 1) := by decide +kernel
theorem dX11_years_2 : decode cX11_years 2 = .ok ((.putfield 60), 3) := by decide +kernel
theorem dX11_years_5 : decode cX11_years 5 = .ok ((.aload_n 0), 1) := by decide +kernel
theorem dX11_years_6 : decode cX11_years 6 = .ok ((.iconst 0), 1) := by decide +kernel
theorem dX11_years_7 : decode cX11_years 7 = .ok ((.putfield 63), 3) := by decide +kernel
theorem dX11_years_10 : decode cX11_years 10 = .ok ((.aload_n 0), 1) := by decide +kernel
theorem dX11_years_11 : decode cX11_years 11 = .ok ((.iload_n 1), 1) := by decide +kernel
theorem dX11_years_12 : decode cX11_years 12 = .ok ((.sipush 300), 3) := by decide +kernel
theorem dX11_years_15 : decode cX11_years 15 = .ok ((.invokevirtual 262), 3) := by decide +kernel
theorem dX11_years_18 : decode cX11_years 18 = .ok ((.ifCond .ne 5), 3) := by decide +kernel
theorem dX11_years_21 : decode cX11_years 21 = .ok ((.iconst (-1)), 1) := by decide +kernel
theorem dX11_years_22 : decode cX11_years 22 = .ok (.ireturn, 1) := by decide +kernel
theorem dX11_years_23 : decode cX11_years 23 = .ok ((.aload_n 0), 1) := by decide +kernel
theorem dX11_years_24 : decode cX11_years 24 = .ok ((.iconst 0), 1) := by decide +kernel
theorem dX11_years_25 : decode cX11_years 25 = .ok ((.putfield 280), 3) := by decide +kernel
theorem dX11_years_28 : decode cX11_years 28 = .ok ((.aload_n 0), 1) := by decide +kernel
theorem dX11_years_29 : decode cX11_years 29 = .ok ((.getfield 197), 3) := by decide +kernel
theorem dX11_years_32 : decode cX11_years 32 = .ok ((.ifCond .ne 18), 3) := by decide +kernel
theorem dX11_years_35 : decode cX11_years 35 = .ok ((.aload_n 0), 1) := by decide +kernel
theorem dX11_years_36 : decode cX11_years 36 = .ok ((.getfield 115), 3) := by decide +kernel
theorem dX11_years_39 : decode cX11_years 39 = .ok ((.ifCond .eq 11), 3) := by decide +kernel
theorem dX11_years_42 : decode cX11_years 42 = .ok ((.aload_n 0), 1) := by decide +kernel
theorem dX11_years_43 : decode cX11_years 43 = .ok ((.iconst 0), 1) := by decide +kernel
theorem dX11_years_44 : decode cX11_years 44 = .ok ((.invokevirtual 286), 3) := by decide +kernel
theorem dX11_years_47 : decode cX11_years 47 = .ok ((.goto (-19)), 3) := by decide +kernel
theorem dX11_years_50 : decode cX11_years 50 = .ok ((.aload_n 0), 1) := by decide +kernel
theorem dX11_years_51 : decode cX11_years 51 = .ok ((.invokevirtual 271), 3) := by decide +kernel
theorem dX11_years_54 : decode cX11_years 54 = .ok ((.ifCond .ne 5), 3) := by decide +kernel
theorem dX11_years_57 : decode cX11_years 57 = .ok ((.iconst (-1)), 1) := by decide +kernel
theorem dX11_years_58 : decode cX11_years 58 = .ok (.ireturn, 1) := by decide +kernel
theorem dX11_years_59 : decode cX11_years 59 = .ok ((.aload_n 0), 1) := by decide +kernel
theorem dX11_years_60 : decode cX11_years 60 = .ok ((.getfield 35), 3) := by decide +kernel
theorem dX11_years_63 : decode cX11_years 63 = .ok ((.bipush 108), 2) := by decide +kernel
theorem dX11_years_65 : decode cX11_years 65 = .ok ((.iconst 1), 1) := by decide +kernel
theorem dX11_years_66 : decode cX11_years 66 = .ok (.iastore, 1) := by decide +kernel
theorem dX11_years_67 : decode cX11_years 67 = .ok ((.aload_n 0), 1) := by decide +kernel
theorem dX11_years_68 : decode cX11_years 68 = .ok ((.getfield 35), 3) := by decide +kernel
theorem dX11_years_71 : decode cX11_years 71 = .ok ((.bipush 109), 2) := by decide +kernel
theorem dX11_years_73 : decode cX11_years 73 = .ok ((.aload_n 0), 1) := by decide +kernel
theorem dX11_years_74 : decode cX11_years 74 = .ok ((.getfield 280), 3) := by decide +kernel
theorem dX11_years_77 : decode cX11_years 77 = .ok (.iastore, 1) := by decide +kernel
theorem dX11_years_78 : decode cX11_years 78 = .ok ((.iconst 0), 1) := by decide +kernel
theorem dX11_years_79 : decode cX11_years 79 = .ok ((.istore_n 2), 1) := by decide +kernel
theorem dX11_years_80 : decode cX11_years 80 = .ok ((.iload_n 2), 1) := by decide +kernel
theorem dX11_years_81 : decode cX11_years 81 = .ok ((.bipush 9), 2) := by decide +kernel
theorem dX11_years_83 : decode cX11_years 83 = .ok ((.aload_n 0), 1) := by decide +kernel
theorem dX11_years_84 : decode cX11_years 84 = .ok ((.getfield 280), 3) := by decide +kernel
theorem dX11_years_87 : decode cX11_years 87 = .ok (.imul, 1) := by decide +kernel
theorem dX11_years_88 : decode cX11_years 88 = .ok ((.if_icmp .ge 28), 3) := by decide +kernel
theorem dX11_years_91 : decode cX11_years 91 = .ok ((.aload_n 0), 1) := by decide +kernel
theorem dX11_years_92 : decode cX11_years 92 = .ok ((.getfield 35), 3) := by decide +kernel
theorem dX11_years_95 : decode cX11_years 95 = .ok ((.bipush 110), 2) := by decide +kernel
theorem dX11_years_97 : decode cX11_years 97 = .ok ((.iload_n 2), 1) := by decide +kernel
theorem dX11_years_98 : decode cX11_years 98 = .ok (.iadd, 1) := by decide +kernel
theorem dX11_years_99 : decode cX11_years 99 = .ok ((.aload_n 0), 1) := by decide +kernel
theorem dX11_years_100 : decode cX11_years 100 = .ok ((.getfield 35), 3) := by decide +kernel
theorem dX11_years_103 : decode cX11_years 103 = .ok ((.sipush 1630), 3) := by decide +kernel
theorem dX11_years_106 : decode cX11_years 106 = .ok ((.iload_n 2), 1) := by decide +kernel
theorem dX11_years_107 : decode cX11_years 107 = .ok (.iadd, 1) := by decide +kernel
theorem dX11_years_108 : decode cX11_years 108 = .ok (.iaload, 1) := by decide +kernel
theorem dX11_years_109 : decode cX11_years 109 = .ok (.iastore, 1) := by decide +kernel
theorem dX11_years_110 : decode cX11_years 110 = .ok ((.iinc 2 1), 3) := by decide +kernel
theorem dX11_years_113 : decode cX11_years 113 = .ok ((.goto (-33)), 3) := by decide +kernel
theorem dX11_years_116 : decode cX11_years 116 = .ok ((.aload_n 0), 1) := by decide +kernel
theorem dX11_years_117 : decode cX11_years 117 = .ok ((.getfield 280), 3) := by decide +kernel
theorem dX11_years_120 : decode cX11_years 120 = .ok (.ireturn, 1) := by decide +kernel
def p_X11_years_80  (a1 : Int32)   (post : Int32 → vSt → Prop) : Nat → vSt → Int32 → Prop
  | 0 => fun _ _ => False
  | fu80 + 1 => fun S x2 => (((9 * (S.1 143 25)) ≤ x2 → post (S.1 143 25) S) ∧ (¬ (9 * (S.1 143 25)) ≤ x2 → (vp_in (1630 + x2) 1900 ∧ (vp_in (110 + x2) 1900 ∧ ∀ S24, S24 = v_si S 148 (Int32.toNatClampNeg (110 + x2)) (S.1 148 (Int32.toNatClampNeg (1630 + x2))) → ∀ y25 : Int32, y25 = x2 + 1 → (p_X11_years_80 a1 post fu80) S24 y25))))
theorem e_X11_years_80  (a1 : Int32)   (post : Int32 → vSt → Prop) (fu80 : Nat) (S : vSt) (x2 : Int32) : p_X11_years_80 a1 post (fu80 + 1) S x2 = ((((9 * (S.1 143 25)) ≤ x2 → post (S.1 143 25) S) ∧ (¬ (9 * (S.1 143 25)) ≤ x2 → (vp_in (1630 + x2) 1900 ∧ (vp_in (110 + x2) 1900 ∧ ∀ S24, S24 = v_si S 148 (Int32.toNatClampNeg (110 + x2)) (S.1 148 (Int32.toNatClampNeg (1630 + x2))) → ∀ y25 : Int32, y25 = x2 + 1 → (p_X11_years_80 a1 post fu80) S24 y25))))) := rfl
def p_X11_years_50  (a1 : Int32)   (post : Int32 → vSt → Prop) (S : vSt)  : Prop := p_X11_isWell  S  (fun r21 S20 => ((r21 = true → (vp_in 108 1900 ∧ ∀ S22, S22 = v_si S20 148 (Int32.toNatClampNeg 108) 1 → (vp_in 109 1900 ∧ ∀ S23, S23 = v_si S22 148 (Int32.toNatClampNeg 109) (S22.1 143 25) → ∃ fu80, p_X11_years_80 a1 post fu80 S23 0))) ∧ (r21 = false → post (-1) S20)))
def p_X11_years_28  (a1 : Int32)   (post : Int32 → vSt → Prop) : Nat → vSt → Prop
  | 0 => fun _ => False
  | fu28 + 1 => fun S  => ((¬ (S.1 143 12) = 0 → p_X11_years_50 a1 post S ) ∧ ((S.1 143 12) = 0 → (((S.1 143 14) = 0 → p_X11_years_50 a1 post S ) ∧ (¬ (S.1 143 14) = 0 → p_X11_readStep 6 S 0 (fun S20 => (p_X11_years_28 a1 post fu28) S20 )))))
theorem e_X11_years_28  (a1 : Int32)   (post : Int32 → vSt → Prop) (fu28 : Nat) (S : vSt)  : p_X11_years_28 a1 post (fu28 + 1) S  = (((¬ (S.1 143 12) = 0 → p_X11_years_50 a1 post S ) ∧ ((S.1 143 12) = 0 → (((S.1 143 14) = 0 → p_X11_years_50 a1 post S ) ∧ (¬ (S.1 143 14) = 0 → p_X11_readStep 6 S 0 (fun S20 => (p_X11_years_28 a1 post fu28) S20 )))))) := rfl
def p_X11_years   (S : vSt) (a1 : Int32) (post : Int32 → vSt → Prop) : Prop := ∀ S15, S15 = v_si S 143 1 0 → ∀ S16, S16 = v_si S15 143 0 0 → p_X11_starts  S16 a1 300 (fun r18 S17 => ((r18 = true → ∀ S19, S19 = v_si S17 143 25 0 → ∃ fu28, p_X11_years_28 a1 post fu28 S19 ) ∧ (r18 = false → post (-1) S17)))
set_option maxHeartbeats 4000000 in
set_option maxRecDepth 100000 in
theorem q_X11_years_80 {X : vX} {G : vG}  {post : Int32 → vSt → Prop} (C : v_Cx X G cX11_years RX11 3 (v_rm 43 1188)) (D : v_Rx X G (v_Qi G post) (some .int))  {a1 : Int32}   : ∀ (fu : Nat) (S : vSt) (x2 : Int32), p_X11_years_80 a1 post fu S x2 → VJ X G S 80 [(0, .ref (G.1 143)), (2, .int x2)] [] := by
  intro fu
  induction fu with
  | zero => intro S x2 h; exact absurd h id
  | succ fu ih =>
    intro S x2 h
    have hK80 := ih
    rw [e_X11_years_80] at h
    refine V_iload_n C 1 dX11_years_80 rfl rfl ?_
    refine V_bipush (v := 9) C dX11_years_81 (by decide) ?_
    refine V_aload_n C 0 dX11_years_83 rfl rfl ?_
    refine V_gi C 143 (by decide) (by decide) F_11_25 k_RX11_280 dX11_years_84 ?_
    refine V_imul C dX11_years_87 ?_
    refine V_icmp_ge (tgt := 116) C dX11_years_88 (by decide) (fun c => ?_) (fun c => ?_)
    · have h := h.1 c
      refine V_aload_n C 0 dX11_years_116 rfl rfl ?_
      refine V_gi C 143 (by decide) (by decide) F_11_25 k_RX11_280 dX11_years_117 ?_
      exact V_iret C D dX11_years_120 h
    · have h := h.2 c
      refine V_aload_n C 0 dX11_years_91 rfl rfl ?_
      refine V_ga C 143 (by decide) (by decide) F_11_20 k_RX11_35 dX11_years_92 ?_
      refine V_bipush (v := 110) C dX11_years_95 (by decide) ?_
      refine V_iload_n C 1 dX11_years_97 rfl rfl ?_
      refine V_iadd C dX11_years_98 ?_
      refine V_aload_n C 0 dX11_years_99 rfl rfl ?_
      refine V_ga C 143 (by decide) (by decide) F_11_20 k_RX11_35 dX11_years_100 ?_
      refine V_sipush (v := 1630) C dX11_years_103 (by decide) ?_
      refine V_iload_n C 1 dX11_years_106 rfl rfl ?_
      refine V_iadd C dX11_years_107 ?_
      obtain ⟨hi, h⟩ := h
      refine V_iald C 148 1900 (by decide) (by decide) hi dX11_years_108 ?_
      obtain ⟨hi, h⟩ := h
      refine V_iast C 148 1900 (by decide) (by decide) hi dX11_years_109 ?_
      refine V_topS (fun S24 eS24 => ?_)
      have h := h S24 eS24
      obtain ⟨y25, ey25⟩ : ∃ z : Int32, z = x2 + 1 := ⟨_, rfl⟩
      have h := h y25 ey25
      refine V_iinc (lv' := [(0, .ref (G.1 143)), (2, .int y25)]) C 1 [1, 0] y25 dX11_years_110 rfl (by rw [ey25]; rfl) (by decide) rfl ?_
      refine V_goto (tgt := 80) C dX11_years_113 (by decide) ?_
      exact hK80 _ _ h
set_option maxHeartbeats 4000000 in
set_option maxRecDepth 100000 in
theorem q_X11_years_50 {X : vX} {G : vG}  {post : Int32 → vSt → Prop} (C : v_Cx X G cX11_years RX11 3 (v_rm 43 1188)) (D : v_Rx X G (v_Qi G post) (some .int))  {a1 : Int32}   : ∀ (S : vSt), p_X11_years_50 a1 post S  → VJ X G S 50 [(0, .ref (G.1 143))] [] := by
  intro S  h
  refine V_aload_n C 0 dX11_years_50 rfl rfl ?_
  refine V_callVz (As := []) (rest := []) C (c_X11_isWell (v_l X) G  _ h) 143 11 (by decide) (by decide) (by decide) rfl KV_X11_isWell k_RX11_271 rfl rfl rfl (Nat.le_of_ble_eq_true rfl) ⟨Nat.le_of_ble_eq_true rfl, Nat.le_of_ble_eq_true rfl⟩ dX11_years_51 (fun r21 S20 h => ?_)
  refine V_ifb_ne (tgt := 59) C dX11_years_54 (by decide) (fun c => ?_) (fun c => ?_)
  · have h := h.1 c
    refine V_aload_n C 0 dX11_years_59 rfl rfl ?_
    refine V_ga C 143 (by decide) (by decide) F_11_20 k_RX11_35 dX11_years_60 ?_
    refine V_bipush (v := 108) C dX11_years_63 (by decide) ?_
    refine V_iconst (v := 1) C dX11_years_65 (by decide) ?_
    obtain ⟨hi, h⟩ := h
    refine V_iast C 148 1900 (by decide) (by decide) hi dX11_years_66 ?_
    refine V_topS (fun S22 eS22 => ?_)
    have h := h S22 eS22
    refine V_aload_n C 0 dX11_years_67 rfl rfl ?_
    refine V_ga C 143 (by decide) (by decide) F_11_20 k_RX11_35 dX11_years_68 ?_
    refine V_bipush (v := 109) C dX11_years_71 (by decide) ?_
    refine V_aload_n C 0 dX11_years_73 rfl rfl ?_
    refine V_gi C 143 (by decide) (by decide) F_11_25 k_RX11_280 dX11_years_74 ?_
    obtain ⟨hi, h⟩ := h
    refine V_iast C 148 1900 (by decide) (by decide) hi dX11_years_77 ?_
    refine V_topS (fun S23 eS23 => ?_)
    have h := h S23 eS23
    refine V_iconst (v := 0) C dX11_years_78 (by decide) ?_
    refine V_istore_n (lv' := [(0, .ref (G.1 143)), (2, .int 0)]) C [1, 0] dX11_years_79 rfl (by decide) rfl ?_
    obtain ⟨fu80, h⟩ := h
    exact q_X11_years_80 C D  fu80 _ _ h
  · have h := h.2 c
    refine V_iconst (v := (-1)) C dX11_years_57 (by decide) ?_
    exact V_iret C D dX11_years_58 h
set_option maxHeartbeats 4000000 in
set_option maxRecDepth 100000 in
theorem q_X11_years_28 {X : vX} {G : vG}  {post : Int32 → vSt → Prop} (C : v_Cx X G cX11_years RX11 3 (v_rm 43 1188)) (D : v_Rx X G (v_Qi G post) (some .int))  {a1 : Int32}   : ∀ (fu : Nat) (S : vSt) , p_X11_years_28 a1 post fu S  → VJ X G S 28 [(0, .ref (G.1 143))] [] := by
  intro fu
  induction fu with
  | zero => intro S  h; exact absurd h id
  | succ fu ih =>
    intro S  h
    have hK28 := ih
    rw [e_X11_years_28] at h
    refine V_aload_n C 0 dX11_years_28 rfl rfl ?_
    refine V_gi C 143 (by decide) (by decide) F_11_12 k_RX11_197 dX11_years_29 ?_
    refine V_if_ne (tgt := 50) C dX11_years_32 (by decide) (fun c => ?_) (fun c => ?_)
    · have h := h.1 c
      exact q_X11_years_50 C D  _ h
    · have h := h.2 c
      refine V_aload_n C 0 dX11_years_35 rfl rfl ?_
      refine V_gi C 143 (by decide) (by decide) F_11_14 k_RX11_115 dX11_years_36 ?_
      refine V_if_eq (tgt := 50) C dX11_years_39 (by decide) (fun c => ?_) (fun c => ?_)
      · have h := h.1 c
        exact q_X11_years_50 C D  _ h
      · have h := h.2 c
        refine V_aload_n C 0 dX11_years_42 rfl rfl ?_
        refine V_iconst (v := 0) C dX11_years_43 (by decide) ?_
        refine V_callVv (As := [.int 0]) (rest := []) C (c_X11_readStep 6 (v_l X) G  _ _ h) 143 11 (by decide) (by decide) (by decide) rfl KV_X11_readStep k_RX11_286 rfl rfl rfl (Nat.le_of_ble_eq_true rfl) ⟨Nat.le_of_ble_eq_true rfl, Nat.le_of_ble_eq_true rfl⟩ dX11_years_44 (fun S20 h => ?_)
        refine V_goto (tgt := 28) C dX11_years_47 (by decide) ?_
        exact hK28 _ h
set_option maxHeartbeats 4000000 in
set_option maxRecDepth 100000 in
theorem c_X11_years (l : Launch) (G : vG)    {S : vSt} (a1 : Int32) (post : Int32 → vSt → Prop) (h : p_X11_years   S a1 post) : Met l yX11_years (v_ws yX11_years cX11_years 3 (some .int)) (v_rm 43 1188) (v_Pc G [.ref (G.1 143), .int a1] S) (v_Qi G post) 0 0 (v_A G) := by
  refine v_start (by decide +kernel) (Nat.le_of_ble_eq_true rfl) (fun X hl C D => ?_)
  subst hl
  have C : v_Cx X G cX11_years RX11 3 (v_rm 43 1188) := C
  show VJ X G S 0 [(0, .ref (G.1 143)), (1, .int a1)] []
  refine V_aload_n C 0 dX11_years_0 rfl rfl ?_
  refine V_iconst (v := 0) C dX11_years_1 (by decide) ?_
  refine V_pi C 143 (by decide) (by decide) P_11_1 k_RX11_60 dX11_years_2 ?_
  refine V_topS (fun S15 eS15 => ?_)
  have h := h S15 eS15
  refine V_aload_n C 0 dX11_years_5 rfl rfl ?_
  refine V_iconst (v := 0) C dX11_years_6 (by decide) ?_
  refine V_pi C 143 (by decide) (by decide) P_11_0 k_RX11_63 dX11_years_7 ?_
  refine V_topS (fun S16 eS16 => ?_)
  have h := h S16 eS16
  refine V_aload_n C 0 dX11_years_10 rfl rfl ?_
  refine V_iload_n C 1 dX11_years_11 rfl rfl ?_
  refine V_sipush (v := 300) C dX11_years_12 (by decide) ?_
  refine V_callVz (As := [.int a1, .int 300]) (rest := []) C (c_X11_starts (v_l X) G  _ _ _ h) 143 11 (by decide) (by decide) (by decide) rfl KV_X11_starts k_RX11_262 rfl rfl rfl (Nat.le_of_ble_eq_true rfl) ⟨Nat.le_of_ble_eq_true rfl, Nat.le_of_ble_eq_true rfl⟩ dX11_years_15 (fun r18 S17 h => ?_)
  refine V_ifb_ne (tgt := 23) C dX11_years_18 (by decide) (fun c => ?_) (fun c => ?_)
  · have h := h.1 c
    refine V_aload_n C 0 dX11_years_23 rfl rfl ?_
    refine V_iconst (v := 0) C dX11_years_24 (by decide) ?_
    refine V_pi C 143 (by decide) (by decide) P_11_25 k_RX11_280 dX11_years_25 ?_
    refine V_topS (fun S19 eS19 => ?_)
    have h := h S19 eS19
    refine V_loc (lv' := [(0, .ref (G.1 143))]) [0] rfl ?_
    obtain ⟨fu28, h⟩ := h
    exact q_X11_years_28 C D  fu28 _ h
  · have h := h.2 c
    refine V_iconst (v := (-1)) C dX11_years_21 (by decide) ?_
    exact V_iret C D dX11_years_22 h
/-! HalfAccuserModel.plays(IIIII)J -/
theorem dX11_plays_0 : decode cX11_plays 0 = .ok ((.iload_n 3), 1) := by decide +kernel
theorem dX11_plays_1 : decode cX11_plays 1 = .ok ((.iload 4), 2) := by decide +kernel
theorem dX11_plays_3 : decode cX11_plays 3 = .ok ((.if_icmp .ne 5), 3) := by decide +kernel
theorem dX11_plays_6 : decode cX11_plays 6 = .ok ((.lconst 0), 1) := by decide +kernel
theorem dX11_plays_7 : decode cX11_plays 7 = .ok (.lreturn, 1) := by decide +kernel
theorem dX11_plays_8 : decode cX11_plays 8 = .ok ((.iload_n 3), 1) := by decide +kernel
theorem dX11_plays_9 : decode cX11_plays 9 = .ok ((.iconst 2), 1) := by decide +kernel
theorem dX11_plays_10 : decode cX11_plays 10 = .ok (.irem, 1) := by decide +kernel
theorem dX11_plays_11 : decode cX11_plays 11 = .ok ((.ifCond .ne 7), 3) := by decide +kernel
theorem dX11_plays_14 : decode cX11_plays 14 = .ok ((.iconst 1), 1) := by decide +kernel
theorem dX11_plays_15 : decode cX11_plays 15 = .ok ((.goto 4), 3) := by decide +kernel
theorem dX11_plays_18 : decode cX11_plays 18 = .ok ((.iconst 0), 1) := by decide +kernel
theorem dX11_plays_19 : decode cX11_plays 19 = .ok ((.istore 6), 2) := by decide +kernel
theorem dX11_plays_21 : decode cX11_plays 21 = .ok ((.iload 6), 2) := by decide +kernel
theorem dX11_plays_23 : decode cX11_plays 23 = .ok ((.ifCond .eq 7), 3) := by decide +kernel
theorem dX11_plays_26 : decode cX11_plays 26 = .ok ((.iload_n 1), 1) := by decide +kernel
theorem dX11_plays_27 : decode cX11_plays 27 = .ok ((.goto 4), 3) := by decide +kernel
theorem dX11_plays_30 : decode cX11_plays 30 = .ok ((.iload_n 2), 1) := by decide +kernel
theorem dX11_plays_31 : decode cX11_plays 31 = .ok ((.istore 7), 2) := by decide +kernel
theorem dX11_plays_33 : decode cX11_plays 33 = .ok ((.iload 6), 2) := by decide +kernel
theorem dX11_plays_35 : decode cX11_plays 35 = .ok ((.ifCond .eq 7), 3) := by decide +kernel
theorem dX11_plays_38 : decode cX11_plays 38 = .ok ((.iload_n 2), 1) := by decide +kernel
theorem dX11_plays_39 : decode cX11_plays 39 = .ok ((.goto 4), 3) := by decide +kernel
theorem dX11_plays_42 : decode cX11_plays 42 = .ok ((.iload_n 1), 1) := by decide +kernel
theorem dX11_plays_43 : decode cX11_plays 43 = .ok ((.istore 8), 2) := by decide +kernel
theorem dX11_plays_45 : decode cX11_plays 45 = .ok ((.lconst 0), 1) := by decide +kernel
theorem dX11_plays_46 : decode cX11_plays 46 = .ok ((.lstore 9), 2) := by decide +kernel
theorem dX11_plays_48 : decode cX11_plays 48 = .ok ((.iconst (-1)), 1) := by decide +kernel
theorem dX11_plays_49 : decode cX11_plays 49 = .ok ((.istore 11), 2) := by decide +kernel
theorem dX11_plays_51 : decode cX11_plays 51 = .ok ((.iconst 0), 1) := by decide +kernel
theorem dX11_plays_52 : decode cX11_plays 52 = .ok ((.istore 12), 2) := by decide +kernel
theorem dX11_plays_54 : decode cX11_plays 54 = .ok ((.iload 12), 2) := by decide +kernel
theorem dX11_plays_56 : decode cX11_plays 56 = .ok ((.aload_n 0), 1) := by decide +kernel
theorem dX11_plays_57 : decode cX11_plays 57 = .ok ((.getfield 35), 3) := by decide +kernel
theorem dX11_plays_60 : decode cX11_plays 60 = .ok ((.iconst 1), 1) := by decide +kernel
theorem dX11_plays_61 : decode cX11_plays 61 = .ok (.iaload, 1) := by decide +kernel
theorem dX11_plays_62 : decode cX11_plays 62 = .ok ((.if_icmp .gt 183), 3) := by decide +kernel
theorem dX11_plays_65 : decode cX11_plays 65 = .ok ((.iload 12), 2) := by decide +kernel
theorem dX11_plays_67 : decode cX11_plays 67 = .ok ((.aload_n 0), 1) := by decide +kernel
theorem dX11_plays_68 : decode cX11_plays 68 = .ok ((.getfield 35), 3) := by decide +kernel
theorem dX11_plays_71 : decode cX11_plays 71 = .ok ((.iconst 1), 1) := by decide +kernel
theorem dX11_plays_72 : decode cX11_plays 72 = .ok (.iaload, 1) := by decide +kernel
theorem dX11_plays_73 : decode cX11_plays 73 = .ok ((.if_icmp .ne 7), 3) := by decide +kernel
theorem dX11_plays_76 : decode cX11_plays 76 = .ok ((.iconst 1), 1) := by decide +kernel
theorem dX11_plays_77 : decode cX11_plays 77 = .ok ((.goto 4), 3) := by decide +kernel
theorem dX11_plays_80 : decode cX11_plays 80 = .ok ((.iconst 0), 1) := by decide +kernel
theorem dX11_plays_81 : decode cX11_plays 81 = .ok ((.istore 13), 2) := by decide +kernel
theorem dX11_plays_83 : decode cX11_plays 83 = .ok ((.iload 13), 2) := by decide +kernel
theorem dX11_plays_85 : decode cX11_plays 85 = .ok ((.ifCond .ne 42), 3) := by decide +kernel
theorem dX11_plays_88 : decode cX11_plays 88 = .ok ((.aload_n 0), 1) := by decide +kernel
theorem dX11_plays_89 : decode cX11_plays 89 = .ok ((.getfield 35), 3) := by decide +kernel
theorem dX11_plays_92 : decode cX11_plays 92 = .ok ((.bipush 48), 2) := by decide +kernel
theorem dX11_plays_94 : decode cX11_plays 94 = .ok ((.iload 12), 2) := by decide +kernel
theorem dX11_plays_96 : decode cX11_plays 96 = .ok (.iadd, 1) := by decide +kernel
theorem dX11_plays_97 : decode cX11_plays 97 = .ok (.iaload, 1) := by decide +kernel
theorem dX11_plays_98 : decode cX11_plays 98 = .ok ((.iload 8), 2) := by decide +kernel
theorem dX11_plays_100 : decode cX11_plays 100 = .ok ((.if_icmp .ne 139), 3) := by decide +kernel
theorem dX11_plays_103 : decode cX11_plays 103 = .ok ((.iload 5), 2) := by decide +kernel
theorem dX11_plays_105 : decode cX11_plays 105 = .ok ((.iload 12), 2) := by decide +kernel
theorem dX11_plays_107 : decode cX11_plays 107 = .ok ((.invokestatic 99), 3) := by decide +kernel
theorem dX11_plays_110 : decode cX11_plays 110 = .ok ((.ifCond .ne 129), 3) := by decide +kernel
theorem dX11_plays_113 : decode cX11_plays 113 = .ok ((.aload_n 0), 1) := by decide +kernel
theorem dX11_plays_114 : decode cX11_plays 114 = .ok ((.iload 7), 2) := by decide +kernel
theorem dX11_plays_116 : decode cX11_plays 116 = .ok ((.iload 12), 2) := by decide +kernel
theorem dX11_plays_118 : decode cX11_plays 118 = .ok ((.invokevirtual 338), 3) := by decide +kernel
theorem dX11_plays_121 : decode cX11_plays 121 = .ok ((.ifCond .ne 6), 3) := by decide +kernel
theorem dX11_plays_124 : decode cX11_plays 124 = .ok ((.goto 115), 3) := by decide +kernel
theorem dX11_plays_127 : decode cX11_plays 127 = .ok ((.iload 13), 2) := by decide +kernel
theorem dX11_plays_129 : decode cX11_plays 129 = .ok ((.ifCond .eq 7), 3) := by decide +kernel
theorem dX11_plays_132 : decode cX11_plays 132 = .ok ((.lconst 0), 1) := by decide +kernel
theorem dX11_plays_133 : decode cX11_plays 133 = .ok ((.goto 20), 3) := by decide +kernel
theorem dX11_plays_136 : decode cX11_plays 136 = .ok ((.aload_n 0), 1) := by decide +kernel
theorem dX11_plays_137 : decode cX11_plays 137 = .ok ((.iload 7), 2) := by decide +kernel
theorem dX11_plays_139 : decode cX11_plays 139 = .ok ((.iload 12), 2) := by decide +kernel
theorem dX11_plays_141 : decode cX11_plays 141 = .ok ((.invokevirtual 395), 3) := by decide +kernel
theorem dX11_plays_144 : decode cX11_plays 144 = .ok ((.aload_n 0), 1) := by decide +kernel
theorem dX11_plays_145 : decode cX11_plays 145 = .ok ((.iload 7), 2) := by decide +kernel
theorem dX11_plays_147 : decode cX11_plays 147 = .ok ((.iload 12), 2) := by decide +kernel
theorem dX11_plays_149 : decode cX11_plays 149 = .ok ((.invokevirtual 398), 3) := by decide +kernel
theorem dX11_plays_152 : decode cX11_plays 152 = .ok (.ladd, 1) := by decide +kernel
theorem dX11_plays_153 : decode cX11_plays 153 = .ok ((.lstore 14), 2) := by decide +kernel
theorem dX11_plays_155 : decode cX11_plays 155 = .ok ((.iload 6), 2) := by decide +kernel
theorem dX11_plays_157 : decode cX11_plays 157 = .ok ((.ifCond .eq 8), 3) := by decide +kernel
theorem dX11_plays_160 : decode cX11_plays 160 = .ok ((.lload 14), 2) := by decide +kernel
theorem dX11_plays_162 : decode cX11_plays 162 = .ok ((.goto 6), 3) := by decide +kernel
theorem dX11_plays_165 : decode cX11_plays 165 = .ok ((.lload 14), 2) := by decide +kernel
theorem dX11_plays_167 : decode cX11_plays 167 = .ok (.lneg, 1) := by decide +kernel
theorem dX11_plays_168 : decode cX11_plays 168 = .ok ((.aload_n 0), 1) := by decide +kernel
theorem dX11_plays_169 : decode cX11_plays 169 = .ok ((.iload_n 1), 1) := by decide +kernel
theorem dX11_plays_170 : decode cX11_plays 170 = .ok ((.iload_n 2), 1) := by decide +kernel
theorem dX11_plays_171 : decode cX11_plays 171 = .ok ((.iload_n 3), 1) := by decide +kernel
theorem dX11_plays_172 : decode cX11_plays 172 = .ok ((.iconst 1), 1) := by decide +kernel
theorem dX11_plays_173 : decode cX11_plays 173 = .ok (.iadd, 1) := by decide +kernel
theorem dX11_plays_174 : decode cX11_plays 174 = .ok ((.iload 4), 2) := by decide +kernel
theorem dX11_plays_176 : decode cX11_plays 176 = .ok ((.iload 13), 2) := by decide +kernel
theorem dX11_plays_178 : decode cX11_plays 178 = .ok ((.ifCond .eq 8), 3) := by decide +kernel
theorem dX11_plays_181 : decode cX11_plays 181 = .ok ((.iload 5), 2) := by decide +kernel
theorem dX11_plays_183 : decode cX11_plays 183 = .ok ((.goto 10), 3) := by decide +kernel
theorem dX11_plays_186 : decode cX11_plays 186 = .ok ((.iload 5), 2) := by decide +kernel
theorem dX11_plays_188 : decode cX11_plays 188 = .ok ((.iconst 1), 1) := by decide +kernel
theorem dX11_plays_189 : decode cX11_plays 189 = .ok ((.iload 12), 2) := by decide +kernel
theorem dX11_plays_191 : decode cX11_plays 191 = .ok (.ishl, 1) := by decide +kernel
theorem dX11_plays_192 : decode cX11_plays 192 = .ok (.ior, 1) := by decide +kernel
theorem dX11_plays_193 : decode cX11_plays 193 = .ok ((.invokevirtual 418), 3) := by decide +kernel
theorem dX11_plays_196 : decode cX11_plays 196 = .ok (.ladd, 1) := by decide +kernel
theorem dX11_plays_197 : decode cX11_plays 197 = .ok ((.lstore 14), 2) := by decide +kernel
theorem dX11_plays_199 : decode cX11_plays 199 = .ok ((.iload 11), 2) := by decide +kernel
theorem dX11_plays_201 : decode cX11_plays 201 = .ok ((.ifCond .lt 30), 3) := by decide +kernel
theorem dX11_plays_204 : decode cX11_plays 204 = .ok ((.iload 6), 2) := by decide +kernel
theorem dX11_plays_206 : decode cX11_plays 206 = .ok ((.ifCond .eq 14), 3) := by decide +kernel
theorem dX11_plays_209 : decode cX11_plays 209 = .ok ((.lload 14), 2) := by decide +kernel
theorem dX11_plays_211 : decode cX11_plays 211 = .ok ((.lload 9), 2) := by decide +kernel
theorem dX11_plays_213 : decode cX11_plays 213 = .ok (.lcmp, 1) := by decide +kernel
theorem dX11_plays_214 : decode cX11_plays 214 = .ok ((.ifCond .gt 17), 3) := by decide +kernel
theorem dX11_plays_217 : decode cX11_plays 217 = .ok ((.goto 22), 3) := by decide +kernel
theorem dX11_plays_220 : decode cX11_plays 220 = .ok ((.lload 14), 2) := by decide +kernel
theorem dX11_plays_222 : decode cX11_plays 222 = .ok ((.lload 9), 2) := by decide +kernel
theorem dX11_plays_224 : decode cX11_plays 224 = .ok (.lcmp, 1) := by decide +kernel
theorem dX11_plays_225 : decode cX11_plays 225 = .ok ((.ifCond .lt 6), 3) := by decide +kernel
theorem dX11_plays_228 : decode cX11_plays 228 = .ok ((.goto 11), 3) := by decide +kernel
theorem dX11_plays_231 : decode cX11_plays 231 = .ok ((.lload 14), 2) := by decide +kernel
theorem dX11_plays_233 : decode cX11_plays 233 = .ok ((.lstore 9), 2) := by decide +kernel
theorem dX11_plays_235 : decode cX11_plays 235 = .ok ((.iload 12), 2) := by decide +kernel
theorem dX11_plays_237 : decode cX11_plays 237 = .ok ((.istore 11), 2) := by decide +kernel
theorem dX11_plays_239 : decode cX11_plays 239 = .ok ((.iinc 12 1), 3) := by decide +kernel
theorem dX11_plays_242 : decode cX11_plays 242 = .ok ((.goto (-188)), 3) := by decide +kernel
theorem dX11_plays_245 : decode cX11_plays 245 = .ok ((.iload_n 3), 1) := by decide +kernel
theorem dX11_plays_246 : decode cX11_plays 246 = .ok ((.ifCond .ne 9), 3) := by decide +kernel
theorem dX11_plays_249 : decode cX11_plays 249 = .ok ((.aload_n 0), 1) := by decide +kernel
theorem dX11_plays_250 : decode cX11_plays 250 = .ok ((.iload 11), 2) := by decide +kernel
theorem dX11_plays_252 : decode cX11_plays 252 = .ok ((.putfield 422), 3) := by decide +kernel
theorem dX11_plays_255 : decode cX11_plays 255 = .ok ((.lload 9), 2) := by decide +kernel
theorem dX11_plays_257 : decode cX11_plays 257 = .ok (.lreturn, 1) := by decide +kernel
def p_X11_plays_239  (a1 : Int32) (a2 : Int32) (a3 : Int32) (a4 : Int32) (a5 : Int32) (rc : vSt → Int32 → Int32 → Int32 → Int32 → Int32 → (Int64 → vSt → Prop) → Prop) (K54 : vSt → Bool → Int32 → Int32 → Int64 → Int32 → Int32 → Prop) (post : Int64 → vSt → Prop) (S : vSt) (x6 : Bool) (x7 : Int32) (x8 : Int32) (x9 : Int64) (x11 : Int32) (x12 : Int32) : Prop := ∀ y48 : Int32, y48 = x12 + 1 → K54 S x6 x7 x8 x9 x11 y48
def p_X11_plays_231  (a1 : Int32) (a2 : Int32) (a3 : Int32) (a4 : Int32) (a5 : Int32) (rc : vSt → Int32 → Int32 → Int32 → Int32 → Int32 → (Int64 → vSt → Prop) → Prop) (K54 : vSt → Bool → Int32 → Int32 → Int64 → Int32 → Int32 → Prop) (post : Int64 → vSt → Prop) (S : vSt) (x6 : Bool) (x7 : Int32) (x8 : Int32) (x12 : Int32) (x14 : Int64) : Prop := p_X11_plays_239 a1 a2 a3 a4 a5 rc K54 post S x6 x7 x8 x14 x12 x12
def p_X11_plays_193  (a1 : Int32) (a2 : Int32) (a3 : Int32) (a4 : Int32) (a5 : Int32) (rc : vSt → Int32 → Int32 → Int32 → Int32 → Int32 → (Int64 → vSt → Prop) → Prop) (K54 : vSt → Bool → Int32 → Int32 → Int64 → Int32 → Int32 → Prop) (post : Int64 → vSt → Prop) (S : vSt) (x6 : Bool) (x7 : Int32) (x8 : Int32) (x9 : Int64) (x11 : Int32) (x12 : Int32) (s0 : Int32) (s2 : Int32) (s6 : Int64) : Prop := rc S a1 a2 s2 a4 s0 (fun r46 S45 => ∀ y47 : Int64, y47 = (s6 + r46) → ((x11 < 0 → p_X11_plays_231 a1 a2 a3 a4 a5 rc K54 post S45 x6 x7 x8 x12 y47) ∧ (¬ x11 < 0 → ((x6 = false → ((y47 < x9 → p_X11_plays_231 a1 a2 a3 a4 a5 rc K54 post S45 x6 x7 x8 x12 y47) ∧ (¬ y47 < x9 → p_X11_plays_239 a1 a2 a3 a4 a5 rc K54 post S45 x6 x7 x8 x9 x11 x12))) ∧ (x6 = true → ((x9 < y47 → p_X11_plays_231 a1 a2 a3 a4 a5 rc K54 post S45 x6 x7 x8 x12 y47) ∧ (¬ x9 < y47 → p_X11_plays_239 a1 a2 a3 a4 a5 rc K54 post S45 x6 x7 x8 x9 x11 x12)))))))
def p_X11_plays_168  (a1 : Int32) (a2 : Int32) (a3 : Int32) (a4 : Int32) (a5 : Int32) (rc : vSt → Int32 → Int32 → Int32 → Int32 → Int32 → (Int64 → vSt → Prop) → Prop) (K54 : vSt → Bool → Int32 → Int32 → Int64 → Int32 → Int32 → Prop) (post : Int64 → vSt → Prop) (S : vSt) (x6 : Bool) (x7 : Int32) (x8 : Int32) (x9 : Int64) (x11 : Int32) (x12 : Int32) (x13 : Bool) (s0 : Int64) : Prop := ((x13 = false → p_X11_plays_193 a1 a2 a3 a4 a5 rc K54 post S x6 x7 x8 x9 x11 x12 (a5 ||| (1 <<< (x12 &&& 31))) (a3 + 1) s0) ∧ (x13 = true → p_X11_plays_193 a1 a2 a3 a4 a5 rc K54 post S x6 x7 x8 x9 x11 x12 a5 (a3 + 1) s0))
def p_X11_plays_153  (a1 : Int32) (a2 : Int32) (a3 : Int32) (a4 : Int32) (a5 : Int32) (rc : vSt → Int32 → Int32 → Int32 → Int32 → Int32 → (Int64 → vSt → Prop) → Prop) (K54 : vSt → Bool → Int32 → Int32 → Int64 → Int32 → Int32 → Prop) (post : Int64 → vSt → Prop) (S : vSt) (x6 : Bool) (x7 : Int32) (x8 : Int32) (x9 : Int64) (x11 : Int32) (x12 : Int32) (x13 : Bool) (s0 : Int64) : Prop := ((x6 = false → p_X11_plays_168 a1 a2 a3 a4 a5 rc K54 post S x6 x7 x8 x9 x11 x12 x13 (-s0)) ∧ (x6 = true → p_X11_plays_168 a1 a2 a3 a4 a5 rc K54 post S x6 x7 x8 x9 x11 x12 x13 s0))
def p_X11_plays_127  (a1 : Int32) (a2 : Int32) (a3 : Int32) (a4 : Int32) (a5 : Int32) (rc : vSt → Int32 → Int32 → Int32 → Int32 → Int32 → (Int64 → vSt → Prop) → Prop) (K54 : vSt → Bool → Int32 → Int32 → Int64 → Int32 → Int32 → Prop) (post : Int64 → vSt → Prop) (S : vSt) (x6 : Bool) (x7 : Int32) (x8 : Int32) (x9 : Int64) (x11 : Int32) (x12 : Int32) (x13 : Bool) : Prop := ((x13 = false → p_X11_gainOf  S x7 x12 (fun r42 S41 => p_X11_lossOf  S41 x7 x12 (fun r44 S43 => p_X11_plays_153 a1 a2 a3 a4 a5 rc K54 post S43 x6 x7 x8 x9 x11 x12 x13 (r42 + r44)))) ∧ (x13 = true → p_X11_plays_153 a1 a2 a3 a4 a5 rc K54 post S x6 x7 x8 x9 x11 x12 x13 0))
def p_X11_plays_81  (a1 : Int32) (a2 : Int32) (a3 : Int32) (a4 : Int32) (a5 : Int32) (rc : vSt → Int32 → Int32 → Int32 → Int32 → Int32 → (Int64 → vSt → Prop) → Prop) (K54 : vSt → Bool → Int32 → Int32 → Int64 → Int32 → Int32 → Prop) (post : Int64 → vSt → Prop) (S : vSt) (x6 : Bool) (x7 : Int32) (x8 : Int32) (x9 : Int64) (x11 : Int32) (x12 : Int32) (s0 : Bool) : Prop := ((s0 = true → p_X11_plays_127 a1 a2 a3 a4 a5 rc K54 post S x6 x7 x8 x9 x11 x12 s0) ∧ (s0 = false → (vp_in (48 + x12) 1900 ∧ ((¬ (S.1 148 (Int32.toNatClampNeg (48 + x12))) = x8 → p_X11_plays_239 a1 a2 a3 a4 a5 rc K54 post S x6 x7 x8 x9 x11 x12) ∧ ((S.1 148 (Int32.toNatClampNeg (48 + x12))) = x8 → p_X11_has  S a5 x12 (fun r42 S41 => ((r42 = true → p_X11_plays_239 a1 a2 a3 a4 a5 rc K54 post S41 x6 x7 x8 x9 x11 x12) ∧ (r42 = false → p_X11_canCharge  S41 x7 x12 (fun r44 S43 => ((r44 = true → p_X11_plays_127 a1 a2 a3 a4 a5 rc K54 post S43 x6 x7 x8 x9 x11 x12 s0) ∧ (r44 = false → p_X11_plays_239 a1 a2 a3 a4 a5 rc K54 post S43 x6 x7 x8 x9 x11 x12)))))))))))
def p_X11_plays_54  (a1 : Int32) (a2 : Int32) (a3 : Int32) (a4 : Int32) (a5 : Int32) (rc : vSt → Int32 → Int32 → Int32 → Int32 → Int32 → (Int64 → vSt → Prop) → Prop)  (post : Int64 → vSt → Prop) : Nat → vSt → Bool → Int32 → Int32 → Int64 → Int32 → Int32 → Prop
  | 0 => fun _ _ _ _ _ _ _ => False
  | fu54 + 1 => fun S x6 x7 x8 x9 x11 x12 => (vp_in 1 1900 ∧ (((S.1 148 (Int32.toNatClampNeg 1)) < x12 → ((¬ a3 = 0 → post x9 S) ∧ (a3 = 0 → ∀ S40, S40 = v_si S 143 29 x11 → post x9 S40))) ∧ (¬ (S.1 148 (Int32.toNatClampNeg 1)) < x12 → (vp_in 1 1900 ∧ ((¬ x12 = (S.1 148 (Int32.toNatClampNeg 1)) → p_X11_plays_81 a1 a2 a3 a4 a5 rc (p_X11_plays_54 a1 a2 a3 a4 a5 rc post fu54) post S x6 x7 x8 x9 x11 x12 false) ∧ (x12 = (S.1 148 (Int32.toNatClampNeg 1)) → p_X11_plays_81 a1 a2 a3 a4 a5 rc (p_X11_plays_54 a1 a2 a3 a4 a5 rc post fu54) post S x6 x7 x8 x9 x11 x12 true))))))
theorem e_X11_plays_54  (a1 : Int32) (a2 : Int32) (a3 : Int32) (a4 : Int32) (a5 : Int32) (rc : vSt → Int32 → Int32 → Int32 → Int32 → Int32 → (Int64 → vSt → Prop) → Prop)  (post : Int64 → vSt → Prop) (fu54 : Nat) (S : vSt) (x6 : Bool) (x7 : Int32) (x8 : Int32) (x9 : Int64) (x11 : Int32) (x12 : Int32) : p_X11_plays_54 a1 a2 a3 a4 a5 rc post (fu54 + 1) S x6 x7 x8 x9 x11 x12 = ((vp_in 1 1900 ∧ (((S.1 148 (Int32.toNatClampNeg 1)) < x12 → ((¬ a3 = 0 → post x9 S) ∧ (a3 = 0 → ∀ S40, S40 = v_si S 143 29 x11 → post x9 S40))) ∧ (¬ (S.1 148 (Int32.toNatClampNeg 1)) < x12 → (vp_in 1 1900 ∧ ((¬ x12 = (S.1 148 (Int32.toNatClampNeg 1)) → p_X11_plays_81 a1 a2 a3 a4 a5 rc (p_X11_plays_54 a1 a2 a3 a4 a5 rc post fu54) post S x6 x7 x8 x9 x11 x12 false) ∧ (x12 = (S.1 148 (Int32.toNatClampNeg 1)) → p_X11_plays_81 a1 a2 a3 a4 a5 rc (p_X11_plays_54 a1 a2 a3 a4 a5 rc post fu54) post S x6 x7 x8 x9 x11 x12 true))))))) := rfl
def p_X11_plays_43  (a1 : Int32) (a2 : Int32) (a3 : Int32) (a4 : Int32) (a5 : Int32) (rc : vSt → Int32 → Int32 → Int32 → Int32 → Int32 → (Int64 → vSt → Prop) → Prop)  (post : Int64 → vSt → Prop) (S : vSt) (x6 : Bool) (x7 : Int32) (s0 : Int32) : Prop := ∃ fu54, p_X11_plays_54 a1 a2 a3 a4 a5 rc post fu54 S x6 x7 s0 0 (-1) 0
def p_X11_plays_31  (a1 : Int32) (a2 : Int32) (a3 : Int32) (a4 : Int32) (a5 : Int32) (rc : vSt → Int32 → Int32 → Int32 → Int32 → Int32 → (Int64 → vSt → Prop) → Prop)  (post : Int64 → vSt → Prop) (S : vSt) (x6 : Bool) (s0 : Int32) : Prop := ((x6 = false → p_X11_plays_43 a1 a2 a3 a4 a5 rc post S x6 s0 a1) ∧ (x6 = true → p_X11_plays_43 a1 a2 a3 a4 a5 rc post S x6 s0 a2))
def p_X11_plays_19  (a1 : Int32) (a2 : Int32) (a3 : Int32) (a4 : Int32) (a5 : Int32) (rc : vSt → Int32 → Int32 → Int32 → Int32 → Int32 → (Int64 → vSt → Prop) → Prop)  (post : Int64 → vSt → Prop) (S : vSt) (s0 : Bool) : Prop := ((s0 = false → p_X11_plays_31 a1 a2 a3 a4 a5 rc post S s0 a2) ∧ (s0 = true → p_X11_plays_31 a1 a2 a3 a4 a5 rc post S s0 a1))
def pb_X11_plays  (rc : vSt → Int32 → Int32 → Int32 → Int32 → Int32 → (Int64 → vSt → Prop) → Prop) (S : vSt) (a1 : Int32) (a2 : Int32) (a3 : Int32) (a4 : Int32) (a5 : Int32) (post : Int64 → vSt → Prop) : Prop := ((¬ a3 = a4 → ((¬ (a3 - a3 / 2 * 2) = 0 → p_X11_plays_19 a1 a2 a3 a4 a5 rc post S false) ∧ ((a3 - a3 / 2 * 2) = 0 → p_X11_plays_19 a1 a2 a3 a4 a5 rc post S true))) ∧ (a3 = a4 → post 0 S))
set_option maxHeartbeats 4000000 in
set_option maxRecDepth 100000 in
theorem q_X11_plays_239 {X : vX} {G : vG} {f0 l0 : Nat} {post : Int64 → vSt → Prop} (C : v_Cx X G cX11_plays RX11 16 (v_rm (f0 + 5) (l0 + 154))) (D : v_Rx X G (v_Ql G post) (some .long))  {a1 : Int32} {a2 : Int32} {a3 : Int32} {a4 : Int32} {a5 : Int32} {rc : vSt → Int32 → Int32 → Int32 → Int32 → Int32 → (Int64 → vSt → Prop) → Prop} (hrc : ∀ (S : vSt) (a1 : Int32) (a2 : Int32) (a3 : Int32) (a4 : Int32) (a5 : Int32) (post : Int64 → vSt → Prop), rc S a1 a2 a3 a4 a5 post → Met (v_l X) yX11_plays (v_ws yX11_plays cX11_plays 16 (some .long)) (v_rm f0 l0) (v_Pc G [.ref (G.1 143), .int a1, .int a2, .int a3, .int a4, .int a5] S) (v_Ql G post) 0 0 (v_A G)) {K54 : vSt → Bool → Int32 → Int32 → Int64 → Int32 → Int32 → Prop} (hK54 : ∀ S x6 x7 x8 x9 x11 x12, K54 S x6 x7 x8 x9 x11 x12 → VJ X G S 54 [(0, .ref (G.1 143)), (1, .int a1), (2, .int a2), (3, .int a3), (4, .int a4), (5, .int a5), (6, .int (v_b x6)), (7, .int x7), (8, .int x8), (9, .long x9), (11, .int x11), (12, .int x12)] []) : ∀ (S : vSt) (x6 : Bool) (x7 : Int32) (x8 : Int32) (x9 : Int64) (x11 : Int32) (x12 : Int32), p_X11_plays_239 a1 a2 a3 a4 a5 rc K54 post S x6 x7 x8 x9 x11 x12 → VJ X G S 239 [(0, .ref (G.1 143)), (1, .int a1), (2, .int a2), (3, .int a3), (4, .int a4), (5, .int a5), (6, .int (v_b x6)), (7, .int x7), (8, .int x8), (9, .long x9), (11, .int x11), (12, .int x12)] [] := by
  intro S x6 x7 x8 x9 x11 x12 h
  obtain ⟨y48, ey48⟩ : ∃ z : Int32, z = x12 + 1 := ⟨_, rfl⟩
  have h := h y48 ey48
  refine V_iinc (lv' := [(0, .ref (G.1 143)), (1, .int a1), (2, .int a2), (3, .int a3), (4, .int a4), (5, .int a5), (6, .int (v_b x6)), (7, .int x7), (8, .int x8), (9, .long x9), (11, .int x11), (12, .int y48)]) C 11 [1, 2, 3, 4, 5, 6, 7, 8, 9, 10, 11, 0] y48 dX11_plays_239 rfl (by rw [ey48]; rfl) (by decide) rfl ?_
  refine V_goto (tgt := 54) C dX11_plays_242 (by decide) ?_
  exact hK54 _ _ _ _ _ _ _ h
set_option maxHeartbeats 4000000 in
set_option maxRecDepth 100000 in
theorem q_X11_plays_231 {X : vX} {G : vG} {f0 l0 : Nat} {post : Int64 → vSt → Prop} (C : v_Cx X G cX11_plays RX11 16 (v_rm (f0 + 5) (l0 + 154))) (D : v_Rx X G (v_Ql G post) (some .long))  {a1 : Int32} {a2 : Int32} {a3 : Int32} {a4 : Int32} {a5 : Int32} {rc : vSt → Int32 → Int32 → Int32 → Int32 → Int32 → (Int64 → vSt → Prop) → Prop} (hrc : ∀ (S : vSt) (a1 : Int32) (a2 : Int32) (a3 : Int32) (a4 : Int32) (a5 : Int32) (post : Int64 → vSt → Prop), rc S a1 a2 a3 a4 a5 post → Met (v_l X) yX11_plays (v_ws yX11_plays cX11_plays 16 (some .long)) (v_rm f0 l0) (v_Pc G [.ref (G.1 143), .int a1, .int a2, .int a3, .int a4, .int a5] S) (v_Ql G post) 0 0 (v_A G)) {K54 : vSt → Bool → Int32 → Int32 → Int64 → Int32 → Int32 → Prop} (hK54 : ∀ S x6 x7 x8 x9 x11 x12, K54 S x6 x7 x8 x9 x11 x12 → VJ X G S 54 [(0, .ref (G.1 143)), (1, .int a1), (2, .int a2), (3, .int a3), (4, .int a4), (5, .int a5), (6, .int (v_b x6)), (7, .int x7), (8, .int x8), (9, .long x9), (11, .int x11), (12, .int x12)] []) : ∀ (S : vSt) (x6 : Bool) (x7 : Int32) (x8 : Int32) (x12 : Int32) (x14 : Int64), p_X11_plays_231 a1 a2 a3 a4 a5 rc K54 post S x6 x7 x8 x12 x14 → VJ X G S 231 [(0, .ref (G.1 143)), (1, .int a1), (2, .int a2), (3, .int a3), (4, .int a4), (5, .int a5), (6, .int (v_b x6)), (7, .int x7), (8, .int x8), (12, .int x12), (14, .long x14)] [] := by
  intro S x6 x7 x8 x12 x14 h
  refine V_lload C 10 dX11_plays_231 rfl ?_
  refine V_lstore (lv' := [(0, .ref (G.1 143)), (1, .int a1), (2, .int a2), (3, .int a3), (4, .int a4), (5, .int a5), (6, .int (v_b x6)), (7, .int x7), (8, .int x8), (9, .long x14), (12, .int x12), (14, .long x14)]) C [1, 2, 3, 4, 5, 6, 7, 8, 9, 0, 10, 11] dX11_plays_233 (by decide) rfl ?_
  refine V_iload C 10 dX11_plays_235 rfl ?_
  refine V_istore (lv' := [(0, .ref (G.1 143)), (1, .int a1), (2, .int a2), (3, .int a3), (4, .int a4), (5, .int a5), (6, .int (v_b x6)), (7, .int x7), (8, .int x8), (9, .long x14), (11, .int x12), (12, .int x12), (14, .long x14)]) C [1, 2, 3, 4, 5, 6, 7, 8, 9, 10, 0, 11, 12] dX11_plays_237 (by decide) rfl ?_
  refine V_loc (lv' := [(0, .ref (G.1 143)), (1, .int a1), (2, .int a2), (3, .int a3), (4, .int a4), (5, .int a5), (6, .int (v_b x6)), (7, .int x7), (8, .int x8), (9, .long x14), (11, .int x12), (12, .int x12)]) [0, 1, 2, 3, 4, 5, 6, 7, 8, 9, 10, 11] rfl ?_
  exact q_X11_plays_239 C D hrc hK54 _ _ _ _ _ _ _ h
set_option maxHeartbeats 4000000 in
set_option maxRecDepth 100000 in
theorem q_X11_plays_193 {X : vX} {G : vG} {f0 l0 : Nat} {post : Int64 → vSt → Prop} (C : v_Cx X G cX11_plays RX11 16 (v_rm (f0 + 5) (l0 + 154))) (D : v_Rx X G (v_Ql G post) (some .long))  {a1 : Int32} {a2 : Int32} {a3 : Int32} {a4 : Int32} {a5 : Int32} {rc : vSt → Int32 → Int32 → Int32 → Int32 → Int32 → (Int64 → vSt → Prop) → Prop} (hrc : ∀ (S : vSt) (a1 : Int32) (a2 : Int32) (a3 : Int32) (a4 : Int32) (a5 : Int32) (post : Int64 → vSt → Prop), rc S a1 a2 a3 a4 a5 post → Met (v_l X) yX11_plays (v_ws yX11_plays cX11_plays 16 (some .long)) (v_rm f0 l0) (v_Pc G [.ref (G.1 143), .int a1, .int a2, .int a3, .int a4, .int a5] S) (v_Ql G post) 0 0 (v_A G)) {K54 : vSt → Bool → Int32 → Int32 → Int64 → Int32 → Int32 → Prop} (hK54 : ∀ S x6 x7 x8 x9 x11 x12, K54 S x6 x7 x8 x9 x11 x12 → VJ X G S 54 [(0, .ref (G.1 143)), (1, .int a1), (2, .int a2), (3, .int a3), (4, .int a4), (5, .int a5), (6, .int (v_b x6)), (7, .int x7), (8, .int x8), (9, .long x9), (11, .int x11), (12, .int x12)] []) : ∀ (S : vSt) (x6 : Bool) (x7 : Int32) (x8 : Int32) (x9 : Int64) (x11 : Int32) (x12 : Int32) (s0 : Int32) (s2 : Int32) (s6 : Int64), p_X11_plays_193 a1 a2 a3 a4 a5 rc K54 post S x6 x7 x8 x9 x11 x12 s0 s2 s6 → VJ X G S 193 [(0, .ref (G.1 143)), (1, .int a1), (2, .int a2), (3, .int a3), (4, .int a4), (5, .int a5), (6, .int (v_b x6)), (7, .int x7), (8, .int x8), (9, .long x9), (11, .int x11), (12, .int x12)] [.int s0, .int a4, .int s2, .int a2, .int a1, .ref (G.1 143), .long s6] := by
  intro S x6 x7 x8 x9 x11 x12 s0 s2 s6 h
  refine V_callVl (As := [.int a1, .int a2, .int s2, .int a4, .int s0]) (rest := [.long s6]) C (hrc _ _ _ _ _ _ _ h) 143 11 (by decide) (by decide) (by decide) rfl KV_X11_plays k_RX11_418 rfl rfl rfl (Nat.le_of_ble_eq_true rfl) ⟨by simp only [v_rm]; omega, by simp only [v_rm]; omega⟩ dX11_plays_193 (fun r46 S45 h => ?_)
  refine V_ladd C dX11_plays_196 ?_
  refine V_topl (fun y47 ey47 => ?_)
  have h := h y47 ey47
  refine V_lstore (lv' := [(0, .ref (G.1 143)), (1, .int a1), (2, .int a2), (3, .int a3), (4, .int a4), (5, .int a5), (6, .int (v_b x6)), (7, .int x7), (8, .int x8), (9, .long x9), (11, .int x11), (12, .int x12), (14, .long y47)]) C [1, 2, 3, 4, 5, 6, 7, 8, 9, 10, 11, 12, 0] dX11_plays_197 (by decide) rfl ?_
  refine V_iload C 10 dX11_plays_199 rfl ?_
  refine V_if_lt (tgt := 231) C dX11_plays_201 (by decide) (fun c => ?_) (fun c => ?_)
  · have h := h.1 c
    refine V_loc (lv' := [(0, .ref (G.1 143)), (1, .int a1), (2, .int a2), (3, .int a3), (4, .int a4), (5, .int a5), (6, .int (v_b x6)), (7, .int x7), (8, .int x8), (12, .int x12), (14, .long y47)]) [0, 1, 2, 3, 4, 5, 6, 7, 8, 11, 12] rfl ?_
    exact q_X11_plays_231 C D hrc hK54 _ _ _ _ _ _ h
  · have h := h.2 c
    refine V_iload C 6 dX11_plays_204 rfl ?_
    refine V_ifb_eq (tgt := 220) C dX11_plays_206 (by decide) (fun c => ?_) (fun c => ?_)
    · have h := h.1 c
      refine V_lload C 12 dX11_plays_220 rfl ?_
      refine V_lload C 9 dX11_plays_222 rfl ?_
      refine V_lcmp_lt (tgt := 231) C dX11_plays_224 dX11_plays_225 (by decide) (fun c => ?_) (fun c => ?_)
      · have h := h.1 c
        refine V_loc (lv' := [(0, .ref (G.1 143)), (1, .int a1), (2, .int a2), (3, .int a3), (4, .int a4), (5, .int a5), (6, .int (v_b x6)), (7, .int x7), (8, .int x8), (12, .int x12), (14, .long y47)]) [0, 1, 2, 3, 4, 5, 6, 7, 8, 11, 12] rfl ?_
        exact q_X11_plays_231 C D hrc hK54 _ _ _ _ _ _ h
      · have h := h.2 c
        refine V_goto (tgt := 239) C dX11_plays_228 (by decide) ?_
        refine V_loc (lv' := [(0, .ref (G.1 143)), (1, .int a1), (2, .int a2), (3, .int a3), (4, .int a4), (5, .int a5), (6, .int (v_b x6)), (7, .int x7), (8, .int x8), (9, .long x9), (11, .int x11), (12, .int x12)]) [0, 1, 2, 3, 4, 5, 6, 7, 8, 9, 10, 11] rfl ?_
        exact q_X11_plays_239 C D hrc hK54 _ _ _ _ _ _ _ h
    · have h := h.2 c
      refine V_lload C 12 dX11_plays_209 rfl ?_
      refine V_lload C 9 dX11_plays_211 rfl ?_
      refine V_lcmp_gt (tgt := 231) C dX11_plays_213 dX11_plays_214 (by decide) (fun c => ?_) (fun c => ?_)
      · have h := h.1 c
        refine V_loc (lv' := [(0, .ref (G.1 143)), (1, .int a1), (2, .int a2), (3, .int a3), (4, .int a4), (5, .int a5), (6, .int (v_b x6)), (7, .int x7), (8, .int x8), (12, .int x12), (14, .long y47)]) [0, 1, 2, 3, 4, 5, 6, 7, 8, 11, 12] rfl ?_
        exact q_X11_plays_231 C D hrc hK54 _ _ _ _ _ _ h
      · have h := h.2 c
        refine V_goto (tgt := 239) C dX11_plays_217 (by decide) ?_
        refine V_loc (lv' := [(0, .ref (G.1 143)), (1, .int a1), (2, .int a2), (3, .int a3), (4, .int a4), (5, .int a5), (6, .int (v_b x6)), (7, .int x7), (8, .int x8), (9, .long x9), (11, .int x11), (12, .int x12)]) [0, 1, 2, 3, 4, 5, 6, 7, 8, 9, 10, 11] rfl ?_
        exact q_X11_plays_239 C D hrc hK54 _ _ _ _ _ _ _ h
set_option maxHeartbeats 4000000 in
set_option maxRecDepth 100000 in
theorem q_X11_plays_168 {X : vX} {G : vG} {f0 l0 : Nat} {post : Int64 → vSt → Prop} (C : v_Cx X G cX11_plays RX11 16 (v_rm (f0 + 5) (l0 + 154))) (D : v_Rx X G (v_Ql G post) (some .long))  {a1 : Int32} {a2 : Int32} {a3 : Int32} {a4 : Int32} {a5 : Int32} {rc : vSt → Int32 → Int32 → Int32 → Int32 → Int32 → (Int64 → vSt → Prop) → Prop} (hrc : ∀ (S : vSt) (a1 : Int32) (a2 : Int32) (a3 : Int32) (a4 : Int32) (a5 : Int32) (post : Int64 → vSt → Prop), rc S a1 a2 a3 a4 a5 post → Met (v_l X) yX11_plays (v_ws yX11_plays cX11_plays 16 (some .long)) (v_rm f0 l0) (v_Pc G [.ref (G.1 143), .int a1, .int a2, .int a3, .int a4, .int a5] S) (v_Ql G post) 0 0 (v_A G)) {K54 : vSt → Bool → Int32 → Int32 → Int64 → Int32 → Int32 → Prop} (hK54 : ∀ S x6 x7 x8 x9 x11 x12, K54 S x6 x7 x8 x9 x11 x12 → VJ X G S 54 [(0, .ref (G.1 143)), (1, .int a1), (2, .int a2), (3, .int a3), (4, .int a4), (5, .int a5), (6, .int (v_b x6)), (7, .int x7), (8, .int x8), (9, .long x9), (11, .int x11), (12, .int x12)] []) : ∀ (S : vSt) (x6 : Bool) (x7 : Int32) (x8 : Int32) (x9 : Int64) (x11 : Int32) (x12 : Int32) (x13 : Bool) (s0 : Int64), p_X11_plays_168 a1 a2 a3 a4 a5 rc K54 post S x6 x7 x8 x9 x11 x12 x13 s0 → VJ X G S 168 [(0, .ref (G.1 143)), (1, .int a1), (2, .int a2), (3, .int a3), (4, .int a4), (5, .int a5), (6, .int (v_b x6)), (7, .int x7), (8, .int x8), (9, .long x9), (11, .int x11), (12, .int x12), (13, .int (v_b x13))] [.long s0] := by
  intro S x6 x7 x8 x9 x11 x12 x13 s0 h
  refine V_aload_n C 0 dX11_plays_168 rfl rfl ?_
  refine V_iload_n C 1 dX11_plays_169 rfl rfl ?_
  refine V_iload_n C 2 dX11_plays_170 rfl rfl ?_
  refine V_iload_n C 3 dX11_plays_171 rfl rfl ?_
  refine V_iconst (v := 1) C dX11_plays_172 (by decide) ?_
  refine V_iadd C dX11_plays_173 ?_
  refine V_iload C 4 dX11_plays_174 rfl ?_
  refine V_iload C 12 dX11_plays_176 rfl ?_
  refine V_ifb_eq (tgt := 186) C dX11_plays_178 (by decide) (fun c => ?_) (fun c => ?_)
  · have h := h.1 c
    refine V_iload C 5 dX11_plays_186 rfl ?_
    refine V_iconst (v := 1) C dX11_plays_188 (by decide) ?_
    refine V_iload C 11 dX11_plays_189 rfl ?_
    refine V_ishl C dX11_plays_191 ?_
    refine V_ior C dX11_plays_192 ?_
    refine V_loc (lv' := [(0, .ref (G.1 143)), (1, .int a1), (2, .int a2), (3, .int a3), (4, .int a4), (5, .int a5), (6, .int (v_b x6)), (7, .int x7), (8, .int x8), (9, .long x9), (11, .int x11), (12, .int x12)]) [0, 1, 2, 3, 4, 5, 6, 7, 8, 9, 10, 11] rfl ?_
    exact q_X11_plays_193 C D hrc hK54 _ _ _ _ _ _ _ _ _ _ h
  · have h := h.2 c
    refine V_iload C 5 dX11_plays_181 rfl ?_
    refine V_goto (tgt := 193) C dX11_plays_183 (by decide) ?_
    refine V_loc (lv' := [(0, .ref (G.1 143)), (1, .int a1), (2, .int a2), (3, .int a3), (4, .int a4), (5, .int a5), (6, .int (v_b x6)), (7, .int x7), (8, .int x8), (9, .long x9), (11, .int x11), (12, .int x12)]) [0, 1, 2, 3, 4, 5, 6, 7, 8, 9, 10, 11] rfl ?_
    exact q_X11_plays_193 C D hrc hK54 _ _ _ _ _ _ _ _ _ _ h
set_option maxHeartbeats 4000000 in
set_option maxRecDepth 100000 in
theorem q_X11_plays_153 {X : vX} {G : vG} {f0 l0 : Nat} {post : Int64 → vSt → Prop} (C : v_Cx X G cX11_plays RX11 16 (v_rm (f0 + 5) (l0 + 154))) (D : v_Rx X G (v_Ql G post) (some .long))  {a1 : Int32} {a2 : Int32} {a3 : Int32} {a4 : Int32} {a5 : Int32} {rc : vSt → Int32 → Int32 → Int32 → Int32 → Int32 → (Int64 → vSt → Prop) → Prop} (hrc : ∀ (S : vSt) (a1 : Int32) (a2 : Int32) (a3 : Int32) (a4 : Int32) (a5 : Int32) (post : Int64 → vSt → Prop), rc S a1 a2 a3 a4 a5 post → Met (v_l X) yX11_plays (v_ws yX11_plays cX11_plays 16 (some .long)) (v_rm f0 l0) (v_Pc G [.ref (G.1 143), .int a1, .int a2, .int a3, .int a4, .int a5] S) (v_Ql G post) 0 0 (v_A G)) {K54 : vSt → Bool → Int32 → Int32 → Int64 → Int32 → Int32 → Prop} (hK54 : ∀ S x6 x7 x8 x9 x11 x12, K54 S x6 x7 x8 x9 x11 x12 → VJ X G S 54 [(0, .ref (G.1 143)), (1, .int a1), (2, .int a2), (3, .int a3), (4, .int a4), (5, .int a5), (6, .int (v_b x6)), (7, .int x7), (8, .int x8), (9, .long x9), (11, .int x11), (12, .int x12)] []) : ∀ (S : vSt) (x6 : Bool) (x7 : Int32) (x8 : Int32) (x9 : Int64) (x11 : Int32) (x12 : Int32) (x13 : Bool) (s0 : Int64), p_X11_plays_153 a1 a2 a3 a4 a5 rc K54 post S x6 x7 x8 x9 x11 x12 x13 s0 → VJ X G S 153 [(0, .ref (G.1 143)), (1, .int a1), (2, .int a2), (3, .int a3), (4, .int a4), (5, .int a5), (6, .int (v_b x6)), (7, .int x7), (8, .int x8), (9, .long x9), (11, .int x11), (12, .int x12), (13, .int (v_b x13))] [.long s0] := by
  intro S x6 x7 x8 x9 x11 x12 x13 s0 h
  refine V_lstore (lv' := [(0, .ref (G.1 143)), (1, .int a1), (2, .int a2), (3, .int a3), (4, .int a4), (5, .int a5), (6, .int (v_b x6)), (7, .int x7), (8, .int x8), (9, .long x9), (11, .int x11), (12, .int x12), (13, .int (v_b x13)), (14, .long s0)]) C [1, 2, 3, 4, 5, 6, 7, 8, 9, 10, 11, 12, 13, 0] dX11_plays_153 (by decide) rfl ?_
  refine V_iload C 6 dX11_plays_155 rfl ?_
  refine V_ifb_eq (tgt := 165) C dX11_plays_157 (by decide) (fun c => ?_) (fun c => ?_)
  · have h := h.1 c
    refine V_lload C 13 dX11_plays_165 rfl ?_
    refine V_lneg C dX11_plays_167 ?_
    refine V_loc (lv' := [(0, .ref (G.1 143)), (1, .int a1), (2, .int a2), (3, .int a3), (4, .int a4), (5, .int a5), (6, .int (v_b x6)), (7, .int x7), (8, .int x8), (9, .long x9), (11, .int x11), (12, .int x12), (13, .int (v_b x13))]) [0, 1, 2, 3, 4, 5, 6, 7, 8, 9, 10, 11, 12] rfl ?_
    exact q_X11_plays_168 C D hrc hK54 _ _ _ _ _ _ _ _ _ h
  · have h := h.2 c
    refine V_lload C 13 dX11_plays_160 rfl ?_
    refine V_goto (tgt := 168) C dX11_plays_162 (by decide) ?_
    refine V_loc (lv' := [(0, .ref (G.1 143)), (1, .int a1), (2, .int a2), (3, .int a3), (4, .int a4), (5, .int a5), (6, .int (v_b x6)), (7, .int x7), (8, .int x8), (9, .long x9), (11, .int x11), (12, .int x12), (13, .int (v_b x13))]) [0, 1, 2, 3, 4, 5, 6, 7, 8, 9, 10, 11, 12] rfl ?_
    exact q_X11_plays_168 C D hrc hK54 _ _ _ _ _ _ _ _ _ h
set_option maxHeartbeats 4000000 in
set_option maxRecDepth 100000 in
theorem q_X11_plays_127 {X : vX} {G : vG} {f0 l0 : Nat} {post : Int64 → vSt → Prop} (C : v_Cx X G cX11_plays RX11 16 (v_rm (f0 + 5) (l0 + 154))) (D : v_Rx X G (v_Ql G post) (some .long))  {a1 : Int32} {a2 : Int32} {a3 : Int32} {a4 : Int32} {a5 : Int32} {rc : vSt → Int32 → Int32 → Int32 → Int32 → Int32 → (Int64 → vSt → Prop) → Prop} (hrc : ∀ (S : vSt) (a1 : Int32) (a2 : Int32) (a3 : Int32) (a4 : Int32) (a5 : Int32) (post : Int64 → vSt → Prop), rc S a1 a2 a3 a4 a5 post → Met (v_l X) yX11_plays (v_ws yX11_plays cX11_plays 16 (some .long)) (v_rm f0 l0) (v_Pc G [.ref (G.1 143), .int a1, .int a2, .int a3, .int a4, .int a5] S) (v_Ql G post) 0 0 (v_A G)) {K54 : vSt → Bool → Int32 → Int32 → Int64 → Int32 → Int32 → Prop} (hK54 : ∀ S x6 x7 x8 x9 x11 x12, K54 S x6 x7 x8 x9 x11 x12 → VJ X G S 54 [(0, .ref (G.1 143)), (1, .int a1), (2, .int a2), (3, .int a3), (4, .int a4), (5, .int a5), (6, .int (v_b x6)), (7, .int x7), (8, .int x8), (9, .long x9), (11, .int x11), (12, .int x12)] []) : ∀ (S : vSt) (x6 : Bool) (x7 : Int32) (x8 : Int32) (x9 : Int64) (x11 : Int32) (x12 : Int32) (x13 : Bool), p_X11_plays_127 a1 a2 a3 a4 a5 rc K54 post S x6 x7 x8 x9 x11 x12 x13 → VJ X G S 127 [(0, .ref (G.1 143)), (1, .int a1), (2, .int a2), (3, .int a3), (4, .int a4), (5, .int a5), (6, .int (v_b x6)), (7, .int x7), (8, .int x8), (9, .long x9), (11, .int x11), (12, .int x12), (13, .int (v_b x13))] [] := by
  intro S x6 x7 x8 x9 x11 x12 x13 h
  refine V_iload C 12 dX11_plays_127 rfl ?_
  refine V_ifb_eq (tgt := 136) C dX11_plays_129 (by decide) (fun c => ?_) (fun c => ?_)
  · have h := h.1 c
    refine V_aload_n C 0 dX11_plays_136 rfl rfl ?_
    refine V_iload C 7 dX11_plays_137 rfl ?_
    refine V_iload C 11 dX11_plays_139 rfl ?_
    refine V_callVl (As := [.int x7, .int x12]) (rest := []) C (c_X11_gainOf (v_l X) G  _ _ _ h) 143 11 (by decide) (by decide) (by decide) rfl KV_X11_gainOf k_RX11_395 rfl rfl rfl (Nat.le_of_ble_eq_true rfl) ⟨by simp only [v_rm]; omega, by simp only [v_rm]; omega⟩ dX11_plays_141 (fun r42 S41 h => ?_)
    refine V_aload_n C 0 dX11_plays_144 rfl rfl ?_
    refine V_iload C 7 dX11_plays_145 rfl ?_
    refine V_iload C 11 dX11_plays_147 rfl ?_
    refine V_callVl (As := [.int x7, .int x12]) (rest := [.long r42]) C (c_X11_lossOf (v_l X) G  _ _ _ h) 143 11 (by decide) (by decide) (by decide) rfl KV_X11_lossOf k_RX11_398 rfl rfl rfl (Nat.le_of_ble_eq_true rfl) ⟨by simp only [v_rm]; omega, by simp only [v_rm]; omega⟩ dX11_plays_149 (fun r44 S43 h => ?_)
    refine V_ladd C dX11_plays_152 ?_
    exact q_X11_plays_153 C D hrc hK54 _ _ _ _ _ _ _ _ _ h
  · have h := h.2 c
    refine V_lconst (v := 0) C dX11_plays_132 (by decide) ?_
    refine V_goto (tgt := 153) C dX11_plays_133 (by decide) ?_
    exact q_X11_plays_153 C D hrc hK54 _ _ _ _ _ _ _ _ _ h
set_option maxHeartbeats 4000000 in
set_option maxRecDepth 100000 in
theorem q_X11_plays_81 {X : vX} {G : vG} {f0 l0 : Nat} {post : Int64 → vSt → Prop} (C : v_Cx X G cX11_plays RX11 16 (v_rm (f0 + 5) (l0 + 154))) (D : v_Rx X G (v_Ql G post) (some .long))  {a1 : Int32} {a2 : Int32} {a3 : Int32} {a4 : Int32} {a5 : Int32} {rc : vSt → Int32 → Int32 → Int32 → Int32 → Int32 → (Int64 → vSt → Prop) → Prop} (hrc : ∀ (S : vSt) (a1 : Int32) (a2 : Int32) (a3 : Int32) (a4 : Int32) (a5 : Int32) (post : Int64 → vSt → Prop), rc S a1 a2 a3 a4 a5 post → Met (v_l X) yX11_plays (v_ws yX11_plays cX11_plays 16 (some .long)) (v_rm f0 l0) (v_Pc G [.ref (G.1 143), .int a1, .int a2, .int a3, .int a4, .int a5] S) (v_Ql G post) 0 0 (v_A G)) {K54 : vSt → Bool → Int32 → Int32 → Int64 → Int32 → Int32 → Prop} (hK54 : ∀ S x6 x7 x8 x9 x11 x12, K54 S x6 x7 x8 x9 x11 x12 → VJ X G S 54 [(0, .ref (G.1 143)), (1, .int a1), (2, .int a2), (3, .int a3), (4, .int a4), (5, .int a5), (6, .int (v_b x6)), (7, .int x7), (8, .int x8), (9, .long x9), (11, .int x11), (12, .int x12)] []) : ∀ (S : vSt) (x6 : Bool) (x7 : Int32) (x8 : Int32) (x9 : Int64) (x11 : Int32) (x12 : Int32) (s0 : Bool), p_X11_plays_81 a1 a2 a3 a4 a5 rc K54 post S x6 x7 x8 x9 x11 x12 s0 → VJ X G S 81 [(0, .ref (G.1 143)), (1, .int a1), (2, .int a2), (3, .int a3), (4, .int a4), (5, .int a5), (6, .int (v_b x6)), (7, .int x7), (8, .int x8), (9, .long x9), (11, .int x11), (12, .int x12)] [.int (v_b s0)] := by
  intro S x6 x7 x8 x9 x11 x12 s0 h
  refine V_istore (lv' := [(0, .ref (G.1 143)), (1, .int a1), (2, .int a2), (3, .int a3), (4, .int a4), (5, .int a5), (6, .int (v_b x6)), (7, .int x7), (8, .int x8), (9, .long x9), (11, .int x11), (12, .int x12), (13, .int (v_b s0))]) C [1, 2, 3, 4, 5, 6, 7, 8, 9, 10, 11, 12, 0] dX11_plays_81 (by decide) rfl ?_
  refine V_iload C 12 dX11_plays_83 rfl ?_
  refine V_ifb_ne (tgt := 127) C dX11_plays_85 (by decide) (fun c => ?_) (fun c => ?_)
  · have h := h.1 c
    exact q_X11_plays_127 C D hrc hK54 _ _ _ _ _ _ _ _ h
  · have h := h.2 c
    refine V_aload_n C 0 dX11_plays_88 rfl rfl ?_
    refine V_ga C 143 (by decide) (by decide) F_11_20 k_RX11_35 dX11_plays_89 ?_
    refine V_bipush (v := 48) C dX11_plays_92 (by decide) ?_
    refine V_iload C 11 dX11_plays_94 rfl ?_
    refine V_iadd C dX11_plays_96 ?_
    obtain ⟨hi, h⟩ := h
    refine V_iald C 148 1900 (by decide) (by decide) hi dX11_plays_97 ?_
    refine V_iload C 8 dX11_plays_98 rfl ?_
    refine V_icmp_ne (tgt := 239) C dX11_plays_100 (by decide) (fun c => ?_) (fun c => ?_)
    · have h := h.1 c
      refine V_loc (lv' := [(0, .ref (G.1 143)), (1, .int a1), (2, .int a2), (3, .int a3), (4, .int a4), (5, .int a5), (6, .int (v_b x6)), (7, .int x7), (8, .int x8), (9, .long x9), (11, .int x11), (12, .int x12)]) [0, 1, 2, 3, 4, 5, 6, 7, 8, 9, 10, 11] rfl ?_
      exact q_X11_plays_239 C D hrc hK54 _ _ _ _ _ _ _ h
    · have h := h.2 c
      refine V_iload C 5 dX11_plays_103 rfl ?_
      refine V_iload C 11 dX11_plays_105 rfl ?_
      refine V_callSz (As := [.int a5, .int x12]) (rest := []) C (c_X11_has (v_l X) G  _ _ _ h) KV_X11_has k_RX11_99 rfl rfl rfl (Nat.le_of_ble_eq_true rfl) ⟨by simp only [v_rm]; omega, by simp only [v_rm]; omega⟩ dX11_plays_107 (fun r42 S41 h => ?_)
      refine V_ifb_ne (tgt := 239) C dX11_plays_110 (by decide) (fun c => ?_) (fun c => ?_)
      · have h := h.1 c
        refine V_loc (lv' := [(0, .ref (G.1 143)), (1, .int a1), (2, .int a2), (3, .int a3), (4, .int a4), (5, .int a5), (6, .int (v_b x6)), (7, .int x7), (8, .int x8), (9, .long x9), (11, .int x11), (12, .int x12)]) [0, 1, 2, 3, 4, 5, 6, 7, 8, 9, 10, 11] rfl ?_
        exact q_X11_plays_239 C D hrc hK54 _ _ _ _ _ _ _ h
      · have h := h.2 c
        refine V_aload_n C 0 dX11_plays_113 rfl rfl ?_
        refine V_iload C 7 dX11_plays_114 rfl ?_
        refine V_iload C 11 dX11_plays_116 rfl ?_
        refine V_callVz (As := [.int x7, .int x12]) (rest := []) C (c_X11_canCharge (v_l X) G  _ _ _ h) 143 11 (by decide) (by decide) (by decide) rfl KV_X11_canCharge k_RX11_338 rfl rfl rfl (Nat.le_of_ble_eq_true rfl) ⟨by simp only [v_rm]; omega, by simp only [v_rm]; omega⟩ dX11_plays_118 (fun r44 S43 h => ?_)
        refine V_ifb_ne (tgt := 127) C dX11_plays_121 (by decide) (fun c => ?_) (fun c => ?_)
        · have h := h.1 c
          exact q_X11_plays_127 C D hrc hK54 _ _ _ _ _ _ _ _ h
        · have h := h.2 c
          refine V_goto (tgt := 239) C dX11_plays_124 (by decide) ?_
          refine V_loc (lv' := [(0, .ref (G.1 143)), (1, .int a1), (2, .int a2), (3, .int a3), (4, .int a4), (5, .int a5), (6, .int (v_b x6)), (7, .int x7), (8, .int x8), (9, .long x9), (11, .int x11), (12, .int x12)]) [0, 1, 2, 3, 4, 5, 6, 7, 8, 9, 10, 11] rfl ?_
          exact q_X11_plays_239 C D hrc hK54 _ _ _ _ _ _ _ h
set_option maxHeartbeats 4000000 in
set_option maxRecDepth 100000 in
theorem q_X11_plays_54 {X : vX} {G : vG} {f0 l0 : Nat} {post : Int64 → vSt → Prop} (C : v_Cx X G cX11_plays RX11 16 (v_rm (f0 + 5) (l0 + 154))) (D : v_Rx X G (v_Ql G post) (some .long))  {a1 : Int32} {a2 : Int32} {a3 : Int32} {a4 : Int32} {a5 : Int32} {rc : vSt → Int32 → Int32 → Int32 → Int32 → Int32 → (Int64 → vSt → Prop) → Prop} (hrc : ∀ (S : vSt) (a1 : Int32) (a2 : Int32) (a3 : Int32) (a4 : Int32) (a5 : Int32) (post : Int64 → vSt → Prop), rc S a1 a2 a3 a4 a5 post → Met (v_l X) yX11_plays (v_ws yX11_plays cX11_plays 16 (some .long)) (v_rm f0 l0) (v_Pc G [.ref (G.1 143), .int a1, .int a2, .int a3, .int a4, .int a5] S) (v_Ql G post) 0 0 (v_A G))  : ∀ (fu : Nat) (S : vSt) (x6 : Bool) (x7 : Int32) (x8 : Int32) (x9 : Int64) (x11 : Int32) (x12 : Int32), p_X11_plays_54 a1 a2 a3 a4 a5 rc post fu S x6 x7 x8 x9 x11 x12 → VJ X G S 54 [(0, .ref (G.1 143)), (1, .int a1), (2, .int a2), (3, .int a3), (4, .int a4), (5, .int a5), (6, .int (v_b x6)), (7, .int x7), (8, .int x8), (9, .long x9), (11, .int x11), (12, .int x12)] [] := by
  intro fu
  induction fu with
  | zero => intro S x6 x7 x8 x9 x11 x12 h; exact absurd h id
  | succ fu ih =>
    intro S x6 x7 x8 x9 x11 x12 h
    have hK54 := ih
    rw [e_X11_plays_54] at h
    refine V_iload C 11 dX11_plays_54 rfl ?_
    refine V_aload_n C 0 dX11_plays_56 rfl rfl ?_
    refine V_ga C 143 (by decide) (by decide) F_11_20 k_RX11_35 dX11_plays_57 ?_
    refine V_iconst (v := 1) C dX11_plays_60 (by decide) ?_
    obtain ⟨hi, h⟩ := h
    refine V_iald C 148 1900 (by decide) (by decide) hi dX11_plays_61 ?_
    refine V_icmp_gt (tgt := 245) C dX11_plays_62 (by decide) (fun c => ?_) (fun c => ?_)
    · have h := h.1 c
      refine V_iload_n C 3 dX11_plays_245 rfl rfl ?_
      refine V_if_ne (tgt := 255) C dX11_plays_246 (by decide) (fun c => ?_) (fun c => ?_)
      · have h := h.1 c
        refine V_lload C 9 dX11_plays_255 rfl ?_
        exact V_lret C D dX11_plays_257 h
      · have h := h.2 c
        refine V_aload_n C 0 dX11_plays_249 rfl rfl ?_
        refine V_iload C 10 dX11_plays_250 rfl ?_
        refine V_pi C 143 (by decide) (by decide) P_11_29 k_RX11_422 dX11_plays_252 ?_
        refine V_topS (fun S40 eS40 => ?_)
        have h := h S40 eS40
        refine V_lload C 9 dX11_plays_255 rfl ?_
        exact V_lret C D dX11_plays_257 h
    · have h := h.2 c
      refine V_iload C 11 dX11_plays_65 rfl ?_
      refine V_aload_n C 0 dX11_plays_67 rfl rfl ?_
      refine V_ga C 143 (by decide) (by decide) F_11_20 k_RX11_35 dX11_plays_68 ?_
      refine V_iconst (v := 1) C dX11_plays_71 (by decide) ?_
      obtain ⟨hi, h⟩ := h
      refine V_iald C 148 1900 (by decide) (by decide) hi dX11_plays_72 ?_
      refine V_icmp_ne (tgt := 80) C dX11_plays_73 (by decide) (fun c => ?_) (fun c => ?_)
      · have h := h.1 c
        refine V_iconst (v := 0) C dX11_plays_80 (by decide) ?_
        exact q_X11_plays_81 C D hrc hK54 _ _ _ _ _ _ _ _ h
      · have h := h.2 c
        refine V_iconst (v := 1) C dX11_plays_76 (by decide) ?_
        refine V_goto (tgt := 81) C dX11_plays_77 (by decide) ?_
        exact q_X11_plays_81 C D hrc hK54 _ _ _ _ _ _ _ _ h
set_option maxHeartbeats 4000000 in
set_option maxRecDepth 100000 in
theorem q_X11_plays_43 {X : vX} {G : vG} {f0 l0 : Nat} {post : Int64 → vSt → Prop} (C : v_Cx X G cX11_plays RX11 16 (v_rm (f0 + 5) (l0 + 154))) (D : v_Rx X G (v_Ql G post) (some .long))  {a1 : Int32} {a2 : Int32} {a3 : Int32} {a4 : Int32} {a5 : Int32} {rc : vSt → Int32 → Int32 → Int32 → Int32 → Int32 → (Int64 → vSt → Prop) → Prop} (hrc : ∀ (S : vSt) (a1 : Int32) (a2 : Int32) (a3 : Int32) (a4 : Int32) (a5 : Int32) (post : Int64 → vSt → Prop), rc S a1 a2 a3 a4 a5 post → Met (v_l X) yX11_plays (v_ws yX11_plays cX11_plays 16 (some .long)) (v_rm f0 l0) (v_Pc G [.ref (G.1 143), .int a1, .int a2, .int a3, .int a4, .int a5] S) (v_Ql G post) 0 0 (v_A G))  : ∀ (S : vSt) (x6 : Bool) (x7 : Int32) (s0 : Int32), p_X11_plays_43 a1 a2 a3 a4 a5 rc post S x6 x7 s0 → VJ X G S 43 [(0, .ref (G.1 143)), (1, .int a1), (2, .int a2), (3, .int a3), (4, .int a4), (5, .int a5), (6, .int (v_b x6)), (7, .int x7)] [.int s0] := by
  intro S x6 x7 s0 h
  refine V_istore (lv' := [(0, .ref (G.1 143)), (1, .int a1), (2, .int a2), (3, .int a3), (4, .int a4), (5, .int a5), (6, .int (v_b x6)), (7, .int x7), (8, .int s0)]) C [1, 2, 3, 4, 5, 6, 7, 8, 0] dX11_plays_43 (by decide) rfl ?_
  refine V_lconst (v := 0) C dX11_plays_45 (by decide) ?_
  refine V_lstore (lv' := [(0, .ref (G.1 143)), (1, .int a1), (2, .int a2), (3, .int a3), (4, .int a4), (5, .int a5), (6, .int (v_b x6)), (7, .int x7), (8, .int s0), (9, .long 0)]) C [1, 2, 3, 4, 5, 6, 7, 8, 9, 0] dX11_plays_46 (by decide) rfl ?_
  refine V_iconst (v := (-1)) C dX11_plays_48 (by decide) ?_
  refine V_istore (lv' := [(0, .ref (G.1 143)), (1, .int a1), (2, .int a2), (3, .int a3), (4, .int a4), (5, .int a5), (6, .int (v_b x6)), (7, .int x7), (8, .int s0), (9, .long 0), (11, .int (-1))]) C [1, 2, 3, 4, 5, 6, 7, 8, 9, 10, 0] dX11_plays_49 (by decide) rfl ?_
  refine V_iconst (v := 0) C dX11_plays_51 (by decide) ?_
  refine V_istore (lv' := [(0, .ref (G.1 143)), (1, .int a1), (2, .int a2), (3, .int a3), (4, .int a4), (5, .int a5), (6, .int (v_b x6)), (7, .int x7), (8, .int s0), (9, .long 0), (11, .int (-1)), (12, .int 0)]) C [1, 2, 3, 4, 5, 6, 7, 8, 9, 10, 11, 0] dX11_plays_52 (by decide) rfl ?_
  obtain ⟨fu54, h⟩ := h
  exact q_X11_plays_54 C D hrc fu54 _ _ _ _ _ _ _ h
set_option maxHeartbeats 4000000 in
set_option maxRecDepth 100000 in
theorem q_X11_plays_31 {X : vX} {G : vG} {f0 l0 : Nat} {post : Int64 → vSt → Prop} (C : v_Cx X G cX11_plays RX11 16 (v_rm (f0 + 5) (l0 + 154))) (D : v_Rx X G (v_Ql G post) (some .long))  {a1 : Int32} {a2 : Int32} {a3 : Int32} {a4 : Int32} {a5 : Int32} {rc : vSt → Int32 → Int32 → Int32 → Int32 → Int32 → (Int64 → vSt → Prop) → Prop} (hrc : ∀ (S : vSt) (a1 : Int32) (a2 : Int32) (a3 : Int32) (a4 : Int32) (a5 : Int32) (post : Int64 → vSt → Prop), rc S a1 a2 a3 a4 a5 post → Met (v_l X) yX11_plays (v_ws yX11_plays cX11_plays 16 (some .long)) (v_rm f0 l0) (v_Pc G [.ref (G.1 143), .int a1, .int a2, .int a3, .int a4, .int a5] S) (v_Ql G post) 0 0 (v_A G))  : ∀ (S : vSt) (x6 : Bool) (s0 : Int32), p_X11_plays_31 a1 a2 a3 a4 a5 rc post S x6 s0 → VJ X G S 31 [(0, .ref (G.1 143)), (1, .int a1), (2, .int a2), (3, .int a3), (4, .int a4), (5, .int a5), (6, .int (v_b x6))] [.int s0] := by
  intro S x6 s0 h
  refine V_istore (lv' := [(0, .ref (G.1 143)), (1, .int a1), (2, .int a2), (3, .int a3), (4, .int a4), (5, .int a5), (6, .int (v_b x6)), (7, .int s0)]) C [1, 2, 3, 4, 5, 6, 7, 0] dX11_plays_31 (by decide) rfl ?_
  refine V_iload C 6 dX11_plays_33 rfl ?_
  refine V_ifb_eq (tgt := 42) C dX11_plays_35 (by decide) (fun c => ?_) (fun c => ?_)
  · have h := h.1 c
    refine V_iload_n C 1 dX11_plays_42 rfl rfl ?_
    exact q_X11_plays_43 C D hrc _ _ _ _ h
  · have h := h.2 c
    refine V_iload_n C 2 dX11_plays_38 rfl rfl ?_
    refine V_goto (tgt := 43) C dX11_plays_39 (by decide) ?_
    exact q_X11_plays_43 C D hrc _ _ _ _ h
set_option maxHeartbeats 4000000 in
set_option maxRecDepth 100000 in
theorem q_X11_plays_19 {X : vX} {G : vG} {f0 l0 : Nat} {post : Int64 → vSt → Prop} (C : v_Cx X G cX11_plays RX11 16 (v_rm (f0 + 5) (l0 + 154))) (D : v_Rx X G (v_Ql G post) (some .long))  {a1 : Int32} {a2 : Int32} {a3 : Int32} {a4 : Int32} {a5 : Int32} {rc : vSt → Int32 → Int32 → Int32 → Int32 → Int32 → (Int64 → vSt → Prop) → Prop} (hrc : ∀ (S : vSt) (a1 : Int32) (a2 : Int32) (a3 : Int32) (a4 : Int32) (a5 : Int32) (post : Int64 → vSt → Prop), rc S a1 a2 a3 a4 a5 post → Met (v_l X) yX11_plays (v_ws yX11_plays cX11_plays 16 (some .long)) (v_rm f0 l0) (v_Pc G [.ref (G.1 143), .int a1, .int a2, .int a3, .int a4, .int a5] S) (v_Ql G post) 0 0 (v_A G))  : ∀ (S : vSt) (s0 : Bool), p_X11_plays_19 a1 a2 a3 a4 a5 rc post S s0 → VJ X G S 19 [(0, .ref (G.1 143)), (1, .int a1), (2, .int a2), (3, .int a3), (4, .int a4), (5, .int a5)] [.int (v_b s0)] := by
  intro S s0 h
  refine V_istore (lv' := [(0, .ref (G.1 143)), (1, .int a1), (2, .int a2), (3, .int a3), (4, .int a4), (5, .int a5), (6, .int (v_b s0))]) C [1, 2, 3, 4, 5, 6, 0] dX11_plays_19 (by decide) rfl ?_
  refine V_iload C 6 dX11_plays_21 rfl ?_
  refine V_ifb_eq (tgt := 30) C dX11_plays_23 (by decide) (fun c => ?_) (fun c => ?_)
  · have h := h.1 c
    refine V_iload_n C 2 dX11_plays_30 rfl rfl ?_
    exact q_X11_plays_31 C D hrc _ _ _ h
  · have h := h.2 c
    refine V_iload_n C 1 dX11_plays_26 rfl rfl ?_
    refine V_goto (tgt := 31) C dX11_plays_27 (by decide) ?_
    exact q_X11_plays_31 C D hrc _ _ _ h
set_option maxHeartbeats 4000000 in
set_option maxRecDepth 100000 in
theorem co_X11_plays (l : Launch) (G : vG) {f0 l0 : Nat}  {rc : vSt → Int32 → Int32 → Int32 → Int32 → Int32 → (Int64 → vSt → Prop) → Prop} (hrc : ∀ (S : vSt) (a1 : Int32) (a2 : Int32) (a3 : Int32) (a4 : Int32) (a5 : Int32) (post : Int64 → vSt → Prop), rc S a1 a2 a3 a4 a5 post → Met l yX11_plays (v_ws yX11_plays cX11_plays 16 (some .long)) (v_rm f0 l0) (v_Pc G [.ref (G.1 143), .int a1, .int a2, .int a3, .int a4, .int a5] S) (v_Ql G post) 0 0 (v_A G)) {S : vSt} (a1 : Int32) (a2 : Int32) (a3 : Int32) (a4 : Int32) (a5 : Int32) (post : Int64 → vSt → Prop) (h : pb_X11_plays  rc S a1 a2 a3 a4 a5 post) : Met l yX11_plays (v_ws yX11_plays cX11_plays 16 (some .long)) (v_rm (f0 + 5) (l0 + 154)) (v_Pc G [.ref (G.1 143), .int a1, .int a2, .int a3, .int a4, .int a5] S) (v_Ql G post) 0 0 (v_A G) := by
  refine v_start (by decide +kernel) (Nat.le_of_ble_eq_true rfl) (fun X hl C D => ?_)
  subst hl
  have C : v_Cx X G cX11_plays RX11 16 (v_rm (f0 + 5) (l0 + 154)) := C
  show VJ X G S 0 [(0, .ref (G.1 143)), (1, .int a1), (2, .int a2), (3, .int a3), (4, .int a4), (5, .int a5)] []
  refine V_iload_n C 3 dX11_plays_0 rfl rfl ?_
  refine V_iload C 4 dX11_plays_1 rfl ?_
  refine V_icmp_ne (tgt := 8) C dX11_plays_3 (by decide) (fun c => ?_) (fun c => ?_)
  · have h := h.1 c
    refine V_iload_n C 3 dX11_plays_8 rfl rfl ?_
    refine V_iconst (v := 2) C dX11_plays_9 (by decide) ?_
    refine V_irem C dX11_plays_10 (by decide) ?_
    refine V_if_ne (tgt := 18) C dX11_plays_11 (by decide) (fun c => ?_) (fun c => ?_)
    · have h := h.1 c
      refine V_iconst (v := 0) C dX11_plays_18 (by decide) ?_
      exact q_X11_plays_19 C D hrc _ _ h
    · have h := h.2 c
      refine V_iconst (v := 1) C dX11_plays_14 (by decide) ?_
      refine V_goto (tgt := 19) C dX11_plays_15 (by decide) ?_
      exact q_X11_plays_19 C D hrc _ _ h
  · have h := h.2 c
    refine V_lconst (v := 0) C dX11_plays_6 (by decide) ?_
    exact V_lret C D dX11_plays_7 h
def p_X11_plays : Nat → vSt → Int32 → Int32 → Int32 → Int32 → Int32 → (Int64 → vSt → Prop) → Prop
  | 0 => fun _ _ _ _ _ _ _ => False
  | d + 1 => fun S a1 a2 a3 a4 a5 post => pb_X11_plays (p_X11_plays d) S a1 a2 a3 a4 a5 post
theorem c_X11_plays (d : Nat) : ∀ (l : Launch) (G : vG) {S : vSt} (a1 : Int32) (a2 : Int32) (a3 : Int32) (a4 : Int32) (a5 : Int32) (post : Int64 → vSt → Prop) (h : p_X11_plays d S a1 a2 a3 a4 a5 post), Met l yX11_plays (v_ws yX11_plays cX11_plays 16 (some .long)) (v_rm (5 * d) (154 * d)) (v_Pc G [.ref (G.1 143), .int a1, .int a2, .int a3, .int a4, .int a5] S) (v_Ql G post) 0 0 (v_A G) := by
  induction d with
  | zero => intro l G S a1 a2 a3 a4 a5 post h; exact absurd h id
  | succ d ih =>
    intro l G S a1 a2 a3 a4 a5 post h
    exact co_X11_plays l G (rc := p_X11_plays d) (f0 := 5 * d) (l0 := 154 * d) (fun S a1 a2 a3 a4 a5 post h => ih l G a1 a2 a3 a4 a5 post h) a1 a2 a3 a4 a5 post h
/-! HalfAccuserModel.game(III)Z -/
theorem dX11_game_0 : decode cX11_game 0 = .ok ((.aload_n 0), 1) := by decide +kernel
theorem dX11_game_1 : decode cX11_game 1 = .ok ((.iconst 0), 1) := by decide +kernel
theorem dX11_game_2 : decode cX11_game 2 = .ok ((.putfield 60), 3) := by decide +kernel
theorem dX11_game_5 : decode cX11_game 5 = .ok ((.aload_n 0), 1) := by decide +kernel
theorem dX11_game_6 : decode cX11_game 6 = .ok ((.aload_n 0), 1) := by decide +kernel
theorem dX11_game_7 : decode cX11_game 7 = .ok ((.iload_n 1), 1) := by decide +kernel
theorem dX11_game_8 : decode cX11_game 8 = .ok ((.iload_n 2), 1) := by decide +kernel
theorem dX11_game_9 : decode cX11_game 9 = .ok ((.iload_n 3), 1) := by decide +kernel
theorem dX11_game_10 : decode cX11_game 10 = .ok ((.iconst 0), 1) := by decide +kernel
theorem dX11_game_11 : decode cX11_game 11 = .ok ((.invokevirtual 425), 3) := by decide +kernel
theorem dX11_game_14 : decode cX11_game 14 = .ok ((.putfield 63), 3) := by decide +kernel
theorem dX11_game_17 : decode cX11_game 17 = .ok ((.aload_n 0), 1) := by decide +kernel
theorem dX11_game_18 : decode cX11_game 18 = .ok ((.getfield 63), 3) := by decide +kernel
theorem dX11_game_21 : decode cX11_game 21 = .ok ((.ifCond .ne 27), 3) := by decide +kernel
theorem dX11_game_24 : decode cX11_game 24 = .ok ((.aload_n 0), 1) := by decide +kernel
theorem dX11_game_25 : decode cX11_game 25 = .ok ((.aload_n 0), 1) := by decide +kernel
theorem dX11_game_26 : decode cX11_game 26 = .ok ((.iload_n 1), 1) := by decide +kernel
theorem dX11_game_27 : decode cX11_game 27 = .ok ((.iload_n 2), 1) := by decide +kernel
theorem dX11_game_28 : decode cX11_game 28 = .ok ((.iconst 0), 1) := by decide +kernel
theorem dX11_game_29 : decode cX11_game 29 = .ok ((.iload_n 3), 1) := by decide +kernel
theorem dX11_game_30 : decode cX11_game 30 = .ok ((.iconst 0), 1) := by decide +kernel
theorem dX11_game_31 : decode cX11_game 31 = .ok ((.invokevirtual 418), 3) := by decide +kernel
theorem dX11_game_34 : decode cX11_game 34 = .ok ((.aload_n 0), 1) := by decide +kernel
theorem dX11_game_35 : decode cX11_game 35 = .ok ((.invokevirtual 384), 3) := by decide +kernel
theorem dX11_game_38 : decode cX11_game 38 = .ok ((.invokevirtual 388), 3) := by decide +kernel
theorem dX11_game_41 : decode cX11_game 41 = .ok ((.ifCond .eq 7), 3) := by decide +kernel
theorem dX11_game_44 : decode cX11_game 44 = .ok ((.iconst 1), 1) := by decide +kernel
theorem dX11_game_45 : decode cX11_game 45 = .ok ((.goto 4), 3) := by decide +kernel
theorem dX11_game_48 : decode cX11_game 48 = .ok ((.iconst 0), 1) := by decide +kernel
theorem dX11_game_49 : decode cX11_game 49 = .ok (.ireturn, 1) := by decide +kernel
def p_X11_game   (S : vSt) (a1 : Int32) (a2 : Int32) (a3 : Int32) (post : Bool → vSt → Prop) : Prop := ∀ S11, S11 = v_si S 143 1 0 → p_X11_whyNoGame  S11 a1 a2 a3 0 (fun r13 S12 => ∀ S14, S14 = v_si S12 143 0 r13 → ((¬ (S14.1 143 0) = 0 → post false S14) ∧ ((S14.1 143 0) = 0 → p_X11_plays 6 S14 a1 a2 0 a3 0 (fun r16 S15 => p_X11_allVotes  S15  (fun r18 S17 => p_X11_fraction  S17 r16 r18 (fun r20 S19 => ((r20 = false → post false S19) ∧ (r20 = true → post true S19))))))))
set_option maxHeartbeats 4000000 in
set_option maxRecDepth 100000 in
theorem c_X11_game (l : Launch) (G : vG)    {S : vSt} (a1 : Int32) (a2 : Int32) (a3 : Int32) (post : Bool → vSt → Prop) (h : p_X11_game   S a1 a2 a3 post) : Met l yX11_game (v_ws yX11_game cX11_game 4 (some .boolean)) (v_rm 31 959) (v_Pc G [.ref (G.1 143), .int a1, .int a2, .int a3] S) (v_Qz G post) 0 0 (v_A G) := by
  refine v_start (by decide +kernel) (Nat.le_of_ble_eq_true rfl) (fun X hl C D => ?_)
  subst hl
  have C : v_Cx X G cX11_game RX11 4 (v_rm 31 959) := C
  show VJ X G S 0 [(0, .ref (G.1 143)), (1, .int a1), (2, .int a2), (3, .int a3)] []
  refine V_aload_n C 0 dX11_game_0 rfl rfl ?_
  refine V_iconst (v := 0) C dX11_game_1 (by decide) ?_
  refine V_pi C 143 (by decide) (by decide) P_11_1 k_RX11_60 dX11_game_2 ?_
  refine V_topS (fun S11 eS11 => ?_)
  have h := h S11 eS11
  refine V_aload_n C 0 dX11_game_5 rfl rfl ?_
  refine V_aload_n C 0 dX11_game_6 rfl rfl ?_
  refine V_iload_n C 1 dX11_game_7 rfl rfl ?_
  refine V_iload_n C 2 dX11_game_8 rfl rfl ?_
  refine V_iload_n C 3 dX11_game_9 rfl rfl ?_
  refine V_iconst (v := 0) C dX11_game_10 (by decide) ?_
  refine V_callVi (As := [.int a1, .int a2, .int a3, .int 0]) (rest := [.ref (G.1 143)]) C (c_X11_whyNoGame (v_l X) G  _ _ _ _ _ h) 143 11 (by decide) (by decide) (by decide) rfl KV_X11_whyNoGame k_RX11_425 rfl rfl rfl (Nat.le_of_ble_eq_true rfl) ⟨Nat.le_of_ble_eq_true rfl, Nat.le_of_ble_eq_true rfl⟩ dX11_game_11 (fun r13 S12 h => ?_)
  refine V_pi C 143 (by decide) (by decide) P_11_0 k_RX11_63 dX11_game_14 ?_
  refine V_topS (fun S14 eS14 => ?_)
  have h := h S14 eS14
  refine V_aload_n C 0 dX11_game_17 rfl rfl ?_
  refine V_gi C 143 (by decide) (by decide) F_11_0 k_RX11_63 dX11_game_18 ?_
  refine V_if_ne (tgt := 48) C dX11_game_21 (by decide) (fun c => ?_) (fun c => ?_)
  · have h := h.1 c
    refine V_iconst (v := 0) C dX11_game_48 (by decide) ?_
    exact V_zret0 C D dX11_game_49 h
  · have h := h.2 c
    refine V_aload_n C 0 dX11_game_24 rfl rfl ?_
    refine V_aload_n C 0 dX11_game_25 rfl rfl ?_
    refine V_iload_n C 1 dX11_game_26 rfl rfl ?_
    refine V_iload_n C 2 dX11_game_27 rfl rfl ?_
    refine V_iconst (v := 0) C dX11_game_28 (by decide) ?_
    refine V_iload_n C 3 dX11_game_29 rfl rfl ?_
    refine V_iconst (v := 0) C dX11_game_30 (by decide) ?_
    refine V_callVl (As := [.int a1, .int a2, .int 0, .int a3, .int 0]) (rest := [.ref (G.1 143)]) C (c_X11_plays 6 (v_l X) G  _ _ _ _ _ _ h) 143 11 (by decide) (by decide) (by decide) rfl KV_X11_plays k_RX11_418 rfl rfl rfl (Nat.le_of_ble_eq_true rfl) ⟨Nat.le_of_ble_eq_true rfl, Nat.le_of_ble_eq_true rfl⟩ dX11_game_31 (fun r16 S15 h => ?_)
    refine V_aload_n C 0 dX11_game_34 rfl rfl ?_
    refine V_callVl (As := []) (rest := [.long r16, .ref (G.1 143)]) C (c_X11_allVotes (v_l X) G  _ h) 143 11 (by decide) (by decide) (by decide) rfl KV_X11_allVotes k_RX11_384 rfl rfl rfl (Nat.le_of_ble_eq_true rfl) ⟨Nat.le_of_ble_eq_true rfl, Nat.le_of_ble_eq_true rfl⟩ dX11_game_35 (fun r18 S17 h => ?_)
    refine V_callVz (As := [.long r16, .long r18]) (rest := []) C (c_X11_fraction (v_l X) G  _ _ _ h) 143 11 (by decide) (by decide) (by decide) rfl KV_X11_fraction k_RX11_388 rfl rfl rfl (Nat.le_of_ble_eq_true rfl) ⟨Nat.le_of_ble_eq_true rfl, Nat.le_of_ble_eq_true rfl⟩ dX11_game_38 (fun r20 S19 h => ?_)
    refine V_ifb_eq (tgt := 48) C dX11_game_41 (by decide) (fun c => ?_) (fun c => ?_)
    · have h := h.1 c
      refine V_iconst (v := 0) C dX11_game_48 (by decide) ?_
      exact V_zret0 C D dX11_game_49 h
    · have h := h.2 c
      refine V_iconst (v := 1) C dX11_game_44 (by decide) ?_
      refine V_goto (tgt := 49) C dX11_game_45 (by decide) ?_
      exact V_zret1 C D dX11_game_49 h
/-! HalfAccuserModel.moveOf(III)I -/
theorem dX11_moveOf_0 : decode cX11_moveOf 0 = .ok ((.aload_n 0), 1) := by decide +kernel
theorem dX11_moveOf_1 : decode cX11_moveOf 1 = .ok ((.iconst 0), 1) := by decide +kernel
theorem dX11_moveOf_2 : decode cX11_moveOf 2 = .ok ((.putfield 60), 3) := by decide +kernel
theorem dX11_moveOf_5 : decode cX11_moveOf 5 = .ok ((.aload_n 0), 1) := by decide +kernel
theorem dX11_moveOf_6 : decode cX11_moveOf 6 = .ok ((.aload_n 0), 1) := by decide +kernel
theorem dX11_moveOf_7 : decode cX11_moveOf 7 = .ok ((.iload_n 1), 1) := by decide +kernel
theorem dX11_moveOf_8 : decode cX11_moveOf 8 = .ok ((.iload_n 2), 1) := by decide +kernel
theorem dX11_moveOf_9 : decode cX11_moveOf 9 = .ok ((.iload_n 3), 1) := by decide +kernel
theorem dX11_moveOf_10 : decode cX11_moveOf 10 = .ok ((.iconst 1), 1) := by decide +kernel
theorem dX11_moveOf_11 : decode cX11_moveOf 11 = .ok ((.invokevirtual 425), 3) := by decide +kernel
theorem dX11_moveOf_14 : decode cX11_moveOf 14 = .ok ((.putfield 63), 3) := by decide +kernel
theorem dX11_moveOf_17 : decode cX11_moveOf 17 = .ok ((.aload_n 0), 1) := by decide +kernel
theorem dX11_moveOf_18 : decode cX11_moveOf 18 = .ok ((.getfield 63), 3) := by decide +kernel
theorem dX11_moveOf_21 : decode cX11_moveOf 21 = .ok ((.ifCond .le 5), 3) := by decide +kernel
theorem dX11_moveOf_24 : decode cX11_moveOf 24 = .ok ((.iconst (-1)), 1) := by decide +kernel
theorem dX11_moveOf_25 : decode cX11_moveOf 25 = .ok (.ireturn, 1) := by decide +kernel
theorem dX11_moveOf_26 : decode cX11_moveOf 26 = .ok ((.aload_n 0), 1) := by decide +kernel
theorem dX11_moveOf_27 : decode cX11_moveOf 27 = .ok ((.iload_n 1), 1) := by decide +kernel
theorem dX11_moveOf_28 : decode cX11_moveOf 28 = .ok ((.iload_n 2), 1) := by decide +kernel
theorem dX11_moveOf_29 : decode cX11_moveOf 29 = .ok ((.iconst 0), 1) := by decide +kernel
theorem dX11_moveOf_30 : decode cX11_moveOf 30 = .ok ((.iload_n 3), 1) := by decide +kernel
theorem dX11_moveOf_31 : decode cX11_moveOf 31 = .ok ((.iconst 0), 1) := by decide +kernel
theorem dX11_moveOf_32 : decode cX11_moveOf 32 = .ok ((.invokevirtual 418), 3) := by decide +kernel
theorem dX11_moveOf_35 : decode cX11_moveOf 35 = .ok (.pop2, 1) := by decide +kernel
theorem dX11_moveOf_36 : decode cX11_moveOf 36 = .ok ((.aload_n 0), 1) := by decide +kernel
theorem dX11_moveOf_37 : decode cX11_moveOf 37 = .ok ((.getfield 422), 3) := by decide +kernel
theorem dX11_moveOf_40 : decode cX11_moveOf 40 = .ok ((.aload_n 0), 1) := by decide +kernel
theorem dX11_moveOf_41 : decode cX11_moveOf 41 = .ok ((.getfield 35), 3) := by decide +kernel
theorem dX11_moveOf_44 : decode cX11_moveOf 44 = .ok ((.iconst 1), 1) := by decide +kernel
theorem dX11_moveOf_45 : decode cX11_moveOf 45 = .ok (.iaload, 1) := by decide +kernel
theorem dX11_moveOf_46 : decode cX11_moveOf 46 = .ok ((.if_icmp .ne 12), 3) := by decide +kernel
theorem dX11_moveOf_49 : decode cX11_moveOf 49 = .ok ((.aload_n 0), 1) := by decide +kernel
theorem dX11_moveOf_50 : decode cX11_moveOf 50 = .ok ((.bipush 8), 2) := by decide +kernel
theorem dX11_moveOf_52 : decode cX11_moveOf 52 = .ok ((.invokevirtual 303), 3) := by decide +kernel
theorem dX11_moveOf_55 : decode cX11_moveOf 55 = .ok ((.goto 7), 3) := by decide +kernel
theorem dX11_moveOf_58 : decode cX11_moveOf 58 = .ok ((.aload_n 0), 1) := by decide +kernel
theorem dX11_moveOf_59 : decode cX11_moveOf 59 = .ok ((.getfield 422), 3) := by decide +kernel
theorem dX11_moveOf_62 : decode cX11_moveOf 62 = .ok (.ireturn, 1) := by decide +kernel
def p_X11_moveOf   (S : vSt) (a1 : Int32) (a2 : Int32) (a3 : Int32) (post : Int32 → vSt → Prop) : Prop := ∀ S9, S9 = v_si S 143 1 0 → p_X11_whyNoGame  S9 a1 a2 a3 1 (fun r11 S10 => ∀ S12, S12 = v_si S10 143 0 r11 → (((S12.1 143 0) ≤ 0 → p_X11_plays 6 S12 a1 a2 0 a3 0 (fun r14 S13 => (vp_in 1 1900 ∧ ((¬ (S13.1 143 29) = (S13.1 148 (Int32.toNatClampNeg 1)) → post (S13.1 143 29) S13) ∧ ((S13.1 143 29) = (S13.1 148 (Int32.toNatClampNeg 1)) → p_X11_refuse  S13 8 (fun r16 S15 => post r16 S15)))))) ∧ (¬ (S12.1 143 0) ≤ 0 → post (-1) S12)))
set_option maxHeartbeats 4000000 in
set_option maxRecDepth 100000 in
theorem c_X11_moveOf (l : Launch) (G : vG)    {S : vSt} (a1 : Int32) (a2 : Int32) (a3 : Int32) (post : Int32 → vSt → Prop) (h : p_X11_moveOf   S a1 a2 a3 post) : Met l yX11_moveOf (v_ws yX11_moveOf cX11_moveOf 4 (some .int)) (v_rm 31 959) (v_Pc G [.ref (G.1 143), .int a1, .int a2, .int a3] S) (v_Qi G post) 0 0 (v_A G) := by
  refine v_start (by decide +kernel) (Nat.le_of_ble_eq_true rfl) (fun X hl C D => ?_)
  subst hl
  have C : v_Cx X G cX11_moveOf RX11 4 (v_rm 31 959) := C
  show VJ X G S 0 [(0, .ref (G.1 143)), (1, .int a1), (2, .int a2), (3, .int a3)] []
  refine V_aload_n C 0 dX11_moveOf_0 rfl rfl ?_
  refine V_iconst (v := 0) C dX11_moveOf_1 (by decide) ?_
  refine V_pi C 143 (by decide) (by decide) P_11_1 k_RX11_60 dX11_moveOf_2 ?_
  refine V_topS (fun S9 eS9 => ?_)
  have h := h S9 eS9
  refine V_aload_n C 0 dX11_moveOf_5 rfl rfl ?_
  refine V_aload_n C 0 dX11_moveOf_6 rfl rfl ?_
  refine V_iload_n C 1 dX11_moveOf_7 rfl rfl ?_
  refine V_iload_n C 2 dX11_moveOf_8 rfl rfl ?_
  refine V_iload_n C 3 dX11_moveOf_9 rfl rfl ?_
  refine V_iconst (v := 1) C dX11_moveOf_10 (by decide) ?_
  refine V_callVi (As := [.int a1, .int a2, .int a3, .int 1]) (rest := [.ref (G.1 143)]) C (c_X11_whyNoGame (v_l X) G  _ _ _ _ _ h) 143 11 (by decide) (by decide) (by decide) rfl KV_X11_whyNoGame k_RX11_425 rfl rfl rfl (Nat.le_of_ble_eq_true rfl) ⟨Nat.le_of_ble_eq_true rfl, Nat.le_of_ble_eq_true rfl⟩ dX11_moveOf_11 (fun r11 S10 h => ?_)
  refine V_pi C 143 (by decide) (by decide) P_11_0 k_RX11_63 dX11_moveOf_14 ?_
  refine V_topS (fun S12 eS12 => ?_)
  have h := h S12 eS12
  refine V_aload_n C 0 dX11_moveOf_17 rfl rfl ?_
  refine V_gi C 143 (by decide) (by decide) F_11_0 k_RX11_63 dX11_moveOf_18 ?_
  refine V_if_le (tgt := 26) C dX11_moveOf_21 (by decide) (fun c => ?_) (fun c => ?_)
  · have h := h.1 c
    refine V_aload_n C 0 dX11_moveOf_26 rfl rfl ?_
    refine V_iload_n C 1 dX11_moveOf_27 rfl rfl ?_
    refine V_iload_n C 2 dX11_moveOf_28 rfl rfl ?_
    refine V_iconst (v := 0) C dX11_moveOf_29 (by decide) ?_
    refine V_iload_n C 3 dX11_moveOf_30 rfl rfl ?_
    refine V_iconst (v := 0) C dX11_moveOf_31 (by decide) ?_
    refine V_callVl (As := [.int a1, .int a2, .int 0, .int a3, .int 0]) (rest := []) C (c_X11_plays 6 (v_l X) G  _ _ _ _ _ _ h) 143 11 (by decide) (by decide) (by decide) rfl KV_X11_plays k_RX11_418 rfl rfl rfl (Nat.le_of_ble_eq_true rfl) ⟨Nat.le_of_ble_eq_true rfl, Nat.le_of_ble_eq_true rfl⟩ dX11_moveOf_32 (fun r14 S13 h => ?_)
    refine V_pop2_2 C dX11_moveOf_35 rfl ?_
    refine V_aload_n C 0 dX11_moveOf_36 rfl rfl ?_
    refine V_gi C 143 (by decide) (by decide) F_11_29 k_RX11_422 dX11_moveOf_37 ?_
    refine V_aload_n C 0 dX11_moveOf_40 rfl rfl ?_
    refine V_ga C 143 (by decide) (by decide) F_11_20 k_RX11_35 dX11_moveOf_41 ?_
    refine V_iconst (v := 1) C dX11_moveOf_44 (by decide) ?_
    obtain ⟨hi, h⟩ := h
    refine V_iald C 148 1900 (by decide) (by decide) hi dX11_moveOf_45 ?_
    refine V_icmp_ne (tgt := 58) C dX11_moveOf_46 (by decide) (fun c => ?_) (fun c => ?_)
    · have h := h.1 c
      refine V_aload_n C 0 dX11_moveOf_58 rfl rfl ?_
      refine V_gi C 143 (by decide) (by decide) F_11_29 k_RX11_422 dX11_moveOf_59 ?_
      exact V_iret C D dX11_moveOf_62 h
    · have h := h.2 c
      refine V_aload_n C 0 dX11_moveOf_49 rfl rfl ?_
      refine V_bipush (v := 8) C dX11_moveOf_50 (by decide) ?_
      refine V_callVi (As := [.int 8]) (rest := []) C (c_X11_refuse (v_l X) G  _ _ h) 143 11 (by decide) (by decide) (by decide) rfl KV_X11_refuse k_RX11_303 rfl rfl rfl (Nat.le_of_ble_eq_true rfl) ⟨Nat.le_of_ble_eq_true rfl, Nat.le_of_ble_eq_true rfl⟩ dX11_moveOf_52 (fun r16 S15 h => ?_)
      refine V_goto (tgt := 62) C dX11_moveOf_55 (by decide) ?_
      exact V_iret C D dX11_moveOf_62 h
  · have h := h.2 c
    refine V_iconst (v := (-1)) C dX11_moveOf_24 (by decide) ?_
    exact V_iret C D dX11_moveOf_25 h
/-! HalfAccuserModel.waysFrom(IIII)I -/
theorem dX11_waysFrom_0 : decode cX11_waysFrom 0 = .ok ((.iload_n 2), 1) := by decide +kernel
theorem dX11_waysFrom_1 : decode cX11_waysFrom 1 = .ok ((.aload_n 0), 1) := by decide +kernel
theorem dX11_waysFrom_2 : decode cX11_waysFrom 2 = .ok ((.getfield 35), 3) := by decide +kernel
theorem dX11_waysFrom_5 : decode cX11_waysFrom 5 = .ok ((.iconst 1), 1) := by decide +kernel
theorem dX11_waysFrom_6 : decode cX11_waysFrom 6 = .ok (.iaload, 1) := by decide +kernel
theorem dX11_waysFrom_7 : decode cX11_waysFrom 7 = .ok ((.if_icmp .ne 22), 3) := by decide +kernel
theorem dX11_waysFrom_10 : decode cX11_waysFrom 10 = .ok ((.iload_n 3), 1) := by decide +kernel
theorem dX11_waysFrom_11 : decode cX11_waysFrom 11 = .ok ((.ifCond .eq 5), 3) := by decide +kernel
theorem dX11_waysFrom_14 : decode cX11_waysFrom 14 = .ok ((.iconst 0), 1) := by decide +kernel
theorem dX11_waysFrom_15 : decode cX11_waysFrom 15 = .ok (.ireturn, 1) := by decide +kernel
theorem dX11_waysFrom_16 : decode cX11_waysFrom 16 = .ok ((.aload_n 0), 1) := by decide +kernel
theorem dX11_waysFrom_17 : decode cX11_waysFrom 17 = .ok (.dup, 1) := by decide +kernel
theorem dX11_waysFrom_18 : decode cX11_waysFrom 18 = .ok ((.getfield 440), 3) := by decide +kernel
theorem dX11_waysFrom_21 : decode cX11_waysFrom 21 = .ok ((.iload 4), 2) := by decide +kernel
theorem dX11_waysFrom_23 : decode cX11_waysFrom 23 = .ok (.iand, 1) := by decide +kernel
theorem dX11_waysFrom_24 : decode cX11_waysFrom 24 = .ok ((.putfield 440), 3) := by decide +kernel
theorem dX11_waysFrom_27 : decode cX11_waysFrom 27 = .ok ((.iconst 1), 1) := by decide +kernel
theorem dX11_waysFrom_28 : decode cX11_waysFrom 28 = .ok (.ireturn, 1) := by decide +kernel
theorem dX11_waysFrom_29 : decode cX11_waysFrom 29 = .ok ((.aload_n 0), 1) := by decide +kernel
theorem dX11_waysFrom_30 : decode cX11_waysFrom 30 = .ok ((.getfield 35), 3) := by decide +kernel
theorem dX11_waysFrom_33 : decode cX11_waysFrom 33 = .ok ((.bipush 48), 2) := by decide +kernel
theorem dX11_waysFrom_35 : decode cX11_waysFrom 35 = .ok ((.iload_n 2), 1) := by decide +kernel
theorem dX11_waysFrom_36 : decode cX11_waysFrom 36 = .ok (.iadd, 1) := by decide +kernel
theorem dX11_waysFrom_37 : decode cX11_waysFrom 37 = .ok (.iaload, 1) := by decide +kernel
theorem dX11_waysFrom_38 : decode cX11_waysFrom 38 = .ok ((.iload_n 1), 1) := by decide +kernel
theorem dX11_waysFrom_39 : decode cX11_waysFrom 39 = .ok ((.if_icmp .ne 15), 3) := by decide +kernel
theorem dX11_waysFrom_42 : decode cX11_waysFrom 42 = .ok ((.aload_n 0), 1) := by decide +kernel
theorem dX11_waysFrom_43 : decode cX11_waysFrom 43 = .ok ((.iload_n 1), 1) := by decide +kernel
theorem dX11_waysFrom_44 : decode cX11_waysFrom 44 = .ok ((.iload_n 2), 1) := by decide +kernel
theorem dX11_waysFrom_45 : decode cX11_waysFrom 45 = .ok ((.iconst 1), 1) := by decide +kernel
theorem dX11_waysFrom_46 : decode cX11_waysFrom 46 = .ok (.iadd, 1) := by decide +kernel
theorem dX11_waysFrom_47 : decode cX11_waysFrom 47 = .ok ((.iload_n 3), 1) := by decide +kernel
theorem dX11_waysFrom_48 : decode cX11_waysFrom 48 = .ok ((.iload 4), 2) := by decide +kernel
theorem dX11_waysFrom_50 : decode cX11_waysFrom 50 = .ok ((.invokevirtual 443), 3) := by decide +kernel
theorem dX11_waysFrom_53 : decode cX11_waysFrom 53 = .ok (.ireturn, 1) := by decide +kernel
theorem dX11_waysFrom_54 : decode cX11_waysFrom 54 = .ok ((.aload_n 0), 1) := by decide +kernel
theorem dX11_waysFrom_55 : decode cX11_waysFrom 55 = .ok ((.iload_n 1), 1) := by decide +kernel
theorem dX11_waysFrom_56 : decode cX11_waysFrom 56 = .ok ((.iload_n 2), 1) := by decide +kernel
theorem dX11_waysFrom_57 : decode cX11_waysFrom 57 = .ok ((.iconst 1), 1) := by decide +kernel
theorem dX11_waysFrom_58 : decode cX11_waysFrom 58 = .ok (.iadd, 1) := by decide +kernel
theorem dX11_waysFrom_59 : decode cX11_waysFrom 59 = .ok ((.iload_n 3), 1) := by decide +kernel
theorem dX11_waysFrom_60 : decode cX11_waysFrom 60 = .ok ((.iload 4), 2) := by decide +kernel
theorem dX11_waysFrom_62 : decode cX11_waysFrom 62 = .ok ((.invokevirtual 443), 3) := by decide +kernel
theorem dX11_waysFrom_65 : decode cX11_waysFrom 65 = .ok ((.aload_n 0), 1) := by decide +kernel
theorem dX11_waysFrom_66 : decode cX11_waysFrom 66 = .ok ((.iload_n 1), 1) := by decide +kernel
theorem dX11_waysFrom_67 : decode cX11_waysFrom 67 = .ok ((.iload_n 2), 1) := by decide +kernel
theorem dX11_waysFrom_68 : decode cX11_waysFrom 68 = .ok ((.iconst 1), 1) := by decide +kernel
theorem dX11_waysFrom_69 : decode cX11_waysFrom 69 = .ok (.iadd, 1) := by decide +kernel
theorem dX11_waysFrom_70 : decode cX11_waysFrom 70 = .ok ((.iload_n 3), 1) := by decide +kernel
theorem dX11_waysFrom_71 : decode cX11_waysFrom 71 = .ok ((.aload_n 0), 1) := by decide +kernel
theorem dX11_waysFrom_72 : decode cX11_waysFrom 72 = .ok ((.iload_n 2), 1) := by decide +kernel
theorem dX11_waysFrom_73 : decode cX11_waysFrom 73 = .ok ((.invokevirtual 332), 3) := by decide +kernel
theorem dX11_waysFrom_76 : decode cX11_waysFrom 76 = .ok (.isub, 1) := by decide +kernel
theorem dX11_waysFrom_77 : decode cX11_waysFrom 77 = .ok ((.iload 4), 2) := by decide +kernel
theorem dX11_waysFrom_79 : decode cX11_waysFrom 79 = .ok ((.iconst 1), 1) := by decide +kernel
theorem dX11_waysFrom_80 : decode cX11_waysFrom 80 = .ok ((.iload_n 2), 1) := by decide +kernel
theorem dX11_waysFrom_81 : decode cX11_waysFrom 81 = .ok (.ishl, 1) := by decide +kernel
theorem dX11_waysFrom_82 : decode cX11_waysFrom 82 = .ok (.ior, 1) := by decide +kernel
theorem dX11_waysFrom_83 : decode cX11_waysFrom 83 = .ok ((.invokevirtual 443), 3) := by decide +kernel
theorem dX11_waysFrom_86 : decode cX11_waysFrom 86 = .ok (.iadd, 1) := by decide +kernel
theorem dX11_waysFrom_87 : decode cX11_waysFrom 87 = .ok ((.aload_n 0), 1) := by decide +kernel
theorem dX11_waysFrom_88 : decode cX11_waysFrom 88 = .ok ((.iload_n 1), 1) := by decide +kernel
theorem dX11_waysFrom_89 : decode cX11_waysFrom 89 = .ok ((.iload_n 2), 1) := by decide +kernel
theorem dX11_waysFrom_90 : decode cX11_waysFrom 90 = .ok ((.iconst 1), 1) := by decide +kernel
theorem dX11_waysFrom_91 : decode cX11_waysFrom 91 = .ok (.iadd, 1) := by decide +kernel
theorem dX11_waysFrom_92 : decode cX11_waysFrom 92 = .ok ((.iload_n 3), 1) := by decide +kernel
theorem dX11_waysFrom_93 : decode cX11_waysFrom 93 = .ok ((.aload_n 0), 1) := by decide +kernel
theorem dX11_waysFrom_94 : decode cX11_waysFrom 94 = .ok ((.getfield 35), 3) := by decide +kernel
theorem dX11_waysFrom_97 : decode cX11_waysFrom 97 = .ok ((.iconst 4), 1) := by decide +kernel
theorem dX11_waysFrom_98 : decode cX11_waysFrom 98 = .ok (.iaload, 1) := by decide +kernel
theorem dX11_waysFrom_99 : decode cX11_waysFrom 99 = .ok (.iadd, 1) := by decide +kernel
theorem dX11_waysFrom_100 : decode cX11_waysFrom 100 = .ok ((.iload 4), 2) := by decide +kernel
theorem dX11_waysFrom_102 : decode cX11_waysFrom 102 = .ok ((.invokevirtual 443), 3) := by decide +kernel
theorem dX11_waysFrom_105 : decode cX11_waysFrom 105 = .ok (.iadd, 1) := by decide +kernel
theorem dX11_waysFrom_106 : decode cX11_waysFrom 106 = .ok (.ireturn, 1) := by decide +kernel
def pb_X11_waysFrom  (rc : vSt → Int32 → Int32 → Int32 → Int32 → (Int32 → vSt → Prop) → Prop) (S : vSt) (a1 : Int32) (a2 : Int32) (a3 : Int32) (a4 : Int32) (post : Int32 → vSt → Prop) : Prop := (vp_in 1 1900 ∧ ((¬ a2 = (S.1 148 (Int32.toNatClampNeg 1)) → (vp_in (48 + a2) 1900 ∧ ((¬ (S.1 148 (Int32.toNatClampNeg (48 + a2))) = a1 → rc S a1 (a2 + 1) a3 a4 (fun r13 S12 => p_X11_part  S12 a2 (fun r15 S14 => rc S14 a1 (a2 + 1) (a3 - r15) (a4 ||| (1 <<< (a2 &&& 31))) (fun r17 S16 => (vp_in 4 1900 ∧ rc S16 a1 (a2 + 1) (a3 + (S16.1 148 (Int32.toNatClampNeg 4))) a4 (fun r19 S18 => post ((r13 + r17) + r19) S18)))))) ∧ ((S.1 148 (Int32.toNatClampNeg (48 + a2))) = a1 → rc S a1 (a2 + 1) a3 a4 (fun r21 S20 => post r21 S20))))) ∧ (a2 = (S.1 148 (Int32.toNatClampNeg 1)) → ((a3 = 0 → ∀ S22, S22 = v_si S 143 31 ((S.1 143 31) &&& a4) → post 1 S22) ∧ (¬ a3 = 0 → post 0 S)))))
set_option maxHeartbeats 4000000 in
set_option maxRecDepth 100000 in
theorem co_X11_waysFrom (l : Launch) (G : vG) {f0 l0 : Nat}  {rc : vSt → Int32 → Int32 → Int32 → Int32 → (Int32 → vSt → Prop) → Prop} (hrc : ∀ (S : vSt) (a1 : Int32) (a2 : Int32) (a3 : Int32) (a4 : Int32) (post : Int32 → vSt → Prop), rc S a1 a2 a3 a4 post → Met l yX11_waysFrom (v_ws yX11_waysFrom cX11_waysFrom 5 (some .int)) (v_rm f0 l0) (v_Pc G [.ref (G.1 143), .int a1, .int a2, .int a3, .int a4] S) (v_Qi G post) 0 0 (v_A G)) {S : vSt} (a1 : Int32) (a2 : Int32) (a3 : Int32) (a4 : Int32) (post : Int32 → vSt → Prop) (h : pb_X11_waysFrom  rc S a1 a2 a3 a4 post) : Met l yX11_waysFrom (v_ws yX11_waysFrom cX11_waysFrom 5 (some .int)) (v_rm (f0 + 1) (l0 + 61)) (v_Pc G [.ref (G.1 143), .int a1, .int a2, .int a3, .int a4] S) (v_Qi G post) 0 0 (v_A G) := by
  refine v_start (by decide +kernel) (Nat.le_of_ble_eq_true rfl) (fun X hl C D => ?_)
  subst hl
  have C : v_Cx X G cX11_waysFrom RX11 5 (v_rm (f0 + 1) (l0 + 61)) := C
  show VJ X G S 0 [(0, .ref (G.1 143)), (1, .int a1), (2, .int a2), (3, .int a3), (4, .int a4)] []
  refine V_iload_n C 2 dX11_waysFrom_0 rfl rfl ?_
  refine V_aload_n C 0 dX11_waysFrom_1 rfl rfl ?_
  refine V_ga C 143 (by decide) (by decide) F_11_20 k_RX11_35 dX11_waysFrom_2 ?_
  refine V_iconst (v := 1) C dX11_waysFrom_5 (by decide) ?_
  obtain ⟨hi, h⟩ := h
  refine V_iald C 148 1900 (by decide) (by decide) hi dX11_waysFrom_6 ?_
  refine V_icmp_ne (tgt := 29) C dX11_waysFrom_7 (by decide) (fun c => ?_) (fun c => ?_)
  · have h := h.1 c
    refine V_aload_n C 0 dX11_waysFrom_29 rfl rfl ?_
    refine V_ga C 143 (by decide) (by decide) F_11_20 k_RX11_35 dX11_waysFrom_30 ?_
    refine V_bipush (v := 48) C dX11_waysFrom_33 (by decide) ?_
    refine V_iload_n C 2 dX11_waysFrom_35 rfl rfl ?_
    refine V_iadd C dX11_waysFrom_36 ?_
    obtain ⟨hi, h⟩ := h
    refine V_iald C 148 1900 (by decide) (by decide) hi dX11_waysFrom_37 ?_
    refine V_iload_n C 1 dX11_waysFrom_38 rfl rfl ?_
    refine V_icmp_ne (tgt := 54) C dX11_waysFrom_39 (by decide) (fun c => ?_) (fun c => ?_)
    · have h := h.1 c
      refine V_aload_n C 0 dX11_waysFrom_54 rfl rfl ?_
      refine V_iload_n C 1 dX11_waysFrom_55 rfl rfl ?_
      refine V_iload_n C 2 dX11_waysFrom_56 rfl rfl ?_
      refine V_iconst (v := 1) C dX11_waysFrom_57 (by decide) ?_
      refine V_iadd C dX11_waysFrom_58 ?_
      refine V_iload_n C 3 dX11_waysFrom_59 rfl rfl ?_
      refine V_iload C 4 dX11_waysFrom_60 rfl ?_
      refine V_callVi (As := [.int a1, .int (a2 + 1), .int a3, .int a4]) (rest := []) C (hrc _ _ _ _ _ _ h) 143 11 (by decide) (by decide) (by decide) rfl KV_X11_waysFrom k_RX11_443 rfl rfl rfl (Nat.le_of_ble_eq_true rfl) ⟨by simp only [v_rm]; omega, by simp only [v_rm]; omega⟩ dX11_waysFrom_62 (fun r13 S12 h => ?_)
      refine V_aload_n C 0 dX11_waysFrom_65 rfl rfl ?_
      refine V_iload_n C 1 dX11_waysFrom_66 rfl rfl ?_
      refine V_iload_n C 2 dX11_waysFrom_67 rfl rfl ?_
      refine V_iconst (v := 1) C dX11_waysFrom_68 (by decide) ?_
      refine V_iadd C dX11_waysFrom_69 ?_
      refine V_iload_n C 3 dX11_waysFrom_70 rfl rfl ?_
      refine V_aload_n C 0 dX11_waysFrom_71 rfl rfl ?_
      refine V_iload_n C 2 dX11_waysFrom_72 rfl rfl ?_
      refine V_callVi (As := [.int a2]) (rest := [.int a3, .int (a2 + 1), .int a1, .ref (G.1 143), .int r13]) C (c_X11_part (v_l X) G  _ _ h) 143 11 (by decide) (by decide) (by decide) rfl KV_X11_part k_RX11_332 rfl rfl rfl (Nat.le_of_ble_eq_true rfl) ⟨by simp only [v_rm]; omega, by simp only [v_rm]; omega⟩ dX11_waysFrom_73 (fun r15 S14 h => ?_)
      refine V_isub C dX11_waysFrom_76 ?_
      refine V_iload C 4 dX11_waysFrom_77 rfl ?_
      refine V_iconst (v := 1) C dX11_waysFrom_79 (by decide) ?_
      refine V_iload_n C 2 dX11_waysFrom_80 rfl rfl ?_
      refine V_ishl C dX11_waysFrom_81 ?_
      refine V_ior C dX11_waysFrom_82 ?_
      refine V_callVi (As := [.int a1, .int (a2 + 1), .int (a3 - r15), .int (a4 ||| (1 <<< (a2 &&& 31)))]) (rest := [.int r13]) C (hrc _ _ _ _ _ _ h) 143 11 (by decide) (by decide) (by decide) rfl KV_X11_waysFrom k_RX11_443 rfl rfl rfl (Nat.le_of_ble_eq_true rfl) ⟨by simp only [v_rm]; omega, by simp only [v_rm]; omega⟩ dX11_waysFrom_83 (fun r17 S16 h => ?_)
      refine V_iadd C dX11_waysFrom_86 ?_
      refine V_aload_n C 0 dX11_waysFrom_87 rfl rfl ?_
      refine V_iload_n C 1 dX11_waysFrom_88 rfl rfl ?_
      refine V_iload_n C 2 dX11_waysFrom_89 rfl rfl ?_
      refine V_iconst (v := 1) C dX11_waysFrom_90 (by decide) ?_
      refine V_iadd C dX11_waysFrom_91 ?_
      refine V_iload_n C 3 dX11_waysFrom_92 rfl rfl ?_
      refine V_aload_n C 0 dX11_waysFrom_93 rfl rfl ?_
      refine V_ga C 143 (by decide) (by decide) F_11_20 k_RX11_35 dX11_waysFrom_94 ?_
      refine V_iconst (v := 4) C dX11_waysFrom_97 (by decide) ?_
      obtain ⟨hi, h⟩ := h
      refine V_iald C 148 1900 (by decide) (by decide) hi dX11_waysFrom_98 ?_
      refine V_iadd C dX11_waysFrom_99 ?_
      refine V_iload C 4 dX11_waysFrom_100 rfl ?_
      refine V_callVi (As := [.int a1, .int (a2 + 1), .int (a3 + (S16.1 148 (Int32.toNatClampNeg 4))), .int a4]) (rest := [.int (r13 + r17)]) C (hrc _ _ _ _ _ _ h) 143 11 (by decide) (by decide) (by decide) rfl KV_X11_waysFrom k_RX11_443 rfl rfl rfl (Nat.le_of_ble_eq_true rfl) ⟨by simp only [v_rm]; omega, by simp only [v_rm]; omega⟩ dX11_waysFrom_102 (fun r19 S18 h => ?_)
      refine V_iadd C dX11_waysFrom_105 ?_
      exact V_iret C D dX11_waysFrom_106 h
    · have h := h.2 c
      refine V_aload_n C 0 dX11_waysFrom_42 rfl rfl ?_
      refine V_iload_n C 1 dX11_waysFrom_43 rfl rfl ?_
      refine V_iload_n C 2 dX11_waysFrom_44 rfl rfl ?_
      refine V_iconst (v := 1) C dX11_waysFrom_45 (by decide) ?_
      refine V_iadd C dX11_waysFrom_46 ?_
      refine V_iload_n C 3 dX11_waysFrom_47 rfl rfl ?_
      refine V_iload C 4 dX11_waysFrom_48 rfl ?_
      refine V_callVi (As := [.int a1, .int (a2 + 1), .int a3, .int a4]) (rest := []) C (hrc _ _ _ _ _ _ h) 143 11 (by decide) (by decide) (by decide) rfl KV_X11_waysFrom k_RX11_443 rfl rfl rfl (Nat.le_of_ble_eq_true rfl) ⟨by simp only [v_rm]; omega, by simp only [v_rm]; omega⟩ dX11_waysFrom_50 (fun r21 S20 h => ?_)
      exact V_iret C D dX11_waysFrom_53 h
  · have h := h.2 c
    refine V_iload_n C 3 dX11_waysFrom_10 rfl rfl ?_
    refine V_if_eq (tgt := 16) C dX11_waysFrom_11 (by decide) (fun c => ?_) (fun c => ?_)
    · have h := h.1 c
      refine V_aload_n C 0 dX11_waysFrom_16 rfl rfl ?_
      refine V_dup C dX11_waysFrom_17 rfl ?_
      refine V_gi C 143 (by decide) (by decide) F_11_31 k_RX11_440 dX11_waysFrom_18 ?_
      refine V_iload C 4 dX11_waysFrom_21 rfl ?_
      refine V_iand C dX11_waysFrom_23 ?_
      refine V_pi C 143 (by decide) (by decide) P_11_31 k_RX11_440 dX11_waysFrom_24 ?_
      refine V_topS (fun S22 eS22 => ?_)
      have h := h S22 eS22
      refine V_iconst (v := 1) C dX11_waysFrom_27 (by decide) ?_
      exact V_iret C D dX11_waysFrom_28 h
    · have h := h.2 c
      refine V_iconst (v := 0) C dX11_waysFrom_14 (by decide) ?_
      exact V_iret C D dX11_waysFrom_15 h
def p_X11_waysFrom : Nat → vSt → Int32 → Int32 → Int32 → Int32 → (Int32 → vSt → Prop) → Prop
  | 0 => fun _ _ _ _ _ _ => False
  | d + 1 => fun S a1 a2 a3 a4 post => pb_X11_waysFrom (p_X11_waysFrom d) S a1 a2 a3 a4 post
theorem c_X11_waysFrom (d : Nat) : ∀ (l : Launch) (G : vG) {S : vSt} (a1 : Int32) (a2 : Int32) (a3 : Int32) (a4 : Int32) (post : Int32 → vSt → Prop) (h : p_X11_waysFrom d S a1 a2 a3 a4 post), Met l yX11_waysFrom (v_ws yX11_waysFrom cX11_waysFrom 5 (some .int)) (v_rm (1 * d) (61 * d)) (v_Pc G [.ref (G.1 143), .int a1, .int a2, .int a3, .int a4] S) (v_Qi G post) 0 0 (v_A G) := by
  induction d with
  | zero => intro l G S a1 a2 a3 a4 post h; exact absurd h id
  | succ d ih =>
    intro l G S a1 a2 a3 a4 post h
    exact co_X11_waysFrom l G (rc := p_X11_waysFrom d) (f0 := 1 * d) (l0 := 61 * d) (fun S a1 a2 a3 a4 post h => ih l G a1 a2 a3 a4 post h) a1 a2 a3 a4 post h
/-! HalfAccuserModel.gained(II)I -/
theorem dX11_gained_0 : decode cX11_gained 0 = .ok ((.aload_n 0), 1) := by decide +kernel
theorem dX11_gained_1 : decode cX11_gained 1 = .ok ((.iconst 0), 1) := by decide +kernel
theorem dX11_gained_2 : decode cX11_gained 2 = .ok ((.putfield 60), 3) := by decide +kernel
theorem dX11_gained_5 : decode cX11_gained 5 = .ok ((.aload_n 0), 1) := by decide +kernel
theorem dX11_gained_6 : decode cX11_gained 6 = .ok ((.aload_n 0), 1) := by decide +kernel
theorem dX11_gained_7 : decode cX11_gained 7 = .ok ((.iload_n 1), 1) := by decide +kernel
theorem dX11_gained_8 : decode cX11_gained 8 = .ok ((.iload_n 2), 1) := by decide +kernel
theorem dX11_gained_9 : decode cX11_gained 9 = .ok ((.invokevirtual 446), 3) := by decide +kernel
theorem dX11_gained_12 : decode cX11_gained 12 = .ok ((.putfield 63), 3) := by decide +kernel
theorem dX11_gained_15 : decode cX11_gained 15 = .ok ((.aload_n 0), 1) := by decide +kernel
theorem dX11_gained_16 : decode cX11_gained 16 = .ok ((.getfield 63), 3) := by decide +kernel
theorem dX11_gained_19 : decode cX11_gained 19 = .ok ((.ifCond .le 7), 3) := by decide +kernel
theorem dX11_gained_22 : decode cX11_gained 22 = .ok ((.iconst (-1)), 1) := by decide +kernel
theorem dX11_gained_23 : decode cX11_gained 23 = .ok ((.goto 11), 3) := by decide +kernel
theorem dX11_gained_26 : decode cX11_gained 26 = .ok ((.aload_n 0), 1) := by decide +kernel
theorem dX11_gained_27 : decode cX11_gained 27 = .ok ((.iload_n 1), 1) := by decide +kernel
theorem dX11_gained_28 : decode cX11_gained 28 = .ok ((.iconst 0), 1) := by decide +kernel
theorem dX11_gained_29 : decode cX11_gained 29 = .ok ((.iload_n 2), 1) := by decide +kernel
theorem dX11_gained_30 : decode cX11_gained 30 = .ok ((.iconst 0), 1) := by decide +kernel
theorem dX11_gained_31 : decode cX11_gained 31 = .ok ((.invokevirtual 443), 3) := by decide +kernel
theorem dX11_gained_34 : decode cX11_gained 34 = .ok (.ireturn, 1) := by decide +kernel
def p_X11_gained   (S : vSt) (a1 : Int32) (a2 : Int32) (post : Int32 → vSt → Prop) : Prop := ∀ S7, S7 = v_si S 143 1 0 → p_X11_whyNotGained  S7 a1 a2 (fun r9 S8 => ∀ S10, S10 = v_si S8 143 0 r9 → (((S10.1 143 0) ≤ 0 → p_X11_waysFrom 14 S10 a1 0 a2 0 (fun r12 S11 => post r12 S11)) ∧ (¬ (S10.1 143 0) ≤ 0 → post (-1) S10)))
set_option maxHeartbeats 4000000 in
set_option maxRecDepth 100000 in
theorem c_X11_gained (l : Launch) (G : vG)    {S : vSt} (a1 : Int32) (a2 : Int32) (post : Int32 → vSt → Prop) (h : p_X11_gained   S a1 a2 post) : Met l yX11_gained (v_ws yX11_gained cX11_gained 3 (some .int)) (v_rm 15 878) (v_Pc G [.ref (G.1 143), .int a1, .int a2] S) (v_Qi G post) 0 0 (v_A G) := by
  refine v_start (by decide +kernel) (Nat.le_of_ble_eq_true rfl) (fun X hl C D => ?_)
  subst hl
  have C : v_Cx X G cX11_gained RX11 3 (v_rm 15 878) := C
  show VJ X G S 0 [(0, .ref (G.1 143)), (1, .int a1), (2, .int a2)] []
  refine V_aload_n C 0 dX11_gained_0 rfl rfl ?_
  refine V_iconst (v := 0) C dX11_gained_1 (by decide) ?_
  refine V_pi C 143 (by decide) (by decide) P_11_1 k_RX11_60 dX11_gained_2 ?_
  refine V_topS (fun S7 eS7 => ?_)
  have h := h S7 eS7
  refine V_aload_n C 0 dX11_gained_5 rfl rfl ?_
  refine V_aload_n C 0 dX11_gained_6 rfl rfl ?_
  refine V_iload_n C 1 dX11_gained_7 rfl rfl ?_
  refine V_iload_n C 2 dX11_gained_8 rfl rfl ?_
  refine V_callVi (As := [.int a1, .int a2]) (rest := [.ref (G.1 143)]) C (c_X11_whyNotGained (v_l X) G  _ _ _ h) 143 11 (by decide) (by decide) (by decide) rfl KV_X11_whyNotGained k_RX11_446 rfl rfl rfl (Nat.le_of_ble_eq_true rfl) ⟨Nat.le_of_ble_eq_true rfl, Nat.le_of_ble_eq_true rfl⟩ dX11_gained_9 (fun r9 S8 h => ?_)
  refine V_pi C 143 (by decide) (by decide) P_11_0 k_RX11_63 dX11_gained_12 ?_
  refine V_topS (fun S10 eS10 => ?_)
  have h := h S10 eS10
  refine V_aload_n C 0 dX11_gained_15 rfl rfl ?_
  refine V_gi C 143 (by decide) (by decide) F_11_0 k_RX11_63 dX11_gained_16 ?_
  refine V_if_le (tgt := 26) C dX11_gained_19 (by decide) (fun c => ?_) (fun c => ?_)
  · have h := h.1 c
    refine V_aload_n C 0 dX11_gained_26 rfl rfl ?_
    refine V_iload_n C 1 dX11_gained_27 rfl rfl ?_
    refine V_iconst (v := 0) C dX11_gained_28 (by decide) ?_
    refine V_iload_n C 2 dX11_gained_29 rfl rfl ?_
    refine V_iconst (v := 0) C dX11_gained_30 (by decide) ?_
    refine V_callVi (As := [.int a1, .int 0, .int a2, .int 0]) (rest := []) C (c_X11_waysFrom 14 (v_l X) G  _ _ _ _ _ h) 143 11 (by decide) (by decide) (by decide) rfl KV_X11_waysFrom k_RX11_443 rfl rfl rfl (Nat.le_of_ble_eq_true rfl) ⟨Nat.le_of_ble_eq_true rfl, Nat.le_of_ble_eq_true rfl⟩ dX11_gained_31 (fun r12 S11 h => ?_)
    exact V_iret C D dX11_gained_34 h
  · have h := h.2 c
    refine V_iconst (v := (-1)) C dX11_gained_22 (by decide) ?_
    refine V_goto (tgt := 34) C dX11_gained_23 (by decide) ?_
    exact V_iret C D dX11_gained_34 h
/-! HalfAccuserModel.sure(II)I -/
theorem dX11_sure_0 : decode cX11_sure 0 = .ok ((.aload_n 0), 1) := by decide +kernel
theorem dX11_sure_1 : decode cX11_sure 1 = .ok ((.iconst 0), 1) := by decide +kernel
theorem dX11_sure_2 : decode cX11_sure 2 = .ok ((.putfield 60), 3) := by decide +kernel
theorem dX11_sure_5 : decode cX11_sure 5 = .ok ((.aload_n 0), 1) := by decide +kernel
theorem dX11_sure_6 : decode cX11_sure 6 = .ok ((.aload_n 0), 1) := by decide +kernel
theorem dX11_sure_7 : decode cX11_sure 7 = .ok ((.iload_n 1), 1) := by decide +kernel
theorem dX11_sure_8 : decode cX11_sure 8 = .ok ((.iload_n 2), 1) := by decide +kernel
theorem dX11_sure_9 : decode cX11_sure 9 = .ok ((.invokevirtual 446), 3) := by decide +kernel
theorem dX11_sure_12 : decode cX11_sure 12 = .ok ((.putfield 63), 3) := by decide +kernel
theorem dX11_sure_15 : decode cX11_sure 15 = .ok ((.aload_n 0), 1) := by decide +kernel
theorem dX11_sure_16 : decode cX11_sure 16 = .ok ((.getfield 63), 3) := by decide +kernel
theorem dX11_sure_19 : decode cX11_sure 19 = .ok ((.ifCond .le 5), 3) := by decide +kernel
theorem dX11_sure_22 : decode cX11_sure 22 = .ok ((.iconst (-1)), 1) := by decide +kernel
theorem dX11_sure_23 : decode cX11_sure 23 = .ok (.ireturn, 1) := by decide +kernel
theorem dX11_sure_24 : decode cX11_sure 24 = .ok ((.aload_n 0), 1) := by decide +kernel
theorem dX11_sure_25 : decode cX11_sure 25 = .ok ((.iconst 1), 1) := by decide +kernel
theorem dX11_sure_26 : decode cX11_sure 26 = .ok ((.aload_n 0), 1) := by decide +kernel
theorem dX11_sure_27 : decode cX11_sure 27 = .ok ((.getfield 35), 3) := by decide +kernel
theorem dX11_sure_30 : decode cX11_sure 30 = .ok ((.iconst 1), 1) := by decide +kernel
theorem dX11_sure_31 : decode cX11_sure 31 = .ok (.iaload, 1) := by decide +kernel
theorem dX11_sure_32 : decode cX11_sure 32 = .ok (.ishl, 1) := by decide +kernel
theorem dX11_sure_33 : decode cX11_sure 33 = .ok ((.iconst 1), 1) := by decide +kernel
theorem dX11_sure_34 : decode cX11_sure 34 = .ok (.isub, 1) := by decide +kernel
theorem dX11_sure_35 : decode cX11_sure 35 = .ok ((.putfield 440), 3) := by decide +kernel
theorem dX11_sure_38 : decode cX11_sure 38 = .ok ((.aload_n 0), 1) := by decide +kernel
theorem dX11_sure_39 : decode cX11_sure 39 = .ok ((.iload_n 1), 1) := by decide +kernel
theorem dX11_sure_40 : decode cX11_sure 40 = .ok ((.iconst 0), 1) := by decide +kernel
theorem dX11_sure_41 : decode cX11_sure 41 = .ok ((.iload_n 2), 1) := by decide +kernel
theorem dX11_sure_42 : decode cX11_sure 42 = .ok ((.iconst 0), 1) := by decide +kernel
theorem dX11_sure_43 : decode cX11_sure 43 = .ok ((.invokevirtual 443), 3) := by decide +kernel
theorem dX11_sure_46 : decode cX11_sure 46 = .ok ((.ifCond .ne 12), 3) := by decide +kernel
theorem dX11_sure_49 : decode cX11_sure 49 = .ok ((.aload_n 0), 1) := by decide +kernel
theorem dX11_sure_50 : decode cX11_sure 50 = .ok ((.bipush 8), 2) := by decide +kernel
theorem dX11_sure_52 : decode cX11_sure 52 = .ok ((.invokevirtual 303), 3) := by decide +kernel
theorem dX11_sure_55 : decode cX11_sure 55 = .ok ((.goto 7), 3) := by decide +kernel
theorem dX11_sure_58 : decode cX11_sure 58 = .ok ((.aload_n 0), 1) := by decide +kernel
theorem dX11_sure_59 : decode cX11_sure 59 = .ok ((.getfield 440), 3) := by decide +kernel
theorem dX11_sure_62 : decode cX11_sure 62 = .ok (.ireturn, 1) := by decide +kernel
def p_X11_sure   (S : vSt) (a1 : Int32) (a2 : Int32) (post : Int32 → vSt → Prop) : Prop := ∀ S10, S10 = v_si S 143 1 0 → p_X11_whyNotGained  S10 a1 a2 (fun r12 S11 => ∀ S13, S13 = v_si S11 143 0 r12 → (((S13.1 143 0) ≤ 0 → (vp_in 1 1900 ∧ ∀ S14, S14 = v_si S13 143 31 ((1 <<< ((S13.1 148 (Int32.toNatClampNeg 1)) &&& 31)) - 1) → p_X11_waysFrom 14 S14 a1 0 a2 0 (fun r16 S15 => ((¬ r16 = 0 → post (S15.1 143 31) S15) ∧ (r16 = 0 → p_X11_refuse  S15 8 (fun r18 S17 => post r18 S17)))))) ∧ (¬ (S13.1 143 0) ≤ 0 → post (-1) S13)))
set_option maxHeartbeats 4000000 in
set_option maxRecDepth 100000 in
theorem c_X11_sure (l : Launch) (G : vG)    {S : vSt} (a1 : Int32) (a2 : Int32) (post : Int32 → vSt → Prop) (h : p_X11_sure   S a1 a2 post) : Met l yX11_sure (v_ws yX11_sure cX11_sure 3 (some .int)) (v_rm 15 878) (v_Pc G [.ref (G.1 143), .int a1, .int a2] S) (v_Qi G post) 0 0 (v_A G) := by
  refine v_start (by decide +kernel) (Nat.le_of_ble_eq_true rfl) (fun X hl C D => ?_)
  subst hl
  have C : v_Cx X G cX11_sure RX11 3 (v_rm 15 878) := C
  show VJ X G S 0 [(0, .ref (G.1 143)), (1, .int a1), (2, .int a2)] []
  refine V_aload_n C 0 dX11_sure_0 rfl rfl ?_
  refine V_iconst (v := 0) C dX11_sure_1 (by decide) ?_
  refine V_pi C 143 (by decide) (by decide) P_11_1 k_RX11_60 dX11_sure_2 ?_
  refine V_topS (fun S10 eS10 => ?_)
  have h := h S10 eS10
  refine V_aload_n C 0 dX11_sure_5 rfl rfl ?_
  refine V_aload_n C 0 dX11_sure_6 rfl rfl ?_
  refine V_iload_n C 1 dX11_sure_7 rfl rfl ?_
  refine V_iload_n C 2 dX11_sure_8 rfl rfl ?_
  refine V_callVi (As := [.int a1, .int a2]) (rest := [.ref (G.1 143)]) C (c_X11_whyNotGained (v_l X) G  _ _ _ h) 143 11 (by decide) (by decide) (by decide) rfl KV_X11_whyNotGained k_RX11_446 rfl rfl rfl (Nat.le_of_ble_eq_true rfl) ⟨Nat.le_of_ble_eq_true rfl, Nat.le_of_ble_eq_true rfl⟩ dX11_sure_9 (fun r12 S11 h => ?_)
  refine V_pi C 143 (by decide) (by decide) P_11_0 k_RX11_63 dX11_sure_12 ?_
  refine V_topS (fun S13 eS13 => ?_)
  have h := h S13 eS13
  refine V_aload_n C 0 dX11_sure_15 rfl rfl ?_
  refine V_gi C 143 (by decide) (by decide) F_11_0 k_RX11_63 dX11_sure_16 ?_
  refine V_if_le (tgt := 24) C dX11_sure_19 (by decide) (fun c => ?_) (fun c => ?_)
  · have h := h.1 c
    refine V_aload_n C 0 dX11_sure_24 rfl rfl ?_
    refine V_iconst (v := 1) C dX11_sure_25 (by decide) ?_
    refine V_aload_n C 0 dX11_sure_26 rfl rfl ?_
    refine V_ga C 143 (by decide) (by decide) F_11_20 k_RX11_35 dX11_sure_27 ?_
    refine V_iconst (v := 1) C dX11_sure_30 (by decide) ?_
    obtain ⟨hi, h⟩ := h
    refine V_iald C 148 1900 (by decide) (by decide) hi dX11_sure_31 ?_
    refine V_ishl C dX11_sure_32 ?_
    refine V_iconst (v := 1) C dX11_sure_33 (by decide) ?_
    refine V_isub C dX11_sure_34 ?_
    refine V_pi C 143 (by decide) (by decide) P_11_31 k_RX11_440 dX11_sure_35 ?_
    refine V_topS (fun S14 eS14 => ?_)
    have h := h S14 eS14
    refine V_aload_n C 0 dX11_sure_38 rfl rfl ?_
    refine V_iload_n C 1 dX11_sure_39 rfl rfl ?_
    refine V_iconst (v := 0) C dX11_sure_40 (by decide) ?_
    refine V_iload_n C 2 dX11_sure_41 rfl rfl ?_
    refine V_iconst (v := 0) C dX11_sure_42 (by decide) ?_
    refine V_callVi (As := [.int a1, .int 0, .int a2, .int 0]) (rest := []) C (c_X11_waysFrom 14 (v_l X) G  _ _ _ _ _ h) 143 11 (by decide) (by decide) (by decide) rfl KV_X11_waysFrom k_RX11_443 rfl rfl rfl (Nat.le_of_ble_eq_true rfl) ⟨Nat.le_of_ble_eq_true rfl, Nat.le_of_ble_eq_true rfl⟩ dX11_sure_43 (fun r16 S15 h => ?_)
    refine V_if_ne (tgt := 58) C dX11_sure_46 (by decide) (fun c => ?_) (fun c => ?_)
    · have h := h.1 c
      refine V_aload_n C 0 dX11_sure_58 rfl rfl ?_
      refine V_gi C 143 (by decide) (by decide) F_11_31 k_RX11_440 dX11_sure_59 ?_
      exact V_iret C D dX11_sure_62 h
    · have h := h.2 c
      refine V_aload_n C 0 dX11_sure_49 rfl rfl ?_
      refine V_bipush (v := 8) C dX11_sure_50 (by decide) ?_
      refine V_callVi (As := [.int 8]) (rest := []) C (c_X11_refuse (v_l X) G  _ _ h) 143 11 (by decide) (by decide) (by decide) rfl KV_X11_refuse k_RX11_303 rfl rfl rfl (Nat.le_of_ble_eq_true rfl) ⟨Nat.le_of_ble_eq_true rfl, Nat.le_of_ble_eq_true rfl⟩ dX11_sure_52 (fun r18 S17 h => ?_)
      refine V_goto (tgt := 62) C dX11_sure_55 (by decide) ?_
      exact V_iret C D dX11_sure_62 h
  · have h := h.2 c
    refine V_iconst (v := (-1)) C dX11_sure_22 (by decide) ?_
    exact V_iret C D dX11_sure_23 h
/-! HalfAccuserModel.doOne(I)V -/
theorem dX11_doOne_0 : decode cX11_doOne 0 = .ok ((.aload_n 0), 1) := by decide +kernel
theorem dX11_doOne_1 : decode cX11_doOne 1 = .ok ((.getfield 464), 3) := by decide +kernel
theorem dX11_doOne_4 : decode cX11_doOne 4 = .ok ((.sipush 300), 3) := by decide +kernel
theorem dX11_doOne_7 : decode cX11_doOne 7 = .ok ((.if_icmp .ne 14), 3) := by decide +kernel
theorem dX11_doOne_10 : decode cX11_doOne 10 = .ok ((.aload_n 0), 1) := by decide +kernel
theorem dX11_doOne_11 : decode cX11_doOne 11 = .ok ((.iconst 1), 1) := by decide +kernel
theorem dX11_doOne_12 : decode cX11_doOne 12 = .ok ((.putfield 467), 3) := by decide +kernel
theorem dX11_doOne_15 : decode cX11_doOne 15 = .ok ((.aload_n 0), 1) := by decide +kernel
theorem dX11_doOne_16 : decode cX11_doOne 16 = .ok ((.iconst 1), 1) := by decide +kernel
theorem dX11_doOne_17 : decode cX11_doOne 17 = .ok ((.putfield 471), 3) := by decide +kernel
theorem dX11_doOne_20 : decode cX11_doOne 20 = .ok (.return_, 1) := by decide +kernel
theorem dX11_doOne_21 : decode cX11_doOne 21 = .ok ((.aload_n 0), 1) := by decide +kernel
theorem dX11_doOne_22 : decode cX11_doOne 22 = .ok (.dup, 1) := by decide +kernel
theorem dX11_doOne_23 : decode cX11_doOne 23 = .ok ((.getfield 464), 3) := by decide +kernel
theorem dX11_doOne_26 : decode cX11_doOne 26 = .ok ((.iconst 1), 1) := by decide +kernel
theorem dX11_doOne_27 : decode cX11_doOne 27 = .ok (.iadd, 1) := by decide +kernel
theorem dX11_doOne_28 : decode cX11_doOne 28 = .ok ((.putfield 464), 3) := by decide +kernel
theorem dX11_doOne_31 : decode cX11_doOne 31 = .ok ((.bipush 110), 2) := by decide +kernel
theorem dX11_doOne_33 : decode cX11_doOne 33 = .ok ((.bipush 9), 2) := by decide +kernel
theorem dX11_doOne_35 : decode cX11_doOne 35 = .ok ((.iload_n 1), 1) := by decide +kernel
theorem dX11_doOne_36 : decode cX11_doOne 36 = .ok (.imul, 1) := by decide +kernel
theorem dX11_doOne_37 : decode cX11_doOne 37 = .ok (.iadd, 1) := by decide +kernel
theorem dX11_doOne_38 : decode cX11_doOne 38 = .ok ((.istore_n 2), 1) := by decide +kernel
theorem dX11_doOne_39 : decode cX11_doOne 39 = .ok ((.aload_n 0), 1) := by decide +kernel
theorem dX11_doOne_40 : decode cX11_doOne 40 = .ok ((.getfield 35), 3) := by decide +kernel
theorem dX11_doOne_43 : decode cX11_doOne 43 = .ok ((.iload_n 2), 1) := by decide +kernel
theorem dX11_doOne_44 : decode cX11_doOne 44 = .ok (.iaload, 1) := by decide +kernel
theorem dX11_doOne_45 : decode cX11_doOne 45 = .ok ((.istore_n 3), 1) := by decide +kernel
theorem dX11_doOne_46 : decode cX11_doOne 46 = .ok ((.iload_n 3), 1) := by decide +kernel
theorem dX11_doOne_47 : decode cX11_doOne 47 = .ok ((.iconst 4), 1) := by decide +kernel
theorem dX11_doOne_48 : decode cX11_doOne 48 = .ok ((.if_icmp .ge 28), 3) := by decide +kernel
theorem dX11_doOne_51 : decode cX11_doOne 51 = .ok ((.aload_n 0), 1) := by decide +kernel
theorem dX11_doOne_52 : decode cX11_doOne 52 = .ok (.dup, 1) := by decide +kernel
theorem dX11_doOne_53 : decode cX11_doOne 53 = .ok ((.getfield 474), 3) := by decide +kernel
theorem dX11_doOne_56 : decode cX11_doOne 56 = .ok ((.aload_n 0), 1) := by decide +kernel
theorem dX11_doOne_57 : decode cX11_doOne 57 = .ok ((.iload_n 2), 1) := by decide +kernel
theorem dX11_doOne_58 : decode cX11_doOne 58 = .ok ((.invokevirtual 477), 3) := by decide +kernel
theorem dX11_doOne_61 : decode cX11_doOne 61 = .ok ((.ifCond .eq 7), 3) := by decide +kernel
theorem dX11_doOne_64 : decode cX11_doOne 64 = .ok ((.iconst 0), 1) := by decide +kernel
theorem dX11_doOne_65 : decode cX11_doOne 65 = .ok ((.goto 4), 3) := by decide +kernel
theorem dX11_doOne_68 : decode cX11_doOne 68 = .ok ((.iconst 1), 1) := by decide +kernel
theorem dX11_doOne_69 : decode cX11_doOne 69 = .ok (.iadd, 1) := by decide +kernel
theorem dX11_doOne_70 : decode cX11_doOne 70 = .ok ((.putfield 474), 3) := by decide +kernel
theorem dX11_doOne_73 : decode cX11_doOne 73 = .ok ((.goto 98), 3) := by decide +kernel
theorem dX11_doOne_76 : decode cX11_doOne 76 = .ok ((.iload_n 3), 1) := by decide +kernel
theorem dX11_doOne_77 : decode cX11_doOne 77 = .ok ((.iconst 4), 1) := by decide +kernel
theorem dX11_doOne_78 : decode cX11_doOne 78 = .ok ((.if_icmp .ne 30), 3) := by decide +kernel
theorem dX11_doOne_81 : decode cX11_doOne 81 = .ok ((.aload_n 0), 1) := by decide +kernel
theorem dX11_doOne_82 : decode cX11_doOne 82 = .ok ((.iload_n 2), 1) := by decide +kernel
theorem dX11_doOne_83 : decode cX11_doOne 83 = .ok ((.invokevirtual 480), 3) := by decide +kernel
theorem dX11_doOne_86 : decode cX11_doOne 86 = .ok ((.ifCond .eq 22), 3) := by decide +kernel
theorem dX11_doOne_89 : decode cX11_doOne 89 = .ok ((.aload_n 0), 1) := by decide +kernel
theorem dX11_doOne_90 : decode cX11_doOne 90 = .ok ((.iload_n 1), 1) := by decide +kernel
theorem dX11_doOne_91 : decode cX11_doOne 91 = .ok ((.iconst 1), 1) := by decide +kernel
theorem dX11_doOne_92 : decode cX11_doOne 92 = .ok (.iadd, 1) := by decide +kernel
theorem dX11_doOne_93 : decode cX11_doOne 93 = .ok ((.aload_n 0), 1) := by decide +kernel
theorem dX11_doOne_94 : decode cX11_doOne 94 = .ok ((.getfield 35), 3) := by decide +kernel
theorem dX11_doOne_97 : decode cX11_doOne 97 = .ok ((.iload_n 2), 1) := by decide +kernel
theorem dX11_doOne_98 : decode cX11_doOne 98 = .ok ((.bipush 8), 2) := by decide +kernel
theorem dX11_doOne_100 : decode cX11_doOne 100 = .ok (.iadd, 1) := by decide +kernel
theorem dX11_doOne_101 : decode cX11_doOne 101 = .ok (.iaload, 1) := by decide +kernel
theorem dX11_doOne_102 : decode cX11_doOne 102 = .ok ((.invokevirtual 483), 3) := by decide +kernel
theorem dX11_doOne_105 : decode cX11_doOne 105 = .ok ((.goto 66), 3) := by decide +kernel
theorem dX11_doOne_108 : decode cX11_doOne 108 = .ok ((.iload_n 3), 1) := by decide +kernel
theorem dX11_doOne_109 : decode cX11_doOne 109 = .ok ((.iconst 5), 1) := by decide +kernel
theorem dX11_doOne_110 : decode cX11_doOne 110 = .ok ((.if_icmp .ne 51), 3) := by decide +kernel
theorem dX11_doOne_113 : decode cX11_doOne 113 = .ok ((.iconst 0), 1) := by decide +kernel
theorem dX11_doOne_114 : decode cX11_doOne 114 = .ok ((.istore 4), 2) := by decide +kernel
theorem dX11_doOne_116 : decode cX11_doOne 116 = .ok ((.iload 4), 2) := by decide +kernel
theorem dX11_doOne_118 : decode cX11_doOne 118 = .ok ((.aload_n 0), 1) := by decide +kernel
theorem dX11_doOne_119 : decode cX11_doOne 119 = .ok ((.getfield 35), 3) := by decide +kernel
theorem dX11_doOne_122 : decode cX11_doOne 122 = .ok ((.iload_n 2), 1) := by decide +kernel
theorem dX11_doOne_123 : decode cX11_doOne 123 = .ok ((.iconst 1), 1) := by decide +kernel
theorem dX11_doOne_124 : decode cX11_doOne 124 = .ok (.iadd, 1) := by decide +kernel
theorem dX11_doOne_125 : decode cX11_doOne 125 = .ok (.iaload, 1) := by decide +kernel
theorem dX11_doOne_126 : decode cX11_doOne 126 = .ok ((.if_icmp .ge 32), 3) := by decide +kernel
theorem dX11_doOne_129 : decode cX11_doOne 129 = .ok ((.aload_n 0), 1) := by decide +kernel
theorem dX11_doOne_130 : decode cX11_doOne 130 = .ok ((.getfield 467), 3) := by decide +kernel
theorem dX11_doOne_133 : decode cX11_doOne 133 = .ok ((.ifCond .ne 25), 3) := by decide +kernel
theorem dX11_doOne_136 : decode cX11_doOne 136 = .ok ((.aload_n 0), 1) := by decide +kernel
theorem dX11_doOne_137 : decode cX11_doOne 137 = .ok ((.iload_n 1), 1) := by decide +kernel
theorem dX11_doOne_138 : decode cX11_doOne 138 = .ok ((.iconst 1), 1) := by decide +kernel
theorem dX11_doOne_139 : decode cX11_doOne 139 = .ok (.iadd, 1) := by decide +kernel
theorem dX11_doOne_140 : decode cX11_doOne 140 = .ok ((.aload_n 0), 1) := by decide +kernel
theorem dX11_doOne_141 : decode cX11_doOne 141 = .ok ((.getfield 35), 3) := by decide +kernel
theorem dX11_doOne_144 : decode cX11_doOne 144 = .ok ((.iload_n 2), 1) := by decide +kernel
theorem dX11_doOne_145 : decode cX11_doOne 145 = .ok ((.bipush 8), 2) := by decide +kernel
theorem dX11_doOne_147 : decode cX11_doOne 147 = .ok (.iadd, 1) := by decide +kernel
theorem dX11_doOne_148 : decode cX11_doOne 148 = .ok (.iaload, 1) := by decide +kernel
theorem dX11_doOne_149 : decode cX11_doOne 149 = .ok ((.invokevirtual 483), 3) := by decide +kernel
theorem dX11_doOne_152 : decode cX11_doOne 152 = .ok ((.iinc 4 1), 3) := by decide +kernel
theorem dX11_doOne_155 : decode cX11_doOne 155 = .ok ((.goto (-39)), 3) := by decide +kernel
theorem dX11_doOne_158 : decode cX11_doOne 158 = .ok ((.goto 13), 3) := by decide +kernel
theorem dX11_doOne_161 : decode cX11_doOne 161 = .ok ((.iload_n 3), 1) := by decide +kernel
theorem dX11_doOne_162 : decode cX11_doOne 162 = .ok ((.iconst 5), 1) := by decide +kernel
theorem dX11_doOne_163 : decode cX11_doOne 163 = .ok ((.if_icmp .le 8), 3) := by decide +kernel
theorem dX11_doOne_166 : decode cX11_doOne 166 = .ok ((.aload_n 0), 1) := by decide +kernel
theorem dX11_doOne_167 : decode cX11_doOne 167 = .ok ((.iconst 1), 1) := by decide +kernel
theorem dX11_doOne_168 : decode cX11_doOne 168 = .ok ((.putfield 467), 3) := by decide +kernel
theorem dX11_doOne_171 : decode cX11_doOne 171 = .ok (.return_, 1) := by decide +kernel
def p_X11_doOne_116  (a1 : Int32) (rc : vSt → Int32 → Int32 → (vSt → Prop) → Prop)  (post : vSt → Prop) : Nat → vSt → Int32 → Int32 → Prop
  | 0 => fun _ _ _ => False
  | fu116 + 1 => fun S x2 x4 => (vp_in (x2 + 1) 1900 ∧ (((S.1 148 (Int32.toNatClampNeg (x2 + 1))) ≤ x4 → post S) ∧ (¬ (S.1 148 (Int32.toNatClampNeg (x2 + 1))) ≤ x4 → ((¬ (S.1 143 34) = 0 → post S) ∧ ((S.1 143 34) = 0 → (vp_in (x2 + 8) 1900 ∧ rc S (a1 + 1) (S.1 148 (Int32.toNatClampNeg (x2 + 8))) (fun S22 => ∀ y23 : Int32, y23 = x4 + 1 → (p_X11_doOne_116 a1 rc post fu116) S22 x2 y23)))))))
theorem e_X11_doOne_116  (a1 : Int32) (rc : vSt → Int32 → Int32 → (vSt → Prop) → Prop)  (post : vSt → Prop) (fu116 : Nat) (S : vSt) (x2 : Int32) (x4 : Int32) : p_X11_doOne_116 a1 rc post (fu116 + 1) S x2 x4 = ((vp_in (x2 + 1) 1900 ∧ (((S.1 148 (Int32.toNatClampNeg (x2 + 1))) ≤ x4 → post S) ∧ (¬ (S.1 148 (Int32.toNatClampNeg (x2 + 1))) ≤ x4 → ((¬ (S.1 143 34) = 0 → post S) ∧ ((S.1 143 34) = 0 → (vp_in (x2 + 8) 1900 ∧ rc S (a1 + 1) (S.1 148 (Int32.toNatClampNeg (x2 + 8))) (fun S22 => ∀ y23 : Int32, y23 = x4 + 1 → (p_X11_doOne_116 a1 rc post fu116) S22 x2 y23)))))))) := rfl
def p_X11_doOne_108  (a1 : Int32) (rc : vSt → Int32 → Int32 → (vSt → Prop) → Prop)  (post : vSt → Prop) (S : vSt) (x2 : Int32) (x3 : Int32) : Prop := ((¬ x3 = 5 → ((x3 ≤ 5 → post S) ∧ (¬ x3 ≤ 5 → ∀ S21, S21 = v_si S 143 34 1 → post S21))) ∧ (x3 = 5 → ∃ fu116, p_X11_doOne_116 a1 rc post fu116 S x2 0))
def p_X11_doOne  (rc : vSt → Int32 → Int32 → (vSt → Prop) → Prop) (S : vSt) (a1 : Int32) (post : vSt → Prop) : Prop := ((¬ (S.1 143 35) = 300 → ∀ S18, S18 = v_si S 143 35 ((S.1 143 35) + 1) → ∀ y19 : Int32, y19 = (110 + (9 * a1)) → (vp_in y19 1900 ∧ ∀ y20 : Int32, y20 = (S18.1 148 (Int32.toNatClampNeg y19)) → ((4 ≤ y20 → ((¬ y20 = 4 → p_X11_doOne_108 a1 rc post S18 y19 y20) ∧ (y20 = 4 → p_X11_isSo  S18 y19 (fun r22 S21 => ((r22 = false → p_X11_doOne_108 a1 rc post S21 y19 y20) ∧ (r22 = true → (vp_in (y19 + 8) 1900 ∧ rc S21 (a1 + 1) (S21.1 148 (Int32.toNatClampNeg (y19 + 8))) (fun S23 => post S23)))))))) ∧ (¬ 4 ≤ y20 → p_X11_does  S18 y19 (fun r25 S24 => ((r25 = false → ∀ S26, S26 = v_si S24 143 36 ((S18.1 143 36) + 1) → post S26) ∧ (r25 = true → ∀ S27, S27 = v_si S24 143 36 ((S18.1 143 36) + 0) → post S27))))))) ∧ ((S.1 143 35) = 300 → ∀ S28, S28 = v_si S 143 34 1 → ∀ S29, S29 = v_si S28 143 40 1 → post S29))
set_option maxHeartbeats 4000000 in
set_option maxRecDepth 100000 in
theorem q_X11_doOne_116 {X : vX} {G : vG} {f0 l0 : Nat} {post : vSt → Prop} (C : v_Cx X G cX11_doOne RX11 5 (v_rm (f0 + 6) (l0 + 175))) (D : v_Rx X G (v_Qv G post) none)  {a1 : Int32} {rc : vSt → Int32 → Int32 → (vSt → Prop) → Prop} (hrc : ∀ (S : vSt) (a1 : Int32) (a2 : Int32) (post : vSt → Prop), rc S a1 a2 post → Met (v_l X) yX11_doAll (v_ws yX11_doAll cX11_doAll 4 none) (v_rm f0 l0) (v_Pc G [.ref (G.1 143), .int a1, .int a2] S) (v_Qv G post) 0 0 (v_A G))  : ∀ (fu : Nat) (S : vSt) (x2 : Int32) (x4 : Int32), p_X11_doOne_116 a1 rc post fu S x2 x4 → VJ X G S 116 [(0, .ref (G.1 143)), (1, .int a1), (2, .int x2), (4, .int x4)] [] := by
  intro fu
  induction fu with
  | zero => intro S x2 x4 h; exact absurd h id
  | succ fu ih =>
    intro S x2 x4 h
    have hK116 := ih
    rw [e_X11_doOne_116] at h
    refine V_iload C 3 dX11_doOne_116 rfl ?_
    refine V_aload_n C 0 dX11_doOne_118 rfl rfl ?_
    refine V_ga C 143 (by decide) (by decide) F_11_20 k_RX11_35 dX11_doOne_119 ?_
    refine V_iload_n C 2 dX11_doOne_122 rfl rfl ?_
    refine V_iconst (v := 1) C dX11_doOne_123 (by decide) ?_
    refine V_iadd C dX11_doOne_124 ?_
    obtain ⟨hi, h⟩ := h
    refine V_iald C 148 1900 (by decide) (by decide) hi dX11_doOne_125 ?_
    refine V_icmp_ge (tgt := 158) C dX11_doOne_126 (by decide) (fun c => ?_) (fun c => ?_)
    · have h := h.1 c
      refine V_goto (tgt := 171) C dX11_doOne_158 (by decide) ?_
      exact V_vret C D dX11_doOne_171 h
    · have h := h.2 c
      refine V_aload_n C 0 dX11_doOne_129 rfl rfl ?_
      refine V_gi C 143 (by decide) (by decide) F_11_34 k_RX11_467 dX11_doOne_130 ?_
      refine V_if_ne (tgt := 158) C dX11_doOne_133 (by decide) (fun c => ?_) (fun c => ?_)
      · have h := h.1 c
        refine V_goto (tgt := 171) C dX11_doOne_158 (by decide) ?_
        exact V_vret C D dX11_doOne_171 h
      · have h := h.2 c
        refine V_aload_n C 0 dX11_doOne_136 rfl rfl ?_
        refine V_iload_n C 1 dX11_doOne_137 rfl rfl ?_
        refine V_iconst (v := 1) C dX11_doOne_138 (by decide) ?_
        refine V_iadd C dX11_doOne_139 ?_
        refine V_aload_n C 0 dX11_doOne_140 rfl rfl ?_
        refine V_ga C 143 (by decide) (by decide) F_11_20 k_RX11_35 dX11_doOne_141 ?_
        refine V_iload_n C 2 dX11_doOne_144 rfl rfl ?_
        refine V_bipush (v := 8) C dX11_doOne_145 (by decide) ?_
        refine V_iadd C dX11_doOne_147 ?_
        obtain ⟨hi, h⟩ := h
        refine V_iald C 148 1900 (by decide) (by decide) hi dX11_doOne_148 ?_
        refine V_callVv (As := [.int (a1 + 1), .int (S.1 148 (Int32.toNatClampNeg (x2 + 8)))]) (rest := []) C (hrc _ _ _ _ h) 143 11 (by decide) (by decide) (by decide) rfl KV_X11_doAll k_RX11_483 rfl rfl rfl (Nat.le_of_ble_eq_true rfl) ⟨by simp only [v_rm]; omega, by simp only [v_rm]; omega⟩ dX11_doOne_149 (fun S22 h => ?_)
        obtain ⟨y23, ey23⟩ : ∃ z : Int32, z = x4 + 1 := ⟨_, rfl⟩
        have h := h y23 ey23
        refine V_iinc (lv' := [(0, .ref (G.1 143)), (1, .int a1), (2, .int x2), (4, .int y23)]) C 3 [1, 2, 3, 0] y23 dX11_doOne_152 rfl (by rw [ey23]; rfl) (by decide) rfl ?_
        refine V_goto (tgt := 116) C dX11_doOne_155 (by decide) ?_
        exact hK116 _ _ _ h
set_option maxHeartbeats 4000000 in
set_option maxRecDepth 100000 in
theorem q_X11_doOne_108 {X : vX} {G : vG} {f0 l0 : Nat} {post : vSt → Prop} (C : v_Cx X G cX11_doOne RX11 5 (v_rm (f0 + 6) (l0 + 175))) (D : v_Rx X G (v_Qv G post) none)  {a1 : Int32} {rc : vSt → Int32 → Int32 → (vSt → Prop) → Prop} (hrc : ∀ (S : vSt) (a1 : Int32) (a2 : Int32) (post : vSt → Prop), rc S a1 a2 post → Met (v_l X) yX11_doAll (v_ws yX11_doAll cX11_doAll 4 none) (v_rm f0 l0) (v_Pc G [.ref (G.1 143), .int a1, .int a2] S) (v_Qv G post) 0 0 (v_A G))  : ∀ (S : vSt) (x2 : Int32) (x3 : Int32), p_X11_doOne_108 a1 rc post S x2 x3 → VJ X G S 108 [(0, .ref (G.1 143)), (1, .int a1), (2, .int x2), (3, .int x3)] [] := by
  intro S x2 x3 h
  refine V_iload_n C 3 dX11_doOne_108 rfl rfl ?_
  refine V_iconst (v := 5) C dX11_doOne_109 (by decide) ?_
  refine V_icmp_ne (tgt := 161) C dX11_doOne_110 (by decide) (fun c => ?_) (fun c => ?_)
  · have h := h.1 c
    refine V_iload_n C 3 dX11_doOne_161 rfl rfl ?_
    refine V_iconst (v := 5) C dX11_doOne_162 (by decide) ?_
    refine V_icmp_le (tgt := 171) C dX11_doOne_163 (by decide) (fun c => ?_) (fun c => ?_)
    · have h := h.1 c
      exact V_vret C D dX11_doOne_171 h
    · have h := h.2 c
      refine V_aload_n C 0 dX11_doOne_166 rfl rfl ?_
      refine V_iconst (v := 1) C dX11_doOne_167 (by decide) ?_
      refine V_pz C 143 (by decide) (by decide) P_11_34 k_RX11_467 v_isb_1 dX11_doOne_168 ?_
      refine V_topS (fun S21 eS21 => ?_)
      have h := h S21 eS21
      exact V_vret C D dX11_doOne_171 h
  · have h := h.2 c
    refine V_iconst (v := 0) C dX11_doOne_113 (by decide) ?_
    refine V_istore (lv' := [(0, .ref (G.1 143)), (1, .int a1), (2, .int x2), (3, .int x3), (4, .int 0)]) C [1, 2, 3, 4, 0] dX11_doOne_114 (by decide) rfl ?_
    refine V_loc (lv' := [(0, .ref (G.1 143)), (1, .int a1), (2, .int x2), (4, .int 0)]) [0, 1, 2, 4] rfl ?_
    obtain ⟨fu116, h⟩ := h
    exact q_X11_doOne_116 C D hrc fu116 _ _ _ h
set_option maxHeartbeats 4000000 in
set_option maxRecDepth 100000 in
theorem c_X11_doOne (l : Launch) (G : vG) {f0 l0 : Nat}  {rc : vSt → Int32 → Int32 → (vSt → Prop) → Prop} (hrc : ∀ (S : vSt) (a1 : Int32) (a2 : Int32) (post : vSt → Prop), rc S a1 a2 post → Met l yX11_doAll (v_ws yX11_doAll cX11_doAll 4 none) (v_rm f0 l0) (v_Pc G [.ref (G.1 143), .int a1, .int a2] S) (v_Qv G post) 0 0 (v_A G)) {S : vSt} (a1 : Int32) (post : vSt → Prop) (h : p_X11_doOne  rc S a1 post) : Met l yX11_doOne (v_ws yX11_doOne cX11_doOne 5 none) (v_rm (f0 + 6) (l0 + 175)) (v_Pc G [.ref (G.1 143), .int a1] S) (v_Qv G post) 0 0 (v_A G) := by
  refine v_start (by decide +kernel) (Nat.le_of_ble_eq_true rfl) (fun X hl C D => ?_)
  subst hl
  have C : v_Cx X G cX11_doOne RX11 5 (v_rm (f0 + 6) (l0 + 175)) := C
  show VJ X G S 0 [(0, .ref (G.1 143)), (1, .int a1)] []
  refine V_aload_n C 0 dX11_doOne_0 rfl rfl ?_
  refine V_gi C 143 (by decide) (by decide) F_11_35 k_RX11_464 dX11_doOne_1 ?_
  refine V_sipush (v := 300) C dX11_doOne_4 (by decide) ?_
  refine V_icmp_ne (tgt := 21) C dX11_doOne_7 (by decide) (fun c => ?_) (fun c => ?_)
  · have h := h.1 c
    refine V_aload_n C 0 dX11_doOne_21 rfl rfl ?_
    refine V_dup C dX11_doOne_22 rfl ?_
    refine V_gi C 143 (by decide) (by decide) F_11_35 k_RX11_464 dX11_doOne_23 ?_
    refine V_iconst (v := 1) C dX11_doOne_26 (by decide) ?_
    refine V_iadd C dX11_doOne_27 ?_
    refine V_pi C 143 (by decide) (by decide) P_11_35 k_RX11_464 dX11_doOne_28 ?_
    refine V_topS (fun S18 eS18 => ?_)
    have h := h S18 eS18
    refine V_bipush (v := 110) C dX11_doOne_31 (by decide) ?_
    refine V_bipush (v := 9) C dX11_doOne_33 (by decide) ?_
    refine V_iload_n C 1 dX11_doOne_35 rfl rfl ?_
    refine V_imul C dX11_doOne_36 ?_
    refine V_iadd C dX11_doOne_37 ?_
    refine V_topi (fun y19 ey19 => ?_)
    have h := h y19 ey19
    refine V_istore_n (lv' := [(0, .ref (G.1 143)), (1, .int a1), (2, .int y19)]) C [1, 2, 0] dX11_doOne_38 rfl (by decide) rfl ?_
    refine V_aload_n C 0 dX11_doOne_39 rfl rfl ?_
    refine V_ga C 143 (by decide) (by decide) F_11_20 k_RX11_35 dX11_doOne_40 ?_
    refine V_iload_n C 2 dX11_doOne_43 rfl rfl ?_
    obtain ⟨hi, h⟩ := h
    refine V_iald C 148 1900 (by decide) (by decide) hi dX11_doOne_44 ?_
    refine V_topi (fun y20 ey20 => ?_)
    have h := h y20 ey20
    refine V_istore_n (lv' := [(0, .ref (G.1 143)), (1, .int a1), (2, .int y19), (3, .int y20)]) C [1, 2, 3, 0] dX11_doOne_45 rfl (by decide) rfl ?_
    refine V_iload_n C 3 dX11_doOne_46 rfl rfl ?_
    refine V_iconst (v := 4) C dX11_doOne_47 (by decide) ?_
    refine V_icmp_ge (tgt := 76) C dX11_doOne_48 (by decide) (fun c => ?_) (fun c => ?_)
    · have h := h.1 c
      refine V_iload_n C 3 dX11_doOne_76 rfl rfl ?_
      refine V_iconst (v := 4) C dX11_doOne_77 (by decide) ?_
      refine V_icmp_ne (tgt := 108) C dX11_doOne_78 (by decide) (fun c => ?_) (fun c => ?_)
      · have h := h.1 c
        exact q_X11_doOne_108 C D hrc _ _ _ h
      · have h := h.2 c
        refine V_aload_n C 0 dX11_doOne_81 rfl rfl ?_
        refine V_iload_n C 2 dX11_doOne_82 rfl rfl ?_
        refine V_callVz (As := [.int y19]) (rest := []) C (c_X11_isSo (v_l X) G  _ _ h) 143 11 (by decide) (by decide) (by decide) rfl KV_X11_isSo k_RX11_480 rfl rfl rfl (Nat.le_of_ble_eq_true rfl) ⟨by simp only [v_rm]; omega, by simp only [v_rm]; omega⟩ dX11_doOne_83 (fun r22 S21 h => ?_)
        refine V_ifb_eq (tgt := 108) C dX11_doOne_86 (by decide) (fun c => ?_) (fun c => ?_)
        · have h := h.1 c
          exact q_X11_doOne_108 C D hrc _ _ _ h
        · have h := h.2 c
          refine V_aload_n C 0 dX11_doOne_89 rfl rfl ?_
          refine V_iload_n C 1 dX11_doOne_90 rfl rfl ?_
          refine V_iconst (v := 1) C dX11_doOne_91 (by decide) ?_
          refine V_iadd C dX11_doOne_92 ?_
          refine V_aload_n C 0 dX11_doOne_93 rfl rfl ?_
          refine V_ga C 143 (by decide) (by decide) F_11_20 k_RX11_35 dX11_doOne_94 ?_
          refine V_iload_n C 2 dX11_doOne_97 rfl rfl ?_
          refine V_bipush (v := 8) C dX11_doOne_98 (by decide) ?_
          refine V_iadd C dX11_doOne_100 ?_
          obtain ⟨hi, h⟩ := h
          refine V_iald C 148 1900 (by decide) (by decide) hi dX11_doOne_101 ?_
          refine V_callVv (As := [.int (a1 + 1), .int (S21.1 148 (Int32.toNatClampNeg (y19 + 8)))]) (rest := []) C (hrc _ _ _ _ h) 143 11 (by decide) (by decide) (by decide) rfl KV_X11_doAll k_RX11_483 rfl rfl rfl (Nat.le_of_ble_eq_true rfl) ⟨by simp only [v_rm]; omega, by simp only [v_rm]; omega⟩ dX11_doOne_102 (fun S23 h => ?_)
          refine V_goto (tgt := 171) C dX11_doOne_105 (by decide) ?_
          exact V_vret C D dX11_doOne_171 h
    · have h := h.2 c
      refine V_aload_n C 0 dX11_doOne_51 rfl rfl ?_
      refine V_dup C dX11_doOne_52 rfl ?_
      refine V_gi C 143 (by decide) (by decide) F_11_36 k_RX11_474 dX11_doOne_53 ?_
      refine V_aload_n C 0 dX11_doOne_56 rfl rfl ?_
      refine V_iload_n C 2 dX11_doOne_57 rfl rfl ?_
      refine V_callVz (As := [.int y19]) (rest := [.int (S18.1 143 36), .ref (G.1 143)]) C (c_X11_does (v_l X) G  _ _ h) 143 11 (by decide) (by decide) (by decide) rfl KV_X11_does k_RX11_477 rfl rfl rfl (Nat.le_of_ble_eq_true rfl) ⟨by simp only [v_rm]; omega, by simp only [v_rm]; omega⟩ dX11_doOne_58 (fun r25 S24 h => ?_)
      refine V_ifb_eq (tgt := 68) C dX11_doOne_61 (by decide) (fun c => ?_) (fun c => ?_)
      · have h := h.1 c
        refine V_iconst (v := 1) C dX11_doOne_68 (by decide) ?_
        refine V_iadd C dX11_doOne_69 ?_
        refine V_pi C 143 (by decide) (by decide) P_11_36 k_RX11_474 dX11_doOne_70 ?_
        refine V_topS (fun S26 eS26 => ?_)
        have h := h S26 eS26
        refine V_goto (tgt := 171) C dX11_doOne_73 (by decide) ?_
        exact V_vret C D dX11_doOne_171 h
      · have h := h.2 c
        refine V_iconst (v := 0) C dX11_doOne_64 (by decide) ?_
        refine V_goto (tgt := 69) C dX11_doOne_65 (by decide) ?_
        refine V_iadd C dX11_doOne_69 ?_
        refine V_pi C 143 (by decide) (by decide) P_11_36 k_RX11_474 dX11_doOne_70 ?_
        refine V_topS (fun S27 eS27 => ?_)
        have h := h S27 eS27
        refine V_goto (tgt := 171) C dX11_doOne_73 (by decide) ?_
        exact V_vret C D dX11_doOne_171 h
  · have h := h.2 c
    refine V_aload_n C 0 dX11_doOne_10 rfl rfl ?_
    refine V_iconst (v := 1) C dX11_doOne_11 (by decide) ?_
    refine V_pz C 143 (by decide) (by decide) P_11_34 k_RX11_467 v_isb_1 dX11_doOne_12 ?_
    refine V_topS (fun S28 eS28 => ?_)
    have h := h S28 eS28
    refine V_aload_n C 0 dX11_doOne_15 rfl rfl ?_
    refine V_iconst (v := 1) C dX11_doOne_16 (by decide) ?_
    refine V_pi C 143 (by decide) (by decide) P_11_40 k_RX11_471 dX11_doOne_17 ?_
    refine V_topS (fun S29 eS29 => ?_)
    have h := h S29 eS29
    exact V_vret C D dX11_doOne_20 h
/-! HalfAccuserModel.doAll(II)V -/
theorem dX11_doAll_0 : decode cX11_doAll 0 = .ok ((.iload_n 1), 1) := by decide +kernel
theorem dX11_doAll_1 : decode cX11_doAll 1 = .ok ((.istore_n 3), 1) := by decide +kernel
theorem dX11_doAll_2 : decode cX11_doAll 2 = .ok ((.iload_n 3), 1) := by decide +kernel
theorem dX11_doAll_3 : decode cX11_doAll 3 = .ok ((.iload_n 2), 1) := by decide +kernel
theorem dX11_doAll_4 : decode cX11_doAll 4 = .ok ((.if_icmp .ge 34), 3) := by decide +kernel
theorem dX11_doAll_7 : decode cX11_doAll 7 = .ok ((.aload_n 0), 1) := by decide +kernel
theorem dX11_doAll_8 : decode cX11_doAll 8 = .ok ((.getfield 467), 3) := by decide +kernel
theorem dX11_doAll_11 : decode cX11_doAll 11 = .ok ((.ifCond .ne 27), 3) := by decide +kernel
theorem dX11_doAll_14 : decode cX11_doAll 14 = .ok ((.aload_n 0), 1) := by decide +kernel
theorem dX11_doAll_15 : decode cX11_doAll 15 = .ok ((.iload_n 3), 1) := by decide +kernel
theorem dX11_doAll_16 : decode cX11_doAll 16 = .ok ((.invokevirtual 486), 3) := by decide +kernel
theorem dX11_doAll_19 : decode cX11_doAll 19 = .ok ((.aload_n 0), 1) := by decide +kernel
theorem dX11_doAll_20 : decode cX11_doAll 20 = .ok ((.getfield 35), 3) := by decide +kernel
theorem dX11_doAll_23 : decode cX11_doAll 23 = .ok ((.bipush 110), 2) := by decide +kernel
theorem dX11_doAll_25 : decode cX11_doAll 25 = .ok ((.bipush 9), 2) := by decide +kernel
theorem dX11_doAll_27 : decode cX11_doAll 27 = .ok ((.iload_n 3), 1) := by decide +kernel
theorem dX11_doAll_28 : decode cX11_doAll 28 = .ok (.imul, 1) := by decide +kernel
theorem dX11_doAll_29 : decode cX11_doAll 29 = .ok (.iadd, 1) := by decide +kernel
theorem dX11_doAll_30 : decode cX11_doAll 30 = .ok ((.bipush 8), 2) := by decide +kernel
theorem dX11_doAll_32 : decode cX11_doAll 32 = .ok (.iadd, 1) := by decide +kernel
theorem dX11_doAll_33 : decode cX11_doAll 33 = .ok (.iaload, 1) := by decide +kernel
theorem dX11_doAll_34 : decode cX11_doAll 34 = .ok ((.istore_n 3), 1) := by decide +kernel
theorem dX11_doAll_35 : decode cX11_doAll 35 = .ok ((.goto (-33)), 3) := by decide +kernel
theorem dX11_doAll_38 : decode cX11_doAll 38 = .ok (.return_, 1) := by decide +kernel
def p_X11_doAll_2  (a1 : Int32) (a2 : Int32) (rc : vSt → Int32 → Int32 → (vSt → Prop) → Prop)  (post : vSt → Prop) : Nat → vSt → Int32 → Prop
  | 0 => fun _ _ => False
  | fu2 + 1 => fun S x3 => ((a2 ≤ x3 → post S) ∧ (¬ a2 ≤ x3 → ((¬ (S.1 143 34) = 0 → post S) ∧ ((S.1 143 34) = 0 → p_X11_doOne rc S x3 (fun S5 => (vp_in ((110 + (9 * x3)) + 8) 1900 ∧ ∀ y6 : Int32, y6 = (S5.1 148 (Int32.toNatClampNeg ((110 + (9 * x3)) + 8))) → (p_X11_doAll_2 a1 a2 rc post fu2) S5 y6))))))
theorem e_X11_doAll_2  (a1 : Int32) (a2 : Int32) (rc : vSt → Int32 → Int32 → (vSt → Prop) → Prop)  (post : vSt → Prop) (fu2 : Nat) (S : vSt) (x3 : Int32) : p_X11_doAll_2 a1 a2 rc post (fu2 + 1) S x3 = (((a2 ≤ x3 → post S) ∧ (¬ a2 ≤ x3 → ((¬ (S.1 143 34) = 0 → post S) ∧ ((S.1 143 34) = 0 → p_X11_doOne rc S x3 (fun S5 => (vp_in ((110 + (9 * x3)) + 8) 1900 ∧ ∀ y6 : Int32, y6 = (S5.1 148 (Int32.toNatClampNeg ((110 + (9 * x3)) + 8))) → (p_X11_doAll_2 a1 a2 rc post fu2) S5 y6))))))) := rfl
def pb_X11_doAll  (rc : vSt → Int32 → Int32 → (vSt → Prop) → Prop) (S : vSt) (a1 : Int32) (a2 : Int32) (post : vSt → Prop) : Prop := ∃ fu2, p_X11_doAll_2 a1 a2 rc post fu2 S a1
set_option maxHeartbeats 4000000 in
set_option maxRecDepth 100000 in
theorem q_X11_doAll_2 {X : vX} {G : vG} {f0 l0 : Nat} {post : vSt → Prop} (C : v_Cx X G cX11_doAll RX11 4 (v_rm (f0 + 7) (l0 + 199))) (D : v_Rx X G (v_Qv G post) none)  {a1 : Int32} {a2 : Int32} {rc : vSt → Int32 → Int32 → (vSt → Prop) → Prop} (hrc : ∀ (S : vSt) (a1 : Int32) (a2 : Int32) (post : vSt → Prop), rc S a1 a2 post → Met (v_l X) yX11_doAll (v_ws yX11_doAll cX11_doAll 4 none) (v_rm f0 l0) (v_Pc G [.ref (G.1 143), .int a1, .int a2] S) (v_Qv G post) 0 0 (v_A G))  : ∀ (fu : Nat) (S : vSt) (x3 : Int32), p_X11_doAll_2 a1 a2 rc post fu S x3 → VJ X G S 2 [(0, .ref (G.1 143)), (2, .int a2), (3, .int x3)] [] := by
  intro fu
  induction fu with
  | zero => intro S x3 h; exact absurd h id
  | succ fu ih =>
    intro S x3 h
    have hK2 := ih
    rw [e_X11_doAll_2] at h
    refine V_iload_n C 2 dX11_doAll_2 rfl rfl ?_
    refine V_iload_n C 1 dX11_doAll_3 rfl rfl ?_
    refine V_icmp_ge (tgt := 38) C dX11_doAll_4 (by decide) (fun c => ?_) (fun c => ?_)
    · have h := h.1 c
      exact V_vret C D dX11_doAll_38 h
    · have h := h.2 c
      refine V_aload_n C 0 dX11_doAll_7 rfl rfl ?_
      refine V_gi C 143 (by decide) (by decide) F_11_34 k_RX11_467 dX11_doAll_8 ?_
      refine V_if_ne (tgt := 38) C dX11_doAll_11 (by decide) (fun c => ?_) (fun c => ?_)
      · have h := h.1 c
        exact V_vret C D dX11_doAll_38 h
      · have h := h.2 c
        refine V_aload_n C 0 dX11_doAll_14 rfl rfl ?_
        refine V_iload_n C 2 dX11_doAll_15 rfl rfl ?_
        refine V_callVv (As := [.int x3]) (rest := []) C (c_X11_doOne (v_l X) G hrc _ _ h) 143 11 (by decide) (by decide) (by decide) rfl KV_X11_doOne k_RX11_486 rfl rfl rfl (Nat.le_of_ble_eq_true rfl) ⟨by simp only [v_rm]; omega, by simp only [v_rm]; omega⟩ dX11_doAll_16 (fun S5 h => ?_)
        refine V_aload_n C 0 dX11_doAll_19 rfl rfl ?_
        refine V_ga C 143 (by decide) (by decide) F_11_20 k_RX11_35 dX11_doAll_20 ?_
        refine V_bipush (v := 110) C dX11_doAll_23 (by decide) ?_
        refine V_bipush (v := 9) C dX11_doAll_25 (by decide) ?_
        refine V_iload_n C 2 dX11_doAll_27 rfl rfl ?_
        refine V_imul C dX11_doAll_28 ?_
        refine V_iadd C dX11_doAll_29 ?_
        refine V_bipush (v := 8) C dX11_doAll_30 (by decide) ?_
        refine V_iadd C dX11_doAll_32 ?_
        obtain ⟨hi, h⟩ := h
        refine V_iald C 148 1900 (by decide) (by decide) hi dX11_doAll_33 ?_
        refine V_topi (fun y6 ey6 => ?_)
        have h := h y6 ey6
        refine V_istore_n (lv' := [(0, .ref (G.1 143)), (2, .int a2), (3, .int y6)]) C [1, 2, 0] dX11_doAll_34 rfl (by decide) rfl ?_
        refine V_goto (tgt := 2) C dX11_doAll_35 (by decide) ?_
        exact hK2 _ _ h
set_option maxHeartbeats 4000000 in
set_option maxRecDepth 100000 in
theorem co_X11_doAll (l : Launch) (G : vG) {f0 l0 : Nat}  {rc : vSt → Int32 → Int32 → (vSt → Prop) → Prop} (hrc : ∀ (S : vSt) (a1 : Int32) (a2 : Int32) (post : vSt → Prop), rc S a1 a2 post → Met l yX11_doAll (v_ws yX11_doAll cX11_doAll 4 none) (v_rm f0 l0) (v_Pc G [.ref (G.1 143), .int a1, .int a2] S) (v_Qv G post) 0 0 (v_A G)) {S : vSt} (a1 : Int32) (a2 : Int32) (post : vSt → Prop) (h : pb_X11_doAll  rc S a1 a2 post) : Met l yX11_doAll (v_ws yX11_doAll cX11_doAll 4 none) (v_rm (f0 + 7) (l0 + 199)) (v_Pc G [.ref (G.1 143), .int a1, .int a2] S) (v_Qv G post) 0 0 (v_A G) := by
  refine v_start (by decide +kernel) (Nat.le_of_ble_eq_true rfl) (fun X hl C D => ?_)
  subst hl
  have C : v_Cx X G cX11_doAll RX11 4 (v_rm (f0 + 7) (l0 + 199)) := C
  show VJ X G S 0 [(0, .ref (G.1 143)), (1, .int a1), (2, .int a2)] []
  refine V_iload_n C 1 dX11_doAll_0 rfl rfl ?_
  refine V_istore_n (lv' := [(0, .ref (G.1 143)), (1, .int a1), (2, .int a2), (3, .int a1)]) C [1, 2, 3, 0] dX11_doAll_1 rfl (by decide) rfl ?_
  refine V_loc (lv' := [(0, .ref (G.1 143)), (2, .int a2), (3, .int a1)]) [0, 2, 3] rfl ?_
  obtain ⟨fu2, h⟩ := h
  exact q_X11_doAll_2 C D hrc fu2 _ _ h
def p_X11_doAll : Nat → vSt → Int32 → Int32 → (vSt → Prop) → Prop
  | 0 => fun _ _ _ _ => False
  | d + 1 => fun S a1 a2 post => pb_X11_doAll (p_X11_doAll d) S a1 a2 post
theorem c_X11_doAll (d : Nat) : ∀ (l : Launch) (G : vG) {S : vSt} (a1 : Int32) (a2 : Int32) (post : vSt → Prop) (h : p_X11_doAll d S a1 a2 post), Met l yX11_doAll (v_ws yX11_doAll cX11_doAll 4 none) (v_rm (7 * d) (199 * d)) (v_Pc G [.ref (G.1 143), .int a1, .int a2] S) (v_Qv G post) 0 0 (v_A G) := by
  induction d with
  | zero => intro l G S a1 a2 post h; exact absurd h id
  | succ d ih =>
    intro l G S a1 a2 post h
    exact co_X11_doAll l G (rc := p_X11_doAll d) (f0 := 7 * d) (l0 := 199 * d) (fun S a1 a2 post h => ih l G a1 a2 post h) a1 a2 post h
/-! HalfAccuserModel.runsYears(I)V -/
theorem dX11_runsYears_0 : decode cX11_runsYears 0 = .ok ((.aload_n 0), 1) := by decide +kernel
theorem dX11_runsYears_1 : decode cX11_runsYears 1 = .ok ((.iload_n 1), 1) := by decide +kernel
theorem dX11_runsYears_2 : decode cX11_runsYears 2 = .ok ((.putfield 344), 3) := by decide +kernel
theorem dX11_runsYears_5 : decode cX11_runsYears 5 = .ok ((.aload_n 0), 1) := by decide +kernel
theorem dX11_runsYears_6 : decode cX11_runsYears 6 = .ok ((.iconst 0), 1) := by decide +kernel
theorem dX11_runsYears_7 : decode cX11_runsYears 7 = .ok ((.putfield 464), 3) := by decide +kernel
theorem dX11_runsYears_10 : decode cX11_runsYears 10 = .ok ((.aload_n 0), 1) := by decide +kernel
theorem dX11_runsYears_11 : decode cX11_runsYears 11 = .ok ((.iconst 0), 1) := by decide +kernel
theorem dX11_runsYears_12 : decode cX11_runsYears 12 = .ok ((.putfield 474), 3) := by decide +kernel
theorem dX11_runsYears_15 : decode cX11_runsYears 15 = .ok ((.aload_n 0), 1) := by decide +kernel
theorem dX11_runsYears_16 : decode cX11_runsYears 16 = .ok ((.iconst 0), 1) := by decide +kernel
theorem dX11_runsYears_17 : decode cX11_runsYears 17 = .ok ((.putfield 449), 3) := by decide +kernel
theorem dX11_runsYears_20 : decode cX11_runsYears 20 = .ok ((.aload_n 0), 1) := by decide +kernel
theorem dX11_runsYears_21 : decode cX11_runsYears 21 = .ok ((.iconst 0), 1) := by decide +kernel
theorem dX11_runsYears_22 : decode cX11_runsYears 22 = .ok ((.putfield 452), 3) := by decide +kernel
theorem dX11_runsYears_25 : decode cX11_runsYears 25 = .ok ((.aload_n 0), 1) := by decide +kernel
theorem dX11_runsYears_26 : decode cX11_runsYears 26 = .ok ((.iconst 0), 1) := by decide +kernel
theorem dX11_runsYears_27 : decode cX11_runsYears 27 = .ok ((.putfield 455), 3) := by decide +kernel
theorem dX11_runsYears_30 : decode cX11_runsYears 30 = .ok ((.aload_n 0), 1) := by decide +kernel
theorem dX11_runsYears_31 : decode cX11_runsYears 31 = .ok ((.iconst 0), 1) := by decide +kernel
theorem dX11_runsYears_32 : decode cX11_runsYears 32 = .ok ((.putfield 471), 3) := by decide +kernel
theorem dX11_runsYears_35 : decode cX11_runsYears 35 = .ok ((.aload_n 0), 1) := by decide +kernel
theorem dX11_runsYears_36 : decode cX11_runsYears 36 = .ok ((.iconst 0), 1) := by decide +kernel
theorem dX11_runsYears_37 : decode cX11_runsYears 37 = .ok ((.putfield 467), 3) := by decide +kernel
theorem dX11_runsYears_40 : decode cX11_runsYears 40 = .ok ((.aload_n 0), 1) := by decide +kernel
theorem dX11_runsYears_41 : decode cX11_runsYears 41 = .ok ((.iconst 0), 1) := by decide +kernel
theorem dX11_runsYears_42 : decode cX11_runsYears 42 = .ok ((.aload_n 0), 1) := by decide +kernel
theorem dX11_runsYears_43 : decode cX11_runsYears 43 = .ok ((.getfield 35), 3) := by decide +kernel
theorem dX11_runsYears_46 : decode cX11_runsYears 46 = .ok ((.bipush 109), 2) := by decide +kernel
theorem dX11_runsYears_48 : decode cX11_runsYears 48 = .ok (.iaload, 1) := by decide +kernel
theorem dX11_runsYears_49 : decode cX11_runsYears 49 = .ok ((.invokevirtual 483), 3) := by decide +kernel
theorem dX11_runsYears_52 : decode cX11_runsYears 52 = .ok (.return_, 1) := by decide +kernel
def p_X11_runsYears   (S : vSt) (a1 : Int32) (post : vSt → Prop) : Prop := ∀ S10, S10 = v_si S 143 26 a1 → ∀ S11, S11 = v_si S10 143 35 0 → ∀ S12, S12 = v_si S11 143 36 0 → ∀ S13, S13 = v_si S12 143 37 0 → ∀ S14, S14 = v_si S13 143 38 0 → ∀ S15, S15 = v_si S14 143 39 0 → ∀ S16, S16 = v_si S15 143 40 0 → ∀ S17, S17 = v_si S16 143 34 0 → (vp_in 109 1900 ∧ p_X11_doAll 8 S17 0 (S17.1 148 (Int32.toNatClampNeg 109)) (fun S18 => post S18))
set_option maxHeartbeats 4000000 in
set_option maxRecDepth 100000 in
theorem c_X11_runsYears (l : Launch) (G : vG)    {S : vSt} (a1 : Int32) (post : vSt → Prop) (h : p_X11_runsYears   S a1 post) : Met l yX11_runsYears (v_ws yX11_runsYears cX11_runsYears 2 none) (v_rm 57 1615) (v_Pc G [.ref (G.1 143), .int a1] S) (v_Qv G post) 0 0 (v_A G) := by
  refine v_start (by decide +kernel) (Nat.le_of_ble_eq_true rfl) (fun X hl C D => ?_)
  subst hl
  have C : v_Cx X G cX11_runsYears RX11 2 (v_rm 57 1615) := C
  show VJ X G S 0 [(0, .ref (G.1 143)), (1, .int a1)] []
  refine V_aload_n C 0 dX11_runsYears_0 rfl rfl ?_
  refine V_iload_n C 1 dX11_runsYears_1 rfl rfl ?_
  refine V_pi C 143 (by decide) (by decide) P_11_26 k_RX11_344 dX11_runsYears_2 ?_
  refine V_topS (fun S10 eS10 => ?_)
  have h := h S10 eS10
  refine V_aload_n C 0 dX11_runsYears_5 rfl rfl ?_
  refine V_iconst (v := 0) C dX11_runsYears_6 (by decide) ?_
  refine V_pi C 143 (by decide) (by decide) P_11_35 k_RX11_464 dX11_runsYears_7 ?_
  refine V_topS (fun S11 eS11 => ?_)
  have h := h S11 eS11
  refine V_aload_n C 0 dX11_runsYears_10 rfl rfl ?_
  refine V_iconst (v := 0) C dX11_runsYears_11 (by decide) ?_
  refine V_pi C 143 (by decide) (by decide) P_11_36 k_RX11_474 dX11_runsYears_12 ?_
  refine V_topS (fun S12 eS12 => ?_)
  have h := h S12 eS12
  refine V_aload_n C 0 dX11_runsYears_15 rfl rfl ?_
  refine V_iconst (v := 0) C dX11_runsYears_16 (by decide) ?_
  refine V_pi C 143 (by decide) (by decide) P_11_37 k_RX11_449 dX11_runsYears_17 ?_
  refine V_topS (fun S13 eS13 => ?_)
  have h := h S13 eS13
  refine V_aload_n C 0 dX11_runsYears_20 rfl rfl ?_
  refine V_iconst (v := 0) C dX11_runsYears_21 (by decide) ?_
  refine V_pi C 143 (by decide) (by decide) P_11_38 k_RX11_452 dX11_runsYears_22 ?_
  refine V_topS (fun S14 eS14 => ?_)
  have h := h S14 eS14
  refine V_aload_n C 0 dX11_runsYears_25 rfl rfl ?_
  refine V_iconst (v := 0) C dX11_runsYears_26 (by decide) ?_
  refine V_pi C 143 (by decide) (by decide) P_11_39 k_RX11_455 dX11_runsYears_27 ?_
  refine V_topS (fun S15 eS15 => ?_)
  have h := h S15 eS15
  refine V_aload_n C 0 dX11_runsYears_30 rfl rfl ?_
  refine V_iconst (v := 0) C dX11_runsYears_31 (by decide) ?_
  refine V_pi C 143 (by decide) (by decide) P_11_40 k_RX11_471 dX11_runsYears_32 ?_
  refine V_topS (fun S16 eS16 => ?_)
  have h := h S16 eS16
  refine V_aload_n C 0 dX11_runsYears_35 rfl rfl ?_
  refine V_iconst (v := 0) C dX11_runsYears_36 (by decide) ?_
  refine V_pz C 143 (by decide) (by decide) P_11_34 k_RX11_467 v_isb_0 dX11_runsYears_37 ?_
  refine V_topS (fun S17 eS17 => ?_)
  have h := h S17 eS17
  refine V_aload_n C 0 dX11_runsYears_40 rfl rfl ?_
  refine V_iconst (v := 0) C dX11_runsYears_41 (by decide) ?_
  refine V_aload_n C 0 dX11_runsYears_42 rfl rfl ?_
  refine V_ga C 143 (by decide) (by decide) F_11_20 k_RX11_35 dX11_runsYears_43 ?_
  refine V_bipush (v := 109) C dX11_runsYears_46 (by decide) ?_
  obtain ⟨hi, h⟩ := h
  refine V_iald C 148 1900 (by decide) (by decide) hi dX11_runsYears_48 ?_
  refine V_callVv (As := [.int 0, .int (S17.1 148 (Int32.toNatClampNeg 109))]) (rest := []) C (c_X11_doAll 8 (v_l X) G  _ _ _ h) 143 11 (by decide) (by decide) (by decide) rfl KV_X11_doAll k_RX11_483 rfl rfl rfl (Nat.le_of_ble_eq_true rfl) ⟨Nat.le_of_ble_eq_true rfl, Nat.le_of_ble_eq_true rfl⟩ dX11_runsYears_49 (fun S18 h => ?_)
  exact V_vret C D dX11_runsYears_52 h
/-! HalfAccuserModel.live(I)I -/
theorem dX11_live_0 : decode cX11_live 0 = .ok ((.aload_n 0), 1) := by decide +kernel
theorem dX11_live_1 : decode cX11_live 1 = .ok ((.iconst 0), 1) := by decide +kernel
theorem dX11_live_2 : decode cX11_live 2 = .ok ((.putfield 60), 3) := by decide +kernel
theorem dX11_live_5 : decode cX11_live 5 = .ok ((.aload_n 0), 1) := by decide +kernel
theorem dX11_live_6 : decode cX11_live 6 = .ok ((.iconst 0), 1) := by decide +kernel
theorem dX11_live_7 : decode cX11_live 7 = .ok ((.putfield 63), 3) := by decide +kernel
theorem dX11_live_10 : decode cX11_live 10 = .ok ((.iload_n 1), 1) := by decide +kernel
theorem dX11_live_11 : decode cX11_live 11 = .ok (.i2l, 1) := by decide +kernel
theorem dX11_live_12 : decode cX11_live 12 = .ok ((.lconst 0), 1) := by decide +kernel
theorem dX11_live_13 : decode cX11_live 13 = .ok ((.ldc2_w 354), 3) := by decide +kernel
theorem dX11_live_16 : decode cX11_live 16 = .ok ((.invokestatic 95), 3) := by decide +kernel
theorem dX11_live_19 : decode cX11_live 19 = .ok ((.ifCond .ne 9), 3) := by decide +kernel
theorem dX11_live_22 : decode cX11_live 22 = .ok ((.aload_n 0), 1) := by decide +kernel
theorem dX11_live_23 : decode cX11_live 23 = .ok ((.iconst 5), 1) := by decide +kernel
theorem dX11_live_24 : decode cX11_live 24 = .ok ((.invokevirtual 303), 3) := by decide +kernel
theorem dX11_live_27 : decode cX11_live 27 = .ok (.ireturn, 1) := by decide +kernel
theorem dX11_live_28 : decode cX11_live 28 = .ok ((.aload_n 0), 1) := by decide +kernel
theorem dX11_live_29 : decode cX11_live 29 = .ok ((.getfield 35), 3) := by decide +kernel
theorem dX11_live_32 : decode cX11_live 32 = .ok ((.bipush 108), 2) := by decide +kernel
theorem dX11_live_34 : decode cX11_live 34 = .ok (.iaload, 1) := by decide +kernel
theorem dX11_live_35 : decode cX11_live 35 = .ok ((.ifCond .ne 10), 3) := by decide +kernel
theorem dX11_live_38 : decode cX11_live 38 = .ok ((.aload_n 0), 1) := by decide +kernel
theorem dX11_live_39 : decode cX11_live 39 = .ok ((.bipush 8), 2) := by decide +kernel
theorem dX11_live_41 : decode cX11_live 41 = .ok ((.invokevirtual 303), 3) := by decide +kernel
theorem dX11_live_44 : decode cX11_live 44 = .ok (.ireturn, 1) := by decide +kernel
theorem dX11_live_45 : decode cX11_live 45 = .ok ((.aload_n 0), 1) := by decide +kernel
theorem dX11_live_46 : decode cX11_live 46 = .ok ((.iload_n 1), 1) := by decide +kernel
theorem dX11_live_47 : decode cX11_live 47 = .ok ((.invokevirtual 489), 3) := by decide +kernel
theorem dX11_live_50 : decode cX11_live 50 = .ok ((.aload_n 0), 1) := by decide +kernel
theorem dX11_live_51 : decode cX11_live 51 = .ok ((.getfield 53), 3) := by decide +kernel
theorem dX11_live_54 : decode cX11_live 54 = .ok ((.iconst 0), 1) := by decide +kernel
theorem dX11_live_55 : decode cX11_live 55 = .ok ((.aload_n 0), 1) := by decide +kernel
theorem dX11_live_56 : decode cX11_live 56 = .ok ((.getfield 474), 3) := by decide +kernel
theorem dX11_live_59 : decode cX11_live 59 = .ok (.iastore, 1) := by decide +kernel
theorem dX11_live_60 : decode cX11_live 60 = .ok ((.aload_n 0), 1) := by decide +kernel
theorem dX11_live_61 : decode cX11_live 61 = .ok ((.getfield 53), 3) := by decide +kernel
theorem dX11_live_64 : decode cX11_live 64 = .ok ((.iconst 1), 1) := by decide +kernel
theorem dX11_live_65 : decode cX11_live 65 = .ok ((.aload_n 0), 1) := by decide +kernel
theorem dX11_live_66 : decode cX11_live 66 = .ok ((.getfield 449), 3) := by decide +kernel
theorem dX11_live_69 : decode cX11_live 69 = .ok (.iastore, 1) := by decide +kernel
theorem dX11_live_70 : decode cX11_live 70 = .ok ((.aload_n 0), 1) := by decide +kernel
theorem dX11_live_71 : decode cX11_live 71 = .ok ((.getfield 53), 3) := by decide +kernel
theorem dX11_live_74 : decode cX11_live 74 = .ok ((.iconst 2), 1) := by decide +kernel
theorem dX11_live_75 : decode cX11_live 75 = .ok ((.aload_n 0), 1) := by decide +kernel
theorem dX11_live_76 : decode cX11_live 76 = .ok ((.getfield 452), 3) := by decide +kernel
theorem dX11_live_79 : decode cX11_live 79 = .ok (.iastore, 1) := by decide +kernel
theorem dX11_live_80 : decode cX11_live 80 = .ok ((.aload_n 0), 1) := by decide +kernel
theorem dX11_live_81 : decode cX11_live 81 = .ok ((.getfield 53), 3) := by decide +kernel
theorem dX11_live_84 : decode cX11_live 84 = .ok ((.iconst 3), 1) := by decide +kernel
theorem dX11_live_85 : decode cX11_live 85 = .ok ((.aload_n 0), 1) := by decide +kernel
theorem dX11_live_86 : decode cX11_live 86 = .ok ((.getfield 455), 3) := by decide +kernel
theorem dX11_live_89 : decode cX11_live 89 = .ok (.iastore, 1) := by decide +kernel
theorem dX11_live_90 : decode cX11_live 90 = .ok ((.aload_n 0), 1) := by decide +kernel
theorem dX11_live_91 : decode cX11_live 91 = .ok ((.getfield 53), 3) := by decide +kernel
theorem dX11_live_94 : decode cX11_live 94 = .ok ((.iconst 4), 1) := by decide +kernel
theorem dX11_live_95 : decode cX11_live 95 = .ok ((.aload_n 0), 1) := by decide +kernel
theorem dX11_live_96 : decode cX11_live 96 = .ok ((.getfield 471), 3) := by decide +kernel
theorem dX11_live_99 : decode cX11_live 99 = .ok (.iastore, 1) := by decide +kernel
theorem dX11_live_100 : decode cX11_live 100 = .ok ((.aload_n 0), 1) := by decide +kernel
theorem dX11_live_101 : decode cX11_live 101 = .ok ((.iconst 1), 1) := by decide +kernel
theorem dX11_live_102 : decode cX11_live 102 = .ok ((.putfield 492), 3) := by decide +kernel
theorem dX11_live_105 : decode cX11_live 105 = .ok ((.aload_n 0), 1) := by decide +kernel
theorem dX11_live_106 : decode cX11_live 106 = .ok ((.getfield 464), 3) := by decide +kernel
theorem dX11_live_109 : decode cX11_live 109 = .ok (.ireturn, 1) := by decide +kernel
def p_X11_live   (S : vSt) (a1 : Int32) (post : Int32 → vSt → Prop) : Prop := ∀ S16, S16 = v_si S 143 1 0 → ∀ S17, S17 = v_si S16 143 0 0 → p_X11_isIn  S17 (Int32.toInt64 a1) 0 9999 (fun r19 S18 => ((r19 = true → (vp_in 108 1900 ∧ ((¬ (S18.1 148 (Int32.toNatClampNeg 108)) = 0 → p_X11_runsYears  S18 a1 (fun S20 => (vp_in 0 5 ∧ ∀ S21, S21 = v_si S20 154 (Int32.toNatClampNeg 0) (S20.1 143 36) → (vp_in 1 5 ∧ ∀ S22, S22 = v_si S21 154 (Int32.toNatClampNeg 1) (S21.1 143 37) → (vp_in 2 5 ∧ ∀ S23, S23 = v_si S22 154 (Int32.toNatClampNeg 2) (S22.1 143 38) → (vp_in 3 5 ∧ ∀ S24, S24 = v_si S23 154 (Int32.toNatClampNeg 3) (S23.1 143 39) → (vp_in 4 5 ∧ ∀ S25, S25 = v_si S24 154 (Int32.toNatClampNeg 4) (S24.1 143 40) → ∀ S26, S26 = v_si S25 143 33 1 → post (S26.1 143 35) S26))))))) ∧ ((S18.1 148 (Int32.toNatClampNeg 108)) = 0 → p_X11_refuse  S18 8 (fun r28 S27 => post r28 S27))))) ∧ (r19 = false → p_X11_refuse  S18 5 (fun r30 S29 => post r30 S29))))
set_option maxHeartbeats 4000000 in
set_option maxRecDepth 100000 in
theorem c_X11_live (l : Launch) (G : vG)    {S : vSt} (a1 : Int32) (post : Int32 → vSt → Prop) (h : p_X11_live   S a1 post) : Met l yX11_live (v_ws yX11_live cX11_live 2 (some .int)) (v_rm 58 1636) (v_Pc G [.ref (G.1 143), .int a1] S) (v_Qi G post) 0 0 (v_A G) := by
  refine v_start (by decide +kernel) (Nat.le_of_ble_eq_true rfl) (fun X hl C D => ?_)
  subst hl
  have C : v_Cx X G cX11_live RX11 2 (v_rm 58 1636) := C
  show VJ X G S 0 [(0, .ref (G.1 143)), (1, .int a1)] []
  refine V_aload_n C 0 dX11_live_0 rfl rfl ?_
  refine V_iconst (v := 0) C dX11_live_1 (by decide) ?_
  refine V_pi C 143 (by decide) (by decide) P_11_1 k_RX11_60 dX11_live_2 ?_
  refine V_topS (fun S16 eS16 => ?_)
  have h := h S16 eS16
  refine V_aload_n C 0 dX11_live_5 rfl rfl ?_
  refine V_iconst (v := 0) C dX11_live_6 (by decide) ?_
  refine V_pi C 143 (by decide) (by decide) P_11_0 k_RX11_63 dX11_live_7 ?_
  refine V_topS (fun S17 eS17 => ?_)
  have h := h S17 eS17
  refine V_iload_n C 1 dX11_live_10 rfl rfl ?_
  refine V_i2l C dX11_live_11 ?_
  refine V_lconst (v := 0) C dX11_live_12 (by decide) ?_
  refine V_ldc2 (v := 9999) C k_RX11_354 dX11_live_13 ?_
  refine V_callSz (As := [.long (Int32.toInt64 a1), .long 0, .long 9999]) (rest := []) C (c_X11_isIn (v_l X) G  _ _ _ _ h) KV_X11_isIn k_RX11_95 rfl rfl rfl (Nat.le_of_ble_eq_true rfl) ⟨Nat.le_of_ble_eq_true rfl, Nat.le_of_ble_eq_true rfl⟩ dX11_live_16 (fun r19 S18 h => ?_)
  refine V_ifb_ne (tgt := 28) C dX11_live_19 (by decide) (fun c => ?_) (fun c => ?_)
  · have h := h.1 c
    refine V_aload_n C 0 dX11_live_28 rfl rfl ?_
    refine V_ga C 143 (by decide) (by decide) F_11_20 k_RX11_35 dX11_live_29 ?_
    refine V_bipush (v := 108) C dX11_live_32 (by decide) ?_
    obtain ⟨hi, h⟩ := h
    refine V_iald C 148 1900 (by decide) (by decide) hi dX11_live_34 ?_
    refine V_if_ne (tgt := 45) C dX11_live_35 (by decide) (fun c => ?_) (fun c => ?_)
    · have h := h.1 c
      refine V_aload_n C 0 dX11_live_45 rfl rfl ?_
      refine V_iload_n C 1 dX11_live_46 rfl rfl ?_
      refine V_callVv (As := [.int a1]) (rest := []) C (c_X11_runsYears (v_l X) G  _ _ h) 143 11 (by decide) (by decide) (by decide) rfl KV_X11_runsYears k_RX11_489 rfl rfl rfl (Nat.le_of_ble_eq_true rfl) ⟨Nat.le_of_ble_eq_true rfl, Nat.le_of_ble_eq_true rfl⟩ dX11_live_47 (fun S20 h => ?_)
      refine V_aload_n C 0 dX11_live_50 rfl rfl ?_
      refine V_ga C 143 (by decide) (by decide) F_11_32 k_RX11_53 dX11_live_51 ?_
      refine V_iconst (v := 0) C dX11_live_54 (by decide) ?_
      refine V_aload_n C 0 dX11_live_55 rfl rfl ?_
      refine V_gi C 143 (by decide) (by decide) F_11_36 k_RX11_474 dX11_live_56 ?_
      obtain ⟨hi, h⟩ := h
      refine V_iast C 154 5 (by decide) (by decide) hi dX11_live_59 ?_
      refine V_topS (fun S21 eS21 => ?_)
      have h := h S21 eS21
      refine V_aload_n C 0 dX11_live_60 rfl rfl ?_
      refine V_ga C 143 (by decide) (by decide) F_11_32 k_RX11_53 dX11_live_61 ?_
      refine V_iconst (v := 1) C dX11_live_64 (by decide) ?_
      refine V_aload_n C 0 dX11_live_65 rfl rfl ?_
      refine V_gi C 143 (by decide) (by decide) F_11_37 k_RX11_449 dX11_live_66 ?_
      obtain ⟨hi, h⟩ := h
      refine V_iast C 154 5 (by decide) (by decide) hi dX11_live_69 ?_
      refine V_topS (fun S22 eS22 => ?_)
      have h := h S22 eS22
      refine V_aload_n C 0 dX11_live_70 rfl rfl ?_
      refine V_ga C 143 (by decide) (by decide) F_11_32 k_RX11_53 dX11_live_71 ?_
      refine V_iconst (v := 2) C dX11_live_74 (by decide) ?_
      refine V_aload_n C 0 dX11_live_75 rfl rfl ?_
      refine V_gi C 143 (by decide) (by decide) F_11_38 k_RX11_452 dX11_live_76 ?_
      obtain ⟨hi, h⟩ := h
      refine V_iast C 154 5 (by decide) (by decide) hi dX11_live_79 ?_
      refine V_topS (fun S23 eS23 => ?_)
      have h := h S23 eS23
      refine V_aload_n C 0 dX11_live_80 rfl rfl ?_
      refine V_ga C 143 (by decide) (by decide) F_11_32 k_RX11_53 dX11_live_81 ?_
      refine V_iconst (v := 3) C dX11_live_84 (by decide) ?_
      refine V_aload_n C 0 dX11_live_85 rfl rfl ?_
      refine V_gi C 143 (by decide) (by decide) F_11_39 k_RX11_455 dX11_live_86 ?_
      obtain ⟨hi, h⟩ := h
      refine V_iast C 154 5 (by decide) (by decide) hi dX11_live_89 ?_
      refine V_topS (fun S24 eS24 => ?_)
      have h := h S24 eS24
      refine V_aload_n C 0 dX11_live_90 rfl rfl ?_
      refine V_ga C 143 (by decide) (by decide) F_11_32 k_RX11_53 dX11_live_91 ?_
      refine V_iconst (v := 4) C dX11_live_94 (by decide) ?_
      refine V_aload_n C 0 dX11_live_95 rfl rfl ?_
      refine V_gi C 143 (by decide) (by decide) F_11_40 k_RX11_471 dX11_live_96 ?_
      obtain ⟨hi, h⟩ := h
      refine V_iast C 154 5 (by decide) (by decide) hi dX11_live_99 ?_
      refine V_topS (fun S25 eS25 => ?_)
      have h := h S25 eS25
      refine V_aload_n C 0 dX11_live_100 rfl rfl ?_
      refine V_iconst (v := 1) C dX11_live_101 (by decide) ?_
      refine V_pz C 143 (by decide) (by decide) P_11_33 k_RX11_492 v_isb_1 dX11_live_102 ?_
      refine V_topS (fun S26 eS26 => ?_)
      have h := h S26 eS26
      refine V_aload_n C 0 dX11_live_105 rfl rfl ?_
      refine V_gi C 143 (by decide) (by decide) F_11_35 k_RX11_464 dX11_live_106 ?_
      exact V_iret C D dX11_live_109 h
    · have h := h.2 c
      refine V_aload_n C 0 dX11_live_38 rfl rfl ?_
      refine V_bipush (v := 8) C dX11_live_39 (by decide) ?_
      refine V_callVi (As := [.int 8]) (rest := []) C (c_X11_refuse (v_l X) G  _ _ h) 143 11 (by decide) (by decide) (by decide) rfl KV_X11_refuse k_RX11_303 rfl rfl rfl (Nat.le_of_ble_eq_true rfl) ⟨Nat.le_of_ble_eq_true rfl, Nat.le_of_ble_eq_true rfl⟩ dX11_live_41 (fun r28 S27 h => ?_)
      exact V_iret C D dX11_live_44 h
  · have h := h.2 c
    refine V_aload_n C 0 dX11_live_22 rfl rfl ?_
    refine V_iconst (v := 5) C dX11_live_23 (by decide) ?_
    refine V_callVi (As := [.int 5]) (rest := []) C (c_X11_refuse (v_l X) G  _ _ h) 143 11 (by decide) (by decide) (by decide) rfl KV_X11_refuse k_RX11_303 rfl rfl rfl (Nat.le_of_ble_eq_true rfl) ⟨Nat.le_of_ble_eq_true rfl, Nat.le_of_ble_eq_true rfl⟩ dX11_live_24 (fun r30 S29 h => ?_)
    exact V_iret C D dX11_live_27 h
