/-! the constructors -/
set_option maxHeartbeats 4000000 in
set_option maxRecDepth 100000 in
theorem i_X8_init (l : Launch) (G : vG) (h0 sz : Nat) (post : va_W → Prop) (h : ∀ q1 q2 q3 q4 q5 q6 : Nat, post [(h0, .inr (8, [.ref q1, .ref q2, .ref q3, .ref q4, .ref q5, .ref q6, .int 0, .int 0, .int 0])), (q1, .inl (G.2.2.2.1, 60, .inl (fun _ => 0))), (q2, .inl (G.2.2.2.1, 60, .inl (fun _ => 0))), (q3, .inl (G.2.2.2.1, 60, .inl (fun _ => 0))), (q4, .inl (G.2.2.2.1, 60, .inl (fun _ => 0))), (q5, .inl (G.2.2.2.1, 60, .inl (fun _ => 0))), (q6, .inl (G.2.2.2.1, 60, .inl (fun _ => 0)))]) : Met l yX8_init (v_ws yX8_init cX8_init 1 none) (n_rm 1 60 6 360) (n_Pc G [.ref h0] [(h0, .inr (8, [.null, .null, .null, .null, .null, .null, .int 0, .int 0, .int 0]))] sz) (n_Qv G [(h0, .inr (8, [.null, .null, .null, .null, .null, .null, .int 0, .int 0, .int 0]))] sz post) 6 360 (va_A [(h0, .inr (8, [.null, .null, .null, .null, .null, .null, .int 0, .int 0, .int 0]))] sz) := by
  refine n_start (by decide +kernel) (Nat.le_of_ble_eq_true rfl) (fun X hl hin C D => ?_)
  subst hl
  have C : n_Cx X G cX8_init RX8 1 (n_rm 1 60 6 360) := C
  have hin : (v_meth X).name = "<init>" := hin
  show NJ X G [(h0, .inr (8, [.null, .null, .null, .null, .null, .null, .int 0, .int 0, .int 0]))] 0 0 0 [(0, .ref h0)] []
  refine N_aload_n C 0 dX8_init_0 rfl rfl ?_
  refine N_objInit C km_RX8_5 (Nat.le_of_ble_eq_true rfl) (Nat.le_of_ble_eq_true rfl) dX8_init_1 ?_
  refine N_aload_n C 0 dX8_init_4 rfl rfl ?_
  refine N_bipush (v := 60) C dX8_init_5 (by decide) ?_
  refine N_newi (N := 60) C (by decide) (by decide +kernel) (by decide) (Nat.le_of_ble_eq_true rfl) (Nat.le_of_ble_eq_true rfl) dX8_init_7 (fun q1 => ?_)
  refine N_ws (ws' := [(h0, .inr (8, [.null, .null, .null, .null, .null, .null, .int 0, .int 0, .int 0])), (q1, .inl (G.2.2.2.1, 60, .inl (fun _ => 0)))]) rfl ?_
  refine N_putF (ci := 8) (T := TX8) (N := 9) C hin 0 rfl rfl inlX8 tyX8_ok nmX8 0 (by decide) rfl kf_RX8_11 rfl rfl (tyX8_ok 0 (by decide)) rfl rfl (Nat.le_of_ble_eq_true rfl) dX8_init_9 ?_
  refine N_ws (ws' := [(h0, .inr (8, [.ref q1, .null, .null, .null, .null, .null, .int 0, .int 0, .int 0])), (q1, .inl (G.2.2.2.1, 60, .inl (fun _ => 0)))]) rfl ?_
  refine N_aload_n C 0 dX8_init_12 rfl rfl ?_
  refine N_bipush (v := 60) C dX8_init_13 (by decide) ?_
  refine N_newi (N := 60) C (by decide) (by decide +kernel) (by decide) (Nat.le_of_ble_eq_true rfl) (Nat.le_of_ble_eq_true rfl) dX8_init_15 (fun q2 => ?_)
  refine N_ws (ws' := [(h0, .inr (8, [.ref q1, .null, .null, .null, .null, .null, .int 0, .int 0, .int 0])), (q1, .inl (G.2.2.2.1, 60, .inl (fun _ => 0))), (q2, .inl (G.2.2.2.1, 60, .inl (fun _ => 0)))]) rfl ?_
  refine N_putF (ci := 8) (T := TX8) (N := 9) C hin 0 rfl rfl inlX8 tyX8_ok nmX8 1 (by decide) rfl kf_RX8_15 rfl rfl (tyX8_ok 1 (by decide)) rfl rfl (Nat.le_of_ble_eq_true rfl) dX8_init_17 ?_
  refine N_ws (ws' := [(h0, .inr (8, [.ref q1, .ref q2, .null, .null, .null, .null, .int 0, .int 0, .int 0])), (q1, .inl (G.2.2.2.1, 60, .inl (fun _ => 0))), (q2, .inl (G.2.2.2.1, 60, .inl (fun _ => 0)))]) rfl ?_
  refine N_aload_n C 0 dX8_init_20 rfl rfl ?_
  refine N_bipush (v := 60) C dX8_init_21 (by decide) ?_
  refine N_newi (N := 60) C (by decide) (by decide +kernel) (by decide) (Nat.le_of_ble_eq_true rfl) (Nat.le_of_ble_eq_true rfl) dX8_init_23 (fun q3 => ?_)
  refine N_ws (ws' := [(h0, .inr (8, [.ref q1, .ref q2, .null, .null, .null, .null, .int 0, .int 0, .int 0])), (q1, .inl (G.2.2.2.1, 60, .inl (fun _ => 0))), (q2, .inl (G.2.2.2.1, 60, .inl (fun _ => 0))), (q3, .inl (G.2.2.2.1, 60, .inl (fun _ => 0)))]) rfl ?_
  refine N_putF (ci := 8) (T := TX8) (N := 9) C hin 0 rfl rfl inlX8 tyX8_ok nmX8 2 (by decide) rfl kf_RX8_18 rfl rfl (tyX8_ok 2 (by decide)) rfl rfl (Nat.le_of_ble_eq_true rfl) dX8_init_25 ?_
  refine N_ws (ws' := [(h0, .inr (8, [.ref q1, .ref q2, .ref q3, .null, .null, .null, .int 0, .int 0, .int 0])), (q1, .inl (G.2.2.2.1, 60, .inl (fun _ => 0))), (q2, .inl (G.2.2.2.1, 60, .inl (fun _ => 0))), (q3, .inl (G.2.2.2.1, 60, .inl (fun _ => 0)))]) rfl ?_
  refine N_aload_n C 0 dX8_init_28 rfl rfl ?_
  refine N_bipush (v := 60) C dX8_init_29 (by decide) ?_
  refine N_newi (N := 60) C (by decide) (by decide +kernel) (by decide) (Nat.le_of_ble_eq_true rfl) (Nat.le_of_ble_eq_true rfl) dX8_init_31 (fun q4 => ?_)
  refine N_ws (ws' := [(h0, .inr (8, [.ref q1, .ref q2, .ref q3, .null, .null, .null, .int 0, .int 0, .int 0])), (q1, .inl (G.2.2.2.1, 60, .inl (fun _ => 0))), (q2, .inl (G.2.2.2.1, 60, .inl (fun _ => 0))), (q3, .inl (G.2.2.2.1, 60, .inl (fun _ => 0))), (q4, .inl (G.2.2.2.1, 60, .inl (fun _ => 0)))]) rfl ?_
  refine N_putF (ci := 8) (T := TX8) (N := 9) C hin 0 rfl rfl inlX8 tyX8_ok nmX8 3 (by decide) rfl kf_RX8_21 rfl rfl (tyX8_ok 3 (by decide)) rfl rfl (Nat.le_of_ble_eq_true rfl) dX8_init_33 ?_
  refine N_ws (ws' := [(h0, .inr (8, [.ref q1, .ref q2, .ref q3, .ref q4, .null, .null, .int 0, .int 0, .int 0])), (q1, .inl (G.2.2.2.1, 60, .inl (fun _ => 0))), (q2, .inl (G.2.2.2.1, 60, .inl (fun _ => 0))), (q3, .inl (G.2.2.2.1, 60, .inl (fun _ => 0))), (q4, .inl (G.2.2.2.1, 60, .inl (fun _ => 0)))]) rfl ?_
  refine N_aload_n C 0 dX8_init_36 rfl rfl ?_
  refine N_bipush (v := 60) C dX8_init_37 (by decide) ?_
  refine N_newi (N := 60) C (by decide) (by decide +kernel) (by decide) (Nat.le_of_ble_eq_true rfl) (Nat.le_of_ble_eq_true rfl) dX8_init_39 (fun q5 => ?_)
  refine N_ws (ws' := [(h0, .inr (8, [.ref q1, .ref q2, .ref q3, .ref q4, .null, .null, .int 0, .int 0, .int 0])), (q1, .inl (G.2.2.2.1, 60, .inl (fun _ => 0))), (q2, .inl (G.2.2.2.1, 60, .inl (fun _ => 0))), (q3, .inl (G.2.2.2.1, 60, .inl (fun _ => 0))), (q4, .inl (G.2.2.2.1, 60, .inl (fun _ => 0))), (q5, .inl (G.2.2.2.1, 60, .inl (fun _ => 0)))]) rfl ?_
  refine N_putF (ci := 8) (T := TX8) (N := 9) C hin 0 rfl rfl inlX8 tyX8_ok nmX8 4 (by decide) rfl kf_RX8_24 rfl rfl (tyX8_ok 4 (by decide)) rfl rfl (Nat.le_of_ble_eq_true rfl) dX8_init_41 ?_
  refine N_ws (ws' := [(h0, .inr (8, [.ref q1, .ref q2, .ref q3, .ref q4, .ref q5, .null, .int 0, .int 0, .int 0])), (q1, .inl (G.2.2.2.1, 60, .inl (fun _ => 0))), (q2, .inl (G.2.2.2.1, 60, .inl (fun _ => 0))), (q3, .inl (G.2.2.2.1, 60, .inl (fun _ => 0))), (q4, .inl (G.2.2.2.1, 60, .inl (fun _ => 0))), (q5, .inl (G.2.2.2.1, 60, .inl (fun _ => 0)))]) rfl ?_
  refine N_aload_n C 0 dX8_init_44 rfl rfl ?_
  refine N_bipush (v := 60) C dX8_init_45 (by decide) ?_
  refine N_newi (N := 60) C (by decide) (by decide +kernel) (by decide) (Nat.le_of_ble_eq_true rfl) (Nat.le_of_ble_eq_true rfl) dX8_init_47 (fun q6 => ?_)
  refine N_ws (ws' := [(h0, .inr (8, [.ref q1, .ref q2, .ref q3, .ref q4, .ref q5, .null, .int 0, .int 0, .int 0])), (q1, .inl (G.2.2.2.1, 60, .inl (fun _ => 0))), (q2, .inl (G.2.2.2.1, 60, .inl (fun _ => 0))), (q3, .inl (G.2.2.2.1, 60, .inl (fun _ => 0))), (q4, .inl (G.2.2.2.1, 60, .inl (fun _ => 0))), (q5, .inl (G.2.2.2.1, 60, .inl (fun _ => 0))), (q6, .inl (G.2.2.2.1, 60, .inl (fun _ => 0)))]) rfl ?_
  refine N_putF (ci := 8) (T := TX8) (N := 9) C hin 0 rfl rfl inlX8 tyX8_ok nmX8 5 (by decide) rfl kf_RX8_27 rfl rfl (tyX8_ok 5 (by decide)) rfl rfl (Nat.le_of_ble_eq_true rfl) dX8_init_49 ?_
  refine N_ws (ws' := [(h0, .inr (8, [.ref q1, .ref q2, .ref q3, .ref q4, .ref q5, .ref q6, .int 0, .int 0, .int 0])), (q1, .inl (G.2.2.2.1, 60, .inl (fun _ => 0))), (q2, .inl (G.2.2.2.1, 60, .inl (fun _ => 0))), (q3, .inl (G.2.2.2.1, 60, .inl (fun _ => 0))), (q4, .inl (G.2.2.2.1, 60, .inl (fun _ => 0))), (q5, .inl (G.2.2.2.1, 60, .inl (fun _ => 0))), (q6, .inl (G.2.2.2.1, 60, .inl (fun _ => 0)))]) rfl ?_
  exact N_vret C D (Nat.le_of_ble_eq_true rfl) (Nat.le_of_ble_eq_true rfl) dX8_init_52 (h q1 q2 q3 q4 q5 q6)
set_option maxHeartbeats 4000000 in
set_option maxRecDepth 100000 in
theorem i_X0_init (l : Launch) (G : vG) (h0 sz : Nat) (post : va_W → Prop) (h : ∀ q1 q2 q3 q4 q5 q6 q7 q8 q9 q10 q11 q12 q13 q14 q15 q16 q17 q18 q19 q20 q21 : Nat, post [(h0, .inr (0, [.ref q1, .ref q2, .ref q3, .ref q4, .ref q5, .ref q6, .ref q7, .ref q8, .ref q9, .ref q10, .ref q11, .ref q12, .ref q13, .ref q14, .ref q15, .int 0, .int 0, .int 0, .int 0])), (q1, .inl (G.2.2.2.1, 4, .inl (n_fr))), (q2, .inl (G.2.2.2.2.1, 8, .inr (.inl (fun _ => 0)))), (q3, .inl (G.2.2.2.1, 8, .inl (fun _ => 0))), (q4, .inl (G.2.2.2.1, 8, .inl (fun _ => 0))), (q5, .inl (G.2.2.2.1, 8, .inl (fun _ => 0))), (q6, .inl (G.2.2.2.1, 8, .inl (fun _ => 0))), (q7, .inl (G.2.2.2.1, 8, .inl (fun _ => 0))), (q8, .inl (G.2.2.2.2.1, 10, .inr (.inl (fun _ => 0)))), (q9, .inl (G.2.2.2.1, 10, .inl (fun _ => 0))), (q10, .inl (G.2.2.2.1, 10, .inl (fun _ => 0))), (q11, .inl (G.2.2.2.1, 10, .inl (fun _ => 0))), (q12, .inl (G.2.2.2.1, 10, .inl (fun _ => 0))), (q13, .inl (G.2.2.2.1, 10, .inl (fun _ => 0))), (q14, .inl (G.2.2.2.1, 10, .inl (fun _ => 0))), (q15, .inr (8, [.ref q16, .ref q17, .ref q18, .ref q19, .ref q20, .ref q21, .int 0, .int 0, .int 0])), (q16, .inl (G.2.2.2.1, 60, .inl (fun _ => 0))), (q17, .inl (G.2.2.2.1, 60, .inl (fun _ => 0))), (q18, .inl (G.2.2.2.1, 60, .inl (fun _ => 0))), (q19, .inl (G.2.2.2.1, 60, .inl (fun _ => 0))), (q20, .inl (G.2.2.2.1, 60, .inl (fun _ => 0))), (q21, .inl (G.2.2.2.1, 60, .inl (fun _ => 0)))]) : Met l yX0_init (v_ws yX0_init cX0_init 1 none) (n_rm 3 170 21 491) (n_Pc G [.ref h0] [(h0, .inr (0, [.null, .null, .null, .null, .null, .null, .null, .null, .null, .null, .null, .null, .null, .null, .null, .int 0, .int 0, .int 0, .int 0]))] sz) (n_Qv G [(h0, .inr (0, [.null, .null, .null, .null, .null, .null, .null, .null, .null, .null, .null, .null, .null, .null, .null, .int 0, .int 0, .int 0, .int 0]))] sz post) 21 491 (va_A [(h0, .inr (0, [.null, .null, .null, .null, .null, .null, .null, .null, .null, .null, .null, .null, .null, .null, .null, .int 0, .int 0, .int 0, .int 0]))] sz) := by
  refine n_start (by decide +kernel) (Nat.le_of_ble_eq_true rfl) (fun X hl hin C D => ?_)
  subst hl
  have C : n_Cx X G cX0_init RX0 1 (n_rm 3 170 21 491) := C
  have hin : (v_meth X).name = "<init>" := hin
  show NJ X G [(h0, .inr (0, [.null, .null, .null, .null, .null, .null, .null, .null, .null, .null, .null, .null, .null, .null, .null, .int 0, .int 0, .int 0, .int 0]))] 0 0 0 [(0, .ref h0)] []
  refine N_aload_n C 0 dX0_init_0 rfl rfl ?_
  refine N_objInit C km_RX0_3 (Nat.le_of_ble_eq_true rfl) (Nat.le_of_ble_eq_true rfl) dX0_init_1 ?_
  refine N_aload_n C 0 dX0_init_4 rfl rfl ?_
  refine N_iconst (v := 4) C dX0_init_5 (by decide) ?_
  refine N_newi (N := 4) C (by decide) (by decide +kernel) (by decide) (Nat.le_of_ble_eq_true rfl) (Nat.le_of_ble_eq_true rfl) dX0_init_6 (fun q1 => ?_)
  refine N_ws (ws' := [(h0, .inr (0, [.null, .null, .null, .null, .null, .null, .null, .null, .null, .null, .null, .null, .null, .null, .null, .int 0, .int 0, .int 0, .int 0])), (q1, .inl (G.2.2.2.1, 4, .inl (fun _ => 0)))]) rfl ?_
  refine N_putF (ci := 0) (T := TX0) (N := 19) C hin 0 rfl rfl inlX0 tyX0_ok nmX0 0 (by decide) rfl kf_RX0_9 rfl rfl (tyX0_ok 0 (by decide)) rfl rfl (Nat.le_of_ble_eq_true rfl) dX0_init_8 ?_
  refine N_ws (ws' := [(h0, .inr (0, [.ref q1, .null, .null, .null, .null, .null, .null, .null, .null, .null, .null, .null, .null, .null, .null, .int 0, .int 0, .int 0, .int 0])), (q1, .inl (G.2.2.2.1, 4, .inl (fun _ => 0)))]) rfl ?_
  refine N_aload_n C 0 dX0_init_11 rfl rfl ?_
  refine N_bipush (v := 8) C dX0_init_12 (by decide) ?_
  refine N_newl (N := 8) C (by decide) (by decide +kernel) (by decide) (Nat.le_of_ble_eq_true rfl) (Nat.le_of_ble_eq_true rfl) dX0_init_14 (fun q2 => ?_)
  refine N_ws (ws' := [(h0, .inr (0, [.ref q1, .null, .null, .null, .null, .null, .null, .null, .null, .null, .null, .null, .null, .null, .null, .int 0, .int 0, .int 0, .int 0])), (q1, .inl (G.2.2.2.1, 4, .inl (fun _ => 0))), (q2, .inl (G.2.2.2.2.1, 8, .inr (.inl (fun _ => 0))))]) rfl ?_
  refine N_putF (ci := 0) (T := TX0) (N := 19) C hin 0 rfl rfl inlX0 tyX0_ok nmX0 1 (by decide) rfl kf_RX0_15 rfl rfl (tyX0_ok 1 (by decide)) rfl rfl (Nat.le_of_ble_eq_true rfl) dX0_init_16 ?_
  refine N_ws (ws' := [(h0, .inr (0, [.ref q1, .ref q2, .null, .null, .null, .null, .null, .null, .null, .null, .null, .null, .null, .null, .null, .int 0, .int 0, .int 0, .int 0])), (q1, .inl (G.2.2.2.1, 4, .inl (fun _ => 0))), (q2, .inl (G.2.2.2.2.1, 8, .inr (.inl (fun _ => 0))))]) rfl ?_
  refine N_aload_n C 0 dX0_init_19 rfl rfl ?_
  refine N_bipush (v := 8) C dX0_init_20 (by decide) ?_
  refine N_newi (N := 8) C (by decide) (by decide +kernel) (by decide) (Nat.le_of_ble_eq_true rfl) (Nat.le_of_ble_eq_true rfl) dX0_init_22 (fun q3 => ?_)
  refine N_ws (ws' := [(h0, .inr (0, [.ref q1, .ref q2, .null, .null, .null, .null, .null, .null, .null, .null, .null, .null, .null, .null, .null, .int 0, .int 0, .int 0, .int 0])), (q1, .inl (G.2.2.2.1, 4, .inl (fun _ => 0))), (q2, .inl (G.2.2.2.2.1, 8, .inr (.inl (fun _ => 0)))), (q3, .inl (G.2.2.2.1, 8, .inl (fun _ => 0)))]) rfl ?_
  refine N_putF (ci := 0) (T := TX0) (N := 19) C hin 0 rfl rfl inlX0 tyX0_ok nmX0 2 (by decide) rfl kf_RX0_19 rfl rfl (tyX0_ok 2 (by decide)) rfl rfl (Nat.le_of_ble_eq_true rfl) dX0_init_24 ?_
  refine N_ws (ws' := [(h0, .inr (0, [.ref q1, .ref q2, .ref q3, .null, .null, .null, .null, .null, .null, .null, .null, .null, .null, .null, .null, .int 0, .int 0, .int 0, .int 0])), (q1, .inl (G.2.2.2.1, 4, .inl (fun _ => 0))), (q2, .inl (G.2.2.2.2.1, 8, .inr (.inl (fun _ => 0)))), (q3, .inl (G.2.2.2.1, 8, .inl (fun _ => 0)))]) rfl ?_
  refine N_aload_n C 0 dX0_init_27 rfl rfl ?_
  refine N_bipush (v := 8) C dX0_init_28 (by decide) ?_
  refine N_newi (N := 8) C (by decide) (by decide +kernel) (by decide) (Nat.le_of_ble_eq_true rfl) (Nat.le_of_ble_eq_true rfl) dX0_init_30 (fun q4 => ?_)
  refine N_ws (ws' := [(h0, .inr (0, [.ref q1, .ref q2, .ref q3, .null, .null, .null, .null, .null, .null, .null, .null, .null, .null, .null, .null, .int 0, .int 0, .int 0, .int 0])), (q1, .inl (G.2.2.2.1, 4, .inl (fun _ => 0))), (q2, .inl (G.2.2.2.2.1, 8, .inr (.inl (fun _ => 0)))), (q3, .inl (G.2.2.2.1, 8, .inl (fun _ => 0))), (q4, .inl (G.2.2.2.1, 8, .inl (fun _ => 0)))]) rfl ?_
  refine N_putF (ci := 0) (T := TX0) (N := 19) C hin 0 rfl rfl inlX0 tyX0_ok nmX0 3 (by decide) rfl kf_RX0_22 rfl rfl (tyX0_ok 3 (by decide)) rfl rfl (Nat.le_of_ble_eq_true rfl) dX0_init_32 ?_
  refine N_ws (ws' := [(h0, .inr (0, [.ref q1, .ref q2, .ref q3, .ref q4, .null, .null, .null, .null, .null, .null, .null, .null, .null, .null, .null, .int 0, .int 0, .int 0, .int 0])), (q1, .inl (G.2.2.2.1, 4, .inl (fun _ => 0))), (q2, .inl (G.2.2.2.2.1, 8, .inr (.inl (fun _ => 0)))), (q3, .inl (G.2.2.2.1, 8, .inl (fun _ => 0))), (q4, .inl (G.2.2.2.1, 8, .inl (fun _ => 0)))]) rfl ?_
  refine N_aload_n C 0 dX0_init_35 rfl rfl ?_
  refine N_bipush (v := 8) C dX0_init_36 (by decide) ?_
  refine N_newi (N := 8) C (by decide) (by decide +kernel) (by decide) (Nat.le_of_ble_eq_true rfl) (Nat.le_of_ble_eq_true rfl) dX0_init_38 (fun q5 => ?_)
  refine N_ws (ws' := [(h0, .inr (0, [.ref q1, .ref q2, .ref q3, .ref q4, .null, .null, .null, .null, .null, .null, .null, .null, .null, .null, .null, .int 0, .int 0, .int 0, .int 0])), (q1, .inl (G.2.2.2.1, 4, .inl (fun _ => 0))), (q2, .inl (G.2.2.2.2.1, 8, .inr (.inl (fun _ => 0)))), (q3, .inl (G.2.2.2.1, 8, .inl (fun _ => 0))), (q4, .inl (G.2.2.2.1, 8, .inl (fun _ => 0))), (q5, .inl (G.2.2.2.1, 8, .inl (fun _ => 0)))]) rfl ?_
  refine N_putF (ci := 0) (T := TX0) (N := 19) C hin 0 rfl rfl inlX0 tyX0_ok nmX0 4 (by decide) rfl kf_RX0_25 rfl rfl (tyX0_ok 4 (by decide)) rfl rfl (Nat.le_of_ble_eq_true rfl) dX0_init_40 ?_
  refine N_ws (ws' := [(h0, .inr (0, [.ref q1, .ref q2, .ref q3, .ref q4, .ref q5, .null, .null, .null, .null, .null, .null, .null, .null, .null, .null, .int 0, .int 0, .int 0, .int 0])), (q1, .inl (G.2.2.2.1, 4, .inl (fun _ => 0))), (q2, .inl (G.2.2.2.2.1, 8, .inr (.inl (fun _ => 0)))), (q3, .inl (G.2.2.2.1, 8, .inl (fun _ => 0))), (q4, .inl (G.2.2.2.1, 8, .inl (fun _ => 0))), (q5, .inl (G.2.2.2.1, 8, .inl (fun _ => 0)))]) rfl ?_
  refine N_aload_n C 0 dX0_init_43 rfl rfl ?_
  refine N_bipush (v := 8) C dX0_init_44 (by decide) ?_
  refine N_newi (N := 8) C (by decide) (by decide +kernel) (by decide) (Nat.le_of_ble_eq_true rfl) (Nat.le_of_ble_eq_true rfl) dX0_init_46 (fun q6 => ?_)
  refine N_ws (ws' := [(h0, .inr (0, [.ref q1, .ref q2, .ref q3, .ref q4, .ref q5, .null, .null, .null, .null, .null, .null, .null, .null, .null, .null, .int 0, .int 0, .int 0, .int 0])), (q1, .inl (G.2.2.2.1, 4, .inl (fun _ => 0))), (q2, .inl (G.2.2.2.2.1, 8, .inr (.inl (fun _ => 0)))), (q3, .inl (G.2.2.2.1, 8, .inl (fun _ => 0))), (q4, .inl (G.2.2.2.1, 8, .inl (fun _ => 0))), (q5, .inl (G.2.2.2.1, 8, .inl (fun _ => 0))), (q6, .inl (G.2.2.2.1, 8, .inl (fun _ => 0)))]) rfl ?_
  refine N_putF (ci := 0) (T := TX0) (N := 19) C hin 0 rfl rfl inlX0 tyX0_ok nmX0 5 (by decide) rfl kf_RX0_28 rfl rfl (tyX0_ok 5 (by decide)) rfl rfl (Nat.le_of_ble_eq_true rfl) dX0_init_48 ?_
  refine N_ws (ws' := [(h0, .inr (0, [.ref q1, .ref q2, .ref q3, .ref q4, .ref q5, .ref q6, .null, .null, .null, .null, .null, .null, .null, .null, .null, .int 0, .int 0, .int 0, .int 0])), (q1, .inl (G.2.2.2.1, 4, .inl (fun _ => 0))), (q2, .inl (G.2.2.2.2.1, 8, .inr (.inl (fun _ => 0)))), (q3, .inl (G.2.2.2.1, 8, .inl (fun _ => 0))), (q4, .inl (G.2.2.2.1, 8, .inl (fun _ => 0))), (q5, .inl (G.2.2.2.1, 8, .inl (fun _ => 0))), (q6, .inl (G.2.2.2.1, 8, .inl (fun _ => 0)))]) rfl ?_
  refine N_aload_n C 0 dX0_init_51 rfl rfl ?_
  refine N_bipush (v := 8) C dX0_init_52 (by decide) ?_
  refine N_newi (N := 8) C (by decide) (by decide +kernel) (by decide) (Nat.le_of_ble_eq_true rfl) (Nat.le_of_ble_eq_true rfl) dX0_init_54 (fun q7 => ?_)
  refine N_ws (ws' := [(h0, .inr (0, [.ref q1, .ref q2, .ref q3, .ref q4, .ref q5, .ref q6, .null, .null, .null, .null, .null, .null, .null, .null, .null, .int 0, .int 0, .int 0, .int 0])), (q1, .inl (G.2.2.2.1, 4, .inl (fun _ => 0))), (q2, .inl (G.2.2.2.2.1, 8, .inr (.inl (fun _ => 0)))), (q3, .inl (G.2.2.2.1, 8, .inl (fun _ => 0))), (q4, .inl (G.2.2.2.1, 8, .inl (fun _ => 0))), (q5, .inl (G.2.2.2.1, 8, .inl (fun _ => 0))), (q6, .inl (G.2.2.2.1, 8, .inl (fun _ => 0))), (q7, .inl (G.2.2.2.1, 8, .inl (fun _ => 0)))]) rfl ?_
  refine N_putF (ci := 0) (T := TX0) (N := 19) C hin 0 rfl rfl inlX0 tyX0_ok nmX0 6 (by decide) rfl kf_RX0_31 rfl rfl (tyX0_ok 6 (by decide)) rfl rfl (Nat.le_of_ble_eq_true rfl) dX0_init_56 ?_
  refine N_ws (ws' := [(h0, .inr (0, [.ref q1, .ref q2, .ref q3, .ref q4, .ref q5, .ref q6, .ref q7, .null, .null, .null, .null, .null, .null, .null, .null, .int 0, .int 0, .int 0, .int 0])), (q1, .inl (G.2.2.2.1, 4, .inl (fun _ => 0))), (q2, .inl (G.2.2.2.2.1, 8, .inr (.inl (fun _ => 0)))), (q3, .inl (G.2.2.2.1, 8, .inl (fun _ => 0))), (q4, .inl (G.2.2.2.1, 8, .inl (fun _ => 0))), (q5, .inl (G.2.2.2.1, 8, .inl (fun _ => 0))), (q6, .inl (G.2.2.2.1, 8, .inl (fun _ => 0))), (q7, .inl (G.2.2.2.1, 8, .inl (fun _ => 0)))]) rfl ?_
  refine N_aload_n C 0 dX0_init_59 rfl rfl ?_
  refine N_bipush (v := 10) C dX0_init_60 (by decide) ?_
  refine N_newl (N := 10) C (by decide) (by decide +kernel) (by decide) (Nat.le_of_ble_eq_true rfl) (Nat.le_of_ble_eq_true rfl) dX0_init_62 (fun q8 => ?_)
  refine N_ws (ws' := [(h0, .inr (0, [.ref q1, .ref q2, .ref q3, .ref q4, .ref q5, .ref q6, .ref q7, .null, .null, .null, .null, .null, .null, .null, .null, .int 0, .int 0, .int 0, .int 0])), (q1, .inl (G.2.2.2.1, 4, .inl (fun _ => 0))), (q2, .inl (G.2.2.2.2.1, 8, .inr (.inl (fun _ => 0)))), (q3, .inl (G.2.2.2.1, 8, .inl (fun _ => 0))), (q4, .inl (G.2.2.2.1, 8, .inl (fun _ => 0))), (q5, .inl (G.2.2.2.1, 8, .inl (fun _ => 0))), (q6, .inl (G.2.2.2.1, 8, .inl (fun _ => 0))), (q7, .inl (G.2.2.2.1, 8, .inl (fun _ => 0))), (q8, .inl (G.2.2.2.2.1, 10, .inr (.inl (fun _ => 0))))]) rfl ?_
  refine N_putF (ci := 0) (T := TX0) (N := 19) C hin 0 rfl rfl inlX0 tyX0_ok nmX0 7 (by decide) rfl kf_RX0_34 rfl rfl (tyX0_ok 7 (by decide)) rfl rfl (Nat.le_of_ble_eq_true rfl) dX0_init_64 ?_
  refine N_ws (ws' := [(h0, .inr (0, [.ref q1, .ref q2, .ref q3, .ref q4, .ref q5, .ref q6, .ref q7, .ref q8, .null, .null, .null, .null, .null, .null, .null, .int 0, .int 0, .int 0, .int 0])), (q1, .inl (G.2.2.2.1, 4, .inl (fun _ => 0))), (q2, .inl (G.2.2.2.2.1, 8, .inr (.inl (fun _ => 0)))), (q3, .inl (G.2.2.2.1, 8, .inl (fun _ => 0))), (q4, .inl (G.2.2.2.1, 8, .inl (fun _ => 0))), (q5, .inl (G.2.2.2.1, 8, .inl (fun _ => 0))), (q6, .inl (G.2.2.2.1, 8, .inl (fun _ => 0))), (q7, .inl (G.2.2.2.1, 8, .inl (fun _ => 0))), (q8, .inl (G.2.2.2.2.1, 10, .inr (.inl (fun _ => 0))))]) rfl ?_
  refine N_aload_n C 0 dX0_init_67 rfl rfl ?_
  refine N_bipush (v := 10) C dX0_init_68 (by decide) ?_
  refine N_newi (N := 10) C (by decide) (by decide +kernel) (by decide) (Nat.le_of_ble_eq_true rfl) (Nat.le_of_ble_eq_true rfl) dX0_init_70 (fun q9 => ?_)
  refine N_ws (ws' := [(h0, .inr (0, [.ref q1, .ref q2, .ref q3, .ref q4, .ref q5, .ref q6, .ref q7, .ref q8, .null, .null, .null, .null, .null, .null, .null, .int 0, .int 0, .int 0, .int 0])), (q1, .inl (G.2.2.2.1, 4, .inl (fun _ => 0))), (q2, .inl (G.2.2.2.2.1, 8, .inr (.inl (fun _ => 0)))), (q3, .inl (G.2.2.2.1, 8, .inl (fun _ => 0))), (q4, .inl (G.2.2.2.1, 8, .inl (fun _ => 0))), (q5, .inl (G.2.2.2.1, 8, .inl (fun _ => 0))), (q6, .inl (G.2.2.2.1, 8, .inl (fun _ => 0))), (q7, .inl (G.2.2.2.1, 8, .inl (fun _ => 0))), (q8, .inl (G.2.2.2.2.1, 10, .inr (.inl (fun _ => 0)))), (q9, .inl (G.2.2.2.1, 10, .inl (fun _ => 0)))]) rfl ?_
  refine N_putF (ci := 0) (T := TX0) (N := 19) C hin 0 rfl rfl inlX0 tyX0_ok nmX0 8 (by decide) rfl kf_RX0_37 rfl rfl (tyX0_ok 8 (by decide)) rfl rfl (Nat.le_of_ble_eq_true rfl) dX0_init_72 ?_
  refine N_ws (ws' := [(h0, .inr (0, [.ref q1, .ref q2, .ref q3, .ref q4, .ref q5, .ref q6, .ref q7, .ref q8, .ref q9, .null, .null, .null, .null, .null, .null, .int 0, .int 0, .int 0, .int 0])), (q1, .inl (G.2.2.2.1, 4, .inl (fun _ => 0))), (q2, .inl (G.2.2.2.2.1, 8, .inr (.inl (fun _ => 0)))), (q3, .inl (G.2.2.2.1, 8, .inl (fun _ => 0))), (q4, .inl (G.2.2.2.1, 8, .inl (fun _ => 0))), (q5, .inl (G.2.2.2.1, 8, .inl (fun _ => 0))), (q6, .inl (G.2.2.2.1, 8, .inl (fun _ => 0))), (q7, .inl (G.2.2.2.1, 8, .inl (fun _ => 0))), (q8, .inl (G.2.2.2.2.1, 10, .inr (.inl (fun _ => 0)))), (q9, .inl (G.2.2.2.1, 10, .inl (fun _ => 0)))]) rfl ?_
  refine N_aload_n C 0 dX0_init_75 rfl rfl ?_
  refine N_bipush (v := 10) C dX0_init_76 (by decide) ?_
  refine N_newi (N := 10) C (by decide) (by decide +kernel) (by decide) (Nat.le_of_ble_eq_true rfl) (Nat.le_of_ble_eq_true rfl) dX0_init_78 (fun q10 => ?_)
  refine N_ws (ws' := [(h0, .inr (0, [.ref q1, .ref q2, .ref q3, .ref q4, .ref q5, .ref q6, .ref q7, .ref q8, .ref q9, .null, .null, .null, .null, .null, .null, .int 0, .int 0, .int 0, .int 0])), (q1, .inl (G.2.2.2.1, 4, .inl (fun _ => 0))), (q2, .inl (G.2.2.2.2.1, 8, .inr (.inl (fun _ => 0)))), (q3, .inl (G.2.2.2.1, 8, .inl (fun _ => 0))), (q4, .inl (G.2.2.2.1, 8, .inl (fun _ => 0))), (q5, .inl (G.2.2.2.1, 8, .inl (fun _ => 0))), (q6, .inl (G.2.2.2.1, 8, .inl (fun _ => 0))), (q7, .inl (G.2.2.2.1, 8, .inl (fun _ => 0))), (q8, .inl (G.2.2.2.2.1, 10, .inr (.inl (fun _ => 0)))), (q9, .inl (G.2.2.2.1, 10, .inl (fun _ => 0))), (q10, .inl (G.2.2.2.1, 10, .inl (fun _ => 0)))]) rfl ?_
  refine N_putF (ci := 0) (T := TX0) (N := 19) C hin 0 rfl rfl inlX0 tyX0_ok nmX0 9 (by decide) rfl kf_RX0_40 rfl rfl (tyX0_ok 9 (by decide)) rfl rfl (Nat.le_of_ble_eq_true rfl) dX0_init_80 ?_
  refine N_ws (ws' := [(h0, .inr (0, [.ref q1, .ref q2, .ref q3, .ref q4, .ref q5, .ref q6, .ref q7, .ref q8, .ref q9, .ref q10, .null, .null, .null, .null, .null, .int 0, .int 0, .int 0, .int 0])), (q1, .inl (G.2.2.2.1, 4, .inl (fun _ => 0))), (q2, .inl (G.2.2.2.2.1, 8, .inr (.inl (fun _ => 0)))), (q3, .inl (G.2.2.2.1, 8, .inl (fun _ => 0))), (q4, .inl (G.2.2.2.1, 8, .inl (fun _ => 0))), (q5, .inl (G.2.2.2.1, 8, .inl (fun _ => 0))), (q6, .inl (G.2.2.2.1, 8, .inl (fun _ => 0))), (q7, .inl (G.2.2.2.1, 8, .inl (fun _ => 0))), (q8, .inl (G.2.2.2.2.1, 10, .inr (.inl (fun _ => 0)))), (q9, .inl (G.2.2.2.1, 10, .inl (fun _ => 0))), (q10, .inl (G.2.2.2.1, 10, .inl (fun _ => 0)))]) rfl ?_
  refine N_aload_n C 0 dX0_init_83 rfl rfl ?_
  refine N_bipush (v := 10) C dX0_init_84 (by decide) ?_
  refine N_newi (N := 10) C (by decide) (by decide +kernel) (by decide) (Nat.le_of_ble_eq_true rfl) (Nat.le_of_ble_eq_true rfl) dX0_init_86 (fun q11 => ?_)
  refine N_ws (ws' := [(h0, .inr (0, [.ref q1, .ref q2, .ref q3, .ref q4, .ref q5, .ref q6, .ref q7, .ref q8, .ref q9, .ref q10, .null, .null, .null, .null, .null, .int 0, .int 0, .int 0, .int 0])), (q1, .inl (G.2.2.2.1, 4, .inl (fun _ => 0))), (q2, .inl (G.2.2.2.2.1, 8, .inr (.inl (fun _ => 0)))), (q3, .inl (G.2.2.2.1, 8, .inl (fun _ => 0))), (q4, .inl (G.2.2.2.1, 8, .inl (fun _ => 0))), (q5, .inl (G.2.2.2.1, 8, .inl (fun _ => 0))), (q6, .inl (G.2.2.2.1, 8, .inl (fun _ => 0))), (q7, .inl (G.2.2.2.1, 8, .inl (fun _ => 0))), (q8, .inl (G.2.2.2.2.1, 10, .inr (.inl (fun _ => 0)))), (q9, .inl (G.2.2.2.1, 10, .inl (fun _ => 0))), (q10, .inl (G.2.2.2.1, 10, .inl (fun _ => 0))), (q11, .inl (G.2.2.2.1, 10, .inl (fun _ => 0)))]) rfl ?_
  refine N_putF (ci := 0) (T := TX0) (N := 19) C hin 0 rfl rfl inlX0 tyX0_ok nmX0 10 (by decide) rfl kf_RX0_43 rfl rfl (tyX0_ok 10 (by decide)) rfl rfl (Nat.le_of_ble_eq_true rfl) dX0_init_88 ?_
  refine N_ws (ws' := [(h0, .inr (0, [.ref q1, .ref q2, .ref q3, .ref q4, .ref q5, .ref q6, .ref q7, .ref q8, .ref q9, .ref q10, .ref q11, .null, .null, .null, .null, .int 0, .int 0, .int 0, .int 0])), (q1, .inl (G.2.2.2.1, 4, .inl (fun _ => 0))), (q2, .inl (G.2.2.2.2.1, 8, .inr (.inl (fun _ => 0)))), (q3, .inl (G.2.2.2.1, 8, .inl (fun _ => 0))), (q4, .inl (G.2.2.2.1, 8, .inl (fun _ => 0))), (q5, .inl (G.2.2.2.1, 8, .inl (fun _ => 0))), (q6, .inl (G.2.2.2.1, 8, .inl (fun _ => 0))), (q7, .inl (G.2.2.2.1, 8, .inl (fun _ => 0))), (q8, .inl (G.2.2.2.2.1, 10, .inr (.inl (fun _ => 0)))), (q9, .inl (G.2.2.2.1, 10, .inl (fun _ => 0))), (q10, .inl (G.2.2.2.1, 10, .inl (fun _ => 0))), (q11, .inl (G.2.2.2.1, 10, .inl (fun _ => 0)))]) rfl ?_
  refine N_aload_n C 0 dX0_init_91 rfl rfl ?_
  refine N_bipush (v := 10) C dX0_init_92 (by decide) ?_
  refine N_newi (N := 10) C (by decide) (by decide +kernel) (by decide) (Nat.le_of_ble_eq_true rfl) (Nat.le_of_ble_eq_true rfl) dX0_init_94 (fun q12 => ?_)
  refine N_ws (ws' := [(h0, .inr (0, [.ref q1, .ref q2, .ref q3, .ref q4, .ref q5, .ref q6, .ref q7, .ref q8, .ref q9, .ref q10, .ref q11, .null, .null, .null, .null, .int 0, .int 0, .int 0, .int 0])), (q1, .inl (G.2.2.2.1, 4, .inl (fun _ => 0))), (q2, .inl (G.2.2.2.2.1, 8, .inr (.inl (fun _ => 0)))), (q3, .inl (G.2.2.2.1, 8, .inl (fun _ => 0))), (q4, .inl (G.2.2.2.1, 8, .inl (fun _ => 0))), (q5, .inl (G.2.2.2.1, 8, .inl (fun _ => 0))), (q6, .inl (G.2.2.2.1, 8, .inl (fun _ => 0))), (q7, .inl (G.2.2.2.1, 8, .inl (fun _ => 0))), (q8, .inl (G.2.2.2.2.1, 10, .inr (.inl (fun _ => 0)))), (q9, .inl (G.2.2.2.1, 10, .inl (fun _ => 0))), (q10, .inl (G.2.2.2.1, 10, .inl (fun _ => 0))), (q11, .inl (G.2.2.2.1, 10, .inl (fun _ => 0))), (q12, .inl (G.2.2.2.1, 10, .inl (fun _ => 0)))]) rfl ?_
  refine N_putF (ci := 0) (T := TX0) (N := 19) C hin 0 rfl rfl inlX0 tyX0_ok nmX0 11 (by decide) rfl kf_RX0_46 rfl rfl (tyX0_ok 11 (by decide)) rfl rfl (Nat.le_of_ble_eq_true rfl) dX0_init_96 ?_
  refine N_ws (ws' := [(h0, .inr (0, [.ref q1, .ref q2, .ref q3, .ref q4, .ref q5, .ref q6, .ref q7, .ref q8, .ref q9, .ref q10, .ref q11, .ref q12, .null, .null, .null, .int 0, .int 0, .int 0, .int 0])), (q1, .inl (G.2.2.2.1, 4, .inl (fun _ => 0))), (q2, .inl (G.2.2.2.2.1, 8, .inr (.inl (fun _ => 0)))), (q3, .inl (G.2.2.2.1, 8, .inl (fun _ => 0))), (q4, .inl (G.2.2.2.1, 8, .inl (fun _ => 0))), (q5, .inl (G.2.2.2.1, 8, .inl (fun _ => 0))), (q6, .inl (G.2.2.2.1, 8, .inl (fun _ => 0))), (q7, .inl (G.2.2.2.1, 8, .inl (fun _ => 0))), (q8, .inl (G.2.2.2.2.1, 10, .inr (.inl (fun _ => 0)))), (q9, .inl (G.2.2.2.1, 10, .inl (fun _ => 0))), (q10, .inl (G.2.2.2.1, 10, .inl (fun _ => 0))), (q11, .inl (G.2.2.2.1, 10, .inl (fun _ => 0))), (q12, .inl (G.2.2.2.1, 10, .inl (fun _ => 0)))]) rfl ?_
  refine N_aload_n C 0 dX0_init_99 rfl rfl ?_
  refine N_bipush (v := 10) C dX0_init_100 (by decide) ?_
  refine N_newi (N := 10) C (by decide) (by decide +kernel) (by decide) (Nat.le_of_ble_eq_true rfl) (Nat.le_of_ble_eq_true rfl) dX0_init_102 (fun q13 => ?_)
  refine N_ws (ws' := [(h0, .inr (0, [.ref q1, .ref q2, .ref q3, .ref q4, .ref q5, .ref q6, .ref q7, .ref q8, .ref q9, .ref q10, .ref q11, .ref q12, .null, .null, .null, .int 0, .int 0, .int 0, .int 0])), (q1, .inl (G.2.2.2.1, 4, .inl (fun _ => 0))), (q2, .inl (G.2.2.2.2.1, 8, .inr (.inl (fun _ => 0)))), (q3, .inl (G.2.2.2.1, 8, .inl (fun _ => 0))), (q4, .inl (G.2.2.2.1, 8, .inl (fun _ => 0))), (q5, .inl (G.2.2.2.1, 8, .inl (fun _ => 0))), (q6, .inl (G.2.2.2.1, 8, .inl (fun _ => 0))), (q7, .inl (G.2.2.2.1, 8, .inl (fun _ => 0))), (q8, .inl (G.2.2.2.2.1, 10, .inr (.inl (fun _ => 0)))), (q9, .inl (G.2.2.2.1, 10, .inl (fun _ => 0))), (q10, .inl (G.2.2.2.1, 10, .inl (fun _ => 0))), (q11, .inl (G.2.2.2.1, 10, .inl (fun _ => 0))), (q12, .inl (G.2.2.2.1, 10, .inl (fun _ => 0))), (q13, .inl (G.2.2.2.1, 10, .inl (fun _ => 0)))]) rfl ?_
  refine N_putF (ci := 0) (T := TX0) (N := 19) C hin 0 rfl rfl inlX0 tyX0_ok nmX0 12 (by decide) rfl kf_RX0_49 rfl rfl (tyX0_ok 12 (by decide)) rfl rfl (Nat.le_of_ble_eq_true rfl) dX0_init_104 ?_
  refine N_ws (ws' := [(h0, .inr (0, [.ref q1, .ref q2, .ref q3, .ref q4, .ref q5, .ref q6, .ref q7, .ref q8, .ref q9, .ref q10, .ref q11, .ref q12, .ref q13, .null, .null, .int 0, .int 0, .int 0, .int 0])), (q1, .inl (G.2.2.2.1, 4, .inl (fun _ => 0))), (q2, .inl (G.2.2.2.2.1, 8, .inr (.inl (fun _ => 0)))), (q3, .inl (G.2.2.2.1, 8, .inl (fun _ => 0))), (q4, .inl (G.2.2.2.1, 8, .inl (fun _ => 0))), (q5, .inl (G.2.2.2.1, 8, .inl (fun _ => 0))), (q6, .inl (G.2.2.2.1, 8, .inl (fun _ => 0))), (q7, .inl (G.2.2.2.1, 8, .inl (fun _ => 0))), (q8, .inl (G.2.2.2.2.1, 10, .inr (.inl (fun _ => 0)))), (q9, .inl (G.2.2.2.1, 10, .inl (fun _ => 0))), (q10, .inl (G.2.2.2.1, 10, .inl (fun _ => 0))), (q11, .inl (G.2.2.2.1, 10, .inl (fun _ => 0))), (q12, .inl (G.2.2.2.1, 10, .inl (fun _ => 0))), (q13, .inl (G.2.2.2.1, 10, .inl (fun _ => 0)))]) rfl ?_
  refine N_aload_n C 0 dX0_init_107 rfl rfl ?_
  refine N_bipush (v := 10) C dX0_init_108 (by decide) ?_
  refine N_newi (N := 10) C (by decide) (by decide +kernel) (by decide) (Nat.le_of_ble_eq_true rfl) (Nat.le_of_ble_eq_true rfl) dX0_init_110 (fun q14 => ?_)
  refine N_ws (ws' := [(h0, .inr (0, [.ref q1, .ref q2, .ref q3, .ref q4, .ref q5, .ref q6, .ref q7, .ref q8, .ref q9, .ref q10, .ref q11, .ref q12, .ref q13, .null, .null, .int 0, .int 0, .int 0, .int 0])), (q1, .inl (G.2.2.2.1, 4, .inl (fun _ => 0))), (q2, .inl (G.2.2.2.2.1, 8, .inr (.inl (fun _ => 0)))), (q3, .inl (G.2.2.2.1, 8, .inl (fun _ => 0))), (q4, .inl (G.2.2.2.1, 8, .inl (fun _ => 0))), (q5, .inl (G.2.2.2.1, 8, .inl (fun _ => 0))), (q6, .inl (G.2.2.2.1, 8, .inl (fun _ => 0))), (q7, .inl (G.2.2.2.1, 8, .inl (fun _ => 0))), (q8, .inl (G.2.2.2.2.1, 10, .inr (.inl (fun _ => 0)))), (q9, .inl (G.2.2.2.1, 10, .inl (fun _ => 0))), (q10, .inl (G.2.2.2.1, 10, .inl (fun _ => 0))), (q11, .inl (G.2.2.2.1, 10, .inl (fun _ => 0))), (q12, .inl (G.2.2.2.1, 10, .inl (fun _ => 0))), (q13, .inl (G.2.2.2.1, 10, .inl (fun _ => 0))), (q14, .inl (G.2.2.2.1, 10, .inl (fun _ => 0)))]) rfl ?_
  refine N_putF (ci := 0) (T := TX0) (N := 19) C hin 0 rfl rfl inlX0 tyX0_ok nmX0 13 (by decide) rfl kf_RX0_52 rfl rfl (tyX0_ok 13 (by decide)) rfl rfl (Nat.le_of_ble_eq_true rfl) dX0_init_112 ?_
  refine N_ws (ws' := [(h0, .inr (0, [.ref q1, .ref q2, .ref q3, .ref q4, .ref q5, .ref q6, .ref q7, .ref q8, .ref q9, .ref q10, .ref q11, .ref q12, .ref q13, .ref q14, .null, .int 0, .int 0, .int 0, .int 0])), (q1, .inl (G.2.2.2.1, 4, .inl (fun _ => 0))), (q2, .inl (G.2.2.2.2.1, 8, .inr (.inl (fun _ => 0)))), (q3, .inl (G.2.2.2.1, 8, .inl (fun _ => 0))), (q4, .inl (G.2.2.2.1, 8, .inl (fun _ => 0))), (q5, .inl (G.2.2.2.1, 8, .inl (fun _ => 0))), (q6, .inl (G.2.2.2.1, 8, .inl (fun _ => 0))), (q7, .inl (G.2.2.2.1, 8, .inl (fun _ => 0))), (q8, .inl (G.2.2.2.2.1, 10, .inr (.inl (fun _ => 0)))), (q9, .inl (G.2.2.2.1, 10, .inl (fun _ => 0))), (q10, .inl (G.2.2.2.1, 10, .inl (fun _ => 0))), (q11, .inl (G.2.2.2.1, 10, .inl (fun _ => 0))), (q12, .inl (G.2.2.2.1, 10, .inl (fun _ => 0))), (q13, .inl (G.2.2.2.1, 10, .inl (fun _ => 0))), (q14, .inl (G.2.2.2.1, 10, .inl (fun _ => 0)))]) rfl ?_
  refine N_aload_n C 0 dX0_init_115 rfl rfl ?_
  refine N_new (ci := 8) (T := TX8) (N := 9) (ty := tyX8) (fs := [.null, .null, .null, .null, .null, .null, .int 0, .int 0, .int 0]) C inlX8 tyX8_ok kc_RX0_55 ki_RX8 kz_RX8 rfl (by decide) (Nat.le_of_ble_eq_true rfl) (Nat.le_of_ble_eq_true rfl) dX0_init_116 (fun q15 => ?_)
  refine N_ws (ws' := [(h0, .inr (0, [.ref q1, .ref q2, .ref q3, .ref q4, .ref q5, .ref q6, .ref q7, .ref q8, .ref q9, .ref q10, .ref q11, .ref q12, .ref q13, .ref q14, .null, .int 0, .int 0, .int 0, .int 0])), (q1, .inl (G.2.2.2.1, 4, .inl (fun _ => 0))), (q2, .inl (G.2.2.2.2.1, 8, .inr (.inl (fun _ => 0)))), (q3, .inl (G.2.2.2.1, 8, .inl (fun _ => 0))), (q4, .inl (G.2.2.2.1, 8, .inl (fun _ => 0))), (q5, .inl (G.2.2.2.1, 8, .inl (fun _ => 0))), (q6, .inl (G.2.2.2.1, 8, .inl (fun _ => 0))), (q7, .inl (G.2.2.2.1, 8, .inl (fun _ => 0))), (q8, .inl (G.2.2.2.2.1, 10, .inr (.inl (fun _ => 0)))), (q9, .inl (G.2.2.2.1, 10, .inl (fun _ => 0))), (q10, .inl (G.2.2.2.1, 10, .inl (fun _ => 0))), (q11, .inl (G.2.2.2.1, 10, .inl (fun _ => 0))), (q12, .inl (G.2.2.2.1, 10, .inl (fun _ => 0))), (q13, .inl (G.2.2.2.1, 10, .inl (fun _ => 0))), (q14, .inl (G.2.2.2.1, 10, .inl (fun _ => 0))), (q15, .inr (8, [.null, .null, .null, .null, .null, .null, .int 0, .int 0, .int 0]))]) rfl ?_
  refine N_dup C dX0_init_119 rfl ?_
  refine N_callIN (wr := [(h0, .inr (0, [.ref q1, .ref q2, .ref q3, .ref q4, .ref q5, .ref q6, .ref q7, .ref q8, .ref q9, .ref q10, .ref q11, .ref q12, .ref q13, .ref q14, .null, .int 0, .int 0, .int 0, .int 0])), (q1, .inl (G.2.2.2.1, 4, .inl (fun _ => 0))), (q2, .inl (G.2.2.2.2.1, 8, .inr (.inl (fun _ => 0)))), (q3, .inl (G.2.2.2.1, 8, .inl (fun _ => 0))), (q4, .inl (G.2.2.2.1, 8, .inl (fun _ => 0))), (q5, .inl (G.2.2.2.1, 8, .inl (fun _ => 0))), (q6, .inl (G.2.2.2.1, 8, .inl (fun _ => 0))), (q7, .inl (G.2.2.2.1, 8, .inl (fun _ => 0))), (q8, .inl (G.2.2.2.2.1, 10, .inr (.inl (fun _ => 0)))), (q9, .inl (G.2.2.2.1, 10, .inl (fun _ => 0))), (q10, .inl (G.2.2.2.1, 10, .inl (fun _ => 0))), (q11, .inl (G.2.2.2.1, 10, .inl (fun _ => 0))), (q12, .inl (G.2.2.2.1, 10, .inl (fun _ => 0))), (q13, .inl (G.2.2.2.1, 10, .inl (fun _ => 0))), (q14, .inl (G.2.2.2.1, 10, .inl (fun _ => 0)))]) (wc := [(q15, .inr (8, [.null, .null, .null, .null, .null, .null, .int 0, .int 0, .int 0]))]) (mc := 6) (ms := 360) (As := []) (rest := [.ref q15, .ref h0]) (post := fun w => ∃ z1 z2 z3 z4 z5 z6 : Nat, w = [(q15, .inr (8, [.ref z1, .ref z2, .ref z3, .ref z4, .ref z5, .ref z6, .int 0, .int 0, .int 0])), (z1, .inl (G.2.2.2.1, 60, .inl (fun _ => 0))), (z2, .inl (G.2.2.2.1, 60, .inl (fun _ => 0))), (z3, .inl (G.2.2.2.1, 60, .inl (fun _ => 0))), (z4, .inl (G.2.2.2.1, 60, .inl (fun _ => 0))), (z5, .inl (G.2.2.2.1, 60, .inl (fun _ => 0))), (z6, .inl (G.2.2.2.1, 60, .inl (fun _ => 0)))]) C (fun sz => i_X8_init (v_l X) G q15  sz _ (fun z1 z2 z3 z4 z5 z6 => ⟨z1, z2, z3, z4, z5, z6, rfl⟩)) KI_X8_init (List.mem_of_getElem? (i := 1) rfl) rfl rfl (Nat.le_of_ble_eq_true rfl) ⟨Nat.le_of_ble_eq_true rfl, Nat.le_of_ble_eq_true rfl⟩ ⟨Nat.le_of_ble_eq_true rfl, Nat.le_of_ble_eq_true rfl⟩ dX0_init_120 rfl ?_
  rintro _ ⟨q16, q17, q18, q19, q20, q21, rfl⟩
  refine N_ws (ws' := [(h0, .inr (0, [.ref q1, .ref q2, .ref q3, .ref q4, .ref q5, .ref q6, .ref q7, .ref q8, .ref q9, .ref q10, .ref q11, .ref q12, .ref q13, .ref q14, .null, .int 0, .int 0, .int 0, .int 0])), (q1, .inl (G.2.2.2.1, 4, .inl (fun _ => 0))), (q2, .inl (G.2.2.2.2.1, 8, .inr (.inl (fun _ => 0)))), (q3, .inl (G.2.2.2.1, 8, .inl (fun _ => 0))), (q4, .inl (G.2.2.2.1, 8, .inl (fun _ => 0))), (q5, .inl (G.2.2.2.1, 8, .inl (fun _ => 0))), (q6, .inl (G.2.2.2.1, 8, .inl (fun _ => 0))), (q7, .inl (G.2.2.2.1, 8, .inl (fun _ => 0))), (q8, .inl (G.2.2.2.2.1, 10, .inr (.inl (fun _ => 0)))), (q9, .inl (G.2.2.2.1, 10, .inl (fun _ => 0))), (q10, .inl (G.2.2.2.1, 10, .inl (fun _ => 0))), (q11, .inl (G.2.2.2.1, 10, .inl (fun _ => 0))), (q12, .inl (G.2.2.2.1, 10, .inl (fun _ => 0))), (q13, .inl (G.2.2.2.1, 10, .inl (fun _ => 0))), (q14, .inl (G.2.2.2.1, 10, .inl (fun _ => 0))), (q15, .inr (8, [.ref q16, .ref q17, .ref q18, .ref q19, .ref q20, .ref q21, .int 0, .int 0, .int 0])), (q16, .inl (G.2.2.2.1, 60, .inl (fun _ => 0))), (q17, .inl (G.2.2.2.1, 60, .inl (fun _ => 0))), (q18, .inl (G.2.2.2.1, 60, .inl (fun _ => 0))), (q19, .inl (G.2.2.2.1, 60, .inl (fun _ => 0))), (q20, .inl (G.2.2.2.1, 60, .inl (fun _ => 0))), (q21, .inl (G.2.2.2.1, 60, .inl (fun _ => 0)))]) rfl ?_
  refine N_putF (ci := 0) (T := TX0) (N := 19) C hin 0 rfl rfl inlX0 tyX0_ok nmX0 14 (by decide) rfl kf_RX0_58 rfl rfl (tyX0_ok 14 (by decide)) rfl rfl (Nat.le_of_ble_eq_true rfl) dX0_init_123 ?_
  refine N_ws (ws' := [(h0, .inr (0, [.ref q1, .ref q2, .ref q3, .ref q4, .ref q5, .ref q6, .ref q7, .ref q8, .ref q9, .ref q10, .ref q11, .ref q12, .ref q13, .ref q14, .ref q15, .int 0, .int 0, .int 0, .int 0])), (q1, .inl (G.2.2.2.1, 4, .inl (fun _ => 0))), (q2, .inl (G.2.2.2.2.1, 8, .inr (.inl (fun _ => 0)))), (q3, .inl (G.2.2.2.1, 8, .inl (fun _ => 0))), (q4, .inl (G.2.2.2.1, 8, .inl (fun _ => 0))), (q5, .inl (G.2.2.2.1, 8, .inl (fun _ => 0))), (q6, .inl (G.2.2.2.1, 8, .inl (fun _ => 0))), (q7, .inl (G.2.2.2.1, 8, .inl (fun _ => 0))), (q8, .inl (G.2.2.2.2.1, 10, .inr (.inl (fun _ => 0)))), (q9, .inl (G.2.2.2.1, 10, .inl (fun _ => 0))), (q10, .inl (G.2.2.2.1, 10, .inl (fun _ => 0))), (q11, .inl (G.2.2.2.1, 10, .inl (fun _ => 0))), (q12, .inl (G.2.2.2.1, 10, .inl (fun _ => 0))), (q13, .inl (G.2.2.2.1, 10, .inl (fun _ => 0))), (q14, .inl (G.2.2.2.1, 10, .inl (fun _ => 0))), (q15, .inr (8, [.ref q16, .ref q17, .ref q18, .ref q19, .ref q20, .ref q21, .int 0, .int 0, .int 0])), (q16, .inl (G.2.2.2.1, 60, .inl (fun _ => 0))), (q17, .inl (G.2.2.2.1, 60, .inl (fun _ => 0))), (q18, .inl (G.2.2.2.1, 60, .inl (fun _ => 0))), (q19, .inl (G.2.2.2.1, 60, .inl (fun _ => 0))), (q20, .inl (G.2.2.2.1, 60, .inl (fun _ => 0))), (q21, .inl (G.2.2.2.1, 60, .inl (fun _ => 0)))]) rfl ?_
  refine N_aload_n C 0 dX0_init_126 rfl rfl ?_
  refine N_perm (ws' := [(q2, .inl (G.2.2.2.2.1, 8, .inr (.inl (fun _ => 0)))), (q3, .inl (G.2.2.2.1, 8, .inl (fun _ => 0))), (q4, .inl (G.2.2.2.1, 8, .inl (fun _ => 0))), (q5, .inl (G.2.2.2.1, 8, .inl (fun _ => 0))), (q6, .inl (G.2.2.2.1, 8, .inl (fun _ => 0))), (q7, .inl (G.2.2.2.1, 8, .inl (fun _ => 0))), (q8, .inl (G.2.2.2.2.1, 10, .inr (.inl (fun _ => 0)))), (q9, .inl (G.2.2.2.1, 10, .inl (fun _ => 0))), (q10, .inl (G.2.2.2.1, 10, .inl (fun _ => 0))), (q11, .inl (G.2.2.2.1, 10, .inl (fun _ => 0))), (q12, .inl (G.2.2.2.1, 10, .inl (fun _ => 0))), (q13, .inl (G.2.2.2.1, 10, .inl (fun _ => 0))), (q14, .inl (G.2.2.2.1, 10, .inl (fun _ => 0))), (q16, .inl (G.2.2.2.1, 60, .inl (fun _ => 0))), (q17, .inl (G.2.2.2.1, 60, .inl (fun _ => 0))), (q18, .inl (G.2.2.2.1, 60, .inl (fun _ => 0))), (q19, .inl (G.2.2.2.1, 60, .inl (fun _ => 0))), (q20, .inl (G.2.2.2.1, 60, .inl (fun _ => 0))), (q21, .inl (G.2.2.2.1, 60, .inl (fun _ => 0))), (h0, .inr (0, [.ref q1, .ref q2, .ref q3, .ref q4, .ref q5, .ref q6, .ref q7, .ref q8, .ref q9, .ref q10, .ref q11, .ref q12, .ref q13, .ref q14, .ref q15, .int 0, .int 0, .int 0, .int 0])), (q1, .inl (G.2.2.2.1, 4, .inl (fun _ => 0))), (q15, .inr (8, [.ref q16, .ref q17, .ref q18, .ref q19, .ref q20, .ref q21, .int 0, .int 0, .int 0]))]) [2, 3, 4, 5, 6, 7, 8, 9, 10, 11, 12, 13, 14, 16, 17, 18, 19, 20, 21, 0, 1, 15] rfl (by decide) rfl ?_
  refine N_callV (wr := [(q2, .inl (G.2.2.2.2.1, 8, .inr (.inl (fun _ => 0)))), (q3, .inl (G.2.2.2.1, 8, .inl (fun _ => 0))), (q4, .inl (G.2.2.2.1, 8, .inl (fun _ => 0))), (q5, .inl (G.2.2.2.1, 8, .inl (fun _ => 0))), (q6, .inl (G.2.2.2.1, 8, .inl (fun _ => 0))), (q7, .inl (G.2.2.2.1, 8, .inl (fun _ => 0))), (q8, .inl (G.2.2.2.2.1, 10, .inr (.inl (fun _ => 0)))), (q9, .inl (G.2.2.2.1, 10, .inl (fun _ => 0))), (q10, .inl (G.2.2.2.1, 10, .inl (fun _ => 0))), (q11, .inl (G.2.2.2.1, 10, .inl (fun _ => 0))), (q12, .inl (G.2.2.2.1, 10, .inl (fun _ => 0))), (q13, .inl (G.2.2.2.1, 10, .inl (fun _ => 0))), (q14, .inl (G.2.2.2.1, 10, .inl (fun _ => 0))), (q16, .inl (G.2.2.2.1, 60, .inl (fun _ => 0))), (q17, .inl (G.2.2.2.1, 60, .inl (fun _ => 0))), (q18, .inl (G.2.2.2.1, 60, .inl (fun _ => 0))), (q19, .inl (G.2.2.2.1, 60, .inl (fun _ => 0))), (q20, .inl (G.2.2.2.1, 60, .inl (fun _ => 0))), (q21, .inl (G.2.2.2.1, 60, .inl (fun _ => 0)))]) (wc := [(h0, .inr (0, [.ref q1, .ref q2, .ref q3, .ref q4, .ref q5, .ref q6, .ref q7, .ref q8, .ref q9, .ref q10, .ref q11, .ref q12, .ref q13, .ref q14, .ref q15, .int 0, .int 0, .int 0, .int 0])), (q1, .inl (G.2.2.2.1, 4, .inl (fun _ => 0))), (q15, .inr (8, [.ref q16, .ref q17, .ref q18, .ref q19, .ref q20, .ref q21, .int 0, .int 0, .int 0]))]) (As := []) (rest := []) (mc := 0) (ms := 0) (ci := 0) (T := TX0) (N := 19) (fs := [.ref q1, .ref q2, .ref q3, .ref q4, .ref q5, .ref q6, .ref q7, .ref q8, .ref q9, .ref q10, .ref q11, .ref q12, .ref q13, .ref q14, .ref q15, .int 0, .int 0, .int 0, .int 0]) (post := fun w => w = [(h0, .inr (0, [.ref q1, .ref q2, .ref q3, .ref q4, .ref q5, .ref q6, .ref q7, .ref q8, .ref q9, .ref q10, .ref q11, .ref q12, .ref q13, .ref q14, .ref q15, .int 0, .int 0, .int 0, .int 0])), (q1, .inl (G.2.2.2.1, 4, .inl (n_fr))), (q15, .inr (8, [.ref q16, .ref q17, .ref q18, .ref q19, .ref q20, .ref q21, .int 0, .int 0, .int 0]))]) C 0 (fun sz => i_clear (v_l X) G h0 q1 q2 q3 q4 q5 q6 q7 q8 q9 q10 q11 q12 q13 q14 q15 q16 q17 q18 q19 q20 q21 sz _ rfl) rfl rfl KV_X0_clear km_RX0_62 rfl rfl (Nat.le_of_ble_eq_true rfl) ⟨Nat.le_of_ble_eq_true rfl, Nat.le_of_ble_eq_true rfl⟩ ⟨Nat.le_of_ble_eq_true rfl, Nat.le_of_ble_eq_true rfl⟩ dX0_init_127 rfl ?_
  rintro _ rfl
  refine N_perm (ws' := [(h0, .inr (0, [.ref q1, .ref q2, .ref q3, .ref q4, .ref q5, .ref q6, .ref q7, .ref q8, .ref q9, .ref q10, .ref q11, .ref q12, .ref q13, .ref q14, .ref q15, .int 0, .int 0, .int 0, .int 0])), (q1, .inl (G.2.2.2.1, 4, .inl (n_fr))), (q2, .inl (G.2.2.2.2.1, 8, .inr (.inl (fun _ => 0)))), (q3, .inl (G.2.2.2.1, 8, .inl (fun _ => 0))), (q4, .inl (G.2.2.2.1, 8, .inl (fun _ => 0))), (q5, .inl (G.2.2.2.1, 8, .inl (fun _ => 0))), (q6, .inl (G.2.2.2.1, 8, .inl (fun _ => 0))), (q7, .inl (G.2.2.2.1, 8, .inl (fun _ => 0))), (q8, .inl (G.2.2.2.2.1, 10, .inr (.inl (fun _ => 0)))), (q9, .inl (G.2.2.2.1, 10, .inl (fun _ => 0))), (q10, .inl (G.2.2.2.1, 10, .inl (fun _ => 0))), (q11, .inl (G.2.2.2.1, 10, .inl (fun _ => 0))), (q12, .inl (G.2.2.2.1, 10, .inl (fun _ => 0))), (q13, .inl (G.2.2.2.1, 10, .inl (fun _ => 0))), (q14, .inl (G.2.2.2.1, 10, .inl (fun _ => 0))), (q15, .inr (8, [.ref q16, .ref q17, .ref q18, .ref q19, .ref q20, .ref q21, .int 0, .int 0, .int 0])), (q16, .inl (G.2.2.2.1, 60, .inl (fun _ => 0))), (q17, .inl (G.2.2.2.1, 60, .inl (fun _ => 0))), (q18, .inl (G.2.2.2.1, 60, .inl (fun _ => 0))), (q19, .inl (G.2.2.2.1, 60, .inl (fun _ => 0))), (q20, .inl (G.2.2.2.1, 60, .inl (fun _ => 0))), (q21, .inl (G.2.2.2.1, 60, .inl (fun _ => 0)))]) [19, 20, 0, 1, 2, 3, 4, 5, 6, 7, 8, 9, 10, 11, 12, 21, 13, 14, 15, 16, 17, 18] rfl (by decide) rfl ?_
  exact N_vret C D (Nat.le_of_ble_eq_true rfl) (Nat.le_of_ble_eq_true rfl) dX0_init_130 (h q1 q2 q3 q4 q5 q6 q7 q8 q9 q10 q11 q12 q13 q14 q15 q16 q17 q18 q19 q20 q21)
set_option maxHeartbeats 4000000 in
set_option maxRecDepth 100000 in
theorem i_X7_init (l : Launch) (G : vG) (h0 sz : Nat) (post : va_W → Prop) (h : ∀ q1 q2 q3 : Nat, post [(h0, .inr (7, [.ref q1, .ref q2, .ref q3])), (q1, .inl (G.2.2.2.2.1, 240, .inr (.inl (fun _ => 0)))), (q2, .inl (G.2.2.2.1, 4, .inl (fun _ => 0))), (q3, .inl (G.2.2.2.1, 4, .inl (n_f4)))]) : Met l yX7_init (v_ws yX7_init cX7_init 1 none) (n_rm 1 120 3 248) (n_Pc G [.ref h0] [(h0, .inr (7, [.null, .null, .null]))] sz) (n_Qv G [(h0, .inr (7, [.null, .null, .null]))] sz post) 3 248 (va_A [(h0, .inr (7, [.null, .null, .null]))] sz) := by
  refine n_start (by decide +kernel) (Nat.le_of_ble_eq_true rfl) (fun X hl hin C D => ?_)
  subst hl
  have C : n_Cx X G cX7_init RX7 1 (n_rm 1 120 3 248) := C
  have hin : (v_meth X).name = "<init>" := hin
  show NJ X G [(h0, .inr (7, [.null, .null, .null]))] 0 0 0 [(0, .ref h0)] []
  refine N_aload_n C 0 dX7_init_0 rfl rfl ?_
  refine N_objInit C km_RX7_3 (Nat.le_of_ble_eq_true rfl) (Nat.le_of_ble_eq_true rfl) dX7_init_1 ?_
  refine N_aload_n C 0 dX7_init_4 rfl rfl ?_
  refine N_sipush (v := 240) C dX7_init_5 (by decide) ?_
  refine N_newl (N := 240) C (by decide) (by decide +kernel) (by decide) (Nat.le_of_ble_eq_true rfl) (Nat.le_of_ble_eq_true rfl) dX7_init_8 (fun q1 => ?_)
  refine N_ws (ws' := [(h0, .inr (7, [.null, .null, .null])), (q1, .inl (G.2.2.2.2.1, 240, .inr (.inl (fun _ => 0))))]) rfl ?_
  refine N_putF (ci := 7) (T := TX7) (N := 3) C hin 0 rfl rfl inlX7 tyX7_ok nmX7 0 (by decide) rfl kf_RX7_11 rfl rfl (tyX7_ok 0 (by decide)) rfl rfl (Nat.le_of_ble_eq_true rfl) dX7_init_10 ?_
  refine N_ws (ws' := [(h0, .inr (7, [.ref q1, .null, .null])), (q1, .inl (G.2.2.2.2.1, 240, .inr (.inl (fun _ => 0))))]) rfl ?_
  refine N_aload_n C 0 dX7_init_13 rfl rfl ?_
  refine N_iconst (v := 4) C dX7_init_14 (by decide) ?_
  refine N_newi (N := 4) C (by decide) (by decide +kernel) (by decide) (Nat.le_of_ble_eq_true rfl) (Nat.le_of_ble_eq_true rfl) dX7_init_15 (fun q2 => ?_)
  refine N_ws (ws' := [(h0, .inr (7, [.ref q1, .null, .null])), (q1, .inl (G.2.2.2.2.1, 240, .inr (.inl (fun _ => 0)))), (q2, .inl (G.2.2.2.1, 4, .inl (fun _ => 0)))]) rfl ?_
  refine N_putF (ci := 7) (T := TX7) (N := 3) C hin 0 rfl rfl inlX7 tyX7_ok nmX7 1 (by decide) rfl kf_RX7_15 rfl rfl (tyX7_ok 1 (by decide)) rfl rfl (Nat.le_of_ble_eq_true rfl) dX7_init_17 ?_
  refine N_ws (ws' := [(h0, .inr (7, [.ref q1, .ref q2, .null])), (q1, .inl (G.2.2.2.2.1, 240, .inr (.inl (fun _ => 0)))), (q2, .inl (G.2.2.2.1, 4, .inl (fun _ => 0)))]) rfl ?_
  refine N_aload_n C 0 dX7_init_20 rfl rfl ?_
  refine N_iconst (v := 4) C dX7_init_21 (by decide) ?_
  refine N_newi (N := 4) C (by decide) (by decide +kernel) (by decide) (Nat.le_of_ble_eq_true rfl) (Nat.le_of_ble_eq_true rfl) dX7_init_22 (fun q3 => ?_)
  refine N_ws (ws' := [(h0, .inr (7, [.ref q1, .ref q2, .null])), (q1, .inl (G.2.2.2.2.1, 240, .inr (.inl (fun _ => 0)))), (q2, .inl (G.2.2.2.1, 4, .inl (fun _ => 0))), (q3, .inl (G.2.2.2.1, 4, .inl (fun _ => 0)))]) rfl ?_
  refine N_putF (ci := 7) (T := TX7) (N := 3) C hin 0 rfl rfl inlX7 tyX7_ok nmX7 2 (by decide) rfl kf_RX7_19 rfl rfl (tyX7_ok 2 (by decide)) rfl rfl (Nat.le_of_ble_eq_true rfl) dX7_init_24 ?_
  refine N_ws (ws' := [(h0, .inr (7, [.ref q1, .ref q2, .ref q3])), (q1, .inl (G.2.2.2.2.1, 240, .inr (.inl (fun _ => 0)))), (q2, .inl (G.2.2.2.1, 4, .inl (fun _ => 0))), (q3, .inl (G.2.2.2.1, 4, .inl (fun _ => 0)))]) rfl ?_
  refine N_aload_n C 0 dX7_init_27 rfl rfl ?_
  refine N_get (ci := 7) (T := TX7) (N := 3) (v := .ref q3) (fs := [.ref q1, .ref q2, .ref q3]) C 0 rfl rfl inlX7 2 (by decide) rfl kf_RX7_19 rfl dX7_init_28 ?_
  refine N_iconst (v := -1) C dX7_init_31 (by decide) ?_
  refine N_callS (wr := [(h0, .inr (7, [.ref q1, .ref q2, .ref q3])), (q1, .inl (G.2.2.2.2.1, 240, .inr (.inl (fun _ => 0)))), (q2, .inl (G.2.2.2.1, 4, .inl (fun _ => 0)))]) (wc := [(q3, .inl (G.2.2.2.1, 4, .inl (fun _ => 0)))]) (As := [.ref q3, .int (-1)]) (rest := []) (mc := 0) (ms := 0) (post := fun w => w = [(q3, .inl (G.2.2.2.1, 4, .inl n_f4))]) C (fun sz => i_fill (v_l X) G q3 sz _ rfl) KV_J7_fill_53178 km_RX7_22 rfl rfl (Nat.le_of_ble_eq_true rfl) ⟨Nat.le_of_ble_eq_true rfl, Nat.le_of_ble_eq_true rfl⟩ ⟨Nat.le_of_ble_eq_true rfl, Nat.le_of_ble_eq_true rfl⟩ dX7_init_32 rfl ?_
  rintro _ rfl
  refine N_ws (ws' := [(h0, .inr (7, [.ref q1, .ref q2, .ref q3])), (q1, .inl (G.2.2.2.2.1, 240, .inr (.inl (fun _ => 0)))), (q2, .inl (G.2.2.2.1, 4, .inl (fun _ => 0))), (q3, .inl (G.2.2.2.1, 4, .inl (n_f4)))]) rfl ?_
  exact N_vret C D (Nat.le_of_ble_eq_true rfl) (Nat.le_of_ble_eq_true rfl) dX7_init_35 (h q1 q2 q3)
set_option maxHeartbeats 4000000 in
set_option maxRecDepth 100000 in
theorem i_X6_init (l : Launch) (G : vG) (h0 sz : Nat) (post : va_W → Prop) (h : ∀ q1 q2 q3 q4 : Nat, post [(h0, .inr (6, [.ref q1, .int 0, .ref q2, .ref q3, .ref q4, .int 0, .int 0, .int 0, .int 0, .long 0, .long 0, .int 0, .int 0])), (q1, .inl (G.2.2.1, 900, .inl (fun _ => 0))), (q2, .inl (G.2.2.2.1, 901, .inl (fun _ => 0))), (q3, .inl (G.2.2.2.1, 901, .inl (fun _ => 0))), (q4, .inl (G.2.2.2.2.1, 901, .inr (.inl (fun _ => 0))))]) : Met l yX6_init (v_ws yX6_init cX6_init 1 none) (n_rm 1 60 4 3603) (n_Pc G [.ref h0] [(h0, .inr (6, [.null, .int 0, .null, .null, .null, .int 0, .int 0, .int 0, .int 0, .long 0, .long 0, .int 0, .int 0]))] sz) (n_Qv G [(h0, .inr (6, [.null, .int 0, .null, .null, .null, .int 0, .int 0, .int 0, .int 0, .long 0, .long 0, .int 0, .int 0]))] sz post) 4 3603 (va_A [(h0, .inr (6, [.null, .int 0, .null, .null, .null, .int 0, .int 0, .int 0, .int 0, .long 0, .long 0, .int 0, .int 0]))] sz) := by
  refine n_start (by decide +kernel) (Nat.le_of_ble_eq_true rfl) (fun X hl hin C D => ?_)
  subst hl
  have C : n_Cx X G cX6_init RX6 1 (n_rm 1 60 4 3603) := C
  have hin : (v_meth X).name = "<init>" := hin
  show NJ X G [(h0, .inr (6, [.null, .int 0, .null, .null, .null, .int 0, .int 0, .int 0, .int 0, .long 0, .long 0, .int 0, .int 0]))] 0 0 0 [(0, .ref h0)] []
  refine N_aload_n C 0 dX6_init_0 rfl rfl ?_
  refine N_objInit C km_RX6_3 (Nat.le_of_ble_eq_true rfl) (Nat.le_of_ble_eq_true rfl) dX6_init_1 ?_
  refine N_aload_n C 0 dX6_init_4 rfl rfl ?_
  refine N_sipush (v := 900) C dX6_init_5 (by decide) ?_
  refine N_newb (N := 900) C (by decide) (by decide +kernel) (by decide) (Nat.le_of_ble_eq_true rfl) (Nat.le_of_ble_eq_true rfl) dX6_init_8 (fun q1 => ?_)
  refine N_ws (ws' := [(h0, .inr (6, [.null, .int 0, .null, .null, .null, .int 0, .int 0, .int 0, .int 0, .long 0, .long 0, .int 0, .int 0])), (q1, .inl (G.2.2.1, 900, .inl (fun _ => 0)))]) rfl ?_
  refine N_putF (ci := 6) (T := TX6) (N := 13) C hin 0 rfl rfl inlX6 tyX6_ok nmX6 0 (by decide) rfl kf_RX6_11 rfl rfl (tyX6_ok 0 (by decide)) rfl rfl (Nat.le_of_ble_eq_true rfl) dX6_init_10 ?_
  refine N_ws (ws' := [(h0, .inr (6, [.ref q1, .int 0, .null, .null, .null, .int 0, .int 0, .int 0, .int 0, .long 0, .long 0, .int 0, .int 0])), (q1, .inl (G.2.2.1, 900, .inl (fun _ => 0)))]) rfl ?_
  refine N_aload_n C 0 dX6_init_13 rfl rfl ?_
  refine N_sipush (v := 901) C dX6_init_14 (by decide) ?_
  refine N_newi (N := 901) C (by decide) (by decide +kernel) (by decide) (Nat.le_of_ble_eq_true rfl) (Nat.le_of_ble_eq_true rfl) dX6_init_17 (fun q2 => ?_)
  refine N_ws (ws' := [(h0, .inr (6, [.ref q1, .int 0, .null, .null, .null, .int 0, .int 0, .int 0, .int 0, .long 0, .long 0, .int 0, .int 0])), (q1, .inl (G.2.2.1, 900, .inl (fun _ => 0))), (q2, .inl (G.2.2.2.1, 901, .inl (fun _ => 0)))]) rfl ?_
  refine N_putF (ci := 6) (T := TX6) (N := 13) C hin 0 rfl rfl inlX6 tyX6_ok nmX6 2 (by decide) rfl kf_RX6_15 rfl rfl (tyX6_ok 2 (by decide)) rfl rfl (Nat.le_of_ble_eq_true rfl) dX6_init_19 ?_
  refine N_ws (ws' := [(h0, .inr (6, [.ref q1, .int 0, .ref q2, .null, .null, .int 0, .int 0, .int 0, .int 0, .long 0, .long 0, .int 0, .int 0])), (q1, .inl (G.2.2.1, 900, .inl (fun _ => 0))), (q2, .inl (G.2.2.2.1, 901, .inl (fun _ => 0)))]) rfl ?_
  refine N_aload_n C 0 dX6_init_22 rfl rfl ?_
  refine N_sipush (v := 901) C dX6_init_23 (by decide) ?_
  refine N_newi (N := 901) C (by decide) (by decide +kernel) (by decide) (Nat.le_of_ble_eq_true rfl) (Nat.le_of_ble_eq_true rfl) dX6_init_26 (fun q3 => ?_)
  refine N_ws (ws' := [(h0, .inr (6, [.ref q1, .int 0, .ref q2, .null, .null, .int 0, .int 0, .int 0, .int 0, .long 0, .long 0, .int 0, .int 0])), (q1, .inl (G.2.2.1, 900, .inl (fun _ => 0))), (q2, .inl (G.2.2.2.1, 901, .inl (fun _ => 0))), (q3, .inl (G.2.2.2.1, 901, .inl (fun _ => 0)))]) rfl ?_
  refine N_putF (ci := 6) (T := TX6) (N := 13) C hin 0 rfl rfl inlX6 tyX6_ok nmX6 3 (by decide) rfl kf_RX6_19 rfl rfl (tyX6_ok 3 (by decide)) rfl rfl (Nat.le_of_ble_eq_true rfl) dX6_init_28 ?_
  refine N_ws (ws' := [(h0, .inr (6, [.ref q1, .int 0, .ref q2, .ref q3, .null, .int 0, .int 0, .int 0, .int 0, .long 0, .long 0, .int 0, .int 0])), (q1, .inl (G.2.2.1, 900, .inl (fun _ => 0))), (q2, .inl (G.2.2.2.1, 901, .inl (fun _ => 0))), (q3, .inl (G.2.2.2.1, 901, .inl (fun _ => 0)))]) rfl ?_
  refine N_aload_n C 0 dX6_init_31 rfl rfl ?_
  refine N_sipush (v := 901) C dX6_init_32 (by decide) ?_
  refine N_newl (N := 901) C (by decide) (by decide +kernel) (by decide) (Nat.le_of_ble_eq_true rfl) (Nat.le_of_ble_eq_true rfl) dX6_init_35 (fun q4 => ?_)
  refine N_ws (ws' := [(h0, .inr (6, [.ref q1, .int 0, .ref q2, .ref q3, .null, .int 0, .int 0, .int 0, .int 0, .long 0, .long 0, .int 0, .int 0])), (q1, .inl (G.2.2.1, 900, .inl (fun _ => 0))), (q2, .inl (G.2.2.2.1, 901, .inl (fun _ => 0))), (q3, .inl (G.2.2.2.1, 901, .inl (fun _ => 0))), (q4, .inl (G.2.2.2.2.1, 901, .inr (.inl (fun _ => 0))))]) rfl ?_
  refine N_putF (ci := 6) (T := TX6) (N := 13) C hin 0 rfl rfl inlX6 tyX6_ok nmX6 4 (by decide) rfl kf_RX6_22 rfl rfl (tyX6_ok 4 (by decide)) rfl rfl (Nat.le_of_ble_eq_true rfl) dX6_init_37 ?_
  refine N_ws (ws' := [(h0, .inr (6, [.ref q1, .int 0, .ref q2, .ref q3, .ref q4, .int 0, .int 0, .int 0, .int 0, .long 0, .long 0, .int 0, .int 0])), (q1, .inl (G.2.2.1, 900, .inl (fun _ => 0))), (q2, .inl (G.2.2.2.1, 901, .inl (fun _ => 0))), (q3, .inl (G.2.2.2.1, 901, .inl (fun _ => 0))), (q4, .inl (G.2.2.2.2.1, 901, .inr (.inl (fun _ => 0))))]) rfl ?_
  exact N_vret C D (Nat.le_of_ble_eq_true rfl) (Nat.le_of_ble_eq_true rfl) dX6_init_40 (h q1 q2 q3 q4)
set_option maxHeartbeats 4000000 in
set_option maxRecDepth 100000 in
theorem i_X1_init (l : Launch) (G : vG) (h0 a1 a2 sz : Nat) (post : va_W → Prop) (h : post [(h0, .inr (1, [.ref a1, .ref a2, .int 0]))]) : Met l yX1_init (v_ws yX1_init cX1_init 3 none) (n_rm 1 60 0 0) (n_Pc G [.ref h0, .ref a1, .ref a2] [(h0, .inr (1, [.null, .null, .int 0]))] sz) (n_Qv G [(h0, .inr (1, [.null, .null, .int 0]))] sz post) 0 0 (va_A [(h0, .inr (1, [.null, .null, .int 0]))] sz) := by
  refine n_start (by decide +kernel) (Nat.le_of_ble_eq_true rfl) (fun X hl hin C D => ?_)
  subst hl
  have C : n_Cx X G cX1_init RX1 3 (n_rm 1 60 0 0) := C
  have hin : (v_meth X).name = "<init>" := hin
  show NJ X G [(h0, .inr (1, [.null, .null, .int 0]))] 0 0 0 [(0, .ref h0), (1, .ref a1), (2, .ref a2)] []
  refine N_aload_n C 0 dX1_init_0 rfl rfl ?_
  refine N_objInit C km_RX1_3 (Nat.le_of_ble_eq_true rfl) (Nat.le_of_ble_eq_true rfl) dX1_init_1 ?_
  refine N_aload_n C 0 dX1_init_4 rfl rfl ?_
  refine N_aload_n C 1 dX1_init_5 rfl rfl ?_
  refine N_putF (ci := 1) (T := TX1) (N := 3) C hin 0 rfl rfl inlX1 tyX1_ok nmX1 0 (by decide) rfl kf_RX1_9 rfl rfl (tyX1_ok 0 (by decide)) rfl rfl (Nat.le_of_ble_eq_true rfl) dX1_init_6 ?_
  refine N_ws (ws' := [(h0, .inr (1, [.ref a1, .null, .int 0]))]) rfl ?_
  refine N_aload_n C 0 dX1_init_9 rfl rfl ?_
  refine N_aload_n C 2 dX1_init_10 rfl rfl ?_
  refine N_putF (ci := 1) (T := TX1) (N := 3) C hin 0 rfl rfl inlX1 tyX1_ok nmX1 1 (by decide) rfl kf_RX1_15 rfl rfl (tyX1_ok 1 (by decide)) rfl rfl (Nat.le_of_ble_eq_true rfl) dX1_init_11 ?_
  refine N_ws (ws' := [(h0, .inr (1, [.ref a1, .ref a2, .int 0]))]) rfl ?_
  exact N_vret C D (Nat.le_of_ble_eq_true rfl) (Nat.le_of_ble_eq_true rfl) dX1_init_14 h
set_option maxHeartbeats 4000000 in
set_option maxRecDepth 100000 in
theorem i_X9_init (l : Launch) (G : vG) (h0 a1 a2 a3 sz : Nat) (post : va_W → Prop) (h : ∀ q1 : Nat, post [(h0, .inr (9, [.ref a1, .ref a2, .ref a3, .ref q1, .int 0, .int 0])), (q1, .inl (G.2.2.2.1, 3, .inl (fun _ => 0)))]) : Met l yX9_init (v_ws yX9_init cX9_init 4 none) (n_rm 1 60 1 3) (n_Pc G [.ref h0, .ref a1, .ref a2, .ref a3] [(h0, .inr (9, [.null, .null, .null, .null, .int 0, .int 0]))] sz) (n_Qv G [(h0, .inr (9, [.null, .null, .null, .null, .int 0, .int 0]))] sz post) 1 3 (va_A [(h0, .inr (9, [.null, .null, .null, .null, .int 0, .int 0]))] sz) := by
  refine n_start (by decide +kernel) (Nat.le_of_ble_eq_true rfl) (fun X hl hin C D => ?_)
  subst hl
  have C : n_Cx X G cX9_init RX9 4 (n_rm 1 60 1 3) := C
  have hin : (v_meth X).name = "<init>" := hin
  show NJ X G [(h0, .inr (9, [.null, .null, .null, .null, .int 0, .int 0]))] 0 0 0 [(0, .ref h0), (1, .ref a1), (2, .ref a2), (3, .ref a3)] []
  refine N_aload_n C 0 dX9_init_0 rfl rfl ?_
  refine N_objInit C km_RX9_3 (Nat.le_of_ble_eq_true rfl) (Nat.le_of_ble_eq_true rfl) dX9_init_1 ?_
  refine N_aload_n C 0 dX9_init_4 rfl rfl ?_
  refine N_iconst (v := 3) C dX9_init_5 (by decide) ?_
  refine N_newi (N := 3) C (by decide) (by decide +kernel) (by decide) (Nat.le_of_ble_eq_true rfl) (Nat.le_of_ble_eq_true rfl) dX9_init_6 (fun q1 => ?_)
  refine N_ws (ws' := [(h0, .inr (9, [.null, .null, .null, .null, .int 0, .int 0])), (q1, .inl (G.2.2.2.1, 3, .inl (fun _ => 0)))]) rfl ?_
  refine N_putF (ci := 9) (T := TX9) (N := 6) C hin 0 rfl rfl inlX9 tyX9_ok nmX9 3 (by decide) rfl kf_RX9_11 rfl rfl (tyX9_ok 3 (by decide)) rfl rfl (Nat.le_of_ble_eq_true rfl) dX9_init_8 ?_
  refine N_ws (ws' := [(h0, .inr (9, [.null, .null, .null, .ref q1, .int 0, .int 0])), (q1, .inl (G.2.2.2.1, 3, .inl (fun _ => 0)))]) rfl ?_
  refine N_aload_n C 0 dX9_init_11 rfl rfl ?_
  refine N_aload_n C 1 dX9_init_12 rfl rfl ?_
  refine N_putF (ci := 9) (T := TX9) (N := 6) C hin 0 rfl rfl inlX9 tyX9_ok nmX9 0 (by decide) rfl kf_RX9_15 rfl rfl (tyX9_ok 0 (by decide)) rfl rfl (Nat.le_of_ble_eq_true rfl) dX9_init_13 ?_
  refine N_ws (ws' := [(h0, .inr (9, [.ref a1, .null, .null, .ref q1, .int 0, .int 0])), (q1, .inl (G.2.2.2.1, 3, .inl (fun _ => 0)))]) rfl ?_
  refine N_aload_n C 0 dX9_init_16 rfl rfl ?_
  refine N_aload_n C 2 dX9_init_17 rfl rfl ?_
  refine N_putF (ci := 9) (T := TX9) (N := 6) C hin 0 rfl rfl inlX9 tyX9_ok nmX9 1 (by decide) rfl kf_RX9_19 rfl rfl (tyX9_ok 1 (by decide)) rfl rfl (Nat.le_of_ble_eq_true rfl) dX9_init_18 ?_
  refine N_ws (ws' := [(h0, .inr (9, [.ref a1, .ref a2, .null, .ref q1, .int 0, .int 0])), (q1, .inl (G.2.2.2.1, 3, .inl (fun _ => 0)))]) rfl ?_
  refine N_aload_n C 0 dX9_init_21 rfl rfl ?_
  refine N_aload_n C 3 dX9_init_22 rfl rfl ?_
  refine N_putF (ci := 9) (T := TX9) (N := 6) C hin 0 rfl rfl inlX9 tyX9_ok nmX9 2 (by decide) rfl kf_RX9_23 rfl rfl (tyX9_ok 2 (by decide)) rfl rfl (Nat.le_of_ble_eq_true rfl) dX9_init_23 ?_
  refine N_ws (ws' := [(h0, .inr (9, [.ref a1, .ref a2, .ref a3, .ref q1, .int 0, .int 0])), (q1, .inl (G.2.2.2.1, 3, .inl (fun _ => 0)))]) rfl ?_
  exact N_vret C D (Nat.le_of_ble_eq_true rfl) (Nat.le_of_ble_eq_true rfl) dX9_init_26 (h q1)
set_option maxHeartbeats 4000000 in
set_option maxRecDepth 100000 in
theorem i_X3_init (l : Launch) (G : vG) (h0 a1 sz : Nat) (post : va_W → Prop) (h : ∀ q1 q2 q3 q4 q5 q6 q7 q8 q9 : Nat, post [(h0, .inr (3, [.ref a1, .ref q1, .ref q2, .ref q3, .ref q4, .ref q5, .ref q6, .ref q7, .ref q8, .ref q9])), (q1, .inl (G.2.2.2.2.1, 10, .inr (.inl (fun _ => 0)))), (q2, .inl (G.2.2.2.2.1, 17, .inr (.inl (fun _ => 0)))), (q3, .inl (G.2.2.2.2.1, 17, .inr (.inl (fun _ => 0)))), (q4, .inl (G.2.2.2.2.1, 80, .inr (.inl (fun _ => 0)))), (q5, .inl (G.2.2.2.2.1, 80, .inr (.inl (fun _ => 0)))), (q6, .inl (G.2.2.2.2.1, 80, .inr (.inl (fun _ => 0)))), (q7, .inl (G.2.2.2.2.1, 80, .inr (.inl (fun _ => 0)))), (q8, .inl (G.2.2.2.1, 8, .inl (fun _ => 0))), (q9, .inl (G.2.2.2.2.1, 10, .inr (.inl (fun _ => 0))))]) : Met l yX3_init (v_ws yX3_init cX3_init 2 none) (n_rm 1 60 9 382) (n_Pc G [.ref h0, .ref a1] [(h0, .inr (3, [.null, .null, .null, .null, .null, .null, .null, .null, .null, .null]))] sz) (n_Qv G [(h0, .inr (3, [.null, .null, .null, .null, .null, .null, .null, .null, .null, .null]))] sz post) 9 382 (va_A [(h0, .inr (3, [.null, .null, .null, .null, .null, .null, .null, .null, .null, .null]))] sz) := by
  refine n_start (by decide +kernel) (Nat.le_of_ble_eq_true rfl) (fun X hl hin C D => ?_)
  subst hl
  have C : n_Cx X G cX3_init RX3 2 (n_rm 1 60 9 382) := C
  have hin : (v_meth X).name = "<init>" := hin
  show NJ X G [(h0, .inr (3, [.null, .null, .null, .null, .null, .null, .null, .null, .null, .null]))] 0 0 0 [(0, .ref h0), (1, .ref a1)] []
  refine N_aload_n C 0 dX3_init_0 rfl rfl ?_
  refine N_objInit C km_RX3_3 (Nat.le_of_ble_eq_true rfl) (Nat.le_of_ble_eq_true rfl) dX3_init_1 ?_
  refine N_aload_n C 0 dX3_init_4 rfl rfl ?_
  refine N_bipush (v := 10) C dX3_init_5 (by decide) ?_
  refine N_newl (N := 10) C (by decide) (by decide +kernel) (by decide) (Nat.le_of_ble_eq_true rfl) (Nat.le_of_ble_eq_true rfl) dX3_init_7 (fun q1 => ?_)
  refine N_ws (ws' := [(h0, .inr (3, [.null, .null, .null, .null, .null, .null, .null, .null, .null, .null])), (q1, .inl (G.2.2.2.2.1, 10, .inr (.inl (fun _ => 0))))]) rfl ?_
  refine N_putF (ci := 3) (T := TX3) (N := 10) C hin 0 rfl rfl inlX3 tyX3_ok nmX3 1 (by decide) rfl kf_RX3_9 rfl rfl (tyX3_ok 1 (by decide)) rfl rfl (Nat.le_of_ble_eq_true rfl) dX3_init_9 ?_
  refine N_ws (ws' := [(h0, .inr (3, [.null, .ref q1, .null, .null, .null, .null, .null, .null, .null, .null])), (q1, .inl (G.2.2.2.2.1, 10, .inr (.inl (fun _ => 0))))]) rfl ?_
  refine N_aload_n C 0 dX3_init_12 rfl rfl ?_
  refine N_bipush (v := 17) C dX3_init_13 (by decide) ?_
  refine N_newl (N := 17) C (by decide) (by decide +kernel) (by decide) (Nat.le_of_ble_eq_true rfl) (Nat.le_of_ble_eq_true rfl) dX3_init_15 (fun q2 => ?_)
  refine N_ws (ws' := [(h0, .inr (3, [.null, .ref q1, .null, .null, .null, .null, .null, .null, .null, .null])), (q1, .inl (G.2.2.2.2.1, 10, .inr (.inl (fun _ => 0)))), (q2, .inl (G.2.2.2.2.1, 17, .inr (.inl (fun _ => 0))))]) rfl ?_
  refine N_putF (ci := 3) (T := TX3) (N := 10) C hin 0 rfl rfl inlX3 tyX3_ok nmX3 2 (by decide) rfl kf_RX3_15 rfl rfl (tyX3_ok 2 (by decide)) rfl rfl (Nat.le_of_ble_eq_true rfl) dX3_init_17 ?_
  refine N_ws (ws' := [(h0, .inr (3, [.null, .ref q1, .ref q2, .null, .null, .null, .null, .null, .null, .null])), (q1, .inl (G.2.2.2.2.1, 10, .inr (.inl (fun _ => 0)))), (q2, .inl (G.2.2.2.2.1, 17, .inr (.inl (fun _ => 0))))]) rfl ?_
  refine N_aload_n C 0 dX3_init_20 rfl rfl ?_
  refine N_bipush (v := 17) C dX3_init_21 (by decide) ?_
  refine N_newl (N := 17) C (by decide) (by decide +kernel) (by decide) (Nat.le_of_ble_eq_true rfl) (Nat.le_of_ble_eq_true rfl) dX3_init_23 (fun q3 => ?_)
  refine N_ws (ws' := [(h0, .inr (3, [.null, .ref q1, .ref q2, .null, .null, .null, .null, .null, .null, .null])), (q1, .inl (G.2.2.2.2.1, 10, .inr (.inl (fun _ => 0)))), (q2, .inl (G.2.2.2.2.1, 17, .inr (.inl (fun _ => 0)))), (q3, .inl (G.2.2.2.2.1, 17, .inr (.inl (fun _ => 0))))]) rfl ?_
  refine N_putF (ci := 3) (T := TX3) (N := 10) C hin 0 rfl rfl inlX3 tyX3_ok nmX3 3 (by decide) rfl kf_RX3_18 rfl rfl (tyX3_ok 3 (by decide)) rfl rfl (Nat.le_of_ble_eq_true rfl) dX3_init_25 ?_
  refine N_ws (ws' := [(h0, .inr (3, [.null, .ref q1, .ref q2, .ref q3, .null, .null, .null, .null, .null, .null])), (q1, .inl (G.2.2.2.2.1, 10, .inr (.inl (fun _ => 0)))), (q2, .inl (G.2.2.2.2.1, 17, .inr (.inl (fun _ => 0)))), (q3, .inl (G.2.2.2.2.1, 17, .inr (.inl (fun _ => 0))))]) rfl ?_
  refine N_aload_n C 0 dX3_init_28 rfl rfl ?_
  refine N_bipush (v := 80) C dX3_init_29 (by decide) ?_
  refine N_newl (N := 80) C (by decide) (by decide +kernel) (by decide) (Nat.le_of_ble_eq_true rfl) (Nat.le_of_ble_eq_true rfl) dX3_init_31 (fun q4 => ?_)
  refine N_ws (ws' := [(h0, .inr (3, [.null, .ref q1, .ref q2, .ref q3, .null, .null, .null, .null, .null, .null])), (q1, .inl (G.2.2.2.2.1, 10, .inr (.inl (fun _ => 0)))), (q2, .inl (G.2.2.2.2.1, 17, .inr (.inl (fun _ => 0)))), (q3, .inl (G.2.2.2.2.1, 17, .inr (.inl (fun _ => 0)))), (q4, .inl (G.2.2.2.2.1, 80, .inr (.inl (fun _ => 0))))]) rfl ?_
  refine N_putF (ci := 3) (T := TX3) (N := 10) C hin 0 rfl rfl inlX3 tyX3_ok nmX3 4 (by decide) rfl kf_RX3_21 rfl rfl (tyX3_ok 4 (by decide)) rfl rfl (Nat.le_of_ble_eq_true rfl) dX3_init_33 ?_
  refine N_ws (ws' := [(h0, .inr (3, [.null, .ref q1, .ref q2, .ref q3, .ref q4, .null, .null, .null, .null, .null])), (q1, .inl (G.2.2.2.2.1, 10, .inr (.inl (fun _ => 0)))), (q2, .inl (G.2.2.2.2.1, 17, .inr (.inl (fun _ => 0)))), (q3, .inl (G.2.2.2.2.1, 17, .inr (.inl (fun _ => 0)))), (q4, .inl (G.2.2.2.2.1, 80, .inr (.inl (fun _ => 0))))]) rfl ?_
  refine N_aload_n C 0 dX3_init_36 rfl rfl ?_
  refine N_bipush (v := 80) C dX3_init_37 (by decide) ?_
  refine N_newl (N := 80) C (by decide) (by decide +kernel) (by decide) (Nat.le_of_ble_eq_true rfl) (Nat.le_of_ble_eq_true rfl) dX3_init_39 (fun q5 => ?_)
  refine N_ws (ws' := [(h0, .inr (3, [.null, .ref q1, .ref q2, .ref q3, .ref q4, .null, .null, .null, .null, .null])), (q1, .inl (G.2.2.2.2.1, 10, .inr (.inl (fun _ => 0)))), (q2, .inl (G.2.2.2.2.1, 17, .inr (.inl (fun _ => 0)))), (q3, .inl (G.2.2.2.2.1, 17, .inr (.inl (fun _ => 0)))), (q4, .inl (G.2.2.2.2.1, 80, .inr (.inl (fun _ => 0)))), (q5, .inl (G.2.2.2.2.1, 80, .inr (.inl (fun _ => 0))))]) rfl ?_
  refine N_putF (ci := 3) (T := TX3) (N := 10) C hin 0 rfl rfl inlX3 tyX3_ok nmX3 5 (by decide) rfl kf_RX3_24 rfl rfl (tyX3_ok 5 (by decide)) rfl rfl (Nat.le_of_ble_eq_true rfl) dX3_init_41 ?_
  refine N_ws (ws' := [(h0, .inr (3, [.null, .ref q1, .ref q2, .ref q3, .ref q4, .ref q5, .null, .null, .null, .null])), (q1, .inl (G.2.2.2.2.1, 10, .inr (.inl (fun _ => 0)))), (q2, .inl (G.2.2.2.2.1, 17, .inr (.inl (fun _ => 0)))), (q3, .inl (G.2.2.2.2.1, 17, .inr (.inl (fun _ => 0)))), (q4, .inl (G.2.2.2.2.1, 80, .inr (.inl (fun _ => 0)))), (q5, .inl (G.2.2.2.2.1, 80, .inr (.inl (fun _ => 0))))]) rfl ?_
  refine N_aload_n C 0 dX3_init_44 rfl rfl ?_
  refine N_bipush (v := 80) C dX3_init_45 (by decide) ?_
  refine N_newl (N := 80) C (by decide) (by decide +kernel) (by decide) (Nat.le_of_ble_eq_true rfl) (Nat.le_of_ble_eq_true rfl) dX3_init_47 (fun q6 => ?_)
  refine N_ws (ws' := [(h0, .inr (3, [.null, .ref q1, .ref q2, .ref q3, .ref q4, .ref q5, .null, .null, .null, .null])), (q1, .inl (G.2.2.2.2.1, 10, .inr (.inl (fun _ => 0)))), (q2, .inl (G.2.2.2.2.1, 17, .inr (.inl (fun _ => 0)))), (q3, .inl (G.2.2.2.2.1, 17, .inr (.inl (fun _ => 0)))), (q4, .inl (G.2.2.2.2.1, 80, .inr (.inl (fun _ => 0)))), (q5, .inl (G.2.2.2.2.1, 80, .inr (.inl (fun _ => 0)))), (q6, .inl (G.2.2.2.2.1, 80, .inr (.inl (fun _ => 0))))]) rfl ?_
  refine N_putF (ci := 3) (T := TX3) (N := 10) C hin 0 rfl rfl inlX3 tyX3_ok nmX3 6 (by decide) rfl kf_RX3_27 rfl rfl (tyX3_ok 6 (by decide)) rfl rfl (Nat.le_of_ble_eq_true rfl) dX3_init_49 ?_
  refine N_ws (ws' := [(h0, .inr (3, [.null, .ref q1, .ref q2, .ref q3, .ref q4, .ref q5, .ref q6, .null, .null, .null])), (q1, .inl (G.2.2.2.2.1, 10, .inr (.inl (fun _ => 0)))), (q2, .inl (G.2.2.2.2.1, 17, .inr (.inl (fun _ => 0)))), (q3, .inl (G.2.2.2.2.1, 17, .inr (.inl (fun _ => 0)))), (q4, .inl (G.2.2.2.2.1, 80, .inr (.inl (fun _ => 0)))), (q5, .inl (G.2.2.2.2.1, 80, .inr (.inl (fun _ => 0)))), (q6, .inl (G.2.2.2.2.1, 80, .inr (.inl (fun _ => 0))))]) rfl ?_
  refine N_aload_n C 0 dX3_init_52 rfl rfl ?_
  refine N_bipush (v := 80) C dX3_init_53 (by decide) ?_
  refine N_newl (N := 80) C (by decide) (by decide +kernel) (by decide) (Nat.le_of_ble_eq_true rfl) (Nat.le_of_ble_eq_true rfl) dX3_init_55 (fun q7 => ?_)
  refine N_ws (ws' := [(h0, .inr (3, [.null, .ref q1, .ref q2, .ref q3, .ref q4, .ref q5, .ref q6, .null, .null, .null])), (q1, .inl (G.2.2.2.2.1, 10, .inr (.inl (fun _ => 0)))), (q2, .inl (G.2.2.2.2.1, 17, .inr (.inl (fun _ => 0)))), (q3, .inl (G.2.2.2.2.1, 17, .inr (.inl (fun _ => 0)))), (q4, .inl (G.2.2.2.2.1, 80, .inr (.inl (fun _ => 0)))), (q5, .inl (G.2.2.2.2.1, 80, .inr (.inl (fun _ => 0)))), (q6, .inl (G.2.2.2.2.1, 80, .inr (.inl (fun _ => 0)))), (q7, .inl (G.2.2.2.2.1, 80, .inr (.inl (fun _ => 0))))]) rfl ?_
  refine N_putF (ci := 3) (T := TX3) (N := 10) C hin 0 rfl rfl inlX3 tyX3_ok nmX3 7 (by decide) rfl kf_RX3_30 rfl rfl (tyX3_ok 7 (by decide)) rfl rfl (Nat.le_of_ble_eq_true rfl) dX3_init_57 ?_
  refine N_ws (ws' := [(h0, .inr (3, [.null, .ref q1, .ref q2, .ref q3, .ref q4, .ref q5, .ref q6, .ref q7, .null, .null])), (q1, .inl (G.2.2.2.2.1, 10, .inr (.inl (fun _ => 0)))), (q2, .inl (G.2.2.2.2.1, 17, .inr (.inl (fun _ => 0)))), (q3, .inl (G.2.2.2.2.1, 17, .inr (.inl (fun _ => 0)))), (q4, .inl (G.2.2.2.2.1, 80, .inr (.inl (fun _ => 0)))), (q5, .inl (G.2.2.2.2.1, 80, .inr (.inl (fun _ => 0)))), (q6, .inl (G.2.2.2.2.1, 80, .inr (.inl (fun _ => 0)))), (q7, .inl (G.2.2.2.2.1, 80, .inr (.inl (fun _ => 0))))]) rfl ?_
  refine N_aload_n C 0 dX3_init_60 rfl rfl ?_
  refine N_bipush (v := 8) C dX3_init_61 (by decide) ?_
  refine N_newi (N := 8) C (by decide) (by decide +kernel) (by decide) (Nat.le_of_ble_eq_true rfl) (Nat.le_of_ble_eq_true rfl) dX3_init_63 (fun q8 => ?_)
  refine N_ws (ws' := [(h0, .inr (3, [.null, .ref q1, .ref q2, .ref q3, .ref q4, .ref q5, .ref q6, .ref q7, .null, .null])), (q1, .inl (G.2.2.2.2.1, 10, .inr (.inl (fun _ => 0)))), (q2, .inl (G.2.2.2.2.1, 17, .inr (.inl (fun _ => 0)))), (q3, .inl (G.2.2.2.2.1, 17, .inr (.inl (fun _ => 0)))), (q4, .inl (G.2.2.2.2.1, 80, .inr (.inl (fun _ => 0)))), (q5, .inl (G.2.2.2.2.1, 80, .inr (.inl (fun _ => 0)))), (q6, .inl (G.2.2.2.2.1, 80, .inr (.inl (fun _ => 0)))), (q7, .inl (G.2.2.2.2.1, 80, .inr (.inl (fun _ => 0)))), (q8, .inl (G.2.2.2.1, 8, .inl (fun _ => 0)))]) rfl ?_
  refine N_putF (ci := 3) (T := TX3) (N := 10) C hin 0 rfl rfl inlX3 tyX3_ok nmX3 8 (by decide) rfl kf_RX3_33 rfl rfl (tyX3_ok 8 (by decide)) rfl rfl (Nat.le_of_ble_eq_true rfl) dX3_init_65 ?_
  refine N_ws (ws' := [(h0, .inr (3, [.null, .ref q1, .ref q2, .ref q3, .ref q4, .ref q5, .ref q6, .ref q7, .ref q8, .null])), (q1, .inl (G.2.2.2.2.1, 10, .inr (.inl (fun _ => 0)))), (q2, .inl (G.2.2.2.2.1, 17, .inr (.inl (fun _ => 0)))), (q3, .inl (G.2.2.2.2.1, 17, .inr (.inl (fun _ => 0)))), (q4, .inl (G.2.2.2.2.1, 80, .inr (.inl (fun _ => 0)))), (q5, .inl (G.2.2.2.2.1, 80, .inr (.inl (fun _ => 0)))), (q6, .inl (G.2.2.2.2.1, 80, .inr (.inl (fun _ => 0)))), (q7, .inl (G.2.2.2.2.1, 80, .inr (.inl (fun _ => 0)))), (q8, .inl (G.2.2.2.1, 8, .inl (fun _ => 0)))]) rfl ?_
  refine N_aload_n C 0 dX3_init_68 rfl rfl ?_
  refine N_bipush (v := 10) C dX3_init_69 (by decide) ?_
  refine N_newl (N := 10) C (by decide) (by decide +kernel) (by decide) (Nat.le_of_ble_eq_true rfl) (Nat.le_of_ble_eq_true rfl) dX3_init_71 (fun q9 => ?_)
  refine N_ws (ws' := [(h0, .inr (3, [.null, .ref q1, .ref q2, .ref q3, .ref q4, .ref q5, .ref q6, .ref q7, .ref q8, .null])), (q1, .inl (G.2.2.2.2.1, 10, .inr (.inl (fun _ => 0)))), (q2, .inl (G.2.2.2.2.1, 17, .inr (.inl (fun _ => 0)))), (q3, .inl (G.2.2.2.2.1, 17, .inr (.inl (fun _ => 0)))), (q4, .inl (G.2.2.2.2.1, 80, .inr (.inl (fun _ => 0)))), (q5, .inl (G.2.2.2.2.1, 80, .inr (.inl (fun _ => 0)))), (q6, .inl (G.2.2.2.2.1, 80, .inr (.inl (fun _ => 0)))), (q7, .inl (G.2.2.2.2.1, 80, .inr (.inl (fun _ => 0)))), (q8, .inl (G.2.2.2.1, 8, .inl (fun _ => 0))), (q9, .inl (G.2.2.2.2.1, 10, .inr (.inl (fun _ => 0))))]) rfl ?_
  refine N_putF (ci := 3) (T := TX3) (N := 10) C hin 0 rfl rfl inlX3 tyX3_ok nmX3 9 (by decide) rfl kf_RX3_37 rfl rfl (tyX3_ok 9 (by decide)) rfl rfl (Nat.le_of_ble_eq_true rfl) dX3_init_73 ?_
  refine N_ws (ws' := [(h0, .inr (3, [.null, .ref q1, .ref q2, .ref q3, .ref q4, .ref q5, .ref q6, .ref q7, .ref q8, .ref q9])), (q1, .inl (G.2.2.2.2.1, 10, .inr (.inl (fun _ => 0)))), (q2, .inl (G.2.2.2.2.1, 17, .inr (.inl (fun _ => 0)))), (q3, .inl (G.2.2.2.2.1, 17, .inr (.inl (fun _ => 0)))), (q4, .inl (G.2.2.2.2.1, 80, .inr (.inl (fun _ => 0)))), (q5, .inl (G.2.2.2.2.1, 80, .inr (.inl (fun _ => 0)))), (q6, .inl (G.2.2.2.2.1, 80, .inr (.inl (fun _ => 0)))), (q7, .inl (G.2.2.2.2.1, 80, .inr (.inl (fun _ => 0)))), (q8, .inl (G.2.2.2.1, 8, .inl (fun _ => 0))), (q9, .inl (G.2.2.2.2.1, 10, .inr (.inl (fun _ => 0))))]) rfl ?_
  refine N_aload_n C 0 dX3_init_76 rfl rfl ?_
  refine N_aload_n C 1 dX3_init_77 rfl rfl ?_
  refine N_putF (ci := 3) (T := TX3) (N := 10) C hin 0 rfl rfl inlX3 tyX3_ok nmX3 0 (by decide) rfl kf_RX3_40 rfl rfl (tyX3_ok 0 (by decide)) rfl rfl (Nat.le_of_ble_eq_true rfl) dX3_init_78 ?_
  refine N_ws (ws' := [(h0, .inr (3, [.ref a1, .ref q1, .ref q2, .ref q3, .ref q4, .ref q5, .ref q6, .ref q7, .ref q8, .ref q9])), (q1, .inl (G.2.2.2.2.1, 10, .inr (.inl (fun _ => 0)))), (q2, .inl (G.2.2.2.2.1, 17, .inr (.inl (fun _ => 0)))), (q3, .inl (G.2.2.2.2.1, 17, .inr (.inl (fun _ => 0)))), (q4, .inl (G.2.2.2.2.1, 80, .inr (.inl (fun _ => 0)))), (q5, .inl (G.2.2.2.2.1, 80, .inr (.inl (fun _ => 0)))), (q6, .inl (G.2.2.2.2.1, 80, .inr (.inl (fun _ => 0)))), (q7, .inl (G.2.2.2.2.1, 80, .inr (.inl (fun _ => 0)))), (q8, .inl (G.2.2.2.1, 8, .inl (fun _ => 0))), (q9, .inl (G.2.2.2.2.1, 10, .inr (.inl (fun _ => 0))))]) rfl ?_
  exact N_vret C D (Nat.le_of_ble_eq_true rfl) (Nat.le_of_ble_eq_true rfl) dX3_init_81 (h q1 q2 q3 q4 q5 q6 q7 q8 q9)
set_option maxHeartbeats 4000000 in
set_option maxRecDepth 100000 in
theorem i_X2_init (l : Launch) (G : vG) (h0 a1 a2 sz : Nat) (post : va_W → Prop) (h : ∀ q1 q2 q3 : Nat, post [(h0, .inr (2, [.ref a1, .ref a2, .ref q1, .ref q2, .ref q3, .int 0])), (q1, .inl (G.2.2.2.1, 10, .inl (fun _ => 0))), (q2, .inl (G.2.2.2.2.1, 10, .inr (.inl (fun _ => 0)))), (q3, .inl (G.2.2.2.2.1, 8, .inr (.inl (fun _ => 0))))]) : Met l yX2_init (v_ws yX2_init cX2_init 3 none) (n_rm 1 60 3 28) (n_Pc G [.ref h0, .ref a1, .ref a2] [(h0, .inr (2, [.null, .null, .null, .null, .null, .int 0]))] sz) (n_Qv G [(h0, .inr (2, [.null, .null, .null, .null, .null, .int 0]))] sz post) 3 28 (va_A [(h0, .inr (2, [.null, .null, .null, .null, .null, .int 0]))] sz) := by
  refine n_start (by decide +kernel) (Nat.le_of_ble_eq_true rfl) (fun X hl hin C D => ?_)
  subst hl
  have C : n_Cx X G cX2_init RX2 3 (n_rm 1 60 3 28) := C
  have hin : (v_meth X).name = "<init>" := hin
  show NJ X G [(h0, .inr (2, [.null, .null, .null, .null, .null, .int 0]))] 0 0 0 [(0, .ref h0), (1, .ref a1), (2, .ref a2)] []
  refine N_aload_n C 0 dX2_init_0 rfl rfl ?_
  refine N_objInit C km_RX2_3 (Nat.le_of_ble_eq_true rfl) (Nat.le_of_ble_eq_true rfl) dX2_init_1 ?_
  refine N_aload_n C 0 dX2_init_4 rfl rfl ?_
  refine N_bipush (v := 10) C dX2_init_5 (by decide) ?_
  refine N_newi (N := 10) C (by decide) (by decide +kernel) (by decide) (Nat.le_of_ble_eq_true rfl) (Nat.le_of_ble_eq_true rfl) dX2_init_7 (fun q1 => ?_)
  refine N_ws (ws' := [(h0, .inr (2, [.null, .null, .null, .null, .null, .int 0])), (q1, .inl (G.2.2.2.1, 10, .inl (fun _ => 0)))]) rfl ?_
  refine N_putF (ci := 2) (T := TX2) (N := 6) C hin 0 rfl rfl inlX2 tyX2_ok nmX2 2 (by decide) rfl kf_RX2_9 rfl rfl (tyX2_ok 2 (by decide)) rfl rfl (Nat.le_of_ble_eq_true rfl) dX2_init_9 ?_
  refine N_ws (ws' := [(h0, .inr (2, [.null, .null, .ref q1, .null, .null, .int 0])), (q1, .inl (G.2.2.2.1, 10, .inl (fun _ => 0)))]) rfl ?_
  refine N_aload_n C 0 dX2_init_12 rfl rfl ?_
  refine N_bipush (v := 10) C dX2_init_13 (by decide) ?_
  refine N_newl (N := 10) C (by decide) (by decide +kernel) (by decide) (Nat.le_of_ble_eq_true rfl) (Nat.le_of_ble_eq_true rfl) dX2_init_15 (fun q2 => ?_)
  refine N_ws (ws' := [(h0, .inr (2, [.null, .null, .ref q1, .null, .null, .int 0])), (q1, .inl (G.2.2.2.1, 10, .inl (fun _ => 0))), (q2, .inl (G.2.2.2.2.1, 10, .inr (.inl (fun _ => 0))))]) rfl ?_
  refine N_putF (ci := 2) (T := TX2) (N := 6) C hin 0 rfl rfl inlX2 tyX2_ok nmX2 3 (by decide) rfl kf_RX2_15 rfl rfl (tyX2_ok 3 (by decide)) rfl rfl (Nat.le_of_ble_eq_true rfl) dX2_init_17 ?_
  refine N_ws (ws' := [(h0, .inr (2, [.null, .null, .ref q1, .ref q2, .null, .int 0])), (q1, .inl (G.2.2.2.1, 10, .inl (fun _ => 0))), (q2, .inl (G.2.2.2.2.1, 10, .inr (.inl (fun _ => 0))))]) rfl ?_
  refine N_aload_n C 0 dX2_init_20 rfl rfl ?_
  refine N_bipush (v := 8) C dX2_init_21 (by decide) ?_
  refine N_newl (N := 8) C (by decide) (by decide +kernel) (by decide) (Nat.le_of_ble_eq_true rfl) (Nat.le_of_ble_eq_true rfl) dX2_init_23 (fun q3 => ?_)
  refine N_ws (ws' := [(h0, .inr (2, [.null, .null, .ref q1, .ref q2, .null, .int 0])), (q1, .inl (G.2.2.2.1, 10, .inl (fun _ => 0))), (q2, .inl (G.2.2.2.2.1, 10, .inr (.inl (fun _ => 0)))), (q3, .inl (G.2.2.2.2.1, 8, .inr (.inl (fun _ => 0))))]) rfl ?_
  refine N_putF (ci := 2) (T := TX2) (N := 6) C hin 0 rfl rfl inlX2 tyX2_ok nmX2 4 (by decide) rfl kf_RX2_19 rfl rfl (tyX2_ok 4 (by decide)) rfl rfl (Nat.le_of_ble_eq_true rfl) dX2_init_25 ?_
  refine N_ws (ws' := [(h0, .inr (2, [.null, .null, .ref q1, .ref q2, .ref q3, .int 0])), (q1, .inl (G.2.2.2.1, 10, .inl (fun _ => 0))), (q2, .inl (G.2.2.2.2.1, 10, .inr (.inl (fun _ => 0)))), (q3, .inl (G.2.2.2.2.1, 8, .inr (.inl (fun _ => 0))))]) rfl ?_
  refine N_aload_n C 0 dX2_init_28 rfl rfl ?_
  refine N_aload_n C 1 dX2_init_29 rfl rfl ?_
  refine N_putF (ci := 2) (T := TX2) (N := 6) C hin 0 rfl rfl inlX2 tyX2_ok nmX2 0 (by decide) rfl kf_RX2_22 rfl rfl (tyX2_ok 0 (by decide)) rfl rfl (Nat.le_of_ble_eq_true rfl) dX2_init_30 ?_
  refine N_ws (ws' := [(h0, .inr (2, [.ref a1, .null, .ref q1, .ref q2, .ref q3, .int 0])), (q1, .inl (G.2.2.2.1, 10, .inl (fun _ => 0))), (q2, .inl (G.2.2.2.2.1, 10, .inr (.inl (fun _ => 0)))), (q3, .inl (G.2.2.2.2.1, 8, .inr (.inl (fun _ => 0))))]) rfl ?_
  refine N_aload_n C 0 dX2_init_33 rfl rfl ?_
  refine N_aload_n C 2 dX2_init_34 rfl rfl ?_
  refine N_putF (ci := 2) (T := TX2) (N := 6) C hin 0 rfl rfl inlX2 tyX2_ok nmX2 1 (by decide) rfl kf_RX2_26 rfl rfl (tyX2_ok 1 (by decide)) rfl rfl (Nat.le_of_ble_eq_true rfl) dX2_init_35 ?_
  refine N_ws (ws' := [(h0, .inr (2, [.ref a1, .ref a2, .ref q1, .ref q2, .ref q3, .int 0])), (q1, .inl (G.2.2.2.1, 10, .inl (fun _ => 0))), (q2, .inl (G.2.2.2.2.1, 10, .inr (.inl (fun _ => 0)))), (q3, .inl (G.2.2.2.2.1, 8, .inr (.inl (fun _ => 0))))]) rfl ?_
  exact N_vret C D (Nat.le_of_ble_eq_true rfl) (Nat.le_of_ble_eq_true rfl) dX2_init_38 (h q1 q2 q3)
set_option maxHeartbeats 4000000 in
set_option maxRecDepth 100000 in
theorem i_X5_init (l : Launch) (G : vG) (h0 a1 sz : Nat) (post : va_W → Prop) (h : ∀ q1 : Nat, post [(h0, .inr (5, [.ref a1, .ref q1, .int 0, .int 0, .int 0])), (q1, .inl (G.2.2.2.1, 10, .inl (fun _ => 0)))]) : Met l yX5_init (v_ws yX5_init cX5_init 2 none) (n_rm 1 60 1 10) (n_Pc G [.ref h0, .ref a1] [(h0, .inr (5, [.null, .null, .int 0, .int 0, .int 0]))] sz) (n_Qv G [(h0, .inr (5, [.null, .null, .int 0, .int 0, .int 0]))] sz post) 1 10 (va_A [(h0, .inr (5, [.null, .null, .int 0, .int 0, .int 0]))] sz) := by
  refine n_start (by decide +kernel) (Nat.le_of_ble_eq_true rfl) (fun X hl hin C D => ?_)
  subst hl
  have C : n_Cx X G cX5_init RX5 2 (n_rm 1 60 1 10) := C
  have hin : (v_meth X).name = "<init>" := hin
  show NJ X G [(h0, .inr (5, [.null, .null, .int 0, .int 0, .int 0]))] 0 0 0 [(0, .ref h0), (1, .ref a1)] []
  refine N_aload_n C 0 dX5_init_0 rfl rfl ?_
  refine N_objInit C km_RX5_3 (Nat.le_of_ble_eq_true rfl) (Nat.le_of_ble_eq_true rfl) dX5_init_1 ?_
  refine N_aload_n C 0 dX5_init_4 rfl rfl ?_
  refine N_bipush (v := 10) C dX5_init_5 (by decide) ?_
  refine N_newi (N := 10) C (by decide) (by decide +kernel) (by decide) (Nat.le_of_ble_eq_true rfl) (Nat.le_of_ble_eq_true rfl) dX5_init_7 (fun q1 => ?_)
  refine N_ws (ws' := [(h0, .inr (5, [.null, .null, .int 0, .int 0, .int 0])), (q1, .inl (G.2.2.2.1, 10, .inl (fun _ => 0)))]) rfl ?_
  refine N_putF (ci := 5) (T := TX5) (N := 5) C hin 0 rfl rfl inlX5 tyX5_ok nmX5 1 (by decide) rfl kf_RX5_9 rfl rfl (tyX5_ok 1 (by decide)) rfl rfl (Nat.le_of_ble_eq_true rfl) dX5_init_9 ?_
  refine N_ws (ws' := [(h0, .inr (5, [.null, .ref q1, .int 0, .int 0, .int 0])), (q1, .inl (G.2.2.2.1, 10, .inl (fun _ => 0)))]) rfl ?_
  refine N_aload_n C 0 dX5_init_12 rfl rfl ?_
  refine N_aload_n C 1 dX5_init_13 rfl rfl ?_
  refine N_putF (ci := 5) (T := TX5) (N := 5) C hin 0 rfl rfl inlX5 tyX5_ok nmX5 0 (by decide) rfl kf_RX5_15 rfl rfl (tyX5_ok 0 (by decide)) rfl rfl (Nat.le_of_ble_eq_true rfl) dX5_init_14 ?_
  refine N_ws (ws' := [(h0, .inr (5, [.ref a1, .ref q1, .int 0, .int 0, .int 0])), (q1, .inl (G.2.2.2.1, 10, .inl (fun _ => 0)))]) rfl ?_
  exact N_vret C D (Nat.le_of_ble_eq_true rfl) (Nat.le_of_ble_eq_true rfl) dX5_init_17 (h q1)
set_option maxHeartbeats 4000000 in
set_option maxRecDepth 100000 in
theorem i_X4_init (l : Launch) (G : vG) (h0 sz : Nat) (post : va_W → Prop) (h : ∀ q1 : Nat, post [(h0, .inr (4, [.ref q1, .int 0, .int 0])), (q1, .inl (G.2.2.2.1, 5, .inl (fun _ => 0)))]) : Met l yX4_init (v_ws yX4_init cX4_init 1 none) (n_rm 1 60 1 5) (n_Pc G [.ref h0] [(h0, .inr (4, [.null, .int 0, .int 0]))] sz) (n_Qv G [(h0, .inr (4, [.null, .int 0, .int 0]))] sz post) 1 5 (va_A [(h0, .inr (4, [.null, .int 0, .int 0]))] sz) := by
  refine n_start (by decide +kernel) (Nat.le_of_ble_eq_true rfl) (fun X hl hin C D => ?_)
  subst hl
  have C : n_Cx X G cX4_init RX4 1 (n_rm 1 60 1 5) := C
  have hin : (v_meth X).name = "<init>" := hin
  show NJ X G [(h0, .inr (4, [.null, .int 0, .int 0]))] 0 0 0 [(0, .ref h0)] []
  refine N_aload_n C 0 dX4_init_0 rfl rfl ?_
  refine N_objInit C km_RX4_3 (Nat.le_of_ble_eq_true rfl) (Nat.le_of_ble_eq_true rfl) dX4_init_1 ?_
  refine N_aload_n C 0 dX4_init_4 rfl rfl ?_
  refine N_iconst (v := 5) C dX4_init_5 (by decide) ?_
  refine N_newi (N := 5) C (by decide) (by decide +kernel) (by decide) (Nat.le_of_ble_eq_true rfl) (Nat.le_of_ble_eq_true rfl) dX4_init_6 (fun q1 => ?_)
  refine N_ws (ws' := [(h0, .inr (4, [.null, .int 0, .int 0])), (q1, .inl (G.2.2.2.1, 5, .inl (fun _ => 0)))]) rfl ?_
  refine N_putF (ci := 4) (T := TX4) (N := 3) C hin 0 rfl rfl inlX4 tyX4_ok nmX4 0 (by decide) rfl kf_RX4_11 rfl rfl (tyX4_ok 0 (by decide)) rfl rfl (Nat.le_of_ble_eq_true rfl) dX4_init_8 ?_
  refine N_ws (ws' := [(h0, .inr (4, [.ref q1, .int 0, .int 0])), (q1, .inl (G.2.2.2.1, 5, .inl (fun _ => 0)))]) rfl ?_
  exact N_vret C D (Nat.le_of_ble_eq_true rfl) (Nat.le_of_ble_eq_true rfl) dX4_init_11 (h q1)
