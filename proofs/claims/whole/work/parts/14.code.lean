/-! HalfAccuserModel.isWell()Z -/
theorem dX11_isWell_0 : decode cX11_isWell 0 = .ok ((.aload_n 0), 1) := by decide +kernel
theorem dX11_isWell_1 : decode cX11_isWell 1 = .ok ((.aload_n 0), 1) := by decide +kernel
theorem dX11_isWell_2 : decode cX11_isWell 2 = .ok ((.getfield 197), 3) := by decide +kernel
theorem dX11_isWell_5 : decode cX11_isWell 5 = .ok ((.putfield 28), 3) := by decide +kernel
theorem dX11_isWell_8 : decode cX11_isWell 8 = .ok ((.aload_n 0), 1) := by decide +kernel
theorem dX11_isWell_9 : decode cX11_isWell 9 = .ok ((.aload_n 0), 1) := by decide +kernel
theorem dX11_isWell_10 : decode cX11_isWell 10 = .ok ((.getfield 197), 3) := by decide +kernel
theorem dX11_isWell_13 : decode cX11_isWell 13 = .ok ((.ifCond .ne 7), 3) := by decide +kernel
theorem dX11_isWell_16 : decode cX11_isWell 16 = .ok ((.iconst (-1)), 1) := by decide +kernel
theorem dX11_isWell_17 : decode cX11_isWell 17 = .ok ((.goto 7), 3) := by decide +kernel
theorem dX11_isWell_20 : decode cX11_isWell 20 = .ok ((.aload_n 0), 1) := by decide +kernel
theorem dX11_isWell_21 : decode cX11_isWell 21 = .ok ((.getfield 200), 3) := by decide +kernel
theorem dX11_isWell_24 : decode cX11_isWell 24 = .ok ((.putfield 32), 3) := by decide +kernel
theorem dX11_isWell_27 : decode cX11_isWell 27 = .ok ((.aload_n 0), 1) := by decide +kernel
theorem dX11_isWell_28 : decode cX11_isWell 28 = .ok ((.getfield 197), 3) := by decide +kernel
theorem dX11_isWell_31 : decode cX11_isWell 31 = .ok ((.ifCond .eq 12), 3) := by decide +kernel
theorem dX11_isWell_34 : decode cX11_isWell 34 = .ok ((.aload_n 0), 1) := by decide +kernel
theorem dX11_isWell_35 : decode cX11_isWell 35 = .ok ((.bipush 10), 2) := by decide +kernel
theorem dX11_isWell_37 : decode cX11_isWell 37 = .ok ((.invokevirtual 75), 3) := by decide +kernel
theorem dX11_isWell_40 : decode cX11_isWell 40 = .ok ((.ifCond .eq 7), 3) := by decide +kernel
theorem dX11_isWell_43 : decode cX11_isWell 43 = .ok ((.iconst 1), 1) := by decide +kernel
theorem dX11_isWell_44 : decode cX11_isWell 44 = .ok ((.goto 4), 3) := by decide +kernel
theorem dX11_isWell_47 : decode cX11_isWell 47 = .ok ((.iconst 0), 1) := by decide +kernel
theorem dX11_isWell_48 : decode cX11_isWell 48 = .ok (.ireturn, 1) := by decide +kernel
def p_X11_isWell_24     (post : Bool → vSt → Prop) (S : vSt) (s0 : Int32) : Prop := ∀ S6, S6 = v_si S 143 11 s0 → (((S6.1 143 12) = 0 → post true S6) ∧ (¬ (S6.1 143 12) = 0 → p_X11_no  S6 10 (fun r8 S7 => ((r8 = false → post false S7) ∧ (r8 = true → post true S7)))))
def p_X11_isWell   (S : vSt)  (post : Bool → vSt → Prop) : Prop := ∀ S5, S5 = v_si S 143 10 (S.1 143 12) → ((¬ (S5.1 143 12) = 0 → p_X11_isWell_24  post S5 (S5.1 143 13)) ∧ ((S5.1 143 12) = 0 → p_X11_isWell_24  post S5 (-1)))
set_option maxHeartbeats 4000000 in
set_option maxRecDepth 100000 in
theorem q_X11_isWell_24 {X : vX} {G : vG}  {post : Bool → vSt → Prop} (C : v_Cx X G cX11_isWell RX11 1 (v_rm 1 61)) (D : v_Rx X G (v_Qz G post) (some .boolean))     : ∀ (S : vSt) (s0 : Int32), p_X11_isWell_24  post S s0 → VJ X G S 24 [(0, .ref (G.1 143))] [.int s0, .ref (G.1 143)] := by
  intro S s0 h
  refine V_pi C 143 (by decide) (by decide) P_11_11 k_RX11_32 dX11_isWell_24 ?_
  refine V_topS (fun S6 eS6 => ?_)
  have h := h S6 eS6
  refine V_aload_n C 0 dX11_isWell_27 rfl rfl ?_
  refine V_gi C 143 (by decide) (by decide) F_11_12 k_RX11_197 dX11_isWell_28 ?_
  refine V_if_eq (tgt := 43) C dX11_isWell_31 (by decide) (fun c => ?_) (fun c => ?_)
  · have h := h.1 c
    refine V_iconst (v := 1) C dX11_isWell_43 (by decide) ?_
    refine V_goto (tgt := 48) C dX11_isWell_44 (by decide) ?_
    exact V_zret1 C D dX11_isWell_48 h
  · have h := h.2 c
    refine V_aload_n C 0 dX11_isWell_34 rfl rfl ?_
    refine V_bipush (v := 10) C dX11_isWell_35 (by decide) ?_
    refine V_callVz (As := [.int 10]) (rest := []) C (c_X11_no (v_l X) G  _ _ h) 143 11 (by decide) (by decide) (by decide) rfl KV_X11_no k_RX11_75 rfl rfl rfl (Nat.le_of_ble_eq_true rfl) ⟨Nat.le_of_ble_eq_true rfl, Nat.le_of_ble_eq_true rfl⟩ dX11_isWell_37 (fun r8 S7 h => ?_)
    refine V_ifb_eq (tgt := 47) C dX11_isWell_40 (by decide) (fun c => ?_) (fun c => ?_)
    · have h := h.1 c
      refine V_iconst (v := 0) C dX11_isWell_47 (by decide) ?_
      exact V_zret0 C D dX11_isWell_48 h
    · have h := h.2 c
      refine V_iconst (v := 1) C dX11_isWell_43 (by decide) ?_
      refine V_goto (tgt := 48) C dX11_isWell_44 (by decide) ?_
      exact V_zret1 C D dX11_isWell_48 h
set_option maxHeartbeats 4000000 in
set_option maxRecDepth 100000 in
theorem c_X11_isWell (l : Launch) (G : vG)    {S : vSt}  (post : Bool → vSt → Prop) (h : p_X11_isWell   S  post) : Met l yX11_isWell (v_ws yX11_isWell cX11_isWell 1 (some .boolean)) (v_rm 1 61) (v_Pc G [.ref (G.1 143)] S) (v_Qz G post) 0 0 (v_A G) := by
  refine v_start (by decide +kernel) (Nat.le_of_ble_eq_true rfl) (fun X hl C D => ?_)
  subst hl
  have C : v_Cx X G cX11_isWell RX11 1 (v_rm 1 61) := C
  show VJ X G S 0 [(0, .ref (G.1 143))] []
  refine V_aload_n C 0 dX11_isWell_0 rfl rfl ?_
  refine V_aload_n C 0 dX11_isWell_1 rfl rfl ?_
  refine V_gi C 143 (by decide) (by decide) F_11_12 k_RX11_197 dX11_isWell_2 ?_
  refine V_pi C 143 (by decide) (by decide) P_11_10 k_RX11_28 dX11_isWell_5 ?_
  refine V_topS (fun S5 eS5 => ?_)
  have h := h S5 eS5
  refine V_aload_n C 0 dX11_isWell_8 rfl rfl ?_
  refine V_aload_n C 0 dX11_isWell_9 rfl rfl ?_
  refine V_gi C 143 (by decide) (by decide) F_11_12 k_RX11_197 dX11_isWell_10 ?_
  refine V_if_ne (tgt := 20) C dX11_isWell_13 (by decide) (fun c => ?_) (fun c => ?_)
  · have h := h.1 c
    refine V_aload_n C 0 dX11_isWell_20 rfl rfl ?_
    refine V_gi C 143 (by decide) (by decide) F_11_13 k_RX11_200 dX11_isWell_21 ?_
    exact q_X11_isWell_24 C D  _ _ h
  · have h := h.2 c
    refine V_iconst (v := (-1)) C dX11_isWell_16 (by decide) ?_
    refine V_goto (tgt := 24) C dX11_isWell_17 (by decide) ?_
    exact q_X11_isWell_24 C D  _ _ h
/-! HalfAccuserModel.fault(I)I -/
theorem dX11_fault_0 : decode cX11_fault 0 = .ok ((.aload_n 0), 1) := by decide +kernel
theorem dX11_fault_1 : decode cX11_fault 1 = .ok ((.iconst 0), 1) := by decide +kernel
theorem dX11_fault_2 : decode cX11_fault 2 = .ok ((.putfield 60), 3) := by decide +kernel
theorem dX11_fault_5 : decode cX11_fault 5 = .ok ((.iload_n 1), 1) := by decide +kernel
theorem dX11_fault_6 : decode cX11_fault 6 = .ok ((.ifCond .ne 10), 3) := by decide +kernel
theorem dX11_fault_9 : decode cX11_fault 9 = .ok ((.aload_n 0), 1) := by decide +kernel
theorem dX11_fault_10 : decode cX11_fault 10 = .ok ((.getfield 28), 3) := by decide +kernel
theorem dX11_fault_13 : decode cX11_fault 13 = .ok ((.goto 16), 3) := by decide +kernel
theorem dX11_fault_16 : decode cX11_fault 16 = .ok ((.iload_n 1), 1) := by decide +kernel
theorem dX11_fault_17 : decode cX11_fault 17 = .ok ((.iconst 1), 1) := by decide +kernel
theorem dX11_fault_18 : decode cX11_fault 18 = .ok ((.if_icmp .ne 10), 3) := by decide +kernel
theorem dX11_fault_21 : decode cX11_fault 21 = .ok ((.aload_n 0), 1) := by decide +kernel
theorem dX11_fault_22 : decode cX11_fault 22 = .ok ((.getfield 32), 3) := by decide +kernel
theorem dX11_fault_25 : decode cX11_fault 25 = .ok ((.goto 4), 3) := by decide +kernel
theorem dX11_fault_28 : decode cX11_fault 28 = .ok ((.iconst (-1)), 1) := by decide +kernel
theorem dX11_fault_29 : decode cX11_fault 29 = .ok (.ireturn, 1) := by decide +kernel
def p_X11_fault   (S : vSt) (a1 : Int32) (post : Int32 → vSt → Prop) : Prop := ∀ S2, S2 = v_si S 143 1 0 → ((¬ a1 = 0 → ((¬ a1 = 1 → post (-1) S2) ∧ (a1 = 1 → post (S2.1 143 11) S2))) ∧ (a1 = 0 → post (S2.1 143 10) S2))
set_option maxHeartbeats 4000000 in
set_option maxRecDepth 100000 in
theorem c_X11_fault (l : Launch) (G : vG)    {S : vSt} (a1 : Int32) (post : Int32 → vSt → Prop) (h : p_X11_fault   S a1 post) : Met l yX11_fault (v_ws yX11_fault cX11_fault 2 (some .int)) (v_rm 0 40) (v_Pc G [.ref (G.1 143), .int a1] S) (v_Qi G post) 0 0 (v_A G) := by
  refine v_start (by decide +kernel) (Nat.le_of_ble_eq_true rfl) (fun X hl C D => ?_)
  subst hl
  have C : v_Cx X G cX11_fault RX11 2 (v_rm 0 40) := C
  show VJ X G S 0 [(0, .ref (G.1 143)), (1, .int a1)] []
  refine V_aload_n C 0 dX11_fault_0 rfl rfl ?_
  refine V_iconst (v := 0) C dX11_fault_1 (by decide) ?_
  refine V_pi C 143 (by decide) (by decide) P_11_1 k_RX11_60 dX11_fault_2 ?_
  refine V_topS (fun S2 eS2 => ?_)
  have h := h S2 eS2
  refine V_iload_n C 1 dX11_fault_5 rfl rfl ?_
  refine V_if_ne (tgt := 16) C dX11_fault_6 (by decide) (fun c => ?_) (fun c => ?_)
  · have h := h.1 c
    refine V_iload_n C 1 dX11_fault_16 rfl rfl ?_
    refine V_iconst (v := 1) C dX11_fault_17 (by decide) ?_
    refine V_icmp_ne (tgt := 28) C dX11_fault_18 (by decide) (fun c => ?_) (fun c => ?_)
    · have h := h.1 c
      refine V_iconst (v := (-1)) C dX11_fault_28 (by decide) ?_
      exact V_iret C D dX11_fault_29 h
    · have h := h.2 c
      refine V_aload_n C 0 dX11_fault_21 rfl rfl ?_
      refine V_gi C 143 (by decide) (by decide) F_11_11 k_RX11_32 dX11_fault_22 ?_
      refine V_goto (tgt := 29) C dX11_fault_25 (by decide) ?_
      exact V_iret C D dX11_fault_29 h
  · have h := h.2 c
    refine V_aload_n C 0 dX11_fault_9 rfl rfl ?_
    refine V_gi C 143 (by decide) (by decide) F_11_10 k_RX11_28 dX11_fault_10 ?_
    refine V_goto (tgt := 29) C dX11_fault_13 (by decide) ?_
    exact V_iret C D dX11_fault_29 h
/-! HalfAccuserModel.empties(I)V -/
theorem dX11_empties_0 : decode cX11_empties 0 = .ok ((.sipush 380), 3) := by decide +kernel
theorem dX11_empties_3 : decode cX11_empties 3 = .ok ((.iload_n 1), 1) := by decide +kernel
theorem dX11_empties_4 : decode cX11_empties 4 = .ok (.imul, 1) := by decide +kernel
theorem dX11_empties_5 : decode cX11_empties 5 = .ok ((.istore_n 2), 1) := by decide +kernel
theorem dX11_empties_6 : decode cX11_empties 6 = .ok ((.iconst 0), 1) := by decide +kernel
theorem dX11_empties_7 : decode cX11_empties 7 = .ok ((.istore_n 3), 1) := by decide +kernel
theorem dX11_empties_8 : decode cX11_empties 8 = .ok ((.iload_n 3), 1) := by decide +kernel
theorem dX11_empties_9 : decode cX11_empties 9 = .ok ((.sipush 380), 3) := by decide +kernel
theorem dX11_empties_12 : decode cX11_empties 12 = .ok ((.if_icmp .ge 18), 3) := by decide +kernel
theorem dX11_empties_15 : decode cX11_empties 15 = .ok ((.aload_n 0), 1) := by decide +kernel
theorem dX11_empties_16 : decode cX11_empties 16 = .ok ((.getfield 35), 3) := by decide +kernel
theorem dX11_empties_19 : decode cX11_empties 19 = .ok ((.iload_n 2), 1) := by decide +kernel
theorem dX11_empties_20 : decode cX11_empties 20 = .ok ((.iload_n 3), 1) := by decide +kernel
theorem dX11_empties_21 : decode cX11_empties 21 = .ok (.iadd, 1) := by decide +kernel
theorem dX11_empties_22 : decode cX11_empties 22 = .ok ((.iconst 0), 1) := by decide +kernel
theorem dX11_empties_23 : decode cX11_empties 23 = .ok (.iastore, 1) := by decide +kernel
theorem dX11_empties_24 : decode cX11_empties 24 = .ok ((.iinc 3 1), 3) := by decide +kernel
theorem dX11_empties_27 : decode cX11_empties 27 = .ok ((.goto (-19)), 3) := by decide +kernel
theorem dX11_empties_30 : decode cX11_empties 30 = .ok ((.aload_n 0), 1) := by decide +kernel
theorem dX11_empties_31 : decode cX11_empties 31 = .ok ((.getfield 35), 3) := by decide +kernel
theorem dX11_empties_34 : decode cX11_empties 34 = .ok ((.iload_n 2), 1) := by decide +kernel
theorem dX11_empties_35 : decode cX11_empties 35 = .ok ((.iconst 2), 1) := by decide +kernel
theorem dX11_empties_36 : decode cX11_empties 36 = .ok (.iadd, 1) := by decide +kernel
theorem dX11_empties_37 : decode cX11_empties 37 = .ok ((.iconst 5), 1) := by decide +kernel
theorem dX11_empties_38 : decode cX11_empties 38 = .ok (.iastore, 1) := by decide +kernel
theorem dX11_empties_39 : decode cX11_empties 39 = .ok ((.aload_n 0), 1) := by decide +kernel
theorem dX11_empties_40 : decode cX11_empties 40 = .ok ((.getfield 35), 3) := by decide +kernel
theorem dX11_empties_43 : decode cX11_empties 43 = .ok ((.iload_n 2), 1) := by decide +kernel
theorem dX11_empties_44 : decode cX11_empties 44 = .ok ((.iconst 3), 1) := by decide +kernel
theorem dX11_empties_45 : decode cX11_empties 45 = .ok (.iadd, 1) := by decide +kernel
theorem dX11_empties_46 : decode cX11_empties 46 = .ok ((.iconst 1), 1) := by decide +kernel
theorem dX11_empties_47 : decode cX11_empties 47 = .ok (.iastore, 1) := by decide +kernel
theorem dX11_empties_48 : decode cX11_empties 48 = .ok ((.aload_n 0), 1) := by decide +kernel
theorem dX11_empties_49 : decode cX11_empties 49 = .ok ((.getfield 35), 3) := by decide +kernel
theorem dX11_empties_52 : decode cX11_empties 52 = .ok ((.iload_n 2), 1) := by decide +kernel
theorem dX11_empties_53 : decode cX11_empties 53 = .ok ((.iconst 4), 1) := by decide +kernel
theorem dX11_empties_54 : decode cX11_empties 54 = .ok (.iadd, 1) := by decide +kernel
theorem dX11_empties_55 : decode cX11_empties 55 = .ok ((.bipush 100), 2) := by decide +kernel
theorem dX11_empties_57 : decode cX11_empties 57 = .ok (.iastore, 1) := by decide +kernel
theorem dX11_empties_58 : decode cX11_empties 58 = .ok ((.aload_n 0), 1) := by decide +kernel
theorem dX11_empties_59 : decode cX11_empties 59 = .ok ((.getfield 35), 3) := by decide +kernel
theorem dX11_empties_62 : decode cX11_empties 62 = .ok ((.iload_n 2), 1) := by decide +kernel
theorem dX11_empties_63 : decode cX11_empties 63 = .ok ((.iconst 5), 1) := by decide +kernel
theorem dX11_empties_64 : decode cX11_empties 64 = .ok (.iadd, 1) := by decide +kernel
theorem dX11_empties_65 : decode cX11_empties 65 = .ok ((.bipush 8), 2) := by decide +kernel
theorem dX11_empties_67 : decode cX11_empties 67 = .ok (.iastore, 1) := by decide +kernel
theorem dX11_empties_68 : decode cX11_empties 68 = .ok ((.iconst 0), 1) := by decide +kernel
theorem dX11_empties_69 : decode cX11_empties 69 = .ok ((.istore_n 3), 1) := by decide +kernel
theorem dX11_empties_70 : decode cX11_empties 70 = .ok ((.iload_n 3), 1) := by decide +kernel
theorem dX11_empties_71 : decode cX11_empties 71 = .ok ((.bipush 10), 2) := by decide +kernel
theorem dX11_empties_73 : decode cX11_empties 73 = .ok ((.if_icmp .ge 33), 3) := by decide +kernel
theorem dX11_empties_76 : decode cX11_empties 76 = .ok ((.aload_n 0), 1) := by decide +kernel
theorem dX11_empties_77 : decode cX11_empties 77 = .ok ((.getfield 35), 3) := by decide +kernel
theorem dX11_empties_80 : decode cX11_empties 80 = .ok ((.iload_n 2), 1) := by decide +kernel
theorem dX11_empties_81 : decode cX11_empties 81 = .ok ((.bipush 88), 2) := by decide +kernel
theorem dX11_empties_83 : decode cX11_empties 83 = .ok (.iadd, 1) := by decide +kernel
theorem dX11_empties_84 : decode cX11_empties 84 = .ok ((.iload_n 3), 1) := by decide +kernel
theorem dX11_empties_85 : decode cX11_empties 85 = .ok (.iadd, 1) := by decide +kernel
theorem dX11_empties_86 : decode cX11_empties 86 = .ok ((.iconst (-1)), 1) := by decide +kernel
theorem dX11_empties_87 : decode cX11_empties 87 = .ok (.iastore, 1) := by decide +kernel
theorem dX11_empties_88 : decode cX11_empties 88 = .ok ((.aload_n 0), 1) := by decide +kernel
theorem dX11_empties_89 : decode cX11_empties 89 = .ok ((.getfield 35), 3) := by decide +kernel
theorem dX11_empties_92 : decode cX11_empties 92 = .ok ((.iload_n 2), 1) := by decide +kernel
theorem dX11_empties_93 : decode cX11_empties 93 = .ok ((.bipush 98), 2) := by decide +kernel
theorem dX11_empties_95 : decode cX11_empties 95 = .ok (.iadd, 1) := by decide +kernel
theorem dX11_empties_96 : decode cX11_empties 96 = .ok ((.iload_n 3), 1) := by decide +kernel
theorem dX11_empties_97 : decode cX11_empties 97 = .ok (.iadd, 1) := by decide +kernel
theorem dX11_empties_98 : decode cX11_empties 98 = .ok ((.iconst (-1)), 1) := by decide +kernel
theorem dX11_empties_99 : decode cX11_empties 99 = .ok (.iastore, 1) := by decide +kernel
theorem dX11_empties_100 : decode cX11_empties 100 = .ok ((.iinc 3 1), 3) := by decide +kernel
theorem dX11_empties_103 : decode cX11_empties 103 = .ok ((.goto (-33)), 3) := by decide +kernel
theorem dX11_empties_106 : decode cX11_empties 106 = .ok (.return_, 1) := by decide +kernel
def p_X11_empties_70  (a1 : Int32)   (post : vSt → Prop) : Nat → vSt → Int32 → Int32 → Prop
  | 0 => fun _ _ _ => False
  | fu70 + 1 => fun S x2 x3 => ((10 ≤ x3 → post S) ∧ (¬ 10 ≤ x3 → (vp_in ((x2 + 88) + x3) 1900 ∧ ∀ S25, S25 = v_si S 148 (Int32.toNatClampNeg ((x2 + 88) + x3)) (-1) → (vp_in ((x2 + 98) + x3) 1900 ∧ ∀ S26, S26 = v_si S25 148 (Int32.toNatClampNeg ((x2 + 98) + x3)) (-1) → ∀ y27 : Int32, y27 = x3 + 1 → (p_X11_empties_70 a1 post fu70) S26 x2 y27))))
theorem e_X11_empties_70  (a1 : Int32)   (post : vSt → Prop) (fu70 : Nat) (S : vSt) (x2 : Int32) (x3 : Int32) : p_X11_empties_70 a1 post (fu70 + 1) S x2 x3 = (((10 ≤ x3 → post S) ∧ (¬ 10 ≤ x3 → (vp_in ((x2 + 88) + x3) 1900 ∧ ∀ S25, S25 = v_si S 148 (Int32.toNatClampNeg ((x2 + 88) + x3)) (-1) → (vp_in ((x2 + 98) + x3) 1900 ∧ ∀ S26, S26 = v_si S25 148 (Int32.toNatClampNeg ((x2 + 98) + x3)) (-1) → ∀ y27 : Int32, y27 = x3 + 1 → (p_X11_empties_70 a1 post fu70) S26 x2 y27))))) := rfl
def p_X11_empties_8  (a1 : Int32)   (post : vSt → Prop) : Nat → vSt → Int32 → Int32 → Prop
  | 0 => fun _ _ _ => False
  | fu8 + 1 => fun S x2 x3 => ((380 ≤ x3 → (vp_in (x2 + 2) 1900 ∧ ∀ S21, S21 = v_si S 148 (Int32.toNatClampNeg (x2 + 2)) 5 → (vp_in (x2 + 3) 1900 ∧ ∀ S22, S22 = v_si S21 148 (Int32.toNatClampNeg (x2 + 3)) 1 → (vp_in (x2 + 4) 1900 ∧ ∀ S23, S23 = v_si S22 148 (Int32.toNatClampNeg (x2 + 4)) 100 → (vp_in (x2 + 5) 1900 ∧ ∀ S24, S24 = v_si S23 148 (Int32.toNatClampNeg (x2 + 5)) 8 → ∃ fu70, p_X11_empties_70 a1 post fu70 S24 x2 0))))) ∧ (¬ 380 ≤ x3 → (vp_in (x2 + x3) 1900 ∧ ∀ S25, S25 = v_si S 148 (Int32.toNatClampNeg (x2 + x3)) 0 → ∀ y26 : Int32, y26 = x3 + 1 → (p_X11_empties_8 a1 post fu8) S25 x2 y26)))
theorem e_X11_empties_8  (a1 : Int32)   (post : vSt → Prop) (fu8 : Nat) (S : vSt) (x2 : Int32) (x3 : Int32) : p_X11_empties_8 a1 post (fu8 + 1) S x2 x3 = (((380 ≤ x3 → (vp_in (x2 + 2) 1900 ∧ ∀ S21, S21 = v_si S 148 (Int32.toNatClampNeg (x2 + 2)) 5 → (vp_in (x2 + 3) 1900 ∧ ∀ S22, S22 = v_si S21 148 (Int32.toNatClampNeg (x2 + 3)) 1 → (vp_in (x2 + 4) 1900 ∧ ∀ S23, S23 = v_si S22 148 (Int32.toNatClampNeg (x2 + 4)) 100 → (vp_in (x2 + 5) 1900 ∧ ∀ S24, S24 = v_si S23 148 (Int32.toNatClampNeg (x2 + 5)) 8 → ∃ fu70, p_X11_empties_70 a1 post fu70 S24 x2 0))))) ∧ (¬ 380 ≤ x3 → (vp_in (x2 + x3) 1900 ∧ ∀ S25, S25 = v_si S 148 (Int32.toNatClampNeg (x2 + x3)) 0 → ∀ y26 : Int32, y26 = x3 + 1 → (p_X11_empties_8 a1 post fu8) S25 x2 y26)))) := rfl
def p_X11_empties   (S : vSt) (a1 : Int32) (post : vSt → Prop) : Prop := ∀ y20 : Int32, y20 = (380 * a1) → ∃ fu8, p_X11_empties_8 a1 post fu8 S y20 0
set_option maxHeartbeats 4000000 in
set_option maxRecDepth 100000 in
theorem q_X11_empties_70 {X : vX} {G : vG}  {post : vSt → Prop} (C : v_Cx X G cX11_empties RX11 4 (v_rm 0 40)) (D : v_Rx X G (v_Qv G post) none)  {a1 : Int32}   : ∀ (fu : Nat) (S : vSt) (x2 : Int32) (x3 : Int32), p_X11_empties_70 a1 post fu S x2 x3 → VJ X G S 70 [(0, .ref (G.1 143)), (2, .int x2), (3, .int x3)] [] := by
  intro fu
  induction fu with
  | zero => intro S x2 x3 h; exact absurd h id
  | succ fu ih =>
    intro S x2 x3 h
    have hK70 := ih
    rw [e_X11_empties_70] at h
    refine V_iload_n C 2 dX11_empties_70 rfl rfl ?_
    refine V_bipush (v := 10) C dX11_empties_71 (by decide) ?_
    refine V_icmp_ge (tgt := 106) C dX11_empties_73 (by decide) (fun c => ?_) (fun c => ?_)
    · have h := h.1 c
      exact V_vret C D dX11_empties_106 h
    · have h := h.2 c
      refine V_aload_n C 0 dX11_empties_76 rfl rfl ?_
      refine V_ga C 143 (by decide) (by decide) F_11_20 k_RX11_35 dX11_empties_77 ?_
      refine V_iload_n C 1 dX11_empties_80 rfl rfl ?_
      refine V_bipush (v := 88) C dX11_empties_81 (by decide) ?_
      refine V_iadd C dX11_empties_83 ?_
      refine V_iload_n C 2 dX11_empties_84 rfl rfl ?_
      refine V_iadd C dX11_empties_85 ?_
      refine V_iconst (v := (-1)) C dX11_empties_86 (by decide) ?_
      obtain ⟨hi, h⟩ := h
      refine V_iast C 148 1900 (by decide) (by decide) hi dX11_empties_87 ?_
      refine V_topS (fun S25 eS25 => ?_)
      have h := h S25 eS25
      refine V_aload_n C 0 dX11_empties_88 rfl rfl ?_
      refine V_ga C 143 (by decide) (by decide) F_11_20 k_RX11_35 dX11_empties_89 ?_
      refine V_iload_n C 1 dX11_empties_92 rfl rfl ?_
      refine V_bipush (v := 98) C dX11_empties_93 (by decide) ?_
      refine V_iadd C dX11_empties_95 ?_
      refine V_iload_n C 2 dX11_empties_96 rfl rfl ?_
      refine V_iadd C dX11_empties_97 ?_
      refine V_iconst (v := (-1)) C dX11_empties_98 (by decide) ?_
      obtain ⟨hi, h⟩ := h
      refine V_iast C 148 1900 (by decide) (by decide) hi dX11_empties_99 ?_
      refine V_topS (fun S26 eS26 => ?_)
      have h := h S26 eS26
      obtain ⟨y27, ey27⟩ : ∃ z : Int32, z = x3 + 1 := ⟨_, rfl⟩
      have h := h y27 ey27
      refine V_iinc (lv' := [(0, .ref (G.1 143)), (2, .int x2), (3, .int y27)]) C 2 [1, 2, 0] y27 dX11_empties_100 rfl (by rw [ey27]; rfl) (by decide) rfl ?_
      refine V_goto (tgt := 70) C dX11_empties_103 (by decide) ?_
      exact hK70 _ _ _ h
set_option maxHeartbeats 4000000 in
set_option maxRecDepth 100000 in
theorem q_X11_empties_8 {X : vX} {G : vG}  {post : vSt → Prop} (C : v_Cx X G cX11_empties RX11 4 (v_rm 0 40)) (D : v_Rx X G (v_Qv G post) none)  {a1 : Int32}   : ∀ (fu : Nat) (S : vSt) (x2 : Int32) (x3 : Int32), p_X11_empties_8 a1 post fu S x2 x3 → VJ X G S 8 [(0, .ref (G.1 143)), (2, .int x2), (3, .int x3)] [] := by
  intro fu
  induction fu with
  | zero => intro S x2 x3 h; exact absurd h id
  | succ fu ih =>
    intro S x2 x3 h
    have hK8 := ih
    rw [e_X11_empties_8] at h
    refine V_iload_n C 2 dX11_empties_8 rfl rfl ?_
    refine V_sipush (v := 380) C dX11_empties_9 (by decide) ?_
    refine V_icmp_ge (tgt := 30) C dX11_empties_12 (by decide) (fun c => ?_) (fun c => ?_)
    · have h := h.1 c
      refine V_aload_n C 0 dX11_empties_30 rfl rfl ?_
      refine V_ga C 143 (by decide) (by decide) F_11_20 k_RX11_35 dX11_empties_31 ?_
      refine V_iload_n C 1 dX11_empties_34 rfl rfl ?_
      refine V_iconst (v := 2) C dX11_empties_35 (by decide) ?_
      refine V_iadd C dX11_empties_36 ?_
      refine V_iconst (v := 5) C dX11_empties_37 (by decide) ?_
      obtain ⟨hi, h⟩ := h
      refine V_iast C 148 1900 (by decide) (by decide) hi dX11_empties_38 ?_
      refine V_topS (fun S21 eS21 => ?_)
      have h := h S21 eS21
      refine V_aload_n C 0 dX11_empties_39 rfl rfl ?_
      refine V_ga C 143 (by decide) (by decide) F_11_20 k_RX11_35 dX11_empties_40 ?_
      refine V_iload_n C 1 dX11_empties_43 rfl rfl ?_
      refine V_iconst (v := 3) C dX11_empties_44 (by decide) ?_
      refine V_iadd C dX11_empties_45 ?_
      refine V_iconst (v := 1) C dX11_empties_46 (by decide) ?_
      obtain ⟨hi, h⟩ := h
      refine V_iast C 148 1900 (by decide) (by decide) hi dX11_empties_47 ?_
      refine V_topS (fun S22 eS22 => ?_)
      have h := h S22 eS22
      refine V_aload_n C 0 dX11_empties_48 rfl rfl ?_
      refine V_ga C 143 (by decide) (by decide) F_11_20 k_RX11_35 dX11_empties_49 ?_
      refine V_iload_n C 1 dX11_empties_52 rfl rfl ?_
      refine V_iconst (v := 4) C dX11_empties_53 (by decide) ?_
      refine V_iadd C dX11_empties_54 ?_
      refine V_bipush (v := 100) C dX11_empties_55 (by decide) ?_
      obtain ⟨hi, h⟩ := h
      refine V_iast C 148 1900 (by decide) (by decide) hi dX11_empties_57 ?_
      refine V_topS (fun S23 eS23 => ?_)
      have h := h S23 eS23
      refine V_aload_n C 0 dX11_empties_58 rfl rfl ?_
      refine V_ga C 143 (by decide) (by decide) F_11_20 k_RX11_35 dX11_empties_59 ?_
      refine V_iload_n C 1 dX11_empties_62 rfl rfl ?_
      refine V_iconst (v := 5) C dX11_empties_63 (by decide) ?_
      refine V_iadd C dX11_empties_64 ?_
      refine V_bipush (v := 8) C dX11_empties_65 (by decide) ?_
      obtain ⟨hi, h⟩ := h
      refine V_iast C 148 1900 (by decide) (by decide) hi dX11_empties_67 ?_
      refine V_topS (fun S24 eS24 => ?_)
      have h := h S24 eS24
      refine V_iconst (v := 0) C dX11_empties_68 (by decide) ?_
      refine V_istore_n (lv' := [(0, .ref (G.1 143)), (2, .int x2), (3, .int 0)]) C [1, 2, 0] dX11_empties_69 rfl (by decide) rfl ?_
      obtain ⟨fu70, h⟩ := h
      exact q_X11_empties_70 C D  fu70 _ _ _ h
    · have h := h.2 c
      refine V_aload_n C 0 dX11_empties_15 rfl rfl ?_
      refine V_ga C 143 (by decide) (by decide) F_11_20 k_RX11_35 dX11_empties_16 ?_
      refine V_iload_n C 1 dX11_empties_19 rfl rfl ?_
      refine V_iload_n C 2 dX11_empties_20 rfl rfl ?_
      refine V_iadd C dX11_empties_21 ?_
      refine V_iconst (v := 0) C dX11_empties_22 (by decide) ?_
      obtain ⟨hi, h⟩ := h
      refine V_iast C 148 1900 (by decide) (by decide) hi dX11_empties_23 ?_
      refine V_topS (fun S25 eS25 => ?_)
      have h := h S25 eS25
      obtain ⟨y26, ey26⟩ : ∃ z : Int32, z = x3 + 1 := ⟨_, rfl⟩
      have h := h y26 ey26
      refine V_iinc (lv' := [(0, .ref (G.1 143)), (2, .int x2), (3, .int y26)]) C 2 [1, 2, 0] y26 dX11_empties_24 rfl (by rw [ey26]; rfl) (by decide) rfl ?_
      refine V_goto (tgt := 8) C dX11_empties_27 (by decide) ?_
      exact hK8 _ _ _ h
set_option maxHeartbeats 4000000 in
set_option maxRecDepth 100000 in
theorem c_X11_empties (l : Launch) (G : vG)    {S : vSt} (a1 : Int32) (post : vSt → Prop) (h : p_X11_empties   S a1 post) : Met l yX11_empties (v_ws yX11_empties cX11_empties 4 none) (v_rm 0 40) (v_Pc G [.ref (G.1 143), .int a1] S) (v_Qv G post) 0 0 (v_A G) := by
  refine v_start (by decide +kernel) (Nat.le_of_ble_eq_true rfl) (fun X hl C D => ?_)
  subst hl
  have C : v_Cx X G cX11_empties RX11 4 (v_rm 0 40) := C
  show VJ X G S 0 [(0, .ref (G.1 143)), (1, .int a1)] []
  refine V_sipush (v := 380) C dX11_empties_0 (by decide) ?_
  refine V_iload_n C 1 dX11_empties_3 rfl rfl ?_
  refine V_imul C dX11_empties_4 ?_
  refine V_topi (fun y20 ey20 => ?_)
  have h := h y20 ey20
  refine V_istore_n (lv' := [(0, .ref (G.1 143)), (1, .int a1), (2, .int y20)]) C [1, 2, 0] dX11_empties_5 rfl (by decide) rfl ?_
  refine V_iconst (v := 0) C dX11_empties_6 (by decide) ?_
  refine V_istore_n (lv' := [(0, .ref (G.1 143)), (1, .int a1), (2, .int y20), (3, .int 0)]) C [1, 2, 3, 0] dX11_empties_7 rfl (by decide) rfl ?_
  refine V_loc (lv' := [(0, .ref (G.1 143)), (2, .int y20), (3, .int 0)]) [0, 2, 3] rfl ?_
  obtain ⟨fu8, h⟩ := h
  exact q_X11_empties_8 C D  fu8 _ _ _ h
/-! HalfAccuserModel.named(II)I -/
theorem dX11_named_0 : decode cX11_named 0 = .ok ((.iconst 0), 1) := by decide +kernel
theorem dX11_named_1 : decode cX11_named 1 = .ok ((.istore_n 3), 1) := by decide +kernel
theorem dX11_named_2 : decode cX11_named 2 = .ok ((.iload_n 3), 1) := by decide +kernel
theorem dX11_named_3 : decode cX11_named 3 = .ok ((.aload_n 0), 1) := by decide +kernel
theorem dX11_named_4 : decode cX11_named 4 = .ok ((.getfield 35), 3) := by decide +kernel
theorem dX11_named_7 : decode cX11_named 7 = .ok ((.sipush 380), 3) := by decide +kernel
theorem dX11_named_10 : decode cX11_named 10 = .ok ((.iload_n 1), 1) := by decide +kernel
theorem dX11_named_11 : decode cX11_named 11 = .ok (.imul, 1) := by decide +kernel
theorem dX11_named_12 : decode cX11_named 12 = .ok ((.iload_n 2), 1) := by decide +kernel
theorem dX11_named_13 : decode cX11_named 13 = .ok (.iadd, 1) := by decide +kernel
theorem dX11_named_14 : decode cX11_named 14 = .ok (.iaload, 1) := by decide +kernel
theorem dX11_named_15 : decode cX11_named 15 = .ok ((.if_icmp .ge 35), 3) := by decide +kernel
theorem dX11_named_18 : decode cX11_named 18 = .ok ((.aload_n 0), 1) := by decide +kernel
theorem dX11_named_19 : decode cX11_named 19 = .ok ((.getfield 41), 3) := by decide +kernel
theorem dX11_named_22 : decode cX11_named 22 = .ok ((.bipush 18), 2) := by decide +kernel
theorem dX11_named_24 : decode cX11_named 24 = .ok ((.iload_n 1), 1) := by decide +kernel
theorem dX11_named_25 : decode cX11_named 25 = .ok (.imul, 1) := by decide +kernel
theorem dX11_named_26 : decode cX11_named 26 = .ok ((.bipush 8), 2) := by decide +kernel
theorem dX11_named_28 : decode cX11_named 28 = .ok ((.iload_n 2), 1) := by decide +kernel
theorem dX11_named_29 : decode cX11_named 29 = .ok (.imul, 1) := by decide +kernel
theorem dX11_named_30 : decode cX11_named 30 = .ok (.iadd, 1) := by decide +kernel
theorem dX11_named_31 : decode cX11_named 31 = .ok ((.iload_n 3), 1) := by decide +kernel
theorem dX11_named_32 : decode cX11_named 32 = .ok (.iadd, 1) := by decide +kernel
theorem dX11_named_33 : decode cX11_named 33 = .ok (.laload, 1) := by decide +kernel
theorem dX11_named_34 : decode cX11_named 34 = .ok ((.aload_n 0), 1) := by decide +kernel
theorem dX11_named_35 : decode cX11_named 35 = .ok ((.getfield 121), 3) := by decide +kernel
theorem dX11_named_38 : decode cX11_named 38 = .ok (.lcmp, 1) := by decide +kernel
theorem dX11_named_39 : decode cX11_named 39 = .ok ((.ifCond .ne 5), 3) := by decide +kernel
theorem dX11_named_42 : decode cX11_named 42 = .ok ((.iload_n 3), 1) := by decide +kernel
theorem dX11_named_43 : decode cX11_named 43 = .ok (.ireturn, 1) := by decide +kernel
theorem dX11_named_44 : decode cX11_named 44 = .ok ((.iinc 3 1), 3) := by decide +kernel
theorem dX11_named_47 : decode cX11_named 47 = .ok ((.goto (-45)), 3) := by decide +kernel
theorem dX11_named_50 : decode cX11_named 50 = .ok ((.iconst (-1)), 1) := by decide +kernel
theorem dX11_named_51 : decode cX11_named 51 = .ok (.ireturn, 1) := by decide +kernel
def p_X11_named_2  (a1 : Int32) (a2 : Int32)   (post : Int32 → vSt → Prop) : Nat → vSt → Int32 → Prop
  | 0 => fun _ _ => False
  | fu2 + 1 => fun S x3 => (vp_in ((380 * a1) + a2) 1900 ∧ (((S.1 148 (Int32.toNatClampNeg ((380 * a1) + a2))) ≤ x3 → post (-1) S) ∧ (¬ (S.1 148 (Int32.toNatClampNeg ((380 * a1) + a2))) ≤ x3 → (vp_in (((18 * a1) + (8 * a2)) + x3) 90 ∧ ((¬ (S.2 150 (Int32.toNatClampNeg (((18 * a1) + (8 * a2)) + x3))) = (S.2 143 19) → ∀ y3 : Int32, y3 = x3 + 1 → (p_X11_named_2 a1 a2 post fu2) S y3) ∧ ((S.2 150 (Int32.toNatClampNeg (((18 * a1) + (8 * a2)) + x3))) = (S.2 143 19) → post x3 S))))))
theorem e_X11_named_2  (a1 : Int32) (a2 : Int32)   (post : Int32 → vSt → Prop) (fu2 : Nat) (S : vSt) (x3 : Int32) : p_X11_named_2 a1 a2 post (fu2 + 1) S x3 = ((vp_in ((380 * a1) + a2) 1900 ∧ (((S.1 148 (Int32.toNatClampNeg ((380 * a1) + a2))) ≤ x3 → post (-1) S) ∧ (¬ (S.1 148 (Int32.toNatClampNeg ((380 * a1) + a2))) ≤ x3 → (vp_in (((18 * a1) + (8 * a2)) + x3) 90 ∧ ((¬ (S.2 150 (Int32.toNatClampNeg (((18 * a1) + (8 * a2)) + x3))) = (S.2 143 19) → ∀ y3 : Int32, y3 = x3 + 1 → (p_X11_named_2 a1 a2 post fu2) S y3) ∧ ((S.2 150 (Int32.toNatClampNeg (((18 * a1) + (8 * a2)) + x3))) = (S.2 143 19) → post x3 S))))))) := rfl
def p_X11_named   (S : vSt) (a1 : Int32) (a2 : Int32) (post : Int32 → vSt → Prop) : Prop := ∃ fu2, p_X11_named_2 a1 a2 post fu2 S 0
set_option maxHeartbeats 4000000 in
set_option maxRecDepth 100000 in
theorem q_X11_named_2 {X : vX} {G : vG}  {post : Int32 → vSt → Prop} (C : v_Cx X G cX11_named RX11 4 (v_rm 0 40)) (D : v_Rx X G (v_Qi G post) (some .int))  {a1 : Int32} {a2 : Int32}   : ∀ (fu : Nat) (S : vSt) (x3 : Int32), p_X11_named_2 a1 a2 post fu S x3 → VJ X G S 2 [(0, .ref (G.1 143)), (1, .int a1), (2, .int a2), (3, .int x3)] [] := by
  intro fu
  induction fu with
  | zero => intro S x3 h; exact absurd h id
  | succ fu ih =>
    intro S x3 h
    have hK2 := ih
    rw [e_X11_named_2] at h
    refine V_iload_n C 3 dX11_named_2 rfl rfl ?_
    refine V_aload_n C 0 dX11_named_3 rfl rfl ?_
    refine V_ga C 143 (by decide) (by decide) F_11_20 k_RX11_35 dX11_named_4 ?_
    refine V_sipush (v := 380) C dX11_named_7 (by decide) ?_
    refine V_iload_n C 1 dX11_named_10 rfl rfl ?_
    refine V_imul C dX11_named_11 ?_
    refine V_iload_n C 2 dX11_named_12 rfl rfl ?_
    refine V_iadd C dX11_named_13 ?_
    obtain ⟨hi, h⟩ := h
    refine V_iald C 148 1900 (by decide) (by decide) hi dX11_named_14 ?_
    refine V_icmp_ge (tgt := 50) C dX11_named_15 (by decide) (fun c => ?_) (fun c => ?_)
    · have h := h.1 c
      refine V_iconst (v := (-1)) C dX11_named_50 (by decide) ?_
      exact V_iret C D dX11_named_51 h
    · have h := h.2 c
      refine V_aload_n C 0 dX11_named_18 rfl rfl ?_
      refine V_ga C 143 (by decide) (by decide) F_11_22 k_RX11_41 dX11_named_19 ?_
      refine V_bipush (v := 18) C dX11_named_22 (by decide) ?_
      refine V_iload_n C 1 dX11_named_24 rfl rfl ?_
      refine V_imul C dX11_named_25 ?_
      refine V_bipush (v := 8) C dX11_named_26 (by decide) ?_
      refine V_iload_n C 2 dX11_named_28 rfl rfl ?_
      refine V_imul C dX11_named_29 ?_
      refine V_iadd C dX11_named_30 ?_
      refine V_iload_n C 3 dX11_named_31 rfl rfl ?_
      refine V_iadd C dX11_named_32 ?_
      obtain ⟨hi, h⟩ := h
      refine V_lald C 150 90 (by decide) (by decide) hi dX11_named_33 ?_
      refine V_aload_n C 0 dX11_named_34 rfl rfl ?_
      refine V_gl C 143 (by decide) (by decide) F_11_19 k_RX11_121 dX11_named_35 ?_
      refine V_lcmp_ne (tgt := 44) C dX11_named_38 dX11_named_39 (by decide) (fun c => ?_) (fun c => ?_)
      · have h := h.1 c
        obtain ⟨y3, ey3⟩ : ∃ z : Int32, z = x3 + 1 := ⟨_, rfl⟩
        have h := h y3 ey3
        refine V_iinc (lv' := [(0, .ref (G.1 143)), (1, .int a1), (2, .int a2), (3, .int y3)]) C 3 [1, 2, 3, 0] y3 dX11_named_44 rfl (by rw [ey3]; rfl) (by decide) rfl ?_
        refine V_goto (tgt := 2) C dX11_named_47 (by decide) ?_
        exact hK2 _ _ h
      · have h := h.2 c
        refine V_iload_n C 3 dX11_named_42 rfl rfl ?_
        exact V_iret C D dX11_named_43 h
set_option maxHeartbeats 4000000 in
set_option maxRecDepth 100000 in
theorem c_X11_named (l : Launch) (G : vG)    {S : vSt} (a1 : Int32) (a2 : Int32) (post : Int32 → vSt → Prop) (h : p_X11_named   S a1 a2 post) : Met l yX11_named (v_ws yX11_named cX11_named 4 (some .int)) (v_rm 0 40) (v_Pc G [.ref (G.1 143), .int a1, .int a2] S) (v_Qi G post) 0 0 (v_A G) := by
  refine v_start (by decide +kernel) (Nat.le_of_ble_eq_true rfl) (fun X hl C D => ?_)
  subst hl
  have C : v_Cx X G cX11_named RX11 4 (v_rm 0 40) := C
  show VJ X G S 0 [(0, .ref (G.1 143)), (1, .int a1), (2, .int a2)] []
  refine V_iconst (v := 0) C dX11_named_0 (by decide) ?_
  refine V_istore_n (lv' := [(0, .ref (G.1 143)), (1, .int a1), (2, .int a2), (3, .int 0)]) C [1, 2, 3, 0] dX11_named_1 rfl (by decide) rfl ?_
  obtain ⟨fu2, h⟩ := h
  exact q_X11_named_2 C D  fu2 _ _ h
/-! HalfAccuserModel.readNew(II)I -/
theorem dX11_readNew_0 : decode cX11_readNew 0 = .ok ((.aload_n 0), 1) := by decide +kernel
theorem dX11_readNew_1 : decode cX11_readNew 1 = .ok ((.getfield 35), 3) := by decide +kernel
theorem dX11_readNew_4 : decode cX11_readNew 4 = .ok ((.sipush 1520), 3) := by decide +kernel
theorem dX11_readNew_7 : decode cX11_readNew 7 = .ok ((.iload_n 1), 1) := by decide +kernel
theorem dX11_readNew_8 : decode cX11_readNew 8 = .ok (.iadd, 1) := by decide +kernel
theorem dX11_readNew_9 : decode cX11_readNew 9 = .ok (.iaload, 1) := by decide +kernel
theorem dX11_readNew_10 : decode cX11_readNew 10 = .ok ((.istore_n 3), 1) := by decide +kernel
theorem dX11_readNew_11 : decode cX11_readNew 11 = .ok ((.iload_n 3), 1) := by decide +kernel
theorem dX11_readNew_12 : decode cX11_readNew 12 = .ok ((.iload_n 2), 1) := by decide +kernel
theorem dX11_readNew_13 : decode cX11_readNew 13 = .ok ((.if_icmp .ne 13), 3) := by decide +kernel
theorem dX11_readNew_16 : decode cX11_readNew 16 = .ok ((.aload_n 0), 1) := by decide +kernel
theorem dX11_readNew_17 : decode cX11_readNew 17 = .ok ((.bipush 6), 2) := by decide +kernel
theorem dX11_readNew_19 : decode cX11_readNew 19 = .ok ((.aload_n 0), 1) := by decide +kernel
theorem dX11_readNew_20 : decode cX11_readNew 20 = .ok ((.getfield 109), 3) := by decide +kernel
theorem dX11_readNew_23 : decode cX11_readNew 23 = .ok ((.invokevirtual 203), 3) := by decide +kernel
theorem dX11_readNew_26 : decode cX11_readNew 26 = .ok ((.aload_n 0), 1) := by decide +kernel
theorem dX11_readNew_27 : decode cX11_readNew 27 = .ok ((.getfield 197), 3) := by decide +kernel
theorem dX11_readNew_30 : decode cX11_readNew 30 = .ok ((.ifCond .le 5), 3) := by decide +kernel
theorem dX11_readNew_33 : decode cX11_readNew 33 = .ok ((.iconst 0), 1) := by decide +kernel
theorem dX11_readNew_34 : decode cX11_readNew 34 = .ok (.ireturn, 1) := by decide +kernel
theorem dX11_readNew_35 : decode cX11_readNew 35 = .ok ((.aload_n 0), 1) := by decide +kernel
theorem dX11_readNew_36 : decode cX11_readNew 36 = .ok ((.invokevirtual 207), 3) := by decide +kernel
theorem dX11_readNew_39 : decode cX11_readNew 39 = .ok ((.aload_n 0), 1) := by decide +kernel
theorem dX11_readNew_40 : decode cX11_readNew 40 = .ok ((.invokevirtual 226), 3) := by decide +kernel
theorem dX11_readNew_43 : decode cX11_readNew 43 = .ok ((.ifCond .ne 7), 3) := by decide +kernel
theorem dX11_readNew_46 : decode cX11_readNew 46 = .ok ((.aload_n 0), 1) := by decide +kernel
theorem dX11_readNew_47 : decode cX11_readNew 47 = .ok ((.invokevirtual 210), 3) := by decide +kernel
theorem dX11_readNew_50 : decode cX11_readNew 50 = .ok ((.aload_n 0), 1) := by decide +kernel
theorem dX11_readNew_51 : decode cX11_readNew 51 = .ok ((.getfield 197), 3) := by decide +kernel
theorem dX11_readNew_54 : decode cX11_readNew 54 = .ok ((.ifCond .ne 30), 3) := by decide +kernel
theorem dX11_readNew_57 : decode cX11_readNew 57 = .ok ((.aload_n 0), 1) := by decide +kernel
theorem dX11_readNew_58 : decode cX11_readNew 58 = .ok ((.iconst 4), 1) := by decide +kernel
theorem dX11_readNew_59 : decode cX11_readNew 59 = .ok ((.iconst 0), 1) := by decide +kernel
theorem dX11_readNew_60 : decode cX11_readNew 60 = .ok ((.invokevirtual 229), 3) := by decide +kernel
theorem dX11_readNew_63 : decode cX11_readNew 63 = .ok ((.ifCond .ge 12), 3) := by decide +kernel
theorem dX11_readNew_66 : decode cX11_readNew 66 = .ok ((.aload_n 0), 1) := by decide +kernel
theorem dX11_readNew_67 : decode cX11_readNew 67 = .ok ((.iconst 4), 1) := by decide +kernel
theorem dX11_readNew_68 : decode cX11_readNew 68 = .ok ((.iconst 1), 1) := by decide +kernel
theorem dX11_readNew_69 : decode cX11_readNew 69 = .ok ((.invokevirtual 229), 3) := by decide +kernel
theorem dX11_readNew_72 : decode cX11_readNew 72 = .ok ((.ifCond .lt 12), 3) := by decide +kernel
theorem dX11_readNew_75 : decode cX11_readNew 75 = .ok ((.aload_n 0), 1) := by decide +kernel
theorem dX11_readNew_76 : decode cX11_readNew 76 = .ok ((.iconst 3), 1) := by decide +kernel
theorem dX11_readNew_77 : decode cX11_readNew 77 = .ok ((.aload_n 0), 1) := by decide +kernel
theorem dX11_readNew_78 : decode cX11_readNew 78 = .ok ((.getfield 109), 3) := by decide +kernel
theorem dX11_readNew_81 : decode cX11_readNew 81 = .ok ((.invokevirtual 203), 3) := by decide +kernel
theorem dX11_readNew_84 : decode cX11_readNew 84 = .ok ((.aload_n 0), 1) := by decide +kernel
theorem dX11_readNew_85 : decode cX11_readNew 85 = .ok ((.getfield 197), 3) := by decide +kernel
theorem dX11_readNew_88 : decode cX11_readNew 88 = .ok ((.ifCond .le 5), 3) := by decide +kernel
theorem dX11_readNew_91 : decode cX11_readNew 91 = .ok ((.iconst 0), 1) := by decide +kernel
theorem dX11_readNew_92 : decode cX11_readNew 92 = .ok (.ireturn, 1) := by decide +kernel
theorem dX11_readNew_93 : decode cX11_readNew 93 = .ok ((.aload_n 0), 1) := by decide +kernel
theorem dX11_readNew_94 : decode cX11_readNew 94 = .ok ((.getfield 41), 3) := by decide +kernel
theorem dX11_readNew_97 : decode cX11_readNew 97 = .ok ((.bipush 72), 2) := by decide +kernel
theorem dX11_readNew_99 : decode cX11_readNew 99 = .ok ((.bipush 8), 2) := by decide +kernel
theorem dX11_readNew_101 : decode cX11_readNew 101 = .ok ((.iload_n 1), 1) := by decide +kernel
theorem dX11_readNew_102 : decode cX11_readNew 102 = .ok (.imul, 1) := by decide +kernel
theorem dX11_readNew_103 : decode cX11_readNew 103 = .ok (.iadd, 1) := by decide +kernel
theorem dX11_readNew_104 : decode cX11_readNew 104 = .ok ((.iload_n 3), 1) := by decide +kernel
theorem dX11_readNew_105 : decode cX11_readNew 105 = .ok (.iadd, 1) := by decide +kernel
theorem dX11_readNew_106 : decode cX11_readNew 106 = .ok ((.aload_n 0), 1) := by decide +kernel
theorem dX11_readNew_107 : decode cX11_readNew 107 = .ok ((.getfield 121), 3) := by decide +kernel
theorem dX11_readNew_110 : decode cX11_readNew 110 = .ok (.lastore, 1) := by decide +kernel
theorem dX11_readNew_111 : decode cX11_readNew 111 = .ok ((.aload_n 0), 1) := by decide +kernel
theorem dX11_readNew_112 : decode cX11_readNew 112 = .ok ((.invokevirtual 207), 3) := by decide +kernel
theorem dX11_readNew_115 : decode cX11_readNew 115 = .ok ((.iload_n 3), 1) := by decide +kernel
theorem dX11_readNew_116 : decode cX11_readNew 116 = .ok (.ireturn, 1) := by decide +kernel
def p_X11_readNew_84  (a1 : Int32) (a2 : Int32)   (post : Int32 → vSt → Prop) (S : vSt) (x3 : Int32) : Prop := (((S.1 143 12) ≤ 0 → (vp_in ((72 + (8 * a1)) + x3) 90 ∧ ∀ S18, S18 = v_sl S 150 (Int32.toNatClampNeg ((72 + (8 * a1)) + x3)) (S.2 143 19) → p_X11_advance  S18  (fun S19 => post x3 S19))) ∧ (¬ (S.1 143 12) ≤ 0 → post 0 S))
def p_X11_readNew_75  (a1 : Int32) (a2 : Int32)   (post : Int32 → vSt → Prop) (S : vSt) (x3 : Int32) : Prop := p_X11_fail  S 3 (S.1 143 15) (fun S20 => p_X11_readNew_84 a1 a2 post S20 x3)
def p_X11_readNew_50  (a1 : Int32) (a2 : Int32)   (post : Int32 → vSt → Prop) (S : vSt) (x3 : Int32) : Prop := ((¬ (S.1 143 12) = 0 → p_X11_readNew_84 a1 a2 post S x3) ∧ ((S.1 143 12) = 0 → p_X11_named  S 4 0 (fun r19 S18 => ((0 ≤ r19 → p_X11_readNew_75 a1 a2 post S18 x3) ∧ (¬ 0 ≤ r19 → p_X11_named  S18 4 1 (fun r21 S20 => ((r21 < 0 → p_X11_readNew_84 a1 a2 post S20 x3) ∧ (¬ r21 < 0 → p_X11_readNew_75 a1 a2 post S20 x3))))))))
def p_X11_readNew_26  (a1 : Int32) (a2 : Int32)   (post : Int32 → vSt → Prop) (S : vSt) (x3 : Int32) : Prop := (((S.1 143 12) ≤ 0 → p_X11_advance  S  (fun S15 => p_X11_isName  S15  (fun r17 S16 => ((r17 = true → p_X11_readNew_50 a1 a2 post S16 x3) ∧ (r17 = false → p_X11_amiss  S16  (fun S18 => p_X11_readNew_50 a1 a2 post S18 x3)))))) ∧ (¬ (S.1 143 12) ≤ 0 → post 0 S))
def p_X11_readNew   (S : vSt) (a1 : Int32) (a2 : Int32) (post : Int32 → vSt → Prop) : Prop := (vp_in (1520 + a1) 1900 ∧ ∀ y14 : Int32, y14 = (S.1 148 (Int32.toNatClampNeg (1520 + a1))) → ((¬ y14 = a2 → p_X11_readNew_26 a1 a2 post S y14) ∧ (y14 = a2 → p_X11_fail  S 6 (S.1 143 15) (fun S15 => p_X11_readNew_26 a1 a2 post S15 y14))))
set_option maxHeartbeats 4000000 in
set_option maxRecDepth 100000 in
theorem q_X11_readNew_84 {X : vX} {G : vG}  {post : Int32 → vSt → Prop} (C : v_Cx X G cX11_readNew RX11 4 (v_rm 4 127)) (D : v_Rx X G (v_Qi G post) (some .int))  {a1 : Int32} {a2 : Int32}   : ∀ (S : vSt) (x3 : Int32), p_X11_readNew_84 a1 a2 post S x3 → VJ X G S 84 [(0, .ref (G.1 143)), (1, .int a1), (3, .int x3)] [] := by
  intro S x3 h
  refine V_aload_n C 0 dX11_readNew_84 rfl rfl ?_
  refine V_gi C 143 (by decide) (by decide) F_11_12 k_RX11_197 dX11_readNew_85 ?_
  refine V_if_le (tgt := 93) C dX11_readNew_88 (by decide) (fun c => ?_) (fun c => ?_)
  · have h := h.1 c
    refine V_aload_n C 0 dX11_readNew_93 rfl rfl ?_
    refine V_ga C 143 (by decide) (by decide) F_11_22 k_RX11_41 dX11_readNew_94 ?_
    refine V_bipush (v := 72) C dX11_readNew_97 (by decide) ?_
    refine V_bipush (v := 8) C dX11_readNew_99 (by decide) ?_
    refine V_iload_n C 1 dX11_readNew_101 rfl rfl ?_
    refine V_imul C dX11_readNew_102 ?_
    refine V_iadd C dX11_readNew_103 ?_
    refine V_iload_n C 2 dX11_readNew_104 rfl rfl ?_
    refine V_iadd C dX11_readNew_105 ?_
    refine V_aload_n C 0 dX11_readNew_106 rfl rfl ?_
    refine V_gl C 143 (by decide) (by decide) F_11_19 k_RX11_121 dX11_readNew_107 ?_
    obtain ⟨hi, h⟩ := h
    refine V_last C 150 90 (by decide) (by decide) hi dX11_readNew_110 ?_
    refine V_topS (fun S18 eS18 => ?_)
    have h := h S18 eS18
    refine V_aload_n C 0 dX11_readNew_111 rfl rfl ?_
    refine V_callVv (As := []) (rest := []) C (c_X11_advance (v_l X) G  _ h) 143 11 (by decide) (by decide) (by decide) rfl KV_X11_advance k_RX11_207 rfl rfl rfl (Nat.le_of_ble_eq_true rfl) ⟨Nat.le_of_ble_eq_true rfl, Nat.le_of_ble_eq_true rfl⟩ dX11_readNew_112 (fun S19 h => ?_)
    refine V_iload_n C 2 dX11_readNew_115 rfl rfl ?_
    exact V_iret C D dX11_readNew_116 h
  · have h := h.2 c
    refine V_iconst (v := 0) C dX11_readNew_91 (by decide) ?_
    exact V_iret C D dX11_readNew_92 h
set_option maxHeartbeats 4000000 in
set_option maxRecDepth 100000 in
theorem q_X11_readNew_75 {X : vX} {G : vG}  {post : Int32 → vSt → Prop} (C : v_Cx X G cX11_readNew RX11 4 (v_rm 4 127)) (D : v_Rx X G (v_Qi G post) (some .int))  {a1 : Int32} {a2 : Int32}   : ∀ (S : vSt) (x3 : Int32), p_X11_readNew_75 a1 a2 post S x3 → VJ X G S 75 [(0, .ref (G.1 143)), (1, .int a1), (3, .int x3)] [] := by
  intro S x3 h
  refine V_aload_n C 0 dX11_readNew_75 rfl rfl ?_
  refine V_iconst (v := 3) C dX11_readNew_76 (by decide) ?_
  refine V_aload_n C 0 dX11_readNew_77 rfl rfl ?_
  refine V_gi C 143 (by decide) (by decide) F_11_15 k_RX11_109 dX11_readNew_78 ?_
  refine V_callVv (As := [.int 3, .int (S.1 143 15)]) (rest := []) C (c_X11_fail (v_l X) G  _ _ _ h) 143 11 (by decide) (by decide) (by decide) rfl KV_X11_fail k_RX11_203 rfl rfl rfl (Nat.le_of_ble_eq_true rfl) ⟨Nat.le_of_ble_eq_true rfl, Nat.le_of_ble_eq_true rfl⟩ dX11_readNew_81 (fun S20 h => ?_)
  exact q_X11_readNew_84 C D  _ _ h
set_option maxHeartbeats 4000000 in
set_option maxRecDepth 100000 in
theorem q_X11_readNew_50 {X : vX} {G : vG}  {post : Int32 → vSt → Prop} (C : v_Cx X G cX11_readNew RX11 4 (v_rm 4 127)) (D : v_Rx X G (v_Qi G post) (some .int))  {a1 : Int32} {a2 : Int32}   : ∀ (S : vSt) (x3 : Int32), p_X11_readNew_50 a1 a2 post S x3 → VJ X G S 50 [(0, .ref (G.1 143)), (1, .int a1), (3, .int x3)] [] := by
  intro S x3 h
  refine V_aload_n C 0 dX11_readNew_50 rfl rfl ?_
  refine V_gi C 143 (by decide) (by decide) F_11_12 k_RX11_197 dX11_readNew_51 ?_
  refine V_if_ne (tgt := 84) C dX11_readNew_54 (by decide) (fun c => ?_) (fun c => ?_)
  · have h := h.1 c
    exact q_X11_readNew_84 C D  _ _ h
  · have h := h.2 c
    refine V_aload_n C 0 dX11_readNew_57 rfl rfl ?_
    refine V_iconst (v := 4) C dX11_readNew_58 (by decide) ?_
    refine V_iconst (v := 0) C dX11_readNew_59 (by decide) ?_
    refine V_callVi (As := [.int 4, .int 0]) (rest := []) C (c_X11_named (v_l X) G  _ _ _ h) 143 11 (by decide) (by decide) (by decide) rfl KV_X11_named k_RX11_229 rfl rfl rfl (Nat.le_of_ble_eq_true rfl) ⟨Nat.le_of_ble_eq_true rfl, Nat.le_of_ble_eq_true rfl⟩ dX11_readNew_60 (fun r19 S18 h => ?_)
    refine V_if_ge (tgt := 75) C dX11_readNew_63 (by decide) (fun c => ?_) (fun c => ?_)
    · have h := h.1 c
      exact q_X11_readNew_75 C D  _ _ h
    · have h := h.2 c
      refine V_aload_n C 0 dX11_readNew_66 rfl rfl ?_
      refine V_iconst (v := 4) C dX11_readNew_67 (by decide) ?_
      refine V_iconst (v := 1) C dX11_readNew_68 (by decide) ?_
      refine V_callVi (As := [.int 4, .int 1]) (rest := []) C (c_X11_named (v_l X) G  _ _ _ h) 143 11 (by decide) (by decide) (by decide) rfl KV_X11_named k_RX11_229 rfl rfl rfl (Nat.le_of_ble_eq_true rfl) ⟨Nat.le_of_ble_eq_true rfl, Nat.le_of_ble_eq_true rfl⟩ dX11_readNew_69 (fun r21 S20 h => ?_)
      refine V_if_lt (tgt := 84) C dX11_readNew_72 (by decide) (fun c => ?_) (fun c => ?_)
      · have h := h.1 c
        exact q_X11_readNew_84 C D  _ _ h
      · have h := h.2 c
        exact q_X11_readNew_75 C D  _ _ h
set_option maxHeartbeats 4000000 in
set_option maxRecDepth 100000 in
theorem q_X11_readNew_26 {X : vX} {G : vG}  {post : Int32 → vSt → Prop} (C : v_Cx X G cX11_readNew RX11 4 (v_rm 4 127)) (D : v_Rx X G (v_Qi G post) (some .int))  {a1 : Int32} {a2 : Int32}   : ∀ (S : vSt) (x3 : Int32), p_X11_readNew_26 a1 a2 post S x3 → VJ X G S 26 [(0, .ref (G.1 143)), (1, .int a1), (3, .int x3)] [] := by
  intro S x3 h
  refine V_aload_n C 0 dX11_readNew_26 rfl rfl ?_
  refine V_gi C 143 (by decide) (by decide) F_11_12 k_RX11_197 dX11_readNew_27 ?_
  refine V_if_le (tgt := 35) C dX11_readNew_30 (by decide) (fun c => ?_) (fun c => ?_)
  · have h := h.1 c
    refine V_aload_n C 0 dX11_readNew_35 rfl rfl ?_
    refine V_callVv (As := []) (rest := []) C (c_X11_advance (v_l X) G  _ h) 143 11 (by decide) (by decide) (by decide) rfl KV_X11_advance k_RX11_207 rfl rfl rfl (Nat.le_of_ble_eq_true rfl) ⟨Nat.le_of_ble_eq_true rfl, Nat.le_of_ble_eq_true rfl⟩ dX11_readNew_36 (fun S15 h => ?_)
    refine V_aload_n C 0 dX11_readNew_39 rfl rfl ?_
    refine V_callVz (As := []) (rest := []) C (c_X11_isName (v_l X) G  _ h) 143 11 (by decide) (by decide) (by decide) rfl KV_X11_isName k_RX11_226 rfl rfl rfl (Nat.le_of_ble_eq_true rfl) ⟨Nat.le_of_ble_eq_true rfl, Nat.le_of_ble_eq_true rfl⟩ dX11_readNew_40 (fun r17 S16 h => ?_)
    refine V_ifb_ne (tgt := 50) C dX11_readNew_43 (by decide) (fun c => ?_) (fun c => ?_)
    · have h := h.1 c
      exact q_X11_readNew_50 C D  _ _ h
    · have h := h.2 c
      refine V_aload_n C 0 dX11_readNew_46 rfl rfl ?_
      refine V_callVv (As := []) (rest := []) C (c_X11_amiss (v_l X) G  _ h) 143 11 (by decide) (by decide) (by decide) rfl KV_X11_amiss k_RX11_210 rfl rfl rfl (Nat.le_of_ble_eq_true rfl) ⟨Nat.le_of_ble_eq_true rfl, Nat.le_of_ble_eq_true rfl⟩ dX11_readNew_47 (fun S18 h => ?_)
      exact q_X11_readNew_50 C D  _ _ h
  · have h := h.2 c
    refine V_iconst (v := 0) C dX11_readNew_33 (by decide) ?_
    exact V_iret C D dX11_readNew_34 h
set_option maxHeartbeats 4000000 in
set_option maxRecDepth 100000 in
theorem c_X11_readNew (l : Launch) (G : vG)    {S : vSt} (a1 : Int32) (a2 : Int32) (post : Int32 → vSt → Prop) (h : p_X11_readNew   S a1 a2 post) : Met l yX11_readNew (v_ws yX11_readNew cX11_readNew 4 (some .int)) (v_rm 4 127) (v_Pc G [.ref (G.1 143), .int a1, .int a2] S) (v_Qi G post) 0 0 (v_A G) := by
  refine v_start (by decide +kernel) (Nat.le_of_ble_eq_true rfl) (fun X hl C D => ?_)
  subst hl
  have C : v_Cx X G cX11_readNew RX11 4 (v_rm 4 127) := C
  show VJ X G S 0 [(0, .ref (G.1 143)), (1, .int a1), (2, .int a2)] []
  refine V_aload_n C 0 dX11_readNew_0 rfl rfl ?_
  refine V_ga C 143 (by decide) (by decide) F_11_20 k_RX11_35 dX11_readNew_1 ?_
  refine V_sipush (v := 1520) C dX11_readNew_4 (by decide) ?_
  refine V_iload_n C 1 dX11_readNew_7 rfl rfl ?_
  refine V_iadd C dX11_readNew_8 ?_
  obtain ⟨hi, h⟩ := h
  refine V_iald C 148 1900 (by decide) (by decide) hi dX11_readNew_9 ?_
  refine V_topi (fun y14 ey14 => ?_)
  have h := h y14 ey14
  refine V_istore_n (lv' := [(0, .ref (G.1 143)), (1, .int a1), (2, .int a2), (3, .int y14)]) C [1, 2, 3, 0] dX11_readNew_10 rfl (by decide) rfl ?_
  refine V_iload_n C 3 dX11_readNew_11 rfl rfl ?_
  refine V_iload_n C 2 dX11_readNew_12 rfl rfl ?_
  refine V_icmp_ne (tgt := 26) C dX11_readNew_13 (by decide) (fun c => ?_) (fun c => ?_)
  · have h := h.1 c
    refine V_loc (lv' := [(0, .ref (G.1 143)), (1, .int a1), (3, .int y14)]) [0, 1, 3] rfl ?_
    exact q_X11_readNew_26 C D  _ _ h
  · have h := h.2 c
    refine V_aload_n C 0 dX11_readNew_16 rfl rfl ?_
    refine V_bipush (v := 6) C dX11_readNew_17 (by decide) ?_
    refine V_aload_n C 0 dX11_readNew_19 rfl rfl ?_
    refine V_gi C 143 (by decide) (by decide) F_11_15 k_RX11_109 dX11_readNew_20 ?_
    refine V_callVv (As := [.int 6, .int (S.1 143 15)]) (rest := []) C (c_X11_fail (v_l X) G  _ _ _ h) 143 11 (by decide) (by decide) (by decide) rfl KV_X11_fail k_RX11_203 rfl rfl rfl (Nat.le_of_ble_eq_true rfl) ⟨Nat.le_of_ble_eq_true rfl, Nat.le_of_ble_eq_true rfl⟩ dX11_readNew_23 (fun S15 h => ?_)
    refine V_loc (lv' := [(0, .ref (G.1 143)), (1, .int a1), (3, .int y14)]) [0, 1, 3] rfl ?_
    exact q_X11_readNew_26 C D  _ _ h
/-! HalfAccuserModel.readTold(II)I -/
theorem dX11_readTold_0 : decode cX11_readTold 0 = .ok ((.aload_n 0), 1) := by decide +kernel
theorem dX11_readTold_1 : decode cX11_readTold 1 = .ok ((.getfield 197), 3) := by decide +kernel
theorem dX11_readTold_4 : decode cX11_readTold 4 = .ok ((.ifCond .ne 14), 3) := by decide +kernel
theorem dX11_readTold_7 : decode cX11_readTold 7 = .ok ((.aload_n 0), 1) := by decide +kernel
theorem dX11_readTold_8 : decode cX11_readTold 8 = .ok ((.invokevirtual 226), 3) := by decide +kernel
theorem dX11_readTold_11 : decode cX11_readTold 11 = .ok ((.ifCond .ne 7), 3) := by decide +kernel
theorem dX11_readTold_14 : decode cX11_readTold 14 = .ok ((.aload_n 0), 1) := by decide +kernel
theorem dX11_readTold_15 : decode cX11_readTold 15 = .ok ((.invokevirtual 210), 3) := by decide +kernel
theorem dX11_readTold_18 : decode cX11_readTold 18 = .ok ((.aload_n 0), 1) := by decide +kernel
theorem dX11_readTold_19 : decode cX11_readTold 19 = .ok ((.getfield 197), 3) := by decide +kernel
theorem dX11_readTold_22 : decode cX11_readTold 22 = .ok ((.ifCond .le 7), 3) := by decide +kernel
theorem dX11_readTold_25 : decode cX11_readTold 25 = .ok ((.iconst 0), 1) := by decide +kernel
theorem dX11_readTold_26 : decode cX11_readTold 26 = .ok ((.goto 9), 3) := by decide +kernel
theorem dX11_readTold_29 : decode cX11_readTold 29 = .ok ((.aload_n 0), 1) := by decide +kernel
theorem dX11_readTold_30 : decode cX11_readTold 30 = .ok ((.iload_n 1), 1) := by decide +kernel
theorem dX11_readTold_31 : decode cX11_readTold 31 = .ok ((.iload_n 2), 1) := by decide +kernel
theorem dX11_readTold_32 : decode cX11_readTold 32 = .ok ((.invokevirtual 229), 3) := by decide +kernel
theorem dX11_readTold_35 : decode cX11_readTold 35 = .ok ((.istore_n 3), 1) := by decide +kernel
theorem dX11_readTold_36 : decode cX11_readTold 36 = .ok ((.iload_n 3), 1) := by decide +kernel
theorem dX11_readTold_37 : decode cX11_readTold 37 = .ok ((.ifCond .ge 12), 3) := by decide +kernel
theorem dX11_readTold_40 : decode cX11_readTold 40 = .ok ((.aload_n 0), 1) := by decide +kernel
theorem dX11_readTold_41 : decode cX11_readTold 41 = .ok ((.iconst 3), 1) := by decide +kernel
theorem dX11_readTold_42 : decode cX11_readTold 42 = .ok ((.aload_n 0), 1) := by decide +kernel
theorem dX11_readTold_43 : decode cX11_readTold 43 = .ok ((.getfield 109), 3) := by decide +kernel
theorem dX11_readTold_46 : decode cX11_readTold 46 = .ok ((.invokevirtual 203), 3) := by decide +kernel
theorem dX11_readTold_49 : decode cX11_readTold 49 = .ok ((.aload_n 0), 1) := by decide +kernel
theorem dX11_readTold_50 : decode cX11_readTold 50 = .ok ((.iconst 1), 1) := by decide +kernel
theorem dX11_readTold_51 : decode cX11_readTold 51 = .ok ((.invokevirtual 213), 3) := by decide +kernel
theorem dX11_readTold_54 : decode cX11_readTold 54 = .ok ((.iconst 0), 1) := by decide +kernel
theorem dX11_readTold_55 : decode cX11_readTold 55 = .ok ((.iload_n 3), 1) := by decide +kernel
theorem dX11_readTold_56 : decode cX11_readTold 56 = .ok ((.invokestatic 232), 3) := by decide +kernel
theorem dX11_readTold_59 : decode cX11_readTold 59 = .ok (.ireturn, 1) := by decide +kernel
def p_X11_readTold_49  (a1 : Int32) (a2 : Int32)   (post : Int32 → vSt → Prop) (S : vSt) (x3 : Int32) : Prop := p_X11_must  S true (fun S10 => post (v_maxi 0 x3) S10)
def p_X11_readTold_35  (a1 : Int32) (a2 : Int32)   (post : Int32 → vSt → Prop) (S : vSt) (s0 : Int32) : Prop := ((0 ≤ s0 → p_X11_readTold_49 a1 a2 post S s0) ∧ (¬ 0 ≤ s0 → p_X11_fail  S 3 (S.1 143 15) (fun S10 => p_X11_readTold_49 a1 a2 post S10 s0)))
def p_X11_readTold_18  (a1 : Int32) (a2 : Int32)   (post : Int32 → vSt → Prop) (S : vSt)  : Prop := (((S.1 143 12) ≤ 0 → p_X11_named  S a1 a2 (fun r9 S8 => p_X11_readTold_35 a1 a2 post S8 r9)) ∧ (¬ (S.1 143 12) ≤ 0 → p_X11_readTold_35 a1 a2 post S 0))
def p_X11_readTold   (S : vSt) (a1 : Int32) (a2 : Int32) (post : Int32 → vSt → Prop) : Prop := ((¬ (S.1 143 12) = 0 → p_X11_readTold_18 a1 a2 post S ) ∧ ((S.1 143 12) = 0 → p_X11_isName  S  (fun r9 S8 => ((r9 = true → p_X11_readTold_18 a1 a2 post S8 ) ∧ (r9 = false → p_X11_amiss  S8  (fun S10 => p_X11_readTold_18 a1 a2 post S10 ))))))
set_option maxHeartbeats 4000000 in
set_option maxRecDepth 100000 in
theorem q_X11_readTold_49 {X : vX} {G : vG}  {post : Int32 → vSt → Prop} (C : v_Cx X G cX11_readTold RX11 4 (v_rm 4 127)) (D : v_Rx X G (v_Qi G post) (some .int))  {a1 : Int32} {a2 : Int32}   : ∀ (S : vSt) (x3 : Int32), p_X11_readTold_49 a1 a2 post S x3 → VJ X G S 49 [(0, .ref (G.1 143)), (3, .int x3)] [] := by
  intro S x3 h
  refine V_aload_n C 0 dX11_readTold_49 rfl rfl ?_
  refine V_iconst (v := 1) C dX11_readTold_50 (by decide) ?_
  refine V_callVv (As := [.int (v_b true)]) (rest := []) C (c_X11_must (v_l X) G  _ _ h) 143 11 (by decide) (by decide) (by decide) rfl KV_X11_must k_RX11_213 rfl rfl rfl (Nat.le_of_ble_eq_true rfl) ⟨Nat.le_of_ble_eq_true rfl, Nat.le_of_ble_eq_true rfl⟩ dX11_readTold_51 (fun S10 h => ?_)
  refine V_iconst (v := 0) C dX11_readTold_54 (by decide) ?_
  refine V_iload_n C 1 dX11_readTold_55 rfl rfl ?_
  refine V_maxi C k_RX11_232 (Nat.le_of_ble_eq_true rfl) ⟨Nat.le_of_ble_eq_true rfl, Nat.le_of_ble_eq_true rfl⟩ dX11_readTold_56 ?_
  exact V_iret C D dX11_readTold_59 h
set_option maxHeartbeats 4000000 in
set_option maxRecDepth 100000 in
theorem q_X11_readTold_35 {X : vX} {G : vG}  {post : Int32 → vSt → Prop} (C : v_Cx X G cX11_readTold RX11 4 (v_rm 4 127)) (D : v_Rx X G (v_Qi G post) (some .int))  {a1 : Int32} {a2 : Int32}   : ∀ (S : vSt) (s0 : Int32), p_X11_readTold_35 a1 a2 post S s0 → VJ X G S 35 [(0, .ref (G.1 143))] [.int s0] := by
  intro S s0 h
  refine V_istore_n (lv' := [(0, .ref (G.1 143)), (3, .int s0)]) C [1, 0] dX11_readTold_35 rfl (by decide) rfl ?_
  refine V_iload_n C 1 dX11_readTold_36 rfl rfl ?_
  refine V_if_ge (tgt := 49) C dX11_readTold_37 (by decide) (fun c => ?_) (fun c => ?_)
  · have h := h.1 c
    exact q_X11_readTold_49 C D  _ _ h
  · have h := h.2 c
    refine V_aload_n C 0 dX11_readTold_40 rfl rfl ?_
    refine V_iconst (v := 3) C dX11_readTold_41 (by decide) ?_
    refine V_aload_n C 0 dX11_readTold_42 rfl rfl ?_
    refine V_gi C 143 (by decide) (by decide) F_11_15 k_RX11_109 dX11_readTold_43 ?_
    refine V_callVv (As := [.int 3, .int (S.1 143 15)]) (rest := []) C (c_X11_fail (v_l X) G  _ _ _ h) 143 11 (by decide) (by decide) (by decide) rfl KV_X11_fail k_RX11_203 rfl rfl rfl (Nat.le_of_ble_eq_true rfl) ⟨Nat.le_of_ble_eq_true rfl, Nat.le_of_ble_eq_true rfl⟩ dX11_readTold_46 (fun S10 h => ?_)
    exact q_X11_readTold_49 C D  _ _ h
set_option maxHeartbeats 4000000 in
set_option maxRecDepth 100000 in
theorem q_X11_readTold_18 {X : vX} {G : vG}  {post : Int32 → vSt → Prop} (C : v_Cx X G cX11_readTold RX11 4 (v_rm 4 127)) (D : v_Rx X G (v_Qi G post) (some .int))  {a1 : Int32} {a2 : Int32}   : ∀ (S : vSt), p_X11_readTold_18 a1 a2 post S  → VJ X G S 18 [(0, .ref (G.1 143)), (1, .int a1), (2, .int a2)] [] := by
  intro S  h
  refine V_aload_n C 0 dX11_readTold_18 rfl rfl ?_
  refine V_gi C 143 (by decide) (by decide) F_11_12 k_RX11_197 dX11_readTold_19 ?_
  refine V_if_le (tgt := 29) C dX11_readTold_22 (by decide) (fun c => ?_) (fun c => ?_)
  · have h := h.1 c
    refine V_aload_n C 0 dX11_readTold_29 rfl rfl ?_
    refine V_iload_n C 1 dX11_readTold_30 rfl rfl ?_
    refine V_iload_n C 2 dX11_readTold_31 rfl rfl ?_
    refine V_callVi (As := [.int a1, .int a2]) (rest := []) C (c_X11_named (v_l X) G  _ _ _ h) 143 11 (by decide) (by decide) (by decide) rfl KV_X11_named k_RX11_229 rfl rfl rfl (Nat.le_of_ble_eq_true rfl) ⟨Nat.le_of_ble_eq_true rfl, Nat.le_of_ble_eq_true rfl⟩ dX11_readTold_32 (fun r9 S8 h => ?_)
    refine V_loc (lv' := [(0, .ref (G.1 143))]) [0] rfl ?_
    exact q_X11_readTold_35 C D  _ _ h
  · have h := h.2 c
    refine V_iconst (v := 0) C dX11_readTold_25 (by decide) ?_
    refine V_goto (tgt := 35) C dX11_readTold_26 (by decide) ?_
    refine V_loc (lv' := [(0, .ref (G.1 143))]) [0] rfl ?_
    exact q_X11_readTold_35 C D  _ _ h
set_option maxHeartbeats 4000000 in
set_option maxRecDepth 100000 in
theorem c_X11_readTold (l : Launch) (G : vG)    {S : vSt} (a1 : Int32) (a2 : Int32) (post : Int32 → vSt → Prop) (h : p_X11_readTold   S a1 a2 post) : Met l yX11_readTold (v_ws yX11_readTold cX11_readTold 4 (some .int)) (v_rm 4 127) (v_Pc G [.ref (G.1 143), .int a1, .int a2] S) (v_Qi G post) 0 0 (v_A G) := by
  refine v_start (by decide +kernel) (Nat.le_of_ble_eq_true rfl) (fun X hl C D => ?_)
  subst hl
  have C : v_Cx X G cX11_readTold RX11 4 (v_rm 4 127) := C
  show VJ X G S 0 [(0, .ref (G.1 143)), (1, .int a1), (2, .int a2)] []
  refine V_aload_n C 0 dX11_readTold_0 rfl rfl ?_
  refine V_gi C 143 (by decide) (by decide) F_11_12 k_RX11_197 dX11_readTold_1 ?_
  refine V_if_ne (tgt := 18) C dX11_readTold_4 (by decide) (fun c => ?_) (fun c => ?_)
  · have h := h.1 c
    exact q_X11_readTold_18 C D  _ h
  · have h := h.2 c
    refine V_aload_n C 0 dX11_readTold_7 rfl rfl ?_
    refine V_callVz (As := []) (rest := []) C (c_X11_isName (v_l X) G  _ h) 143 11 (by decide) (by decide) (by decide) rfl KV_X11_isName k_RX11_226 rfl rfl rfl (Nat.le_of_ble_eq_true rfl) ⟨Nat.le_of_ble_eq_true rfl, Nat.le_of_ble_eq_true rfl⟩ dX11_readTold_8 (fun r9 S8 h => ?_)
    refine V_ifb_ne (tgt := 18) C dX11_readTold_11 (by decide) (fun c => ?_) (fun c => ?_)
    · have h := h.1 c
      exact q_X11_readTold_18 C D  _ h
    · have h := h.2 c
      refine V_aload_n C 0 dX11_readTold_14 rfl rfl ?_
      refine V_callVv (As := []) (rest := []) C (c_X11_amiss (v_l X) G  _ h) 143 11 (by decide) (by decide) (by decide) rfl KV_X11_amiss k_RX11_210 rfl rfl rfl (Nat.le_of_ble_eq_true rfl) ⟨Nat.le_of_ble_eq_true rfl, Nat.le_of_ble_eq_true rfl⟩ dX11_readTold_15 (fun S10 h => ?_)
      exact q_X11_readTold_18 C D  _ h
/-! HalfAccuserModel.readOnce(III)V -/
theorem dX11_readOnce_0 : decode cX11_readOnce 0 = .ok ((.aload_n 0), 1) := by decide +kernel
theorem dX11_readOnce_1 : decode cX11_readOnce 1 = .ok ((.getfield 235), 3) := by decide +kernel
theorem dX11_readOnce_4 : decode cX11_readOnce 4 = .ok ((.iload_n 1), 1) := by decide +kernel
theorem dX11_readOnce_5 : decode cX11_readOnce 5 = .ok ((.invokestatic 99), 3) := by decide +kernel
theorem dX11_readOnce_8 : decode cX11_readOnce 8 = .ok ((.ifCond .eq 12), 3) := by decide +kernel
theorem dX11_readOnce_11 : decode cX11_readOnce 11 = .ok ((.aload_n 0), 1) := by decide +kernel
theorem dX11_readOnce_12 : decode cX11_readOnce 12 = .ok ((.iconst 5), 1) := by decide +kernel
theorem dX11_readOnce_13 : decode cX11_readOnce 13 = .ok ((.aload_n 0), 1) := by decide +kernel
theorem dX11_readOnce_14 : decode cX11_readOnce 14 = .ok ((.getfield 109), 3) := by decide +kernel
theorem dX11_readOnce_17 : decode cX11_readOnce 17 = .ok ((.invokevirtual 203), 3) := by decide +kernel
theorem dX11_readOnce_20 : decode cX11_readOnce 20 = .ok ((.aload_n 0), 1) := by decide +kernel
theorem dX11_readOnce_21 : decode cX11_readOnce 21 = .ok ((.getfield 197), 3) := by decide +kernel
theorem dX11_readOnce_24 : decode cX11_readOnce 24 = .ok ((.ifCond .le 4), 3) := by decide +kernel
theorem dX11_readOnce_27 : decode cX11_readOnce 27 = .ok (.return_, 1) := by decide +kernel
theorem dX11_readOnce_28 : decode cX11_readOnce 28 = .ok ((.aload_n 0), 1) := by decide +kernel
theorem dX11_readOnce_29 : decode cX11_readOnce 29 = .ok (.dup, 1) := by decide +kernel
theorem dX11_readOnce_30 : decode cX11_readOnce 30 = .ok ((.getfield 235), 3) := by decide +kernel
theorem dX11_readOnce_33 : decode cX11_readOnce 33 = .ok ((.iconst 1), 1) := by decide +kernel
theorem dX11_readOnce_34 : decode cX11_readOnce 34 = .ok ((.iload_n 1), 1) := by decide +kernel
theorem dX11_readOnce_35 : decode cX11_readOnce 35 = .ok (.ishl, 1) := by decide +kernel
theorem dX11_readOnce_36 : decode cX11_readOnce 36 = .ok (.ior, 1) := by decide +kernel
theorem dX11_readOnce_37 : decode cX11_readOnce 37 = .ok ((.putfield 235), 3) := by decide +kernel
theorem dX11_readOnce_40 : decode cX11_readOnce 40 = .ok ((.aload_n 0), 1) := by decide +kernel
theorem dX11_readOnce_41 : decode cX11_readOnce 41 = .ok ((.invokevirtual 207), 3) := by decide +kernel
theorem dX11_readOnce_44 : decode cX11_readOnce 44 = .ok ((.aload_n 0), 1) := by decide +kernel
theorem dX11_readOnce_45 : decode cX11_readOnce 45 = .ok ((.getfield 35), 3) := by decide +kernel
theorem dX11_readOnce_48 : decode cX11_readOnce 48 = .ok ((.sipush 1522), 3) := by decide +kernel
theorem dX11_readOnce_51 : decode cX11_readOnce 51 = .ok ((.iload_n 1), 1) := by decide +kernel
theorem dX11_readOnce_52 : decode cX11_readOnce 52 = .ok (.iadd, 1) := by decide +kernel
theorem dX11_readOnce_53 : decode cX11_readOnce 53 = .ok ((.aload_n 0), 1) := by decide +kernel
theorem dX11_readOnce_54 : decode cX11_readOnce 54 = .ok ((.iload_n 2), 1) := by decide +kernel
theorem dX11_readOnce_55 : decode cX11_readOnce 55 = .ok ((.iload_n 3), 1) := by decide +kernel
theorem dX11_readOnce_56 : decode cX11_readOnce 56 = .ok ((.invokevirtual 217), 3) := by decide +kernel
theorem dX11_readOnce_59 : decode cX11_readOnce 59 = .ok (.iastore, 1) := by decide +kernel
theorem dX11_readOnce_60 : decode cX11_readOnce 60 = .ok (.return_, 1) := by decide +kernel
def p_X11_readOnce_20  (a1 : Int32) (a2 : Int32) (a3 : Int32)   (post : vSt → Prop) (S : vSt)  : Prop := (((S.1 143 12) ≤ 0 → ∀ S11, S11 = v_si S 143 24 ((S.1 143 24) ||| (1 <<< (a1 &&& 31))) → p_X11_advance  S11  (fun S12 => p_X11_count  S12 a2 a3 (fun r14 S13 => (vp_in (1522 + a1) 1900 ∧ ∀ S15, S15 = v_si S13 148 (Int32.toNatClampNeg (1522 + a1)) r14 → post S15)))) ∧ (¬ (S.1 143 12) ≤ 0 → post S))
def p_X11_readOnce   (S : vSt) (a1 : Int32) (a2 : Int32) (a3 : Int32) (post : vSt → Prop) : Prop := p_X11_has  S (S.1 143 24) a1 (fun r10 S9 => ((r10 = false → p_X11_readOnce_20 a1 a2 a3 post S9 ) ∧ (r10 = true → p_X11_fail  S9 5 (S9.1 143 15) (fun S11 => p_X11_readOnce_20 a1 a2 a3 post S11 ))))
set_option maxHeartbeats 4000000 in
set_option maxRecDepth 100000 in
theorem q_X11_readOnce_20 {X : vX} {G : vG}  {post : vSt → Prop} (C : v_Cx X G cX11_readOnce RX11 4 (v_rm 3 105)) (D : v_Rx X G (v_Qv G post) none)  {a1 : Int32} {a2 : Int32} {a3 : Int32}   : ∀ (S : vSt), p_X11_readOnce_20 a1 a2 a3 post S  → VJ X G S 20 [(0, .ref (G.1 143)), (1, .int a1), (2, .int a2), (3, .int a3)] [] := by
  intro S  h
  refine V_aload_n C 0 dX11_readOnce_20 rfl rfl ?_
  refine V_gi C 143 (by decide) (by decide) F_11_12 k_RX11_197 dX11_readOnce_21 ?_
  refine V_if_le (tgt := 28) C dX11_readOnce_24 (by decide) (fun c => ?_) (fun c => ?_)
  · have h := h.1 c
    refine V_aload_n C 0 dX11_readOnce_28 rfl rfl ?_
    refine V_dup C dX11_readOnce_29 rfl ?_
    refine V_gi C 143 (by decide) (by decide) F_11_24 k_RX11_235 dX11_readOnce_30 ?_
    refine V_iconst (v := 1) C dX11_readOnce_33 (by decide) ?_
    refine V_iload_n C 1 dX11_readOnce_34 rfl rfl ?_
    refine V_ishl C dX11_readOnce_35 ?_
    refine V_ior C dX11_readOnce_36 ?_
    refine V_pi C 143 (by decide) (by decide) P_11_24 k_RX11_235 dX11_readOnce_37 ?_
    refine V_topS (fun S11 eS11 => ?_)
    have h := h S11 eS11
    refine V_aload_n C 0 dX11_readOnce_40 rfl rfl ?_
    refine V_callVv (As := []) (rest := []) C (c_X11_advance (v_l X) G  _ h) 143 11 (by decide) (by decide) (by decide) rfl KV_X11_advance k_RX11_207 rfl rfl rfl (Nat.le_of_ble_eq_true rfl) ⟨Nat.le_of_ble_eq_true rfl, Nat.le_of_ble_eq_true rfl⟩ dX11_readOnce_41 (fun S12 h => ?_)
    refine V_aload_n C 0 dX11_readOnce_44 rfl rfl ?_
    refine V_ga C 143 (by decide) (by decide) F_11_20 k_RX11_35 dX11_readOnce_45 ?_
    refine V_sipush (v := 1522) C dX11_readOnce_48 (by decide) ?_
    refine V_iload_n C 1 dX11_readOnce_51 rfl rfl ?_
    refine V_iadd C dX11_readOnce_52 ?_
    refine V_aload_n C 0 dX11_readOnce_53 rfl rfl ?_
    refine V_iload_n C 2 dX11_readOnce_54 rfl rfl ?_
    refine V_iload_n C 3 dX11_readOnce_55 rfl rfl ?_
    refine V_callVi (As := [.int a2, .int a3]) (rest := [.int (1522 + a1), .ref (G.1 148)]) C (c_X11_count (v_l X) G  _ _ _ h) 143 11 (by decide) (by decide) (by decide) rfl KV_X11_count k_RX11_217 rfl rfl rfl (Nat.le_of_ble_eq_true rfl) ⟨Nat.le_of_ble_eq_true rfl, Nat.le_of_ble_eq_true rfl⟩ dX11_readOnce_56 (fun r14 S13 h => ?_)
    obtain ⟨hi, h⟩ := h
    refine V_iast C 148 1900 (by decide) (by decide) hi dX11_readOnce_59 ?_
    refine V_topS (fun S15 eS15 => ?_)
    have h := h S15 eS15
    exact V_vret C D dX11_readOnce_60 h
  · have h := h.2 c
    exact V_vret C D dX11_readOnce_27 h
set_option maxHeartbeats 4000000 in
set_option maxRecDepth 100000 in
theorem c_X11_readOnce (l : Launch) (G : vG)    {S : vSt} (a1 : Int32) (a2 : Int32) (a3 : Int32) (post : vSt → Prop) (h : p_X11_readOnce   S a1 a2 a3 post) : Met l yX11_readOnce (v_ws yX11_readOnce cX11_readOnce 4 none) (v_rm 3 105) (v_Pc G [.ref (G.1 143), .int a1, .int a2, .int a3] S) (v_Qv G post) 0 0 (v_A G) := by
  refine v_start (by decide +kernel) (Nat.le_of_ble_eq_true rfl) (fun X hl C D => ?_)
  subst hl
  have C : v_Cx X G cX11_readOnce RX11 4 (v_rm 3 105) := C
  show VJ X G S 0 [(0, .ref (G.1 143)), (1, .int a1), (2, .int a2), (3, .int a3)] []
  refine V_aload_n C 0 dX11_readOnce_0 rfl rfl ?_
  refine V_gi C 143 (by decide) (by decide) F_11_24 k_RX11_235 dX11_readOnce_1 ?_
  refine V_iload_n C 1 dX11_readOnce_4 rfl rfl ?_
  refine V_callSz (As := [.int (S.1 143 24), .int a1]) (rest := []) C (c_X11_has (v_l X) G  _ _ _ h) KV_X11_has k_RX11_99 rfl rfl rfl (Nat.le_of_ble_eq_true rfl) ⟨Nat.le_of_ble_eq_true rfl, Nat.le_of_ble_eq_true rfl⟩ dX11_readOnce_5 (fun r10 S9 h => ?_)
  refine V_ifb_eq (tgt := 20) C dX11_readOnce_8 (by decide) (fun c => ?_) (fun c => ?_)
  · have h := h.1 c
    exact q_X11_readOnce_20 C D  _ h
  · have h := h.2 c
    refine V_aload_n C 0 dX11_readOnce_11 rfl rfl ?_
    refine V_iconst (v := 5) C dX11_readOnce_12 (by decide) ?_
    refine V_aload_n C 0 dX11_readOnce_13 rfl rfl ?_
    refine V_gi C 143 (by decide) (by decide) F_11_15 k_RX11_109 dX11_readOnce_14 ?_
    refine V_callVv (As := [.int 5, .int (S9.1 143 15)]) (rest := []) C (c_X11_fail (v_l X) G  _ _ _ h) 143 11 (by decide) (by decide) (by decide) rfl KV_X11_fail k_RX11_203 rfl rfl rfl (Nat.le_of_ble_eq_true rfl) ⟨Nat.le_of_ble_eq_true rfl, Nat.le_of_ble_eq_true rfl⟩ dX11_readOnce_17 (fun S11 h => ?_)
    exact q_X11_readOnce_20 C D  _ h
/-! HalfAccuserModel.readPerson()V -/
theorem dX11_readPerson_0 : decode cX11_readPerson 0 = .ok ((.aload_n 0), 1) := by decide +kernel
theorem dX11_readPerson_1 : decode cX11_readPerson 1 = .ok ((.iconst 0), 1) := by decide +kernel
theorem dX11_readPerson_2 : decode cX11_readPerson 2 = .ok ((.bipush 8), 2) := by decide +kernel
theorem dX11_readPerson_4 : decode cX11_readPerson 4 = .ok ((.invokevirtual 238), 3) := by decide +kernel
theorem dX11_readPerson_7 : decode cX11_readPerson 7 = .ok ((.istore_n 1), 1) := by decide +kernel
theorem dX11_readPerson_8 : decode cX11_readPerson 8 = .ok ((.aload_n 0), 1) := by decide +kernel
theorem dX11_readPerson_9 : decode cX11_readPerson 9 = .ok ((.aload_n 0), 1) := by decide +kernel
theorem dX11_readPerson_10 : decode cX11_readPerson 10 = .ok ((.invokevirtual 188), 3) := by decide +kernel
theorem dX11_readPerson_13 : decode cX11_readPerson 13 = .ok ((.iconst 2), 1) := by decide +kernel
theorem dX11_readPerson_14 : decode cX11_readPerson 14 = .ok ((.if_icmp .ne 7), 3) := by decide +kernel
theorem dX11_readPerson_17 : decode cX11_readPerson 17 = .ok ((.iconst 1), 1) := by decide +kernel
theorem dX11_readPerson_18 : decode cX11_readPerson 18 = .ok ((.goto 4), 3) := by decide +kernel
theorem dX11_readPerson_21 : decode cX11_readPerson 21 = .ok ((.iconst 0), 1) := by decide +kernel
theorem dX11_readPerson_22 : decode cX11_readPerson 22 = .ok ((.invokevirtual 241), 3) := by decide +kernel
theorem dX11_readPerson_25 : decode cX11_readPerson 25 = .ok ((.ifCond .eq 14), 3) := by decide +kernel
theorem dX11_readPerson_28 : decode cX11_readPerson 28 = .ok ((.aload_n 0), 1) := by decide +kernel
theorem dX11_readPerson_29 : decode cX11_readPerson 29 = .ok ((.iconst 0), 1) := by decide +kernel
theorem dX11_readPerson_30 : decode cX11_readPerson 30 = .ok ((.sipush 9999), 3) := by decide +kernel
theorem dX11_readPerson_33 : decode cX11_readPerson 33 = .ok ((.invokevirtual 217), 3) := by decide +kernel
theorem dX11_readPerson_36 : decode cX11_readPerson 36 = .ok ((.goto 5), 3) := by decide +kernel
theorem dX11_readPerson_39 : decode cX11_readPerson 39 = .ok ((.bipush 100), 2) := by decide +kernel
theorem dX11_readPerson_41 : decode cX11_readPerson 41 = .ok ((.istore_n 2), 1) := by decide +kernel
theorem dX11_readPerson_42 : decode cX11_readPerson 42 = .ok ((.aload_n 0), 1) := by decide +kernel
theorem dX11_readPerson_43 : decode cX11_readPerson 43 = .ok ((.aload_n 0), 1) := by decide +kernel
theorem dX11_readPerson_44 : decode cX11_readPerson 44 = .ok ((.invokevirtual 166), 3) := by decide +kernel
theorem dX11_readPerson_47 : decode cX11_readPerson 47 = .ok ((.invokevirtual 241), 3) := by decide +kernel
theorem dX11_readPerson_50 : decode cX11_readPerson 50 = .ok ((.ifCond .eq 13), 3) := by decide +kernel
theorem dX11_readPerson_53 : decode cX11_readPerson 53 = .ok ((.aload_n 0), 1) := by decide +kernel
theorem dX11_readPerson_54 : decode cX11_readPerson 54 = .ok ((.iconst 0), 1) := by decide +kernel
theorem dX11_readPerson_55 : decode cX11_readPerson 55 = .ok ((.bipush 16), 2) := by decide +kernel
theorem dX11_readPerson_57 : decode cX11_readPerson 57 = .ok ((.invokevirtual 217), 3) := by decide +kernel
theorem dX11_readPerson_60 : decode cX11_readPerson 60 = .ok ((.goto 4), 3) := by decide +kernel
theorem dX11_readPerson_63 : decode cX11_readPerson 63 = .ok ((.iconst 0), 1) := by decide +kernel
theorem dX11_readPerson_64 : decode cX11_readPerson 64 = .ok ((.istore_n 3), 1) := by decide +kernel
theorem dX11_readPerson_65 : decode cX11_readPerson 65 = .ok ((.aload_n 0), 1) := by decide +kernel
theorem dX11_readPerson_66 : decode cX11_readPerson 66 = .ok ((.getfield 197), 3) := by decide +kernel
theorem dX11_readPerson_69 : decode cX11_readPerson 69 = .ok ((.ifCond .le 4), 3) := by decide +kernel
theorem dX11_readPerson_72 : decode cX11_readPerson 72 = .ok (.return_, 1) := by decide +kernel
theorem dX11_readPerson_73 : decode cX11_readPerson 73 = .ok ((.aload_n 0), 1) := by decide +kernel
theorem dX11_readPerson_74 : decode cX11_readPerson 74 = .ok ((.getfield 35), 3) := by decide +kernel
theorem dX11_readPerson_77 : decode cX11_readPerson 77 = .ok ((.sipush 1528), 3) := by decide +kernel
theorem dX11_readPerson_80 : decode cX11_readPerson 80 = .ok ((.iload_n 1), 1) := by decide +kernel
theorem dX11_readPerson_81 : decode cX11_readPerson 81 = .ok (.iadd, 1) := by decide +kernel
theorem dX11_readPerson_82 : decode cX11_readPerson 82 = .ok ((.iload_n 2), 1) := by decide +kernel
theorem dX11_readPerson_83 : decode cX11_readPerson 83 = .ok (.iastore, 1) := by decide +kernel
theorem dX11_readPerson_84 : decode cX11_readPerson 84 = .ok ((.aload_n 0), 1) := by decide +kernel
theorem dX11_readPerson_85 : decode cX11_readPerson 85 = .ok ((.getfield 35), 3) := by decide +kernel
theorem dX11_readPerson_88 : decode cX11_readPerson 88 = .ok ((.sipush 1536), 3) := by decide +kernel
theorem dX11_readPerson_91 : decode cX11_readPerson 91 = .ok ((.iload_n 1), 1) := by decide +kernel
theorem dX11_readPerson_92 : decode cX11_readPerson 92 = .ok (.iadd, 1) := by decide +kernel
theorem dX11_readPerson_93 : decode cX11_readPerson 93 = .ok ((.iload_n 3), 1) := by decide +kernel
theorem dX11_readPerson_94 : decode cX11_readPerson 94 = .ok (.iastore, 1) := by decide +kernel
theorem dX11_readPerson_95 : decode cX11_readPerson 95 = .ok ((.aload_n 0), 1) := by decide +kernel
theorem dX11_readPerson_96 : decode cX11_readPerson 96 = .ok ((.getfield 35), 3) := by decide +kernel
theorem dX11_readPerson_99 : decode cX11_readPerson 99 = .ok ((.sipush 1520), 3) := by decide +kernel
theorem dX11_readPerson_102 : decode cX11_readPerson 102 = .ok (.dup2, 1) := by decide +kernel
theorem dX11_readPerson_103 : decode cX11_readPerson 103 = .ok (.iaload, 1) := by decide +kernel
theorem dX11_readPerson_104 : decode cX11_readPerson 104 = .ok ((.iconst 1), 1) := by decide +kernel
theorem dX11_readPerson_105 : decode cX11_readPerson 105 = .ok (.iadd, 1) := by decide +kernel
theorem dX11_readPerson_106 : decode cX11_readPerson 106 = .ok (.iastore, 1) := by decide +kernel
theorem dX11_readPerson_107 : decode cX11_readPerson 107 = .ok (.return_, 1) := by decide +kernel
def p_X11_readPerson_64     (post : vSt → Prop) (S : vSt) (x1 : Int32) (x2 : Int32) (s0 : Int32) : Prop := (((S.1 143 12) ≤ 0 → (vp_in (1528 + x1) 1900 ∧ ∀ S28, S28 = v_si S 148 (Int32.toNatClampNeg (1528 + x1)) x2 → (vp_in (1536 + x1) 1900 ∧ ∀ S29, S29 = v_si S28 148 (Int32.toNatClampNeg (1536 + x1)) s0 → (vp_in 1520 1900 ∧ (vp_in 1520 1900 ∧ ∀ S30, S30 = v_si S29 148 (Int32.toNatClampNeg 1520) ((S29.1 148 (Int32.toNatClampNeg 1520)) + 1) → post S30))))) ∧ (¬ (S.1 143 12) ≤ 0 → post S))
def p_X11_readPerson_41     (post : vSt → Prop) (S : vSt) (x1 : Int32) (s0 : Int32) : Prop := p_X11_isSkill  S  (fun r25 S24 => p_X11_perhaps  S24 r25 (fun r27 S26 => ((r27 = false → p_X11_readPerson_64  post S26 x1 s0 0) ∧ (r27 = true → p_X11_count  S26 0 16 (fun r29 S28 => p_X11_readPerson_64  post S28 x1 s0 r29)))))
def p_X11_readPerson_22     (post : vSt → Prop) (S : vSt) (x1 : Int32) (s0 : Bool) : Prop := p_X11_perhaps  S s0 (fun r23 S22 => ((r23 = false → p_X11_readPerson_41  post S22 x1 100) ∧ (r23 = true → p_X11_count  S22 0 9999 (fun r25 S24 => p_X11_readPerson_41  post S24 x1 r25))))
def p_X11_readPerson   (S : vSt)  (post : vSt → Prop) : Prop := p_X11_readNew  S 0 8 (fun r19 S18 => p_X11_testWord  S18  (fun r21 S20 => ((¬ r21 = 2 → p_X11_readPerson_22  post S20 r19 false) ∧ (r21 = 2 → p_X11_readPerson_22  post S20 r19 true))))
set_option maxHeartbeats 4000000 in
set_option maxRecDepth 100000 in
theorem q_X11_readPerson_64 {X : vX} {G : vG}  {post : vSt → Prop} (C : v_Cx X G cX11_readPerson RX11 4 (v_rm 5 150)) (D : v_Rx X G (v_Qv G post) none)     : ∀ (S : vSt) (x1 : Int32) (x2 : Int32) (s0 : Int32), p_X11_readPerson_64  post S x1 x2 s0 → VJ X G S 64 [(0, .ref (G.1 143)), (1, .int x1), (2, .int x2)] [.int s0] := by
  intro S x1 x2 s0 h
  refine V_istore_n (lv' := [(0, .ref (G.1 143)), (1, .int x1), (2, .int x2), (3, .int s0)]) C [1, 2, 3, 0] dX11_readPerson_64 rfl (by decide) rfl ?_
  refine V_aload_n C 0 dX11_readPerson_65 rfl rfl ?_
  refine V_gi C 143 (by decide) (by decide) F_11_12 k_RX11_197 dX11_readPerson_66 ?_
  refine V_if_le (tgt := 73) C dX11_readPerson_69 (by decide) (fun c => ?_) (fun c => ?_)
  · have h := h.1 c
    refine V_aload_n C 0 dX11_readPerson_73 rfl rfl ?_
    refine V_ga C 143 (by decide) (by decide) F_11_20 k_RX11_35 dX11_readPerson_74 ?_
    refine V_sipush (v := 1528) C dX11_readPerson_77 (by decide) ?_
    refine V_iload_n C 1 dX11_readPerson_80 rfl rfl ?_
    refine V_iadd C dX11_readPerson_81 ?_
    refine V_iload_n C 2 dX11_readPerson_82 rfl rfl ?_
    obtain ⟨hi, h⟩ := h
    refine V_iast C 148 1900 (by decide) (by decide) hi dX11_readPerson_83 ?_
    refine V_topS (fun S28 eS28 => ?_)
    have h := h S28 eS28
    refine V_aload_n C 0 dX11_readPerson_84 rfl rfl ?_
    refine V_ga C 143 (by decide) (by decide) F_11_20 k_RX11_35 dX11_readPerson_85 ?_
    refine V_sipush (v := 1536) C dX11_readPerson_88 (by decide) ?_
    refine V_iload_n C 1 dX11_readPerson_91 rfl rfl ?_
    refine V_iadd C dX11_readPerson_92 ?_
    refine V_iload_n C 3 dX11_readPerson_93 rfl rfl ?_
    obtain ⟨hi, h⟩ := h
    refine V_iast C 148 1900 (by decide) (by decide) hi dX11_readPerson_94 ?_
    refine V_topS (fun S29 eS29 => ?_)
    have h := h S29 eS29
    refine V_aload_n C 0 dX11_readPerson_95 rfl rfl ?_
    refine V_ga C 143 (by decide) (by decide) F_11_20 k_RX11_35 dX11_readPerson_96 ?_
    refine V_sipush (v := 1520) C dX11_readPerson_99 (by decide) ?_
    refine V_dup2_11 C dX11_readPerson_102 rfl rfl ?_
    obtain ⟨hi, h⟩ := h
    refine V_iald C 148 1900 (by decide) (by decide) hi dX11_readPerson_103 ?_
    refine V_iconst (v := 1) C dX11_readPerson_104 (by decide) ?_
    refine V_iadd C dX11_readPerson_105 ?_
    obtain ⟨hi, h⟩ := h
    refine V_iast C 148 1900 (by decide) (by decide) hi dX11_readPerson_106 ?_
    refine V_topS (fun S30 eS30 => ?_)
    have h := h S30 eS30
    exact V_vret C D dX11_readPerson_107 h
  · have h := h.2 c
    exact V_vret C D dX11_readPerson_72 h
set_option maxHeartbeats 4000000 in
set_option maxRecDepth 100000 in
theorem q_X11_readPerson_41 {X : vX} {G : vG}  {post : vSt → Prop} (C : v_Cx X G cX11_readPerson RX11 4 (v_rm 5 150)) (D : v_Rx X G (v_Qv G post) none)     : ∀ (S : vSt) (x1 : Int32) (s0 : Int32), p_X11_readPerson_41  post S x1 s0 → VJ X G S 41 [(0, .ref (G.1 143)), (1, .int x1)] [.int s0] := by
  intro S x1 s0 h
  refine V_istore_n (lv' := [(0, .ref (G.1 143)), (1, .int x1), (2, .int s0)]) C [1, 2, 0] dX11_readPerson_41 rfl (by decide) rfl ?_
  refine V_aload_n C 0 dX11_readPerson_42 rfl rfl ?_
  refine V_aload_n C 0 dX11_readPerson_43 rfl rfl ?_
  refine V_callVz (As := []) (rest := [.ref (G.1 143)]) C (c_X11_isSkill (v_l X) G  _ h) 143 11 (by decide) (by decide) (by decide) rfl KV_X11_isSkill k_RX11_166 rfl rfl rfl (Nat.le_of_ble_eq_true rfl) ⟨Nat.le_of_ble_eq_true rfl, Nat.le_of_ble_eq_true rfl⟩ dX11_readPerson_44 (fun r25 S24 h => ?_)
  refine V_callVz (As := [.int (v_b r25)]) (rest := []) C (c_X11_perhaps (v_l X) G  _ _ h) 143 11 (by decide) (by decide) (by decide) rfl KV_X11_perhaps k_RX11_241 rfl rfl rfl (Nat.le_of_ble_eq_true rfl) ⟨Nat.le_of_ble_eq_true rfl, Nat.le_of_ble_eq_true rfl⟩ dX11_readPerson_47 (fun r27 S26 h => ?_)
  refine V_ifb_eq (tgt := 63) C dX11_readPerson_50 (by decide) (fun c => ?_) (fun c => ?_)
  · have h := h.1 c
    refine V_iconst (v := 0) C dX11_readPerson_63 (by decide) ?_
    exact q_X11_readPerson_64 C D  _ _ _ _ h
  · have h := h.2 c
    refine V_aload_n C 0 dX11_readPerson_53 rfl rfl ?_
    refine V_iconst (v := 0) C dX11_readPerson_54 (by decide) ?_
    refine V_bipush (v := 16) C dX11_readPerson_55 (by decide) ?_
    refine V_callVi (As := [.int 0, .int 16]) (rest := []) C (c_X11_count (v_l X) G  _ _ _ h) 143 11 (by decide) (by decide) (by decide) rfl KV_X11_count k_RX11_217 rfl rfl rfl (Nat.le_of_ble_eq_true rfl) ⟨Nat.le_of_ble_eq_true rfl, Nat.le_of_ble_eq_true rfl⟩ dX11_readPerson_57 (fun r29 S28 h => ?_)
    refine V_goto (tgt := 64) C dX11_readPerson_60 (by decide) ?_
    exact q_X11_readPerson_64 C D  _ _ _ _ h
set_option maxHeartbeats 4000000 in
set_option maxRecDepth 100000 in
theorem q_X11_readPerson_22 {X : vX} {G : vG}  {post : vSt → Prop} (C : v_Cx X G cX11_readPerson RX11 4 (v_rm 5 150)) (D : v_Rx X G (v_Qv G post) none)     : ∀ (S : vSt) (x1 : Int32) (s0 : Bool), p_X11_readPerson_22  post S x1 s0 → VJ X G S 22 [(0, .ref (G.1 143)), (1, .int x1)] [.int (v_b s0), .ref (G.1 143)] := by
  intro S x1 s0 h
  refine V_callVz (As := [.int (v_b s0)]) (rest := []) C (c_X11_perhaps (v_l X) G  _ _ h) 143 11 (by decide) (by decide) (by decide) rfl KV_X11_perhaps k_RX11_241 rfl rfl rfl (Nat.le_of_ble_eq_true rfl) ⟨Nat.le_of_ble_eq_true rfl, Nat.le_of_ble_eq_true rfl⟩ dX11_readPerson_22 (fun r23 S22 h => ?_)
  refine V_ifb_eq (tgt := 39) C dX11_readPerson_25 (by decide) (fun c => ?_) (fun c => ?_)
  · have h := h.1 c
    refine V_bipush (v := 100) C dX11_readPerson_39 (by decide) ?_
    exact q_X11_readPerson_41 C D  _ _ _ h
  · have h := h.2 c
    refine V_aload_n C 0 dX11_readPerson_28 rfl rfl ?_
    refine V_iconst (v := 0) C dX11_readPerson_29 (by decide) ?_
    refine V_sipush (v := 9999) C dX11_readPerson_30 (by decide) ?_
    refine V_callVi (As := [.int 0, .int 9999]) (rest := []) C (c_X11_count (v_l X) G  _ _ _ h) 143 11 (by decide) (by decide) (by decide) rfl KV_X11_count k_RX11_217 rfl rfl rfl (Nat.le_of_ble_eq_true rfl) ⟨Nat.le_of_ble_eq_true rfl, Nat.le_of_ble_eq_true rfl⟩ dX11_readPerson_33 (fun r25 S24 h => ?_)
    refine V_goto (tgt := 41) C dX11_readPerson_36 (by decide) ?_
    exact q_X11_readPerson_41 C D  _ _ _ h
set_option maxHeartbeats 4000000 in
set_option maxRecDepth 100000 in
theorem c_X11_readPerson (l : Launch) (G : vG)    {S : vSt}  (post : vSt → Prop) (h : p_X11_readPerson   S  post) : Met l yX11_readPerson (v_ws yX11_readPerson cX11_readPerson 4 none) (v_rm 5 150) (v_Pc G [.ref (G.1 143)] S) (v_Qv G post) 0 0 (v_A G) := by
  refine v_start (by decide +kernel) (Nat.le_of_ble_eq_true rfl) (fun X hl C D => ?_)
  subst hl
  have C : v_Cx X G cX11_readPerson RX11 4 (v_rm 5 150) := C
  show VJ X G S 0 [(0, .ref (G.1 143))] []
  refine V_aload_n C 0 dX11_readPerson_0 rfl rfl ?_
  refine V_iconst (v := 0) C dX11_readPerson_1 (by decide) ?_
  refine V_bipush (v := 8) C dX11_readPerson_2 (by decide) ?_
  refine V_callVi (As := [.int 0, .int 8]) (rest := []) C (c_X11_readNew (v_l X) G  _ _ _ h) 143 11 (by decide) (by decide) (by decide) rfl KV_X11_readNew k_RX11_238 rfl rfl rfl (Nat.le_of_ble_eq_true rfl) ⟨Nat.le_of_ble_eq_true rfl, Nat.le_of_ble_eq_true rfl⟩ dX11_readPerson_4 (fun r19 S18 h => ?_)
  refine V_istore_n (lv' := [(0, .ref (G.1 143)), (1, .int r19)]) C [1, 0] dX11_readPerson_7 rfl (by decide) rfl ?_
  refine V_aload_n C 0 dX11_readPerson_8 rfl rfl ?_
  refine V_aload_n C 0 dX11_readPerson_9 rfl rfl ?_
  refine V_callVi (As := []) (rest := [.ref (G.1 143)]) C (c_X11_testWord (v_l X) G  _ h) 143 11 (by decide) (by decide) (by decide) rfl KV_X11_testWord k_RX11_188 rfl rfl rfl (Nat.le_of_ble_eq_true rfl) ⟨Nat.le_of_ble_eq_true rfl, Nat.le_of_ble_eq_true rfl⟩ dX11_readPerson_10 (fun r21 S20 h => ?_)
  refine V_iconst (v := 2) C dX11_readPerson_13 (by decide) ?_
  refine V_icmp_ne (tgt := 21) C dX11_readPerson_14 (by decide) (fun c => ?_) (fun c => ?_)
  · have h := h.1 c
    refine V_iconst (v := 0) C dX11_readPerson_21 (by decide) ?_
    exact q_X11_readPerson_22 C D  _ _ _ h
  · have h := h.2 c
    refine V_iconst (v := 1) C dX11_readPerson_17 (by decide) ?_
    refine V_goto (tgt := 22) C dX11_readPerson_18 (by decide) ?_
    exact q_X11_readPerson_22 C D  _ _ _ h
/-! HalfAccuserModel.readDeed()V -/
theorem dX11_readDeed_0 : decode cX11_readDeed 0 = .ok ((.aload_n 0), 1) := by decide +kernel
theorem dX11_readDeed_1 : decode cX11_readDeed 1 = .ok ((.iconst 1), 1) := by decide +kernel
theorem dX11_readDeed_2 : decode cX11_readDeed 2 = .ok ((.bipush 10), 2) := by decide +kernel
theorem dX11_readDeed_4 : decode cX11_readDeed 4 = .ok ((.invokevirtual 238), 3) := by decide +kernel
theorem dX11_readDeed_7 : decode cX11_readDeed 7 = .ok ((.istore_n 1), 1) := by decide +kernel
theorem dX11_readDeed_8 : decode cX11_readDeed 8 = .ok ((.aload_n 0), 1) := by decide +kernel
theorem dX11_readDeed_9 : decode cX11_readDeed 9 = .ok ((.aload_n 0), 1) := by decide +kernel
theorem dX11_readDeed_10 : decode cX11_readDeed 10 = .ok ((.invokevirtual 172), 3) := by decide +kernel
theorem dX11_readDeed_13 : decode cX11_readDeed 13 = .ok ((.invokevirtual 213), 3) := by decide +kernel
theorem dX11_readDeed_16 : decode cX11_readDeed 16 = .ok ((.aload_n 0), 1) := by decide +kernel
theorem dX11_readDeed_17 : decode cX11_readDeed 17 = .ok ((.getfield 35), 3) := by decide +kernel
theorem dX11_readDeed_20 : decode cX11_readDeed 20 = .ok ((.sipush 1568), 3) := by decide +kernel
theorem dX11_readDeed_23 : decode cX11_readDeed 23 = .ok ((.iload_n 1), 1) := by decide +kernel
theorem dX11_readDeed_24 : decode cX11_readDeed 24 = .ok (.iadd, 1) := by decide +kernel
theorem dX11_readDeed_25 : decode cX11_readDeed 25 = .ok ((.aload_n 0), 1) := by decide +kernel
theorem dX11_readDeed_26 : decode cX11_readDeed 26 = .ok ((.iconst 4), 1) := by decide +kernel
theorem dX11_readDeed_27 : decode cX11_readDeed 27 = .ok ((.iconst 0), 1) := by decide +kernel
theorem dX11_readDeed_28 : decode cX11_readDeed 28 = .ok ((.invokevirtual 245), 3) := by decide +kernel
theorem dX11_readDeed_31 : decode cX11_readDeed 31 = .ok (.iastore, 1) := by decide +kernel
theorem dX11_readDeed_32 : decode cX11_readDeed 32 = .ok ((.aload_n 0), 1) := by decide +kernel
theorem dX11_readDeed_33 : decode cX11_readDeed 33 = .ok ((.getfield 35), 3) := by decide +kernel
theorem dX11_readDeed_36 : decode cX11_readDeed 36 = .ok ((.sipush 1578), 3) := by decide +kernel
theorem dX11_readDeed_39 : decode cX11_readDeed 39 = .ok ((.iload_n 1), 1) := by decide +kernel
theorem dX11_readDeed_40 : decode cX11_readDeed 40 = .ok (.iadd, 1) := by decide +kernel
theorem dX11_readDeed_41 : decode cX11_readDeed 41 = .ok ((.aload_n 0), 1) := by decide +kernel
theorem dX11_readDeed_42 : decode cX11_readDeed 42 = .ok ((.aload_n 0), 1) := by decide +kernel
theorem dX11_readDeed_43 : decode cX11_readDeed 43 = .ok ((.invokevirtual 175), 3) := by decide +kernel
theorem dX11_readDeed_46 : decode cX11_readDeed 46 = .ok ((.iconst 1), 1) := by decide +kernel
theorem dX11_readDeed_47 : decode cX11_readDeed 47 = .ok ((.sipush 999), 3) := by decide +kernel
theorem dX11_readDeed_50 : decode cX11_readDeed 50 = .ok ((.invokevirtual 248), 3) := by decide +kernel
theorem dX11_readDeed_53 : decode cX11_readDeed 53 = .ok (.iastore, 1) := by decide +kernel
theorem dX11_readDeed_54 : decode cX11_readDeed 54 = .ok ((.aload_n 0), 1) := by decide +kernel
theorem dX11_readDeed_55 : decode cX11_readDeed 55 = .ok ((.getfield 35), 3) := by decide +kernel
theorem dX11_readDeed_58 : decode cX11_readDeed 58 = .ok ((.sipush 1588), 3) := by decide +kernel
theorem dX11_readDeed_61 : decode cX11_readDeed 61 = .ok ((.iload_n 1), 1) := by decide +kernel
theorem dX11_readDeed_62 : decode cX11_readDeed 62 = .ok (.iadd, 1) := by decide +kernel
theorem dX11_readDeed_63 : decode cX11_readDeed 63 = .ok ((.aload_n 0), 1) := by decide +kernel
theorem dX11_readDeed_64 : decode cX11_readDeed 64 = .ok ((.aload_n 0), 1) := by decide +kernel
theorem dX11_readDeed_65 : decode cX11_readDeed 65 = .ok ((.invokevirtual 178), 3) := by decide +kernel
theorem dX11_readDeed_68 : decode cX11_readDeed 68 = .ok ((.iconst 0), 1) := by decide +kernel
theorem dX11_readDeed_69 : decode cX11_readDeed 69 = .ok ((.bipush 16), 2) := by decide +kernel
theorem dX11_readDeed_71 : decode cX11_readDeed 71 = .ok ((.invokevirtual 248), 3) := by decide +kernel
theorem dX11_readDeed_74 : decode cX11_readDeed 74 = .ok (.iastore, 1) := by decide +kernel
theorem dX11_readDeed_75 : decode cX11_readDeed 75 = .ok ((.aload_n 0), 1) := by decide +kernel
theorem dX11_readDeed_76 : decode cX11_readDeed 76 = .ok ((.getfield 197), 3) := by decide +kernel
theorem dX11_readDeed_79 : decode cX11_readDeed 79 = .ok ((.ifCond .ne 15), 3) := by decide +kernel
theorem dX11_readDeed_82 : decode cX11_readDeed 82 = .ok ((.aload_n 0), 1) := by decide +kernel
theorem dX11_readDeed_83 : decode cX11_readDeed 83 = .ok ((.getfield 35), 3) := by decide +kernel
theorem dX11_readDeed_86 : decode cX11_readDeed 86 = .ok ((.sipush 1521), 3) := by decide +kernel
theorem dX11_readDeed_89 : decode cX11_readDeed 89 = .ok (.dup2, 1) := by decide +kernel
theorem dX11_readDeed_90 : decode cX11_readDeed 90 = .ok (.iaload, 1) := by decide +kernel
theorem dX11_readDeed_91 : decode cX11_readDeed 91 = .ok ((.iconst 1), 1) := by decide +kernel
theorem dX11_readDeed_92 : decode cX11_readDeed 92 = .ok (.iadd, 1) := by decide +kernel
theorem dX11_readDeed_93 : decode cX11_readDeed 93 = .ok (.iastore, 1) := by decide +kernel
theorem dX11_readDeed_94 : decode cX11_readDeed 94 = .ok (.return_, 1) := by decide +kernel
def p_X11_readDeed   (S : vSt)  (post : vSt → Prop) : Prop := p_X11_readNew  S 1 10 (fun r21 S20 => p_X11_isOf  S20  (fun r23 S22 => p_X11_must  S22 r23 (fun S24 => p_X11_readTold  S24 4 0 (fun r26 S25 => (vp_in (1568 + r21) 1900 ∧ ∀ S27, S27 = v_si S25 148 (Int32.toNatClampNeg (1568 + r21)) r26 → p_X11_isFine  S27  (fun r29 S28 => p_X11_behindWord  S28 r29 1 999 (fun r31 S30 => (vp_in (1578 + r21) 1900 ∧ ∀ S32, S32 = v_si S30 148 (Int32.toNatClampNeg (1578 + r21)) r31 → p_X11_isOdds  S32  (fun r34 S33 => p_X11_behindWord  S33 r34 0 16 (fun r36 S35 => (vp_in (1588 + r21) 1900 ∧ ∀ S37, S37 = v_si S35 148 (Int32.toNatClampNeg (1588 + r21)) r36 → ((¬ (S37.1 143 12) = 0 → post S37) ∧ ((S37.1 143 12) = 0 → (vp_in 1521 1900 ∧ (vp_in 1521 1900 ∧ ∀ S38, S38 = v_si S37 148 (Int32.toNatClampNeg 1521) ((S37.1 148 (Int32.toNatClampNeg 1521)) + 1) → post S38)))))))))))))))
set_option maxHeartbeats 4000000 in
set_option maxRecDepth 100000 in
theorem c_X11_readDeed (l : Launch) (G : vG)    {S : vSt}  (post : vSt → Prop) (h : p_X11_readDeed   S  post) : Met l yX11_readDeed (v_ws yX11_readDeed cX11_readDeed 2 none) (v_rm 5 150) (v_Pc G [.ref (G.1 143)] S) (v_Qv G post) 0 0 (v_A G) := by
  refine v_start (by decide +kernel) (Nat.le_of_ble_eq_true rfl) (fun X hl C D => ?_)
  subst hl
  have C : v_Cx X G cX11_readDeed RX11 2 (v_rm 5 150) := C
  show VJ X G S 0 [(0, .ref (G.1 143))] []
  refine V_aload_n C 0 dX11_readDeed_0 rfl rfl ?_
  refine V_iconst (v := 1) C dX11_readDeed_1 (by decide) ?_
  refine V_bipush (v := 10) C dX11_readDeed_2 (by decide) ?_
  refine V_callVi (As := [.int 1, .int 10]) (rest := []) C (c_X11_readNew (v_l X) G  _ _ _ h) 143 11 (by decide) (by decide) (by decide) rfl KV_X11_readNew k_RX11_238 rfl rfl rfl (Nat.le_of_ble_eq_true rfl) ⟨Nat.le_of_ble_eq_true rfl, Nat.le_of_ble_eq_true rfl⟩ dX11_readDeed_4 (fun r21 S20 h => ?_)
  refine V_istore_n (lv' := [(0, .ref (G.1 143)), (1, .int r21)]) C [1, 0] dX11_readDeed_7 rfl (by decide) rfl ?_
  refine V_aload_n C 0 dX11_readDeed_8 rfl rfl ?_
  refine V_aload_n C 0 dX11_readDeed_9 rfl rfl ?_
  refine V_callVz (As := []) (rest := [.ref (G.1 143)]) C (c_X11_isOf (v_l X) G  _ h) 143 11 (by decide) (by decide) (by decide) rfl KV_X11_isOf k_RX11_172 rfl rfl rfl (Nat.le_of_ble_eq_true rfl) ⟨Nat.le_of_ble_eq_true rfl, Nat.le_of_ble_eq_true rfl⟩ dX11_readDeed_10 (fun r23 S22 h => ?_)
  refine V_callVv (As := [.int (v_b r23)]) (rest := []) C (c_X11_must (v_l X) G  _ _ h) 143 11 (by decide) (by decide) (by decide) rfl KV_X11_must k_RX11_213 rfl rfl rfl (Nat.le_of_ble_eq_true rfl) ⟨Nat.le_of_ble_eq_true rfl, Nat.le_of_ble_eq_true rfl⟩ dX11_readDeed_13 (fun S24 h => ?_)
  refine V_aload_n C 0 dX11_readDeed_16 rfl rfl ?_
  refine V_ga C 143 (by decide) (by decide) F_11_20 k_RX11_35 dX11_readDeed_17 ?_
  refine V_sipush (v := 1568) C dX11_readDeed_20 (by decide) ?_
  refine V_iload_n C 1 dX11_readDeed_23 rfl rfl ?_
  refine V_iadd C dX11_readDeed_24 ?_
  refine V_aload_n C 0 dX11_readDeed_25 rfl rfl ?_
  refine V_iconst (v := 4) C dX11_readDeed_26 (by decide) ?_
  refine V_iconst (v := 0) C dX11_readDeed_27 (by decide) ?_
  refine V_callVi (As := [.int 4, .int 0]) (rest := [.int (1568 + r21), .ref (G.1 148)]) C (c_X11_readTold (v_l X) G  _ _ _ h) 143 11 (by decide) (by decide) (by decide) rfl KV_X11_readTold k_RX11_245 rfl rfl rfl (Nat.le_of_ble_eq_true rfl) ⟨Nat.le_of_ble_eq_true rfl, Nat.le_of_ble_eq_true rfl⟩ dX11_readDeed_28 (fun r26 S25 h => ?_)
  obtain ⟨hi, h⟩ := h
  refine V_iast C 148 1900 (by decide) (by decide) hi dX11_readDeed_31 ?_
  refine V_topS (fun S27 eS27 => ?_)
  have h := h S27 eS27
  refine V_aload_n C 0 dX11_readDeed_32 rfl rfl ?_
  refine V_ga C 143 (by decide) (by decide) F_11_20 k_RX11_35 dX11_readDeed_33 ?_
  refine V_sipush (v := 1578) C dX11_readDeed_36 (by decide) ?_
  refine V_iload_n C 1 dX11_readDeed_39 rfl rfl ?_
  refine V_iadd C dX11_readDeed_40 ?_
  refine V_aload_n C 0 dX11_readDeed_41 rfl rfl ?_
  refine V_aload_n C 0 dX11_readDeed_42 rfl rfl ?_
  refine V_callVz (As := []) (rest := [.ref (G.1 143), .int (1578 + r21), .ref (G.1 148)]) C (c_X11_isFine (v_l X) G  _ h) 143 11 (by decide) (by decide) (by decide) rfl KV_X11_isFine k_RX11_175 rfl rfl rfl (Nat.le_of_ble_eq_true rfl) ⟨Nat.le_of_ble_eq_true rfl, Nat.le_of_ble_eq_true rfl⟩ dX11_readDeed_43 (fun r29 S28 h => ?_)
  refine V_iconst (v := 1) C dX11_readDeed_46 (by decide) ?_
  refine V_sipush (v := 999) C dX11_readDeed_47 (by decide) ?_
  refine V_callVi (As := [.int (v_b r29), .int 1, .int 999]) (rest := [.int (1578 + r21), .ref (G.1 148)]) C (c_X11_behindWord (v_l X) G  _ _ _ _ h) 143 11 (by decide) (by decide) (by decide) rfl KV_X11_behindWord k_RX11_248 rfl rfl rfl (Nat.le_of_ble_eq_true rfl) ⟨Nat.le_of_ble_eq_true rfl, Nat.le_of_ble_eq_true rfl⟩ dX11_readDeed_50 (fun r31 S30 h => ?_)
  obtain ⟨hi, h⟩ := h
  refine V_iast C 148 1900 (by decide) (by decide) hi dX11_readDeed_53 ?_
  refine V_topS (fun S32 eS32 => ?_)
  have h := h S32 eS32
  refine V_aload_n C 0 dX11_readDeed_54 rfl rfl ?_
  refine V_ga C 143 (by decide) (by decide) F_11_20 k_RX11_35 dX11_readDeed_55 ?_
  refine V_sipush (v := 1588) C dX11_readDeed_58 (by decide) ?_
  refine V_iload_n C 1 dX11_readDeed_61 rfl rfl ?_
  refine V_iadd C dX11_readDeed_62 ?_
  refine V_aload_n C 0 dX11_readDeed_63 rfl rfl ?_
  refine V_aload_n C 0 dX11_readDeed_64 rfl rfl ?_
  refine V_callVz (As := []) (rest := [.ref (G.1 143), .int (1588 + r21), .ref (G.1 148)]) C (c_X11_isOdds (v_l X) G  _ h) 143 11 (by decide) (by decide) (by decide) rfl KV_X11_isOdds k_RX11_178 rfl rfl rfl (Nat.le_of_ble_eq_true rfl) ⟨Nat.le_of_ble_eq_true rfl, Nat.le_of_ble_eq_true rfl⟩ dX11_readDeed_65 (fun r34 S33 h => ?_)
  refine V_iconst (v := 0) C dX11_readDeed_68 (by decide) ?_
  refine V_bipush (v := 16) C dX11_readDeed_69 (by decide) ?_
  refine V_callVi (As := [.int (v_b r34), .int 0, .int 16]) (rest := [.int (1588 + r21), .ref (G.1 148)]) C (c_X11_behindWord (v_l X) G  _ _ _ _ h) 143 11 (by decide) (by decide) (by decide) rfl KV_X11_behindWord k_RX11_248 rfl rfl rfl (Nat.le_of_ble_eq_true rfl) ⟨Nat.le_of_ble_eq_true rfl, Nat.le_of_ble_eq_true rfl⟩ dX11_readDeed_71 (fun r36 S35 h => ?_)
  obtain ⟨hi, h⟩ := h
  refine V_iast C 148 1900 (by decide) (by decide) hi dX11_readDeed_74 ?_
  refine V_topS (fun S37 eS37 => ?_)
  have h := h S37 eS37
  refine V_aload_n C 0 dX11_readDeed_75 rfl rfl ?_
  refine V_gi C 143 (by decide) (by decide) F_11_12 k_RX11_197 dX11_readDeed_76 ?_
  refine V_if_ne (tgt := 94) C dX11_readDeed_79 (by decide) (fun c => ?_) (fun c => ?_)
  · have h := h.1 c
    exact V_vret C D dX11_readDeed_94 h
  · have h := h.2 c
    refine V_aload_n C 0 dX11_readDeed_82 rfl rfl ?_
    refine V_ga C 143 (by decide) (by decide) F_11_20 k_RX11_35 dX11_readDeed_83 ?_
    refine V_sipush (v := 1521) C dX11_readDeed_86 (by decide) ?_
    refine V_dup2_11 C dX11_readDeed_89 rfl rfl ?_
    obtain ⟨hi, h⟩ := h
    refine V_iald C 148 1900 (by decide) (by decide) hi dX11_readDeed_90 ?_
    refine V_iconst (v := 1) C dX11_readDeed_91 (by decide) ?_
    refine V_iadd C dX11_readDeed_92 ?_
    obtain ⟨hi, h⟩ := h
    refine V_iast C 148 1900 (by decide) (by decide) hi dX11_readDeed_93 ?_
    refine V_topS (fun S38 eS38 => ?_)
    have h := h S38 eS38
    exact V_vret C D dX11_readDeed_94 h
/-! HalfAccuserModel.readPart()V -/
theorem dX11_readPart_0 : decode cX11_readPart 0 = .ok ((.aload_n 0), 1) := by decide +kernel
theorem dX11_readPart_1 : decode cX11_readPart 1 = .ok ((.invokevirtual 150), 3) := by decide +kernel
theorem dX11_readPart_4 : decode cX11_readPart 4 = .ok ((.ifCond .eq 14), 3) := by decide +kernel
theorem dX11_readPart_7 : decode cX11_readPart 7 = .ok ((.aload_n 0), 1) := by decide +kernel
theorem dX11_readPart_8 : decode cX11_readPart 8 = .ok ((.iconst 0), 1) := by decide +kernel
theorem dX11_readPart_9 : decode cX11_readPart 9 = .ok ((.iconst 1), 1) := by decide +kernel
theorem dX11_readPart_10 : decode cX11_readPart 10 = .ok ((.bipush 9), 2) := by decide +kernel
theorem dX11_readPart_12 : decode cX11_readPart 12 = .ok ((.invokevirtual 252), 3) := by decide +kernel
theorem dX11_readPart_15 : decode cX11_readPart 15 = .ok ((.goto 90), 3) := by decide +kernel
theorem dX11_readPart_18 : decode cX11_readPart 18 = .ok ((.aload_n 0), 1) := by decide +kernel
theorem dX11_readPart_19 : decode cX11_readPart 19 = .ok ((.invokevirtual 154), 3) := by decide +kernel
theorem dX11_readPart_22 : decode cX11_readPart 22 = .ok ((.ifCond .eq 14), 3) := by decide +kernel
theorem dX11_readPart_25 : decode cX11_readPart 25 = .ok ((.aload_n 0), 1) := by decide +kernel
theorem dX11_readPart_26 : decode cX11_readPart 26 = .ok ((.iconst 1), 1) := by decide +kernel
theorem dX11_readPart_27 : decode cX11_readPart 27 = .ok ((.iconst 0), 1) := by decide +kernel
theorem dX11_readPart_28 : decode cX11_readPart 28 = .ok ((.bipush 9), 2) := by decide +kernel
theorem dX11_readPart_30 : decode cX11_readPart 30 = .ok ((.invokevirtual 252), 3) := by decide +kernel
theorem dX11_readPart_33 : decode cX11_readPart 33 = .ok ((.goto 72), 3) := by decide +kernel
theorem dX11_readPart_36 : decode cX11_readPart 36 = .ok ((.aload_n 0), 1) := by decide +kernel
theorem dX11_readPart_37 : decode cX11_readPart 37 = .ok ((.invokevirtual 157), 3) := by decide +kernel
theorem dX11_readPart_40 : decode cX11_readPart 40 = .ok ((.ifCond .eq 15), 3) := by decide +kernel
theorem dX11_readPart_43 : decode cX11_readPart 43 = .ok ((.aload_n 0), 1) := by decide +kernel
theorem dX11_readPart_44 : decode cX11_readPart 44 = .ok ((.iconst 2), 1) := by decide +kernel
theorem dX11_readPart_45 : decode cX11_readPart 45 = .ok ((.iconst 0), 1) := by decide +kernel
theorem dX11_readPart_46 : decode cX11_readPart 46 = .ok ((.sipush 999), 3) := by decide +kernel
theorem dX11_readPart_49 : decode cX11_readPart 49 = .ok ((.invokevirtual 252), 3) := by decide +kernel
theorem dX11_readPart_52 : decode cX11_readPart 52 = .ok ((.goto 53), 3) := by decide +kernel
theorem dX11_readPart_55 : decode cX11_readPart 55 = .ok ((.aload_n 0), 1) := by decide +kernel
theorem dX11_readPart_56 : decode cX11_readPart 56 = .ok ((.invokevirtual 160), 3) := by decide +kernel
theorem dX11_readPart_59 : decode cX11_readPart 59 = .ok ((.ifCond .eq 14), 3) := by decide +kernel
theorem dX11_readPart_62 : decode cX11_readPart 62 = .ok ((.aload_n 0), 1) := by decide +kernel
theorem dX11_readPart_63 : decode cX11_readPart 63 = .ok ((.iconst 3), 1) := by decide +kernel
theorem dX11_readPart_64 : decode cX11_readPart 64 = .ok ((.iconst 0), 1) := by decide +kernel
theorem dX11_readPart_65 : decode cX11_readPart 65 = .ok ((.bipush 16), 2) := by decide +kernel
theorem dX11_readPart_67 : decode cX11_readPart 67 = .ok ((.invokevirtual 252), 3) := by decide +kernel
theorem dX11_readPart_70 : decode cX11_readPart 70 = .ok ((.goto 35), 3) := by decide +kernel
theorem dX11_readPart_73 : decode cX11_readPart 73 = .ok ((.aload_n 0), 1) := by decide +kernel
theorem dX11_readPart_74 : decode cX11_readPart 74 = .ok ((.invokevirtual 163), 3) := by decide +kernel
theorem dX11_readPart_77 : decode cX11_readPart 77 = .ok ((.ifCond .eq 10), 3) := by decide +kernel
theorem dX11_readPart_80 : decode cX11_readPart 80 = .ok ((.aload_n 0), 1) := by decide +kernel
theorem dX11_readPart_81 : decode cX11_readPart 81 = .ok ((.invokevirtual 256), 3) := by decide +kernel
theorem dX11_readPart_84 : decode cX11_readPart 84 = .ok ((.goto 21), 3) := by decide +kernel
theorem dX11_readPart_87 : decode cX11_readPart 87 = .ok ((.aload_n 0), 1) := by decide +kernel
theorem dX11_readPart_88 : decode cX11_readPart 88 = .ok ((.invokevirtual 169), 3) := by decide +kernel
theorem dX11_readPart_91 : decode cX11_readPart 91 = .ok ((.ifCond .eq 10), 3) := by decide +kernel
theorem dX11_readPart_94 : decode cX11_readPart 94 = .ok ((.aload_n 0), 1) := by decide +kernel
theorem dX11_readPart_95 : decode cX11_readPart 95 = .ok ((.invokevirtual 259), 3) := by decide +kernel
theorem dX11_readPart_98 : decode cX11_readPart 98 = .ok ((.goto 7), 3) := by decide +kernel
theorem dX11_readPart_101 : decode cX11_readPart 101 = .ok ((.aload_n 0), 1) := by decide +kernel
theorem dX11_readPart_102 : decode cX11_readPart 102 = .ok ((.invokevirtual 210), 3) := by decide +kernel
theorem dX11_readPart_105 : decode cX11_readPart 105 = .ok (.return_, 1) := by decide +kernel
def p_X11_readPart   (S : vSt)  (post : vSt → Prop) : Prop := p_X11_isJurors  S  (fun r21 S20 => ((r21 = false → p_X11_isFifth  S20  (fun r23 S22 => ((r23 = false → p_X11_isPenalty  S22  (fun r25 S24 => ((r25 = false → p_X11_isShare  S24  (fun r27 S26 => ((r27 = false → p_X11_isPerson  S26  (fun r29 S28 => ((r29 = false → p_X11_isDeed  S28  (fun r31 S30 => ((r31 = false → p_X11_amiss  S30  (fun S32 => post S32)) ∧ (r31 = true → p_X11_readDeed  S30  (fun S33 => post S33))))) ∧ (r29 = true → p_X11_readPerson  S28  (fun S34 => post S34))))) ∧ (r27 = true → p_X11_readOnce  S26 3 0 16 (fun S35 => post S35))))) ∧ (r25 = true → p_X11_readOnce  S24 2 0 999 (fun S36 => post S36))))) ∧ (r23 = true → p_X11_readOnce  S22 1 0 9 (fun S37 => post S37))))) ∧ (r21 = true → p_X11_readOnce  S20 0 1 9 (fun S38 => post S38))))
set_option maxHeartbeats 4000000 in
set_option maxRecDepth 100000 in
theorem c_X11_readPart (l : Launch) (G : vG)    {S : vSt}  (post : vSt → Prop) (h : p_X11_readPart   S  post) : Met l yX11_readPart (v_ws yX11_readPart cX11_readPart 1 none) (v_rm 6 173) (v_Pc G [.ref (G.1 143)] S) (v_Qv G post) 0 0 (v_A G) := by
  refine v_start (by decide +kernel) (Nat.le_of_ble_eq_true rfl) (fun X hl C D => ?_)
  subst hl
  have C : v_Cx X G cX11_readPart RX11 1 (v_rm 6 173) := C
  show VJ X G S 0 [(0, .ref (G.1 143))] []
  refine V_aload_n C 0 dX11_readPart_0 rfl rfl ?_
  refine V_callVz (As := []) (rest := []) C (c_X11_isJurors (v_l X) G  _ h) 143 11 (by decide) (by decide) (by decide) rfl KV_X11_isJurors k_RX11_150 rfl rfl rfl (Nat.le_of_ble_eq_true rfl) ⟨Nat.le_of_ble_eq_true rfl, Nat.le_of_ble_eq_true rfl⟩ dX11_readPart_1 (fun r21 S20 h => ?_)
  refine V_ifb_eq (tgt := 18) C dX11_readPart_4 (by decide) (fun c => ?_) (fun c => ?_)
  · have h := h.1 c
    refine V_aload_n C 0 dX11_readPart_18 rfl rfl ?_
    refine V_callVz (As := []) (rest := []) C (c_X11_isFifth (v_l X) G  _ h) 143 11 (by decide) (by decide) (by decide) rfl KV_X11_isFifth k_RX11_154 rfl rfl rfl (Nat.le_of_ble_eq_true rfl) ⟨Nat.le_of_ble_eq_true rfl, Nat.le_of_ble_eq_true rfl⟩ dX11_readPart_19 (fun r23 S22 h => ?_)
    refine V_ifb_eq (tgt := 36) C dX11_readPart_22 (by decide) (fun c => ?_) (fun c => ?_)
    · have h := h.1 c
      refine V_aload_n C 0 dX11_readPart_36 rfl rfl ?_
      refine V_callVz (As := []) (rest := []) C (c_X11_isPenalty (v_l X) G  _ h) 143 11 (by decide) (by decide) (by decide) rfl KV_X11_isPenalty k_RX11_157 rfl rfl rfl (Nat.le_of_ble_eq_true rfl) ⟨Nat.le_of_ble_eq_true rfl, Nat.le_of_ble_eq_true rfl⟩ dX11_readPart_37 (fun r25 S24 h => ?_)
      refine V_ifb_eq (tgt := 55) C dX11_readPart_40 (by decide) (fun c => ?_) (fun c => ?_)
      · have h := h.1 c
        refine V_aload_n C 0 dX11_readPart_55 rfl rfl ?_
        refine V_callVz (As := []) (rest := []) C (c_X11_isShare (v_l X) G  _ h) 143 11 (by decide) (by decide) (by decide) rfl KV_X11_isShare k_RX11_160 rfl rfl rfl (Nat.le_of_ble_eq_true rfl) ⟨Nat.le_of_ble_eq_true rfl, Nat.le_of_ble_eq_true rfl⟩ dX11_readPart_56 (fun r27 S26 h => ?_)
        refine V_ifb_eq (tgt := 73) C dX11_readPart_59 (by decide) (fun c => ?_) (fun c => ?_)
        · have h := h.1 c
          refine V_aload_n C 0 dX11_readPart_73 rfl rfl ?_
          refine V_callVz (As := []) (rest := []) C (c_X11_isPerson (v_l X) G  _ h) 143 11 (by decide) (by decide) (by decide) rfl KV_X11_isPerson k_RX11_163 rfl rfl rfl (Nat.le_of_ble_eq_true rfl) ⟨Nat.le_of_ble_eq_true rfl, Nat.le_of_ble_eq_true rfl⟩ dX11_readPart_74 (fun r29 S28 h => ?_)
          refine V_ifb_eq (tgt := 87) C dX11_readPart_77 (by decide) (fun c => ?_) (fun c => ?_)
          · have h := h.1 c
            refine V_aload_n C 0 dX11_readPart_87 rfl rfl ?_
            refine V_callVz (As := []) (rest := []) C (c_X11_isDeed (v_l X) G  _ h) 143 11 (by decide) (by decide) (by decide) rfl KV_X11_isDeed k_RX11_169 rfl rfl rfl (Nat.le_of_ble_eq_true rfl) ⟨Nat.le_of_ble_eq_true rfl, Nat.le_of_ble_eq_true rfl⟩ dX11_readPart_88 (fun r31 S30 h => ?_)
            refine V_ifb_eq (tgt := 101) C dX11_readPart_91 (by decide) (fun c => ?_) (fun c => ?_)
            · have h := h.1 c
              refine V_aload_n C 0 dX11_readPart_101 rfl rfl ?_
              refine V_callVv (As := []) (rest := []) C (c_X11_amiss (v_l X) G  _ h) 143 11 (by decide) (by decide) (by decide) rfl KV_X11_amiss k_RX11_210 rfl rfl rfl (Nat.le_of_ble_eq_true rfl) ⟨Nat.le_of_ble_eq_true rfl, Nat.le_of_ble_eq_true rfl⟩ dX11_readPart_102 (fun S32 h => ?_)
              exact V_vret C D dX11_readPart_105 h
            · have h := h.2 c
              refine V_aload_n C 0 dX11_readPart_94 rfl rfl ?_
              refine V_callVv (As := []) (rest := []) C (c_X11_readDeed (v_l X) G  _ h) 143 11 (by decide) (by decide) (by decide) rfl KV_X11_readDeed k_RX11_259 rfl rfl rfl (Nat.le_of_ble_eq_true rfl) ⟨Nat.le_of_ble_eq_true rfl, Nat.le_of_ble_eq_true rfl⟩ dX11_readPart_95 (fun S33 h => ?_)
              refine V_goto (tgt := 105) C dX11_readPart_98 (by decide) ?_
              exact V_vret C D dX11_readPart_105 h
          · have h := h.2 c
            refine V_aload_n C 0 dX11_readPart_80 rfl rfl ?_
            refine V_callVv (As := []) (rest := []) C (c_X11_readPerson (v_l X) G  _ h) 143 11 (by decide) (by decide) (by decide) rfl KV_X11_readPerson k_RX11_256 rfl rfl rfl (Nat.le_of_ble_eq_true rfl) ⟨Nat.le_of_ble_eq_true rfl, Nat.le_of_ble_eq_true rfl⟩ dX11_readPart_81 (fun S34 h => ?_)
            refine V_goto (tgt := 105) C dX11_readPart_84 (by decide) ?_
            exact V_vret C D dX11_readPart_105 h
        · have h := h.2 c
          refine V_aload_n C 0 dX11_readPart_62 rfl rfl ?_
          refine V_iconst (v := 3) C dX11_readPart_63 (by decide) ?_
          refine V_iconst (v := 0) C dX11_readPart_64 (by decide) ?_
          refine V_bipush (v := 16) C dX11_readPart_65 (by decide) ?_
          refine V_callVv (As := [.int 3, .int 0, .int 16]) (rest := []) C (c_X11_readOnce (v_l X) G  _ _ _ _ h) 143 11 (by decide) (by decide) (by decide) rfl KV_X11_readOnce k_RX11_252 rfl rfl rfl (Nat.le_of_ble_eq_true rfl) ⟨Nat.le_of_ble_eq_true rfl, Nat.le_of_ble_eq_true rfl⟩ dX11_readPart_67 (fun S35 h => ?_)
          refine V_goto (tgt := 105) C dX11_readPart_70 (by decide) ?_
          exact V_vret C D dX11_readPart_105 h
      · have h := h.2 c
        refine V_aload_n C 0 dX11_readPart_43 rfl rfl ?_
        refine V_iconst (v := 2) C dX11_readPart_44 (by decide) ?_
        refine V_iconst (v := 0) C dX11_readPart_45 (by decide) ?_
        refine V_sipush (v := 999) C dX11_readPart_46 (by decide) ?_
        refine V_callVv (As := [.int 2, .int 0, .int 999]) (rest := []) C (c_X11_readOnce (v_l X) G  _ _ _ _ h) 143 11 (by decide) (by decide) (by decide) rfl KV_X11_readOnce k_RX11_252 rfl rfl rfl (Nat.le_of_ble_eq_true rfl) ⟨Nat.le_of_ble_eq_true rfl, Nat.le_of_ble_eq_true rfl⟩ dX11_readPart_49 (fun S36 h => ?_)
        refine V_goto (tgt := 105) C dX11_readPart_52 (by decide) ?_
        exact V_vret C D dX11_readPart_105 h
    · have h := h.2 c
      refine V_aload_n C 0 dX11_readPart_25 rfl rfl ?_
      refine V_iconst (v := 1) C dX11_readPart_26 (by decide) ?_
      refine V_iconst (v := 0) C dX11_readPart_27 (by decide) ?_
      refine V_bipush (v := 9) C dX11_readPart_28 (by decide) ?_
      refine V_callVv (As := [.int 1, .int 0, .int 9]) (rest := []) C (c_X11_readOnce (v_l X) G  _ _ _ _ h) 143 11 (by decide) (by decide) (by decide) rfl KV_X11_readOnce k_RX11_252 rfl rfl rfl (Nat.le_of_ble_eq_true rfl) ⟨Nat.le_of_ble_eq_true rfl, Nat.le_of_ble_eq_true rfl⟩ dX11_readPart_30 (fun S37 h => ?_)
      refine V_goto (tgt := 105) C dX11_readPart_33 (by decide) ?_
      exact V_vret C D dX11_readPart_105 h
  · have h := h.2 c
    refine V_aload_n C 0 dX11_readPart_7 rfl rfl ?_
    refine V_iconst (v := 0) C dX11_readPart_8 (by decide) ?_
    refine V_iconst (v := 1) C dX11_readPart_9 (by decide) ?_
    refine V_bipush (v := 9) C dX11_readPart_10 (by decide) ?_
    refine V_callVv (As := [.int 0, .int 1, .int 9]) (rest := []) C (c_X11_readOnce (v_l X) G  _ _ _ _ h) 143 11 (by decide) (by decide) (by decide) rfl KV_X11_readOnce k_RX11_252 rfl rfl rfl (Nat.le_of_ble_eq_true rfl) ⟨Nat.le_of_ble_eq_true rfl, Nat.le_of_ble_eq_true rfl⟩ dX11_readPart_12 (fun S38 h => ?_)
    refine V_goto (tgt := 105) C dX11_readPart_15 (by decide) ?_
    exact V_vret C D dX11_readPart_105 h
/-! HalfAccuserModel.copy(II)V -/
theorem dX11_copy_0 : decode cX11_copy 0 = .ok ((.iconst 0), 1) := by decide +kernel
theorem dX11_copy_1 : decode cX11_copy 1 = .ok ((.istore_n 3), 1) := by decide +kernel
theorem dX11_copy_2 : decode cX11_copy 2 = .ok ((.iload_n 3), 1) := by decide +kernel
theorem dX11_copy_3 : decode cX11_copy 3 = .ok ((.sipush 380), 3) := by decide +kernel
theorem dX11_copy_6 : decode cX11_copy 6 = .ok ((.if_icmp .ge 33), 3) := by decide +kernel
theorem dX11_copy_9 : decode cX11_copy 9 = .ok ((.aload_n 0), 1) := by decide +kernel
theorem dX11_copy_10 : decode cX11_copy 10 = .ok ((.getfield 35), 3) := by decide +kernel
theorem dX11_copy_13 : decode cX11_copy 13 = .ok ((.sipush 380), 3) := by decide +kernel
theorem dX11_copy_16 : decode cX11_copy 16 = .ok ((.iload_n 2), 1) := by decide +kernel
theorem dX11_copy_17 : decode cX11_copy 17 = .ok (.imul, 1) := by decide +kernel
theorem dX11_copy_18 : decode cX11_copy 18 = .ok ((.iload_n 3), 1) := by decide +kernel
theorem dX11_copy_19 : decode cX11_copy 19 = .ok (.iadd, 1) := by decide +kernel
theorem dX11_copy_20 : decode cX11_copy 20 = .ok ((.aload_n 0), 1) := by decide +kernel
theorem dX11_copy_21 : decode cX11_copy 21 = .ok ((.getfield 35), 3) := by decide +kernel
theorem dX11_copy_24 : decode cX11_copy 24 = .ok ((.sipush 380), 3) := by decide +kernel
theorem dX11_copy_27 : decode cX11_copy 27 = .ok ((.iload_n 1), 1) := by decide +kernel
theorem dX11_copy_28 : decode cX11_copy 28 = .ok (.imul, 1) := by decide +kernel
theorem dX11_copy_29 : decode cX11_copy 29 = .ok ((.iload_n 3), 1) := by decide +kernel
theorem dX11_copy_30 : decode cX11_copy 30 = .ok (.iadd, 1) := by decide +kernel
theorem dX11_copy_31 : decode cX11_copy 31 = .ok (.iaload, 1) := by decide +kernel
theorem dX11_copy_32 : decode cX11_copy 32 = .ok (.iastore, 1) := by decide +kernel
theorem dX11_copy_33 : decode cX11_copy 33 = .ok ((.iinc 3 1), 3) := by decide +kernel
theorem dX11_copy_36 : decode cX11_copy 36 = .ok ((.goto (-34)), 3) := by decide +kernel
theorem dX11_copy_39 : decode cX11_copy 39 = .ok ((.iconst 0), 1) := by decide +kernel
theorem dX11_copy_40 : decode cX11_copy 40 = .ok ((.istore_n 3), 1) := by decide +kernel
theorem dX11_copy_41 : decode cX11_copy 41 = .ok ((.iload_n 3), 1) := by decide +kernel
theorem dX11_copy_42 : decode cX11_copy 42 = .ok ((.bipush 18), 2) := by decide +kernel
theorem dX11_copy_44 : decode cX11_copy 44 = .ok ((.if_icmp .ge 31), 3) := by decide +kernel
theorem dX11_copy_47 : decode cX11_copy 47 = .ok ((.aload_n 0), 1) := by decide +kernel
theorem dX11_copy_48 : decode cX11_copy 48 = .ok ((.getfield 41), 3) := by decide +kernel
theorem dX11_copy_51 : decode cX11_copy 51 = .ok ((.bipush 18), 2) := by decide +kernel
theorem dX11_copy_53 : decode cX11_copy 53 = .ok ((.iload_n 2), 1) := by decide +kernel
theorem dX11_copy_54 : decode cX11_copy 54 = .ok (.imul, 1) := by decide +kernel
theorem dX11_copy_55 : decode cX11_copy 55 = .ok ((.iload_n 3), 1) := by decide +kernel
theorem dX11_copy_56 : decode cX11_copy 56 = .ok (.iadd, 1) := by decide +kernel
theorem dX11_copy_57 : decode cX11_copy 57 = .ok ((.aload_n 0), 1) := by decide +kernel
theorem dX11_copy_58 : decode cX11_copy 58 = .ok ((.getfield 41), 3) := by decide +kernel
theorem dX11_copy_61 : decode cX11_copy 61 = .ok ((.bipush 18), 2) := by decide +kernel
theorem dX11_copy_63 : decode cX11_copy 63 = .ok ((.iload_n 1), 1) := by decide +kernel
theorem dX11_copy_64 : decode cX11_copy 64 = .ok (.imul, 1) := by decide +kernel
theorem dX11_copy_65 : decode cX11_copy 65 = .ok ((.iload_n 3), 1) := by decide +kernel
theorem dX11_copy_66 : decode cX11_copy 66 = .ok (.iadd, 1) := by decide +kernel
theorem dX11_copy_67 : decode cX11_copy 67 = .ok (.laload, 1) := by decide +kernel
theorem dX11_copy_68 : decode cX11_copy 68 = .ok (.lastore, 1) := by decide +kernel
theorem dX11_copy_69 : decode cX11_copy 69 = .ok ((.iinc 3 1), 3) := by decide +kernel
theorem dX11_copy_72 : decode cX11_copy 72 = .ok ((.goto (-31)), 3) := by decide +kernel
theorem dX11_copy_75 : decode cX11_copy 75 = .ok (.return_, 1) := by decide +kernel
def p_X11_copy_41  (a1 : Int32) (a2 : Int32)   (post : vSt → Prop) : Nat → vSt → Int32 → Prop
  | 0 => fun _ _ => False
  | fu41 + 1 => fun S x3 => ((18 ≤ x3 → post S) ∧ (¬ 18 ≤ x3 → (vp_in ((18 * a1) + x3) 90 ∧ (vp_in ((18 * a2) + x3) 90 ∧ ∀ S9, S9 = v_sl S 150 (Int32.toNatClampNeg ((18 * a2) + x3)) (S.2 150 (Int32.toNatClampNeg ((18 * a1) + x3))) → ∀ y10 : Int32, y10 = x3 + 1 → (p_X11_copy_41 a1 a2 post fu41) S9 y10))))
theorem e_X11_copy_41  (a1 : Int32) (a2 : Int32)   (post : vSt → Prop) (fu41 : Nat) (S : vSt) (x3 : Int32) : p_X11_copy_41 a1 a2 post (fu41 + 1) S x3 = (((18 ≤ x3 → post S) ∧ (¬ 18 ≤ x3 → (vp_in ((18 * a1) + x3) 90 ∧ (vp_in ((18 * a2) + x3) 90 ∧ ∀ S9, S9 = v_sl S 150 (Int32.toNatClampNeg ((18 * a2) + x3)) (S.2 150 (Int32.toNatClampNeg ((18 * a1) + x3))) → ∀ y10 : Int32, y10 = x3 + 1 → (p_X11_copy_41 a1 a2 post fu41) S9 y10))))) := rfl
def p_X11_copy_2  (a1 : Int32) (a2 : Int32)   (post : vSt → Prop) : Nat → vSt → Int32 → Prop
  | 0 => fun _ _ => False
  | fu2 + 1 => fun S x3 => ((380 ≤ x3 → ∃ fu41, p_X11_copy_41 a1 a2 post fu41 S 0) ∧ (¬ 380 ≤ x3 → (vp_in ((380 * a1) + x3) 1900 ∧ (vp_in ((380 * a2) + x3) 1900 ∧ ∀ S9, S9 = v_si S 148 (Int32.toNatClampNeg ((380 * a2) + x3)) (S.1 148 (Int32.toNatClampNeg ((380 * a1) + x3))) → ∀ y10 : Int32, y10 = x3 + 1 → (p_X11_copy_2 a1 a2 post fu2) S9 y10))))
theorem e_X11_copy_2  (a1 : Int32) (a2 : Int32)   (post : vSt → Prop) (fu2 : Nat) (S : vSt) (x3 : Int32) : p_X11_copy_2 a1 a2 post (fu2 + 1) S x3 = (((380 ≤ x3 → ∃ fu41, p_X11_copy_41 a1 a2 post fu41 S 0) ∧ (¬ 380 ≤ x3 → (vp_in ((380 * a1) + x3) 1900 ∧ (vp_in ((380 * a2) + x3) 1900 ∧ ∀ S9, S9 = v_si S 148 (Int32.toNatClampNeg ((380 * a2) + x3)) (S.1 148 (Int32.toNatClampNeg ((380 * a1) + x3))) → ∀ y10 : Int32, y10 = x3 + 1 → (p_X11_copy_2 a1 a2 post fu2) S9 y10))))) := rfl
def p_X11_copy   (S : vSt) (a1 : Int32) (a2 : Int32) (post : vSt → Prop) : Prop := ∃ fu2, p_X11_copy_2 a1 a2 post fu2 S 0
set_option maxHeartbeats 4000000 in
set_option maxRecDepth 100000 in
theorem q_X11_copy_41 {X : vX} {G : vG}  {post : vSt → Prop} (C : v_Cx X G cX11_copy RX11 4 (v_rm 0 40)) (D : v_Rx X G (v_Qv G post) none)  {a1 : Int32} {a2 : Int32}   : ∀ (fu : Nat) (S : vSt) (x3 : Int32), p_X11_copy_41 a1 a2 post fu S x3 → VJ X G S 41 [(0, .ref (G.1 143)), (1, .int a1), (2, .int a2), (3, .int x3)] [] := by
  intro fu
  induction fu with
  | zero => intro S x3 h; exact absurd h id
  | succ fu ih =>
    intro S x3 h
    have hK41 := ih
    rw [e_X11_copy_41] at h
    refine V_iload_n C 3 dX11_copy_41 rfl rfl ?_
    refine V_bipush (v := 18) C dX11_copy_42 (by decide) ?_
    refine V_icmp_ge (tgt := 75) C dX11_copy_44 (by decide) (fun c => ?_) (fun c => ?_)
    · have h := h.1 c
      exact V_vret C D dX11_copy_75 h
    · have h := h.2 c
      refine V_aload_n C 0 dX11_copy_47 rfl rfl ?_
      refine V_ga C 143 (by decide) (by decide) F_11_22 k_RX11_41 dX11_copy_48 ?_
      refine V_bipush (v := 18) C dX11_copy_51 (by decide) ?_
      refine V_iload_n C 2 dX11_copy_53 rfl rfl ?_
      refine V_imul C dX11_copy_54 ?_
      refine V_iload_n C 3 dX11_copy_55 rfl rfl ?_
      refine V_iadd C dX11_copy_56 ?_
      refine V_aload_n C 0 dX11_copy_57 rfl rfl ?_
      refine V_ga C 143 (by decide) (by decide) F_11_22 k_RX11_41 dX11_copy_58 ?_
      refine V_bipush (v := 18) C dX11_copy_61 (by decide) ?_
      refine V_iload_n C 1 dX11_copy_63 rfl rfl ?_
      refine V_imul C dX11_copy_64 ?_
      refine V_iload_n C 3 dX11_copy_65 rfl rfl ?_
      refine V_iadd C dX11_copy_66 ?_
      obtain ⟨hi, h⟩ := h
      refine V_lald C 150 90 (by decide) (by decide) hi dX11_copy_67 ?_
      obtain ⟨hi, h⟩ := h
      refine V_last C 150 90 (by decide) (by decide) hi dX11_copy_68 ?_
      refine V_topS (fun S9 eS9 => ?_)
      have h := h S9 eS9
      obtain ⟨y10, ey10⟩ : ∃ z : Int32, z = x3 + 1 := ⟨_, rfl⟩
      have h := h y10 ey10
      refine V_iinc (lv' := [(0, .ref (G.1 143)), (1, .int a1), (2, .int a2), (3, .int y10)]) C 3 [1, 2, 3, 0] y10 dX11_copy_69 rfl (by rw [ey10]; rfl) (by decide) rfl ?_
      refine V_goto (tgt := 41) C dX11_copy_72 (by decide) ?_
      exact hK41 _ _ h
set_option maxHeartbeats 4000000 in
set_option maxRecDepth 100000 in
theorem q_X11_copy_2 {X : vX} {G : vG}  {post : vSt → Prop} (C : v_Cx X G cX11_copy RX11 4 (v_rm 0 40)) (D : v_Rx X G (v_Qv G post) none)  {a1 : Int32} {a2 : Int32}   : ∀ (fu : Nat) (S : vSt) (x3 : Int32), p_X11_copy_2 a1 a2 post fu S x3 → VJ X G S 2 [(0, .ref (G.1 143)), (1, .int a1), (2, .int a2), (3, .int x3)] [] := by
  intro fu
  induction fu with
  | zero => intro S x3 h; exact absurd h id
  | succ fu ih =>
    intro S x3 h
    have hK2 := ih
    rw [e_X11_copy_2] at h
    refine V_iload_n C 3 dX11_copy_2 rfl rfl ?_
    refine V_sipush (v := 380) C dX11_copy_3 (by decide) ?_
    refine V_icmp_ge (tgt := 39) C dX11_copy_6 (by decide) (fun c => ?_) (fun c => ?_)
    · have h := h.1 c
      refine V_iconst (v := 0) C dX11_copy_39 (by decide) ?_
      refine V_istore_n (lv' := [(0, .ref (G.1 143)), (1, .int a1), (2, .int a2), (3, .int 0)]) C [1, 2, 3, 0] dX11_copy_40 rfl (by decide) rfl ?_
      obtain ⟨fu41, h⟩ := h
      exact q_X11_copy_41 C D  fu41 _ _ h
    · have h := h.2 c
      refine V_aload_n C 0 dX11_copy_9 rfl rfl ?_
      refine V_ga C 143 (by decide) (by decide) F_11_20 k_RX11_35 dX11_copy_10 ?_
      refine V_sipush (v := 380) C dX11_copy_13 (by decide) ?_
      refine V_iload_n C 2 dX11_copy_16 rfl rfl ?_
      refine V_imul C dX11_copy_17 ?_
      refine V_iload_n C 3 dX11_copy_18 rfl rfl ?_
      refine V_iadd C dX11_copy_19 ?_
      refine V_aload_n C 0 dX11_copy_20 rfl rfl ?_
      refine V_ga C 143 (by decide) (by decide) F_11_20 k_RX11_35 dX11_copy_21 ?_
      refine V_sipush (v := 380) C dX11_copy_24 (by decide) ?_
      refine V_iload_n C 1 dX11_copy_27 rfl rfl ?_
      refine V_imul C dX11_copy_28 ?_
      refine V_iload_n C 3 dX11_copy_29 rfl rfl ?_
      refine V_iadd C dX11_copy_30 ?_
      obtain ⟨hi, h⟩ := h
      refine V_iald C 148 1900 (by decide) (by decide) hi dX11_copy_31 ?_
      obtain ⟨hi, h⟩ := h
      refine V_iast C 148 1900 (by decide) (by decide) hi dX11_copy_32 ?_
      refine V_topS (fun S9 eS9 => ?_)
      have h := h S9 eS9
      obtain ⟨y10, ey10⟩ : ∃ z : Int32, z = x3 + 1 := ⟨_, rfl⟩
      have h := h y10 ey10
      refine V_iinc (lv' := [(0, .ref (G.1 143)), (1, .int a1), (2, .int a2), (3, .int y10)]) C 3 [1, 2, 3, 0] y10 dX11_copy_33 rfl (by rw [ey10]; rfl) (by decide) rfl ?_
      refine V_goto (tgt := 2) C dX11_copy_36 (by decide) ?_
      exact hK2 _ _ h
set_option maxHeartbeats 4000000 in
set_option maxRecDepth 100000 in
theorem c_X11_copy (l : Launch) (G : vG)    {S : vSt} (a1 : Int32) (a2 : Int32) (post : vSt → Prop) (h : p_X11_copy   S a1 a2 post) : Met l yX11_copy (v_ws yX11_copy cX11_copy 4 none) (v_rm 0 40) (v_Pc G [.ref (G.1 143), .int a1, .int a2] S) (v_Qv G post) 0 0 (v_A G) := by
  refine v_start (by decide +kernel) (Nat.le_of_ble_eq_true rfl) (fun X hl C D => ?_)
  subst hl
  have C : v_Cx X G cX11_copy RX11 4 (v_rm 0 40) := C
  show VJ X G S 0 [(0, .ref (G.1 143)), (1, .int a1), (2, .int a2)] []
  refine V_iconst (v := 0) C dX11_copy_0 (by decide) ?_
  refine V_istore_n (lv' := [(0, .ref (G.1 143)), (1, .int a1), (2, .int a2), (3, .int 0)]) C [1, 2, 3, 0] dX11_copy_1 rfl (by decide) rfl ?_
  obtain ⟨fu2, h⟩ := h
  exact q_X11_copy_2 C D  fu2 _ _ h
/-! HalfAccuserModel.city(I)I -/
theorem dX11_city_0 : decode cX11_city 0 = .ok ((.aload_n 0), 1) := by decide +kernel
theorem dX11_city_1 : decode cX11_city 1 = .ok ((.iconst 0), 1) := by decide +kernel
theorem dX11_city_2 : decode cX11_city 2 = .ok ((.putfield 60), 3) := by decide +kernel
theorem dX11_city_5 : decode cX11_city 5 = .ok ((.aload_n 0), 1) := by decide +kernel
theorem dX11_city_6 : decode cX11_city 6 = .ok ((.iconst 0), 1) := by decide +kernel
theorem dX11_city_7 : decode cX11_city 7 = .ok ((.putfield 63), 3) := by decide +kernel
theorem dX11_city_10 : decode cX11_city 10 = .ok ((.aload_n 0), 1) := by decide +kernel
theorem dX11_city_11 : decode cX11_city 11 = .ok ((.iload_n 1), 1) := by decide +kernel
theorem dX11_city_12 : decode cX11_city 12 = .ok ((.sipush 900), 3) := by decide +kernel
theorem dX11_city_15 : decode cX11_city 15 = .ok ((.invokevirtual 262), 3) := by decide +kernel
theorem dX11_city_18 : decode cX11_city 18 = .ok ((.ifCond .ne 5), 3) := by decide +kernel
theorem dX11_city_21 : decode cX11_city 21 = .ok ((.iconst (-1)), 1) := by decide +kernel
theorem dX11_city_22 : decode cX11_city 22 = .ok (.ireturn, 1) := by decide +kernel
theorem dX11_city_23 : decode cX11_city 23 = .ok ((.aload_n 0), 1) := by decide +kernel
theorem dX11_city_24 : decode cX11_city 24 = .ok ((.iconst 4), 1) := by decide +kernel
theorem dX11_city_25 : decode cX11_city 25 = .ok ((.invokevirtual 56), 3) := by decide +kernel
theorem dX11_city_28 : decode cX11_city 28 = .ok ((.aload_n 0), 1) := by decide +kernel
theorem dX11_city_29 : decode cX11_city 29 = .ok ((.iconst 0), 1) := by decide +kernel
theorem dX11_city_30 : decode cX11_city 30 = .ok ((.putfield 235), 3) := by decide +kernel
theorem dX11_city_33 : decode cX11_city 33 = .ok ((.aload_n 0), 1) := by decide +kernel
theorem dX11_city_34 : decode cX11_city 34 = .ok ((.getfield 197), 3) := by decide +kernel
theorem dX11_city_37 : decode cX11_city 37 = .ok ((.ifCond .ne 27), 3) := by decide +kernel
theorem dX11_city_40 : decode cX11_city 40 = .ok ((.aload_n 0), 1) := by decide +kernel
theorem dX11_city_41 : decode cX11_city 41 = .ok ((.getfield 115), 3) := by decide +kernel
theorem dX11_city_44 : decode cX11_city 44 = .ok ((.ifCond .eq 20), 3) := by decide +kernel
theorem dX11_city_47 : decode cX11_city 47 = .ok ((.aload_n 0), 1) := by decide +kernel
theorem dX11_city_48 : decode cX11_city 48 = .ok ((.invokevirtual 265), 3) := by decide +kernel
theorem dX11_city_51 : decode cX11_city 51 = .ok ((.aload_n 0), 1) := by decide +kernel
theorem dX11_city_52 : decode cX11_city 52 = .ok ((.aload_n 0), 1) := by decide +kernel
theorem dX11_city_53 : decode cX11_city 53 = .ok ((.bipush 59), 2) := by decide +kernel
theorem dX11_city_55 : decode cX11_city 55 = .ok ((.invokevirtual 268), 3) := by decide +kernel
theorem dX11_city_58 : decode cX11_city 58 = .ok ((.invokevirtual 213), 3) := by decide +kernel
theorem dX11_city_61 : decode cX11_city 61 = .ok ((.goto (-28)), 3) := by decide +kernel
theorem dX11_city_64 : decode cX11_city 64 = .ok ((.aload_n 0), 1) := by decide +kernel
theorem dX11_city_65 : decode cX11_city 65 = .ok ((.invokevirtual 271), 3) := by decide +kernel
theorem dX11_city_68 : decode cX11_city 68 = .ok ((.ifCond .ne 5), 3) := by decide +kernel
theorem dX11_city_71 : decode cX11_city 71 = .ok ((.iconst (-1)), 1) := by decide +kernel
theorem dX11_city_72 : decode cX11_city 72 = .ok (.ireturn, 1) := by decide +kernel
theorem dX11_city_73 : decode cX11_city 73 = .ok ((.aload_n 0), 1) := by decide +kernel
theorem dX11_city_74 : decode cX11_city 74 = .ok ((.iconst 4), 1) := by decide +kernel
theorem dX11_city_75 : decode cX11_city 75 = .ok ((.iconst 0), 1) := by decide +kernel
theorem dX11_city_76 : decode cX11_city 76 = .ok ((.invokevirtual 274), 3) := by decide +kernel
theorem dX11_city_79 : decode cX11_city 79 = .ok ((.aload_n 0), 1) := by decide +kernel
theorem dX11_city_80 : decode cX11_city 80 = .ok ((.getfield 35), 3) := by decide +kernel
theorem dX11_city_83 : decode cX11_city 83 = .ok ((.iconst 1), 1) := by decide +kernel
theorem dX11_city_84 : decode cX11_city 84 = .ok (.iaload, 1) := by decide +kernel
theorem dX11_city_85 : decode cX11_city 85 = .ok (.ireturn, 1) := by decide +kernel
def p_X11_city_64  (a1 : Int32)   (post : Int32 → vSt → Prop) (S : vSt)  : Prop := p_X11_isWell  S  (fun r21 S20 => ((r21 = true → p_X11_copy  S20 4 0 (fun S22 => (vp_in 1 1900 ∧ post (S22.1 148 (Int32.toNatClampNeg 1)) S22))) ∧ (r21 = false → post (-1) S20)))
def p_X11_city_33  (a1 : Int32)   (post : Int32 → vSt → Prop) : Nat → vSt → Prop
  | 0 => fun _ => False
  | fu33 + 1 => fun S  => ((¬ (S.1 143 12) = 0 → p_X11_city_64 a1 post S ) ∧ ((S.1 143 12) = 0 → (((S.1 143 14) = 0 → p_X11_city_64 a1 post S ) ∧ (¬ (S.1 143 14) = 0 → p_X11_readPart  S  (fun S20 => p_X11_isSign  S20 59 (fun r22 S21 => p_X11_must  S21 r22 (fun S23 => (p_X11_city_33 a1 post fu33) S23 )))))))
theorem e_X11_city_33  (a1 : Int32)   (post : Int32 → vSt → Prop) (fu33 : Nat) (S : vSt)  : p_X11_city_33 a1 post (fu33 + 1) S  = (((¬ (S.1 143 12) = 0 → p_X11_city_64 a1 post S ) ∧ ((S.1 143 12) = 0 → (((S.1 143 14) = 0 → p_X11_city_64 a1 post S ) ∧ (¬ (S.1 143 14) = 0 → p_X11_readPart  S  (fun S20 => p_X11_isSign  S20 59 (fun r22 S21 => p_X11_must  S21 r22 (fun S23 => (p_X11_city_33 a1 post fu33) S23 )))))))) := rfl
def p_X11_city   (S : vSt) (a1 : Int32) (post : Int32 → vSt → Prop) : Prop := ∀ S14, S14 = v_si S 143 1 0 → ∀ S15, S15 = v_si S14 143 0 0 → p_X11_starts  S15 a1 900 (fun r17 S16 => ((r17 = true → p_X11_empties  S16 4 (fun S18 => ∀ S19, S19 = v_si S18 143 24 0 → ∃ fu33, p_X11_city_33 a1 post fu33 S19 )) ∧ (r17 = false → post (-1) S16)))
set_option maxHeartbeats 4000000 in
set_option maxRecDepth 100000 in
theorem q_X11_city_64 {X : vX} {G : vG}  {post : Int32 → vSt → Prop} (C : v_Cx X G cX11_city RX11 2 (v_rm 7 193)) (D : v_Rx X G (v_Qi G post) (some .int))  {a1 : Int32}   : ∀ (S : vSt), p_X11_city_64 a1 post S  → VJ X G S 64 [(0, .ref (G.1 143))] [] := by
  intro S  h
  refine V_aload_n C 0 dX11_city_64 rfl rfl ?_
  refine V_callVz (As := []) (rest := []) C (c_X11_isWell (v_l X) G  _ h) 143 11 (by decide) (by decide) (by decide) rfl KV_X11_isWell k_RX11_271 rfl rfl rfl (Nat.le_of_ble_eq_true rfl) ⟨Nat.le_of_ble_eq_true rfl, Nat.le_of_ble_eq_true rfl⟩ dX11_city_65 (fun r21 S20 h => ?_)
  refine V_ifb_ne (tgt := 73) C dX11_city_68 (by decide) (fun c => ?_) (fun c => ?_)
  · have h := h.1 c
    refine V_aload_n C 0 dX11_city_73 rfl rfl ?_
    refine V_iconst (v := 4) C dX11_city_74 (by decide) ?_
    refine V_iconst (v := 0) C dX11_city_75 (by decide) ?_
    refine V_callVv (As := [.int 4, .int 0]) (rest := []) C (c_X11_copy (v_l X) G  _ _ _ h) 143 11 (by decide) (by decide) (by decide) rfl KV_X11_copy k_RX11_274 rfl rfl rfl (Nat.le_of_ble_eq_true rfl) ⟨Nat.le_of_ble_eq_true rfl, Nat.le_of_ble_eq_true rfl⟩ dX11_city_76 (fun S22 h => ?_)
    refine V_aload_n C 0 dX11_city_79 rfl rfl ?_
    refine V_ga C 143 (by decide) (by decide) F_11_20 k_RX11_35 dX11_city_80 ?_
    refine V_iconst (v := 1) C dX11_city_83 (by decide) ?_
    obtain ⟨hi, h⟩ := h
    refine V_iald C 148 1900 (by decide) (by decide) hi dX11_city_84 ?_
    exact V_iret C D dX11_city_85 h
  · have h := h.2 c
    refine V_iconst (v := (-1)) C dX11_city_71 (by decide) ?_
    exact V_iret C D dX11_city_72 h
set_option maxHeartbeats 4000000 in
set_option maxRecDepth 100000 in
theorem q_X11_city_33 {X : vX} {G : vG}  {post : Int32 → vSt → Prop} (C : v_Cx X G cX11_city RX11 2 (v_rm 7 193)) (D : v_Rx X G (v_Qi G post) (some .int))  {a1 : Int32}   : ∀ (fu : Nat) (S : vSt) , p_X11_city_33 a1 post fu S  → VJ X G S 33 [(0, .ref (G.1 143))] [] := by
  intro fu
  induction fu with
  | zero => intro S  h; exact absurd h id
  | succ fu ih =>
    intro S  h
    have hK33 := ih
    rw [e_X11_city_33] at h
    refine V_aload_n C 0 dX11_city_33 rfl rfl ?_
    refine V_gi C 143 (by decide) (by decide) F_11_12 k_RX11_197 dX11_city_34 ?_
    refine V_if_ne (tgt := 64) C dX11_city_37 (by decide) (fun c => ?_) (fun c => ?_)
    · have h := h.1 c
      exact q_X11_city_64 C D  _ h
    · have h := h.2 c
      refine V_aload_n C 0 dX11_city_40 rfl rfl ?_
      refine V_gi C 143 (by decide) (by decide) F_11_14 k_RX11_115 dX11_city_41 ?_
      refine V_if_eq (tgt := 64) C dX11_city_44 (by decide) (fun c => ?_) (fun c => ?_)
      · have h := h.1 c
        exact q_X11_city_64 C D  _ h
      · have h := h.2 c
        refine V_aload_n C 0 dX11_city_47 rfl rfl ?_
        refine V_callVv (As := []) (rest := []) C (c_X11_readPart (v_l X) G  _ h) 143 11 (by decide) (by decide) (by decide) rfl KV_X11_readPart k_RX11_265 rfl rfl rfl (Nat.le_of_ble_eq_true rfl) ⟨Nat.le_of_ble_eq_true rfl, Nat.le_of_ble_eq_true rfl⟩ dX11_city_48 (fun S20 h => ?_)
        refine V_aload_n C 0 dX11_city_51 rfl rfl ?_
        refine V_aload_n C 0 dX11_city_52 rfl rfl ?_
        refine V_bipush (v := 59) C dX11_city_53 (by decide) ?_
        refine V_callVz (As := [.int 59]) (rest := [.ref (G.1 143)]) C (c_X11_isSign (v_l X) G  _ _ h) 143 11 (by decide) (by decide) (by decide) rfl KV_X11_isSign k_RX11_268 rfl rfl rfl (Nat.le_of_ble_eq_true rfl) ⟨Nat.le_of_ble_eq_true rfl, Nat.le_of_ble_eq_true rfl⟩ dX11_city_55 (fun r22 S21 h => ?_)
        refine V_callVv (As := [.int (v_b r22)]) (rest := []) C (c_X11_must (v_l X) G  _ _ h) 143 11 (by decide) (by decide) (by decide) rfl KV_X11_must k_RX11_213 rfl rfl rfl (Nat.le_of_ble_eq_true rfl) ⟨Nat.le_of_ble_eq_true rfl, Nat.le_of_ble_eq_true rfl⟩ dX11_city_58 (fun S23 h => ?_)
        refine V_goto (tgt := 33) C dX11_city_61 (by decide) ?_
        exact hK33 _ h
set_option maxHeartbeats 4000000 in
set_option maxRecDepth 100000 in
theorem c_X11_city (l : Launch) (G : vG)    {S : vSt} (a1 : Int32) (post : Int32 → vSt → Prop) (h : p_X11_city   S a1 post) : Met l yX11_city (v_ws yX11_city cX11_city 2 (some .int)) (v_rm 7 193) (v_Pc G [.ref (G.1 143), .int a1] S) (v_Qi G post) 0 0 (v_A G) := by
  refine v_start (by decide +kernel) (Nat.le_of_ble_eq_true rfl) (fun X hl C D => ?_)
  subst hl
  have C : v_Cx X G cX11_city RX11 2 (v_rm 7 193) := C
  show VJ X G S 0 [(0, .ref (G.1 143)), (1, .int a1)] []
  refine V_aload_n C 0 dX11_city_0 rfl rfl ?_
  refine V_iconst (v := 0) C dX11_city_1 (by decide) ?_
  refine V_pi C 143 (by decide) (by decide) P_11_1 k_RX11_60 dX11_city_2 ?_
  refine V_topS (fun S14 eS14 => ?_)
  have h := h S14 eS14
  refine V_aload_n C 0 dX11_city_5 rfl rfl ?_
  refine V_iconst (v := 0) C dX11_city_6 (by decide) ?_
  refine V_pi C 143 (by decide) (by decide) P_11_0 k_RX11_63 dX11_city_7 ?_
  refine V_topS (fun S15 eS15 => ?_)
  have h := h S15 eS15
  refine V_aload_n C 0 dX11_city_10 rfl rfl ?_
  refine V_iload_n C 1 dX11_city_11 rfl rfl ?_
  refine V_sipush (v := 900) C dX11_city_12 (by decide) ?_
  refine V_callVz (As := [.int a1, .int 900]) (rest := []) C (c_X11_starts (v_l X) G  _ _ _ h) 143 11 (by decide) (by decide) (by decide) rfl KV_X11_starts k_RX11_262 rfl rfl rfl (Nat.le_of_ble_eq_true rfl) ⟨Nat.le_of_ble_eq_true rfl, Nat.le_of_ble_eq_true rfl⟩ dX11_city_15 (fun r17 S16 h => ?_)
  refine V_ifb_ne (tgt := 23) C dX11_city_18 (by decide) (fun c => ?_) (fun c => ?_)
  · have h := h.1 c
    refine V_aload_n C 0 dX11_city_23 rfl rfl ?_
    refine V_iconst (v := 4) C dX11_city_24 (by decide) ?_
    refine V_callVv (As := [.int 4]) (rest := []) C (c_X11_empties (v_l X) G  _ _ h) 143 11 (by decide) (by decide) (by decide) rfl KV_X11_empties k_RX11_56 rfl rfl rfl (Nat.le_of_ble_eq_true rfl) ⟨Nat.le_of_ble_eq_true rfl, Nat.le_of_ble_eq_true rfl⟩ dX11_city_25 (fun S18 h => ?_)
    refine V_aload_n C 0 dX11_city_28 rfl rfl ?_
    refine V_iconst (v := 0) C dX11_city_29 (by decide) ?_
    refine V_pi C 143 (by decide) (by decide) P_11_24 k_RX11_235 dX11_city_30 ?_
    refine V_topS (fun S19 eS19 => ?_)
    have h := h S19 eS19
    refine V_loc (lv' := [(0, .ref (G.1 143))]) [0] rfl ?_
    obtain ⟨fu33, h⟩ := h
    exact q_X11_city_33 C D  fu33 _ h
  · have h := h.2 c
    refine V_iconst (v := (-1)) C dX11_city_21 (by decide) ?_
    exact V_iret C D dX11_city_22 h
/-! HalfAccuserModel.readTest(I)V -/
theorem dX11_readTest_0 : decode cX11_readTest 0 = .ok ((.aload_n 0), 1) := by decide +kernel
theorem dX11_readTest_1 : decode cX11_readTest 1 = .ok ((.invokevirtual 188), 3) := by decide +kernel
theorem dX11_readTest_4 : decode cX11_readTest 4 = .ok ((.istore_n 2), 1) := by decide +kernel
theorem dX11_readTest_5 : decode cX11_readTest 5 = .ok ((.aload_n 0), 1) := by decide +kernel
theorem dX11_readTest_6 : decode cX11_readTest 6 = .ok ((.iload_n 2), 1) := by decide +kernel
theorem dX11_readTest_7 : decode cX11_readTest 7 = .ok ((.ifCond .lt 7), 3) := by decide +kernel
theorem dX11_readTest_10 : decode cX11_readTest 10 = .ok ((.iconst 1), 1) := by decide +kernel
theorem dX11_readTest_11 : decode cX11_readTest 11 = .ok ((.goto 4), 3) := by decide +kernel
theorem dX11_readTest_14 : decode cX11_readTest 14 = .ok ((.iconst 0), 1) := by decide +kernel
theorem dX11_readTest_15 : decode cX11_readTest 15 = .ok ((.invokevirtual 213), 3) := by decide +kernel
theorem dX11_readTest_18 : decode cX11_readTest 18 = .ok ((.aload_n 0), 1) := by decide +kernel
theorem dX11_readTest_19 : decode cX11_readTest 19 = .ok ((.getfield 35), 3) := by decide +kernel
theorem dX11_readTest_22 : decode cX11_readTest 22 = .ok ((.iload_n 1), 1) := by decide +kernel
theorem dX11_readTest_23 : decode cX11_readTest 23 = .ok ((.bipush 6), 2) := by decide +kernel
theorem dX11_readTest_25 : decode cX11_readTest 25 = .ok (.iadd, 1) := by decide +kernel
theorem dX11_readTest_26 : decode cX11_readTest 26 = .ok ((.iload_n 2), 1) := by decide +kernel
theorem dX11_readTest_27 : decode cX11_readTest 27 = .ok (.iastore, 1) := by decide +kernel
theorem dX11_readTest_28 : decode cX11_readTest 28 = .ok ((.aload_n 0), 1) := by decide +kernel
theorem dX11_readTest_29 : decode cX11_readTest 29 = .ok ((.getfield 35), 3) := by decide +kernel
theorem dX11_readTest_32 : decode cX11_readTest 32 = .ok ((.iload_n 1), 1) := by decide +kernel
theorem dX11_readTest_33 : decode cX11_readTest 33 = .ok ((.iconst 1), 1) := by decide +kernel
theorem dX11_readTest_34 : decode cX11_readTest 34 = .ok (.iadd, 1) := by decide +kernel
theorem dX11_readTest_35 : decode cX11_readTest 35 = .ok ((.aload_n 0), 1) := by decide +kernel
theorem dX11_readTest_36 : decode cX11_readTest 36 = .ok ((.iconst 0), 1) := by decide +kernel
theorem dX11_readTest_37 : decode cX11_readTest 37 = .ok ((.iload_n 2), 1) := by decide +kernel
theorem dX11_readTest_38 : decode cX11_readTest 38 = .ok ((.ifCond .ne 7), 3) := by decide +kernel
theorem dX11_readTest_41 : decode cX11_readTest 41 = .ok ((.iconst 1), 1) := by decide +kernel
theorem dX11_readTest_42 : decode cX11_readTest 42 = .ok ((.goto 4), 3) := by decide +kernel
theorem dX11_readTest_45 : decode cX11_readTest 45 = .ok ((.iconst 0), 1) := by decide +kernel
theorem dX11_readTest_46 : decode cX11_readTest 46 = .ok ((.invokevirtual 245), 3) := by decide +kernel
theorem dX11_readTest_49 : decode cX11_readTest 49 = .ok (.iastore, 1) := by decide +kernel
theorem dX11_readTest_50 : decode cX11_readTest 50 = .ok ((.aload_n 0), 1) := by decide +kernel
theorem dX11_readTest_51 : decode cX11_readTest 51 = .ok ((.getfield 197), 3) := by decide +kernel
theorem dX11_readTest_54 : decode cX11_readTest 54 = .ok ((.ifCond .gt 8), 3) := by decide +kernel
theorem dX11_readTest_57 : decode cX11_readTest 57 = .ok ((.iload_n 2), 1) := by decide +kernel
theorem dX11_readTest_58 : decode cX11_readTest 58 = .ok ((.iconst 2), 1) := by decide +kernel
theorem dX11_readTest_59 : decode cX11_readTest 59 = .ok ((.if_icmp .eq 4), 3) := by decide +kernel
theorem dX11_readTest_62 : decode cX11_readTest 62 = .ok (.return_, 1) := by decide +kernel
theorem dX11_readTest_63 : decode cX11_readTest 63 = .ok ((.aload_n 0), 1) := by decide +kernel
theorem dX11_readTest_64 : decode cX11_readTest 64 = .ok ((.getfield 35), 3) := by decide +kernel
theorem dX11_readTest_67 : decode cX11_readTest 67 = .ok ((.iload_n 1), 1) := by decide +kernel
theorem dX11_readTest_68 : decode cX11_readTest 68 = .ok ((.bipush 7), 2) := by decide +kernel
theorem dX11_readTest_70 : decode cX11_readTest 70 = .ok (.iadd, 1) := by decide +kernel
theorem dX11_readTest_71 : decode cX11_readTest 71 = .ok ((.aload_n 0), 1) := by decide +kernel
theorem dX11_readTest_72 : decode cX11_readTest 72 = .ok ((.getfield 115), 3) := by decide +kernel
theorem dX11_readTest_75 : decode cX11_readTest 75 = .ok ((.iconst 3), 1) := by decide +kernel
theorem dX11_readTest_76 : decode cX11_readTest 76 = .ok ((.if_icmp .ne 10), 3) := by decide +kernel
theorem dX11_readTest_79 : decode cX11_readTest 79 = .ok ((.aload_n 0), 1) := by decide +kernel
theorem dX11_readTest_80 : decode cX11_readTest 80 = .ok ((.getfield 134), 3) := by decide +kernel
theorem dX11_readTest_83 : decode cX11_readTest 83 = .ok ((.goto 4), 3) := by decide +kernel
theorem dX11_readTest_86 : decode cX11_readTest 86 = .ok ((.iconst 0), 1) := by decide +kernel
theorem dX11_readTest_87 : decode cX11_readTest 87 = .ok (.iastore, 1) := by decide +kernel
theorem dX11_readTest_88 : decode cX11_readTest 88 = .ok ((.aload_n 0), 1) := by decide +kernel
theorem dX11_readTest_89 : decode cX11_readTest 89 = .ok ((.aload_n 0), 1) := by decide +kernel
theorem dX11_readTest_90 : decode cX11_readTest 90 = .ok ((.bipush 60), 2) := by decide +kernel
theorem dX11_readTest_92 : decode cX11_readTest 92 = .ok ((.invokevirtual 268), 3) := by decide +kernel
theorem dX11_readTest_95 : decode cX11_readTest 95 = .ok ((.ifCond .ne 21), 3) := by decide +kernel
theorem dX11_readTest_98 : decode cX11_readTest 98 = .ok ((.aload_n 0), 1) := by decide +kernel
theorem dX11_readTest_99 : decode cX11_readTest 99 = .ok ((.bipush 62), 2) := by decide +kernel
theorem dX11_readTest_101 : decode cX11_readTest 101 = .ok ((.invokevirtual 268), 3) := by decide +kernel
theorem dX11_readTest_104 : decode cX11_readTest 104 = .ok ((.ifCond .ne 12), 3) := by decide +kernel
theorem dX11_readTest_107 : decode cX11_readTest 107 = .ok ((.aload_n 0), 1) := by decide +kernel
theorem dX11_readTest_108 : decode cX11_readTest 108 = .ok ((.bipush 61), 2) := by decide +kernel
theorem dX11_readTest_110 : decode cX11_readTest 110 = .ok ((.invokevirtual 268), 3) := by decide +kernel
theorem dX11_readTest_113 : decode cX11_readTest 113 = .ok ((.ifCond .eq 7), 3) := by decide +kernel
theorem dX11_readTest_116 : decode cX11_readTest 116 = .ok ((.iconst 1), 1) := by decide +kernel
theorem dX11_readTest_117 : decode cX11_readTest 117 = .ok ((.goto 4), 3) := by decide +kernel
theorem dX11_readTest_120 : decode cX11_readTest 120 = .ok ((.iconst 0), 1) := by decide +kernel
theorem dX11_readTest_121 : decode cX11_readTest 121 = .ok ((.invokevirtual 213), 3) := by decide +kernel
theorem dX11_readTest_124 : decode cX11_readTest 124 = .ok ((.aload_n 0), 1) := by decide +kernel
theorem dX11_readTest_125 : decode cX11_readTest 125 = .ok ((.getfield 35), 3) := by decide +kernel
theorem dX11_readTest_128 : decode cX11_readTest 128 = .ok ((.iload_n 1), 1) := by decide +kernel
theorem dX11_readTest_129 : decode cX11_readTest 129 = .ok ((.iconst 2), 1) := by decide +kernel
theorem dX11_readTest_130 : decode cX11_readTest 130 = .ok (.iadd, 1) := by decide +kernel
theorem dX11_readTest_131 : decode cX11_readTest 131 = .ok ((.aload_n 0), 1) := by decide +kernel
theorem dX11_readTest_132 : decode cX11_readTest 132 = .ok ((.iconst 0), 1) := by decide +kernel
theorem dX11_readTest_133 : decode cX11_readTest 133 = .ok ((.sipush 9999), 3) := by decide +kernel
theorem dX11_readTest_136 : decode cX11_readTest 136 = .ok ((.invokevirtual 217), 3) := by decide +kernel
theorem dX11_readTest_139 : decode cX11_readTest 139 = .ok (.iastore, 1) := by decide +kernel
theorem dX11_readTest_140 : decode cX11_readTest 140 = .ok (.return_, 1) := by decide +kernel
def p_X11_readTest_121  (a1 : Int32)   (post : vSt → Prop) (S : vSt) (s0 : Bool) : Prop := p_X11_must  S s0 (fun S29 => p_X11_count  S29 0 9999 (fun r31 S30 => (vp_in (a1 + 2) 1900 ∧ ∀ S32, S32 = v_si S30 148 (Int32.toNatClampNeg (a1 + 2)) r31 → post S32)))
def p_X11_readTest_116  (a1 : Int32)   (post : vSt → Prop) (S : vSt)  : Prop := p_X11_readTest_121 a1 post S true
def p_X11_readTest_87  (a1 : Int32)   (post : vSt → Prop) (S : vSt) (s0 : Int32) (s1 : Int32) : Prop := (vp_in s1 1900 ∧ ∀ S26, S26 = v_si S 148 (Int32.toNatClampNeg s1) s0 → p_X11_isSign  S26 60 (fun r28 S27 => ((r28 = true → p_X11_readTest_116 a1 post S27 ) ∧ (r28 = false → p_X11_isSign  S27 62 (fun r30 S29 => ((r30 = true → p_X11_readTest_116 a1 post S29 ) ∧ (r30 = false → p_X11_isSign  S29 61 (fun r32 S31 => ((r32 = false → p_X11_readTest_121 a1 post S31 false) ∧ (r32 = true → p_X11_readTest_116 a1 post S31 ))))))))))
def p_X11_readTest_46  (a1 : Int32)   (post : vSt → Prop) (S : vSt) (x2 : Int32) (s0 : Bool) (s3 : Int32) : Prop := p_X11_readTold  S 0 (v_b s0) (fun r24 S23 => (vp_in s3 1900 ∧ ∀ S25, S25 = v_si S23 148 (Int32.toNatClampNeg s3) r24 → ((0 < (S25.1 143 12) → post S25) ∧ (¬ 0 < (S25.1 143 12) → ((x2 = 2 → ((¬ (S25.1 143 14) = 3 → p_X11_readTest_87 a1 post S25 0 (a1 + 7)) ∧ ((S25.1 143 14) = 3 → p_X11_readTest_87 a1 post S25 (S25.1 143 17) (a1 + 7)))) ∧ (¬ x2 = 2 → post S25))))))
def p_X11_readTest_15  (a1 : Int32)   (post : vSt → Prop) (S : vSt) (x2 : Int32) (s0 : Bool) : Prop := p_X11_must  S s0 (fun S21 => (vp_in (a1 + 6) 1900 ∧ ∀ S22, S22 = v_si S21 148 (Int32.toNatClampNeg (a1 + 6)) x2 → ((¬ x2 = 0 → p_X11_readTest_46 a1 post S22 x2 false (a1 + 1)) ∧ (x2 = 0 → p_X11_readTest_46 a1 post S22 x2 true (a1 + 1)))))
def p_X11_readTest   (S : vSt) (a1 : Int32) (post : vSt → Prop) : Prop := p_X11_testWord  S  (fun r20 S19 => ((r20 < 0 → p_X11_readTest_15 a1 post S19 r20 false) ∧ (¬ r20 < 0 → p_X11_readTest_15 a1 post S19 r20 true)))
set_option maxHeartbeats 4000000 in
set_option maxRecDepth 100000 in
theorem q_X11_readTest_121 {X : vX} {G : vG}  {post : vSt → Prop} (C : v_Cx X G cX11_readTest RX11 3 (v_rm 5 150)) (D : v_Rx X G (v_Qv G post) none)  {a1 : Int32}   : ∀ (S : vSt) (s0 : Bool), p_X11_readTest_121 a1 post S s0 → VJ X G S 121 [(0, .ref (G.1 143)), (1, .int a1)] [.int (v_b s0), .ref (G.1 143)] := by
  intro S s0 h
  refine V_callVv (As := [.int (v_b s0)]) (rest := []) C (c_X11_must (v_l X) G  _ _ h) 143 11 (by decide) (by decide) (by decide) rfl KV_X11_must k_RX11_213 rfl rfl rfl (Nat.le_of_ble_eq_true rfl) ⟨Nat.le_of_ble_eq_true rfl, Nat.le_of_ble_eq_true rfl⟩ dX11_readTest_121 (fun S29 h => ?_)
  refine V_aload_n C 0 dX11_readTest_124 rfl rfl ?_
  refine V_ga C 143 (by decide) (by decide) F_11_20 k_RX11_35 dX11_readTest_125 ?_
  refine V_iload_n C 1 dX11_readTest_128 rfl rfl ?_
  refine V_iconst (v := 2) C dX11_readTest_129 (by decide) ?_
  refine V_iadd C dX11_readTest_130 ?_
  refine V_aload_n C 0 dX11_readTest_131 rfl rfl ?_
  refine V_iconst (v := 0) C dX11_readTest_132 (by decide) ?_
  refine V_sipush (v := 9999) C dX11_readTest_133 (by decide) ?_
  refine V_callVi (As := [.int 0, .int 9999]) (rest := [.int (a1 + 2), .ref (G.1 148)]) C (c_X11_count (v_l X) G  _ _ _ h) 143 11 (by decide) (by decide) (by decide) rfl KV_X11_count k_RX11_217 rfl rfl rfl (Nat.le_of_ble_eq_true rfl) ⟨Nat.le_of_ble_eq_true rfl, Nat.le_of_ble_eq_true rfl⟩ dX11_readTest_136 (fun r31 S30 h => ?_)
  obtain ⟨hi, h⟩ := h
  refine V_iast C 148 1900 (by decide) (by decide) hi dX11_readTest_139 ?_
  refine V_topS (fun S32 eS32 => ?_)
  have h := h S32 eS32
  exact V_vret C D dX11_readTest_140 h
set_option maxHeartbeats 4000000 in
set_option maxRecDepth 100000 in
theorem q_X11_readTest_116 {X : vX} {G : vG}  {post : vSt → Prop} (C : v_Cx X G cX11_readTest RX11 3 (v_rm 5 150)) (D : v_Rx X G (v_Qv G post) none)  {a1 : Int32}   : ∀ (S : vSt), p_X11_readTest_116 a1 post S  → VJ X G S 116 [(0, .ref (G.1 143)), (1, .int a1)] [.ref (G.1 143)] := by
  intro S  h
  refine V_iconst (v := 1) C dX11_readTest_116 (by decide) ?_
  refine V_goto (tgt := 121) C dX11_readTest_117 (by decide) ?_
  exact q_X11_readTest_121 C D  _ _ h
set_option maxHeartbeats 4000000 in
set_option maxRecDepth 100000 in
theorem q_X11_readTest_87 {X : vX} {G : vG}  {post : vSt → Prop} (C : v_Cx X G cX11_readTest RX11 3 (v_rm 5 150)) (D : v_Rx X G (v_Qv G post) none)  {a1 : Int32}   : ∀ (S : vSt) (s0 : Int32) (s1 : Int32), p_X11_readTest_87 a1 post S s0 s1 → VJ X G S 87 [(0, .ref (G.1 143)), (1, .int a1)] [.int s0, .int s1, .ref (G.1 148)] := by
  intro S s0 s1 h
  obtain ⟨hi, h⟩ := h
  refine V_iast C 148 1900 (by decide) (by decide) hi dX11_readTest_87 ?_
  refine V_topS (fun S26 eS26 => ?_)
  have h := h S26 eS26
  refine V_aload_n C 0 dX11_readTest_88 rfl rfl ?_
  refine V_aload_n C 0 dX11_readTest_89 rfl rfl ?_
  refine V_bipush (v := 60) C dX11_readTest_90 (by decide) ?_
  refine V_callVz (As := [.int 60]) (rest := [.ref (G.1 143)]) C (c_X11_isSign (v_l X) G  _ _ h) 143 11 (by decide) (by decide) (by decide) rfl KV_X11_isSign k_RX11_268 rfl rfl rfl (Nat.le_of_ble_eq_true rfl) ⟨Nat.le_of_ble_eq_true rfl, Nat.le_of_ble_eq_true rfl⟩ dX11_readTest_92 (fun r28 S27 h => ?_)
  refine V_ifb_ne (tgt := 116) C dX11_readTest_95 (by decide) (fun c => ?_) (fun c => ?_)
  · have h := h.1 c
    exact q_X11_readTest_116 C D  _ h
  · have h := h.2 c
    refine V_aload_n C 0 dX11_readTest_98 rfl rfl ?_
    refine V_bipush (v := 62) C dX11_readTest_99 (by decide) ?_
    refine V_callVz (As := [.int 62]) (rest := [.ref (G.1 143)]) C (c_X11_isSign (v_l X) G  _ _ h) 143 11 (by decide) (by decide) (by decide) rfl KV_X11_isSign k_RX11_268 rfl rfl rfl (Nat.le_of_ble_eq_true rfl) ⟨Nat.le_of_ble_eq_true rfl, Nat.le_of_ble_eq_true rfl⟩ dX11_readTest_101 (fun r30 S29 h => ?_)
    refine V_ifb_ne (tgt := 116) C dX11_readTest_104 (by decide) (fun c => ?_) (fun c => ?_)
    · have h := h.1 c
      exact q_X11_readTest_116 C D  _ h
    · have h := h.2 c
      refine V_aload_n C 0 dX11_readTest_107 rfl rfl ?_
      refine V_bipush (v := 61) C dX11_readTest_108 (by decide) ?_
      refine V_callVz (As := [.int 61]) (rest := [.ref (G.1 143)]) C (c_X11_isSign (v_l X) G  _ _ h) 143 11 (by decide) (by decide) (by decide) rfl KV_X11_isSign k_RX11_268 rfl rfl rfl (Nat.le_of_ble_eq_true rfl) ⟨Nat.le_of_ble_eq_true rfl, Nat.le_of_ble_eq_true rfl⟩ dX11_readTest_110 (fun r32 S31 h => ?_)
      refine V_ifb_eq (tgt := 120) C dX11_readTest_113 (by decide) (fun c => ?_) (fun c => ?_)
      · have h := h.1 c
        refine V_iconst (v := 0) C dX11_readTest_120 (by decide) ?_
        exact q_X11_readTest_121 C D  _ _ h
      · have h := h.2 c
        exact q_X11_readTest_116 C D  _ h
set_option maxHeartbeats 4000000 in
set_option maxRecDepth 100000 in
theorem q_X11_readTest_46 {X : vX} {G : vG}  {post : vSt → Prop} (C : v_Cx X G cX11_readTest RX11 3 (v_rm 5 150)) (D : v_Rx X G (v_Qv G post) none)  {a1 : Int32}   : ∀ (S : vSt) (x2 : Int32) (s0 : Bool) (s3 : Int32), p_X11_readTest_46 a1 post S x2 s0 s3 → VJ X G S 46 [(0, .ref (G.1 143)), (1, .int a1), (2, .int x2)] [.int (v_b s0), .int 0, .ref (G.1 143), .int s3, .ref (G.1 148)] := by
  intro S x2 s0 s3 h
  refine V_callVi (As := [.int 0, .int (v_b s0)]) (rest := [.int s3, .ref (G.1 148)]) C (c_X11_readTold (v_l X) G  _ _ _ h) 143 11 (by decide) (by decide) (by decide) rfl KV_X11_readTold k_RX11_245 rfl rfl rfl (Nat.le_of_ble_eq_true rfl) ⟨Nat.le_of_ble_eq_true rfl, Nat.le_of_ble_eq_true rfl⟩ dX11_readTest_46 (fun r24 S23 h => ?_)
  obtain ⟨hi, h⟩ := h
  refine V_iast C 148 1900 (by decide) (by decide) hi dX11_readTest_49 ?_
  refine V_topS (fun S25 eS25 => ?_)
  have h := h S25 eS25
  refine V_aload_n C 0 dX11_readTest_50 rfl rfl ?_
  refine V_gi C 143 (by decide) (by decide) F_11_12 k_RX11_197 dX11_readTest_51 ?_
  refine V_if_gt (tgt := 62) C dX11_readTest_54 (by decide) (fun c => ?_) (fun c => ?_)
  · have h := h.1 c
    exact V_vret C D dX11_readTest_62 h
  · have h := h.2 c
    refine V_iload_n C 2 dX11_readTest_57 rfl rfl ?_
    refine V_iconst (v := 2) C dX11_readTest_58 (by decide) ?_
    refine V_icmp_eq (tgt := 63) C dX11_readTest_59 (by decide) (fun c => ?_) (fun c => ?_)
    · have h := h.1 c
      refine V_aload_n C 0 dX11_readTest_63 rfl rfl ?_
      refine V_ga C 143 (by decide) (by decide) F_11_20 k_RX11_35 dX11_readTest_64 ?_
      refine V_iload_n C 1 dX11_readTest_67 rfl rfl ?_
      refine V_bipush (v := 7) C dX11_readTest_68 (by decide) ?_
      refine V_iadd C dX11_readTest_70 ?_
      refine V_aload_n C 0 dX11_readTest_71 rfl rfl ?_
      refine V_gi C 143 (by decide) (by decide) F_11_14 k_RX11_115 dX11_readTest_72 ?_
      refine V_iconst (v := 3) C dX11_readTest_75 (by decide) ?_
      refine V_icmp_ne (tgt := 86) C dX11_readTest_76 (by decide) (fun c => ?_) (fun c => ?_)
      · have h := h.1 c
        refine V_iconst (v := 0) C dX11_readTest_86 (by decide) ?_
        refine V_loc (lv' := [(0, .ref (G.1 143)), (1, .int a1)]) [0, 1] rfl ?_
        exact q_X11_readTest_87 C D  _ _ _ h
      · have h := h.2 c
        refine V_aload_n C 0 dX11_readTest_79 rfl rfl ?_
        refine V_gi C 143 (by decide) (by decide) F_11_17 k_RX11_134 dX11_readTest_80 ?_
        refine V_goto (tgt := 87) C dX11_readTest_83 (by decide) ?_
        refine V_loc (lv' := [(0, .ref (G.1 143)), (1, .int a1)]) [0, 1] rfl ?_
        exact q_X11_readTest_87 C D  _ _ _ h
    · have h := h.2 c
      exact V_vret C D dX11_readTest_62 h
set_option maxHeartbeats 4000000 in
set_option maxRecDepth 100000 in
theorem q_X11_readTest_15 {X : vX} {G : vG}  {post : vSt → Prop} (C : v_Cx X G cX11_readTest RX11 3 (v_rm 5 150)) (D : v_Rx X G (v_Qv G post) none)  {a1 : Int32}   : ∀ (S : vSt) (x2 : Int32) (s0 : Bool), p_X11_readTest_15 a1 post S x2 s0 → VJ X G S 15 [(0, .ref (G.1 143)), (1, .int a1), (2, .int x2)] [.int (v_b s0), .ref (G.1 143)] := by
  intro S x2 s0 h
  refine V_callVv (As := [.int (v_b s0)]) (rest := []) C (c_X11_must (v_l X) G  _ _ h) 143 11 (by decide) (by decide) (by decide) rfl KV_X11_must k_RX11_213 rfl rfl rfl (Nat.le_of_ble_eq_true rfl) ⟨Nat.le_of_ble_eq_true rfl, Nat.le_of_ble_eq_true rfl⟩ dX11_readTest_15 (fun S21 h => ?_)
  refine V_aload_n C 0 dX11_readTest_18 rfl rfl ?_
  refine V_ga C 143 (by decide) (by decide) F_11_20 k_RX11_35 dX11_readTest_19 ?_
  refine V_iload_n C 1 dX11_readTest_22 rfl rfl ?_
  refine V_bipush (v := 6) C dX11_readTest_23 (by decide) ?_
  refine V_iadd C dX11_readTest_25 ?_
  refine V_iload_n C 2 dX11_readTest_26 rfl rfl ?_
  obtain ⟨hi, h⟩ := h
  refine V_iast C 148 1900 (by decide) (by decide) hi dX11_readTest_27 ?_
  refine V_topS (fun S22 eS22 => ?_)
  have h := h S22 eS22
  refine V_aload_n C 0 dX11_readTest_28 rfl rfl ?_
  refine V_ga C 143 (by decide) (by decide) F_11_20 k_RX11_35 dX11_readTest_29 ?_
  refine V_iload_n C 1 dX11_readTest_32 rfl rfl ?_
  refine V_iconst (v := 1) C dX11_readTest_33 (by decide) ?_
  refine V_iadd C dX11_readTest_34 ?_
  refine V_aload_n C 0 dX11_readTest_35 rfl rfl ?_
  refine V_iconst (v := 0) C dX11_readTest_36 (by decide) ?_
  refine V_iload_n C 2 dX11_readTest_37 rfl rfl ?_
  refine V_if_ne (tgt := 45) C dX11_readTest_38 (by decide) (fun c => ?_) (fun c => ?_)
  · have h := h.1 c
    refine V_iconst (v := 0) C dX11_readTest_45 (by decide) ?_
    exact q_X11_readTest_46 C D  _ _ _ _ h
  · have h := h.2 c
    refine V_iconst (v := 1) C dX11_readTest_41 (by decide) ?_
    refine V_goto (tgt := 46) C dX11_readTest_42 (by decide) ?_
    exact q_X11_readTest_46 C D  _ _ _ _ h
set_option maxHeartbeats 4000000 in
set_option maxRecDepth 100000 in
theorem c_X11_readTest (l : Launch) (G : vG)    {S : vSt} (a1 : Int32) (post : vSt → Prop) (h : p_X11_readTest   S a1 post) : Met l yX11_readTest (v_ws yX11_readTest cX11_readTest 3 none) (v_rm 5 150) (v_Pc G [.ref (G.1 143), .int a1] S) (v_Qv G post) 0 0 (v_A G) := by
  refine v_start (by decide +kernel) (Nat.le_of_ble_eq_true rfl) (fun X hl C D => ?_)
  subst hl
  have C : v_Cx X G cX11_readTest RX11 3 (v_rm 5 150) := C
  show VJ X G S 0 [(0, .ref (G.1 143)), (1, .int a1)] []
  refine V_aload_n C 0 dX11_readTest_0 rfl rfl ?_
  refine V_callVi (As := []) (rest := []) C (c_X11_testWord (v_l X) G  _ h) 143 11 (by decide) (by decide) (by decide) rfl KV_X11_testWord k_RX11_188 rfl rfl rfl (Nat.le_of_ble_eq_true rfl) ⟨Nat.le_of_ble_eq_true rfl, Nat.le_of_ble_eq_true rfl⟩ dX11_readTest_1 (fun r20 S19 h => ?_)
  refine V_istore_n (lv' := [(0, .ref (G.1 143)), (1, .int a1), (2, .int r20)]) C [1, 2, 0] dX11_readTest_4 rfl (by decide) rfl ?_
  refine V_aload_n C 0 dX11_readTest_5 rfl rfl ?_
  refine V_iload_n C 2 dX11_readTest_6 rfl rfl ?_
  refine V_if_lt (tgt := 14) C dX11_readTest_7 (by decide) (fun c => ?_) (fun c => ?_)
  · have h := h.1 c
    refine V_iconst (v := 0) C dX11_readTest_14 (by decide) ?_
    exact q_X11_readTest_15 C D  _ _ _ h
  · have h := h.2 c
    refine V_iconst (v := 1) C dX11_readTest_10 (by decide) ?_
    refine V_goto (tgt := 15) C dX11_readTest_11 (by decide) ?_
    exact q_X11_readTest_15 C D  _ _ _ h
/-! HalfAccuserModel.readRest(I)V -/
theorem dX11_readRest_0 : decode cX11_readRest 0 = .ok ((.aload_n 0), 1) := by decide +kernel
theorem dX11_readRest_1 : decode cX11_readRest 1 = .ok ((.getfield 35), 3) := by decide +kernel
theorem dX11_readRest_4 : decode cX11_readRest 4 = .ok ((.iload_n 1), 1) := by decide +kernel
theorem dX11_readRest_5 : decode cX11_readRest 5 = .ok (.iaload, 1) := by decide +kernel
theorem dX11_readRest_6 : decode cX11_readRest 6 = .ok ((.istore_n 2), 1) := by decide +kernel
theorem dX11_readRest_7 : decode cX11_readRest 7 = .ok ((.iload_n 2), 1) := by decide +kernel
theorem dX11_readRest_8 : decode cX11_readRest 8 = .ok ((.iconst 5), 1) := by decide +kernel
theorem dX11_readRest_9 : decode cX11_readRest 9 = .ok ((.if_icmp .ne 21), 3) := by decide +kernel
theorem dX11_readRest_12 : decode cX11_readRest 12 = .ok ((.aload_n 0), 1) := by decide +kernel
theorem dX11_readRest_13 : decode cX11_readRest 13 = .ok ((.getfield 35), 3) := by decide +kernel
theorem dX11_readRest_16 : decode cX11_readRest 16 = .ok ((.iload_n 1), 1) := by decide +kernel
theorem dX11_readRest_17 : decode cX11_readRest 17 = .ok ((.iconst 1), 1) := by decide +kernel
theorem dX11_readRest_18 : decode cX11_readRest 18 = .ok (.iadd, 1) := by decide +kernel
theorem dX11_readRest_19 : decode cX11_readRest 19 = .ok ((.aload_n 0), 1) := by decide +kernel
theorem dX11_readRest_20 : decode cX11_readRest 20 = .ok ((.iconst 1), 1) := by decide +kernel
theorem dX11_readRest_21 : decode cX11_readRest 21 = .ok ((.bipush 99), 2) := by decide +kernel
theorem dX11_readRest_23 : decode cX11_readRest 23 = .ok ((.invokevirtual 217), 3) := by decide +kernel
theorem dX11_readRest_26 : decode cX11_readRest 26 = .ok (.iastore, 1) := by decide +kernel
theorem dX11_readRest_27 : decode cX11_readRest 27 = .ok ((.goto 35), 3) := by decide +kernel
theorem dX11_readRest_30 : decode cX11_readRest 30 = .ok ((.iload_n 2), 1) := by decide +kernel
theorem dX11_readRest_31 : decode cX11_readRest 31 = .ok ((.iconst 4), 1) := by decide +kernel
theorem dX11_readRest_32 : decode cX11_readRest 32 = .ok ((.if_icmp .ne 11), 3) := by decide +kernel
theorem dX11_readRest_35 : decode cX11_readRest 35 = .ok ((.aload_n 0), 1) := by decide +kernel
theorem dX11_readRest_36 : decode cX11_readRest 36 = .ok ((.iload_n 1), 1) := by decide +kernel
theorem dX11_readRest_37 : decode cX11_readRest 37 = .ok ((.invokevirtual 277), 3) := by decide +kernel
theorem dX11_readRest_40 : decode cX11_readRest 40 = .ok ((.goto 22), 3) := by decide +kernel
theorem dX11_readRest_43 : decode cX11_readRest 43 = .ok ((.iload_n 2), 1) := by decide +kernel
theorem dX11_readRest_44 : decode cX11_readRest 44 = .ok ((.iconst 3), 1) := by decide +kernel
theorem dX11_readRest_45 : decode cX11_readRest 45 = .ok ((.if_icmp .ge 17), 3) := by decide +kernel
theorem dX11_readRest_48 : decode cX11_readRest 48 = .ok ((.aload_n 0), 1) := by decide +kernel
theorem dX11_readRest_49 : decode cX11_readRest 49 = .ok ((.getfield 35), 3) := by decide +kernel
theorem dX11_readRest_52 : decode cX11_readRest 52 = .ok ((.iload_n 1), 1) := by decide +kernel
theorem dX11_readRest_53 : decode cX11_readRest 53 = .ok ((.iconst 1), 1) := by decide +kernel
theorem dX11_readRest_54 : decode cX11_readRest 54 = .ok (.iadd, 1) := by decide +kernel
theorem dX11_readRest_55 : decode cX11_readRest 55 = .ok ((.aload_n 0), 1) := by decide +kernel
theorem dX11_readRest_56 : decode cX11_readRest 56 = .ok ((.iconst 0), 1) := by decide +kernel
theorem dX11_readRest_57 : decode cX11_readRest 57 = .ok ((.iconst 0), 1) := by decide +kernel
theorem dX11_readRest_58 : decode cX11_readRest 58 = .ok ((.invokevirtual 245), 3) := by decide +kernel
theorem dX11_readRest_61 : decode cX11_readRest 61 = .ok (.iastore, 1) := by decide +kernel
theorem dX11_readRest_62 : decode cX11_readRest 62 = .ok ((.iload_n 2), 1) := by decide +kernel
theorem dX11_readRest_63 : decode cX11_readRest 63 = .ok ((.ifCond .eq 8), 3) := by decide +kernel
theorem dX11_readRest_66 : decode cX11_readRest 66 = .ok ((.iload_n 2), 1) := by decide +kernel
theorem dX11_readRest_67 : decode cX11_readRest 67 = .ok ((.iconst 1), 1) := by decide +kernel
theorem dX11_readRest_68 : decode cX11_readRest 68 = .ok ((.if_icmp .ne 17), 3) := by decide +kernel
theorem dX11_readRest_71 : decode cX11_readRest 71 = .ok ((.aload_n 0), 1) := by decide +kernel
theorem dX11_readRest_72 : decode cX11_readRest 72 = .ok ((.getfield 35), 3) := by decide +kernel
theorem dX11_readRest_75 : decode cX11_readRest 75 = .ok ((.iload_n 1), 1) := by decide +kernel
theorem dX11_readRest_76 : decode cX11_readRest 76 = .ok ((.iconst 2), 1) := by decide +kernel
theorem dX11_readRest_77 : decode cX11_readRest 77 = .ok (.iadd, 1) := by decide +kernel
theorem dX11_readRest_78 : decode cX11_readRest 78 = .ok ((.aload_n 0), 1) := by decide +kernel
theorem dX11_readRest_79 : decode cX11_readRest 79 = .ok ((.iconst 0), 1) := by decide +kernel
theorem dX11_readRest_80 : decode cX11_readRest 80 = .ok ((.iconst 1), 1) := by decide +kernel
theorem dX11_readRest_81 : decode cX11_readRest 81 = .ok ((.invokevirtual 245), 3) := by decide +kernel
theorem dX11_readRest_84 : decode cX11_readRest 84 = .ok (.iastore, 1) := by decide +kernel
theorem dX11_readRest_85 : decode cX11_readRest 85 = .ok ((.iload_n 2), 1) := by decide +kernel
theorem dX11_readRest_86 : decode cX11_readRest 86 = .ok ((.iconst 1), 1) := by decide +kernel
theorem dX11_readRest_87 : decode cX11_readRest 87 = .ok ((.if_icmp .ne 23), 3) := by decide +kernel
theorem dX11_readRest_90 : decode cX11_readRest 90 = .ok ((.aload_n 0), 1) := by decide +kernel
theorem dX11_readRest_91 : decode cX11_readRest 91 = .ok ((.getfield 35), 3) := by decide +kernel
theorem dX11_readRest_94 : decode cX11_readRest 94 = .ok ((.iload_n 1), 1) := by decide +kernel
theorem dX11_readRest_95 : decode cX11_readRest 95 = .ok ((.iconst 3), 1) := by decide +kernel
theorem dX11_readRest_96 : decode cX11_readRest 96 = .ok (.iadd, 1) := by decide +kernel
theorem dX11_readRest_97 : decode cX11_readRest 97 = .ok ((.aload_n 0), 1) := by decide +kernel
theorem dX11_readRest_98 : decode cX11_readRest 98 = .ok ((.aload_n 0), 1) := by decide +kernel
theorem dX11_readRest_99 : decode cX11_readRest 99 = .ok ((.invokevirtual 181), 3) := by decide +kernel
theorem dX11_readRest_102 : decode cX11_readRest 102 = .ok ((.iconst 0), 1) := by decide +kernel
theorem dX11_readRest_103 : decode cX11_readRest 103 = .ok ((.sipush 9999), 3) := by decide +kernel
theorem dX11_readRest_106 : decode cX11_readRest 106 = .ok ((.invokevirtual 248), 3) := by decide +kernel
theorem dX11_readRest_109 : decode cX11_readRest 109 = .ok (.iastore, 1) := by decide +kernel
theorem dX11_readRest_110 : decode cX11_readRest 110 = .ok ((.iload_n 2), 1) := by decide +kernel
theorem dX11_readRest_111 : decode cX11_readRest 111 = .ok ((.iconst 2), 1) := by decide +kernel
theorem dX11_readRest_112 : decode cX11_readRest 112 = .ok ((.if_icmp .ne 19), 3) := by decide +kernel
theorem dX11_readRest_115 : decode cX11_readRest 115 = .ok ((.aload_n 0), 1) := by decide +kernel
theorem dX11_readRest_116 : decode cX11_readRest 116 = .ok ((.getfield 35), 3) := by decide +kernel
theorem dX11_readRest_119 : decode cX11_readRest 119 = .ok ((.iload_n 1), 1) := by decide +kernel
theorem dX11_readRest_120 : decode cX11_readRest 120 = .ok ((.iconst 3), 1) := by decide +kernel
theorem dX11_readRest_121 : decode cX11_readRest 121 = .ok (.iadd, 1) := by decide +kernel
theorem dX11_readRest_122 : decode cX11_readRest 122 = .ok ((.aload_n 0), 1) := by decide +kernel
theorem dX11_readRest_123 : decode cX11_readRest 123 = .ok ((.iconst 1), 1) := by decide +kernel
theorem dX11_readRest_124 : decode cX11_readRest 124 = .ok ((.sipush 999), 3) := by decide +kernel
theorem dX11_readRest_127 : decode cX11_readRest 127 = .ok ((.invokevirtual 217), 3) := by decide +kernel
theorem dX11_readRest_130 : decode cX11_readRest 130 = .ok (.iastore, 1) := by decide +kernel
theorem dX11_readRest_131 : decode cX11_readRest 131 = .ok (.return_, 1) := by decide +kernel
def p_X11_readRest_110  (a1 : Int32)   (post : vSt → Prop) (S : vSt) (x2 : Int32) : Prop := ((¬ x2 = 2 → post S) ∧ (x2 = 2 → p_X11_count  S 1 999 (fun r25 S24 => (vp_in (a1 + 3) 1900 ∧ ∀ S26, S26 = v_si S24 148 (Int32.toNatClampNeg (a1 + 3)) r25 → post S26))))
def p_X11_readRest_85  (a1 : Int32)   (post : vSt → Prop) (S : vSt) (x2 : Int32) : Prop := ((¬ x2 = 1 → p_X11_readRest_110 a1 post S x2) ∧ (x2 = 1 → p_X11_isFor  S  (fun r25 S24 => p_X11_behindWord  S24 r25 0 9999 (fun r27 S26 => (vp_in (a1 + 3) 1900 ∧ ∀ S28, S28 = v_si S26 148 (Int32.toNatClampNeg (a1 + 3)) r27 → p_X11_readRest_110 a1 post S28 x2)))))
def p_X11_readRest_71  (a1 : Int32)   (post : vSt → Prop) (S : vSt) (x2 : Int32) : Prop := p_X11_readTold  S 0 1 (fun r22 S21 => (vp_in (a1 + 2) 1900 ∧ ∀ S23, S23 = v_si S21 148 (Int32.toNatClampNeg (a1 + 2)) r22 → p_X11_readRest_85 a1 post S23 x2))
def p_X11_readRest_62  (a1 : Int32)   (post : vSt → Prop) (S : vSt) (x2 : Int32) : Prop := ((x2 = 0 → p_X11_readRest_71 a1 post S x2) ∧ (¬ x2 = 0 → ((¬ x2 = 1 → p_X11_readRest_85 a1 post S x2) ∧ (x2 = 1 → p_X11_readRest_71 a1 post S x2))))
def p_X11_readRest   (S : vSt) (a1 : Int32) (post : vSt → Prop) : Prop := (vp_in a1 1900 ∧ ∀ y20 : Int32, y20 = (S.1 148 (Int32.toNatClampNeg a1)) → ((¬ y20 = 5 → ((¬ y20 = 4 → ((3 ≤ y20 → p_X11_readRest_62 a1 post S y20) ∧ (¬ 3 ≤ y20 → p_X11_readTold  S 0 0 (fun r22 S21 => (vp_in (a1 + 1) 1900 ∧ ∀ S23, S23 = v_si S21 148 (Int32.toNatClampNeg (a1 + 1)) r22 → p_X11_readRest_62 a1 post S23 y20))))) ∧ (y20 = 4 → p_X11_readTest  S a1 (fun S24 => p_X11_readRest_62 a1 post S24 y20)))) ∧ (y20 = 5 → p_X11_count  S 1 99 (fun r26 S25 => (vp_in (a1 + 1) 1900 ∧ ∀ S27, S27 = v_si S25 148 (Int32.toNatClampNeg (a1 + 1)) r26 → p_X11_readRest_62 a1 post S27 y20)))))
set_option maxHeartbeats 4000000 in
set_option maxRecDepth 100000 in
theorem q_X11_readRest_110 {X : vX} {G : vG}  {post : vSt → Prop} (C : v_Cx X G cX11_readRest RX11 3 (v_rm 6 172)) (D : v_Rx X G (v_Qv G post) none)  {a1 : Int32}   : ∀ (S : vSt) (x2 : Int32), p_X11_readRest_110 a1 post S x2 → VJ X G S 110 [(0, .ref (G.1 143)), (1, .int a1), (2, .int x2)] [] := by
  intro S x2 h
  refine V_iload_n C 2 dX11_readRest_110 rfl rfl ?_
  refine V_iconst (v := 2) C dX11_readRest_111 (by decide) ?_
  refine V_icmp_ne (tgt := 131) C dX11_readRest_112 (by decide) (fun c => ?_) (fun c => ?_)
  · have h := h.1 c
    exact V_vret C D dX11_readRest_131 h
  · have h := h.2 c
    refine V_aload_n C 0 dX11_readRest_115 rfl rfl ?_
    refine V_ga C 143 (by decide) (by decide) F_11_20 k_RX11_35 dX11_readRest_116 ?_
    refine V_iload_n C 1 dX11_readRest_119 rfl rfl ?_
    refine V_iconst (v := 3) C dX11_readRest_120 (by decide) ?_
    refine V_iadd C dX11_readRest_121 ?_
    refine V_aload_n C 0 dX11_readRest_122 rfl rfl ?_
    refine V_iconst (v := 1) C dX11_readRest_123 (by decide) ?_
    refine V_sipush (v := 999) C dX11_readRest_124 (by decide) ?_
    refine V_callVi (As := [.int 1, .int 999]) (rest := [.int (a1 + 3), .ref (G.1 148)]) C (c_X11_count (v_l X) G  _ _ _ h) 143 11 (by decide) (by decide) (by decide) rfl KV_X11_count k_RX11_217 rfl rfl rfl (Nat.le_of_ble_eq_true rfl) ⟨Nat.le_of_ble_eq_true rfl, Nat.le_of_ble_eq_true rfl⟩ dX11_readRest_127 (fun r25 S24 h => ?_)
    obtain ⟨hi, h⟩ := h
    refine V_iast C 148 1900 (by decide) (by decide) hi dX11_readRest_130 ?_
    refine V_topS (fun S26 eS26 => ?_)
    have h := h S26 eS26
    exact V_vret C D dX11_readRest_131 h
set_option maxHeartbeats 4000000 in
set_option maxRecDepth 100000 in
theorem q_X11_readRest_85 {X : vX} {G : vG}  {post : vSt → Prop} (C : v_Cx X G cX11_readRest RX11 3 (v_rm 6 172)) (D : v_Rx X G (v_Qv G post) none)  {a1 : Int32}   : ∀ (S : vSt) (x2 : Int32), p_X11_readRest_85 a1 post S x2 → VJ X G S 85 [(0, .ref (G.1 143)), (1, .int a1), (2, .int x2)] [] := by
  intro S x2 h
  refine V_iload_n C 2 dX11_readRest_85 rfl rfl ?_
  refine V_iconst (v := 1) C dX11_readRest_86 (by decide) ?_
  refine V_icmp_ne (tgt := 110) C dX11_readRest_87 (by decide) (fun c => ?_) (fun c => ?_)
  · have h := h.1 c
    exact q_X11_readRest_110 C D  _ _ h
  · have h := h.2 c
    refine V_aload_n C 0 dX11_readRest_90 rfl rfl ?_
    refine V_ga C 143 (by decide) (by decide) F_11_20 k_RX11_35 dX11_readRest_91 ?_
    refine V_iload_n C 1 dX11_readRest_94 rfl rfl ?_
    refine V_iconst (v := 3) C dX11_readRest_95 (by decide) ?_
    refine V_iadd C dX11_readRest_96 ?_
    refine V_aload_n C 0 dX11_readRest_97 rfl rfl ?_
    refine V_aload_n C 0 dX11_readRest_98 rfl rfl ?_
    refine V_callVz (As := []) (rest := [.ref (G.1 143), .int (a1 + 3), .ref (G.1 148)]) C (c_X11_isFor (v_l X) G  _ h) 143 11 (by decide) (by decide) (by decide) rfl KV_X11_isFor k_RX11_181 rfl rfl rfl (Nat.le_of_ble_eq_true rfl) ⟨Nat.le_of_ble_eq_true rfl, Nat.le_of_ble_eq_true rfl⟩ dX11_readRest_99 (fun r25 S24 h => ?_)
    refine V_iconst (v := 0) C dX11_readRest_102 (by decide) ?_
    refine V_sipush (v := 9999) C dX11_readRest_103 (by decide) ?_
    refine V_callVi (As := [.int (v_b r25), .int 0, .int 9999]) (rest := [.int (a1 + 3), .ref (G.1 148)]) C (c_X11_behindWord (v_l X) G  _ _ _ _ h) 143 11 (by decide) (by decide) (by decide) rfl KV_X11_behindWord k_RX11_248 rfl rfl rfl (Nat.le_of_ble_eq_true rfl) ⟨Nat.le_of_ble_eq_true rfl, Nat.le_of_ble_eq_true rfl⟩ dX11_readRest_106 (fun r27 S26 h => ?_)
    obtain ⟨hi, h⟩ := h
    refine V_iast C 148 1900 (by decide) (by decide) hi dX11_readRest_109 ?_
    refine V_topS (fun S28 eS28 => ?_)
    have h := h S28 eS28
    exact q_X11_readRest_110 C D  _ _ h
set_option maxHeartbeats 4000000 in
set_option maxRecDepth 100000 in
theorem q_X11_readRest_71 {X : vX} {G : vG}  {post : vSt → Prop} (C : v_Cx X G cX11_readRest RX11 3 (v_rm 6 172)) (D : v_Rx X G (v_Qv G post) none)  {a1 : Int32}   : ∀ (S : vSt) (x2 : Int32), p_X11_readRest_71 a1 post S x2 → VJ X G S 71 [(0, .ref (G.1 143)), (1, .int a1), (2, .int x2)] [] := by
  intro S x2 h
  refine V_aload_n C 0 dX11_readRest_71 rfl rfl ?_
  refine V_ga C 143 (by decide) (by decide) F_11_20 k_RX11_35 dX11_readRest_72 ?_
  refine V_iload_n C 1 dX11_readRest_75 rfl rfl ?_
  refine V_iconst (v := 2) C dX11_readRest_76 (by decide) ?_
  refine V_iadd C dX11_readRest_77 ?_
  refine V_aload_n C 0 dX11_readRest_78 rfl rfl ?_
  refine V_iconst (v := 0) C dX11_readRest_79 (by decide) ?_
  refine V_iconst (v := 1) C dX11_readRest_80 (by decide) ?_
  refine V_callVi (As := [.int 0, .int 1]) (rest := [.int (a1 + 2), .ref (G.1 148)]) C (c_X11_readTold (v_l X) G  _ _ _ h) 143 11 (by decide) (by decide) (by decide) rfl KV_X11_readTold k_RX11_245 rfl rfl rfl (Nat.le_of_ble_eq_true rfl) ⟨Nat.le_of_ble_eq_true rfl, Nat.le_of_ble_eq_true rfl⟩ dX11_readRest_81 (fun r22 S21 h => ?_)
  obtain ⟨hi, h⟩ := h
  refine V_iast C 148 1900 (by decide) (by decide) hi dX11_readRest_84 ?_
  refine V_topS (fun S23 eS23 => ?_)
  have h := h S23 eS23
  exact q_X11_readRest_85 C D  _ _ h
set_option maxHeartbeats 4000000 in
set_option maxRecDepth 100000 in
theorem q_X11_readRest_62 {X : vX} {G : vG}  {post : vSt → Prop} (C : v_Cx X G cX11_readRest RX11 3 (v_rm 6 172)) (D : v_Rx X G (v_Qv G post) none)  {a1 : Int32}   : ∀ (S : vSt) (x2 : Int32), p_X11_readRest_62 a1 post S x2 → VJ X G S 62 [(0, .ref (G.1 143)), (1, .int a1), (2, .int x2)] [] := by
  intro S x2 h
  refine V_iload_n C 2 dX11_readRest_62 rfl rfl ?_
  refine V_if_eq (tgt := 71) C dX11_readRest_63 (by decide) (fun c => ?_) (fun c => ?_)
  · have h := h.1 c
    exact q_X11_readRest_71 C D  _ _ h
  · have h := h.2 c
    refine V_iload_n C 2 dX11_readRest_66 rfl rfl ?_
    refine V_iconst (v := 1) C dX11_readRest_67 (by decide) ?_
    refine V_icmp_ne (tgt := 85) C dX11_readRest_68 (by decide) (fun c => ?_) (fun c => ?_)
    · have h := h.1 c
      exact q_X11_readRest_85 C D  _ _ h
    · have h := h.2 c
      exact q_X11_readRest_71 C D  _ _ h
set_option maxHeartbeats 4000000 in
set_option maxRecDepth 100000 in
theorem c_X11_readRest (l : Launch) (G : vG)    {S : vSt} (a1 : Int32) (post : vSt → Prop) (h : p_X11_readRest   S a1 post) : Met l yX11_readRest (v_ws yX11_readRest cX11_readRest 3 none) (v_rm 6 172) (v_Pc G [.ref (G.1 143), .int a1] S) (v_Qv G post) 0 0 (v_A G) := by
  refine v_start (by decide +kernel) (Nat.le_of_ble_eq_true rfl) (fun X hl C D => ?_)
  subst hl
  have C : v_Cx X G cX11_readRest RX11 3 (v_rm 6 172) := C
  show VJ X G S 0 [(0, .ref (G.1 143)), (1, .int a1)] []
  refine V_aload_n C 0 dX11_readRest_0 rfl rfl ?_
  refine V_ga C 143 (by decide) (by decide) F_11_20 k_RX11_35 dX11_readRest_1 ?_
  refine V_iload_n C 1 dX11_readRest_4 rfl rfl ?_
  obtain ⟨hi, h⟩ := h
  refine V_iald C 148 1900 (by decide) (by decide) hi dX11_readRest_5 ?_
  refine V_topi (fun y20 ey20 => ?_)
  have h := h y20 ey20
  refine V_istore_n (lv' := [(0, .ref (G.1 143)), (1, .int a1), (2, .int y20)]) C [1, 2, 0] dX11_readRest_6 rfl (by decide) rfl ?_
  refine V_iload_n C 2 dX11_readRest_7 rfl rfl ?_
  refine V_iconst (v := 5) C dX11_readRest_8 (by decide) ?_
  refine V_icmp_ne (tgt := 30) C dX11_readRest_9 (by decide) (fun c => ?_) (fun c => ?_)
  · have h := h.1 c
    refine V_iload_n C 2 dX11_readRest_30 rfl rfl ?_
    refine V_iconst (v := 4) C dX11_readRest_31 (by decide) ?_
    refine V_icmp_ne (tgt := 43) C dX11_readRest_32 (by decide) (fun c => ?_) (fun c => ?_)
    · have h := h.1 c
      refine V_iload_n C 2 dX11_readRest_43 rfl rfl ?_
      refine V_iconst (v := 3) C dX11_readRest_44 (by decide) ?_
      refine V_icmp_ge (tgt := 62) C dX11_readRest_45 (by decide) (fun c => ?_) (fun c => ?_)
      · have h := h.1 c
        exact q_X11_readRest_62 C D  _ _ h
      · have h := h.2 c
        refine V_aload_n C 0 dX11_readRest_48 rfl rfl ?_
        refine V_ga C 143 (by decide) (by decide) F_11_20 k_RX11_35 dX11_readRest_49 ?_
        refine V_iload_n C 1 dX11_readRest_52 rfl rfl ?_
        refine V_iconst (v := 1) C dX11_readRest_53 (by decide) ?_
        refine V_iadd C dX11_readRest_54 ?_
        refine V_aload_n C 0 dX11_readRest_55 rfl rfl ?_
        refine V_iconst (v := 0) C dX11_readRest_56 (by decide) ?_
        refine V_iconst (v := 0) C dX11_readRest_57 (by decide) ?_
        refine V_callVi (As := [.int 0, .int 0]) (rest := [.int (a1 + 1), .ref (G.1 148)]) C (c_X11_readTold (v_l X) G  _ _ _ h) 143 11 (by decide) (by decide) (by decide) rfl KV_X11_readTold k_RX11_245 rfl rfl rfl (Nat.le_of_ble_eq_true rfl) ⟨Nat.le_of_ble_eq_true rfl, Nat.le_of_ble_eq_true rfl⟩ dX11_readRest_58 (fun r22 S21 h => ?_)
        obtain ⟨hi, h⟩ := h
        refine V_iast C 148 1900 (by decide) (by decide) hi dX11_readRest_61 ?_
        refine V_topS (fun S23 eS23 => ?_)
        have h := h S23 eS23
        exact q_X11_readRest_62 C D  _ _ h
    · have h := h.2 c
      refine V_aload_n C 0 dX11_readRest_35 rfl rfl ?_
      refine V_iload_n C 1 dX11_readRest_36 rfl rfl ?_
      refine V_callVv (As := [.int a1]) (rest := []) C (c_X11_readTest (v_l X) G  _ _ h) 143 11 (by decide) (by decide) (by decide) rfl KV_X11_readTest k_RX11_277 rfl rfl rfl (Nat.le_of_ble_eq_true rfl) ⟨Nat.le_of_ble_eq_true rfl, Nat.le_of_ble_eq_true rfl⟩ dX11_readRest_37 (fun S24 h => ?_)
      refine V_goto (tgt := 62) C dX11_readRest_40 (by decide) ?_
      exact q_X11_readRest_62 C D  _ _ h
  · have h := h.2 c
    refine V_aload_n C 0 dX11_readRest_12 rfl rfl ?_
    refine V_ga C 143 (by decide) (by decide) F_11_20 k_RX11_35 dX11_readRest_13 ?_
    refine V_iload_n C 1 dX11_readRest_16 rfl rfl ?_
    refine V_iconst (v := 1) C dX11_readRest_17 (by decide) ?_
    refine V_iadd C dX11_readRest_18 ?_
    refine V_aload_n C 0 dX11_readRest_19 rfl rfl ?_
    refine V_iconst (v := 1) C dX11_readRest_20 (by decide) ?_
    refine V_bipush (v := 99) C dX11_readRest_21 (by decide) ?_
    refine V_callVi (As := [.int 1, .int 99]) (rest := [.int (a1 + 1), .ref (G.1 148)]) C (c_X11_count (v_l X) G  _ _ _ h) 143 11 (by decide) (by decide) (by decide) rfl KV_X11_count k_RX11_217 rfl rfl rfl (Nat.le_of_ble_eq_true rfl) ⟨Nat.le_of_ble_eq_true rfl, Nat.le_of_ble_eq_true rfl⟩ dX11_readRest_23 (fun r26 S25 h => ?_)
    obtain ⟨hi, h⟩ := h
    refine V_iast C 148 1900 (by decide) (by decide) hi dX11_readRest_26 ?_
    refine V_topS (fun S27 eS27 => ?_)
    have h := h S27 eS27
    refine V_goto (tgt := 62) C dX11_readRest_27 (by decide) ?_
    exact q_X11_readRest_62 C D  _ _ h
/-! HalfAccuserModel.isOne(I)Z -/
theorem dX11_isOne_0 : decode cX11_isOne 0 = .ok ((.iload_n 1), 1) := by decide +kernel
theorem dX11_isOne_1 : decode cX11_isOne 1 = .ok (.i2l, 1) := by decide +kernel
theorem dX11_isOne_2 : decode cX11_isOne 2 = .ok ((.lconst 0), 1) := by decide +kernel
theorem dX11_isOne_3 : decode cX11_isOne 3 = .ok ((.aload_n 0), 1) := by decide +kernel
theorem dX11_isOne_4 : decode cX11_isOne 4 = .ok ((.getfield 35), 3) := by decide +kernel
theorem dX11_isOne_7 : decode cX11_isOne 7 = .ok ((.iconst 0), 1) := by decide +kernel
theorem dX11_isOne_8 : decode cX11_isOne 8 = .ok (.iaload, 1) := by decide +kernel
theorem dX11_isOne_9 : decode cX11_isOne 9 = .ok ((.iconst 1), 1) := by decide +kernel
theorem dX11_isOne_10 : decode cX11_isOne 10 = .ok (.isub, 1) := by decide +kernel
theorem dX11_isOne_11 : decode cX11_isOne 11 = .ok (.i2l, 1) := by decide +kernel
theorem dX11_isOne_12 : decode cX11_isOne 12 = .ok ((.invokestatic 95), 3) := by decide +kernel
theorem dX11_isOne_15 : decode cX11_isOne 15 = .ok (.ireturn, 1) := by decide +kernel
def p_X11_isOne   (S : vSt) (a1 : Int32) (post : Bool → vSt → Prop) : Prop := (vp_in 0 1900 ∧ p_X11_isIn  S (Int32.toInt64 a1) 0 (Int32.toInt64 ((S.1 148 (Int32.toNatClampNeg 0)) - 1)) (fun r4 S3 => post r4 S3))
set_option maxHeartbeats 4000000 in
set_option maxRecDepth 100000 in
theorem c_X11_isOne (l : Launch) (G : vG)    {S : vSt} (a1 : Int32) (post : Bool → vSt → Prop) (h : p_X11_isOne   S a1 post) : Met l yX11_isOne (v_ws yX11_isOne cX11_isOne 2 (some .boolean)) (v_rm 1 65) (v_Pc G [.ref (G.1 143), .int a1] S) (v_Qz G post) 0 0 (v_A G) := by
  refine v_start (by decide +kernel) (Nat.le_of_ble_eq_true rfl) (fun X hl C D => ?_)
  subst hl
  have C : v_Cx X G cX11_isOne RX11 2 (v_rm 1 65) := C
  show VJ X G S 0 [(0, .ref (G.1 143)), (1, .int a1)] []
  refine V_iload_n C 1 dX11_isOne_0 rfl rfl ?_
  refine V_i2l C dX11_isOne_1 ?_
  refine V_lconst (v := 0) C dX11_isOne_2 (by decide) ?_
  refine V_aload_n C 0 dX11_isOne_3 rfl rfl ?_
  refine V_ga C 143 (by decide) (by decide) F_11_20 k_RX11_35 dX11_isOne_4 ?_
  refine V_iconst (v := 0) C dX11_isOne_7 (by decide) ?_
  obtain ⟨hi, h⟩ := h
  refine V_iald C 148 1900 (by decide) (by decide) hi dX11_isOne_8 ?_
  refine V_iconst (v := 1) C dX11_isOne_9 (by decide) ?_
  refine V_isub C dX11_isOne_10 ?_
  refine V_i2l C dX11_isOne_11 ?_
  refine V_callSz (As := [.long (Int32.toInt64 a1), .long 0, .long (Int32.toInt64 ((S.1 148 (Int32.toNatClampNeg 0)) - 1))]) (rest := []) C (c_X11_isIn (v_l X) G  _ _ _ _ h) KV_X11_isIn k_RX11_95 rfl rfl rfl (Nat.le_of_ble_eq_true rfl) ⟨Nat.le_of_ble_eq_true rfl, Nat.le_of_ble_eq_true rfl⟩ dX11_isOne_12 (fun r4 S3 h => ?_)
  exact V_zret C D dX11_isOne_15 h
/-! HalfAccuserModel.isDeedAt(I)Z -/
theorem dX11_isDeedAt_0 : decode cX11_isDeedAt 0 = .ok ((.iload_n 1), 1) := by decide +kernel
theorem dX11_isDeedAt_1 : decode cX11_isDeedAt 1 = .ok (.i2l, 1) := by decide +kernel
theorem dX11_isDeedAt_2 : decode cX11_isDeedAt 2 = .ok ((.lconst 0), 1) := by decide +kernel
theorem dX11_isDeedAt_3 : decode cX11_isDeedAt 3 = .ok ((.aload_n 0), 1) := by decide +kernel
theorem dX11_isDeedAt_4 : decode cX11_isDeedAt 4 = .ok ((.getfield 35), 3) := by decide +kernel
theorem dX11_isDeedAt_7 : decode cX11_isDeedAt 7 = .ok ((.iconst 1), 1) := by decide +kernel
theorem dX11_isDeedAt_8 : decode cX11_isDeedAt 8 = .ok (.iaload, 1) := by decide +kernel
theorem dX11_isDeedAt_9 : decode cX11_isDeedAt 9 = .ok ((.iconst 1), 1) := by decide +kernel
theorem dX11_isDeedAt_10 : decode cX11_isDeedAt 10 = .ok (.isub, 1) := by decide +kernel
theorem dX11_isDeedAt_11 : decode cX11_isDeedAt 11 = .ok (.i2l, 1) := by decide +kernel
theorem dX11_isDeedAt_12 : decode cX11_isDeedAt 12 = .ok ((.invokestatic 95), 3) := by decide +kernel
theorem dX11_isDeedAt_15 : decode cX11_isDeedAt 15 = .ok (.ireturn, 1) := by decide +kernel
def p_X11_isDeedAt   (S : vSt) (a1 : Int32) (post : Bool → vSt → Prop) : Prop := (vp_in 1 1900 ∧ p_X11_isIn  S (Int32.toInt64 a1) 0 (Int32.toInt64 ((S.1 148 (Int32.toNatClampNeg 1)) - 1)) (fun r4 S3 => post r4 S3))
set_option maxHeartbeats 4000000 in
set_option maxRecDepth 100000 in
theorem c_X11_isDeedAt (l : Launch) (G : vG)    {S : vSt} (a1 : Int32) (post : Bool → vSt → Prop) (h : p_X11_isDeedAt   S a1 post) : Met l yX11_isDeedAt (v_ws yX11_isDeedAt cX11_isDeedAt 2 (some .boolean)) (v_rm 1 65) (v_Pc G [.ref (G.1 143), .int a1] S) (v_Qz G post) 0 0 (v_A G) := by
  refine v_start (by decide +kernel) (Nat.le_of_ble_eq_true rfl) (fun X hl C D => ?_)
  subst hl
  have C : v_Cx X G cX11_isDeedAt RX11 2 (v_rm 1 65) := C
  show VJ X G S 0 [(0, .ref (G.1 143)), (1, .int a1)] []
  refine V_iload_n C 1 dX11_isDeedAt_0 rfl rfl ?_
  refine V_i2l C dX11_isDeedAt_1 ?_
  refine V_lconst (v := 0) C dX11_isDeedAt_2 (by decide) ?_
  refine V_aload_n C 0 dX11_isDeedAt_3 rfl rfl ?_
  refine V_ga C 143 (by decide) (by decide) F_11_20 k_RX11_35 dX11_isDeedAt_4 ?_
  refine V_iconst (v := 1) C dX11_isDeedAt_7 (by decide) ?_
  obtain ⟨hi, h⟩ := h
  refine V_iald C 148 1900 (by decide) (by decide) hi dX11_isDeedAt_8 ?_
  refine V_iconst (v := 1) C dX11_isDeedAt_9 (by decide) ?_
  refine V_isub C dX11_isDeedAt_10 ?_
  refine V_i2l C dX11_isDeedAt_11 ?_
  refine V_callSz (As := [.long (Int32.toInt64 a1), .long 0, .long (Int32.toInt64 ((S.1 148 (Int32.toNatClampNeg 1)) - 1))]) (rest := []) C (c_X11_isIn (v_l X) G  _ _ _ _ h) KV_X11_isIn k_RX11_95 rfl rfl rfl (Nat.le_of_ble_eq_true rfl) ⟨Nat.le_of_ble_eq_true rfl, Nat.le_of_ble_eq_true rfl⟩ dX11_isDeedAt_12 (fun r4 S3 h => ?_)
  exact V_zret C D dX11_isDeedAt_15 h
/-! HalfAccuserModel.areBoth(II)Z -/
theorem dX11_areBoth_0 : decode cX11_areBoth 0 = .ok ((.aload_n 0), 1) := by decide +kernel
theorem dX11_areBoth_1 : decode cX11_areBoth 1 = .ok ((.iload_n 1), 1) := by decide +kernel
theorem dX11_areBoth_2 : decode cX11_areBoth 2 = .ok ((.invokevirtual 289), 3) := by decide +kernel
theorem dX11_areBoth_5 : decode cX11_areBoth 5 = .ok ((.ifCond .eq 15), 3) := by decide +kernel
theorem dX11_areBoth_8 : decode cX11_areBoth 8 = .ok ((.aload_n 0), 1) := by decide +kernel
theorem dX11_areBoth_9 : decode cX11_areBoth 9 = .ok ((.iload_n 2), 1) := by decide +kernel
theorem dX11_areBoth_10 : decode cX11_areBoth 10 = .ok ((.invokevirtual 292), 3) := by decide +kernel
theorem dX11_areBoth_13 : decode cX11_areBoth 13 = .ok ((.ifCond .eq 7), 3) := by decide +kernel
theorem dX11_areBoth_16 : decode cX11_areBoth 16 = .ok ((.iconst 1), 1) := by decide +kernel
theorem dX11_areBoth_17 : decode cX11_areBoth 17 = .ok ((.goto 4), 3) := by decide +kernel
theorem dX11_areBoth_20 : decode cX11_areBoth 20 = .ok ((.iconst 0), 1) := by decide +kernel
theorem dX11_areBoth_21 : decode cX11_areBoth 21 = .ok (.ireturn, 1) := by decide +kernel
def p_X11_areBoth   (S : vSt) (a1 : Int32) (a2 : Int32) (post : Bool → vSt → Prop) : Prop := p_X11_isOne  S a1 (fun r6 S5 => ((r6 = false → post false S5) ∧ (r6 = true → p_X11_isDeedAt  S5 a2 (fun r8 S7 => ((r8 = false → post false S7) ∧ (r8 = true → post true S7))))))
set_option maxHeartbeats 4000000 in
set_option maxRecDepth 100000 in
theorem c_X11_areBoth (l : Launch) (G : vG)    {S : vSt} (a1 : Int32) (a2 : Int32) (post : Bool → vSt → Prop) (h : p_X11_areBoth   S a1 a2 post) : Met l yX11_areBoth (v_ws yX11_areBoth cX11_areBoth 3 (some .boolean)) (v_rm 2 86) (v_Pc G [.ref (G.1 143), .int a1, .int a2] S) (v_Qz G post) 0 0 (v_A G) := by
  refine v_start (by decide +kernel) (Nat.le_of_ble_eq_true rfl) (fun X hl C D => ?_)
  subst hl
  have C : v_Cx X G cX11_areBoth RX11 3 (v_rm 2 86) := C
  show VJ X G S 0 [(0, .ref (G.1 143)), (1, .int a1), (2, .int a2)] []
  refine V_aload_n C 0 dX11_areBoth_0 rfl rfl ?_
  refine V_iload_n C 1 dX11_areBoth_1 rfl rfl ?_
  refine V_callVz (As := [.int a1]) (rest := []) C (c_X11_isOne (v_l X) G  _ _ h) 143 11 (by decide) (by decide) (by decide) rfl KV_X11_isOne k_RX11_289 rfl rfl rfl (Nat.le_of_ble_eq_true rfl) ⟨Nat.le_of_ble_eq_true rfl, Nat.le_of_ble_eq_true rfl⟩ dX11_areBoth_2 (fun r6 S5 h => ?_)
  refine V_ifb_eq (tgt := 20) C dX11_areBoth_5 (by decide) (fun c => ?_) (fun c => ?_)
  · have h := h.1 c
    refine V_iconst (v := 0) C dX11_areBoth_20 (by decide) ?_
    exact V_zret0 C D dX11_areBoth_21 h
  · have h := h.2 c
    refine V_aload_n C 0 dX11_areBoth_8 rfl rfl ?_
    refine V_iload_n C 2 dX11_areBoth_9 rfl rfl ?_
    refine V_callVz (As := [.int a2]) (rest := []) C (c_X11_isDeedAt (v_l X) G  _ _ h) 143 11 (by decide) (by decide) (by decide) rfl KV_X11_isDeedAt k_RX11_292 rfl rfl rfl (Nat.le_of_ble_eq_true rfl) ⟨Nat.le_of_ble_eq_true rfl, Nat.le_of_ble_eq_true rfl⟩ dX11_areBoth_10 (fun r8 S7 h => ?_)
    refine V_ifb_eq (tgt := 20) C dX11_areBoth_13 (by decide) (fun c => ?_) (fun c => ?_)
    · have h := h.1 c
      refine V_iconst (v := 0) C dX11_areBoth_20 (by decide) ?_
      exact V_zret0 C D dX11_areBoth_21 h
    · have h := h.2 c
      refine V_iconst (v := 1) C dX11_areBoth_16 (by decide) ?_
      refine V_goto (tgt := 21) C dX11_areBoth_17 (by decide) ?_
      exact V_zret1 C D dX11_areBoth_21 h
/-! HalfAccuserModel.isRuined(I)Z -/
theorem dX11_isRuined_0 : decode cX11_isRuined 0 = .ok ((.aload_n 0), 1) := by decide +kernel
theorem dX11_isRuined_1 : decode cX11_isRuined 1 = .ok ((.getfield 35), 3) := by decide +kernel
theorem dX11_isRuined_4 : decode cX11_isRuined 4 = .ok ((.bipush 8), 2) := by decide +kernel
theorem dX11_isRuined_6 : decode cX11_isRuined 6 = .ok ((.iload_n 1), 1) := by decide +kernel
theorem dX11_isRuined_7 : decode cX11_isRuined 7 = .ok (.iadd, 1) := by decide +kernel
theorem dX11_isRuined_8 : decode cX11_isRuined 8 = .ok (.iaload, 1) := by decide +kernel
theorem dX11_isRuined_9 : decode cX11_isRuined 9 = .ok ((.ifCond .ge 7), 3) := by decide +kernel
theorem dX11_isRuined_12 : decode cX11_isRuined 12 = .ok ((.iconst 1), 1) := by decide +kernel
theorem dX11_isRuined_13 : decode cX11_isRuined 13 = .ok ((.goto 4), 3) := by decide +kernel
theorem dX11_isRuined_16 : decode cX11_isRuined 16 = .ok ((.iconst 0), 1) := by decide +kernel
theorem dX11_isRuined_17 : decode cX11_isRuined 17 = .ok (.ireturn, 1) := by decide +kernel
def p_X11_isRuined   (S : vSt) (a1 : Int32) (post : Bool → vSt → Prop) : Prop := (vp_in (8 + a1) 1900 ∧ ((0 ≤ (S.1 148 (Int32.toNatClampNeg (8 + a1))) → post false S) ∧ (¬ 0 ≤ (S.1 148 (Int32.toNatClampNeg (8 + a1))) → post true S)))
set_option maxHeartbeats 4000000 in
set_option maxRecDepth 100000 in
theorem c_X11_isRuined (l : Launch) (G : vG)    {S : vSt} (a1 : Int32) (post : Bool → vSt → Prop) (h : p_X11_isRuined   S a1 post) : Met l yX11_isRuined (v_ws yX11_isRuined cX11_isRuined 2 (some .boolean)) (v_rm 0 40) (v_Pc G [.ref (G.1 143), .int a1] S) (v_Qz G post) 0 0 (v_A G) := by
  refine v_start (by decide +kernel) (Nat.le_of_ble_eq_true rfl) (fun X hl C D => ?_)
  subst hl
  have C : v_Cx X G cX11_isRuined RX11 2 (v_rm 0 40) := C
  show VJ X G S 0 [(0, .ref (G.1 143)), (1, .int a1)] []
  refine V_aload_n C 0 dX11_isRuined_0 rfl rfl ?_
  refine V_ga C 143 (by decide) (by decide) F_11_20 k_RX11_35 dX11_isRuined_1 ?_
  refine V_bipush (v := 8) C dX11_isRuined_4 (by decide) ?_
  refine V_iload_n C 1 dX11_isRuined_6 rfl rfl ?_
  refine V_iadd C dX11_isRuined_7 ?_
  obtain ⟨hi, h⟩ := h
  refine V_iald C 148 1900 (by decide) (by decide) hi dX11_isRuined_8 ?_
  refine V_if_ge (tgt := 16) C dX11_isRuined_9 (by decide) (fun c => ?_) (fun c => ?_)
  · have h := h.1 c
    refine V_iconst (v := 0) C dX11_isRuined_16 (by decide) ?_
    exact V_zret0 C D dX11_isRuined_17 h
  · have h := h.2 c
    refine V_iconst (v := 1) C dX11_isRuined_12 (by decide) ?_
    refine V_goto (tgt := 17) C dX11_isRuined_13 (by decide) ?_
    exact V_zret1 C D dX11_isRuined_17 h
/-! HalfAccuserModel.isOpen(I)Z -/
theorem dX11_isOpen_0 : decode cX11_isOpen 0 = .ok ((.aload_n 0), 1) := by decide +kernel
theorem dX11_isOpen_1 : decode cX11_isOpen 1 = .ok ((.getfield 35), 3) := by decide +kernel
theorem dX11_isOpen_4 : decode cX11_isOpen 4 = .ok ((.bipush 78), 2) := by decide +kernel
theorem dX11_isOpen_6 : decode cX11_isOpen 6 = .ok ((.iload_n 1), 1) := by decide +kernel
theorem dX11_isOpen_7 : decode cX11_isOpen 7 = .ok (.iadd, 1) := by decide +kernel
theorem dX11_isOpen_8 : decode cX11_isOpen 8 = .ok (.iaload, 1) := by decide +kernel
theorem dX11_isOpen_9 : decode cX11_isOpen 9 = .ok ((.ifCond .ne 7), 3) := by decide +kernel
theorem dX11_isOpen_12 : decode cX11_isOpen 12 = .ok ((.iconst 1), 1) := by decide +kernel
theorem dX11_isOpen_13 : decode cX11_isOpen 13 = .ok ((.goto 4), 3) := by decide +kernel
theorem dX11_isOpen_16 : decode cX11_isOpen 16 = .ok ((.iconst 0), 1) := by decide +kernel
theorem dX11_isOpen_17 : decode cX11_isOpen 17 = .ok (.ireturn, 1) := by decide +kernel
def p_X11_isOpen   (S : vSt) (a1 : Int32) (post : Bool → vSt → Prop) : Prop := (vp_in (78 + a1) 1900 ∧ ((¬ (S.1 148 (Int32.toNatClampNeg (78 + a1))) = 0 → post false S) ∧ ((S.1 148 (Int32.toNatClampNeg (78 + a1))) = 0 → post true S)))
set_option maxHeartbeats 4000000 in
set_option maxRecDepth 100000 in
theorem c_X11_isOpen (l : Launch) (G : vG)    {S : vSt} (a1 : Int32) (post : Bool → vSt → Prop) (h : p_X11_isOpen   S a1 post) : Met l yX11_isOpen (v_ws yX11_isOpen cX11_isOpen 2 (some .boolean)) (v_rm 0 40) (v_Pc G [.ref (G.1 143), .int a1] S) (v_Qz G post) 0 0 (v_A G) := by
  refine v_start (by decide +kernel) (Nat.le_of_ble_eq_true rfl) (fun X hl C D => ?_)
  subst hl
  have C : v_Cx X G cX11_isOpen RX11 2 (v_rm 0 40) := C
  show VJ X G S 0 [(0, .ref (G.1 143)), (1, .int a1)] []
  refine V_aload_n C 0 dX11_isOpen_0 rfl rfl ?_
  refine V_ga C 143 (by decide) (by decide) F_11_20 k_RX11_35 dX11_isOpen_1 ?_
  refine V_bipush (v := 78) C dX11_isOpen_4 (by decide) ?_
  refine V_iload_n C 1 dX11_isOpen_6 rfl rfl ?_
  refine V_iadd C dX11_isOpen_7 ?_
  obtain ⟨hi, h⟩ := h
  refine V_iald C 148 1900 (by decide) (by decide) hi dX11_isOpen_8 ?_
  refine V_if_ne (tgt := 16) C dX11_isOpen_9 (by decide) (fun c => ?_) (fun c => ?_)
  · have h := h.1 c
    refine V_iconst (v := 0) C dX11_isOpen_16 (by decide) ?_
    exact V_zret0 C D dX11_isOpen_17 h
  · have h := h.2 c
    refine V_iconst (v := 1) C dX11_isOpen_12 (by decide) ?_
    refine V_goto (tgt := 17) C dX11_isOpen_13 (by decide) ?_
    exact V_zret1 C D dX11_isOpen_17 h
/-! HalfAccuserModel.canCharge(II)Z -/
theorem dX11_canCharge_0 : decode cX11_canCharge 0 = .ok ((.aload_n 0), 1) := by decide +kernel
theorem dX11_canCharge_1 : decode cX11_canCharge 1 = .ok ((.iload_n 2), 1) := by decide +kernel
theorem dX11_canCharge_2 : decode cX11_canCharge 2 = .ok ((.invokevirtual 295), 3) := by decide +kernel
theorem dX11_canCharge_5 : decode cX11_canCharge 5 = .ok ((.ifCond .eq 44), 3) := by decide +kernel
theorem dX11_canCharge_8 : decode cX11_canCharge 8 = .ok ((.aload_n 0), 1) := by decide +kernel
theorem dX11_canCharge_9 : decode cX11_canCharge 9 = .ok ((.getfield 35), 3) := by decide +kernel
theorem dX11_canCharge_12 : decode cX11_canCharge 12 = .ok ((.bipush 48), 2) := by decide +kernel
theorem dX11_canCharge_14 : decode cX11_canCharge 14 = .ok ((.iload_n 2), 1) := by decide +kernel
theorem dX11_canCharge_15 : decode cX11_canCharge 15 = .ok (.iadd, 1) := by decide +kernel
theorem dX11_canCharge_16 : decode cX11_canCharge 16 = .ok (.iaload, 1) := by decide +kernel
theorem dX11_canCharge_17 : decode cX11_canCharge 17 = .ok ((.iload_n 1), 1) := by decide +kernel
theorem dX11_canCharge_18 : decode cX11_canCharge 18 = .ok ((.if_icmp .eq 31), 3) := by decide +kernel
theorem dX11_canCharge_21 : decode cX11_canCharge 21 = .ok ((.aload_n 0), 1) := by decide +kernel
theorem dX11_canCharge_22 : decode cX11_canCharge 22 = .ok ((.getfield 35), 3) := by decide +kernel
theorem dX11_canCharge_25 : decode cX11_canCharge 25 = .ok ((.bipush 40), 2) := by decide +kernel
theorem dX11_canCharge_27 : decode cX11_canCharge 27 = .ok ((.iload_n 1), 1) := by decide +kernel
theorem dX11_canCharge_28 : decode cX11_canCharge 28 = .ok (.iadd, 1) := by decide +kernel
theorem dX11_canCharge_29 : decode cX11_canCharge 29 = .ok (.iaload, 1) := by decide +kernel
theorem dX11_canCharge_30 : decode cX11_canCharge 30 = .ok ((.iload_n 2), 1) := by decide +kernel
theorem dX11_canCharge_31 : decode cX11_canCharge 31 = .ok ((.invokestatic 99), 3) := by decide +kernel
theorem dX11_canCharge_34 : decode cX11_canCharge 34 = .ok ((.ifCond .ne 15), 3) := by decide +kernel
theorem dX11_canCharge_37 : decode cX11_canCharge 37 = .ok ((.aload_n 0), 1) := by decide +kernel
theorem dX11_canCharge_38 : decode cX11_canCharge 38 = .ok ((.iload_n 1), 1) := by decide +kernel
theorem dX11_canCharge_39 : decode cX11_canCharge 39 = .ok ((.invokevirtual 298), 3) := by decide +kernel
theorem dX11_canCharge_42 : decode cX11_canCharge 42 = .ok ((.ifCond .ne 7), 3) := by decide +kernel
theorem dX11_canCharge_45 : decode cX11_canCharge 45 = .ok ((.iconst 1), 1) := by decide +kernel
theorem dX11_canCharge_46 : decode cX11_canCharge 46 = .ok ((.goto 4), 3) := by decide +kernel
theorem dX11_canCharge_49 : decode cX11_canCharge 49 = .ok ((.iconst 0), 1) := by decide +kernel
theorem dX11_canCharge_50 : decode cX11_canCharge 50 = .ok (.ireturn, 1) := by decide +kernel
def p_X11_canCharge   (S : vSt) (a1 : Int32) (a2 : Int32) (post : Bool → vSt → Prop) : Prop := p_X11_isOpen  S a2 (fun r8 S7 => ((r8 = false → post false S7) ∧ (r8 = true → (vp_in (48 + a2) 1900 ∧ (((S7.1 148 (Int32.toNatClampNeg (48 + a2))) = a1 → post false S7) ∧ (¬ (S7.1 148 (Int32.toNatClampNeg (48 + a2))) = a1 → (vp_in (40 + a1) 1900 ∧ p_X11_has  S7 (S7.1 148 (Int32.toNatClampNeg (40 + a1))) a2 (fun r10 S9 => ((r10 = true → post false S9) ∧ (r10 = false → p_X11_isRuined  S9 a1 (fun r12 S11 => ((r12 = true → post false S11) ∧ (r12 = false → post true S11)))))))))))))
set_option maxHeartbeats 4000000 in
set_option maxRecDepth 100000 in
theorem c_X11_canCharge (l : Launch) (G : vG)    {S : vSt} (a1 : Int32) (a2 : Int32) (post : Bool → vSt → Prop) (h : p_X11_canCharge   S a1 a2 post) : Met l yX11_canCharge (v_ws yX11_canCharge cX11_canCharge 3 (some .boolean)) (v_rm 1 61) (v_Pc G [.ref (G.1 143), .int a1, .int a2] S) (v_Qz G post) 0 0 (v_A G) := by
  refine v_start (by decide +kernel) (Nat.le_of_ble_eq_true rfl) (fun X hl C D => ?_)
  subst hl
  have C : v_Cx X G cX11_canCharge RX11 3 (v_rm 1 61) := C
  show VJ X G S 0 [(0, .ref (G.1 143)), (1, .int a1), (2, .int a2)] []
  refine V_aload_n C 0 dX11_canCharge_0 rfl rfl ?_
  refine V_iload_n C 2 dX11_canCharge_1 rfl rfl ?_
  refine V_callVz (As := [.int a2]) (rest := []) C (c_X11_isOpen (v_l X) G  _ _ h) 143 11 (by decide) (by decide) (by decide) rfl KV_X11_isOpen k_RX11_295 rfl rfl rfl (Nat.le_of_ble_eq_true rfl) ⟨Nat.le_of_ble_eq_true rfl, Nat.le_of_ble_eq_true rfl⟩ dX11_canCharge_2 (fun r8 S7 h => ?_)
  refine V_ifb_eq (tgt := 49) C dX11_canCharge_5 (by decide) (fun c => ?_) (fun c => ?_)
  · have h := h.1 c
    refine V_iconst (v := 0) C dX11_canCharge_49 (by decide) ?_
    exact V_zret0 C D dX11_canCharge_50 h
  · have h := h.2 c
    refine V_aload_n C 0 dX11_canCharge_8 rfl rfl ?_
    refine V_ga C 143 (by decide) (by decide) F_11_20 k_RX11_35 dX11_canCharge_9 ?_
    refine V_bipush (v := 48) C dX11_canCharge_12 (by decide) ?_
    refine V_iload_n C 2 dX11_canCharge_14 rfl rfl ?_
    refine V_iadd C dX11_canCharge_15 ?_
    obtain ⟨hi, h⟩ := h
    refine V_iald C 148 1900 (by decide) (by decide) hi dX11_canCharge_16 ?_
    refine V_iload_n C 1 dX11_canCharge_17 rfl rfl ?_
    refine V_icmp_eq (tgt := 49) C dX11_canCharge_18 (by decide) (fun c => ?_) (fun c => ?_)
    · have h := h.1 c
      refine V_iconst (v := 0) C dX11_canCharge_49 (by decide) ?_
      exact V_zret0 C D dX11_canCharge_50 h
    · have h := h.2 c
      refine V_aload_n C 0 dX11_canCharge_21 rfl rfl ?_
      refine V_ga C 143 (by decide) (by decide) F_11_20 k_RX11_35 dX11_canCharge_22 ?_
      refine V_bipush (v := 40) C dX11_canCharge_25 (by decide) ?_
      refine V_iload_n C 1 dX11_canCharge_27 rfl rfl ?_
      refine V_iadd C dX11_canCharge_28 ?_
      obtain ⟨hi, h⟩ := h
      refine V_iald C 148 1900 (by decide) (by decide) hi dX11_canCharge_29 ?_
      refine V_iload_n C 2 dX11_canCharge_30 rfl rfl ?_
      refine V_callSz (As := [.int (S7.1 148 (Int32.toNatClampNeg (40 + a1))), .int a2]) (rest := []) C (c_X11_has (v_l X) G  _ _ _ h) KV_X11_has k_RX11_99 rfl rfl rfl (Nat.le_of_ble_eq_true rfl) ⟨Nat.le_of_ble_eq_true rfl, Nat.le_of_ble_eq_true rfl⟩ dX11_canCharge_31 (fun r10 S9 h => ?_)
      refine V_ifb_ne (tgt := 49) C dX11_canCharge_34 (by decide) (fun c => ?_) (fun c => ?_)
      · have h := h.1 c
        refine V_iconst (v := 0) C dX11_canCharge_49 (by decide) ?_
        exact V_zret0 C D dX11_canCharge_50 h
      · have h := h.2 c
        refine V_aload_n C 0 dX11_canCharge_37 rfl rfl ?_
        refine V_iload_n C 1 dX11_canCharge_38 rfl rfl ?_
        refine V_callVz (As := [.int a1]) (rest := []) C (c_X11_isRuined (v_l X) G  _ _ h) 143 11 (by decide) (by decide) (by decide) rfl KV_X11_isRuined k_RX11_298 rfl rfl rfl (Nat.le_of_ble_eq_true rfl) ⟨Nat.le_of_ble_eq_true rfl, Nat.le_of_ble_eq_true rfl⟩ dX11_canCharge_39 (fun r12 S11 h => ?_)
        refine V_ifb_ne (tgt := 49) C dX11_canCharge_42 (by decide) (fun c => ?_) (fun c => ?_)
        · have h := h.1 c
          refine V_iconst (v := 0) C dX11_canCharge_49 (by decide) ?_
          exact V_zret0 C D dX11_canCharge_50 h
        · have h := h.2 c
          refine V_iconst (v := 1) C dX11_canCharge_45 (by decide) ?_
          refine V_goto (tgt := 50) C dX11_canCharge_46 (by decide) ?_
          exact V_zret1 C D dX11_canCharge_50 h
/-! HalfAccuserModel.deedsThat(I)I -/
theorem dX11_deedsThat_0 : decode cX11_deedsThat 0 = .ok ((.iconst 0), 1) := by decide +kernel
theorem dX11_deedsThat_1 : decode cX11_deedsThat 1 = .ok ((.istore_n 2), 1) := by decide +kernel
theorem dX11_deedsThat_2 : decode cX11_deedsThat 2 = .ok ((.iconst 0), 1) := by decide +kernel
theorem dX11_deedsThat_3 : decode cX11_deedsThat 3 = .ok ((.istore_n 3), 1) := by decide +kernel
theorem dX11_deedsThat_4 : decode cX11_deedsThat 4 = .ok ((.iload_n 3), 1) := by decide +kernel
theorem dX11_deedsThat_5 : decode cX11_deedsThat 5 = .ok ((.aload_n 0), 1) := by decide +kernel
theorem dX11_deedsThat_6 : decode cX11_deedsThat 6 = .ok ((.getfield 35), 3) := by decide +kernel
theorem dX11_deedsThat_9 : decode cX11_deedsThat 9 = .ok ((.iconst 1), 1) := by decide +kernel
theorem dX11_deedsThat_10 : decode cX11_deedsThat 10 = .ok (.iaload, 1) := by decide +kernel
theorem dX11_deedsThat_11 : decode cX11_deedsThat 11 = .ok ((.if_icmp .ge 32), 3) := by decide +kernel
theorem dX11_deedsThat_14 : decode cX11_deedsThat 14 = .ok ((.iload_n 2), 1) := by decide +kernel
theorem dX11_deedsThat_15 : decode cX11_deedsThat 15 = .ok ((.aload_n 0), 1) := by decide +kernel
theorem dX11_deedsThat_16 : decode cX11_deedsThat 16 = .ok ((.getfield 35), 3) := by decide +kernel
theorem dX11_deedsThat_19 : decode cX11_deedsThat 19 = .ok ((.bipush 78), 2) := by decide +kernel
theorem dX11_deedsThat_21 : decode cX11_deedsThat 21 = .ok ((.iload_n 3), 1) := by decide +kernel
theorem dX11_deedsThat_22 : decode cX11_deedsThat 22 = .ok (.iadd, 1) := by decide +kernel
theorem dX11_deedsThat_23 : decode cX11_deedsThat 23 = .ok (.iaload, 1) := by decide +kernel
theorem dX11_deedsThat_24 : decode cX11_deedsThat 24 = .ok ((.iload_n 1), 1) := by decide +kernel
theorem dX11_deedsThat_25 : decode cX11_deedsThat 25 = .ok ((.if_icmp .ne 9), 3) := by decide +kernel
theorem dX11_deedsThat_28 : decode cX11_deedsThat 28 = .ok ((.iconst 1), 1) := by decide +kernel
theorem dX11_deedsThat_29 : decode cX11_deedsThat 29 = .ok ((.iload_n 3), 1) := by decide +kernel
theorem dX11_deedsThat_30 : decode cX11_deedsThat 30 = .ok (.ishl, 1) := by decide +kernel
theorem dX11_deedsThat_31 : decode cX11_deedsThat 31 = .ok ((.goto 4), 3) := by decide +kernel
theorem dX11_deedsThat_34 : decode cX11_deedsThat 34 = .ok ((.iconst 0), 1) := by decide +kernel
theorem dX11_deedsThat_35 : decode cX11_deedsThat 35 = .ok (.ior, 1) := by decide +kernel
theorem dX11_deedsThat_36 : decode cX11_deedsThat 36 = .ok ((.istore_n 2), 1) := by decide +kernel
theorem dX11_deedsThat_37 : decode cX11_deedsThat 37 = .ok ((.iinc 3 1), 3) := by decide +kernel
theorem dX11_deedsThat_40 : decode cX11_deedsThat 40 = .ok ((.goto (-36)), 3) := by decide +kernel
theorem dX11_deedsThat_43 : decode cX11_deedsThat 43 = .ok ((.iload_n 2), 1) := by decide +kernel
theorem dX11_deedsThat_44 : decode cX11_deedsThat 44 = .ok (.ireturn, 1) := by decide +kernel
def p_X11_deedsThat_35  (a1 : Int32)  (K4 : vSt → Int32 → Int32 → Prop) (post : Int32 → vSt → Prop) (S : vSt) (x3 : Int32) (s0 : Int32) (s1 : Int32) : Prop := ∀ y5 : Int32, y5 = (s1 ||| s0) → ∀ y6 : Int32, y6 = x3 + 1 → K4 S y5 y6
def p_X11_deedsThat_4  (a1 : Int32)   (post : Int32 → vSt → Prop) : Nat → vSt → Int32 → Int32 → Prop
  | 0 => fun _ _ _ => False
  | fu4 + 1 => fun S x2 x3 => (vp_in 1 1900 ∧ (((S.1 148 (Int32.toNatClampNeg 1)) ≤ x3 → post x2 S) ∧ (¬ (S.1 148 (Int32.toNatClampNeg 1)) ≤ x3 → (vp_in (78 + x3) 1900 ∧ ((¬ (S.1 148 (Int32.toNatClampNeg (78 + x3))) = a1 → p_X11_deedsThat_35 a1 (p_X11_deedsThat_4 a1 post fu4) post S x3 0 x2) ∧ ((S.1 148 (Int32.toNatClampNeg (78 + x3))) = a1 → p_X11_deedsThat_35 a1 (p_X11_deedsThat_4 a1 post fu4) post S x3 (1 <<< (x3 &&& 31)) x2))))))
theorem e_X11_deedsThat_4  (a1 : Int32)   (post : Int32 → vSt → Prop) (fu4 : Nat) (S : vSt) (x2 : Int32) (x3 : Int32) : p_X11_deedsThat_4 a1 post (fu4 + 1) S x2 x3 = ((vp_in 1 1900 ∧ (((S.1 148 (Int32.toNatClampNeg 1)) ≤ x3 → post x2 S) ∧ (¬ (S.1 148 (Int32.toNatClampNeg 1)) ≤ x3 → (vp_in (78 + x3) 1900 ∧ ((¬ (S.1 148 (Int32.toNatClampNeg (78 + x3))) = a1 → p_X11_deedsThat_35 a1 (p_X11_deedsThat_4 a1 post fu4) post S x3 0 x2) ∧ ((S.1 148 (Int32.toNatClampNeg (78 + x3))) = a1 → p_X11_deedsThat_35 a1 (p_X11_deedsThat_4 a1 post fu4) post S x3 (1 <<< (x3 &&& 31)) x2))))))) := rfl
def p_X11_deedsThat   (S : vSt) (a1 : Int32) (post : Int32 → vSt → Prop) : Prop := ∃ fu4, p_X11_deedsThat_4 a1 post fu4 S 0 0
set_option maxHeartbeats 4000000 in
set_option maxRecDepth 100000 in
theorem q_X11_deedsThat_35 {X : vX} {G : vG}  {post : Int32 → vSt → Prop} (C : v_Cx X G cX11_deedsThat RX11 4 (v_rm 0 40)) (D : v_Rx X G (v_Qi G post) (some .int))  {a1 : Int32}  {K4 : vSt → Int32 → Int32 → Prop} (hK4 : ∀ S x2 x3, K4 S x2 x3 → VJ X G S 4 [(0, .ref (G.1 143)), (1, .int a1), (2, .int x2), (3, .int x3)] []) : ∀ (S : vSt) (x3 : Int32) (s0 : Int32) (s1 : Int32), p_X11_deedsThat_35 a1 K4 post S x3 s0 s1 → VJ X G S 35 [(0, .ref (G.1 143)), (1, .int a1), (3, .int x3)] [.int s0, .int s1] := by
  intro S x3 s0 s1 h
  refine V_ior C dX11_deedsThat_35 ?_
  refine V_topi (fun y5 ey5 => ?_)
  have h := h y5 ey5
  refine V_istore_n (lv' := [(0, .ref (G.1 143)), (1, .int a1), (2, .int y5), (3, .int x3)]) C [1, 2, 0, 3] dX11_deedsThat_36 rfl (by decide) rfl ?_
  obtain ⟨y6, ey6⟩ : ∃ z : Int32, z = x3 + 1 := ⟨_, rfl⟩
  have h := h y6 ey6
  refine V_iinc (lv' := [(0, .ref (G.1 143)), (1, .int a1), (2, .int y5), (3, .int y6)]) C 3 [1, 2, 3, 0] y6 dX11_deedsThat_37 rfl (by rw [ey6]; rfl) (by decide) rfl ?_
  refine V_goto (tgt := 4) C dX11_deedsThat_40 (by decide) ?_
  exact hK4 _ _ _ h
set_option maxHeartbeats 4000000 in
set_option maxRecDepth 100000 in
theorem q_X11_deedsThat_4 {X : vX} {G : vG}  {post : Int32 → vSt → Prop} (C : v_Cx X G cX11_deedsThat RX11 4 (v_rm 0 40)) (D : v_Rx X G (v_Qi G post) (some .int))  {a1 : Int32}   : ∀ (fu : Nat) (S : vSt) (x2 : Int32) (x3 : Int32), p_X11_deedsThat_4 a1 post fu S x2 x3 → VJ X G S 4 [(0, .ref (G.1 143)), (1, .int a1), (2, .int x2), (3, .int x3)] [] := by
  intro fu
  induction fu with
  | zero => intro S x2 x3 h; exact absurd h id
  | succ fu ih =>
    intro S x2 x3 h
    have hK4 := ih
    rw [e_X11_deedsThat_4] at h
    refine V_iload_n C 3 dX11_deedsThat_4 rfl rfl ?_
    refine V_aload_n C 0 dX11_deedsThat_5 rfl rfl ?_
    refine V_ga C 143 (by decide) (by decide) F_11_20 k_RX11_35 dX11_deedsThat_6 ?_
    refine V_iconst (v := 1) C dX11_deedsThat_9 (by decide) ?_
    obtain ⟨hi, h⟩ := h
    refine V_iald C 148 1900 (by decide) (by decide) hi dX11_deedsThat_10 ?_
    refine V_icmp_ge (tgt := 43) C dX11_deedsThat_11 (by decide) (fun c => ?_) (fun c => ?_)
    · have h := h.1 c
      refine V_iload_n C 2 dX11_deedsThat_43 rfl rfl ?_
      exact V_iret C D dX11_deedsThat_44 h
    · have h := h.2 c
      refine V_iload_n C 2 dX11_deedsThat_14 rfl rfl ?_
      refine V_aload_n C 0 dX11_deedsThat_15 rfl rfl ?_
      refine V_ga C 143 (by decide) (by decide) F_11_20 k_RX11_35 dX11_deedsThat_16 ?_
      refine V_bipush (v := 78) C dX11_deedsThat_19 (by decide) ?_
      refine V_iload_n C 3 dX11_deedsThat_21 rfl rfl ?_
      refine V_iadd C dX11_deedsThat_22 ?_
      obtain ⟨hi, h⟩ := h
      refine V_iald C 148 1900 (by decide) (by decide) hi dX11_deedsThat_23 ?_
      refine V_iload_n C 1 dX11_deedsThat_24 rfl rfl ?_
      refine V_icmp_ne (tgt := 34) C dX11_deedsThat_25 (by decide) (fun c => ?_) (fun c => ?_)
      · have h := h.1 c
        refine V_iconst (v := 0) C dX11_deedsThat_34 (by decide) ?_
        refine V_loc (lv' := [(0, .ref (G.1 143)), (1, .int a1), (3, .int x3)]) [0, 1, 3] rfl ?_
        exact q_X11_deedsThat_35 C D hK4 _ _ _ _ h
      · have h := h.2 c
        refine V_iconst (v := 1) C dX11_deedsThat_28 (by decide) ?_
        refine V_iload_n C 3 dX11_deedsThat_29 rfl rfl ?_
        refine V_ishl C dX11_deedsThat_30 ?_
        refine V_goto (tgt := 35) C dX11_deedsThat_31 (by decide) ?_
        refine V_loc (lv' := [(0, .ref (G.1 143)), (1, .int a1), (3, .int x3)]) [0, 1, 3] rfl ?_
        exact q_X11_deedsThat_35 C D hK4 _ _ _ _ h
set_option maxHeartbeats 4000000 in
set_option maxRecDepth 100000 in
theorem c_X11_deedsThat (l : Launch) (G : vG)    {S : vSt} (a1 : Int32) (post : Int32 → vSt → Prop) (h : p_X11_deedsThat   S a1 post) : Met l yX11_deedsThat (v_ws yX11_deedsThat cX11_deedsThat 4 (some .int)) (v_rm 0 40) (v_Pc G [.ref (G.1 143), .int a1] S) (v_Qi G post) 0 0 (v_A G) := by
  refine v_start (by decide +kernel) (Nat.le_of_ble_eq_true rfl) (fun X hl C D => ?_)
  subst hl
  have C : v_Cx X G cX11_deedsThat RX11 4 (v_rm 0 40) := C
  show VJ X G S 0 [(0, .ref (G.1 143)), (1, .int a1)] []
  refine V_iconst (v := 0) C dX11_deedsThat_0 (by decide) ?_
  refine V_istore_n (lv' := [(0, .ref (G.1 143)), (1, .int a1), (2, .int 0)]) C [1, 2, 0] dX11_deedsThat_1 rfl (by decide) rfl ?_
  refine V_iconst (v := 0) C dX11_deedsThat_2 (by decide) ?_
  refine V_istore_n (lv' := [(0, .ref (G.1 143)), (1, .int a1), (2, .int 0), (3, .int 0)]) C [1, 2, 3, 0] dX11_deedsThat_3 rfl (by decide) rfl ?_
  obtain ⟨fu4, h⟩ := h
  exact q_X11_deedsThat_4 C D  fu4 _ _ _ h
/-! HalfAccuserModel.ruinedOnes()I -/
theorem dX11_ruinedOnes_0 : decode cX11_ruinedOnes 0 = .ok ((.iconst 0), 1) := by decide +kernel
theorem dX11_ruinedOnes_1 : decode cX11_ruinedOnes 1 = .ok ((.istore_n 1), 1) := by decide +kernel
theorem dX11_ruinedOnes_2 : decode cX11_ruinedOnes 2 = .ok ((.iconst 0), 1) := by decide +kernel
theorem dX11_ruinedOnes_3 : decode cX11_ruinedOnes 3 = .ok ((.istore_n 2), 1) := by decide +kernel
theorem dX11_ruinedOnes_4 : decode cX11_ruinedOnes 4 = .ok ((.iload_n 2), 1) := by decide +kernel
theorem dX11_ruinedOnes_5 : decode cX11_ruinedOnes 5 = .ok ((.aload_n 0), 1) := by decide +kernel
theorem dX11_ruinedOnes_6 : decode cX11_ruinedOnes 6 = .ok ((.getfield 35), 3) := by decide +kernel
theorem dX11_ruinedOnes_9 : decode cX11_ruinedOnes 9 = .ok ((.iconst 0), 1) := by decide +kernel
theorem dX11_ruinedOnes_10 : decode cX11_ruinedOnes 10 = .ok (.iaload, 1) := by decide +kernel
theorem dX11_ruinedOnes_11 : decode cX11_ruinedOnes 11 = .ok ((.if_icmp .ge 27), 3) := by decide +kernel
theorem dX11_ruinedOnes_14 : decode cX11_ruinedOnes 14 = .ok ((.iload_n 1), 1) := by decide +kernel
theorem dX11_ruinedOnes_15 : decode cX11_ruinedOnes 15 = .ok ((.aload_n 0), 1) := by decide +kernel
theorem dX11_ruinedOnes_16 : decode cX11_ruinedOnes 16 = .ok ((.iload_n 2), 1) := by decide +kernel
theorem dX11_ruinedOnes_17 : decode cX11_ruinedOnes 17 = .ok ((.invokevirtual 298), 3) := by decide +kernel
theorem dX11_ruinedOnes_20 : decode cX11_ruinedOnes 20 = .ok ((.ifCond .eq 9), 3) := by decide +kernel
theorem dX11_ruinedOnes_23 : decode cX11_ruinedOnes 23 = .ok ((.iconst 1), 1) := by decide +kernel
theorem dX11_ruinedOnes_24 : decode cX11_ruinedOnes 24 = .ok ((.iload_n 2), 1) := by decide +kernel
theorem dX11_ruinedOnes_25 : decode cX11_ruinedOnes 25 = .ok (.ishl, 1) := by decide +kernel
theorem dX11_ruinedOnes_26 : decode cX11_ruinedOnes 26 = .ok ((.goto 4), 3) := by decide +kernel
theorem dX11_ruinedOnes_29 : decode cX11_ruinedOnes 29 = .ok ((.iconst 0), 1) := by decide +kernel
theorem dX11_ruinedOnes_30 : decode cX11_ruinedOnes 30 = .ok (.ior, 1) := by decide +kernel
theorem dX11_ruinedOnes_31 : decode cX11_ruinedOnes 31 = .ok ((.istore_n 1), 1) := by decide +kernel
theorem dX11_ruinedOnes_32 : decode cX11_ruinedOnes 32 = .ok ((.iinc 2 1), 3) := by decide +kernel
theorem dX11_ruinedOnes_35 : decode cX11_ruinedOnes 35 = .ok ((.goto (-31)), 3) := by decide +kernel
theorem dX11_ruinedOnes_38 : decode cX11_ruinedOnes 38 = .ok ((.iload_n 1), 1) := by decide +kernel
theorem dX11_ruinedOnes_39 : decode cX11_ruinedOnes 39 = .ok (.ireturn, 1) := by decide +kernel
def p_X11_ruinedOnes_30    (K4 : vSt → Int32 → Int32 → Prop) (post : Int32 → vSt → Prop) (S : vSt) (x2 : Int32) (s0 : Int32) (s1 : Int32) : Prop := ∀ y11 : Int32, y11 = (s1 ||| s0) → ∀ y12 : Int32, y12 = x2 + 1 → K4 S y11 y12
def p_X11_ruinedOnes_4     (post : Int32 → vSt → Prop) : Nat → vSt → Int32 → Int32 → Prop
  | 0 => fun _ _ _ => False
  | fu4 + 1 => fun S x1 x2 => (vp_in 0 1900 ∧ (((S.1 148 (Int32.toNatClampNeg 0)) ≤ x2 → post x1 S) ∧ (¬ (S.1 148 (Int32.toNatClampNeg 0)) ≤ x2 → p_X11_isRuined  S x2 (fun r10 S9 => ((r10 = false → p_X11_ruinedOnes_30 (p_X11_ruinedOnes_4  post fu4) post S9 x2 0 x1) ∧ (r10 = true → p_X11_ruinedOnes_30 (p_X11_ruinedOnes_4  post fu4) post S9 x2 (1 <<< (x2 &&& 31)) x1))))))
theorem e_X11_ruinedOnes_4     (post : Int32 → vSt → Prop) (fu4 : Nat) (S : vSt) (x1 : Int32) (x2 : Int32) : p_X11_ruinedOnes_4  post (fu4 + 1) S x1 x2 = ((vp_in 0 1900 ∧ (((S.1 148 (Int32.toNatClampNeg 0)) ≤ x2 → post x1 S) ∧ (¬ (S.1 148 (Int32.toNatClampNeg 0)) ≤ x2 → p_X11_isRuined  S x2 (fun r10 S9 => ((r10 = false → p_X11_ruinedOnes_30 (p_X11_ruinedOnes_4  post fu4) post S9 x2 0 x1) ∧ (r10 = true → p_X11_ruinedOnes_30 (p_X11_ruinedOnes_4  post fu4) post S9 x2 (1 <<< (x2 &&& 31)) x1))))))) := rfl
def p_X11_ruinedOnes   (S : vSt)  (post : Int32 → vSt → Prop) : Prop := ∃ fu4, p_X11_ruinedOnes_4  post fu4 S 0 0
set_option maxHeartbeats 4000000 in
set_option maxRecDepth 100000 in
theorem q_X11_ruinedOnes_30 {X : vX} {G : vG}  {post : Int32 → vSt → Prop} (C : v_Cx X G cX11_ruinedOnes RX11 3 (v_rm 1 61)) (D : v_Rx X G (v_Qi G post) (some .int))    {K4 : vSt → Int32 → Int32 → Prop} (hK4 : ∀ S x1 x2, K4 S x1 x2 → VJ X G S 4 [(0, .ref (G.1 143)), (1, .int x1), (2, .int x2)] []) : ∀ (S : vSt) (x2 : Int32) (s0 : Int32) (s1 : Int32), p_X11_ruinedOnes_30 K4 post S x2 s0 s1 → VJ X G S 30 [(0, .ref (G.1 143)), (2, .int x2)] [.int s0, .int s1] := by
  intro S x2 s0 s1 h
  refine V_ior C dX11_ruinedOnes_30 ?_
  refine V_topi (fun y11 ey11 => ?_)
  have h := h y11 ey11
  refine V_istore_n (lv' := [(0, .ref (G.1 143)), (1, .int y11), (2, .int x2)]) C [1, 0, 2] dX11_ruinedOnes_31 rfl (by decide) rfl ?_
  obtain ⟨y12, ey12⟩ : ∃ z : Int32, z = x2 + 1 := ⟨_, rfl⟩
  have h := h y12 ey12
  refine V_iinc (lv' := [(0, .ref (G.1 143)), (1, .int y11), (2, .int y12)]) C 2 [1, 2, 0] y12 dX11_ruinedOnes_32 rfl (by rw [ey12]; rfl) (by decide) rfl ?_
  refine V_goto (tgt := 4) C dX11_ruinedOnes_35 (by decide) ?_
  exact hK4 _ _ _ h
set_option maxHeartbeats 4000000 in
set_option maxRecDepth 100000 in
theorem q_X11_ruinedOnes_4 {X : vX} {G : vG}  {post : Int32 → vSt → Prop} (C : v_Cx X G cX11_ruinedOnes RX11 3 (v_rm 1 61)) (D : v_Rx X G (v_Qi G post) (some .int))     : ∀ (fu : Nat) (S : vSt) (x1 : Int32) (x2 : Int32), p_X11_ruinedOnes_4  post fu S x1 x2 → VJ X G S 4 [(0, .ref (G.1 143)), (1, .int x1), (2, .int x2)] [] := by
  intro fu
  induction fu with
  | zero => intro S x1 x2 h; exact absurd h id
  | succ fu ih =>
    intro S x1 x2 h
    have hK4 := ih
    rw [e_X11_ruinedOnes_4] at h
    refine V_iload_n C 2 dX11_ruinedOnes_4 rfl rfl ?_
    refine V_aload_n C 0 dX11_ruinedOnes_5 rfl rfl ?_
    refine V_ga C 143 (by decide) (by decide) F_11_20 k_RX11_35 dX11_ruinedOnes_6 ?_
    refine V_iconst (v := 0) C dX11_ruinedOnes_9 (by decide) ?_
    obtain ⟨hi, h⟩ := h
    refine V_iald C 148 1900 (by decide) (by decide) hi dX11_ruinedOnes_10 ?_
    refine V_icmp_ge (tgt := 38) C dX11_ruinedOnes_11 (by decide) (fun c => ?_) (fun c => ?_)
    · have h := h.1 c
      refine V_iload_n C 1 dX11_ruinedOnes_38 rfl rfl ?_
      exact V_iret C D dX11_ruinedOnes_39 h
    · have h := h.2 c
      refine V_iload_n C 1 dX11_ruinedOnes_14 rfl rfl ?_
      refine V_aload_n C 0 dX11_ruinedOnes_15 rfl rfl ?_
      refine V_iload_n C 2 dX11_ruinedOnes_16 rfl rfl ?_
      refine V_callVz (As := [.int x2]) (rest := [.int x1]) C (c_X11_isRuined (v_l X) G  _ _ h) 143 11 (by decide) (by decide) (by decide) rfl KV_X11_isRuined k_RX11_298 rfl rfl rfl (Nat.le_of_ble_eq_true rfl) ⟨Nat.le_of_ble_eq_true rfl, Nat.le_of_ble_eq_true rfl⟩ dX11_ruinedOnes_17 (fun r10 S9 h => ?_)
      refine V_ifb_eq (tgt := 29) C dX11_ruinedOnes_20 (by decide) (fun c => ?_) (fun c => ?_)
      · have h := h.1 c
        refine V_iconst (v := 0) C dX11_ruinedOnes_29 (by decide) ?_
        refine V_loc (lv' := [(0, .ref (G.1 143)), (2, .int x2)]) [0, 2] rfl ?_
        exact q_X11_ruinedOnes_30 C D hK4 _ _ _ _ h
      · have h := h.2 c
        refine V_iconst (v := 1) C dX11_ruinedOnes_23 (by decide) ?_
        refine V_iload_n C 2 dX11_ruinedOnes_24 rfl rfl ?_
        refine V_ishl C dX11_ruinedOnes_25 ?_
        refine V_goto (tgt := 30) C dX11_ruinedOnes_26 (by decide) ?_
        refine V_loc (lv' := [(0, .ref (G.1 143)), (2, .int x2)]) [0, 2] rfl ?_
        exact q_X11_ruinedOnes_30 C D hK4 _ _ _ _ h
set_option maxHeartbeats 4000000 in
set_option maxRecDepth 100000 in
theorem c_X11_ruinedOnes (l : Launch) (G : vG)    {S : vSt}  (post : Int32 → vSt → Prop) (h : p_X11_ruinedOnes   S  post) : Met l yX11_ruinedOnes (v_ws yX11_ruinedOnes cX11_ruinedOnes 3 (some .int)) (v_rm 1 61) (v_Pc G [.ref (G.1 143)] S) (v_Qi G post) 0 0 (v_A G) := by
  refine v_start (by decide +kernel) (Nat.le_of_ble_eq_true rfl) (fun X hl C D => ?_)
  subst hl
  have C : v_Cx X G cX11_ruinedOnes RX11 3 (v_rm 1 61) := C
  show VJ X G S 0 [(0, .ref (G.1 143))] []
  refine V_iconst (v := 0) C dX11_ruinedOnes_0 (by decide) ?_
  refine V_istore_n (lv' := [(0, .ref (G.1 143)), (1, .int 0)]) C [1, 0] dX11_ruinedOnes_1 rfl (by decide) rfl ?_
  refine V_iconst (v := 0) C dX11_ruinedOnes_2 (by decide) ?_
  refine V_istore_n (lv' := [(0, .ref (G.1 143)), (1, .int 0), (2, .int 0)]) C [1, 2, 0] dX11_ruinedOnes_3 rfl (by decide) rfl ?_
  obtain ⟨fu4, h⟩ := h
  exact q_X11_ruinedOnes_4 C D  fu4 _ _ _ h
/-! HalfAccuserModel.many(I)I -/
theorem dX11_many_0 : decode cX11_many 0 = .ok ((.aload_n 0), 1) := by decide +kernel
theorem dX11_many_1 : decode cX11_many 1 = .ok ((.iconst 0), 1) := by decide +kernel
theorem dX11_many_2 : decode cX11_many 2 = .ok ((.putfield 60), 3) := by decide +kernel
theorem dX11_many_5 : decode cX11_many 5 = .ok ((.aload_n 0), 1) := by decide +kernel
theorem dX11_many_6 : decode cX11_many 6 = .ok ((.iconst 0), 1) := by decide +kernel
theorem dX11_many_7 : decode cX11_many 7 = .ok ((.putfield 63), 3) := by decide +kernel
theorem dX11_many_10 : decode cX11_many 10 = .ok ((.iload_n 1), 1) := by decide +kernel
theorem dX11_many_11 : decode cX11_many 11 = .ok (.i2l, 1) := by decide +kernel
theorem dX11_many_12 : decode cX11_many 12 = .ok ((.lconst 0), 1) := by decide +kernel
theorem dX11_many_13 : decode cX11_many 13 = .ok ((.ldc2_w 301), 3) := by decide +kernel
theorem dX11_many_16 : decode cX11_many 16 = .ok ((.invokestatic 95), 3) := by decide +kernel
theorem dX11_many_19 : decode cX11_many 19 = .ok ((.ifCond .ne 9), 3) := by decide +kernel
theorem dX11_many_22 : decode cX11_many 22 = .ok ((.aload_n 0), 1) := by decide +kernel
theorem dX11_many_23 : decode cX11_many 23 = .ok ((.iconst 5), 1) := by decide +kernel
theorem dX11_many_24 : decode cX11_many 24 = .ok ((.invokevirtual 303), 3) := by decide +kernel
theorem dX11_many_27 : decode cX11_many 27 = .ok (.ireturn, 1) := by decide +kernel
theorem dX11_many_28 : decode cX11_many 28 = .ok ((.iload_n 1), 1) := by decide +kernel
theorem dX11_many_29 : decode cX11_many 29 = .ok ((.bipush 7), 2) := by decide +kernel
theorem dX11_many_31 : decode cX11_many 31 = .ok ((.if_icmp .ge 10), 3) := by decide +kernel
theorem dX11_many_34 : decode cX11_many 34 = .ok ((.aload_n 0), 1) := by decide +kernel
theorem dX11_many_35 : decode cX11_many 35 = .ok ((.getfield 35), 3) := by decide +kernel
theorem dX11_many_38 : decode cX11_many 38 = .ok ((.iload_n 1), 1) := by decide +kernel
theorem dX11_many_39 : decode cX11_many 39 = .ok (.iaload, 1) := by decide +kernel
theorem dX11_many_40 : decode cX11_many 40 = .ok (.ireturn, 1) := by decide +kernel
theorem dX11_many_41 : decode cX11_many 41 = .ok ((.iload_n 1), 1) := by decide +kernel
theorem dX11_many_42 : decode cX11_many 42 = .ok ((.bipush 9), 2) := by decide +kernel
theorem dX11_many_44 : decode cX11_many 44 = .ok ((.if_icmp .ge 14), 3) := by decide +kernel
theorem dX11_many_47 : decode cX11_many 47 = .ok ((.aload_n 0), 1) := by decide +kernel
theorem dX11_many_48 : decode cX11_many 48 = .ok ((.iload_n 1), 1) := by decide +kernel
theorem dX11_many_49 : decode cX11_many 49 = .ok ((.bipush 7), 2) := by decide +kernel
theorem dX11_many_51 : decode cX11_many 51 = .ok (.isub, 1) := by decide +kernel
theorem dX11_many_52 : decode cX11_many 52 = .ok ((.invokevirtual 306), 3) := by decide +kernel
theorem dX11_many_55 : decode cX11_many 55 = .ok ((.goto 23), 3) := by decide +kernel
theorem dX11_many_58 : decode cX11_many 58 = .ok ((.iload_n 1), 1) := by decide +kernel
theorem dX11_many_59 : decode cX11_many 59 = .ok ((.bipush 9), 2) := by decide +kernel
theorem dX11_many_61 : decode cX11_many 61 = .ok ((.if_icmp .ne 10), 3) := by decide +kernel
theorem dX11_many_64 : decode cX11_many 64 = .ok ((.aload_n 0), 1) := by decide +kernel
theorem dX11_many_65 : decode cX11_many 65 = .ok ((.invokevirtual 309), 3) := by decide +kernel
theorem dX11_many_68 : decode cX11_many 68 = .ok ((.goto 10), 3) := by decide +kernel
theorem dX11_many_71 : decode cX11_many 71 = .ok ((.aload_n 0), 1) := by decide +kernel
theorem dX11_many_72 : decode cX11_many 72 = .ok ((.getfield 35), 3) := by decide +kernel
theorem dX11_many_75 : decode cX11_many 75 = .ok ((.bipush 7), 2) := by decide +kernel
theorem dX11_many_77 : decode cX11_many 77 = .ok (.iaload, 1) := by decide +kernel
theorem dX11_many_78 : decode cX11_many 78 = .ok (.ireturn, 1) := by decide +kernel
def p_X11_many   (S : vSt) (a1 : Int32) (post : Int32 → vSt → Prop) : Prop := ∀ S11, S11 = v_si S 143 1 0 → ∀ S12, S12 = v_si S11 143 0 0 → p_X11_isIn  S12 (Int32.toInt64 a1) 0 10 (fun r14 S13 => ((r14 = true → ((7 ≤ a1 → ((9 ≤ a1 → ((¬ a1 = 9 → (vp_in 7 1900 ∧ post (S13.1 148 (Int32.toNatClampNeg 7)) S13)) ∧ (a1 = 9 → p_X11_ruinedOnes  S13  (fun r16 S15 => post r16 S15)))) ∧ (¬ 9 ≤ a1 → p_X11_deedsThat  S13 (a1 - 7) (fun r18 S17 => post r18 S17)))) ∧ (¬ 7 ≤ a1 → (vp_in a1 1900 ∧ post (S13.1 148 (Int32.toNatClampNeg a1)) S13)))) ∧ (r14 = false → p_X11_refuse  S13 5 (fun r20 S19 => post r20 S19))))
set_option maxHeartbeats 4000000 in
set_option maxRecDepth 100000 in
theorem c_X11_many (l : Launch) (G : vG)    {S : vSt} (a1 : Int32) (post : Int32 → vSt → Prop) (h : p_X11_many   S a1 post) : Met l yX11_many (v_ws yX11_many cX11_many 2 (some .int)) (v_rm 2 83) (v_Pc G [.ref (G.1 143), .int a1] S) (v_Qi G post) 0 0 (v_A G) := by
  refine v_start (by decide +kernel) (Nat.le_of_ble_eq_true rfl) (fun X hl C D => ?_)
  subst hl
  have C : v_Cx X G cX11_many RX11 2 (v_rm 2 83) := C
  show VJ X G S 0 [(0, .ref (G.1 143)), (1, .int a1)] []
  refine V_aload_n C 0 dX11_many_0 rfl rfl ?_
  refine V_iconst (v := 0) C dX11_many_1 (by decide) ?_
  refine V_pi C 143 (by decide) (by decide) P_11_1 k_RX11_60 dX11_many_2 ?_
  refine V_topS (fun S11 eS11 => ?_)
  have h := h S11 eS11
  refine V_aload_n C 0 dX11_many_5 rfl rfl ?_
  refine V_iconst (v := 0) C dX11_many_6 (by decide) ?_
  refine V_pi C 143 (by decide) (by decide) P_11_0 k_RX11_63 dX11_many_7 ?_
  refine V_topS (fun S12 eS12 => ?_)
  have h := h S12 eS12
  refine V_iload_n C 1 dX11_many_10 rfl rfl ?_
  refine V_i2l C dX11_many_11 ?_
  refine V_lconst (v := 0) C dX11_many_12 (by decide) ?_
  refine V_ldc2 (v := 10) C k_RX11_301 dX11_many_13 ?_
  refine V_callSz (As := [.long (Int32.toInt64 a1), .long 0, .long 10]) (rest := []) C (c_X11_isIn (v_l X) G  _ _ _ _ h) KV_X11_isIn k_RX11_95 rfl rfl rfl (Nat.le_of_ble_eq_true rfl) ⟨Nat.le_of_ble_eq_true rfl, Nat.le_of_ble_eq_true rfl⟩ dX11_many_16 (fun r14 S13 h => ?_)
  refine V_ifb_ne (tgt := 28) C dX11_many_19 (by decide) (fun c => ?_) (fun c => ?_)
  · have h := h.1 c
    refine V_iload_n C 1 dX11_many_28 rfl rfl ?_
    refine V_bipush (v := 7) C dX11_many_29 (by decide) ?_
    refine V_icmp_ge (tgt := 41) C dX11_many_31 (by decide) (fun c => ?_) (fun c => ?_)
    · have h := h.1 c
      refine V_iload_n C 1 dX11_many_41 rfl rfl ?_
      refine V_bipush (v := 9) C dX11_many_42 (by decide) ?_
      refine V_icmp_ge (tgt := 58) C dX11_many_44 (by decide) (fun c => ?_) (fun c => ?_)
      · have h := h.1 c
        refine V_iload_n C 1 dX11_many_58 rfl rfl ?_
        refine V_bipush (v := 9) C dX11_many_59 (by decide) ?_
        refine V_icmp_ne (tgt := 71) C dX11_many_61 (by decide) (fun c => ?_) (fun c => ?_)
        · have h := h.1 c
          refine V_aload_n C 0 dX11_many_71 rfl rfl ?_
          refine V_ga C 143 (by decide) (by decide) F_11_20 k_RX11_35 dX11_many_72 ?_
          refine V_bipush (v := 7) C dX11_many_75 (by decide) ?_
          obtain ⟨hi, h⟩ := h
          refine V_iald C 148 1900 (by decide) (by decide) hi dX11_many_77 ?_
          exact V_iret C D dX11_many_78 h
        · have h := h.2 c
          refine V_aload_n C 0 dX11_many_64 rfl rfl ?_
          refine V_callVi (As := []) (rest := []) C (c_X11_ruinedOnes (v_l X) G  _ h) 143 11 (by decide) (by decide) (by decide) rfl KV_X11_ruinedOnes k_RX11_309 rfl rfl rfl (Nat.le_of_ble_eq_true rfl) ⟨Nat.le_of_ble_eq_true rfl, Nat.le_of_ble_eq_true rfl⟩ dX11_many_65 (fun r16 S15 h => ?_)
          refine V_goto (tgt := 78) C dX11_many_68 (by decide) ?_
          exact V_iret C D dX11_many_78 h
      · have h := h.2 c
        refine V_aload_n C 0 dX11_many_47 rfl rfl ?_
        refine V_iload_n C 1 dX11_many_48 rfl rfl ?_
        refine V_bipush (v := 7) C dX11_many_49 (by decide) ?_
        refine V_isub C dX11_many_51 ?_
        refine V_callVi (As := [.int (a1 - 7)]) (rest := []) C (c_X11_deedsThat (v_l X) G  _ _ h) 143 11 (by decide) (by decide) (by decide) rfl KV_X11_deedsThat k_RX11_306 rfl rfl rfl (Nat.le_of_ble_eq_true rfl) ⟨Nat.le_of_ble_eq_true rfl, Nat.le_of_ble_eq_true rfl⟩ dX11_many_52 (fun r18 S17 h => ?_)
        refine V_goto (tgt := 78) C dX11_many_55 (by decide) ?_
        exact V_iret C D dX11_many_78 h
    · have h := h.2 c
      refine V_aload_n C 0 dX11_many_34 rfl rfl ?_
      refine V_ga C 143 (by decide) (by decide) F_11_20 k_RX11_35 dX11_many_35 ?_
      refine V_iload_n C 1 dX11_many_38 rfl rfl ?_
      obtain ⟨hi, h⟩ := h
      refine V_iald C 148 1900 (by decide) (by decide) hi dX11_many_39 ?_
      exact V_iret C D dX11_many_40 h
  · have h := h.2 c
    refine V_aload_n C 0 dX11_many_22 rfl rfl ?_
    refine V_iconst (v := 5) C dX11_many_23 (by decide) ?_
    refine V_callVi (As := [.int 5]) (rest := []) C (c_X11_refuse (v_l X) G  _ _ h) 143 11 (by decide) (by decide) (by decide) rfl KV_X11_refuse k_RX11_303 rfl rfl rfl (Nat.le_of_ble_eq_true rfl) ⟨Nat.le_of_ble_eq_true rfl, Nat.le_of_ble_eq_true rfl⟩ dX11_many_24 (fun r20 S19 h => ?_)
    exact V_iret C D dX11_many_27 h
/-! HalfAccuserModel.deedsOf(I)I -/
theorem dX11_deedsOf_0 : decode cX11_deedsOf 0 = .ok ((.iconst 0), 1) := by decide +kernel
theorem dX11_deedsOf_1 : decode cX11_deedsOf 1 = .ok ((.istore_n 2), 1) := by decide +kernel
theorem dX11_deedsOf_2 : decode cX11_deedsOf 2 = .ok ((.iconst 0), 1) := by decide +kernel
theorem dX11_deedsOf_3 : decode cX11_deedsOf 3 = .ok ((.istore_n 3), 1) := by decide +kernel
theorem dX11_deedsOf_4 : decode cX11_deedsOf 4 = .ok ((.iload_n 3), 1) := by decide +kernel
theorem dX11_deedsOf_5 : decode cX11_deedsOf 5 = .ok ((.aload_n 0), 1) := by decide +kernel
theorem dX11_deedsOf_6 : decode cX11_deedsOf 6 = .ok ((.getfield 35), 3) := by decide +kernel
theorem dX11_deedsOf_9 : decode cX11_deedsOf 9 = .ok ((.iconst 1), 1) := by decide +kernel
theorem dX11_deedsOf_10 : decode cX11_deedsOf 10 = .ok (.iaload, 1) := by decide +kernel
theorem dX11_deedsOf_11 : decode cX11_deedsOf 11 = .ok ((.if_icmp .ge 32), 3) := by decide +kernel
theorem dX11_deedsOf_14 : decode cX11_deedsOf 14 = .ok ((.iload_n 2), 1) := by decide +kernel
theorem dX11_deedsOf_15 : decode cX11_deedsOf 15 = .ok ((.aload_n 0), 1) := by decide +kernel
theorem dX11_deedsOf_16 : decode cX11_deedsOf 16 = .ok ((.getfield 35), 3) := by decide +kernel
theorem dX11_deedsOf_19 : decode cX11_deedsOf 19 = .ok ((.bipush 48), 2) := by decide +kernel
theorem dX11_deedsOf_21 : decode cX11_deedsOf 21 = .ok ((.iload_n 3), 1) := by decide +kernel
theorem dX11_deedsOf_22 : decode cX11_deedsOf 22 = .ok (.iadd, 1) := by decide +kernel
theorem dX11_deedsOf_23 : decode cX11_deedsOf 23 = .ok (.iaload, 1) := by decide +kernel
theorem dX11_deedsOf_24 : decode cX11_deedsOf 24 = .ok ((.iload_n 1), 1) := by decide +kernel
theorem dX11_deedsOf_25 : decode cX11_deedsOf 25 = .ok ((.if_icmp .ne 9), 3) := by decide +kernel
theorem dX11_deedsOf_28 : decode cX11_deedsOf 28 = .ok ((.iconst 1), 1) := by decide +kernel
theorem dX11_deedsOf_29 : decode cX11_deedsOf 29 = .ok ((.iload_n 3), 1) := by decide +kernel
theorem dX11_deedsOf_30 : decode cX11_deedsOf 30 = .ok (.ishl, 1) := by decide +kernel
theorem dX11_deedsOf_31 : decode cX11_deedsOf 31 = .ok ((.goto 4), 3) := by decide +kernel
theorem dX11_deedsOf_34 : decode cX11_deedsOf 34 = .ok ((.iconst 0), 1) := by decide +kernel
theorem dX11_deedsOf_35 : decode cX11_deedsOf 35 = .ok (.ior, 1) := by decide +kernel
theorem dX11_deedsOf_36 : decode cX11_deedsOf 36 = .ok ((.istore_n 2), 1) := by decide +kernel
theorem dX11_deedsOf_37 : decode cX11_deedsOf 37 = .ok ((.iinc 3 1), 3) := by decide +kernel
theorem dX11_deedsOf_40 : decode cX11_deedsOf 40 = .ok ((.goto (-36)), 3) := by decide +kernel
theorem dX11_deedsOf_43 : decode cX11_deedsOf 43 = .ok ((.iload_n 2), 1) := by decide +kernel
theorem dX11_deedsOf_44 : decode cX11_deedsOf 44 = .ok (.ireturn, 1) := by decide +kernel
def p_X11_deedsOf_35  (a1 : Int32)  (K4 : vSt → Int32 → Int32 → Prop) (post : Int32 → vSt → Prop) (S : vSt) (x3 : Int32) (s0 : Int32) (s1 : Int32) : Prop := ∀ y5 : Int32, y5 = (s1 ||| s0) → ∀ y6 : Int32, y6 = x3 + 1 → K4 S y5 y6
def p_X11_deedsOf_4  (a1 : Int32)   (post : Int32 → vSt → Prop) : Nat → vSt → Int32 → Int32 → Prop
  | 0 => fun _ _ _ => False
  | fu4 + 1 => fun S x2 x3 => (vp_in 1 1900 ∧ (((S.1 148 (Int32.toNatClampNeg 1)) ≤ x3 → post x2 S) ∧ (¬ (S.1 148 (Int32.toNatClampNeg 1)) ≤ x3 → (vp_in (48 + x3) 1900 ∧ ((¬ (S.1 148 (Int32.toNatClampNeg (48 + x3))) = a1 → p_X11_deedsOf_35 a1 (p_X11_deedsOf_4 a1 post fu4) post S x3 0 x2) ∧ ((S.1 148 (Int32.toNatClampNeg (48 + x3))) = a1 → p_X11_deedsOf_35 a1 (p_X11_deedsOf_4 a1 post fu4) post S x3 (1 <<< (x3 &&& 31)) x2))))))
theorem e_X11_deedsOf_4  (a1 : Int32)   (post : Int32 → vSt → Prop) (fu4 : Nat) (S : vSt) (x2 : Int32) (x3 : Int32) : p_X11_deedsOf_4 a1 post (fu4 + 1) S x2 x3 = ((vp_in 1 1900 ∧ (((S.1 148 (Int32.toNatClampNeg 1)) ≤ x3 → post x2 S) ∧ (¬ (S.1 148 (Int32.toNatClampNeg 1)) ≤ x3 → (vp_in (48 + x3) 1900 ∧ ((¬ (S.1 148 (Int32.toNatClampNeg (48 + x3))) = a1 → p_X11_deedsOf_35 a1 (p_X11_deedsOf_4 a1 post fu4) post S x3 0 x2) ∧ ((S.1 148 (Int32.toNatClampNeg (48 + x3))) = a1 → p_X11_deedsOf_35 a1 (p_X11_deedsOf_4 a1 post fu4) post S x3 (1 <<< (x3 &&& 31)) x2))))))) := rfl
def p_X11_deedsOf   (S : vSt) (a1 : Int32) (post : Int32 → vSt → Prop) : Prop := ∃ fu4, p_X11_deedsOf_4 a1 post fu4 S 0 0
set_option maxHeartbeats 4000000 in
set_option maxRecDepth 100000 in
theorem q_X11_deedsOf_35 {X : vX} {G : vG}  {post : Int32 → vSt → Prop} (C : v_Cx X G cX11_deedsOf RX11 4 (v_rm 0 40)) (D : v_Rx X G (v_Qi G post) (some .int))  {a1 : Int32}  {K4 : vSt → Int32 → Int32 → Prop} (hK4 : ∀ S x2 x3, K4 S x2 x3 → VJ X G S 4 [(0, .ref (G.1 143)), (1, .int a1), (2, .int x2), (3, .int x3)] []) : ∀ (S : vSt) (x3 : Int32) (s0 : Int32) (s1 : Int32), p_X11_deedsOf_35 a1 K4 post S x3 s0 s1 → VJ X G S 35 [(0, .ref (G.1 143)), (1, .int a1), (3, .int x3)] [.int s0, .int s1] := by
  intro S x3 s0 s1 h
  refine V_ior C dX11_deedsOf_35 ?_
  refine V_topi (fun y5 ey5 => ?_)
  have h := h y5 ey5
  refine V_istore_n (lv' := [(0, .ref (G.1 143)), (1, .int a1), (2, .int y5), (3, .int x3)]) C [1, 2, 0, 3] dX11_deedsOf_36 rfl (by decide) rfl ?_
  obtain ⟨y6, ey6⟩ : ∃ z : Int32, z = x3 + 1 := ⟨_, rfl⟩
  have h := h y6 ey6
  refine V_iinc (lv' := [(0, .ref (G.1 143)), (1, .int a1), (2, .int y5), (3, .int y6)]) C 3 [1, 2, 3, 0] y6 dX11_deedsOf_37 rfl (by rw [ey6]; rfl) (by decide) rfl ?_
  refine V_goto (tgt := 4) C dX11_deedsOf_40 (by decide) ?_
  exact hK4 _ _ _ h
set_option maxHeartbeats 4000000 in
set_option maxRecDepth 100000 in
theorem q_X11_deedsOf_4 {X : vX} {G : vG}  {post : Int32 → vSt → Prop} (C : v_Cx X G cX11_deedsOf RX11 4 (v_rm 0 40)) (D : v_Rx X G (v_Qi G post) (some .int))  {a1 : Int32}   : ∀ (fu : Nat) (S : vSt) (x2 : Int32) (x3 : Int32), p_X11_deedsOf_4 a1 post fu S x2 x3 → VJ X G S 4 [(0, .ref (G.1 143)), (1, .int a1), (2, .int x2), (3, .int x3)] [] := by
  intro fu
  induction fu with
  | zero => intro S x2 x3 h; exact absurd h id
  | succ fu ih =>
    intro S x2 x3 h
    have hK4 := ih
    rw [e_X11_deedsOf_4] at h
    refine V_iload_n C 3 dX11_deedsOf_4 rfl rfl ?_
    refine V_aload_n C 0 dX11_deedsOf_5 rfl rfl ?_
    refine V_ga C 143 (by decide) (by decide) F_11_20 k_RX11_35 dX11_deedsOf_6 ?_
    refine V_iconst (v := 1) C dX11_deedsOf_9 (by decide) ?_
    obtain ⟨hi, h⟩ := h
    refine V_iald C 148 1900 (by decide) (by decide) hi dX11_deedsOf_10 ?_
    refine V_icmp_ge (tgt := 43) C dX11_deedsOf_11 (by decide) (fun c => ?_) (fun c => ?_)
    · have h := h.1 c
      refine V_iload_n C 2 dX11_deedsOf_43 rfl rfl ?_
      exact V_iret C D dX11_deedsOf_44 h
    · have h := h.2 c
      refine V_iload_n C 2 dX11_deedsOf_14 rfl rfl ?_
      refine V_aload_n C 0 dX11_deedsOf_15 rfl rfl ?_
      refine V_ga C 143 (by decide) (by decide) F_11_20 k_RX11_35 dX11_deedsOf_16 ?_
      refine V_bipush (v := 48) C dX11_deedsOf_19 (by decide) ?_
      refine V_iload_n C 3 dX11_deedsOf_21 rfl rfl ?_
      refine V_iadd C dX11_deedsOf_22 ?_
      obtain ⟨hi, h⟩ := h
      refine V_iald C 148 1900 (by decide) (by decide) hi dX11_deedsOf_23 ?_
      refine V_iload_n C 1 dX11_deedsOf_24 rfl rfl ?_
      refine V_icmp_ne (tgt := 34) C dX11_deedsOf_25 (by decide) (fun c => ?_) (fun c => ?_)
      · have h := h.1 c
        refine V_iconst (v := 0) C dX11_deedsOf_34 (by decide) ?_
        refine V_loc (lv' := [(0, .ref (G.1 143)), (1, .int a1), (3, .int x3)]) [0, 1, 3] rfl ?_
        exact q_X11_deedsOf_35 C D hK4 _ _ _ _ h
      · have h := h.2 c
        refine V_iconst (v := 1) C dX11_deedsOf_28 (by decide) ?_
        refine V_iload_n C 3 dX11_deedsOf_29 rfl rfl ?_
        refine V_ishl C dX11_deedsOf_30 ?_
        refine V_goto (tgt := 35) C dX11_deedsOf_31 (by decide) ?_
        refine V_loc (lv' := [(0, .ref (G.1 143)), (1, .int a1), (3, .int x3)]) [0, 1, 3] rfl ?_
        exact q_X11_deedsOf_35 C D hK4 _ _ _ _ h
set_option maxHeartbeats 4000000 in
set_option maxRecDepth 100000 in
theorem c_X11_deedsOf (l : Launch) (G : vG)    {S : vSt} (a1 : Int32) (post : Int32 → vSt → Prop) (h : p_X11_deedsOf   S a1 post) : Met l yX11_deedsOf (v_ws yX11_deedsOf cX11_deedsOf 4 (some .int)) (v_rm 0 40) (v_Pc G [.ref (G.1 143), .int a1] S) (v_Qi G post) 0 0 (v_A G) := by
  refine v_start (by decide +kernel) (Nat.le_of_ble_eq_true rfl) (fun X hl C D => ?_)
  subst hl
  have C : v_Cx X G cX11_deedsOf RX11 4 (v_rm 0 40) := C
  show VJ X G S 0 [(0, .ref (G.1 143)), (1, .int a1)] []
  refine V_iconst (v := 0) C dX11_deedsOf_0 (by decide) ?_
  refine V_istore_n (lv' := [(0, .ref (G.1 143)), (1, .int a1), (2, .int 0)]) C [1, 2, 0] dX11_deedsOf_1 rfl (by decide) rfl ?_
  refine V_iconst (v := 0) C dX11_deedsOf_2 (by decide) ?_
  refine V_istore_n (lv' := [(0, .ref (G.1 143)), (1, .int a1), (2, .int 0), (3, .int 0)]) C [1, 2, 3, 0] dX11_deedsOf_3 rfl (by decide) rfl ?_
  obtain ⟨fu4, h⟩ := h
  exact q_X11_deedsOf_4 C D  fu4 _ _ _ h
/-! HalfAccuserModel.person(II)I -/
theorem dX11_person_0 : decode cX11_person 0 = .ok ((.aload_n 0), 1) := by decide +kernel
theorem dX11_person_1 : decode cX11_person 1 = .ok ((.iconst 0), 1) := by decide +kernel
theorem dX11_person_2 : decode cX11_person 2 = .ok ((.putfield 60), 3) := by decide +kernel
theorem dX11_person_5 : decode cX11_person 5 = .ok ((.aload_n 0), 1) := by decide +kernel
theorem dX11_person_6 : decode cX11_person 6 = .ok ((.iconst 0), 1) := by decide +kernel
theorem dX11_person_7 : decode cX11_person 7 = .ok ((.putfield 63), 3) := by decide +kernel
theorem dX11_person_10 : decode cX11_person 10 = .ok ((.aload_n 0), 1) := by decide +kernel
theorem dX11_person_11 : decode cX11_person 11 = .ok ((.iload_n 1), 1) := by decide +kernel
theorem dX11_person_12 : decode cX11_person 12 = .ok ((.invokevirtual 289), 3) := by decide +kernel
theorem dX11_person_15 : decode cX11_person 15 = .ok ((.ifCond .ne 9), 3) := by decide +kernel
theorem dX11_person_18 : decode cX11_person 18 = .ok ((.aload_n 0), 1) := by decide +kernel
theorem dX11_person_19 : decode cX11_person 19 = .ok ((.iconst 2), 1) := by decide +kernel
theorem dX11_person_20 : decode cX11_person 20 = .ok ((.invokevirtual 303), 3) := by decide +kernel
theorem dX11_person_23 : decode cX11_person 23 = .ok (.ireturn, 1) := by decide +kernel
theorem dX11_person_24 : decode cX11_person 24 = .ok ((.iload_n 2), 1) := by decide +kernel
theorem dX11_person_25 : decode cX11_person 25 = .ok (.i2l, 1) := by decide +kernel
theorem dX11_person_26 : decode cX11_person 26 = .ok ((.lconst 0), 1) := by decide +kernel
theorem dX11_person_27 : decode cX11_person 27 = .ok ((.ldc2_w 312), 3) := by decide +kernel
theorem dX11_person_30 : decode cX11_person 30 = .ok ((.invokestatic 95), 3) := by decide +kernel
theorem dX11_person_33 : decode cX11_person 33 = .ok ((.ifCond .ne 9), 3) := by decide +kernel
theorem dX11_person_36 : decode cX11_person 36 = .ok ((.aload_n 0), 1) := by decide +kernel
theorem dX11_person_37 : decode cX11_person 37 = .ok ((.iconst 5), 1) := by decide +kernel
theorem dX11_person_38 : decode cX11_person 38 = .ok ((.invokevirtual 303), 3) := by decide +kernel
theorem dX11_person_41 : decode cX11_person 41 = .ok (.ireturn, 1) := by decide +kernel
theorem dX11_person_42 : decode cX11_person 42 = .ok ((.iload_n 2), 1) := by decide +kernel
theorem dX11_person_43 : decode cX11_person 43 = .ok ((.iconst 4), 1) := by decide +kernel
theorem dX11_person_44 : decode cX11_person 44 = .ok ((.if_icmp .ne 11), 3) := by decide +kernel
theorem dX11_person_47 : decode cX11_person 47 = .ok ((.aload_n 0), 1) := by decide +kernel
theorem dX11_person_48 : decode cX11_person 48 = .ok ((.iload_n 1), 1) := by decide +kernel
theorem dX11_person_49 : decode cX11_person 49 = .ok ((.invokevirtual 314), 3) := by decide +kernel
theorem dX11_person_52 : decode cX11_person 52 = .ok ((.goto 21), 3) := by decide +kernel
theorem dX11_person_55 : decode cX11_person 55 = .ok ((.aload_n 0), 1) := by decide +kernel
theorem dX11_person_56 : decode cX11_person 56 = .ok ((.getfield 35), 3) := by decide +kernel
theorem dX11_person_59 : decode cX11_person 59 = .ok ((.bipush 8), 2) := by decide +kernel
theorem dX11_person_61 : decode cX11_person 61 = .ok ((.bipush 8), 2) := by decide +kernel
theorem dX11_person_63 : decode cX11_person 63 = .ok ((.iload_n 2), 1) := by decide +kernel
theorem dX11_person_64 : decode cX11_person 64 = .ok ((.iconst 4), 1) := by decide +kernel
theorem dX11_person_65 : decode cX11_person 65 = .ok ((.invokestatic 317), 3) := by decide +kernel
theorem dX11_person_68 : decode cX11_person 68 = .ok (.imul, 1) := by decide +kernel
theorem dX11_person_69 : decode cX11_person 69 = .ok (.iadd, 1) := by decide +kernel
theorem dX11_person_70 : decode cX11_person 70 = .ok ((.iload_n 1), 1) := by decide +kernel
theorem dX11_person_71 : decode cX11_person 71 = .ok (.iadd, 1) := by decide +kernel
theorem dX11_person_72 : decode cX11_person 72 = .ok (.iaload, 1) := by decide +kernel
theorem dX11_person_73 : decode cX11_person 73 = .ok (.ireturn, 1) := by decide +kernel
def p_X11_person   (S : vSt) (a1 : Int32) (a2 : Int32) (post : Int32 → vSt → Prop) : Prop := ∀ S13, S13 = v_si S 143 1 0 → ∀ S14, S14 = v_si S13 143 0 0 → p_X11_isOne  S14 a1 (fun r16 S15 => ((r16 = true → p_X11_isIn  S15 (Int32.toInt64 a2) 0 5 (fun r18 S17 => ((r18 = true → ((¬ a2 = 4 → (vp_in ((8 + (8 * (v_mini a2 4))) + a1) 1900 ∧ post (S17.1 148 (Int32.toNatClampNeg ((8 + (8 * (v_mini a2 4))) + a1))) S17)) ∧ (a2 = 4 → p_X11_deedsOf  S17 a1 (fun r20 S19 => post r20 S19)))) ∧ (r18 = false → p_X11_refuse  S17 5 (fun r22 S21 => post r22 S21))))) ∧ (r16 = false → p_X11_refuse  S15 2 (fun r24 S23 => post r24 S23))))
set_option maxHeartbeats 4000000 in
set_option maxRecDepth 100000 in
theorem c_X11_person (l : Launch) (G : vG)    {S : vSt} (a1 : Int32) (a2 : Int32) (post : Int32 → vSt → Prop) (h : p_X11_person   S a1 a2 post) : Met l yX11_person (v_ws yX11_person cX11_person 3 (some .int)) (v_rm 2 86) (v_Pc G [.ref (G.1 143), .int a1, .int a2] S) (v_Qi G post) 0 0 (v_A G) := by
  refine v_start (by decide +kernel) (Nat.le_of_ble_eq_true rfl) (fun X hl C D => ?_)
  subst hl
  have C : v_Cx X G cX11_person RX11 3 (v_rm 2 86) := C
  show VJ X G S 0 [(0, .ref (G.1 143)), (1, .int a1), (2, .int a2)] []
  refine V_aload_n C 0 dX11_person_0 rfl rfl ?_
  refine V_iconst (v := 0) C dX11_person_1 (by decide) ?_
  refine V_pi C 143 (by decide) (by decide) P_11_1 k_RX11_60 dX11_person_2 ?_
  refine V_topS (fun S13 eS13 => ?_)
  have h := h S13 eS13
  refine V_aload_n C 0 dX11_person_5 rfl rfl ?_
  refine V_iconst (v := 0) C dX11_person_6 (by decide) ?_
  refine V_pi C 143 (by decide) (by decide) P_11_0 k_RX11_63 dX11_person_7 ?_
  refine V_topS (fun S14 eS14 => ?_)
  have h := h S14 eS14
  refine V_aload_n C 0 dX11_person_10 rfl rfl ?_
  refine V_iload_n C 1 dX11_person_11 rfl rfl ?_
  refine V_callVz (As := [.int a1]) (rest := []) C (c_X11_isOne (v_l X) G  _ _ h) 143 11 (by decide) (by decide) (by decide) rfl KV_X11_isOne k_RX11_289 rfl rfl rfl (Nat.le_of_ble_eq_true rfl) ⟨Nat.le_of_ble_eq_true rfl, Nat.le_of_ble_eq_true rfl⟩ dX11_person_12 (fun r16 S15 h => ?_)
  refine V_ifb_ne (tgt := 24) C dX11_person_15 (by decide) (fun c => ?_) (fun c => ?_)
  · have h := h.1 c
    refine V_iload_n C 2 dX11_person_24 rfl rfl ?_
    refine V_i2l C dX11_person_25 ?_
    refine V_lconst (v := 0) C dX11_person_26 (by decide) ?_
    refine V_ldc2 (v := 5) C k_RX11_312 dX11_person_27 ?_
    refine V_callSz (As := [.long (Int32.toInt64 a2), .long 0, .long 5]) (rest := []) C (c_X11_isIn (v_l X) G  _ _ _ _ h) KV_X11_isIn k_RX11_95 rfl rfl rfl (Nat.le_of_ble_eq_true rfl) ⟨Nat.le_of_ble_eq_true rfl, Nat.le_of_ble_eq_true rfl⟩ dX11_person_30 (fun r18 S17 h => ?_)
    refine V_ifb_ne (tgt := 42) C dX11_person_33 (by decide) (fun c => ?_) (fun c => ?_)
    · have h := h.1 c
      refine V_iload_n C 2 dX11_person_42 rfl rfl ?_
      refine V_iconst (v := 4) C dX11_person_43 (by decide) ?_
      refine V_icmp_ne (tgt := 55) C dX11_person_44 (by decide) (fun c => ?_) (fun c => ?_)
      · have h := h.1 c
        refine V_aload_n C 0 dX11_person_55 rfl rfl ?_
        refine V_ga C 143 (by decide) (by decide) F_11_20 k_RX11_35 dX11_person_56 ?_
        refine V_bipush (v := 8) C dX11_person_59 (by decide) ?_
        refine V_bipush (v := 8) C dX11_person_61 (by decide) ?_
        refine V_iload_n C 2 dX11_person_63 rfl rfl ?_
        refine V_iconst (v := 4) C dX11_person_64 (by decide) ?_
        refine V_mini C k_RX11_317 (Nat.le_of_ble_eq_true rfl) ⟨Nat.le_of_ble_eq_true rfl, Nat.le_of_ble_eq_true rfl⟩ dX11_person_65 ?_
        refine V_imul C dX11_person_68 ?_
        refine V_iadd C dX11_person_69 ?_
        refine V_iload_n C 1 dX11_person_70 rfl rfl ?_
        refine V_iadd C dX11_person_71 ?_
        obtain ⟨hi, h⟩ := h
        refine V_iald C 148 1900 (by decide) (by decide) hi dX11_person_72 ?_
        exact V_iret C D dX11_person_73 h
      · have h := h.2 c
        refine V_aload_n C 0 dX11_person_47 rfl rfl ?_
        refine V_iload_n C 1 dX11_person_48 rfl rfl ?_
        refine V_callVi (As := [.int a1]) (rest := []) C (c_X11_deedsOf (v_l X) G  _ _ h) 143 11 (by decide) (by decide) (by decide) rfl KV_X11_deedsOf k_RX11_314 rfl rfl rfl (Nat.le_of_ble_eq_true rfl) ⟨Nat.le_of_ble_eq_true rfl, Nat.le_of_ble_eq_true rfl⟩ dX11_person_49 (fun r20 S19 h => ?_)
        refine V_goto (tgt := 73) C dX11_person_52 (by decide) ?_
        exact V_iret C D dX11_person_73 h
    · have h := h.2 c
      refine V_aload_n C 0 dX11_person_36 rfl rfl ?_
      refine V_iconst (v := 5) C dX11_person_37 (by decide) ?_
      refine V_callVi (As := [.int 5]) (rest := []) C (c_X11_refuse (v_l X) G  _ _ h) 143 11 (by decide) (by decide) (by decide) rfl KV_X11_refuse k_RX11_303 rfl rfl rfl (Nat.le_of_ble_eq_true rfl) ⟨Nat.le_of_ble_eq_true rfl, Nat.le_of_ble_eq_true rfl⟩ dX11_person_38 (fun r22 S21 h => ?_)
      exact V_iret C D dX11_person_41 h
  · have h := h.2 c
    refine V_aload_n C 0 dX11_person_18 rfl rfl ?_
    refine V_iconst (v := 2) C dX11_person_19 (by decide) ?_
    refine V_callVi (As := [.int 2]) (rest := []) C (c_X11_refuse (v_l X) G  _ _ h) 143 11 (by decide) (by decide) (by decide) rfl KV_X11_refuse k_RX11_303 rfl rfl rfl (Nat.le_of_ble_eq_true rfl) ⟨Nat.le_of_ble_eq_true rfl, Nat.le_of_ble_eq_true rfl⟩ dX11_person_20 (fun r24 S23 h => ?_)
    exact V_iret C D dX11_person_23 h
/-! HalfAccuserModel.deed(II)I -/
theorem dX11_deed_0 : decode cX11_deed 0 = .ok ((.aload_n 0), 1) := by decide +kernel
theorem dX11_deed_1 : decode cX11_deed 1 = .ok ((.iconst 0), 1) := by decide +kernel
theorem dX11_deed_2 : decode cX11_deed 2 = .ok ((.putfield 60), 3) := by decide +kernel
theorem dX11_deed_5 : decode cX11_deed 5 = .ok ((.aload_n 0), 1) := by decide +kernel
theorem dX11_deed_6 : decode cX11_deed 6 = .ok ((.iconst 0), 1) := by decide +kernel
theorem dX11_deed_7 : decode cX11_deed 7 = .ok ((.putfield 63), 3) := by decide +kernel
theorem dX11_deed_10 : decode cX11_deed 10 = .ok ((.aload_n 0), 1) := by decide +kernel
theorem dX11_deed_11 : decode cX11_deed 11 = .ok ((.iload_n 1), 1) := by decide +kernel
theorem dX11_deed_12 : decode cX11_deed 12 = .ok ((.invokevirtual 292), 3) := by decide +kernel
theorem dX11_deed_15 : decode cX11_deed 15 = .ok ((.ifCond .ne 9), 3) := by decide +kernel
theorem dX11_deed_18 : decode cX11_deed 18 = .ok ((.aload_n 0), 1) := by decide +kernel
theorem dX11_deed_19 : decode cX11_deed 19 = .ok ((.iconst 2), 1) := by decide +kernel
theorem dX11_deed_20 : decode cX11_deed 20 = .ok ((.invokevirtual 303), 3) := by decide +kernel
theorem dX11_deed_23 : decode cX11_deed 23 = .ok (.ireturn, 1) := by decide +kernel
theorem dX11_deed_24 : decode cX11_deed 24 = .ok ((.iload_n 2), 1) := by decide +kernel
theorem dX11_deed_25 : decode cX11_deed 25 = .ok (.i2l, 1) := by decide +kernel
theorem dX11_deed_26 : decode cX11_deed 26 = .ok ((.lconst 0), 1) := by decide +kernel
theorem dX11_deed_27 : decode cX11_deed 27 = .ok ((.ldc2_w 312), 3) := by decide +kernel
theorem dX11_deed_30 : decode cX11_deed 30 = .ok ((.invokestatic 95), 3) := by decide +kernel
theorem dX11_deed_33 : decode cX11_deed 33 = .ok ((.ifCond .ne 9), 3) := by decide +kernel
theorem dX11_deed_36 : decode cX11_deed 36 = .ok ((.aload_n 0), 1) := by decide +kernel
theorem dX11_deed_37 : decode cX11_deed 37 = .ok ((.iconst 5), 1) := by decide +kernel
theorem dX11_deed_38 : decode cX11_deed 38 = .ok ((.invokevirtual 303), 3) := by decide +kernel
theorem dX11_deed_41 : decode cX11_deed 41 = .ok (.ireturn, 1) := by decide +kernel
theorem dX11_deed_42 : decode cX11_deed 42 = .ok ((.aload_n 0), 1) := by decide +kernel
theorem dX11_deed_43 : decode cX11_deed 43 = .ok ((.getfield 35), 3) := by decide +kernel
theorem dX11_deed_46 : decode cX11_deed 46 = .ok ((.bipush 48), 2) := by decide +kernel
theorem dX11_deed_48 : decode cX11_deed 48 = .ok ((.bipush 10), 2) := by decide +kernel
theorem dX11_deed_50 : decode cX11_deed 50 = .ok ((.iload_n 2), 1) := by decide +kernel
theorem dX11_deed_51 : decode cX11_deed 51 = .ok (.imul, 1) := by decide +kernel
theorem dX11_deed_52 : decode cX11_deed 52 = .ok (.iadd, 1) := by decide +kernel
theorem dX11_deed_53 : decode cX11_deed 53 = .ok ((.iload_n 1), 1) := by decide +kernel
theorem dX11_deed_54 : decode cX11_deed 54 = .ok (.iadd, 1) := by decide +kernel
theorem dX11_deed_55 : decode cX11_deed 55 = .ok (.iaload, 1) := by decide +kernel
theorem dX11_deed_56 : decode cX11_deed 56 = .ok ((.istore_n 3), 1) := by decide +kernel
theorem dX11_deed_57 : decode cX11_deed 57 = .ok ((.iload_n 3), 1) := by decide +kernel
theorem dX11_deed_58 : decode cX11_deed 58 = .ok ((.ifCond .ge 12), 3) := by decide +kernel
theorem dX11_deed_61 : decode cX11_deed 61 = .ok ((.aload_n 0), 1) := by decide +kernel
theorem dX11_deed_62 : decode cX11_deed 62 = .ok ((.bipush 8), 2) := by decide +kernel
theorem dX11_deed_64 : decode cX11_deed 64 = .ok ((.invokevirtual 303), 3) := by decide +kernel
theorem dX11_deed_67 : decode cX11_deed 67 = .ok ((.goto 4), 3) := by decide +kernel
theorem dX11_deed_70 : decode cX11_deed 70 = .ok ((.iload_n 3), 1) := by decide +kernel
theorem dX11_deed_71 : decode cX11_deed 71 = .ok (.ireturn, 1) := by decide +kernel
def p_X11_deed   (S : vSt) (a1 : Int32) (a2 : Int32) (post : Int32 → vSt → Prop) : Prop := ∀ S14, S14 = v_si S 143 1 0 → ∀ S15, S15 = v_si S14 143 0 0 → p_X11_isDeedAt  S15 a1 (fun r17 S16 => ((r17 = true → p_X11_isIn  S16 (Int32.toInt64 a2) 0 5 (fun r19 S18 => ((r19 = true → (vp_in ((48 + (10 * a2)) + a1) 1900 ∧ ∀ y20 : Int32, y20 = (S18.1 148 (Int32.toNatClampNeg ((48 + (10 * a2)) + a1))) → ((0 ≤ y20 → post y20 S18) ∧ (¬ 0 ≤ y20 → p_X11_refuse  S18 8 (fun r22 S21 => post r22 S21))))) ∧ (r19 = false → p_X11_refuse  S18 5 (fun r24 S23 => post r24 S23))))) ∧ (r17 = false → p_X11_refuse  S16 2 (fun r26 S25 => post r26 S25))))
set_option maxHeartbeats 4000000 in
set_option maxRecDepth 100000 in
theorem c_X11_deed (l : Launch) (G : vG)    {S : vSt} (a1 : Int32) (a2 : Int32) (post : Int32 → vSt → Prop) (h : p_X11_deed   S a1 a2 post) : Met l yX11_deed (v_ws yX11_deed cX11_deed 4 (some .int)) (v_rm 2 86) (v_Pc G [.ref (G.1 143), .int a1, .int a2] S) (v_Qi G post) 0 0 (v_A G) := by
  refine v_start (by decide +kernel) (Nat.le_of_ble_eq_true rfl) (fun X hl C D => ?_)
  subst hl
  have C : v_Cx X G cX11_deed RX11 4 (v_rm 2 86) := C
  show VJ X G S 0 [(0, .ref (G.1 143)), (1, .int a1), (2, .int a2)] []
  refine V_aload_n C 0 dX11_deed_0 rfl rfl ?_
  refine V_iconst (v := 0) C dX11_deed_1 (by decide) ?_
  refine V_pi C 143 (by decide) (by decide) P_11_1 k_RX11_60 dX11_deed_2 ?_
  refine V_topS (fun S14 eS14 => ?_)
  have h := h S14 eS14
  refine V_aload_n C 0 dX11_deed_5 rfl rfl ?_
  refine V_iconst (v := 0) C dX11_deed_6 (by decide) ?_
  refine V_pi C 143 (by decide) (by decide) P_11_0 k_RX11_63 dX11_deed_7 ?_
  refine V_topS (fun S15 eS15 => ?_)
  have h := h S15 eS15
  refine V_aload_n C 0 dX11_deed_10 rfl rfl ?_
  refine V_iload_n C 1 dX11_deed_11 rfl rfl ?_
  refine V_callVz (As := [.int a1]) (rest := []) C (c_X11_isDeedAt (v_l X) G  _ _ h) 143 11 (by decide) (by decide) (by decide) rfl KV_X11_isDeedAt k_RX11_292 rfl rfl rfl (Nat.le_of_ble_eq_true rfl) ⟨Nat.le_of_ble_eq_true rfl, Nat.le_of_ble_eq_true rfl⟩ dX11_deed_12 (fun r17 S16 h => ?_)
  refine V_ifb_ne (tgt := 24) C dX11_deed_15 (by decide) (fun c => ?_) (fun c => ?_)
  · have h := h.1 c
    refine V_iload_n C 2 dX11_deed_24 rfl rfl ?_
    refine V_i2l C dX11_deed_25 ?_
    refine V_lconst (v := 0) C dX11_deed_26 (by decide) ?_
    refine V_ldc2 (v := 5) C k_RX11_312 dX11_deed_27 ?_
    refine V_callSz (As := [.long (Int32.toInt64 a2), .long 0, .long 5]) (rest := []) C (c_X11_isIn (v_l X) G  _ _ _ _ h) KV_X11_isIn k_RX11_95 rfl rfl rfl (Nat.le_of_ble_eq_true rfl) ⟨Nat.le_of_ble_eq_true rfl, Nat.le_of_ble_eq_true rfl⟩ dX11_deed_30 (fun r19 S18 h => ?_)
    refine V_ifb_ne (tgt := 42) C dX11_deed_33 (by decide) (fun c => ?_) (fun c => ?_)
    · have h := h.1 c
      refine V_aload_n C 0 dX11_deed_42 rfl rfl ?_
      refine V_ga C 143 (by decide) (by decide) F_11_20 k_RX11_35 dX11_deed_43 ?_
      refine V_bipush (v := 48) C dX11_deed_46 (by decide) ?_
      refine V_bipush (v := 10) C dX11_deed_48 (by decide) ?_
      refine V_iload_n C 2 dX11_deed_50 rfl rfl ?_
      refine V_imul C dX11_deed_51 ?_
      refine V_iadd C dX11_deed_52 ?_
      refine V_iload_n C 1 dX11_deed_53 rfl rfl ?_
      refine V_iadd C dX11_deed_54 ?_
      obtain ⟨hi, h⟩ := h
      refine V_iald C 148 1900 (by decide) (by decide) hi dX11_deed_55 ?_
      refine V_topi (fun y20 ey20 => ?_)
      have h := h y20 ey20
      refine V_istore_n (lv' := [(0, .ref (G.1 143)), (1, .int a1), (2, .int a2), (3, .int y20)]) C [1, 2, 3, 0] dX11_deed_56 rfl (by decide) rfl ?_
      refine V_iload_n C 3 dX11_deed_57 rfl rfl ?_
      refine V_if_ge (tgt := 70) C dX11_deed_58 (by decide) (fun c => ?_) (fun c => ?_)
      · have h := h.1 c
        refine V_iload_n C 3 dX11_deed_70 rfl rfl ?_
        exact V_iret C D dX11_deed_71 h
      · have h := h.2 c
        refine V_aload_n C 0 dX11_deed_61 rfl rfl ?_
        refine V_bipush (v := 8) C dX11_deed_62 (by decide) ?_
        refine V_callVi (As := [.int 8]) (rest := []) C (c_X11_refuse (v_l X) G  _ _ h) 143 11 (by decide) (by decide) (by decide) rfl KV_X11_refuse k_RX11_303 rfl rfl rfl (Nat.le_of_ble_eq_true rfl) ⟨Nat.le_of_ble_eq_true rfl, Nat.le_of_ble_eq_true rfl⟩ dX11_deed_64 (fun r22 S21 h => ?_)
        refine V_goto (tgt := 71) C dX11_deed_67 (by decide) ?_
        exact V_iret C D dX11_deed_71 h
    · have h := h.2 c
      refine V_aload_n C 0 dX11_deed_36 rfl rfl ?_
      refine V_iconst (v := 5) C dX11_deed_37 (by decide) ?_
      refine V_callVi (As := [.int 5]) (rest := []) C (c_X11_refuse (v_l X) G  _ _ h) 143 11 (by decide) (by decide) (by decide) rfl KV_X11_refuse k_RX11_303 rfl rfl rfl (Nat.le_of_ble_eq_true rfl) ⟨Nat.le_of_ble_eq_true rfl, Nat.le_of_ble_eq_true rfl⟩ dX11_deed_38 (fun r24 S23 h => ?_)
      exact V_iret C D dX11_deed_41 h
  · have h := h.2 c
    refine V_aload_n C 0 dX11_deed_18 rfl rfl ?_
    refine V_iconst (v := 2) C dX11_deed_19 (by decide) ?_
    refine V_callVi (As := [.int 2]) (rest := []) C (c_X11_refuse (v_l X) G  _ _ h) 143 11 (by decide) (by decide) (by decide) rfl KV_X11_refuse k_RX11_303 rfl rfl rfl (Nat.le_of_ble_eq_true rfl) ⟨Nat.le_of_ble_eq_true rfl, Nat.le_of_ble_eq_true rfl⟩ dX11_deed_20 (fun r26 S25 h => ?_)
    exact V_iret C D dX11_deed_23 h
/-! HalfAccuserModel.copyCoins(I)I -/
theorem dX11_copyCoins_0 : decode cX11_copyCoins 0 = .ok ((.aload_n 0), 1) := by decide +kernel
theorem dX11_copyCoins_1 : decode cX11_copyCoins 1 = .ok ((.iconst 0), 1) := by decide +kernel
theorem dX11_copyCoins_2 : decode cX11_copyCoins 2 = .ok ((.putfield 60), 3) := by decide +kernel
theorem dX11_copyCoins_5 : decode cX11_copyCoins 5 = .ok ((.aload_n 0), 1) := by decide +kernel
theorem dX11_copyCoins_6 : decode cX11_copyCoins 6 = .ok ((.iconst 0), 1) := by decide +kernel
theorem dX11_copyCoins_7 : decode cX11_copyCoins 7 = .ok ((.putfield 63), 3) := by decide +kernel
theorem dX11_copyCoins_10 : decode cX11_copyCoins 10 = .ok ((.aload_n 0), 1) := by decide +kernel
theorem dX11_copyCoins_11 : decode cX11_copyCoins 11 = .ok ((.iload_n 1), 1) := by decide +kernel
theorem dX11_copyCoins_12 : decode cX11_copyCoins 12 = .ok ((.invokevirtual 320), 3) := by decide +kernel
theorem dX11_copyCoins_15 : decode cX11_copyCoins 15 = .ok ((.ifCond .ne 9), 3) := by decide +kernel
theorem dX11_copyCoins_18 : decode cX11_copyCoins 18 = .ok ((.aload_n 0), 1) := by decide +kernel
theorem dX11_copyCoins_19 : decode cX11_copyCoins 19 = .ok ((.iconst 1), 1) := by decide +kernel
theorem dX11_copyCoins_20 : decode cX11_copyCoins 20 = .ok ((.invokevirtual 303), 3) := by decide +kernel
theorem dX11_copyCoins_23 : decode cX11_copyCoins 23 = .ok (.ireturn, 1) := by decide +kernel
theorem dX11_copyCoins_24 : decode cX11_copyCoins 24 = .ok ((.aload_n 0), 1) := by decide +kernel
theorem dX11_copyCoins_25 : decode cX11_copyCoins 25 = .ok ((.getfield 17), 3) := by decide +kernel
theorem dX11_copyCoins_28 : decode cX11_copyCoins 28 = .ok ((.iload_n 1), 1) := by decide +kernel
theorem dX11_copyCoins_29 : decode cX11_copyCoins 29 = .ok (.iaload, 1) := by decide +kernel
theorem dX11_copyCoins_30 : decode cX11_copyCoins 30 = .ok ((.ifCond .ge 9), 3) := by decide +kernel
theorem dX11_copyCoins_33 : decode cX11_copyCoins 33 = .ok ((.aload_n 0), 1) := by decide +kernel
theorem dX11_copyCoins_34 : decode cX11_copyCoins 34 = .ok ((.iconst 3), 1) := by decide +kernel
theorem dX11_copyCoins_35 : decode cX11_copyCoins 35 = .ok ((.invokevirtual 303), 3) := by decide +kernel
theorem dX11_copyCoins_38 : decode cX11_copyCoins 38 = .ok (.ireturn, 1) := by decide +kernel
theorem dX11_copyCoins_39 : decode cX11_copyCoins 39 = .ok ((.aload_n 0), 1) := by decide +kernel
theorem dX11_copyCoins_40 : decode cX11_copyCoins 40 = .ok ((.getfield 17), 3) := by decide +kernel
theorem dX11_copyCoins_43 : decode cX11_copyCoins 43 = .ok ((.iload_n 1), 1) := by decide +kernel
theorem dX11_copyCoins_44 : decode cX11_copyCoins 44 = .ok (.iaload, 1) := by decide +kernel
theorem dX11_copyCoins_45 : decode cX11_copyCoins 45 = .ok ((.aload_n 0), 1) := by decide +kernel
theorem dX11_copyCoins_46 : decode cX11_copyCoins 46 = .ok ((.getfield 35), 3) := by decide +kernel
theorem dX11_copyCoins_49 : decode cX11_copyCoins 49 = .ok ((.iconst 0), 1) := by decide +kernel
theorem dX11_copyCoins_50 : decode cX11_copyCoins 50 = .ok (.iaload, 1) := by decide +kernel
theorem dX11_copyCoins_51 : decode cX11_copyCoins 51 = .ok ((.if_icmp .ge 9), 3) := by decide +kernel
theorem dX11_copyCoins_54 : decode cX11_copyCoins 54 = .ok ((.aload_n 0), 1) := by decide +kernel
theorem dX11_copyCoins_55 : decode cX11_copyCoins 55 = .ok ((.iconst 4), 1) := by decide +kernel
theorem dX11_copyCoins_56 : decode cX11_copyCoins 56 = .ok ((.invokevirtual 303), 3) := by decide +kernel
theorem dX11_copyCoins_59 : decode cX11_copyCoins 59 = .ok (.ireturn, 1) := by decide +kernel
theorem dX11_copyCoins_60 : decode cX11_copyCoins 60 = .ok ((.iconst 0), 1) := by decide +kernel
theorem dX11_copyCoins_61 : decode cX11_copyCoins 61 = .ok ((.istore_n 2), 1) := by decide +kernel
theorem dX11_copyCoins_62 : decode cX11_copyCoins 62 = .ok ((.iload_n 2), 1) := by decide +kernel
theorem dX11_copyCoins_63 : decode cX11_copyCoins 63 = .ok ((.aload_n 0), 1) := by decide +kernel
theorem dX11_copyCoins_64 : decode cX11_copyCoins 64 = .ok ((.getfield 35), 3) := by decide +kernel
theorem dX11_copyCoins_67 : decode cX11_copyCoins 67 = .ok ((.iconst 0), 1) := by decide +kernel
theorem dX11_copyCoins_68 : decode cX11_copyCoins 68 = .ok (.iaload, 1) := by decide +kernel
theorem dX11_copyCoins_69 : decode cX11_copyCoins 69 = .ok ((.if_icmp .ge 26), 3) := by decide +kernel
theorem dX11_copyCoins_72 : decode cX11_copyCoins 72 = .ok ((.aload_n 0), 1) := by decide +kernel
theorem dX11_copyCoins_73 : decode cX11_copyCoins 73 = .ok ((.iload_n 1), 1) := by decide +kernel
theorem dX11_copyCoins_74 : decode cX11_copyCoins 74 = .ok ((.iload_n 2), 1) := by decide +kernel
theorem dX11_copyCoins_75 : decode cX11_copyCoins 75 = .ok ((.aload_n 0), 1) := by decide +kernel
theorem dX11_copyCoins_76 : decode cX11_copyCoins 76 = .ok ((.getfield 35), 3) := by decide +kernel
theorem dX11_copyCoins_79 : decode cX11_copyCoins 79 = .ok ((.bipush 8), 2) := by decide +kernel
theorem dX11_copyCoins_81 : decode cX11_copyCoins 81 = .ok ((.iload_n 2), 1) := by decide +kernel
theorem dX11_copyCoins_82 : decode cX11_copyCoins 82 = .ok (.iadd, 1) := by decide +kernel
theorem dX11_copyCoins_83 : decode cX11_copyCoins 83 = .ok (.iaload, 1) := by decide +kernel
theorem dX11_copyCoins_84 : decode cX11_copyCoins 84 = .ok (.i2l, 1) := by decide +kernel
theorem dX11_copyCoins_85 : decode cX11_copyCoins 85 = .ok ((.invokevirtual 323), 3) := by decide +kernel
theorem dX11_copyCoins_88 : decode cX11_copyCoins 88 = .ok (.pop, 1) := by decide +kernel
theorem dX11_copyCoins_89 : decode cX11_copyCoins 89 = .ok ((.iinc 2 1), 3) := by decide +kernel
theorem dX11_copyCoins_92 : decode cX11_copyCoins 92 = .ok ((.goto (-30)), 3) := by decide +kernel
theorem dX11_copyCoins_95 : decode cX11_copyCoins 95 = .ok ((.aload_n 0), 1) := by decide +kernel
theorem dX11_copyCoins_96 : decode cX11_copyCoins 96 = .ok ((.getfield 35), 3) := by decide +kernel
theorem dX11_copyCoins_99 : decode cX11_copyCoins 99 = .ok ((.iconst 0), 1) := by decide +kernel
theorem dX11_copyCoins_100 : decode cX11_copyCoins 100 = .ok (.iaload, 1) := by decide +kernel
theorem dX11_copyCoins_101 : decode cX11_copyCoins 101 = .ok (.ireturn, 1) := by decide +kernel
def p_X11_copyCoins_62  (a1 : Int32)   (post : Int32 → vSt → Prop) : Nat → vSt → Int32 → Prop
  | 0 => fun _ _ => False
  | fu62 + 1 => fun S x2 => (vp_in 0 1900 ∧ (((S.1 148 (Int32.toNatClampNeg 0)) ≤ x2 → (vp_in 0 1900 ∧ post (S.1 148 (Int32.toNatClampNeg 0)) S)) ∧ (¬ (S.1 148 (Int32.toNatClampNeg 0)) ≤ x2 → (vp_in (8 + x2) 1900 ∧ p_X11_write  S a1 x2 (Int32.toInt64 (S.1 148 (Int32.toNatClampNeg (8 + x2)))) (fun r22 S21 => ∀ y23 : Int32, y23 = x2 + 1 → (p_X11_copyCoins_62 a1 post fu62) S21 y23)))))
theorem e_X11_copyCoins_62  (a1 : Int32)   (post : Int32 → vSt → Prop) (fu62 : Nat) (S : vSt) (x2 : Int32) : p_X11_copyCoins_62 a1 post (fu62 + 1) S x2 = ((vp_in 0 1900 ∧ (((S.1 148 (Int32.toNatClampNeg 0)) ≤ x2 → (vp_in 0 1900 ∧ post (S.1 148 (Int32.toNatClampNeg 0)) S)) ∧ (¬ (S.1 148 (Int32.toNatClampNeg 0)) ≤ x2 → (vp_in (8 + x2) 1900 ∧ p_X11_write  S a1 x2 (Int32.toInt64 (S.1 148 (Int32.toNatClampNeg (8 + x2)))) (fun r22 S21 => ∀ y23 : Int32, y23 = x2 + 1 → (p_X11_copyCoins_62 a1 post fu62) S21 y23)))))) := rfl
def p_X11_copyCoins   (S : vSt) (a1 : Int32) (post : Int32 → vSt → Prop) : Prop := ∀ S17, S17 = v_si S 143 1 0 → ∀ S18, S18 = v_si S17 143 0 0 → p_X11_isTray  S18 a1 (fun r20 S19 => ((r20 = true → (vp_in a1 4 ∧ ((0 ≤ (S19.1 145 (Int32.toNatClampNeg a1)) → (vp_in a1 4 ∧ (vp_in 0 1900 ∧ (((S19.1 148 (Int32.toNatClampNeg 0)) ≤ (S19.1 145 (Int32.toNatClampNeg a1)) → ∃ fu62, p_X11_copyCoins_62 a1 post fu62 S19 0) ∧ (¬ (S19.1 148 (Int32.toNatClampNeg 0)) ≤ (S19.1 145 (Int32.toNatClampNeg a1)) → p_X11_refuse  S19 4 (fun r22 S21 => post r22 S21)))))) ∧ (¬ 0 ≤ (S19.1 145 (Int32.toNatClampNeg a1)) → p_X11_refuse  S19 3 (fun r24 S23 => post r24 S23))))) ∧ (r20 = false → p_X11_refuse  S19 1 (fun r26 S25 => post r26 S25))))
set_option maxHeartbeats 4000000 in
set_option maxRecDepth 100000 in
theorem q_X11_copyCoins_62 {X : vX} {G : vG}  {post : Int32 → vSt → Prop} (C : v_Cx X G cX11_copyCoins RX11 3 (v_rm 3 108)) (D : v_Rx X G (v_Qi G post) (some .int))  {a1 : Int32}   : ∀ (fu : Nat) (S : vSt) (x2 : Int32), p_X11_copyCoins_62 a1 post fu S x2 → VJ X G S 62 [(0, .ref (G.1 143)), (1, .int a1), (2, .int x2)] [] := by
  intro fu
  induction fu with
  | zero => intro S x2 h; exact absurd h id
  | succ fu ih =>
    intro S x2 h
    have hK62 := ih
    rw [e_X11_copyCoins_62] at h
    refine V_iload_n C 2 dX11_copyCoins_62 rfl rfl ?_
    refine V_aload_n C 0 dX11_copyCoins_63 rfl rfl ?_
    refine V_ga C 143 (by decide) (by decide) F_11_20 k_RX11_35 dX11_copyCoins_64 ?_
    refine V_iconst (v := 0) C dX11_copyCoins_67 (by decide) ?_
    obtain ⟨hi, h⟩ := h
    refine V_iald C 148 1900 (by decide) (by decide) hi dX11_copyCoins_68 ?_
    refine V_icmp_ge (tgt := 95) C dX11_copyCoins_69 (by decide) (fun c => ?_) (fun c => ?_)
    · have h := h.1 c
      refine V_aload_n C 0 dX11_copyCoins_95 rfl rfl ?_
      refine V_ga C 143 (by decide) (by decide) F_11_20 k_RX11_35 dX11_copyCoins_96 ?_
      refine V_iconst (v := 0) C dX11_copyCoins_99 (by decide) ?_
      obtain ⟨hi, h⟩ := h
      refine V_iald C 148 1900 (by decide) (by decide) hi dX11_copyCoins_100 ?_
      exact V_iret C D dX11_copyCoins_101 h
    · have h := h.2 c
      refine V_aload_n C 0 dX11_copyCoins_72 rfl rfl ?_
      refine V_iload_n C 1 dX11_copyCoins_73 rfl rfl ?_
      refine V_iload_n C 2 dX11_copyCoins_74 rfl rfl ?_
      refine V_aload_n C 0 dX11_copyCoins_75 rfl rfl ?_
      refine V_ga C 143 (by decide) (by decide) F_11_20 k_RX11_35 dX11_copyCoins_76 ?_
      refine V_bipush (v := 8) C dX11_copyCoins_79 (by decide) ?_
      refine V_iload_n C 2 dX11_copyCoins_81 rfl rfl ?_
      refine V_iadd C dX11_copyCoins_82 ?_
      obtain ⟨hi, h⟩ := h
      refine V_iald C 148 1900 (by decide) (by decide) hi dX11_copyCoins_83 ?_
      refine V_i2l C dX11_copyCoins_84 ?_
      refine V_callVz (As := [.int a1, .int x2, .long (Int32.toInt64 (S.1 148 (Int32.toNatClampNeg (8 + x2))))]) (rest := []) C (c_X11_write (v_l X) G  _ _ _ _ h) 143 11 (by decide) (by decide) (by decide) rfl KV_X11_write k_RX11_323 rfl rfl rfl (Nat.le_of_ble_eq_true rfl) ⟨Nat.le_of_ble_eq_true rfl, Nat.le_of_ble_eq_true rfl⟩ dX11_copyCoins_85 (fun r22 S21 h => ?_)
      refine V_pop C dX11_copyCoins_88 rfl ?_
      obtain ⟨y23, ey23⟩ : ∃ z : Int32, z = x2 + 1 := ⟨_, rfl⟩
      have h := h y23 ey23
      refine V_iinc (lv' := [(0, .ref (G.1 143)), (1, .int a1), (2, .int y23)]) C 2 [1, 2, 0] y23 dX11_copyCoins_89 rfl (by rw [ey23]; rfl) (by decide) rfl ?_
      refine V_goto (tgt := 62) C dX11_copyCoins_92 (by decide) ?_
      exact hK62 _ _ h
set_option maxHeartbeats 4000000 in
set_option maxRecDepth 100000 in
theorem c_X11_copyCoins (l : Launch) (G : vG)    {S : vSt} (a1 : Int32) (post : Int32 → vSt → Prop) (h : p_X11_copyCoins   S a1 post) : Met l yX11_copyCoins (v_ws yX11_copyCoins cX11_copyCoins 3 (some .int)) (v_rm 3 108) (v_Pc G [.ref (G.1 143), .int a1] S) (v_Qi G post) 0 0 (v_A G) := by
  refine v_start (by decide +kernel) (Nat.le_of_ble_eq_true rfl) (fun X hl C D => ?_)
  subst hl
  have C : v_Cx X G cX11_copyCoins RX11 3 (v_rm 3 108) := C
  show VJ X G S 0 [(0, .ref (G.1 143)), (1, .int a1)] []
  refine V_aload_n C 0 dX11_copyCoins_0 rfl rfl ?_
  refine V_iconst (v := 0) C dX11_copyCoins_1 (by decide) ?_
  refine V_pi C 143 (by decide) (by decide) P_11_1 k_RX11_60 dX11_copyCoins_2 ?_
  refine V_topS (fun S17 eS17 => ?_)
  have h := h S17 eS17
  refine V_aload_n C 0 dX11_copyCoins_5 rfl rfl ?_
  refine V_iconst (v := 0) C dX11_copyCoins_6 (by decide) ?_
  refine V_pi C 143 (by decide) (by decide) P_11_0 k_RX11_63 dX11_copyCoins_7 ?_
  refine V_topS (fun S18 eS18 => ?_)
  have h := h S18 eS18
  refine V_aload_n C 0 dX11_copyCoins_10 rfl rfl ?_
  refine V_iload_n C 1 dX11_copyCoins_11 rfl rfl ?_
  refine V_callVz (As := [.int a1]) (rest := []) C (c_X11_isTray (v_l X) G  _ _ h) 143 11 (by decide) (by decide) (by decide) rfl KV_X11_isTray k_RX11_320 rfl rfl rfl (Nat.le_of_ble_eq_true rfl) ⟨Nat.le_of_ble_eq_true rfl, Nat.le_of_ble_eq_true rfl⟩ dX11_copyCoins_12 (fun r20 S19 h => ?_)
  refine V_ifb_ne (tgt := 24) C dX11_copyCoins_15 (by decide) (fun c => ?_) (fun c => ?_)
  · have h := h.1 c
    refine V_aload_n C 0 dX11_copyCoins_24 rfl rfl ?_
    refine V_ga C 143 (by decide) (by decide) F_11_5 k_RX11_17 dX11_copyCoins_25 ?_
    refine V_iload_n C 1 dX11_copyCoins_28 rfl rfl ?_
    obtain ⟨hi, h⟩ := h
    refine V_iald C 145 4 (by decide) (by decide) hi dX11_copyCoins_29 ?_
    refine V_if_ge (tgt := 39) C dX11_copyCoins_30 (by decide) (fun c => ?_) (fun c => ?_)
    · have h := h.1 c
      refine V_aload_n C 0 dX11_copyCoins_39 rfl rfl ?_
      refine V_ga C 143 (by decide) (by decide) F_11_5 k_RX11_17 dX11_copyCoins_40 ?_
      refine V_iload_n C 1 dX11_copyCoins_43 rfl rfl ?_
      obtain ⟨hi, h⟩ := h
      refine V_iald C 145 4 (by decide) (by decide) hi dX11_copyCoins_44 ?_
      refine V_aload_n C 0 dX11_copyCoins_45 rfl rfl ?_
      refine V_ga C 143 (by decide) (by decide) F_11_20 k_RX11_35 dX11_copyCoins_46 ?_
      refine V_iconst (v := 0) C dX11_copyCoins_49 (by decide) ?_
      obtain ⟨hi, h⟩ := h
      refine V_iald C 148 1900 (by decide) (by decide) hi dX11_copyCoins_50 ?_
      refine V_icmp_ge (tgt := 60) C dX11_copyCoins_51 (by decide) (fun c => ?_) (fun c => ?_)
      · have h := h.1 c
        refine V_iconst (v := 0) C dX11_copyCoins_60 (by decide) ?_
        refine V_istore_n (lv' := [(0, .ref (G.1 143)), (1, .int a1), (2, .int 0)]) C [1, 2, 0] dX11_copyCoins_61 rfl (by decide) rfl ?_
        obtain ⟨fu62, h⟩ := h
        exact q_X11_copyCoins_62 C D  fu62 _ _ h
      · have h := h.2 c
        refine V_aload_n C 0 dX11_copyCoins_54 rfl rfl ?_
        refine V_iconst (v := 4) C dX11_copyCoins_55 (by decide) ?_
        refine V_callVi (As := [.int 4]) (rest := []) C (c_X11_refuse (v_l X) G  _ _ h) 143 11 (by decide) (by decide) (by decide) rfl KV_X11_refuse k_RX11_303 rfl rfl rfl (Nat.le_of_ble_eq_true rfl) ⟨Nat.le_of_ble_eq_true rfl, Nat.le_of_ble_eq_true rfl⟩ dX11_copyCoins_56 (fun r22 S21 h => ?_)
        exact V_iret C D dX11_copyCoins_59 h
    · have h := h.2 c
      refine V_aload_n C 0 dX11_copyCoins_33 rfl rfl ?_
      refine V_iconst (v := 3) C dX11_copyCoins_34 (by decide) ?_
      refine V_callVi (As := [.int 3]) (rest := []) C (c_X11_refuse (v_l X) G  _ _ h) 143 11 (by decide) (by decide) (by decide) rfl KV_X11_refuse k_RX11_303 rfl rfl rfl (Nat.le_of_ble_eq_true rfl) ⟨Nat.le_of_ble_eq_true rfl, Nat.le_of_ble_eq_true rfl⟩ dX11_copyCoins_35 (fun r24 S23 h => ?_)
      exact V_iret C D dX11_copyCoins_38 h
  · have h := h.2 c
    refine V_aload_n C 0 dX11_copyCoins_18 rfl rfl ?_
    refine V_iconst (v := 1) C dX11_copyCoins_19 (by decide) ?_
    refine V_callVi (As := [.int 1]) (rest := []) C (c_X11_refuse (v_l X) G  _ _ h) 143 11 (by decide) (by decide) (by decide) rfl KV_X11_refuse k_RX11_303 rfl rfl rfl (Nat.le_of_ble_eq_true rfl) ⟨Nat.le_of_ble_eq_true rfl, Nat.le_of_ble_eq_true rfl⟩ dX11_copyCoins_20 (fun r26 S25 h => ?_)
    exact V_iret C D dX11_copyCoins_23 h
/-! HalfAccuserModel.pays(II)V -/
theorem dX11_pays_0 : decode cX11_pays 0 = .ok ((.aload_n 0), 1) := by decide +kernel
theorem dX11_pays_1 : decode cX11_pays 1 = .ok ((.getfield 35), 3) := by decide +kernel
theorem dX11_pays_4 : decode cX11_pays 4 = .ok ((.iload_n 1), 1) := by decide +kernel
theorem dX11_pays_5 : decode cX11_pays 5 = .ok ((.ldc_w 327), 3) := by decide +kernel
theorem dX11_pays_8 : decode cX11_pays 8 = .ok ((.ldc_w 328), 3) := by decide +kernel
theorem dX11_pays_11 : decode cX11_pays 11 = .ok ((.aload_n 0), 1) := by decide +kernel
theorem dX11_pays_12 : decode cX11_pays 12 = .ok ((.getfield 35), 3) := by decide +kernel
theorem dX11_pays_15 : decode cX11_pays 15 = .ok ((.iload_n 1), 1) := by decide +kernel
theorem dX11_pays_16 : decode cX11_pays 16 = .ok (.iaload, 1) := by decide +kernel
theorem dX11_pays_17 : decode cX11_pays 17 = .ok ((.iload_n 2), 1) := by decide +kernel
theorem dX11_pays_18 : decode cX11_pays 18 = .ok (.iadd, 1) := by decide +kernel
theorem dX11_pays_19 : decode cX11_pays 19 = .ok ((.invokestatic 317), 3) := by decide +kernel
theorem dX11_pays_22 : decode cX11_pays 22 = .ok ((.invokestatic 232), 3) := by decide +kernel
theorem dX11_pays_25 : decode cX11_pays 25 = .ok (.iastore, 1) := by decide +kernel
theorem dX11_pays_26 : decode cX11_pays 26 = .ok (.return_, 1) := by decide +kernel
def p_X11_pays   (S : vSt) (a1 : Int32) (a2 : Int32) (post : vSt → Prop) : Prop := (vp_in a1 1900 ∧ (vp_in a1 1900 ∧ ∀ S2, S2 = v_si S 148 (Int32.toNatClampNeg a1) (v_maxi (-99999) (v_mini 99999 ((S.1 148 (Int32.toNatClampNeg a1)) + a2))) → post S2))
set_option maxHeartbeats 4000000 in
set_option maxRecDepth 100000 in
theorem c_X11_pays (l : Launch) (G : vG)    {S : vSt} (a1 : Int32) (a2 : Int32) (post : vSt → Prop) (h : p_X11_pays   S a1 a2 post) : Met l yX11_pays (v_ws yX11_pays cX11_pays 3 none) (v_rm 1 60) (v_Pc G [.ref (G.1 143), .int a1, .int a2] S) (v_Qv G post) 0 0 (v_A G) := by
  refine v_start (by decide +kernel) (Nat.le_of_ble_eq_true rfl) (fun X hl C D => ?_)
  subst hl
  have C : v_Cx X G cX11_pays RX11 3 (v_rm 1 60) := C
  show VJ X G S 0 [(0, .ref (G.1 143)), (1, .int a1), (2, .int a2)] []
  refine V_aload_n C 0 dX11_pays_0 rfl rfl ?_
  refine V_ga C 143 (by decide) (by decide) F_11_20 k_RX11_35 dX11_pays_1 ?_
  refine V_iload_n C 1 dX11_pays_4 rfl rfl ?_
  refine V_ldcw (v := (-99999)) C k_RX11_327 dX11_pays_5 ?_
  refine V_ldcw (v := 99999) C k_RX11_328 dX11_pays_8 ?_
  refine V_aload_n C 0 dX11_pays_11 rfl rfl ?_
  refine V_ga C 143 (by decide) (by decide) F_11_20 k_RX11_35 dX11_pays_12 ?_
  refine V_iload_n C 1 dX11_pays_15 rfl rfl ?_
  obtain ⟨hi, h⟩ := h
  refine V_iald C 148 1900 (by decide) (by decide) hi dX11_pays_16 ?_
  refine V_iload_n C 2 dX11_pays_17 rfl rfl ?_
  refine V_iadd C dX11_pays_18 ?_
  refine V_mini C k_RX11_317 (Nat.le_of_ble_eq_true rfl) ⟨Nat.le_of_ble_eq_true rfl, Nat.le_of_ble_eq_true rfl⟩ dX11_pays_19 ?_
  refine V_maxi C k_RX11_232 (Nat.le_of_ble_eq_true rfl) ⟨Nat.le_of_ble_eq_true rfl, Nat.le_of_ble_eq_true rfl⟩ dX11_pays_22 ?_
  obtain ⟨hi, h⟩ := h
  refine V_iast C 148 1900 (by decide) (by decide) hi dX11_pays_25 ?_
  refine V_topS (fun S2 eS2 => ?_)
  have h := h S2 eS2
  exact V_vret C D dX11_pays_26 h
/-! HalfAccuserModel.part(I)I -/
theorem dX11_part_0 : decode cX11_part 0 = .ok ((.aload_n 0), 1) := by decide +kernel
theorem dX11_part_1 : decode cX11_part 1 = .ok ((.getfield 35), 3) := by decide +kernel
theorem dX11_part_4 : decode cX11_part 4 = .ok ((.bipush 58), 2) := by decide +kernel
theorem dX11_part_6 : decode cX11_part 6 = .ok ((.iload_n 1), 1) := by decide +kernel
theorem dX11_part_7 : decode cX11_part 7 = .ok (.iadd, 1) := by decide +kernel
theorem dX11_part_8 : decode cX11_part 8 = .ok (.iaload, 1) := by decide +kernel
theorem dX11_part_9 : decode cX11_part 9 = .ok ((.aload_n 0), 1) := by decide +kernel
theorem dX11_part_10 : decode cX11_part 10 = .ok ((.getfield 35), 3) := by decide +kernel
theorem dX11_part_13 : decode cX11_part 13 = .ok ((.iconst 5), 1) := by decide +kernel
theorem dX11_part_14 : decode cX11_part 14 = .ok (.iaload, 1) := by decide +kernel
theorem dX11_part_15 : decode cX11_part 15 = .ok (.imul, 1) := by decide +kernel
theorem dX11_part_16 : decode cX11_part 16 = .ok ((.bipush 16), 2) := by decide +kernel
theorem dX11_part_18 : decode cX11_part 18 = .ok (.idiv, 1) := by decide +kernel
theorem dX11_part_19 : decode cX11_part 19 = .ok (.ireturn, 1) := by decide +kernel
def p_X11_part   (S : vSt) (a1 : Int32) (post : Int32 → vSt → Prop) : Prop := (vp_in (58 + a1) 1900 ∧ (vp_in 5 1900 ∧ post (((S.1 148 (Int32.toNatClampNeg (58 + a1))) * (S.1 148 (Int32.toNatClampNeg 5))) / 16) S))
set_option maxHeartbeats 4000000 in
set_option maxRecDepth 100000 in
theorem c_X11_part (l : Launch) (G : vG)    {S : vSt} (a1 : Int32) (post : Int32 → vSt → Prop) (h : p_X11_part   S a1 post) : Met l yX11_part (v_ws yX11_part cX11_part 2 (some .int)) (v_rm 0 40) (v_Pc G [.ref (G.1 143), .int a1] S) (v_Qi G post) 0 0 (v_A G) := by
  refine v_start (by decide +kernel) (Nat.le_of_ble_eq_true rfl) (fun X hl C D => ?_)
  subst hl
  have C : v_Cx X G cX11_part RX11 2 (v_rm 0 40) := C
  show VJ X G S 0 [(0, .ref (G.1 143)), (1, .int a1)] []
  refine V_aload_n C 0 dX11_part_0 rfl rfl ?_
  refine V_ga C 143 (by decide) (by decide) F_11_20 k_RX11_35 dX11_part_1 ?_
  refine V_bipush (v := 58) C dX11_part_4 (by decide) ?_
  refine V_iload_n C 1 dX11_part_6 rfl rfl ?_
  refine V_iadd C dX11_part_7 ?_
  obtain ⟨hi, h⟩ := h
  refine V_iald C 148 1900 (by decide) (by decide) hi dX11_part_8 ?_
  refine V_aload_n C 0 dX11_part_9 rfl rfl ?_
  refine V_ga C 143 (by decide) (by decide) F_11_20 k_RX11_35 dX11_part_10 ?_
  refine V_iconst (v := 5) C dX11_part_13 (by decide) ?_
  obtain ⟨hi, h⟩ := h
  refine V_iald C 148 1900 (by decide) (by decide) hi dX11_part_14 ?_
  refine V_imul C dX11_part_15 ?_
  refine V_bipush (v := 16) C dX11_part_16 (by decide) ?_
  refine V_idiv C dX11_part_18 (by decide) ?_
  exact V_iret C D dX11_part_19 h
/-! HalfAccuserModel.hears(III)V -/
theorem dX11_hears_0 : decode cX11_hears 0 = .ok ((.iconst 2), 1) := by decide +kernel
theorem dX11_hears_1 : decode cX11_hears 1 = .ok ((.iload_n 3), 1) := by decide +kernel
theorem dX11_hears_2 : decode cX11_hears 2 = .ok (.imul, 1) := by decide +kernel
theorem dX11_hears_3 : decode cX11_hears 3 = .ok ((.aload_n 0), 1) := by decide +kernel
theorem dX11_hears_4 : decode cX11_hears 4 = .ok ((.getfield 35), 3) := by decide +kernel
theorem dX11_hears_7 : decode cX11_hears 7 = .ok ((.iconst 2), 1) := by decide +kernel
theorem dX11_hears_8 : decode cX11_hears 8 = .ok (.iaload, 1) := by decide +kernel
theorem dX11_hears_9 : decode cX11_hears 9 = .ok ((.if_icmp .le 7), 3) := by decide +kernel
theorem dX11_hears_12 : decode cX11_hears 12 = .ok ((.iconst 1), 1) := by decide +kernel
theorem dX11_hears_13 : decode cX11_hears 13 = .ok ((.goto 4), 3) := by decide +kernel
theorem dX11_hears_16 : decode cX11_hears 16 = .ok ((.iconst 0), 1) := by decide +kernel
theorem dX11_hears_17 : decode cX11_hears 17 = .ok ((.istore 4), 2) := by decide +kernel
theorem dX11_hears_19 : decode cX11_hears 19 = .ok ((.aload_n 0), 1) := by decide +kernel
theorem dX11_hears_20 : decode cX11_hears 20 = .ok ((.getfield 35), 3) := by decide +kernel
theorem dX11_hears_23 : decode cX11_hears 23 = .ok ((.bipush 7), 2) := by decide +kernel
theorem dX11_hears_25 : decode cX11_hears 25 = .ok (.dup2, 1) := by decide +kernel
theorem dX11_hears_26 : decode cX11_hears 26 = .ok (.iaload, 1) := by decide +kernel
theorem dX11_hears_27 : decode cX11_hears 27 = .ok ((.iconst 1), 1) := by decide +kernel
theorem dX11_hears_28 : decode cX11_hears 28 = .ok (.iadd, 1) := by decide +kernel
theorem dX11_hears_29 : decode cX11_hears 29 = .ok (.iastore, 1) := by decide +kernel
theorem dX11_hears_30 : decode cX11_hears 30 = .ok ((.aload_n 0), 1) := by decide +kernel
theorem dX11_hears_31 : decode cX11_hears 31 = .ok ((.getfield 35), 3) := by decide +kernel
theorem dX11_hears_34 : decode cX11_hears 34 = .ok ((.bipush 78), 2) := by decide +kernel
theorem dX11_hears_36 : decode cX11_hears 36 = .ok ((.iload_n 2), 1) := by decide +kernel
theorem dX11_hears_37 : decode cX11_hears 37 = .ok (.iadd, 1) := by decide +kernel
theorem dX11_hears_38 : decode cX11_hears 38 = .ok ((.iload 4), 2) := by decide +kernel
theorem dX11_hears_40 : decode cX11_hears 40 = .ok ((.ifCond .eq 7), 3) := by decide +kernel
theorem dX11_hears_43 : decode cX11_hears 43 = .ok ((.iconst 1), 1) := by decide +kernel
theorem dX11_hears_44 : decode cX11_hears 44 = .ok ((.goto 4), 3) := by decide +kernel
theorem dX11_hears_47 : decode cX11_hears 47 = .ok ((.iconst 2), 1) := by decide +kernel
theorem dX11_hears_48 : decode cX11_hears 48 = .ok (.iastore, 1) := by decide +kernel
theorem dX11_hears_49 : decode cX11_hears 49 = .ok ((.aload_n 0), 1) := by decide +kernel
theorem dX11_hears_50 : decode cX11_hears 50 = .ok ((.getfield 35), 3) := by decide +kernel
theorem dX11_hears_53 : decode cX11_hears 53 = .ok ((.bipush 88), 2) := by decide +kernel
theorem dX11_hears_55 : decode cX11_hears 55 = .ok ((.iload_n 2), 1) := by decide +kernel
theorem dX11_hears_56 : decode cX11_hears 56 = .ok (.iadd, 1) := by decide +kernel
theorem dX11_hears_57 : decode cX11_hears 57 = .ok ((.iload_n 1), 1) := by decide +kernel
theorem dX11_hears_58 : decode cX11_hears 58 = .ok (.iastore, 1) := by decide +kernel
theorem dX11_hears_59 : decode cX11_hears 59 = .ok ((.aload_n 0), 1) := by decide +kernel
theorem dX11_hears_60 : decode cX11_hears 60 = .ok ((.getfield 35), 3) := by decide +kernel
theorem dX11_hears_63 : decode cX11_hears 63 = .ok ((.bipush 98), 2) := by decide +kernel
theorem dX11_hears_65 : decode cX11_hears 65 = .ok ((.iload_n 2), 1) := by decide +kernel
theorem dX11_hears_66 : decode cX11_hears 66 = .ok (.iadd, 1) := by decide +kernel
theorem dX11_hears_67 : decode cX11_hears 67 = .ok ((.iload_n 3), 1) := by decide +kernel
theorem dX11_hears_68 : decode cX11_hears 68 = .ok (.iastore, 1) := by decide +kernel
theorem dX11_hears_69 : decode cX11_hears 69 = .ok ((.iload 4), 2) := by decide +kernel
theorem dX11_hears_71 : decode cX11_hears 71 = .ok ((.ifCond .eq 79), 3) := by decide +kernel
theorem dX11_hears_74 : decode cX11_hears 74 = .ok ((.aload_n 0), 1) := by decide +kernel
theorem dX11_hears_75 : decode cX11_hears 75 = .ok ((.getfield 35), 3) := by decide +kernel
theorem dX11_hears_78 : decode cX11_hears 78 = .ok ((.bipush 24), 2) := by decide +kernel
theorem dX11_hears_80 : decode cX11_hears 80 = .ok ((.iload_n 1), 1) := by decide +kernel
theorem dX11_hears_81 : decode cX11_hears 81 = .ok (.iadd, 1) := by decide +kernel
theorem dX11_hears_82 : decode cX11_hears 82 = .ok (.dup2, 1) := by decide +kernel
theorem dX11_hears_83 : decode cX11_hears 83 = .ok (.iaload, 1) := by decide +kernel
theorem dX11_hears_84 : decode cX11_hears 84 = .ok ((.iconst 1), 1) := by decide +kernel
theorem dX11_hears_85 : decode cX11_hears 85 = .ok (.iadd, 1) := by decide +kernel
theorem dX11_hears_86 : decode cX11_hears 86 = .ok (.iastore, 1) := by decide +kernel
theorem dX11_hears_87 : decode cX11_hears 87 = .ok ((.aload_n 0), 1) := by decide +kernel
theorem dX11_hears_88 : decode cX11_hears 88 = .ok ((.bipush 8), 2) := by decide +kernel
theorem dX11_hears_90 : decode cX11_hears 90 = .ok ((.aload_n 0), 1) := by decide +kernel
theorem dX11_hears_91 : decode cX11_hears 91 = .ok ((.getfield 35), 3) := by decide +kernel
theorem dX11_hears_94 : decode cX11_hears 94 = .ok ((.bipush 48), 2) := by decide +kernel
theorem dX11_hears_96 : decode cX11_hears 96 = .ok ((.iload_n 2), 1) := by decide +kernel
theorem dX11_hears_97 : decode cX11_hears 97 = .ok (.iadd, 1) := by decide +kernel
theorem dX11_hears_98 : decode cX11_hears 98 = .ok (.iaload, 1) := by decide +kernel
theorem dX11_hears_99 : decode cX11_hears 99 = .ok (.iadd, 1) := by decide +kernel
theorem dX11_hears_100 : decode cX11_hears 100 = .ok ((.aload_n 0), 1) := by decide +kernel
theorem dX11_hears_101 : decode cX11_hears 101 = .ok ((.getfield 35), 3) := by decide +kernel
theorem dX11_hears_104 : decode cX11_hears 104 = .ok ((.bipush 58), 2) := by decide +kernel
theorem dX11_hears_106 : decode cX11_hears 106 = .ok ((.iload_n 2), 1) := by decide +kernel
theorem dX11_hears_107 : decode cX11_hears 107 = .ok (.iadd, 1) := by decide +kernel
theorem dX11_hears_108 : decode cX11_hears 108 = .ok (.iaload, 1) := by decide +kernel
theorem dX11_hears_109 : decode cX11_hears 109 = .ok (.ineg, 1) := by decide +kernel
theorem dX11_hears_110 : decode cX11_hears 110 = .ok ((.invokevirtual 329), 3) := by decide +kernel
theorem dX11_hears_113 : decode cX11_hears 113 = .ok ((.aload_n 0), 1) := by decide +kernel
theorem dX11_hears_114 : decode cX11_hears 114 = .ok ((.bipush 8), 2) := by decide +kernel
theorem dX11_hears_116 : decode cX11_hears 116 = .ok ((.iload_n 1), 1) := by decide +kernel
theorem dX11_hears_117 : decode cX11_hears 117 = .ok (.iadd, 1) := by decide +kernel
theorem dX11_hears_118 : decode cX11_hears 118 = .ok ((.aload_n 0), 1) := by decide +kernel
theorem dX11_hears_119 : decode cX11_hears 119 = .ok ((.iload_n 2), 1) := by decide +kernel
theorem dX11_hears_120 : decode cX11_hears 120 = .ok ((.invokevirtual 332), 3) := by decide +kernel
theorem dX11_hears_123 : decode cX11_hears 123 = .ok ((.invokevirtual 329), 3) := by decide +kernel
theorem dX11_hears_126 : decode cX11_hears 126 = .ok ((.aload_n 0), 1) := by decide +kernel
theorem dX11_hears_127 : decode cX11_hears 127 = .ok ((.bipush 6), 2) := by decide +kernel
theorem dX11_hears_129 : decode cX11_hears 129 = .ok ((.aload_n 0), 1) := by decide +kernel
theorem dX11_hears_130 : decode cX11_hears 130 = .ok ((.getfield 35), 3) := by decide +kernel
theorem dX11_hears_133 : decode cX11_hears 133 = .ok ((.bipush 58), 2) := by decide +kernel
theorem dX11_hears_135 : decode cX11_hears 135 = .ok ((.iload_n 2), 1) := by decide +kernel
theorem dX11_hears_136 : decode cX11_hears 136 = .ok (.iadd, 1) := by decide +kernel
theorem dX11_hears_137 : decode cX11_hears 137 = .ok (.iaload, 1) := by decide +kernel
theorem dX11_hears_138 : decode cX11_hears 138 = .ok ((.aload_n 0), 1) := by decide +kernel
theorem dX11_hears_139 : decode cX11_hears 139 = .ok ((.iload_n 2), 1) := by decide +kernel
theorem dX11_hears_140 : decode cX11_hears 140 = .ok ((.invokevirtual 332), 3) := by decide +kernel
theorem dX11_hears_143 : decode cX11_hears 143 = .ok (.isub, 1) := by decide +kernel
theorem dX11_hears_144 : decode cX11_hears 144 = .ok ((.invokevirtual 329), 3) := by decide +kernel
theorem dX11_hears_147 : decode cX11_hears 147 = .ok ((.goto 53), 3) := by decide +kernel
theorem dX11_hears_150 : decode cX11_hears 150 = .ok ((.iload_n 3), 1) := by decide +kernel
theorem dX11_hears_151 : decode cX11_hears 151 = .ok ((.aload_n 0), 1) := by decide +kernel
theorem dX11_hears_152 : decode cX11_hears 152 = .ok ((.getfield 35), 3) := by decide +kernel
theorem dX11_hears_155 : decode cX11_hears 155 = .ok ((.iconst 3), 1) := by decide +kernel
theorem dX11_hears_156 : decode cX11_hears 156 = .ok (.iaload, 1) := by decide +kernel
theorem dX11_hears_157 : decode cX11_hears 157 = .ok ((.if_icmp .ge 43), 3) := by decide +kernel
theorem dX11_hears_160 : decode cX11_hears 160 = .ok ((.aload_n 0), 1) := by decide +kernel
theorem dX11_hears_161 : decode cX11_hears 161 = .ok ((.getfield 35), 3) := by decide +kernel
theorem dX11_hears_164 : decode cX11_hears 164 = .ok ((.bipush 32), 2) := by decide +kernel
theorem dX11_hears_166 : decode cX11_hears 166 = .ok ((.iload_n 1), 1) := by decide +kernel
theorem dX11_hears_167 : decode cX11_hears 167 = .ok (.iadd, 1) := by decide +kernel
theorem dX11_hears_168 : decode cX11_hears 168 = .ok (.dup2, 1) := by decide +kernel
theorem dX11_hears_169 : decode cX11_hears 169 = .ok (.iaload, 1) := by decide +kernel
theorem dX11_hears_170 : decode cX11_hears 170 = .ok ((.iconst 1), 1) := by decide +kernel
theorem dX11_hears_171 : decode cX11_hears 171 = .ok (.iadd, 1) := by decide +kernel
theorem dX11_hears_172 : decode cX11_hears 172 = .ok (.iastore, 1) := by decide +kernel
theorem dX11_hears_173 : decode cX11_hears 173 = .ok ((.aload_n 0), 1) := by decide +kernel
theorem dX11_hears_174 : decode cX11_hears 174 = .ok ((.bipush 8), 2) := by decide +kernel
theorem dX11_hears_176 : decode cX11_hears 176 = .ok ((.iload_n 1), 1) := by decide +kernel
theorem dX11_hears_177 : decode cX11_hears 177 = .ok (.iadd, 1) := by decide +kernel
theorem dX11_hears_178 : decode cX11_hears 178 = .ok ((.aload_n 0), 1) := by decide +kernel
theorem dX11_hears_179 : decode cX11_hears 179 = .ok ((.getfield 35), 3) := by decide +kernel
theorem dX11_hears_182 : decode cX11_hears 182 = .ok ((.iconst 4), 1) := by decide +kernel
theorem dX11_hears_183 : decode cX11_hears 183 = .ok (.iaload, 1) := by decide +kernel
theorem dX11_hears_184 : decode cX11_hears 184 = .ok (.ineg, 1) := by decide +kernel
theorem dX11_hears_185 : decode cX11_hears 185 = .ok ((.invokevirtual 329), 3) := by decide +kernel
theorem dX11_hears_188 : decode cX11_hears 188 = .ok ((.aload_n 0), 1) := by decide +kernel
theorem dX11_hears_189 : decode cX11_hears 189 = .ok ((.bipush 6), 2) := by decide +kernel
theorem dX11_hears_191 : decode cX11_hears 191 = .ok ((.aload_n 0), 1) := by decide +kernel
theorem dX11_hears_192 : decode cX11_hears 192 = .ok ((.getfield 35), 3) := by decide +kernel
theorem dX11_hears_195 : decode cX11_hears 195 = .ok ((.iconst 4), 1) := by decide +kernel
theorem dX11_hears_196 : decode cX11_hears 196 = .ok (.iaload, 1) := by decide +kernel
theorem dX11_hears_197 : decode cX11_hears 197 = .ok ((.invokevirtual 329), 3) := by decide +kernel
theorem dX11_hears_200 : decode cX11_hears 200 = .ok (.return_, 1) := by decide +kernel
def p_X11_hears_48  (a1 : Int32) (a2 : Int32) (a3 : Int32)   (post : vSt → Prop) (S : vSt) (x4 : Bool) (s0 : Int32) (s1 : Int32) : Prop := (vp_in s1 1900 ∧ ∀ S17, S17 = v_si S 148 (Int32.toNatClampNeg s1) s0 → (vp_in (88 + a2) 1900 ∧ ∀ S18, S18 = v_si S17 148 (Int32.toNatClampNeg (88 + a2)) a1 → (vp_in (98 + a2) 1900 ∧ ∀ S19, S19 = v_si S18 148 (Int32.toNatClampNeg (98 + a2)) a3 → ((x4 = false → (vp_in 3 1900 ∧ (((S19.1 148 (Int32.toNatClampNeg 3)) ≤ a3 → post S19) ∧ (¬ (S19.1 148 (Int32.toNatClampNeg 3)) ≤ a3 → (vp_in (32 + a1) 1900 ∧ (vp_in (32 + a1) 1900 ∧ ∀ S20, S20 = v_si S19 148 (Int32.toNatClampNeg (32 + a1)) ((S19.1 148 (Int32.toNatClampNeg (32 + a1))) + 1) → (vp_in 4 1900 ∧ p_X11_pays  S20 (8 + a1) (-(S20.1 148 (Int32.toNatClampNeg 4))) (fun S21 => (vp_in 4 1900 ∧ p_X11_pays  S21 6 (S21.1 148 (Int32.toNatClampNeg 4)) (fun S22 => post S22)))))))))) ∧ (x4 = true → (vp_in (24 + a1) 1900 ∧ (vp_in (24 + a1) 1900 ∧ ∀ S23, S23 = v_si S19 148 (Int32.toNatClampNeg (24 + a1)) ((S19.1 148 (Int32.toNatClampNeg (24 + a1))) + 1) → (vp_in (48 + a2) 1900 ∧ (vp_in (58 + a2) 1900 ∧ p_X11_pays  S23 (8 + (S23.1 148 (Int32.toNatClampNeg (48 + a2)))) (-(S23.1 148 (Int32.toNatClampNeg (58 + a2)))) (fun S24 => p_X11_part  S24 a2 (fun r26 S25 => p_X11_pays  S25 (8 + a1) r26 (fun S27 => (vp_in (58 + a2) 1900 ∧ p_X11_part  S27 a2 (fun r29 S28 => p_X11_pays  S28 6 ((S27.1 148 (Int32.toNatClampNeg (58 + a2))) - r29) (fun S30 => post S30)))))))))))))))
def p_X11_hears_17  (a1 : Int32) (a2 : Int32) (a3 : Int32)   (post : vSt → Prop) (S : vSt) (s0 : Bool) : Prop := (vp_in 7 1900 ∧ (vp_in 7 1900 ∧ ∀ S16, S16 = v_si S 148 (Int32.toNatClampNeg 7) ((S.1 148 (Int32.toNatClampNeg 7)) + 1) → ((s0 = false → p_X11_hears_48 a1 a2 a3 post S16 s0 2 (78 + a2)) ∧ (s0 = true → p_X11_hears_48 a1 a2 a3 post S16 s0 1 (78 + a2)))))
def p_X11_hears   (S : vSt) (a1 : Int32) (a2 : Int32) (a3 : Int32) (post : vSt → Prop) : Prop := (vp_in 2 1900 ∧ (((2 * a3) ≤ (S.1 148 (Int32.toNatClampNeg 2)) → p_X11_hears_17 a1 a2 a3 post S false) ∧ (¬ (2 * a3) ≤ (S.1 148 (Int32.toNatClampNeg 2)) → p_X11_hears_17 a1 a2 a3 post S true)))
set_option maxHeartbeats 4000000 in
set_option maxRecDepth 100000 in
theorem q_X11_hears_48 {X : vX} {G : vG}  {post : vSt → Prop} (C : v_Cx X G cX11_hears RX11 5 (v_rm 2 82)) (D : v_Rx X G (v_Qv G post) none)  {a1 : Int32} {a2 : Int32} {a3 : Int32}   : ∀ (S : vSt) (x4 : Bool) (s0 : Int32) (s1 : Int32), p_X11_hears_48 a1 a2 a3 post S x4 s0 s1 → VJ X G S 48 [(0, .ref (G.1 143)), (1, .int a1), (2, .int a2), (3, .int a3), (4, .int (v_b x4))] [.int s0, .int s1, .ref (G.1 148)] := by
  intro S x4 s0 s1 h
  obtain ⟨hi, h⟩ := h
  refine V_iast C 148 1900 (by decide) (by decide) hi dX11_hears_48 ?_
  refine V_topS (fun S17 eS17 => ?_)
  have h := h S17 eS17
  refine V_aload_n C 0 dX11_hears_49 rfl rfl ?_
  refine V_ga C 143 (by decide) (by decide) F_11_20 k_RX11_35 dX11_hears_50 ?_
  refine V_bipush (v := 88) C dX11_hears_53 (by decide) ?_
  refine V_iload_n C 2 dX11_hears_55 rfl rfl ?_
  refine V_iadd C dX11_hears_56 ?_
  refine V_iload_n C 1 dX11_hears_57 rfl rfl ?_
  obtain ⟨hi, h⟩ := h
  refine V_iast C 148 1900 (by decide) (by decide) hi dX11_hears_58 ?_
  refine V_topS (fun S18 eS18 => ?_)
  have h := h S18 eS18
  refine V_aload_n C 0 dX11_hears_59 rfl rfl ?_
  refine V_ga C 143 (by decide) (by decide) F_11_20 k_RX11_35 dX11_hears_60 ?_
  refine V_bipush (v := 98) C dX11_hears_63 (by decide) ?_
  refine V_iload_n C 2 dX11_hears_65 rfl rfl ?_
  refine V_iadd C dX11_hears_66 ?_
  refine V_iload_n C 3 dX11_hears_67 rfl rfl ?_
  obtain ⟨hi, h⟩ := h
  refine V_iast C 148 1900 (by decide) (by decide) hi dX11_hears_68 ?_
  refine V_topS (fun S19 eS19 => ?_)
  have h := h S19 eS19
  refine V_iload C 4 dX11_hears_69 rfl ?_
  refine V_ifb_eq (tgt := 150) C dX11_hears_71 (by decide) (fun c => ?_) (fun c => ?_)
  · have h := h.1 c
    refine V_iload_n C 3 dX11_hears_150 rfl rfl ?_
    refine V_aload_n C 0 dX11_hears_151 rfl rfl ?_
    refine V_ga C 143 (by decide) (by decide) F_11_20 k_RX11_35 dX11_hears_152 ?_
    refine V_iconst (v := 3) C dX11_hears_155 (by decide) ?_
    obtain ⟨hi, h⟩ := h
    refine V_iald C 148 1900 (by decide) (by decide) hi dX11_hears_156 ?_
    refine V_icmp_ge (tgt := 200) C dX11_hears_157 (by decide) (fun c => ?_) (fun c => ?_)
    · have h := h.1 c
      exact V_vret C D dX11_hears_200 h
    · have h := h.2 c
      refine V_aload_n C 0 dX11_hears_160 rfl rfl ?_
      refine V_ga C 143 (by decide) (by decide) F_11_20 k_RX11_35 dX11_hears_161 ?_
      refine V_bipush (v := 32) C dX11_hears_164 (by decide) ?_
      refine V_iload_n C 1 dX11_hears_166 rfl rfl ?_
      refine V_iadd C dX11_hears_167 ?_
      refine V_dup2_11 C dX11_hears_168 rfl rfl ?_
      obtain ⟨hi, h⟩ := h
      refine V_iald C 148 1900 (by decide) (by decide) hi dX11_hears_169 ?_
      refine V_iconst (v := 1) C dX11_hears_170 (by decide) ?_
      refine V_iadd C dX11_hears_171 ?_
      obtain ⟨hi, h⟩ := h
      refine V_iast C 148 1900 (by decide) (by decide) hi dX11_hears_172 ?_
      refine V_topS (fun S20 eS20 => ?_)
      have h := h S20 eS20
      refine V_aload_n C 0 dX11_hears_173 rfl rfl ?_
      refine V_bipush (v := 8) C dX11_hears_174 (by decide) ?_
      refine V_iload_n C 1 dX11_hears_176 rfl rfl ?_
      refine V_iadd C dX11_hears_177 ?_
      refine V_aload_n C 0 dX11_hears_178 rfl rfl ?_
      refine V_ga C 143 (by decide) (by decide) F_11_20 k_RX11_35 dX11_hears_179 ?_
      refine V_iconst (v := 4) C dX11_hears_182 (by decide) ?_
      obtain ⟨hi, h⟩ := h
      refine V_iald C 148 1900 (by decide) (by decide) hi dX11_hears_183 ?_
      refine V_ineg C dX11_hears_184 ?_
      refine V_callVv (As := [.int (8 + a1), .int (-(S20.1 148 (Int32.toNatClampNeg 4)))]) (rest := []) C (c_X11_pays (v_l X) G  _ _ _ h) 143 11 (by decide) (by decide) (by decide) rfl KV_X11_pays k_RX11_329 rfl rfl rfl (Nat.le_of_ble_eq_true rfl) ⟨Nat.le_of_ble_eq_true rfl, Nat.le_of_ble_eq_true rfl⟩ dX11_hears_185 (fun S21 h => ?_)
      refine V_aload_n C 0 dX11_hears_188 rfl rfl ?_
      refine V_bipush (v := 6) C dX11_hears_189 (by decide) ?_
      refine V_aload_n C 0 dX11_hears_191 rfl rfl ?_
      refine V_ga C 143 (by decide) (by decide) F_11_20 k_RX11_35 dX11_hears_192 ?_
      refine V_iconst (v := 4) C dX11_hears_195 (by decide) ?_
      obtain ⟨hi, h⟩ := h
      refine V_iald C 148 1900 (by decide) (by decide) hi dX11_hears_196 ?_
      refine V_callVv (As := [.int 6, .int (S21.1 148 (Int32.toNatClampNeg 4))]) (rest := []) C (c_X11_pays (v_l X) G  _ _ _ h) 143 11 (by decide) (by decide) (by decide) rfl KV_X11_pays k_RX11_329 rfl rfl rfl (Nat.le_of_ble_eq_true rfl) ⟨Nat.le_of_ble_eq_true rfl, Nat.le_of_ble_eq_true rfl⟩ dX11_hears_197 (fun S22 h => ?_)
      exact V_vret C D dX11_hears_200 h
  · have h := h.2 c
    refine V_aload_n C 0 dX11_hears_74 rfl rfl ?_
    refine V_ga C 143 (by decide) (by decide) F_11_20 k_RX11_35 dX11_hears_75 ?_
    refine V_bipush (v := 24) C dX11_hears_78 (by decide) ?_
    refine V_iload_n C 1 dX11_hears_80 rfl rfl ?_
    refine V_iadd C dX11_hears_81 ?_
    refine V_dup2_11 C dX11_hears_82 rfl rfl ?_
    obtain ⟨hi, h⟩ := h
    refine V_iald C 148 1900 (by decide) (by decide) hi dX11_hears_83 ?_
    refine V_iconst (v := 1) C dX11_hears_84 (by decide) ?_
    refine V_iadd C dX11_hears_85 ?_
    obtain ⟨hi, h⟩ := h
    refine V_iast C 148 1900 (by decide) (by decide) hi dX11_hears_86 ?_
    refine V_topS (fun S23 eS23 => ?_)
    have h := h S23 eS23
    refine V_aload_n C 0 dX11_hears_87 rfl rfl ?_
    refine V_bipush (v := 8) C dX11_hears_88 (by decide) ?_
    refine V_aload_n C 0 dX11_hears_90 rfl rfl ?_
    refine V_ga C 143 (by decide) (by decide) F_11_20 k_RX11_35 dX11_hears_91 ?_
    refine V_bipush (v := 48) C dX11_hears_94 (by decide) ?_
    refine V_iload_n C 2 dX11_hears_96 rfl rfl ?_
    refine V_iadd C dX11_hears_97 ?_
    obtain ⟨hi, h⟩ := h
    refine V_iald C 148 1900 (by decide) (by decide) hi dX11_hears_98 ?_
    refine V_iadd C dX11_hears_99 ?_
    refine V_aload_n C 0 dX11_hears_100 rfl rfl ?_
    refine V_ga C 143 (by decide) (by decide) F_11_20 k_RX11_35 dX11_hears_101 ?_
    refine V_bipush (v := 58) C dX11_hears_104 (by decide) ?_
    refine V_iload_n C 2 dX11_hears_106 rfl rfl ?_
    refine V_iadd C dX11_hears_107 ?_
    obtain ⟨hi, h⟩ := h
    refine V_iald C 148 1900 (by decide) (by decide) hi dX11_hears_108 ?_
    refine V_ineg C dX11_hears_109 ?_
    refine V_callVv (As := [.int (8 + (S23.1 148 (Int32.toNatClampNeg (48 + a2)))), .int (-(S23.1 148 (Int32.toNatClampNeg (58 + a2))))]) (rest := []) C (c_X11_pays (v_l X) G  _ _ _ h) 143 11 (by decide) (by decide) (by decide) rfl KV_X11_pays k_RX11_329 rfl rfl rfl (Nat.le_of_ble_eq_true rfl) ⟨Nat.le_of_ble_eq_true rfl, Nat.le_of_ble_eq_true rfl⟩ dX11_hears_110 (fun S24 h => ?_)
    refine V_aload_n C 0 dX11_hears_113 rfl rfl ?_
    refine V_bipush (v := 8) C dX11_hears_114 (by decide) ?_
    refine V_iload_n C 1 dX11_hears_116 rfl rfl ?_
    refine V_iadd C dX11_hears_117 ?_
    refine V_aload_n C 0 dX11_hears_118 rfl rfl ?_
    refine V_iload_n C 2 dX11_hears_119 rfl rfl ?_
    refine V_callVi (As := [.int a2]) (rest := [.int (8 + a1), .ref (G.1 143)]) C (c_X11_part (v_l X) G  _ _ h) 143 11 (by decide) (by decide) (by decide) rfl KV_X11_part k_RX11_332 rfl rfl rfl (Nat.le_of_ble_eq_true rfl) ⟨Nat.le_of_ble_eq_true rfl, Nat.le_of_ble_eq_true rfl⟩ dX11_hears_120 (fun r26 S25 h => ?_)
    refine V_callVv (As := [.int (8 + a1), .int r26]) (rest := []) C (c_X11_pays (v_l X) G  _ _ _ h) 143 11 (by decide) (by decide) (by decide) rfl KV_X11_pays k_RX11_329 rfl rfl rfl (Nat.le_of_ble_eq_true rfl) ⟨Nat.le_of_ble_eq_true rfl, Nat.le_of_ble_eq_true rfl⟩ dX11_hears_123 (fun S27 h => ?_)
    refine V_aload_n C 0 dX11_hears_126 rfl rfl ?_
    refine V_bipush (v := 6) C dX11_hears_127 (by decide) ?_
    refine V_aload_n C 0 dX11_hears_129 rfl rfl ?_
    refine V_ga C 143 (by decide) (by decide) F_11_20 k_RX11_35 dX11_hears_130 ?_
    refine V_bipush (v := 58) C dX11_hears_133 (by decide) ?_
    refine V_iload_n C 2 dX11_hears_135 rfl rfl ?_
    refine V_iadd C dX11_hears_136 ?_
    obtain ⟨hi, h⟩ := h
    refine V_iald C 148 1900 (by decide) (by decide) hi dX11_hears_137 ?_
    refine V_aload_n C 0 dX11_hears_138 rfl rfl ?_
    refine V_iload_n C 2 dX11_hears_139 rfl rfl ?_
    refine V_callVi (As := [.int a2]) (rest := [.int (S27.1 148 (Int32.toNatClampNeg (58 + a2))), .int 6, .ref (G.1 143)]) C (c_X11_part (v_l X) G  _ _ h) 143 11 (by decide) (by decide) (by decide) rfl KV_X11_part k_RX11_332 rfl rfl rfl (Nat.le_of_ble_eq_true rfl) ⟨Nat.le_of_ble_eq_true rfl, Nat.le_of_ble_eq_true rfl⟩ dX11_hears_140 (fun r29 S28 h => ?_)
    refine V_isub C dX11_hears_143 ?_
    refine V_callVv (As := [.int 6, .int ((S27.1 148 (Int32.toNatClampNeg (58 + a2))) - r29)]) (rest := []) C (c_X11_pays (v_l X) G  _ _ _ h) 143 11 (by decide) (by decide) (by decide) rfl KV_X11_pays k_RX11_329 rfl rfl rfl (Nat.le_of_ble_eq_true rfl) ⟨Nat.le_of_ble_eq_true rfl, Nat.le_of_ble_eq_true rfl⟩ dX11_hears_144 (fun S30 h => ?_)
    refine V_goto (tgt := 200) C dX11_hears_147 (by decide) ?_
    exact V_vret C D dX11_hears_200 h
set_option maxHeartbeats 4000000 in
set_option maxRecDepth 100000 in
theorem q_X11_hears_17 {X : vX} {G : vG}  {post : vSt → Prop} (C : v_Cx X G cX11_hears RX11 5 (v_rm 2 82)) (D : v_Rx X G (v_Qv G post) none)  {a1 : Int32} {a2 : Int32} {a3 : Int32}   : ∀ (S : vSt) (s0 : Bool), p_X11_hears_17 a1 a2 a3 post S s0 → VJ X G S 17 [(0, .ref (G.1 143)), (1, .int a1), (2, .int a2), (3, .int a3)] [.int (v_b s0)] := by
  intro S s0 h
  refine V_istore (lv' := [(0, .ref (G.1 143)), (1, .int a1), (2, .int a2), (3, .int a3), (4, .int (v_b s0))]) C [1, 2, 3, 4, 0] dX11_hears_17 (by decide) rfl ?_
  refine V_aload_n C 0 dX11_hears_19 rfl rfl ?_
  refine V_ga C 143 (by decide) (by decide) F_11_20 k_RX11_35 dX11_hears_20 ?_
  refine V_bipush (v := 7) C dX11_hears_23 (by decide) ?_
  refine V_dup2_11 C dX11_hears_25 rfl rfl ?_
  obtain ⟨hi, h⟩ := h
  refine V_iald C 148 1900 (by decide) (by decide) hi dX11_hears_26 ?_
  refine V_iconst (v := 1) C dX11_hears_27 (by decide) ?_
  refine V_iadd C dX11_hears_28 ?_
  obtain ⟨hi, h⟩ := h
  refine V_iast C 148 1900 (by decide) (by decide) hi dX11_hears_29 ?_
  refine V_topS (fun S16 eS16 => ?_)
  have h := h S16 eS16
  refine V_aload_n C 0 dX11_hears_30 rfl rfl ?_
  refine V_ga C 143 (by decide) (by decide) F_11_20 k_RX11_35 dX11_hears_31 ?_
  refine V_bipush (v := 78) C dX11_hears_34 (by decide) ?_
  refine V_iload_n C 2 dX11_hears_36 rfl rfl ?_
  refine V_iadd C dX11_hears_37 ?_
  refine V_iload C 4 dX11_hears_38 rfl ?_
  refine V_ifb_eq (tgt := 47) C dX11_hears_40 (by decide) (fun c => ?_) (fun c => ?_)
  · have h := h.1 c
    refine V_iconst (v := 2) C dX11_hears_47 (by decide) ?_
    exact q_X11_hears_48 C D  _ _ _ _ h
  · have h := h.2 c
    refine V_iconst (v := 1) C dX11_hears_43 (by decide) ?_
    refine V_goto (tgt := 48) C dX11_hears_44 (by decide) ?_
    exact q_X11_hears_48 C D  _ _ _ _ h
set_option maxHeartbeats 4000000 in
set_option maxRecDepth 100000 in
theorem c_X11_hears (l : Launch) (G : vG)    {S : vSt} (a1 : Int32) (a2 : Int32) (a3 : Int32) (post : vSt → Prop) (h : p_X11_hears   S a1 a2 a3 post) : Met l yX11_hears (v_ws yX11_hears cX11_hears 5 none) (v_rm 2 82) (v_Pc G [.ref (G.1 143), .int a1, .int a2, .int a3] S) (v_Qv G post) 0 0 (v_A G) := by
  refine v_start (by decide +kernel) (Nat.le_of_ble_eq_true rfl) (fun X hl C D => ?_)
  subst hl
  have C : v_Cx X G cX11_hears RX11 5 (v_rm 2 82) := C
  show VJ X G S 0 [(0, .ref (G.1 143)), (1, .int a1), (2, .int a2), (3, .int a3)] []
  refine V_iconst (v := 2) C dX11_hears_0 (by decide) ?_
  refine V_iload_n C 3 dX11_hears_1 rfl rfl ?_
  refine V_imul C dX11_hears_2 ?_
  refine V_aload_n C 0 dX11_hears_3 rfl rfl ?_
  refine V_ga C 143 (by decide) (by decide) F_11_20 k_RX11_35 dX11_hears_4 ?_
  refine V_iconst (v := 2) C dX11_hears_7 (by decide) ?_
  obtain ⟨hi, h⟩ := h
  refine V_iald C 148 1900 (by decide) (by decide) hi dX11_hears_8 ?_
  refine V_icmp_le (tgt := 16) C dX11_hears_9 (by decide) (fun c => ?_) (fun c => ?_)
  · have h := h.1 c
    refine V_iconst (v := 0) C dX11_hears_16 (by decide) ?_
    exact q_X11_hears_17 C D  _ _ h
  · have h := h.2 c
    refine V_iconst (v := 1) C dX11_hears_12 (by decide) ?_
    refine V_goto (tgt := 17) C dX11_hears_13 (by decide) ?_
    exact q_X11_hears_17 C D  _ _ h
/-! HalfAccuserModel.charge(III)I -/
theorem dX11_charge_0 : decode cX11_charge 0 = .ok ((.aload_n 0), 1) := by decide +kernel
theorem dX11_charge_1 : decode cX11_charge 1 = .ok ((.iconst 0), 1) := by decide +kernel
theorem dX11_charge_2 : decode cX11_charge 2 = .ok ((.putfield 60), 3) := by decide +kernel
theorem dX11_charge_5 : decode cX11_charge 5 = .ok ((.aload_n 0), 1) := by decide +kernel
theorem dX11_charge_6 : decode cX11_charge 6 = .ok ((.iconst 0), 1) := by decide +kernel
theorem dX11_charge_7 : decode cX11_charge 7 = .ok ((.putfield 63), 3) := by decide +kernel
theorem dX11_charge_10 : decode cX11_charge 10 = .ok ((.aload_n 0), 1) := by decide +kernel
theorem dX11_charge_11 : decode cX11_charge 11 = .ok ((.iload_n 1), 1) := by decide +kernel
theorem dX11_charge_12 : decode cX11_charge 12 = .ok ((.iload_n 2), 1) := by decide +kernel
theorem dX11_charge_13 : decode cX11_charge 13 = .ok ((.invokevirtual 335), 3) := by decide +kernel
theorem dX11_charge_16 : decode cX11_charge 16 = .ok ((.ifCond .ne 9), 3) := by decide +kernel
theorem dX11_charge_19 : decode cX11_charge 19 = .ok ((.aload_n 0), 1) := by decide +kernel
theorem dX11_charge_20 : decode cX11_charge 20 = .ok ((.iconst 2), 1) := by decide +kernel
theorem dX11_charge_21 : decode cX11_charge 21 = .ok ((.invokevirtual 303), 3) := by decide +kernel
theorem dX11_charge_24 : decode cX11_charge 24 = .ok (.ireturn, 1) := by decide +kernel
theorem dX11_charge_25 : decode cX11_charge 25 = .ok ((.iload_n 3), 1) := by decide +kernel
theorem dX11_charge_26 : decode cX11_charge 26 = .ok (.i2l, 1) := by decide +kernel
theorem dX11_charge_27 : decode cX11_charge 27 = .ok ((.lconst 0), 1) := by decide +kernel
theorem dX11_charge_28 : decode cX11_charge 28 = .ok ((.aload_n 0), 1) := by decide +kernel
theorem dX11_charge_29 : decode cX11_charge 29 = .ok ((.getfield 35), 3) := by decide +kernel
theorem dX11_charge_32 : decode cX11_charge 32 = .ok ((.iconst 2), 1) := by decide +kernel
theorem dX11_charge_33 : decode cX11_charge 33 = .ok (.iaload, 1) := by decide +kernel
theorem dX11_charge_34 : decode cX11_charge 34 = .ok (.i2l, 1) := by decide +kernel
theorem dX11_charge_35 : decode cX11_charge 35 = .ok ((.invokestatic 95), 3) := by decide +kernel
theorem dX11_charge_38 : decode cX11_charge 38 = .ok ((.ifCond .ne 9), 3) := by decide +kernel
theorem dX11_charge_41 : decode cX11_charge 41 = .ok ((.aload_n 0), 1) := by decide +kernel
theorem dX11_charge_42 : decode cX11_charge 42 = .ok ((.iconst 5), 1) := by decide +kernel
theorem dX11_charge_43 : decode cX11_charge 43 = .ok ((.invokevirtual 303), 3) := by decide +kernel
theorem dX11_charge_46 : decode cX11_charge 46 = .ok (.ireturn, 1) := by decide +kernel
theorem dX11_charge_47 : decode cX11_charge 47 = .ok ((.aload_n 0), 1) := by decide +kernel
theorem dX11_charge_48 : decode cX11_charge 48 = .ok ((.iload_n 1), 1) := by decide +kernel
theorem dX11_charge_49 : decode cX11_charge 49 = .ok ((.iload_n 2), 1) := by decide +kernel
theorem dX11_charge_50 : decode cX11_charge 50 = .ok ((.invokevirtual 338), 3) := by decide +kernel
theorem dX11_charge_53 : decode cX11_charge 53 = .ok ((.ifCond .ne 10), 3) := by decide +kernel
theorem dX11_charge_56 : decode cX11_charge 56 = .ok ((.aload_n 0), 1) := by decide +kernel
theorem dX11_charge_57 : decode cX11_charge 57 = .ok ((.bipush 9), 2) := by decide +kernel
theorem dX11_charge_59 : decode cX11_charge 59 = .ok ((.invokevirtual 303), 3) := by decide +kernel
theorem dX11_charge_62 : decode cX11_charge 62 = .ok (.ireturn, 1) := by decide +kernel
theorem dX11_charge_63 : decode cX11_charge 63 = .ok ((.aload_n 0), 1) := by decide +kernel
theorem dX11_charge_64 : decode cX11_charge 64 = .ok ((.iload_n 1), 1) := by decide +kernel
theorem dX11_charge_65 : decode cX11_charge 65 = .ok ((.iload_n 2), 1) := by decide +kernel
theorem dX11_charge_66 : decode cX11_charge 66 = .ok ((.iload_n 3), 1) := by decide +kernel
theorem dX11_charge_67 : decode cX11_charge 67 = .ok ((.invokevirtual 341), 3) := by decide +kernel
theorem dX11_charge_70 : decode cX11_charge 70 = .ok ((.aload_n 0), 1) := by decide +kernel
theorem dX11_charge_71 : decode cX11_charge 71 = .ok ((.getfield 35), 3) := by decide +kernel
theorem dX11_charge_74 : decode cX11_charge 74 = .ok ((.bipush 8), 2) := by decide +kernel
theorem dX11_charge_76 : decode cX11_charge 76 = .ok ((.iload_n 1), 1) := by decide +kernel
theorem dX11_charge_77 : decode cX11_charge 77 = .ok (.iadd, 1) := by decide +kernel
theorem dX11_charge_78 : decode cX11_charge 78 = .ok (.iaload, 1) := by decide +kernel
theorem dX11_charge_79 : decode cX11_charge 79 = .ok (.ireturn, 1) := by decide +kernel
def p_X11_charge   (S : vSt) (a1 : Int32) (a2 : Int32) (a3 : Int32) (post : Int32 → vSt → Prop) : Prop := ∀ S16, S16 = v_si S 143 1 0 → ∀ S17, S17 = v_si S16 143 0 0 → p_X11_areBoth  S17 a1 a2 (fun r19 S18 => ((r19 = true → (vp_in 2 1900 ∧ p_X11_isIn  S18 (Int32.toInt64 a3) 0 (Int32.toInt64 (S18.1 148 (Int32.toNatClampNeg 2))) (fun r21 S20 => ((r21 = true → p_X11_canCharge  S20 a1 a2 (fun r23 S22 => ((r23 = true → p_X11_hears  S22 a1 a2 a3 (fun S24 => (vp_in (8 + a1) 1900 ∧ post (S24.1 148 (Int32.toNatClampNeg (8 + a1))) S24))) ∧ (r23 = false → p_X11_refuse  S22 9 (fun r26 S25 => post r26 S25))))) ∧ (r21 = false → p_X11_refuse  S20 5 (fun r28 S27 => post r28 S27)))))) ∧ (r19 = false → p_X11_refuse  S18 2 (fun r30 S29 => post r30 S29))))
set_option maxHeartbeats 4000000 in
set_option maxRecDepth 100000 in
theorem c_X11_charge (l : Launch) (G : vG)    {S : vSt} (a1 : Int32) (a2 : Int32) (a3 : Int32) (post : Int32 → vSt → Prop) (h : p_X11_charge   S a1 a2 a3 post) : Met l yX11_charge (v_ws yX11_charge cX11_charge 4 (some .int)) (v_rm 3 108) (v_Pc G [.ref (G.1 143), .int a1, .int a2, .int a3] S) (v_Qi G post) 0 0 (v_A G) := by
  refine v_start (by decide +kernel) (Nat.le_of_ble_eq_true rfl) (fun X hl C D => ?_)
  subst hl
  have C : v_Cx X G cX11_charge RX11 4 (v_rm 3 108) := C
  show VJ X G S 0 [(0, .ref (G.1 143)), (1, .int a1), (2, .int a2), (3, .int a3)] []
  refine V_aload_n C 0 dX11_charge_0 rfl rfl ?_
  refine V_iconst (v := 0) C dX11_charge_1 (by decide) ?_
  refine V_pi C 143 (by decide) (by decide) P_11_1 k_RX11_60 dX11_charge_2 ?_
  refine V_topS (fun S16 eS16 => ?_)
  have h := h S16 eS16
  refine V_aload_n C 0 dX11_charge_5 rfl rfl ?_
  refine V_iconst (v := 0) C dX11_charge_6 (by decide) ?_
  refine V_pi C 143 (by decide) (by decide) P_11_0 k_RX11_63 dX11_charge_7 ?_
  refine V_topS (fun S17 eS17 => ?_)
  have h := h S17 eS17
  refine V_aload_n C 0 dX11_charge_10 rfl rfl ?_
  refine V_iload_n C 1 dX11_charge_11 rfl rfl ?_
  refine V_iload_n C 2 dX11_charge_12 rfl rfl ?_
  refine V_callVz (As := [.int a1, .int a2]) (rest := []) C (c_X11_areBoth (v_l X) G  _ _ _ h) 143 11 (by decide) (by decide) (by decide) rfl KV_X11_areBoth k_RX11_335 rfl rfl rfl (Nat.le_of_ble_eq_true rfl) ⟨Nat.le_of_ble_eq_true rfl, Nat.le_of_ble_eq_true rfl⟩ dX11_charge_13 (fun r19 S18 h => ?_)
  refine V_ifb_ne (tgt := 25) C dX11_charge_16 (by decide) (fun c => ?_) (fun c => ?_)
  · have h := h.1 c
    refine V_iload_n C 3 dX11_charge_25 rfl rfl ?_
    refine V_i2l C dX11_charge_26 ?_
    refine V_lconst (v := 0) C dX11_charge_27 (by decide) ?_
    refine V_aload_n C 0 dX11_charge_28 rfl rfl ?_
    refine V_ga C 143 (by decide) (by decide) F_11_20 k_RX11_35 dX11_charge_29 ?_
    refine V_iconst (v := 2) C dX11_charge_32 (by decide) ?_
    obtain ⟨hi, h⟩ := h
    refine V_iald C 148 1900 (by decide) (by decide) hi dX11_charge_33 ?_
    refine V_i2l C dX11_charge_34 ?_
    refine V_callSz (As := [.long (Int32.toInt64 a3), .long 0, .long (Int32.toInt64 (S18.1 148 (Int32.toNatClampNeg 2)))]) (rest := []) C (c_X11_isIn (v_l X) G  _ _ _ _ h) KV_X11_isIn k_RX11_95 rfl rfl rfl (Nat.le_of_ble_eq_true rfl) ⟨Nat.le_of_ble_eq_true rfl, Nat.le_of_ble_eq_true rfl⟩ dX11_charge_35 (fun r21 S20 h => ?_)
    refine V_ifb_ne (tgt := 47) C dX11_charge_38 (by decide) (fun c => ?_) (fun c => ?_)
    · have h := h.1 c
      refine V_aload_n C 0 dX11_charge_47 rfl rfl ?_
      refine V_iload_n C 1 dX11_charge_48 rfl rfl ?_
      refine V_iload_n C 2 dX11_charge_49 rfl rfl ?_
      refine V_callVz (As := [.int a1, .int a2]) (rest := []) C (c_X11_canCharge (v_l X) G  _ _ _ h) 143 11 (by decide) (by decide) (by decide) rfl KV_X11_canCharge k_RX11_338 rfl rfl rfl (Nat.le_of_ble_eq_true rfl) ⟨Nat.le_of_ble_eq_true rfl, Nat.le_of_ble_eq_true rfl⟩ dX11_charge_50 (fun r23 S22 h => ?_)
      refine V_ifb_ne (tgt := 63) C dX11_charge_53 (by decide) (fun c => ?_) (fun c => ?_)
      · have h := h.1 c
        refine V_aload_n C 0 dX11_charge_63 rfl rfl ?_
        refine V_iload_n C 1 dX11_charge_64 rfl rfl ?_
        refine V_iload_n C 2 dX11_charge_65 rfl rfl ?_
        refine V_iload_n C 3 dX11_charge_66 rfl rfl ?_
        refine V_callVv (As := [.int a1, .int a2, .int a3]) (rest := []) C (c_X11_hears (v_l X) G  _ _ _ _ h) 143 11 (by decide) (by decide) (by decide) rfl KV_X11_hears k_RX11_341 rfl rfl rfl (Nat.le_of_ble_eq_true rfl) ⟨Nat.le_of_ble_eq_true rfl, Nat.le_of_ble_eq_true rfl⟩ dX11_charge_67 (fun S24 h => ?_)
        refine V_aload_n C 0 dX11_charge_70 rfl rfl ?_
        refine V_ga C 143 (by decide) (by decide) F_11_20 k_RX11_35 dX11_charge_71 ?_
        refine V_bipush (v := 8) C dX11_charge_74 (by decide) ?_
        refine V_iload_n C 1 dX11_charge_76 rfl rfl ?_
        refine V_iadd C dX11_charge_77 ?_
        obtain ⟨hi, h⟩ := h
        refine V_iald C 148 1900 (by decide) (by decide) hi dX11_charge_78 ?_
        exact V_iret C D dX11_charge_79 h
      · have h := h.2 c
        refine V_aload_n C 0 dX11_charge_56 rfl rfl ?_
        refine V_bipush (v := 9) C dX11_charge_57 (by decide) ?_
        refine V_callVi (As := [.int 9]) (rest := []) C (c_X11_refuse (v_l X) G  _ _ h) 143 11 (by decide) (by decide) (by decide) rfl KV_X11_refuse k_RX11_303 rfl rfl rfl (Nat.le_of_ble_eq_true rfl) ⟨Nat.le_of_ble_eq_true rfl, Nat.le_of_ble_eq_true rfl⟩ dX11_charge_59 (fun r26 S25 h => ?_)
        exact V_iret C D dX11_charge_62 h
    · have h := h.2 c
      refine V_aload_n C 0 dX11_charge_41 rfl rfl ?_
      refine V_iconst (v := 5) C dX11_charge_42 (by decide) ?_
      refine V_callVi (As := [.int 5]) (rest := []) C (c_X11_refuse (v_l X) G  _ _ h) 143 11 (by decide) (by decide) (by decide) rfl KV_X11_refuse k_RX11_303 rfl rfl rfl (Nat.le_of_ble_eq_true rfl) ⟨Nat.le_of_ble_eq_true rfl, Nat.le_of_ble_eq_true rfl⟩ dX11_charge_43 (fun r28 S27 h => ?_)
      exact V_iret C D dX11_charge_46 h
  · have h := h.2 c
    refine V_aload_n C 0 dX11_charge_19 rfl rfl ?_
    refine V_iconst (v := 2) C dX11_charge_20 (by decide) ?_
    refine V_callVi (As := [.int 2]) (rest := []) C (c_X11_refuse (v_l X) G  _ _ h) 143 11 (by decide) (by decide) (by decide) rfl KV_X11_refuse k_RX11_303 rfl rfl rfl (Nat.le_of_ble_eq_true rfl) ⟨Nat.le_of_ble_eq_true rfl, Nat.le_of_ble_eq_true rfl⟩ dX11_charge_21 (fun r30 S29 h => ?_)
    exact V_iret C D dX11_charge_24 h
/-! HalfAccuserModel.draw(I)I -/
theorem dX11_draw_0 : decode cX11_draw 0 = .ok ((.aload_n 0), 1) := by decide +kernel
theorem dX11_draw_1 : decode cX11_draw 1 = .ok ((.aload_n 0), 1) := by decide +kernel
theorem dX11_draw_2 : decode cX11_draw 2 = .ok ((.getfield 344), 3) := by decide +kernel
theorem dX11_draw_5 : decode cX11_draw 5 = .ok ((.sipush 2971), 3) := by decide +kernel
theorem dX11_draw_8 : decode cX11_draw 8 = .ok (.imul, 1) := by decide +kernel
theorem dX11_draw_9 : decode cX11_draw 9 = .ok ((.sipush 10739), 3) := by decide +kernel
theorem dX11_draw_12 : decode cX11_draw 12 = .ok (.iadd, 1) := by decide +kernel
theorem dX11_draw_13 : decode cX11_draw 13 = .ok ((.ldc_w 347), 3) := by decide +kernel
theorem dX11_draw_16 : decode cX11_draw 16 = .ok (.irem, 1) := by decide +kernel
theorem dX11_draw_17 : decode cX11_draw 17 = .ok ((.putfield 344), 3) := by decide +kernel
theorem dX11_draw_20 : decode cX11_draw 20 = .ok ((.aload_n 0), 1) := by decide +kernel
theorem dX11_draw_21 : decode cX11_draw 21 = .ok ((.getfield 344), 3) := by decide +kernel
theorem dX11_draw_24 : decode cX11_draw 24 = .ok ((.bipush 8), 2) := by decide +kernel
theorem dX11_draw_26 : decode cX11_draw 26 = .ok (.idiv, 1) := by decide +kernel
theorem dX11_draw_27 : decode cX11_draw 27 = .ok ((.iload_n 1), 1) := by decide +kernel
theorem dX11_draw_28 : decode cX11_draw 28 = .ok (.irem, 1) := by decide +kernel
theorem dX11_draw_29 : decode cX11_draw 29 = .ok (.ireturn, 1) := by decide +kernel
def p_X11_draw   (S : vSt) (a1 : Int32) (post : Int32 → vSt → Prop) : Prop := ∀ S2, S2 = v_si S 143 26 ((((S.1 143 26) * 2971) + 10739) - (((S.1 143 26) * 2971) + 10739) / 65536 * 65536) → (¬ a1 = 0 ∧ post (((S2.1 143 26) / 8) - ((S2.1 143 26) / 8) / a1 * a1) S2)
set_option maxHeartbeats 4000000 in
set_option maxRecDepth 100000 in
theorem c_X11_draw (l : Launch) (G : vG)    {S : vSt} (a1 : Int32) (post : Int32 → vSt → Prop) (h : p_X11_draw   S a1 post) : Met l yX11_draw (v_ws yX11_draw cX11_draw 2 (some .int)) (v_rm 0 40) (v_Pc G [.ref (G.1 143), .int a1] S) (v_Qi G post) 0 0 (v_A G) := by
  refine v_start (by decide +kernel) (Nat.le_of_ble_eq_true rfl) (fun X hl C D => ?_)
  subst hl
  have C : v_Cx X G cX11_draw RX11 2 (v_rm 0 40) := C
  show VJ X G S 0 [(0, .ref (G.1 143)), (1, .int a1)] []
  refine V_aload_n C 0 dX11_draw_0 rfl rfl ?_
  refine V_aload_n C 0 dX11_draw_1 rfl rfl ?_
  refine V_gi C 143 (by decide) (by decide) F_11_26 k_RX11_344 dX11_draw_2 ?_
  refine V_sipush (v := 2971) C dX11_draw_5 (by decide) ?_
  refine V_imul C dX11_draw_8 ?_
  refine V_sipush (v := 10739) C dX11_draw_9 (by decide) ?_
  refine V_iadd C dX11_draw_12 ?_
  refine V_ldcw (v := 65536) C k_RX11_347 dX11_draw_13 ?_
  refine V_irem C dX11_draw_16 (by decide) ?_
  refine V_pi C 143 (by decide) (by decide) P_11_26 k_RX11_344 dX11_draw_17 ?_
  refine V_topS (fun S2 eS2 => ?_)
  have h := h S2 eS2
  refine V_aload_n C 0 dX11_draw_20 rfl rfl ?_
  refine V_gi C 143 (by decide) (by decide) F_11_26 k_RX11_344 dX11_draw_21 ?_
  refine V_bipush (v := 8) C dX11_draw_24 (by decide) ?_
  refine V_idiv C dX11_draw_26 (by decide) ?_
  refine V_iload_n C 1 dX11_draw_27 rfl rfl ?_
  obtain ⟨hz, h⟩ := h
  refine V_irem C dX11_draw_28 hz ?_
  exact V_iret C D dX11_draw_29 h
/-! HalfAccuserModel.chanceOf(II)I -/
theorem dX11_chanceOf_0 : decode cX11_chanceOf 0 = .ok ((.iconst 0), 1) := by decide +kernel
theorem dX11_chanceOf_1 : decode cX11_chanceOf 1 = .ok ((.bipush 16), 2) := by decide +kernel
theorem dX11_chanceOf_3 : decode cX11_chanceOf 3 = .ok ((.aload_n 0), 1) := by decide +kernel
theorem dX11_chanceOf_4 : decode cX11_chanceOf 4 = .ok ((.getfield 35), 3) := by decide +kernel
theorem dX11_chanceOf_7 : decode cX11_chanceOf 7 = .ok ((.bipush 68), 2) := by decide +kernel
theorem dX11_chanceOf_9 : decode cX11_chanceOf 9 = .ok ((.iload_n 2), 1) := by decide +kernel
theorem dX11_chanceOf_10 : decode cX11_chanceOf 10 = .ok (.iadd, 1) := by decide +kernel
theorem dX11_chanceOf_11 : decode cX11_chanceOf 11 = .ok (.iaload, 1) := by decide +kernel
theorem dX11_chanceOf_12 : decode cX11_chanceOf 12 = .ok ((.aload_n 0), 1) := by decide +kernel
theorem dX11_chanceOf_13 : decode cX11_chanceOf 13 = .ok ((.getfield 35), 3) := by decide +kernel
theorem dX11_chanceOf_16 : decode cX11_chanceOf 16 = .ok ((.bipush 16), 2) := by decide +kernel
theorem dX11_chanceOf_18 : decode cX11_chanceOf 18 = .ok ((.iload_n 1), 1) := by decide +kernel
theorem dX11_chanceOf_19 : decode cX11_chanceOf 19 = .ok (.iadd, 1) := by decide +kernel
theorem dX11_chanceOf_20 : decode cX11_chanceOf 20 = .ok (.iaload, 1) := by decide +kernel
theorem dX11_chanceOf_21 : decode cX11_chanceOf 21 = .ok (.iadd, 1) := by decide +kernel
theorem dX11_chanceOf_22 : decode cX11_chanceOf 22 = .ok ((.aload_n 0), 1) := by decide +kernel
theorem dX11_chanceOf_23 : decode cX11_chanceOf 23 = .ok ((.getfield 35), 3) := by decide +kernel
theorem dX11_chanceOf_26 : decode cX11_chanceOf 26 = .ok ((.bipush 16), 2) := by decide +kernel
theorem dX11_chanceOf_28 : decode cX11_chanceOf 28 = .ok ((.aload_n 0), 1) := by decide +kernel
theorem dX11_chanceOf_29 : decode cX11_chanceOf 29 = .ok ((.getfield 35), 3) := by decide +kernel
theorem dX11_chanceOf_32 : decode cX11_chanceOf 32 = .ok ((.bipush 48), 2) := by decide +kernel
theorem dX11_chanceOf_34 : decode cX11_chanceOf 34 = .ok ((.iload_n 2), 1) := by decide +kernel
theorem dX11_chanceOf_35 : decode cX11_chanceOf 35 = .ok (.iadd, 1) := by decide +kernel
theorem dX11_chanceOf_36 : decode cX11_chanceOf 36 = .ok (.iaload, 1) := by decide +kernel
theorem dX11_chanceOf_37 : decode cX11_chanceOf 37 = .ok (.iadd, 1) := by decide +kernel
theorem dX11_chanceOf_38 : decode cX11_chanceOf 38 = .ok (.iaload, 1) := by decide +kernel
theorem dX11_chanceOf_39 : decode cX11_chanceOf 39 = .ok (.isub, 1) := by decide +kernel
theorem dX11_chanceOf_40 : decode cX11_chanceOf 40 = .ok ((.invokestatic 317), 3) := by decide +kernel
theorem dX11_chanceOf_43 : decode cX11_chanceOf 43 = .ok ((.invokestatic 232), 3) := by decide +kernel
theorem dX11_chanceOf_46 : decode cX11_chanceOf 46 = .ok (.ireturn, 1) := by decide +kernel
def p_X11_chanceOf   (S : vSt) (a1 : Int32) (a2 : Int32) (post : Int32 → vSt → Prop) : Prop := (vp_in (68 + a2) 1900 ∧ (vp_in (16 + a1) 1900 ∧ (vp_in (48 + a2) 1900 ∧ (vp_in (16 + (S.1 148 (Int32.toNatClampNeg (48 + a2)))) 1900 ∧ post (v_maxi 0 (v_mini 16 (((S.1 148 (Int32.toNatClampNeg (68 + a2))) + (S.1 148 (Int32.toNatClampNeg (16 + a1)))) - (S.1 148 (Int32.toNatClampNeg (16 + (S.1 148 (Int32.toNatClampNeg (48 + a2))))))))) S))))
set_option maxHeartbeats 4000000 in
set_option maxRecDepth 100000 in
theorem c_X11_chanceOf (l : Launch) (G : vG)    {S : vSt} (a1 : Int32) (a2 : Int32) (post : Int32 → vSt → Prop) (h : p_X11_chanceOf   S a1 a2 post) : Met l yX11_chanceOf (v_ws yX11_chanceOf cX11_chanceOf 3 (some .int)) (v_rm 1 60) (v_Pc G [.ref (G.1 143), .int a1, .int a2] S) (v_Qi G post) 0 0 (v_A G) := by
  refine v_start (by decide +kernel) (Nat.le_of_ble_eq_true rfl) (fun X hl C D => ?_)
  subst hl
  have C : v_Cx X G cX11_chanceOf RX11 3 (v_rm 1 60) := C
  show VJ X G S 0 [(0, .ref (G.1 143)), (1, .int a1), (2, .int a2)] []
  refine V_iconst (v := 0) C dX11_chanceOf_0 (by decide) ?_
  refine V_bipush (v := 16) C dX11_chanceOf_1 (by decide) ?_
  refine V_aload_n C 0 dX11_chanceOf_3 rfl rfl ?_
  refine V_ga C 143 (by decide) (by decide) F_11_20 k_RX11_35 dX11_chanceOf_4 ?_
  refine V_bipush (v := 68) C dX11_chanceOf_7 (by decide) ?_
  refine V_iload_n C 2 dX11_chanceOf_9 rfl rfl ?_
  refine V_iadd C dX11_chanceOf_10 ?_
  obtain ⟨hi, h⟩ := h
  refine V_iald C 148 1900 (by decide) (by decide) hi dX11_chanceOf_11 ?_
  refine V_aload_n C 0 dX11_chanceOf_12 rfl rfl ?_
  refine V_ga C 143 (by decide) (by decide) F_11_20 k_RX11_35 dX11_chanceOf_13 ?_
  refine V_bipush (v := 16) C dX11_chanceOf_16 (by decide) ?_
  refine V_iload_n C 1 dX11_chanceOf_18 rfl rfl ?_
  refine V_iadd C dX11_chanceOf_19 ?_
  obtain ⟨hi, h⟩ := h
  refine V_iald C 148 1900 (by decide) (by decide) hi dX11_chanceOf_20 ?_
  refine V_iadd C dX11_chanceOf_21 ?_
  refine V_aload_n C 0 dX11_chanceOf_22 rfl rfl ?_
  refine V_ga C 143 (by decide) (by decide) F_11_20 k_RX11_35 dX11_chanceOf_23 ?_
  refine V_bipush (v := 16) C dX11_chanceOf_26 (by decide) ?_
  refine V_aload_n C 0 dX11_chanceOf_28 rfl rfl ?_
  refine V_ga C 143 (by decide) (by decide) F_11_20 k_RX11_35 dX11_chanceOf_29 ?_
  refine V_bipush (v := 48) C dX11_chanceOf_32 (by decide) ?_
  refine V_iload_n C 2 dX11_chanceOf_34 rfl rfl ?_
  refine V_iadd C dX11_chanceOf_35 ?_
  obtain ⟨hi, h⟩ := h
  refine V_iald C 148 1900 (by decide) (by decide) hi dX11_chanceOf_36 ?_
  refine V_iadd C dX11_chanceOf_37 ?_
  obtain ⟨hi, h⟩ := h
  refine V_iald C 148 1900 (by decide) (by decide) hi dX11_chanceOf_38 ?_
  refine V_isub C dX11_chanceOf_39 ?_
  refine V_mini C k_RX11_317 (Nat.le_of_ble_eq_true rfl) ⟨Nat.le_of_ble_eq_true rfl, Nat.le_of_ble_eq_true rfl⟩ dX11_chanceOf_40 ?_
  refine V_maxi C k_RX11_232 (Nat.le_of_ble_eq_true rfl) ⟨Nat.le_of_ble_eq_true rfl, Nat.le_of_ble_eq_true rfl⟩ dX11_chanceOf_43 ?_
  exact V_iret C D dX11_chanceOf_46 h
/-! HalfAccuserModel.voted(II)I -/
theorem dX11_voted_0 : decode cX11_voted 0 = .ok ((.aload_n 0), 1) := by decide +kernel
theorem dX11_voted_1 : decode cX11_voted 1 = .ok ((.iload_n 1), 1) := by decide +kernel
theorem dX11_voted_2 : decode cX11_voted 2 = .ok ((.iload_n 2), 1) := by decide +kernel
theorem dX11_voted_3 : decode cX11_voted 3 = .ok ((.invokevirtual 348), 3) := by decide +kernel
theorem dX11_voted_6 : decode cX11_voted 6 = .ok ((.istore_n 3), 1) := by decide +kernel
theorem dX11_voted_7 : decode cX11_voted 7 = .ok ((.iconst 0), 1) := by decide +kernel
theorem dX11_voted_8 : decode cX11_voted 8 = .ok ((.istore 4), 2) := by decide +kernel
theorem dX11_voted_10 : decode cX11_voted 10 = .ok ((.iconst 0), 1) := by decide +kernel
theorem dX11_voted_11 : decode cX11_voted 11 = .ok ((.istore 5), 2) := by decide +kernel
theorem dX11_voted_13 : decode cX11_voted 13 = .ok ((.iload 5), 2) := by decide +kernel
theorem dX11_voted_15 : decode cX11_voted 15 = .ok ((.aload_n 0), 1) := by decide +kernel
theorem dX11_voted_16 : decode cX11_voted 16 = .ok ((.getfield 35), 3) := by decide +kernel
theorem dX11_voted_19 : decode cX11_voted 19 = .ok ((.iconst 2), 1) := by decide +kernel
theorem dX11_voted_20 : decode cX11_voted 20 = .ok (.iaload, 1) := by decide +kernel
theorem dX11_voted_21 : decode cX11_voted 21 = .ok ((.if_icmp .ge 29), 3) := by decide +kernel
theorem dX11_voted_24 : decode cX11_voted 24 = .ok ((.iload 4), 2) := by decide +kernel
theorem dX11_voted_26 : decode cX11_voted 26 = .ok ((.aload_n 0), 1) := by decide +kernel
theorem dX11_voted_27 : decode cX11_voted 27 = .ok ((.bipush 16), 2) := by decide +kernel
theorem dX11_voted_29 : decode cX11_voted 29 = .ok ((.invokevirtual 351), 3) := by decide +kernel
theorem dX11_voted_32 : decode cX11_voted 32 = .ok ((.iload_n 3), 1) := by decide +kernel
theorem dX11_voted_33 : decode cX11_voted 33 = .ok ((.if_icmp .ge 7), 3) := by decide +kernel
theorem dX11_voted_36 : decode cX11_voted 36 = .ok ((.iconst 1), 1) := by decide +kernel
theorem dX11_voted_37 : decode cX11_voted 37 = .ok ((.goto 4), 3) := by decide +kernel
theorem dX11_voted_40 : decode cX11_voted 40 = .ok ((.iconst 0), 1) := by decide +kernel
theorem dX11_voted_41 : decode cX11_voted 41 = .ok (.iadd, 1) := by decide +kernel
theorem dX11_voted_42 : decode cX11_voted 42 = .ok ((.istore 4), 2) := by decide +kernel
theorem dX11_voted_44 : decode cX11_voted 44 = .ok ((.iinc 5 1), 3) := by decide +kernel
theorem dX11_voted_47 : decode cX11_voted 47 = .ok ((.goto (-34)), 3) := by decide +kernel
theorem dX11_voted_50 : decode cX11_voted 50 = .ok ((.iload 4), 2) := by decide +kernel
theorem dX11_voted_52 : decode cX11_voted 52 = .ok (.ireturn, 1) := by decide +kernel
def p_X11_voted_41  (a1 : Int32) (a2 : Int32)  (K13 : vSt → Int32 → Int32 → Int32 → Prop) (post : Int32 → vSt → Prop) (S : vSt) (x3 : Int32) (x5 : Int32) (s0 : Bool) (s1 : Int32) : Prop := ∀ y15 : Int32, y15 = (s1 + (v_b s0)) → ∀ y16 : Int32, y16 = x5 + 1 → K13 S x3 y15 y16
def p_X11_voted_13  (a1 : Int32) (a2 : Int32)   (post : Int32 → vSt → Prop) : Nat → vSt → Int32 → Int32 → Int32 → Prop
  | 0 => fun _ _ _ _ => False
  | fu13 + 1 => fun S x3 x4 x5 => (vp_in 2 1900 ∧ (((S.1 148 (Int32.toNatClampNeg 2)) ≤ x5 → post x4 S) ∧ (¬ (S.1 148 (Int32.toNatClampNeg 2)) ≤ x5 → p_X11_draw  S 16 (fun r14 S13 => ((x3 ≤ r14 → p_X11_voted_41 a1 a2 (p_X11_voted_13 a1 a2 post fu13) post S13 x3 x5 false x4) ∧ (¬ x3 ≤ r14 → p_X11_voted_41 a1 a2 (p_X11_voted_13 a1 a2 post fu13) post S13 x3 x5 true x4))))))
theorem e_X11_voted_13  (a1 : Int32) (a2 : Int32)   (post : Int32 → vSt → Prop) (fu13 : Nat) (S : vSt) (x3 : Int32) (x4 : Int32) (x5 : Int32) : p_X11_voted_13 a1 a2 post (fu13 + 1) S x3 x4 x5 = ((vp_in 2 1900 ∧ (((S.1 148 (Int32.toNatClampNeg 2)) ≤ x5 → post x4 S) ∧ (¬ (S.1 148 (Int32.toNatClampNeg 2)) ≤ x5 → p_X11_draw  S 16 (fun r14 S13 => ((x3 ≤ r14 → p_X11_voted_41 a1 a2 (p_X11_voted_13 a1 a2 post fu13) post S13 x3 x5 false x4) ∧ (¬ x3 ≤ r14 → p_X11_voted_41 a1 a2 (p_X11_voted_13 a1 a2 post fu13) post S13 x3 x5 true x4))))))) := rfl
def p_X11_voted   (S : vSt) (a1 : Int32) (a2 : Int32) (post : Int32 → vSt → Prop) : Prop := p_X11_chanceOf  S a1 a2 (fun r12 S11 => ∃ fu13, p_X11_voted_13 a1 a2 post fu13 S11 r12 0 0)
set_option maxHeartbeats 4000000 in
set_option maxRecDepth 100000 in
theorem q_X11_voted_41 {X : vX} {G : vG}  {post : Int32 → vSt → Prop} (C : v_Cx X G cX11_voted RX11 6 (v_rm 2 82)) (D : v_Rx X G (v_Qi G post) (some .int))  {a1 : Int32} {a2 : Int32}  {K13 : vSt → Int32 → Int32 → Int32 → Prop} (hK13 : ∀ S x3 x4 x5, K13 S x3 x4 x5 → VJ X G S 13 [(0, .ref (G.1 143)), (3, .int x3), (4, .int x4), (5, .int x5)] []) : ∀ (S : vSt) (x3 : Int32) (x5 : Int32) (s0 : Bool) (s1 : Int32), p_X11_voted_41 a1 a2 K13 post S x3 x5 s0 s1 → VJ X G S 41 [(0, .ref (G.1 143)), (3, .int x3), (5, .int x5)] [.int (v_b s0), .int s1] := by
  intro S x3 x5 s0 s1 h
  refine V_iadd C dX11_voted_41 ?_
  refine V_topi (fun y15 ey15 => ?_)
  have h := h y15 ey15
  refine V_istore (lv' := [(0, .ref (G.1 143)), (3, .int x3), (4, .int y15), (5, .int x5)]) C [1, 2, 0, 3] dX11_voted_42 (by decide) rfl ?_
  obtain ⟨y16, ey16⟩ : ∃ z : Int32, z = x5 + 1 := ⟨_, rfl⟩
  have h := h y16 ey16
  refine V_iinc (lv' := [(0, .ref (G.1 143)), (3, .int x3), (4, .int y15), (5, .int y16)]) C 3 [1, 2, 3, 0] y16 dX11_voted_44 rfl (by rw [ey16]; rfl) (by decide) rfl ?_
  refine V_goto (tgt := 13) C dX11_voted_47 (by decide) ?_
  exact hK13 _ _ _ _ h
set_option maxHeartbeats 4000000 in
set_option maxRecDepth 100000 in
theorem q_X11_voted_13 {X : vX} {G : vG}  {post : Int32 → vSt → Prop} (C : v_Cx X G cX11_voted RX11 6 (v_rm 2 82)) (D : v_Rx X G (v_Qi G post) (some .int))  {a1 : Int32} {a2 : Int32}   : ∀ (fu : Nat) (S : vSt) (x3 : Int32) (x4 : Int32) (x5 : Int32), p_X11_voted_13 a1 a2 post fu S x3 x4 x5 → VJ X G S 13 [(0, .ref (G.1 143)), (3, .int x3), (4, .int x4), (5, .int x5)] [] := by
  intro fu
  induction fu with
  | zero => intro S x3 x4 x5 h; exact absurd h id
  | succ fu ih =>
    intro S x3 x4 x5 h
    have hK13 := ih
    rw [e_X11_voted_13] at h
    refine V_iload C 3 dX11_voted_13 rfl ?_
    refine V_aload_n C 0 dX11_voted_15 rfl rfl ?_
    refine V_ga C 143 (by decide) (by decide) F_11_20 k_RX11_35 dX11_voted_16 ?_
    refine V_iconst (v := 2) C dX11_voted_19 (by decide) ?_
    obtain ⟨hi, h⟩ := h
    refine V_iald C 148 1900 (by decide) (by decide) hi dX11_voted_20 ?_
    refine V_icmp_ge (tgt := 50) C dX11_voted_21 (by decide) (fun c => ?_) (fun c => ?_)
    · have h := h.1 c
      refine V_iload C 2 dX11_voted_50 rfl ?_
      exact V_iret C D dX11_voted_52 h
    · have h := h.2 c
      refine V_iload C 2 dX11_voted_24 rfl ?_
      refine V_aload_n C 0 dX11_voted_26 rfl rfl ?_
      refine V_bipush (v := 16) C dX11_voted_27 (by decide) ?_
      refine V_callVi (As := [.int 16]) (rest := [.int x4]) C (c_X11_draw (v_l X) G  _ _ h) 143 11 (by decide) (by decide) (by decide) rfl KV_X11_draw k_RX11_351 rfl rfl rfl (Nat.le_of_ble_eq_true rfl) ⟨Nat.le_of_ble_eq_true rfl, Nat.le_of_ble_eq_true rfl⟩ dX11_voted_29 (fun r14 S13 h => ?_)
      refine V_iload_n C 1 dX11_voted_32 rfl rfl ?_
      refine V_icmp_ge (tgt := 40) C dX11_voted_33 (by decide) (fun c => ?_) (fun c => ?_)
      · have h := h.1 c
        refine V_iconst (v := 0) C dX11_voted_40 (by decide) ?_
        refine V_loc (lv' := [(0, .ref (G.1 143)), (3, .int x3), (5, .int x5)]) [0, 1, 3] rfl ?_
        exact q_X11_voted_41 C D hK13 _ _ _ _ _ h
      · have h := h.2 c
        refine V_iconst (v := 1) C dX11_voted_36 (by decide) ?_
        refine V_goto (tgt := 41) C dX11_voted_37 (by decide) ?_
        refine V_loc (lv' := [(0, .ref (G.1 143)), (3, .int x3), (5, .int x5)]) [0, 1, 3] rfl ?_
        exact q_X11_voted_41 C D hK13 _ _ _ _ _ h
set_option maxHeartbeats 4000000 in
set_option maxRecDepth 100000 in
theorem c_X11_voted (l : Launch) (G : vG)    {S : vSt} (a1 : Int32) (a2 : Int32) (post : Int32 → vSt → Prop) (h : p_X11_voted   S a1 a2 post) : Met l yX11_voted (v_ws yX11_voted cX11_voted 6 (some .int)) (v_rm 2 82) (v_Pc G [.ref (G.1 143), .int a1, .int a2] S) (v_Qi G post) 0 0 (v_A G) := by
  refine v_start (by decide +kernel) (Nat.le_of_ble_eq_true rfl) (fun X hl C D => ?_)
  subst hl
  have C : v_Cx X G cX11_voted RX11 6 (v_rm 2 82) := C
  show VJ X G S 0 [(0, .ref (G.1 143)), (1, .int a1), (2, .int a2)] []
  refine V_aload_n C 0 dX11_voted_0 rfl rfl ?_
  refine V_iload_n C 1 dX11_voted_1 rfl rfl ?_
  refine V_iload_n C 2 dX11_voted_2 rfl rfl ?_
  refine V_callVi (As := [.int a1, .int a2]) (rest := []) C (c_X11_chanceOf (v_l X) G  _ _ _ h) 143 11 (by decide) (by decide) (by decide) rfl KV_X11_chanceOf k_RX11_348 rfl rfl rfl (Nat.le_of_ble_eq_true rfl) ⟨Nat.le_of_ble_eq_true rfl, Nat.le_of_ble_eq_true rfl⟩ dX11_voted_3 (fun r12 S11 h => ?_)
  refine V_istore_n (lv' := [(0, .ref (G.1 143)), (1, .int a1), (2, .int a2), (3, .int r12)]) C [1, 2, 3, 0] dX11_voted_6 rfl (by decide) rfl ?_
  refine V_iconst (v := 0) C dX11_voted_7 (by decide) ?_
  refine V_istore (lv' := [(0, .ref (G.1 143)), (1, .int a1), (2, .int a2), (3, .int r12), (4, .int 0)]) C [1, 2, 3, 4, 0] dX11_voted_8 (by decide) rfl ?_
  refine V_iconst (v := 0) C dX11_voted_10 (by decide) ?_
  refine V_istore (lv' := [(0, .ref (G.1 143)), (1, .int a1), (2, .int a2), (3, .int r12), (4, .int 0), (5, .int 0)]) C [1, 2, 3, 4, 5, 0] dX11_voted_11 (by decide) rfl ?_
  refine V_loc (lv' := [(0, .ref (G.1 143)), (3, .int r12), (4, .int 0), (5, .int 0)]) [0, 3, 4, 5] rfl ?_
  obtain ⟨fu13, h⟩ := h
  exact q_X11_voted_13 C D  fu13 _ _ _ _ h
/-! HalfAccuserModel.hear(III)I -/
theorem dX11_hear_0 : decode cX11_hear 0 = .ok ((.aload_n 0), 1) := by decide +kernel
theorem dX11_hear_1 : decode cX11_hear 1 = .ok ((.iconst 0), 1) := by decide +kernel
theorem dX11_hear_2 : decode cX11_hear 2 = .ok ((.putfield 60), 3) := by decide +kernel
theorem dX11_hear_5 : decode cX11_hear 5 = .ok ((.aload_n 0), 1) := by decide +kernel
theorem dX11_hear_6 : decode cX11_hear 6 = .ok ((.iconst 0), 1) := by decide +kernel
theorem dX11_hear_7 : decode cX11_hear 7 = .ok ((.putfield 63), 3) := by decide +kernel
theorem dX11_hear_10 : decode cX11_hear 10 = .ok ((.aload_n 0), 1) := by decide +kernel
theorem dX11_hear_11 : decode cX11_hear 11 = .ok ((.iload_n 1), 1) := by decide +kernel
theorem dX11_hear_12 : decode cX11_hear 12 = .ok ((.iload_n 2), 1) := by decide +kernel
theorem dX11_hear_13 : decode cX11_hear 13 = .ok ((.invokevirtual 335), 3) := by decide +kernel
theorem dX11_hear_16 : decode cX11_hear 16 = .ok ((.ifCond .ne 9), 3) := by decide +kernel
theorem dX11_hear_19 : decode cX11_hear 19 = .ok ((.aload_n 0), 1) := by decide +kernel
theorem dX11_hear_20 : decode cX11_hear 20 = .ok ((.iconst 2), 1) := by decide +kernel
theorem dX11_hear_21 : decode cX11_hear 21 = .ok ((.invokevirtual 303), 3) := by decide +kernel
theorem dX11_hear_24 : decode cX11_hear 24 = .ok (.ireturn, 1) := by decide +kernel
theorem dX11_hear_25 : decode cX11_hear 25 = .ok ((.iload_n 3), 1) := by decide +kernel
theorem dX11_hear_26 : decode cX11_hear 26 = .ok (.i2l, 1) := by decide +kernel
theorem dX11_hear_27 : decode cX11_hear 27 = .ok ((.lconst 0), 1) := by decide +kernel
theorem dX11_hear_28 : decode cX11_hear 28 = .ok ((.ldc2_w 354), 3) := by decide +kernel
theorem dX11_hear_31 : decode cX11_hear 31 = .ok ((.invokestatic 95), 3) := by decide +kernel
theorem dX11_hear_34 : decode cX11_hear 34 = .ok ((.ifCond .ne 9), 3) := by decide +kernel
theorem dX11_hear_37 : decode cX11_hear 37 = .ok ((.aload_n 0), 1) := by decide +kernel
theorem dX11_hear_38 : decode cX11_hear 38 = .ok ((.iconst 5), 1) := by decide +kernel
theorem dX11_hear_39 : decode cX11_hear 39 = .ok ((.invokevirtual 303), 3) := by decide +kernel
theorem dX11_hear_42 : decode cX11_hear 42 = .ok (.ireturn, 1) := by decide +kernel
theorem dX11_hear_43 : decode cX11_hear 43 = .ok ((.aload_n 0), 1) := by decide +kernel
theorem dX11_hear_44 : decode cX11_hear 44 = .ok ((.iload_n 1), 1) := by decide +kernel
theorem dX11_hear_45 : decode cX11_hear 45 = .ok ((.iload_n 2), 1) := by decide +kernel
theorem dX11_hear_46 : decode cX11_hear 46 = .ok ((.invokevirtual 338), 3) := by decide +kernel
theorem dX11_hear_49 : decode cX11_hear 49 = .ok ((.ifCond .ne 10), 3) := by decide +kernel
theorem dX11_hear_52 : decode cX11_hear 52 = .ok ((.aload_n 0), 1) := by decide +kernel
theorem dX11_hear_53 : decode cX11_hear 53 = .ok ((.bipush 9), 2) := by decide +kernel
theorem dX11_hear_55 : decode cX11_hear 55 = .ok ((.invokevirtual 303), 3) := by decide +kernel
theorem dX11_hear_58 : decode cX11_hear 58 = .ok (.ireturn, 1) := by decide +kernel
theorem dX11_hear_59 : decode cX11_hear 59 = .ok ((.aload_n 0), 1) := by decide +kernel
theorem dX11_hear_60 : decode cX11_hear 60 = .ok ((.iload_n 3), 1) := by decide +kernel
theorem dX11_hear_61 : decode cX11_hear 61 = .ok ((.putfield 344), 3) := by decide +kernel
theorem dX11_hear_64 : decode cX11_hear 64 = .ok ((.aload_n 0), 1) := by decide +kernel
theorem dX11_hear_65 : decode cX11_hear 65 = .ok ((.iload_n 1), 1) := by decide +kernel
theorem dX11_hear_66 : decode cX11_hear 66 = .ok ((.iload_n 2), 1) := by decide +kernel
theorem dX11_hear_67 : decode cX11_hear 67 = .ok ((.invokevirtual 356), 3) := by decide +kernel
theorem dX11_hear_70 : decode cX11_hear 70 = .ok ((.istore 4), 2) := by decide +kernel
theorem dX11_hear_72 : decode cX11_hear 72 = .ok ((.aload_n 0), 1) := by decide +kernel
theorem dX11_hear_73 : decode cX11_hear 73 = .ok ((.iload_n 1), 1) := by decide +kernel
theorem dX11_hear_74 : decode cX11_hear 74 = .ok ((.iload_n 2), 1) := by decide +kernel
theorem dX11_hear_75 : decode cX11_hear 75 = .ok ((.iload 4), 2) := by decide +kernel
theorem dX11_hear_77 : decode cX11_hear 77 = .ok ((.invokevirtual 341), 3) := by decide +kernel
theorem dX11_hear_80 : decode cX11_hear 80 = .ok ((.iload 4), 2) := by decide +kernel
theorem dX11_hear_82 : decode cX11_hear 82 = .ok (.ireturn, 1) := by decide +kernel
def p_X11_hear   (S : vSt) (a1 : Int32) (a2 : Int32) (a3 : Int32) (post : Int32 → vSt → Prop) : Prop := ∀ S19, S19 = v_si S 143 1 0 → ∀ S20, S20 = v_si S19 143 0 0 → p_X11_areBoth  S20 a1 a2 (fun r22 S21 => ((r22 = true → p_X11_isIn  S21 (Int32.toInt64 a3) 0 9999 (fun r24 S23 => ((r24 = true → p_X11_canCharge  S23 a1 a2 (fun r26 S25 => ((r26 = true → ∀ S27, S27 = v_si S25 143 26 a3 → p_X11_voted  S27 a1 a2 (fun r29 S28 => p_X11_hears  S28 a1 a2 r29 (fun S30 => post r29 S30))) ∧ (r26 = false → p_X11_refuse  S25 9 (fun r32 S31 => post r32 S31))))) ∧ (r24 = false → p_X11_refuse  S23 5 (fun r34 S33 => post r34 S33))))) ∧ (r22 = false → p_X11_refuse  S21 2 (fun r36 S35 => post r36 S35))))
set_option maxHeartbeats 4000000 in
set_option maxRecDepth 100000 in
theorem c_X11_hear (l : Launch) (G : vG)    {S : vSt} (a1 : Int32) (a2 : Int32) (a3 : Int32) (post : Int32 → vSt → Prop) (h : p_X11_hear   S a1 a2 a3 post) : Met l yX11_hear (v_ws yX11_hear cX11_hear 5 (some .int)) (v_rm 3 108) (v_Pc G [.ref (G.1 143), .int a1, .int a2, .int a3] S) (v_Qi G post) 0 0 (v_A G) := by
  refine v_start (by decide +kernel) (Nat.le_of_ble_eq_true rfl) (fun X hl C D => ?_)
  subst hl
  have C : v_Cx X G cX11_hear RX11 5 (v_rm 3 108) := C
  show VJ X G S 0 [(0, .ref (G.1 143)), (1, .int a1), (2, .int a2), (3, .int a3)] []
  refine V_aload_n C 0 dX11_hear_0 rfl rfl ?_
  refine V_iconst (v := 0) C dX11_hear_1 (by decide) ?_
  refine V_pi C 143 (by decide) (by decide) P_11_1 k_RX11_60 dX11_hear_2 ?_
  refine V_topS (fun S19 eS19 => ?_)
  have h := h S19 eS19
  refine V_aload_n C 0 dX11_hear_5 rfl rfl ?_
  refine V_iconst (v := 0) C dX11_hear_6 (by decide) ?_
  refine V_pi C 143 (by decide) (by decide) P_11_0 k_RX11_63 dX11_hear_7 ?_
  refine V_topS (fun S20 eS20 => ?_)
  have h := h S20 eS20
  refine V_aload_n C 0 dX11_hear_10 rfl rfl ?_
  refine V_iload_n C 1 dX11_hear_11 rfl rfl ?_
  refine V_iload_n C 2 dX11_hear_12 rfl rfl ?_
  refine V_callVz (As := [.int a1, .int a2]) (rest := []) C (c_X11_areBoth (v_l X) G  _ _ _ h) 143 11 (by decide) (by decide) (by decide) rfl KV_X11_areBoth k_RX11_335 rfl rfl rfl (Nat.le_of_ble_eq_true rfl) ⟨Nat.le_of_ble_eq_true rfl, Nat.le_of_ble_eq_true rfl⟩ dX11_hear_13 (fun r22 S21 h => ?_)
  refine V_ifb_ne (tgt := 25) C dX11_hear_16 (by decide) (fun c => ?_) (fun c => ?_)
  · have h := h.1 c
    refine V_iload_n C 3 dX11_hear_25 rfl rfl ?_
    refine V_i2l C dX11_hear_26 ?_
    refine V_lconst (v := 0) C dX11_hear_27 (by decide) ?_
    refine V_ldc2 (v := 9999) C k_RX11_354 dX11_hear_28 ?_
    refine V_callSz (As := [.long (Int32.toInt64 a3), .long 0, .long 9999]) (rest := []) C (c_X11_isIn (v_l X) G  _ _ _ _ h) KV_X11_isIn k_RX11_95 rfl rfl rfl (Nat.le_of_ble_eq_true rfl) ⟨Nat.le_of_ble_eq_true rfl, Nat.le_of_ble_eq_true rfl⟩ dX11_hear_31 (fun r24 S23 h => ?_)
    refine V_ifb_ne (tgt := 43) C dX11_hear_34 (by decide) (fun c => ?_) (fun c => ?_)
    · have h := h.1 c
      refine V_aload_n C 0 dX11_hear_43 rfl rfl ?_
      refine V_iload_n C 1 dX11_hear_44 rfl rfl ?_
      refine V_iload_n C 2 dX11_hear_45 rfl rfl ?_
      refine V_callVz (As := [.int a1, .int a2]) (rest := []) C (c_X11_canCharge (v_l X) G  _ _ _ h) 143 11 (by decide) (by decide) (by decide) rfl KV_X11_canCharge k_RX11_338 rfl rfl rfl (Nat.le_of_ble_eq_true rfl) ⟨Nat.le_of_ble_eq_true rfl, Nat.le_of_ble_eq_true rfl⟩ dX11_hear_46 (fun r26 S25 h => ?_)
      refine V_ifb_ne (tgt := 59) C dX11_hear_49 (by decide) (fun c => ?_) (fun c => ?_)
      · have h := h.1 c
        refine V_aload_n C 0 dX11_hear_59 rfl rfl ?_
        refine V_iload_n C 3 dX11_hear_60 rfl rfl ?_
        refine V_pi C 143 (by decide) (by decide) P_11_26 k_RX11_344 dX11_hear_61 ?_
        refine V_topS (fun S27 eS27 => ?_)
        have h := h S27 eS27
        refine V_aload_n C 0 dX11_hear_64 rfl rfl ?_
        refine V_iload_n C 1 dX11_hear_65 rfl rfl ?_
        refine V_iload_n C 2 dX11_hear_66 rfl rfl ?_
        refine V_callVi (As := [.int a1, .int a2]) (rest := []) C (c_X11_voted (v_l X) G  _ _ _ h) 143 11 (by decide) (by decide) (by decide) rfl KV_X11_voted k_RX11_356 rfl rfl rfl (Nat.le_of_ble_eq_true rfl) ⟨Nat.le_of_ble_eq_true rfl, Nat.le_of_ble_eq_true rfl⟩ dX11_hear_67 (fun r29 S28 h => ?_)
        refine V_istore (lv' := [(0, .ref (G.1 143)), (1, .int a1), (2, .int a2), (3, .int a3), (4, .int r29)]) C [1, 2, 3, 4, 0] dX11_hear_70 (by decide) rfl ?_
        refine V_aload_n C 0 dX11_hear_72 rfl rfl ?_
        refine V_iload_n C 1 dX11_hear_73 rfl rfl ?_
        refine V_iload_n C 2 dX11_hear_74 rfl rfl ?_
        refine V_iload C 4 dX11_hear_75 rfl ?_
        refine V_callVv (As := [.int a1, .int a2, .int r29]) (rest := []) C (c_X11_hears (v_l X) G  _ _ _ _ h) 143 11 (by decide) (by decide) (by decide) rfl KV_X11_hears k_RX11_341 rfl rfl rfl (Nat.le_of_ble_eq_true rfl) ⟨Nat.le_of_ble_eq_true rfl, Nat.le_of_ble_eq_true rfl⟩ dX11_hear_77 (fun S30 h => ?_)
        refine V_iload C 4 dX11_hear_80 rfl ?_
        exact V_iret C D dX11_hear_82 h
      · have h := h.2 c
        refine V_aload_n C 0 dX11_hear_52 rfl rfl ?_
        refine V_bipush (v := 9) C dX11_hear_53 (by decide) ?_
        refine V_callVi (As := [.int 9]) (rest := []) C (c_X11_refuse (v_l X) G  _ _ h) 143 11 (by decide) (by decide) (by decide) rfl KV_X11_refuse k_RX11_303 rfl rfl rfl (Nat.le_of_ble_eq_true rfl) ⟨Nat.le_of_ble_eq_true rfl, Nat.le_of_ble_eq_true rfl⟩ dX11_hear_55 (fun r32 S31 h => ?_)
        exact V_iret C D dX11_hear_58 h
    · have h := h.2 c
      refine V_aload_n C 0 dX11_hear_37 rfl rfl ?_
      refine V_iconst (v := 5) C dX11_hear_38 (by decide) ?_
      refine V_callVi (As := [.int 5]) (rest := []) C (c_X11_refuse (v_l X) G  _ _ h) 143 11 (by decide) (by decide) (by decide) rfl KV_X11_refuse k_RX11_303 rfl rfl rfl (Nat.le_of_ble_eq_true rfl) ⟨Nat.le_of_ble_eq_true rfl, Nat.le_of_ble_eq_true rfl⟩ dX11_hear_39 (fun r34 S33 h => ?_)
      exact V_iret C D dX11_hear_42 h
  · have h := h.2 c
    refine V_aload_n C 0 dX11_hear_19 rfl rfl ?_
    refine V_iconst (v := 2) C dX11_hear_20 (by decide) ?_
    refine V_callVi (As := [.int 2]) (rest := []) C (c_X11_refuse (v_l X) G  _ _ h) 143 11 (by decide) (by decide) (by decide) rfl KV_X11_refuse k_RX11_303 rfl rfl rfl (Nat.le_of_ble_eq_true rfl) ⟨Nat.le_of_ble_eq_true rfl, Nat.le_of_ble_eq_true rfl⟩ dX11_hear_21 (fun r36 S35 h => ?_)
    exact V_iret C D dX11_hear_24 h
/-! HalfAccuserModel.drops(III)Z -/
theorem dX11_drops_0 : decode cX11_drops 0 = .ok ((.aload_n 0), 1) := by decide +kernel
theorem dX11_drops_1 : decode cX11_drops 1 = .ok ((.iload_n 1), 1) := by decide +kernel
theorem dX11_drops_2 : decode cX11_drops 2 = .ok ((.iload_n 2), 1) := by decide +kernel
theorem dX11_drops_3 : decode cX11_drops 3 = .ok ((.invokevirtual 338), 3) := by decide +kernel
theorem dX11_drops_6 : decode cX11_drops 6 = .ok ((.ifCond .eq 24), 3) := by decide +kernel
theorem dX11_drops_9 : decode cX11_drops 9 = .ok ((.aload_n 0), 1) := by decide +kernel
theorem dX11_drops_10 : decode cX11_drops 10 = .ok ((.getfield 35), 3) := by decide +kernel
theorem dX11_drops_13 : decode cX11_drops 13 = .ok ((.bipush 8), 2) := by decide +kernel
theorem dX11_drops_15 : decode cX11_drops 15 = .ok ((.aload_n 0), 1) := by decide +kernel
theorem dX11_drops_16 : decode cX11_drops 16 = .ok ((.getfield 35), 3) := by decide +kernel
theorem dX11_drops_19 : decode cX11_drops 19 = .ok ((.bipush 48), 2) := by decide +kernel
theorem dX11_drops_21 : decode cX11_drops 21 = .ok ((.iload_n 2), 1) := by decide +kernel
theorem dX11_drops_22 : decode cX11_drops 22 = .ok (.iadd, 1) := by decide +kernel
theorem dX11_drops_23 : decode cX11_drops 23 = .ok (.iaload, 1) := by decide +kernel
theorem dX11_drops_24 : decode cX11_drops 24 = .ok (.iadd, 1) := by decide +kernel
theorem dX11_drops_25 : decode cX11_drops 25 = .ok (.iaload, 1) := by decide +kernel
theorem dX11_drops_26 : decode cX11_drops 26 = .ok ((.iload_n 3), 1) := by decide +kernel
theorem dX11_drops_27 : decode cX11_drops 27 = .ok ((.if_icmp .ge 5), 3) := by decide +kernel
theorem dX11_drops_30 : decode cX11_drops 30 = .ok ((.iconst 0), 1) := by decide +kernel
theorem dX11_drops_31 : decode cX11_drops 31 = .ok (.ireturn, 1) := by decide +kernel
theorem dX11_drops_32 : decode cX11_drops 32 = .ok ((.aload_n 0), 1) := by decide +kernel
theorem dX11_drops_33 : decode cX11_drops 33 = .ok ((.bipush 8), 2) := by decide +kernel
theorem dX11_drops_35 : decode cX11_drops 35 = .ok ((.aload_n 0), 1) := by decide +kernel
theorem dX11_drops_36 : decode cX11_drops 36 = .ok ((.getfield 35), 3) := by decide +kernel
theorem dX11_drops_39 : decode cX11_drops 39 = .ok ((.bipush 48), 2) := by decide +kernel
theorem dX11_drops_41 : decode cX11_drops 41 = .ok ((.iload_n 2), 1) := by decide +kernel
theorem dX11_drops_42 : decode cX11_drops 42 = .ok (.iadd, 1) := by decide +kernel
theorem dX11_drops_43 : decode cX11_drops 43 = .ok (.iaload, 1) := by decide +kernel
theorem dX11_drops_44 : decode cX11_drops 44 = .ok (.iadd, 1) := by decide +kernel
theorem dX11_drops_45 : decode cX11_drops 45 = .ok ((.iload_n 3), 1) := by decide +kernel
theorem dX11_drops_46 : decode cX11_drops 46 = .ok (.ineg, 1) := by decide +kernel
theorem dX11_drops_47 : decode cX11_drops 47 = .ok ((.invokevirtual 329), 3) := by decide +kernel
theorem dX11_drops_50 : decode cX11_drops 50 = .ok ((.aload_n 0), 1) := by decide +kernel
theorem dX11_drops_51 : decode cX11_drops 51 = .ok ((.bipush 8), 2) := by decide +kernel
theorem dX11_drops_53 : decode cX11_drops 53 = .ok ((.iload_n 1), 1) := by decide +kernel
theorem dX11_drops_54 : decode cX11_drops 54 = .ok (.iadd, 1) := by decide +kernel
theorem dX11_drops_55 : decode cX11_drops 55 = .ok ((.iload_n 3), 1) := by decide +kernel
theorem dX11_drops_56 : decode cX11_drops 56 = .ok ((.invokevirtual 329), 3) := by decide +kernel
theorem dX11_drops_59 : decode cX11_drops 59 = .ok ((.aload_n 0), 1) := by decide +kernel
theorem dX11_drops_60 : decode cX11_drops 60 = .ok ((.getfield 35), 3) := by decide +kernel
theorem dX11_drops_63 : decode cX11_drops 63 = .ok ((.bipush 40), 2) := by decide +kernel
theorem dX11_drops_65 : decode cX11_drops 65 = .ok ((.iload_n 1), 1) := by decide +kernel
theorem dX11_drops_66 : decode cX11_drops 66 = .ok (.iadd, 1) := by decide +kernel
theorem dX11_drops_67 : decode cX11_drops 67 = .ok (.dup2, 1) := by decide +kernel
theorem dX11_drops_68 : decode cX11_drops 68 = .ok (.iaload, 1) := by decide +kernel
theorem dX11_drops_69 : decode cX11_drops 69 = .ok ((.iconst 1), 1) := by decide +kernel
theorem dX11_drops_70 : decode cX11_drops 70 = .ok ((.iload_n 2), 1) := by decide +kernel
theorem dX11_drops_71 : decode cX11_drops 71 = .ok (.ishl, 1) := by decide +kernel
theorem dX11_drops_72 : decode cX11_drops 72 = .ok (.ior, 1) := by decide +kernel
theorem dX11_drops_73 : decode cX11_drops 73 = .ok (.iastore, 1) := by decide +kernel
theorem dX11_drops_74 : decode cX11_drops 74 = .ok ((.iconst 1), 1) := by decide +kernel
theorem dX11_drops_75 : decode cX11_drops 75 = .ok (.ireturn, 1) := by decide +kernel
def p_X11_drops   (S : vSt) (a1 : Int32) (a2 : Int32) (a3 : Int32) (post : Bool → vSt → Prop) : Prop := p_X11_canCharge  S a1 a2 (fun r7 S6 => ((r7 = false → post false S6) ∧ (r7 = true → (vp_in (48 + a2) 1900 ∧ (vp_in (8 + (S6.1 148 (Int32.toNatClampNeg (48 + a2)))) 1900 ∧ ((a3 ≤ (S6.1 148 (Int32.toNatClampNeg (8 + (S6.1 148 (Int32.toNatClampNeg (48 + a2)))))) → (vp_in (48 + a2) 1900 ∧ p_X11_pays  S6 (8 + (S6.1 148 (Int32.toNatClampNeg (48 + a2)))) (-a3) (fun S8 => p_X11_pays  S8 (8 + a1) a3 (fun S9 => (vp_in (40 + a1) 1900 ∧ (vp_in (40 + a1) 1900 ∧ ∀ S10, S10 = v_si S9 148 (Int32.toNatClampNeg (40 + a1)) ((S9.1 148 (Int32.toNatClampNeg (40 + a1))) ||| (1 <<< (a2 &&& 31))) → post true S10)))))) ∧ (¬ a3 ≤ (S6.1 148 (Int32.toNatClampNeg (8 + (S6.1 148 (Int32.toNatClampNeg (48 + a2)))))) → post false S6)))))))
set_option maxHeartbeats 4000000 in
set_option maxRecDepth 100000 in
theorem c_X11_drops (l : Launch) (G : vG)    {S : vSt} (a1 : Int32) (a2 : Int32) (a3 : Int32) (post : Bool → vSt → Prop) (h : p_X11_drops   S a1 a2 a3 post) : Met l yX11_drops (v_ws yX11_drops cX11_drops 4 (some .boolean)) (v_rm 2 83) (v_Pc G [.ref (G.1 143), .int a1, .int a2, .int a3] S) (v_Qz G post) 0 0 (v_A G) := by
  refine v_start (by decide +kernel) (Nat.le_of_ble_eq_true rfl) (fun X hl C D => ?_)
  subst hl
  have C : v_Cx X G cX11_drops RX11 4 (v_rm 2 83) := C
  show VJ X G S 0 [(0, .ref (G.1 143)), (1, .int a1), (2, .int a2), (3, .int a3)] []
  refine V_aload_n C 0 dX11_drops_0 rfl rfl ?_
  refine V_iload_n C 1 dX11_drops_1 rfl rfl ?_
  refine V_iload_n C 2 dX11_drops_2 rfl rfl ?_
  refine V_callVz (As := [.int a1, .int a2]) (rest := []) C (c_X11_canCharge (v_l X) G  _ _ _ h) 143 11 (by decide) (by decide) (by decide) rfl KV_X11_canCharge k_RX11_338 rfl rfl rfl (Nat.le_of_ble_eq_true rfl) ⟨Nat.le_of_ble_eq_true rfl, Nat.le_of_ble_eq_true rfl⟩ dX11_drops_3 (fun r7 S6 h => ?_)
  refine V_ifb_eq (tgt := 30) C dX11_drops_6 (by decide) (fun c => ?_) (fun c => ?_)
  · have h := h.1 c
    refine V_iconst (v := 0) C dX11_drops_30 (by decide) ?_
    exact V_zret0 C D dX11_drops_31 h
  · have h := h.2 c
    refine V_aload_n C 0 dX11_drops_9 rfl rfl ?_
    refine V_ga C 143 (by decide) (by decide) F_11_20 k_RX11_35 dX11_drops_10 ?_
    refine V_bipush (v := 8) C dX11_drops_13 (by decide) ?_
    refine V_aload_n C 0 dX11_drops_15 rfl rfl ?_
    refine V_ga C 143 (by decide) (by decide) F_11_20 k_RX11_35 dX11_drops_16 ?_
    refine V_bipush (v := 48) C dX11_drops_19 (by decide) ?_
    refine V_iload_n C 2 dX11_drops_21 rfl rfl ?_
    refine V_iadd C dX11_drops_22 ?_
    obtain ⟨hi, h⟩ := h
    refine V_iald C 148 1900 (by decide) (by decide) hi dX11_drops_23 ?_
    refine V_iadd C dX11_drops_24 ?_
    obtain ⟨hi, h⟩ := h
    refine V_iald C 148 1900 (by decide) (by decide) hi dX11_drops_25 ?_
    refine V_iload_n C 3 dX11_drops_26 rfl rfl ?_
    refine V_icmp_ge (tgt := 32) C dX11_drops_27 (by decide) (fun c => ?_) (fun c => ?_)
    · have h := h.1 c
      refine V_aload_n C 0 dX11_drops_32 rfl rfl ?_
      refine V_bipush (v := 8) C dX11_drops_33 (by decide) ?_
      refine V_aload_n C 0 dX11_drops_35 rfl rfl ?_
      refine V_ga C 143 (by decide) (by decide) F_11_20 k_RX11_35 dX11_drops_36 ?_
      refine V_bipush (v := 48) C dX11_drops_39 (by decide) ?_
      refine V_iload_n C 2 dX11_drops_41 rfl rfl ?_
      refine V_iadd C dX11_drops_42 ?_
      obtain ⟨hi, h⟩ := h
      refine V_iald C 148 1900 (by decide) (by decide) hi dX11_drops_43 ?_
      refine V_iadd C dX11_drops_44 ?_
      refine V_iload_n C 3 dX11_drops_45 rfl rfl ?_
      refine V_ineg C dX11_drops_46 ?_
      refine V_callVv (As := [.int (8 + (S6.1 148 (Int32.toNatClampNeg (48 + a2)))), .int (-a3)]) (rest := []) C (c_X11_pays (v_l X) G  _ _ _ h) 143 11 (by decide) (by decide) (by decide) rfl KV_X11_pays k_RX11_329 rfl rfl rfl (Nat.le_of_ble_eq_true rfl) ⟨Nat.le_of_ble_eq_true rfl, Nat.le_of_ble_eq_true rfl⟩ dX11_drops_47 (fun S8 h => ?_)
      refine V_aload_n C 0 dX11_drops_50 rfl rfl ?_
      refine V_bipush (v := 8) C dX11_drops_51 (by decide) ?_
      refine V_iload_n C 1 dX11_drops_53 rfl rfl ?_
      refine V_iadd C dX11_drops_54 ?_
      refine V_iload_n C 3 dX11_drops_55 rfl rfl ?_
      refine V_callVv (As := [.int (8 + a1), .int a3]) (rest := []) C (c_X11_pays (v_l X) G  _ _ _ h) 143 11 (by decide) (by decide) (by decide) rfl KV_X11_pays k_RX11_329 rfl rfl rfl (Nat.le_of_ble_eq_true rfl) ⟨Nat.le_of_ble_eq_true rfl, Nat.le_of_ble_eq_true rfl⟩ dX11_drops_56 (fun S9 h => ?_)
      refine V_aload_n C 0 dX11_drops_59 rfl rfl ?_
      refine V_ga C 143 (by decide) (by decide) F_11_20 k_RX11_35 dX11_drops_60 ?_
      refine V_bipush (v := 40) C dX11_drops_63 (by decide) ?_
      refine V_iload_n C 1 dX11_drops_65 rfl rfl ?_
      refine V_iadd C dX11_drops_66 ?_
      refine V_dup2_11 C dX11_drops_67 rfl rfl ?_
      obtain ⟨hi, h⟩ := h
      refine V_iald C 148 1900 (by decide) (by decide) hi dX11_drops_68 ?_
      refine V_iconst (v := 1) C dX11_drops_69 (by decide) ?_
      refine V_iload_n C 2 dX11_drops_70 rfl rfl ?_
      refine V_ishl C dX11_drops_71 ?_
      refine V_ior C dX11_drops_72 ?_
      obtain ⟨hi, h⟩ := h
      refine V_iast C 148 1900 (by decide) (by decide) hi dX11_drops_73 ?_
      refine V_topS (fun S10 eS10 => ?_)
      have h := h S10 eS10
      refine V_iconst (v := 1) C dX11_drops_74 (by decide) ?_
      exact V_zret1 C D dX11_drops_75 h
    · have h := h.2 c
      refine V_iconst (v := 0) C dX11_drops_30 (by decide) ?_
      exact V_zret0 C D dX11_drops_31 h
/-! HalfAccuserModel.drop(III)I -/
theorem dX11_drop_0 : decode cX11_drop 0 = .ok ((.aload_n 0), 1) := by decide +kernel
theorem dX11_drop_1 : decode cX11_drop 1 = .ok ((.iconst 0), 1) := by decide +kernel
theorem dX11_drop_2 : decode cX11_drop 2 = .ok ((.putfield 60), 3) := by decide +kernel
theorem dX11_drop_5 : decode cX11_drop 5 = .ok ((.aload_n 0), 1) := by decide +kernel
theorem dX11_drop_6 : decode cX11_drop 6 = .ok ((.iconst 0), 1) := by decide +kernel
theorem dX11_drop_7 : decode cX11_drop 7 = .ok ((.putfield 63), 3) := by decide +kernel
theorem dX11_drop_10 : decode cX11_drop 10 = .ok ((.aload_n 0), 1) := by decide +kernel
theorem dX11_drop_11 : decode cX11_drop 11 = .ok ((.iload_n 1), 1) := by decide +kernel
theorem dX11_drop_12 : decode cX11_drop 12 = .ok ((.iload_n 2), 1) := by decide +kernel
theorem dX11_drop_13 : decode cX11_drop 13 = .ok ((.invokevirtual 335), 3) := by decide +kernel
theorem dX11_drop_16 : decode cX11_drop 16 = .ok ((.ifCond .ne 9), 3) := by decide +kernel
theorem dX11_drop_19 : decode cX11_drop 19 = .ok ((.aload_n 0), 1) := by decide +kernel
theorem dX11_drop_20 : decode cX11_drop 20 = .ok ((.iconst 2), 1) := by decide +kernel
theorem dX11_drop_21 : decode cX11_drop 21 = .ok ((.invokevirtual 303), 3) := by decide +kernel
theorem dX11_drop_24 : decode cX11_drop 24 = .ok (.ireturn, 1) := by decide +kernel
theorem dX11_drop_25 : decode cX11_drop 25 = .ok ((.iload_n 3), 1) := by decide +kernel
theorem dX11_drop_26 : decode cX11_drop 26 = .ok (.i2l, 1) := by decide +kernel
theorem dX11_drop_27 : decode cX11_drop 27 = .ok ((.lconst 0), 1) := by decide +kernel
theorem dX11_drop_28 : decode cX11_drop 28 = .ok ((.ldc2_w 354), 3) := by decide +kernel
theorem dX11_drop_31 : decode cX11_drop 31 = .ok ((.invokestatic 95), 3) := by decide +kernel
theorem dX11_drop_34 : decode cX11_drop 34 = .ok ((.ifCond .ne 9), 3) := by decide +kernel
theorem dX11_drop_37 : decode cX11_drop 37 = .ok ((.aload_n 0), 1) := by decide +kernel
theorem dX11_drop_38 : decode cX11_drop 38 = .ok ((.iconst 5), 1) := by decide +kernel
theorem dX11_drop_39 : decode cX11_drop 39 = .ok ((.invokevirtual 303), 3) := by decide +kernel
theorem dX11_drop_42 : decode cX11_drop 42 = .ok (.ireturn, 1) := by decide +kernel
theorem dX11_drop_43 : decode cX11_drop 43 = .ok ((.aload_n 0), 1) := by decide +kernel
theorem dX11_drop_44 : decode cX11_drop 44 = .ok ((.iload_n 1), 1) := by decide +kernel
theorem dX11_drop_45 : decode cX11_drop 45 = .ok ((.iload_n 2), 1) := by decide +kernel
theorem dX11_drop_46 : decode cX11_drop 46 = .ok ((.iload_n 3), 1) := by decide +kernel
theorem dX11_drop_47 : decode cX11_drop 47 = .ok ((.invokevirtual 359), 3) := by decide +kernel
theorem dX11_drop_50 : decode cX11_drop 50 = .ok ((.ifCond .eq 15), 3) := by decide +kernel
theorem dX11_drop_53 : decode cX11_drop 53 = .ok ((.aload_n 0), 1) := by decide +kernel
theorem dX11_drop_54 : decode cX11_drop 54 = .ok ((.getfield 35), 3) := by decide +kernel
theorem dX11_drop_57 : decode cX11_drop 57 = .ok ((.bipush 8), 2) := by decide +kernel
theorem dX11_drop_59 : decode cX11_drop 59 = .ok ((.iload_n 1), 1) := by decide +kernel
theorem dX11_drop_60 : decode cX11_drop 60 = .ok (.iadd, 1) := by decide +kernel
theorem dX11_drop_61 : decode cX11_drop 61 = .ok (.iaload, 1) := by decide +kernel
theorem dX11_drop_62 : decode cX11_drop 62 = .ok ((.goto 9), 3) := by decide +kernel
theorem dX11_drop_65 : decode cX11_drop 65 = .ok ((.aload_n 0), 1) := by decide +kernel
theorem dX11_drop_66 : decode cX11_drop 66 = .ok ((.bipush 9), 2) := by decide +kernel
theorem dX11_drop_68 : decode cX11_drop 68 = .ok ((.invokevirtual 303), 3) := by decide +kernel
theorem dX11_drop_71 : decode cX11_drop 71 = .ok (.ireturn, 1) := by decide +kernel
def p_X11_drop   (S : vSt) (a1 : Int32) (a2 : Int32) (a3 : Int32) (post : Int32 → vSt → Prop) : Prop := ∀ S15, S15 = v_si S 143 1 0 → ∀ S16, S16 = v_si S15 143 0 0 → p_X11_areBoth  S16 a1 a2 (fun r18 S17 => ((r18 = true → p_X11_isIn  S17 (Int32.toInt64 a3) 0 9999 (fun r20 S19 => ((r20 = true → p_X11_drops  S19 a1 a2 a3 (fun r22 S21 => ((r22 = false → p_X11_refuse  S21 9 (fun r24 S23 => post r24 S23)) ∧ (r22 = true → (vp_in (8 + a1) 1900 ∧ post (S21.1 148 (Int32.toNatClampNeg (8 + a1))) S21))))) ∧ (r20 = false → p_X11_refuse  S19 5 (fun r26 S25 => post r26 S25))))) ∧ (r18 = false → p_X11_refuse  S17 2 (fun r28 S27 => post r28 S27))))
set_option maxHeartbeats 4000000 in
set_option maxRecDepth 100000 in
theorem c_X11_drop (l : Launch) (G : vG)    {S : vSt} (a1 : Int32) (a2 : Int32) (a3 : Int32) (post : Int32 → vSt → Prop) (h : p_X11_drop   S a1 a2 a3 post) : Met l yX11_drop (v_ws yX11_drop cX11_drop 4 (some .int)) (v_rm 3 108) (v_Pc G [.ref (G.1 143), .int a1, .int a2, .int a3] S) (v_Qi G post) 0 0 (v_A G) := by
  refine v_start (by decide +kernel) (Nat.le_of_ble_eq_true rfl) (fun X hl C D => ?_)
  subst hl
  have C : v_Cx X G cX11_drop RX11 4 (v_rm 3 108) := C
  show VJ X G S 0 [(0, .ref (G.1 143)), (1, .int a1), (2, .int a2), (3, .int a3)] []
  refine V_aload_n C 0 dX11_drop_0 rfl rfl ?_
  refine V_iconst (v := 0) C dX11_drop_1 (by decide) ?_
  refine V_pi C 143 (by decide) (by decide) P_11_1 k_RX11_60 dX11_drop_2 ?_
  refine V_topS (fun S15 eS15 => ?_)
  have h := h S15 eS15
  refine V_aload_n C 0 dX11_drop_5 rfl rfl ?_
  refine V_iconst (v := 0) C dX11_drop_6 (by decide) ?_
  refine V_pi C 143 (by decide) (by decide) P_11_0 k_RX11_63 dX11_drop_7 ?_
  refine V_topS (fun S16 eS16 => ?_)
  have h := h S16 eS16
  refine V_aload_n C 0 dX11_drop_10 rfl rfl ?_
  refine V_iload_n C 1 dX11_drop_11 rfl rfl ?_
  refine V_iload_n C 2 dX11_drop_12 rfl rfl ?_
  refine V_callVz (As := [.int a1, .int a2]) (rest := []) C (c_X11_areBoth (v_l X) G  _ _ _ h) 143 11 (by decide) (by decide) (by decide) rfl KV_X11_areBoth k_RX11_335 rfl rfl rfl (Nat.le_of_ble_eq_true rfl) ⟨Nat.le_of_ble_eq_true rfl, Nat.le_of_ble_eq_true rfl⟩ dX11_drop_13 (fun r18 S17 h => ?_)
  refine V_ifb_ne (tgt := 25) C dX11_drop_16 (by decide) (fun c => ?_) (fun c => ?_)
  · have h := h.1 c
    refine V_iload_n C 3 dX11_drop_25 rfl rfl ?_
    refine V_i2l C dX11_drop_26 ?_
    refine V_lconst (v := 0) C dX11_drop_27 (by decide) ?_
    refine V_ldc2 (v := 9999) C k_RX11_354 dX11_drop_28 ?_
    refine V_callSz (As := [.long (Int32.toInt64 a3), .long 0, .long 9999]) (rest := []) C (c_X11_isIn (v_l X) G  _ _ _ _ h) KV_X11_isIn k_RX11_95 rfl rfl rfl (Nat.le_of_ble_eq_true rfl) ⟨Nat.le_of_ble_eq_true rfl, Nat.le_of_ble_eq_true rfl⟩ dX11_drop_31 (fun r20 S19 h => ?_)
    refine V_ifb_ne (tgt := 43) C dX11_drop_34 (by decide) (fun c => ?_) (fun c => ?_)
    · have h := h.1 c
      refine V_aload_n C 0 dX11_drop_43 rfl rfl ?_
      refine V_iload_n C 1 dX11_drop_44 rfl rfl ?_
      refine V_iload_n C 2 dX11_drop_45 rfl rfl ?_
      refine V_iload_n C 3 dX11_drop_46 rfl rfl ?_
      refine V_callVz (As := [.int a1, .int a2, .int a3]) (rest := []) C (c_X11_drops (v_l X) G  _ _ _ _ h) 143 11 (by decide) (by decide) (by decide) rfl KV_X11_drops k_RX11_359 rfl rfl rfl (Nat.le_of_ble_eq_true rfl) ⟨Nat.le_of_ble_eq_true rfl, Nat.le_of_ble_eq_true rfl⟩ dX11_drop_47 (fun r22 S21 h => ?_)
      refine V_ifb_eq (tgt := 65) C dX11_drop_50 (by decide) (fun c => ?_) (fun c => ?_)
      · have h := h.1 c
        refine V_aload_n C 0 dX11_drop_65 rfl rfl ?_
        refine V_bipush (v := 9) C dX11_drop_66 (by decide) ?_
        refine V_callVi (As := [.int 9]) (rest := []) C (c_X11_refuse (v_l X) G  _ _ h) 143 11 (by decide) (by decide) (by decide) rfl KV_X11_refuse k_RX11_303 rfl rfl rfl (Nat.le_of_ble_eq_true rfl) ⟨Nat.le_of_ble_eq_true rfl, Nat.le_of_ble_eq_true rfl⟩ dX11_drop_68 (fun r24 S23 h => ?_)
        exact V_iret C D dX11_drop_71 h
      · have h := h.2 c
        refine V_aload_n C 0 dX11_drop_53 rfl rfl ?_
        refine V_ga C 143 (by decide) (by decide) F_11_20 k_RX11_35 dX11_drop_54 ?_
        refine V_bipush (v := 8) C dX11_drop_57 (by decide) ?_
        refine V_iload_n C 1 dX11_drop_59 rfl rfl ?_
        refine V_iadd C dX11_drop_60 ?_
        obtain ⟨hi, h⟩ := h
        refine V_iald C 148 1900 (by decide) (by decide) hi dX11_drop_61 ?_
        refine V_goto (tgt := 71) C dX11_drop_62 (by decide) ?_
        exact V_iret C D dX11_drop_71 h
    · have h := h.2 c
      refine V_aload_n C 0 dX11_drop_37 rfl rfl ?_
      refine V_iconst (v := 5) C dX11_drop_38 (by decide) ?_
      refine V_callVi (As := [.int 5]) (rest := []) C (c_X11_refuse (v_l X) G  _ _ h) 143 11 (by decide) (by decide) (by decide) rfl KV_X11_refuse k_RX11_303 rfl rfl rfl (Nat.le_of_ble_eq_true rfl) ⟨Nat.le_of_ble_eq_true rfl, Nat.le_of_ble_eq_true rfl⟩ dX11_drop_39 (fun r26 S25 h => ?_)
      exact V_iret C D dX11_drop_42 h
  · have h := h.2 c
    refine V_aload_n C 0 dX11_drop_19 rfl rfl ?_
    refine V_iconst (v := 2) C dX11_drop_20 (by decide) ?_
    refine V_callVi (As := [.int 2]) (rest := []) C (c_X11_refuse (v_l X) G  _ _ h) 143 11 (by decide) (by decide) (by decide) rfl KV_X11_refuse k_RX11_303 rfl rfl rfl (Nat.le_of_ble_eq_true rfl) ⟨Nat.le_of_ble_eq_true rfl, Nat.le_of_ble_eq_true rfl⟩ dX11_drop_21 (fun r28 S27 h => ?_)
    exact V_iret C D dX11_drop_24 h
/-! HalfAccuserModel.opens(I)V -/
theorem dX11_opens_0 : decode cX11_opens 0 = .ok ((.aload_n 0), 1) := by decide +kernel
theorem dX11_opens_1 : decode cX11_opens 1 = .ok ((.getfield 35), 3) := by decide +kernel
theorem dX11_opens_4 : decode cX11_opens 4 = .ok ((.bipush 78), 2) := by decide +kernel
theorem dX11_opens_6 : decode cX11_opens 6 = .ok ((.iload_n 1), 1) := by decide +kernel
theorem dX11_opens_7 : decode cX11_opens 7 = .ok (.iadd, 1) := by decide +kernel
theorem dX11_opens_8 : decode cX11_opens 8 = .ok ((.iconst 0), 1) := by decide +kernel
theorem dX11_opens_9 : decode cX11_opens 9 = .ok (.iastore, 1) := by decide +kernel
theorem dX11_opens_10 : decode cX11_opens 10 = .ok ((.aload_n 0), 1) := by decide +kernel
theorem dX11_opens_11 : decode cX11_opens 11 = .ok ((.getfield 35), 3) := by decide +kernel
theorem dX11_opens_14 : decode cX11_opens 14 = .ok ((.bipush 88), 2) := by decide +kernel
theorem dX11_opens_16 : decode cX11_opens 16 = .ok ((.iload_n 1), 1) := by decide +kernel
theorem dX11_opens_17 : decode cX11_opens 17 = .ok (.iadd, 1) := by decide +kernel
theorem dX11_opens_18 : decode cX11_opens 18 = .ok ((.iconst (-1)), 1) := by decide +kernel
theorem dX11_opens_19 : decode cX11_opens 19 = .ok (.iastore, 1) := by decide +kernel
theorem dX11_opens_20 : decode cX11_opens 20 = .ok ((.aload_n 0), 1) := by decide +kernel
theorem dX11_opens_21 : decode cX11_opens 21 = .ok ((.getfield 35), 3) := by decide +kernel
theorem dX11_opens_24 : decode cX11_opens 24 = .ok ((.bipush 98), 2) := by decide +kernel
theorem dX11_opens_26 : decode cX11_opens 26 = .ok ((.iload_n 1), 1) := by decide +kernel
theorem dX11_opens_27 : decode cX11_opens 27 = .ok (.iadd, 1) := by decide +kernel
theorem dX11_opens_28 : decode cX11_opens 28 = .ok ((.iconst (-1)), 1) := by decide +kernel
theorem dX11_opens_29 : decode cX11_opens 29 = .ok (.iastore, 1) := by decide +kernel
theorem dX11_opens_30 : decode cX11_opens 30 = .ok ((.iconst 0), 1) := by decide +kernel
theorem dX11_opens_31 : decode cX11_opens 31 = .ok ((.istore_n 2), 1) := by decide +kernel
theorem dX11_opens_32 : decode cX11_opens 32 = .ok ((.iload_n 2), 1) := by decide +kernel
theorem dX11_opens_33 : decode cX11_opens 33 = .ok ((.bipush 8), 2) := by decide +kernel
theorem dX11_opens_35 : decode cX11_opens 35 = .ok ((.if_icmp .ge 26), 3) := by decide +kernel
theorem dX11_opens_38 : decode cX11_opens 38 = .ok ((.aload_n 0), 1) := by decide +kernel
theorem dX11_opens_39 : decode cX11_opens 39 = .ok ((.getfield 35), 3) := by decide +kernel
theorem dX11_opens_42 : decode cX11_opens 42 = .ok ((.bipush 40), 2) := by decide +kernel
theorem dX11_opens_44 : decode cX11_opens 44 = .ok ((.iload_n 2), 1) := by decide +kernel
theorem dX11_opens_45 : decode cX11_opens 45 = .ok (.iadd, 1) := by decide +kernel
theorem dX11_opens_46 : decode cX11_opens 46 = .ok (.dup2, 1) := by decide +kernel
theorem dX11_opens_47 : decode cX11_opens 47 = .ok (.iaload, 1) := by decide +kernel
theorem dX11_opens_48 : decode cX11_opens 48 = .ok ((.iconst 1), 1) := by decide +kernel
theorem dX11_opens_49 : decode cX11_opens 49 = .ok ((.iload_n 1), 1) := by decide +kernel
theorem dX11_opens_50 : decode cX11_opens 50 = .ok (.ishl, 1) := by decide +kernel
theorem dX11_opens_51 : decode cX11_opens 51 = .ok ((.iconst (-1)), 1) := by decide +kernel
theorem dX11_opens_52 : decode cX11_opens 52 = .ok (.ixor, 1) := by decide +kernel
theorem dX11_opens_53 : decode cX11_opens 53 = .ok (.iand, 1) := by decide +kernel
theorem dX11_opens_54 : decode cX11_opens 54 = .ok (.iastore, 1) := by decide +kernel
theorem dX11_opens_55 : decode cX11_opens 55 = .ok ((.iinc 2 1), 3) := by decide +kernel
theorem dX11_opens_58 : decode cX11_opens 58 = .ok ((.goto (-26)), 3) := by decide +kernel
theorem dX11_opens_61 : decode cX11_opens 61 = .ok (.return_, 1) := by decide +kernel
def p_X11_opens_32  (a1 : Int32)   (post : vSt → Prop) : Nat → vSt → Int32 → Prop
  | 0 => fun _ _ => False
  | fu32 + 1 => fun S x2 => ((8 ≤ x2 → post S) ∧ (¬ 8 ≤ x2 → (vp_in (40 + x2) 1900 ∧ (vp_in (40 + x2) 1900 ∧ ∀ S11, S11 = v_si S 148 (Int32.toNatClampNeg (40 + x2)) ((S.1 148 (Int32.toNatClampNeg (40 + x2))) &&& ((1 <<< (a1 &&& 31)) ^^^ (-1))) → ∀ y12 : Int32, y12 = x2 + 1 → (p_X11_opens_32 a1 post fu32) S11 y12))))
theorem e_X11_opens_32  (a1 : Int32)   (post : vSt → Prop) (fu32 : Nat) (S : vSt) (x2 : Int32) : p_X11_opens_32 a1 post (fu32 + 1) S x2 = (((8 ≤ x2 → post S) ∧ (¬ 8 ≤ x2 → (vp_in (40 + x2) 1900 ∧ (vp_in (40 + x2) 1900 ∧ ∀ S11, S11 = v_si S 148 (Int32.toNatClampNeg (40 + x2)) ((S.1 148 (Int32.toNatClampNeg (40 + x2))) &&& ((1 <<< (a1 &&& 31)) ^^^ (-1))) → ∀ y12 : Int32, y12 = x2 + 1 → (p_X11_opens_32 a1 post fu32) S11 y12))))) := rfl
def p_X11_opens   (S : vSt) (a1 : Int32) (post : vSt → Prop) : Prop := (vp_in (78 + a1) 1900 ∧ ∀ S8, S8 = v_si S 148 (Int32.toNatClampNeg (78 + a1)) 0 → (vp_in (88 + a1) 1900 ∧ ∀ S9, S9 = v_si S8 148 (Int32.toNatClampNeg (88 + a1)) (-1) → (vp_in (98 + a1) 1900 ∧ ∀ S10, S10 = v_si S9 148 (Int32.toNatClampNeg (98 + a1)) (-1) → ∃ fu32, p_X11_opens_32 a1 post fu32 S10 0)))
set_option maxHeartbeats 4000000 in
set_option maxRecDepth 100000 in
theorem q_X11_opens_32 {X : vX} {G : vG}  {post : vSt → Prop} (C : v_Cx X G cX11_opens RX11 3 (v_rm 0 40)) (D : v_Rx X G (v_Qv G post) none)  {a1 : Int32}   : ∀ (fu : Nat) (S : vSt) (x2 : Int32), p_X11_opens_32 a1 post fu S x2 → VJ X G S 32 [(0, .ref (G.1 143)), (1, .int a1), (2, .int x2)] [] := by
  intro fu
  induction fu with
  | zero => intro S x2 h; exact absurd h id
  | succ fu ih =>
    intro S x2 h
    have hK32 := ih
    rw [e_X11_opens_32] at h
    refine V_iload_n C 2 dX11_opens_32 rfl rfl ?_
    refine V_bipush (v := 8) C dX11_opens_33 (by decide) ?_
    refine V_icmp_ge (tgt := 61) C dX11_opens_35 (by decide) (fun c => ?_) (fun c => ?_)
    · have h := h.1 c
      exact V_vret C D dX11_opens_61 h
    · have h := h.2 c
      refine V_aload_n C 0 dX11_opens_38 rfl rfl ?_
      refine V_ga C 143 (by decide) (by decide) F_11_20 k_RX11_35 dX11_opens_39 ?_
      refine V_bipush (v := 40) C dX11_opens_42 (by decide) ?_
      refine V_iload_n C 2 dX11_opens_44 rfl rfl ?_
      refine V_iadd C dX11_opens_45 ?_
      refine V_dup2_11 C dX11_opens_46 rfl rfl ?_
      obtain ⟨hi, h⟩ := h
      refine V_iald C 148 1900 (by decide) (by decide) hi dX11_opens_47 ?_
      refine V_iconst (v := 1) C dX11_opens_48 (by decide) ?_
      refine V_iload_n C 1 dX11_opens_49 rfl rfl ?_
      refine V_ishl C dX11_opens_50 ?_
      refine V_iconst (v := (-1)) C dX11_opens_51 (by decide) ?_
      refine V_ixor C dX11_opens_52 ?_
      refine V_iand C dX11_opens_53 ?_
      obtain ⟨hi, h⟩ := h
      refine V_iast C 148 1900 (by decide) (by decide) hi dX11_opens_54 ?_
      refine V_topS (fun S11 eS11 => ?_)
      have h := h S11 eS11
      obtain ⟨y12, ey12⟩ : ∃ z : Int32, z = x2 + 1 := ⟨_, rfl⟩
      have h := h y12 ey12
      refine V_iinc (lv' := [(0, .ref (G.1 143)), (1, .int a1), (2, .int y12)]) C 2 [1, 2, 0] y12 dX11_opens_55 rfl (by rw [ey12]; rfl) (by decide) rfl ?_
      refine V_goto (tgt := 32) C dX11_opens_58 (by decide) ?_
      exact hK32 _ _ h
set_option maxHeartbeats 4000000 in
set_option maxRecDepth 100000 in
theorem c_X11_opens (l : Launch) (G : vG)    {S : vSt} (a1 : Int32) (post : vSt → Prop) (h : p_X11_opens   S a1 post) : Met l yX11_opens (v_ws yX11_opens cX11_opens 3 none) (v_rm 0 40) (v_Pc G [.ref (G.1 143), .int a1] S) (v_Qv G post) 0 0 (v_A G) := by
  refine v_start (by decide +kernel) (Nat.le_of_ble_eq_true rfl) (fun X hl C D => ?_)
  subst hl
  have C : v_Cx X G cX11_opens RX11 3 (v_rm 0 40) := C
  show VJ X G S 0 [(0, .ref (G.1 143)), (1, .int a1)] []
  refine V_aload_n C 0 dX11_opens_0 rfl rfl ?_
  refine V_ga C 143 (by decide) (by decide) F_11_20 k_RX11_35 dX11_opens_1 ?_
  refine V_bipush (v := 78) C dX11_opens_4 (by decide) ?_
  refine V_iload_n C 1 dX11_opens_6 rfl rfl ?_
  refine V_iadd C dX11_opens_7 ?_
  refine V_iconst (v := 0) C dX11_opens_8 (by decide) ?_
  obtain ⟨hi, h⟩ := h
  refine V_iast C 148 1900 (by decide) (by decide) hi dX11_opens_9 ?_
  refine V_topS (fun S8 eS8 => ?_)
  have h := h S8 eS8
  refine V_aload_n C 0 dX11_opens_10 rfl rfl ?_
  refine V_ga C 143 (by decide) (by decide) F_11_20 k_RX11_35 dX11_opens_11 ?_
  refine V_bipush (v := 88) C dX11_opens_14 (by decide) ?_
  refine V_iload_n C 1 dX11_opens_16 rfl rfl ?_
  refine V_iadd C dX11_opens_17 ?_
  refine V_iconst (v := (-1)) C dX11_opens_18 (by decide) ?_
  obtain ⟨hi, h⟩ := h
  refine V_iast C 148 1900 (by decide) (by decide) hi dX11_opens_19 ?_
  refine V_topS (fun S9 eS9 => ?_)
  have h := h S9 eS9
  refine V_aload_n C 0 dX11_opens_20 rfl rfl ?_
  refine V_ga C 143 (by decide) (by decide) F_11_20 k_RX11_35 dX11_opens_21 ?_
  refine V_bipush (v := 98) C dX11_opens_24 (by decide) ?_
  refine V_iload_n C 1 dX11_opens_26 rfl rfl ?_
  refine V_iadd C dX11_opens_27 ?_
  refine V_iconst (v := (-1)) C dX11_opens_28 (by decide) ?_
  obtain ⟨hi, h⟩ := h
  refine V_iast C 148 1900 (by decide) (by decide) hi dX11_opens_29 ?_
  refine V_topS (fun S10 eS10 => ?_)
  have h := h S10 eS10
  refine V_iconst (v := 0) C dX11_opens_30 (by decide) ?_
  refine V_istore_n (lv' := [(0, .ref (G.1 143)), (1, .int a1), (2, .int 0)]) C [1, 2, 0] dX11_opens_31 rfl (by decide) rfl ?_
  obtain ⟨fu32, h⟩ := h
  exact q_X11_opens_32 C D  fu32 _ _ h
/-! HalfAccuserModel.commit(III)I -/
theorem dX11_commit_0 : decode cX11_commit 0 = .ok ((.aload_n 0), 1) := by decide +kernel
theorem dX11_commit_1 : decode cX11_commit 1 = .ok ((.iconst 0), 1) := by decide +kernel
theorem dX11_commit_2 : decode cX11_commit 2 = .ok ((.putfield 60), 3) := by decide +kernel
theorem dX11_commit_5 : decode cX11_commit 5 = .ok ((.aload_n 0), 1) := by decide +kernel
theorem dX11_commit_6 : decode cX11_commit 6 = .ok ((.iconst 0), 1) := by decide +kernel
theorem dX11_commit_7 : decode cX11_commit 7 = .ok ((.putfield 63), 3) := by decide +kernel
theorem dX11_commit_10 : decode cX11_commit 10 = .ok ((.aload_n 0), 1) := by decide +kernel
theorem dX11_commit_11 : decode cX11_commit 11 = .ok ((.iload_n 1), 1) := by decide +kernel
theorem dX11_commit_12 : decode cX11_commit 12 = .ok ((.invokevirtual 289), 3) := by decide +kernel
theorem dX11_commit_15 : decode cX11_commit 15 = .ok ((.ifCond .ne 9), 3) := by decide +kernel
theorem dX11_commit_18 : decode cX11_commit 18 = .ok ((.aload_n 0), 1) := by decide +kernel
theorem dX11_commit_19 : decode cX11_commit 19 = .ok ((.iconst 2), 1) := by decide +kernel
theorem dX11_commit_20 : decode cX11_commit 20 = .ok ((.invokevirtual 303), 3) := by decide +kernel
theorem dX11_commit_23 : decode cX11_commit 23 = .ok (.ireturn, 1) := by decide +kernel
theorem dX11_commit_24 : decode cX11_commit 24 = .ok ((.iload_n 2), 1) := by decide +kernel
theorem dX11_commit_25 : decode cX11_commit 25 = .ok (.i2l, 1) := by decide +kernel
theorem dX11_commit_26 : decode cX11_commit 26 = .ok ((.lconst 1), 1) := by decide +kernel
theorem dX11_commit_27 : decode cX11_commit 27 = .ok ((.ldc2_w 363), 3) := by decide +kernel
theorem dX11_commit_30 : decode cX11_commit 30 = .ok ((.invokestatic 95), 3) := by decide +kernel
theorem dX11_commit_33 : decode cX11_commit 33 = .ok ((.ifCond .eq 15), 3) := by decide +kernel
theorem dX11_commit_36 : decode cX11_commit 36 = .ok ((.iload_n 3), 1) := by decide +kernel
theorem dX11_commit_37 : decode cX11_commit 37 = .ok (.i2l, 1) := by decide +kernel
theorem dX11_commit_38 : decode cX11_commit 38 = .ok ((.lconst 0), 1) := by decide +kernel
theorem dX11_commit_39 : decode cX11_commit 39 = .ok ((.ldc2_w 365), 3) := by decide +kernel
theorem dX11_commit_42 : decode cX11_commit 42 = .ok ((.invokestatic 95), 3) := by decide +kernel
theorem dX11_commit_45 : decode cX11_commit 45 = .ok ((.ifCond .ne 9), 3) := by decide +kernel
theorem dX11_commit_48 : decode cX11_commit 48 = .ok ((.aload_n 0), 1) := by decide +kernel
theorem dX11_commit_49 : decode cX11_commit 49 = .ok ((.iconst 5), 1) := by decide +kernel
theorem dX11_commit_50 : decode cX11_commit 50 = .ok ((.invokevirtual 303), 3) := by decide +kernel
theorem dX11_commit_53 : decode cX11_commit 53 = .ok (.ireturn, 1) := by decide +kernel
theorem dX11_commit_54 : decode cX11_commit 54 = .ok ((.aload_n 0), 1) := by decide +kernel
theorem dX11_commit_55 : decode cX11_commit 55 = .ok ((.getfield 35), 3) := by decide +kernel
theorem dX11_commit_58 : decode cX11_commit 58 = .ok ((.iconst 1), 1) := by decide +kernel
theorem dX11_commit_59 : decode cX11_commit 59 = .ok (.iaload, 1) := by decide +kernel
theorem dX11_commit_60 : decode cX11_commit 60 = .ok ((.bipush 10), 2) := by decide +kernel
theorem dX11_commit_62 : decode cX11_commit 62 = .ok ((.if_icmp .ne 10), 3) := by decide +kernel
theorem dX11_commit_65 : decode cX11_commit 65 = .ok ((.aload_n 0), 1) := by decide +kernel
theorem dX11_commit_66 : decode cX11_commit 66 = .ok ((.bipush 7), 2) := by decide +kernel
theorem dX11_commit_68 : decode cX11_commit 68 = .ok ((.invokevirtual 303), 3) := by decide +kernel
theorem dX11_commit_71 : decode cX11_commit 71 = .ok (.ireturn, 1) := by decide +kernel
theorem dX11_commit_72 : decode cX11_commit 72 = .ok ((.aload_n 0), 1) := by decide +kernel
theorem dX11_commit_73 : decode cX11_commit 73 = .ok ((.getfield 35), 3) := by decide +kernel
theorem dX11_commit_76 : decode cX11_commit 76 = .ok ((.iconst 1), 1) := by decide +kernel
theorem dX11_commit_77 : decode cX11_commit 77 = .ok (.iaload, 1) := by decide +kernel
theorem dX11_commit_78 : decode cX11_commit 78 = .ok ((.istore 4), 2) := by decide +kernel
theorem dX11_commit_80 : decode cX11_commit 80 = .ok ((.aload_n 0), 1) := by decide +kernel
theorem dX11_commit_81 : decode cX11_commit 81 = .ok ((.getfield 41), 3) := by decide +kernel
theorem dX11_commit_84 : decode cX11_commit 84 = .ok ((.bipush 8), 2) := by decide +kernel
theorem dX11_commit_86 : decode cX11_commit 86 = .ok ((.iload 4), 2) := by decide +kernel
theorem dX11_commit_88 : decode cX11_commit 88 = .ok (.iadd, 1) := by decide +kernel
theorem dX11_commit_89 : decode cX11_commit 89 = .ok ((.lconst 0), 1) := by decide +kernel
theorem dX11_commit_90 : decode cX11_commit 90 = .ok (.lastore, 1) := by decide +kernel
theorem dX11_commit_91 : decode cX11_commit 91 = .ok ((.aload_n 0), 1) := by decide +kernel
theorem dX11_commit_92 : decode cX11_commit 92 = .ok ((.getfield 35), 3) := by decide +kernel
theorem dX11_commit_95 : decode cX11_commit 95 = .ok ((.iconst 1), 1) := by decide +kernel
theorem dX11_commit_96 : decode cX11_commit 96 = .ok (.dup2, 1) := by decide +kernel
theorem dX11_commit_97 : decode cX11_commit 97 = .ok (.iaload, 1) := by decide +kernel
theorem dX11_commit_98 : decode cX11_commit 98 = .ok ((.iconst 1), 1) := by decide +kernel
theorem dX11_commit_99 : decode cX11_commit 99 = .ok (.iadd, 1) := by decide +kernel
theorem dX11_commit_100 : decode cX11_commit 100 = .ok (.iastore, 1) := by decide +kernel
theorem dX11_commit_101 : decode cX11_commit 101 = .ok ((.aload_n 0), 1) := by decide +kernel
theorem dX11_commit_102 : decode cX11_commit 102 = .ok ((.getfield 35), 3) := by decide +kernel
theorem dX11_commit_105 : decode cX11_commit 105 = .ok ((.bipush 48), 2) := by decide +kernel
theorem dX11_commit_107 : decode cX11_commit 107 = .ok ((.iload 4), 2) := by decide +kernel
theorem dX11_commit_109 : decode cX11_commit 109 = .ok (.iadd, 1) := by decide +kernel
theorem dX11_commit_110 : decode cX11_commit 110 = .ok ((.iload_n 1), 1) := by decide +kernel
theorem dX11_commit_111 : decode cX11_commit 111 = .ok (.iastore, 1) := by decide +kernel
theorem dX11_commit_112 : decode cX11_commit 112 = .ok ((.aload_n 0), 1) := by decide +kernel
theorem dX11_commit_113 : decode cX11_commit 113 = .ok ((.getfield 35), 3) := by decide +kernel
theorem dX11_commit_116 : decode cX11_commit 116 = .ok ((.bipush 58), 2) := by decide +kernel
theorem dX11_commit_118 : decode cX11_commit 118 = .ok ((.iload 4), 2) := by decide +kernel
theorem dX11_commit_120 : decode cX11_commit 120 = .ok (.iadd, 1) := by decide +kernel
theorem dX11_commit_121 : decode cX11_commit 121 = .ok ((.iload_n 2), 1) := by decide +kernel
theorem dX11_commit_122 : decode cX11_commit 122 = .ok (.iastore, 1) := by decide +kernel
theorem dX11_commit_123 : decode cX11_commit 123 = .ok ((.aload_n 0), 1) := by decide +kernel
theorem dX11_commit_124 : decode cX11_commit 124 = .ok ((.getfield 35), 3) := by decide +kernel
theorem dX11_commit_127 : decode cX11_commit 127 = .ok ((.bipush 68), 2) := by decide +kernel
theorem dX11_commit_129 : decode cX11_commit 129 = .ok ((.iload 4), 2) := by decide +kernel
theorem dX11_commit_131 : decode cX11_commit 131 = .ok (.iadd, 1) := by decide +kernel
theorem dX11_commit_132 : decode cX11_commit 132 = .ok ((.iload_n 3), 1) := by decide +kernel
theorem dX11_commit_133 : decode cX11_commit 133 = .ok (.iastore, 1) := by decide +kernel
theorem dX11_commit_134 : decode cX11_commit 134 = .ok ((.aload_n 0), 1) := by decide +kernel
theorem dX11_commit_135 : decode cX11_commit 135 = .ok ((.iload 4), 2) := by decide +kernel
theorem dX11_commit_137 : decode cX11_commit 137 = .ok ((.invokevirtual 367), 3) := by decide +kernel
theorem dX11_commit_140 : decode cX11_commit 140 = .ok ((.iload 4), 2) := by decide +kernel
theorem dX11_commit_142 : decode cX11_commit 142 = .ok (.ireturn, 1) := by decide +kernel
def p_X11_commit_48  (a1 : Int32) (a2 : Int32) (a3 : Int32)   (post : Int32 → vSt → Prop) (S : vSt)  : Prop := p_X11_refuse  S 5 (fun r29 S28 => post r29 S28)
def p_X11_commit   (S : vSt) (a1 : Int32) (a2 : Int32) (a3 : Int32) (post : Int32 → vSt → Prop) : Prop := ∀ S22, S22 = v_si S 143 1 0 → ∀ S23, S23 = v_si S22 143 0 0 → p_X11_isOne  S23 a1 (fun r25 S24 => ((r25 = true → p_X11_isIn  S24 (Int32.toInt64 a2) 1 999 (fun r27 S26 => ((r27 = false → p_X11_commit_48 a1 a2 a3 post S26 ) ∧ (r27 = true → p_X11_isIn  S26 (Int32.toInt64 a3) 0 16 (fun r29 S28 => ((r29 = true → (vp_in 1 1900 ∧ ((¬ (S28.1 148 (Int32.toNatClampNeg 1)) = 10 → (vp_in 1 1900 ∧ ∀ y30 : Int32, y30 = (S28.1 148 (Int32.toNatClampNeg 1)) → (vp_in (8 + y30) 90 ∧ ∀ S31, S31 = v_sl S28 150 (Int32.toNatClampNeg (8 + y30)) 0 → (vp_in 1 1900 ∧ (vp_in 1 1900 ∧ ∀ S32, S32 = v_si S31 148 (Int32.toNatClampNeg 1) ((S31.1 148 (Int32.toNatClampNeg 1)) + 1) → (vp_in (48 + y30) 1900 ∧ ∀ S33, S33 = v_si S32 148 (Int32.toNatClampNeg (48 + y30)) a1 → (vp_in (58 + y30) 1900 ∧ ∀ S34, S34 = v_si S33 148 (Int32.toNatClampNeg (58 + y30)) a2 → (vp_in (68 + y30) 1900 ∧ ∀ S35, S35 = v_si S34 148 (Int32.toNatClampNeg (68 + y30)) a3 → p_X11_opens  S35 y30 (fun S36 => post y30 S36))))))))) ∧ ((S28.1 148 (Int32.toNatClampNeg 1)) = 10 → p_X11_refuse  S28 7 (fun r38 S37 => post r38 S37))))) ∧ (r29 = false → p_X11_commit_48 a1 a2 a3 post S28 ))))))) ∧ (r25 = false → p_X11_refuse  S24 2 (fun r40 S39 => post r40 S39))))
set_option maxHeartbeats 4000000 in
set_option maxRecDepth 100000 in
theorem q_X11_commit_48 {X : vX} {G : vG}  {post : Int32 → vSt → Prop} (C : v_Cx X G cX11_commit RX11 5 (v_rm 2 86)) (D : v_Rx X G (v_Qi G post) (some .int))  {a1 : Int32} {a2 : Int32} {a3 : Int32}   : ∀ (S : vSt), p_X11_commit_48 a1 a2 a3 post S  → VJ X G S 48 [(0, .ref (G.1 143))] [] := by
  intro S  h
  refine V_aload_n C 0 dX11_commit_48 rfl rfl ?_
  refine V_iconst (v := 5) C dX11_commit_49 (by decide) ?_
  refine V_callVi (As := [.int 5]) (rest := []) C (c_X11_refuse (v_l X) G  _ _ h) 143 11 (by decide) (by decide) (by decide) rfl KV_X11_refuse k_RX11_303 rfl rfl rfl (Nat.le_of_ble_eq_true rfl) ⟨Nat.le_of_ble_eq_true rfl, Nat.le_of_ble_eq_true rfl⟩ dX11_commit_50 (fun r29 S28 h => ?_)
  exact V_iret C D dX11_commit_53 h
set_option maxHeartbeats 4000000 in
set_option maxRecDepth 100000 in
theorem c_X11_commit (l : Launch) (G : vG)    {S : vSt} (a1 : Int32) (a2 : Int32) (a3 : Int32) (post : Int32 → vSt → Prop) (h : p_X11_commit   S a1 a2 a3 post) : Met l yX11_commit (v_ws yX11_commit cX11_commit 5 (some .int)) (v_rm 2 86) (v_Pc G [.ref (G.1 143), .int a1, .int a2, .int a3] S) (v_Qi G post) 0 0 (v_A G) := by
  refine v_start (by decide +kernel) (Nat.le_of_ble_eq_true rfl) (fun X hl C D => ?_)
  subst hl
  have C : v_Cx X G cX11_commit RX11 5 (v_rm 2 86) := C
  show VJ X G S 0 [(0, .ref (G.1 143)), (1, .int a1), (2, .int a2), (3, .int a3)] []
  refine V_aload_n C 0 dX11_commit_0 rfl rfl ?_
  refine V_iconst (v := 0) C dX11_commit_1 (by decide) ?_
  refine V_pi C 143 (by decide) (by decide) P_11_1 k_RX11_60 dX11_commit_2 ?_
  refine V_topS (fun S22 eS22 => ?_)
  have h := h S22 eS22
  refine V_aload_n C 0 dX11_commit_5 rfl rfl ?_
  refine V_iconst (v := 0) C dX11_commit_6 (by decide) ?_
  refine V_pi C 143 (by decide) (by decide) P_11_0 k_RX11_63 dX11_commit_7 ?_
  refine V_topS (fun S23 eS23 => ?_)
  have h := h S23 eS23
  refine V_aload_n C 0 dX11_commit_10 rfl rfl ?_
  refine V_iload_n C 1 dX11_commit_11 rfl rfl ?_
  refine V_callVz (As := [.int a1]) (rest := []) C (c_X11_isOne (v_l X) G  _ _ h) 143 11 (by decide) (by decide) (by decide) rfl KV_X11_isOne k_RX11_289 rfl rfl rfl (Nat.le_of_ble_eq_true rfl) ⟨Nat.le_of_ble_eq_true rfl, Nat.le_of_ble_eq_true rfl⟩ dX11_commit_12 (fun r25 S24 h => ?_)
  refine V_ifb_ne (tgt := 24) C dX11_commit_15 (by decide) (fun c => ?_) (fun c => ?_)
  · have h := h.1 c
    refine V_iload_n C 2 dX11_commit_24 rfl rfl ?_
    refine V_i2l C dX11_commit_25 ?_
    refine V_lconst (v := 1) C dX11_commit_26 (by decide) ?_
    refine V_ldc2 (v := 999) C k_RX11_363 dX11_commit_27 ?_
    refine V_callSz (As := [.long (Int32.toInt64 a2), .long 1, .long 999]) (rest := []) C (c_X11_isIn (v_l X) G  _ _ _ _ h) KV_X11_isIn k_RX11_95 rfl rfl rfl (Nat.le_of_ble_eq_true rfl) ⟨Nat.le_of_ble_eq_true rfl, Nat.le_of_ble_eq_true rfl⟩ dX11_commit_30 (fun r27 S26 h => ?_)
    refine V_ifb_eq (tgt := 48) C dX11_commit_33 (by decide) (fun c => ?_) (fun c => ?_)
    · have h := h.1 c
      refine V_loc (lv' := [(0, .ref (G.1 143))]) [0] rfl ?_
      exact q_X11_commit_48 C D  _ h
    · have h := h.2 c
      refine V_iload_n C 3 dX11_commit_36 rfl rfl ?_
      refine V_i2l C dX11_commit_37 ?_
      refine V_lconst (v := 0) C dX11_commit_38 (by decide) ?_
      refine V_ldc2 (v := 16) C k_RX11_365 dX11_commit_39 ?_
      refine V_callSz (As := [.long (Int32.toInt64 a3), .long 0, .long 16]) (rest := []) C (c_X11_isIn (v_l X) G  _ _ _ _ h) KV_X11_isIn k_RX11_95 rfl rfl rfl (Nat.le_of_ble_eq_true rfl) ⟨Nat.le_of_ble_eq_true rfl, Nat.le_of_ble_eq_true rfl⟩ dX11_commit_42 (fun r29 S28 h => ?_)
      refine V_ifb_ne (tgt := 54) C dX11_commit_45 (by decide) (fun c => ?_) (fun c => ?_)
      · have h := h.1 c
        refine V_aload_n C 0 dX11_commit_54 rfl rfl ?_
        refine V_ga C 143 (by decide) (by decide) F_11_20 k_RX11_35 dX11_commit_55 ?_
        refine V_iconst (v := 1) C dX11_commit_58 (by decide) ?_
        obtain ⟨hi, h⟩ := h
        refine V_iald C 148 1900 (by decide) (by decide) hi dX11_commit_59 ?_
        refine V_bipush (v := 10) C dX11_commit_60 (by decide) ?_
        refine V_icmp_ne (tgt := 72) C dX11_commit_62 (by decide) (fun c => ?_) (fun c => ?_)
        · have h := h.1 c
          refine V_aload_n C 0 dX11_commit_72 rfl rfl ?_
          refine V_ga C 143 (by decide) (by decide) F_11_20 k_RX11_35 dX11_commit_73 ?_
          refine V_iconst (v := 1) C dX11_commit_76 (by decide) ?_
          obtain ⟨hi, h⟩ := h
          refine V_iald C 148 1900 (by decide) (by decide) hi dX11_commit_77 ?_
          refine V_topi (fun y30 ey30 => ?_)
          have h := h y30 ey30
          refine V_istore (lv' := [(0, .ref (G.1 143)), (1, .int a1), (2, .int a2), (3, .int a3), (4, .int y30)]) C [1, 2, 3, 4, 0] dX11_commit_78 (by decide) rfl ?_
          refine V_aload_n C 0 dX11_commit_80 rfl rfl ?_
          refine V_ga C 143 (by decide) (by decide) F_11_22 k_RX11_41 dX11_commit_81 ?_
          refine V_bipush (v := 8) C dX11_commit_84 (by decide) ?_
          refine V_iload C 4 dX11_commit_86 rfl ?_
          refine V_iadd C dX11_commit_88 ?_
          refine V_lconst (v := 0) C dX11_commit_89 (by decide) ?_
          obtain ⟨hi, h⟩ := h
          refine V_last C 150 90 (by decide) (by decide) hi dX11_commit_90 ?_
          refine V_topS (fun S31 eS31 => ?_)
          have h := h S31 eS31
          refine V_aload_n C 0 dX11_commit_91 rfl rfl ?_
          refine V_ga C 143 (by decide) (by decide) F_11_20 k_RX11_35 dX11_commit_92 ?_
          refine V_iconst (v := 1) C dX11_commit_95 (by decide) ?_
          refine V_dup2_11 C dX11_commit_96 rfl rfl ?_
          obtain ⟨hi, h⟩ := h
          refine V_iald C 148 1900 (by decide) (by decide) hi dX11_commit_97 ?_
          refine V_iconst (v := 1) C dX11_commit_98 (by decide) ?_
          refine V_iadd C dX11_commit_99 ?_
          obtain ⟨hi, h⟩ := h
          refine V_iast C 148 1900 (by decide) (by decide) hi dX11_commit_100 ?_
          refine V_topS (fun S32 eS32 => ?_)
          have h := h S32 eS32
          refine V_aload_n C 0 dX11_commit_101 rfl rfl ?_
          refine V_ga C 143 (by decide) (by decide) F_11_20 k_RX11_35 dX11_commit_102 ?_
          refine V_bipush (v := 48) C dX11_commit_105 (by decide) ?_
          refine V_iload C 4 dX11_commit_107 rfl ?_
          refine V_iadd C dX11_commit_109 ?_
          refine V_iload_n C 1 dX11_commit_110 rfl rfl ?_
          obtain ⟨hi, h⟩ := h
          refine V_iast C 148 1900 (by decide) (by decide) hi dX11_commit_111 ?_
          refine V_topS (fun S33 eS33 => ?_)
          have h := h S33 eS33
          refine V_aload_n C 0 dX11_commit_112 rfl rfl ?_
          refine V_ga C 143 (by decide) (by decide) F_11_20 k_RX11_35 dX11_commit_113 ?_
          refine V_bipush (v := 58) C dX11_commit_116 (by decide) ?_
          refine V_iload C 4 dX11_commit_118 rfl ?_
          refine V_iadd C dX11_commit_120 ?_
          refine V_iload_n C 2 dX11_commit_121 rfl rfl ?_
          obtain ⟨hi, h⟩ := h
          refine V_iast C 148 1900 (by decide) (by decide) hi dX11_commit_122 ?_
          refine V_topS (fun S34 eS34 => ?_)
          have h := h S34 eS34
          refine V_aload_n C 0 dX11_commit_123 rfl rfl ?_
          refine V_ga C 143 (by decide) (by decide) F_11_20 k_RX11_35 dX11_commit_124 ?_
          refine V_bipush (v := 68) C dX11_commit_127 (by decide) ?_
          refine V_iload C 4 dX11_commit_129 rfl ?_
          refine V_iadd C dX11_commit_131 ?_
          refine V_iload_n C 3 dX11_commit_132 rfl rfl ?_
          obtain ⟨hi, h⟩ := h
          refine V_iast C 148 1900 (by decide) (by decide) hi dX11_commit_133 ?_
          refine V_topS (fun S35 eS35 => ?_)
          have h := h S35 eS35
          refine V_aload_n C 0 dX11_commit_134 rfl rfl ?_
          refine V_iload C 4 dX11_commit_135 rfl ?_
          refine V_callVv (As := [.int y30]) (rest := []) C (c_X11_opens (v_l X) G  _ _ h) 143 11 (by decide) (by decide) (by decide) rfl KV_X11_opens k_RX11_367 rfl rfl rfl (Nat.le_of_ble_eq_true rfl) ⟨Nat.le_of_ble_eq_true rfl, Nat.le_of_ble_eq_true rfl⟩ dX11_commit_137 (fun S36 h => ?_)
          refine V_iload C 4 dX11_commit_140 rfl ?_
          exact V_iret C D dX11_commit_142 h
        · have h := h.2 c
          refine V_aload_n C 0 dX11_commit_65 rfl rfl ?_
          refine V_bipush (v := 7) C dX11_commit_66 (by decide) ?_
          refine V_callVi (As := [.int 7]) (rest := []) C (c_X11_refuse (v_l X) G  _ _ h) 143 11 (by decide) (by decide) (by decide) rfl KV_X11_refuse k_RX11_303 rfl rfl rfl (Nat.le_of_ble_eq_true rfl) ⟨Nat.le_of_ble_eq_true rfl, Nat.le_of_ble_eq_true rfl⟩ dX11_commit_68 (fun r38 S37 h => ?_)
          exact V_iret C D dX11_commit_71 h
      · have h := h.2 c
        refine V_loc (lv' := [(0, .ref (G.1 143))]) [0] rfl ?_
        exact q_X11_commit_48 C D  _ h
  · have h := h.2 c
    refine V_aload_n C 0 dX11_commit_18 rfl rfl ?_
    refine V_iconst (v := 2) C dX11_commit_19 (by decide) ?_
    refine V_callVi (As := [.int 2]) (rest := []) C (c_X11_refuse (v_l X) G  _ _ h) 143 11 (by decide) (by decide) (by decide) rfl KV_X11_refuse k_RX11_303 rfl rfl rfl (Nat.le_of_ble_eq_true rfl) ⟨Nat.le_of_ble_eq_true rfl, Nat.le_of_ble_eq_true rfl⟩ dX11_commit_20 (fun r40 S39 h => ?_)
    exact V_iret C D dX11_commit_23 h
/-! HalfAccuserModel.reopen(I)Z -/
theorem dX11_reopen_0 : decode cX11_reopen 0 = .ok ((.aload_n 0), 1) := by decide +kernel
theorem dX11_reopen_1 : decode cX11_reopen 1 = .ok ((.iconst 0), 1) := by decide +kernel
theorem dX11_reopen_2 : decode cX11_reopen 2 = .ok ((.putfield 60), 3) := by decide +kernel
theorem dX11_reopen_5 : decode cX11_reopen 5 = .ok ((.aload_n 0), 1) := by decide +kernel
theorem dX11_reopen_6 : decode cX11_reopen 6 = .ok ((.iconst 0), 1) := by decide +kernel
theorem dX11_reopen_7 : decode cX11_reopen 7 = .ok ((.putfield 63), 3) := by decide +kernel
theorem dX11_reopen_10 : decode cX11_reopen 10 = .ok ((.aload_n 0), 1) := by decide +kernel
theorem dX11_reopen_11 : decode cX11_reopen 11 = .ok ((.iload_n 1), 1) := by decide +kernel
theorem dX11_reopen_12 : decode cX11_reopen 12 = .ok ((.invokevirtual 292), 3) := by decide +kernel
theorem dX11_reopen_15 : decode cX11_reopen 15 = .ok ((.ifCond .ne 9), 3) := by decide +kernel
theorem dX11_reopen_18 : decode cX11_reopen 18 = .ok ((.aload_n 0), 1) := by decide +kernel
theorem dX11_reopen_19 : decode cX11_reopen 19 = .ok ((.iconst 2), 1) := by decide +kernel
theorem dX11_reopen_20 : decode cX11_reopen 20 = .ok ((.invokevirtual 75), 3) := by decide +kernel
theorem dX11_reopen_23 : decode cX11_reopen 23 = .ok (.ireturn, 1) := by decide +kernel
theorem dX11_reopen_24 : decode cX11_reopen 24 = .ok ((.aload_n 0), 1) := by decide +kernel
theorem dX11_reopen_25 : decode cX11_reopen 25 = .ok ((.iload_n 1), 1) := by decide +kernel
theorem dX11_reopen_26 : decode cX11_reopen 26 = .ok ((.invokevirtual 295), 3) := by decide +kernel
theorem dX11_reopen_29 : decode cX11_reopen 29 = .ok ((.ifCond .eq 10), 3) := by decide +kernel
theorem dX11_reopen_32 : decode cX11_reopen 32 = .ok ((.aload_n 0), 1) := by decide +kernel
theorem dX11_reopen_33 : decode cX11_reopen 33 = .ok ((.bipush 9), 2) := by decide +kernel
theorem dX11_reopen_35 : decode cX11_reopen 35 = .ok ((.invokevirtual 75), 3) := by decide +kernel
theorem dX11_reopen_38 : decode cX11_reopen 38 = .ok (.ireturn, 1) := by decide +kernel
theorem dX11_reopen_39 : decode cX11_reopen 39 = .ok ((.aload_n 0), 1) := by decide +kernel
theorem dX11_reopen_40 : decode cX11_reopen 40 = .ok ((.iload_n 1), 1) := by decide +kernel
theorem dX11_reopen_41 : decode cX11_reopen 41 = .ok ((.invokevirtual 367), 3) := by decide +kernel
theorem dX11_reopen_44 : decode cX11_reopen 44 = .ok ((.iconst 1), 1) := by decide +kernel
theorem dX11_reopen_45 : decode cX11_reopen 45 = .ok (.ireturn, 1) := by decide +kernel
def p_X11_reopen   (S : vSt) (a1 : Int32) (post : Bool → vSt → Prop) : Prop := ∀ S12, S12 = v_si S 143 1 0 → ∀ S13, S13 = v_si S12 143 0 0 → p_X11_isDeedAt  S13 a1 (fun r15 S14 => ((r15 = true → p_X11_isOpen  S14 a1 (fun r17 S16 => ((r17 = false → p_X11_opens  S16 a1 (fun S18 => post true S18)) ∧ (r17 = true → p_X11_no  S16 9 (fun r20 S19 => post r20 S19))))) ∧ (r15 = false → p_X11_no  S14 2 (fun r22 S21 => post r22 S21))))
set_option maxHeartbeats 4000000 in
set_option maxRecDepth 100000 in
theorem c_X11_reopen (l : Launch) (G : vG)    {S : vSt} (a1 : Int32) (post : Bool → vSt → Prop) (h : p_X11_reopen   S a1 post) : Met l yX11_reopen (v_ws yX11_reopen cX11_reopen 2 (some .boolean)) (v_rm 2 86) (v_Pc G [.ref (G.1 143), .int a1] S) (v_Qz G post) 0 0 (v_A G) := by
  refine v_start (by decide +kernel) (Nat.le_of_ble_eq_true rfl) (fun X hl C D => ?_)
  subst hl
  have C : v_Cx X G cX11_reopen RX11 2 (v_rm 2 86) := C
  show VJ X G S 0 [(0, .ref (G.1 143)), (1, .int a1)] []
  refine V_aload_n C 0 dX11_reopen_0 rfl rfl ?_
  refine V_iconst (v := 0) C dX11_reopen_1 (by decide) ?_
  refine V_pi C 143 (by decide) (by decide) P_11_1 k_RX11_60 dX11_reopen_2 ?_
  refine V_topS (fun S12 eS12 => ?_)
  have h := h S12 eS12
  refine V_aload_n C 0 dX11_reopen_5 rfl rfl ?_
  refine V_iconst (v := 0) C dX11_reopen_6 (by decide) ?_
  refine V_pi C 143 (by decide) (by decide) P_11_0 k_RX11_63 dX11_reopen_7 ?_
  refine V_topS (fun S13 eS13 => ?_)
  have h := h S13 eS13
  refine V_aload_n C 0 dX11_reopen_10 rfl rfl ?_
  refine V_iload_n C 1 dX11_reopen_11 rfl rfl ?_
  refine V_callVz (As := [.int a1]) (rest := []) C (c_X11_isDeedAt (v_l X) G  _ _ h) 143 11 (by decide) (by decide) (by decide) rfl KV_X11_isDeedAt k_RX11_292 rfl rfl rfl (Nat.le_of_ble_eq_true rfl) ⟨Nat.le_of_ble_eq_true rfl, Nat.le_of_ble_eq_true rfl⟩ dX11_reopen_12 (fun r15 S14 h => ?_)
  refine V_ifb_ne (tgt := 24) C dX11_reopen_15 (by decide) (fun c => ?_) (fun c => ?_)
  · have h := h.1 c
    refine V_aload_n C 0 dX11_reopen_24 rfl rfl ?_
    refine V_iload_n C 1 dX11_reopen_25 rfl rfl ?_
    refine V_callVz (As := [.int a1]) (rest := []) C (c_X11_isOpen (v_l X) G  _ _ h) 143 11 (by decide) (by decide) (by decide) rfl KV_X11_isOpen k_RX11_295 rfl rfl rfl (Nat.le_of_ble_eq_true rfl) ⟨Nat.le_of_ble_eq_true rfl, Nat.le_of_ble_eq_true rfl⟩ dX11_reopen_26 (fun r17 S16 h => ?_)
    refine V_ifb_eq (tgt := 39) C dX11_reopen_29 (by decide) (fun c => ?_) (fun c => ?_)
    · have h := h.1 c
      refine V_aload_n C 0 dX11_reopen_39 rfl rfl ?_
      refine V_iload_n C 1 dX11_reopen_40 rfl rfl ?_
      refine V_callVv (As := [.int a1]) (rest := []) C (c_X11_opens (v_l X) G  _ _ h) 143 11 (by decide) (by decide) (by decide) rfl KV_X11_opens k_RX11_367 rfl rfl rfl (Nat.le_of_ble_eq_true rfl) ⟨Nat.le_of_ble_eq_true rfl, Nat.le_of_ble_eq_true rfl⟩ dX11_reopen_41 (fun S18 h => ?_)
      refine V_iconst (v := 1) C dX11_reopen_44 (by decide) ?_
      exact V_zret1 C D dX11_reopen_45 h
    · have h := h.2 c
      refine V_aload_n C 0 dX11_reopen_32 rfl rfl ?_
      refine V_bipush (v := 9) C dX11_reopen_33 (by decide) ?_
      refine V_callVz (As := [.int 9]) (rest := []) C (c_X11_no (v_l X) G  _ _ h) 143 11 (by decide) (by decide) (by decide) rfl KV_X11_no k_RX11_75 rfl rfl rfl (Nat.le_of_ble_eq_true rfl) ⟨Nat.le_of_ble_eq_true rfl, Nat.le_of_ble_eq_true rfl⟩ dX11_reopen_35 (fun r20 S19 h => ?_)
      exact V_zret C D dX11_reopen_38 h
  · have h := h.2 c
    refine V_aload_n C 0 dX11_reopen_18 rfl rfl ?_
    refine V_iconst (v := 2) C dX11_reopen_19 (by decide) ?_
    refine V_callVz (As := [.int 2]) (rest := []) C (c_X11_no (v_l X) G  _ _ h) 143 11 (by decide) (by decide) (by decide) rfl KV_X11_no k_RX11_75 rfl rfl rfl (Nat.le_of_ble_eq_true rfl) ⟨Nat.le_of_ble_eq_true rfl, Nat.le_of_ble_eq_true rfl⟩ dX11_reopen_20 (fun r22 S21 h => ?_)
    exact V_zret C D dX11_reopen_23 h
/-! HalfAccuserModel.train(II)Z -/
theorem dX11_train_0 : decode cX11_train 0 = .ok ((.aload_n 0), 1) := by decide +kernel
theorem dX11_train_1 : decode cX11_train 1 = .ok ((.iconst 0), 1) := by decide +kernel
theorem dX11_train_2 : decode cX11_train 2 = .ok ((.putfield 60), 3) := by decide +kernel
theorem dX11_train_5 : decode cX11_train 5 = .ok ((.aload_n 0), 1) := by decide +kernel
theorem dX11_train_6 : decode cX11_train 6 = .ok ((.iconst 0), 1) := by decide +kernel
theorem dX11_train_7 : decode cX11_train 7 = .ok ((.putfield 63), 3) := by decide +kernel
theorem dX11_train_10 : decode cX11_train 10 = .ok ((.aload_n 0), 1) := by decide +kernel
theorem dX11_train_11 : decode cX11_train 11 = .ok ((.iload_n 1), 1) := by decide +kernel
theorem dX11_train_12 : decode cX11_train 12 = .ok ((.invokevirtual 289), 3) := by decide +kernel
theorem dX11_train_15 : decode cX11_train 15 = .ok ((.ifCond .ne 9), 3) := by decide +kernel
theorem dX11_train_18 : decode cX11_train 18 = .ok ((.aload_n 0), 1) := by decide +kernel
theorem dX11_train_19 : decode cX11_train 19 = .ok ((.iconst 2), 1) := by decide +kernel
theorem dX11_train_20 : decode cX11_train 20 = .ok ((.invokevirtual 75), 3) := by decide +kernel
theorem dX11_train_23 : decode cX11_train 23 = .ok (.ireturn, 1) := by decide +kernel
theorem dX11_train_24 : decode cX11_train 24 = .ok ((.iload_n 2), 1) := by decide +kernel
theorem dX11_train_25 : decode cX11_train 25 = .ok (.i2l, 1) := by decide +kernel
theorem dX11_train_26 : decode cX11_train 26 = .ok ((.lconst 0), 1) := by decide +kernel
theorem dX11_train_27 : decode cX11_train 27 = .ok ((.ldc2_w 365), 3) := by decide +kernel
theorem dX11_train_30 : decode cX11_train 30 = .ok ((.invokestatic 95), 3) := by decide +kernel
theorem dX11_train_33 : decode cX11_train 33 = .ok ((.ifCond .ne 9), 3) := by decide +kernel
theorem dX11_train_36 : decode cX11_train 36 = .ok ((.aload_n 0), 1) := by decide +kernel
theorem dX11_train_37 : decode cX11_train 37 = .ok ((.iconst 5), 1) := by decide +kernel
theorem dX11_train_38 : decode cX11_train 38 = .ok ((.invokevirtual 75), 3) := by decide +kernel
theorem dX11_train_41 : decode cX11_train 41 = .ok (.ireturn, 1) := by decide +kernel
theorem dX11_train_42 : decode cX11_train 42 = .ok ((.aload_n 0), 1) := by decide +kernel
theorem dX11_train_43 : decode cX11_train 43 = .ok ((.getfield 35), 3) := by decide +kernel
theorem dX11_train_46 : decode cX11_train 46 = .ok ((.bipush 16), 2) := by decide +kernel
theorem dX11_train_48 : decode cX11_train 48 = .ok ((.iload_n 1), 1) := by decide +kernel
theorem dX11_train_49 : decode cX11_train 49 = .ok (.iadd, 1) := by decide +kernel
theorem dX11_train_50 : decode cX11_train 50 = .ok ((.iload_n 2), 1) := by decide +kernel
theorem dX11_train_51 : decode cX11_train 51 = .ok (.iastore, 1) := by decide +kernel
theorem dX11_train_52 : decode cX11_train 52 = .ok ((.iconst 1), 1) := by decide +kernel
theorem dX11_train_53 : decode cX11_train 53 = .ok (.ireturn, 1) := by decide +kernel
def p_X11_train   (S : vSt) (a1 : Int32) (a2 : Int32) (post : Bool → vSt → Prop) : Prop := ∀ S12, S12 = v_si S 143 1 0 → ∀ S13, S13 = v_si S12 143 0 0 → p_X11_isOne  S13 a1 (fun r15 S14 => ((r15 = true → p_X11_isIn  S14 (Int32.toInt64 a2) 0 16 (fun r17 S16 => ((r17 = true → (vp_in (16 + a1) 1900 ∧ ∀ S18, S18 = v_si S16 148 (Int32.toNatClampNeg (16 + a1)) a2 → post true S18)) ∧ (r17 = false → p_X11_no  S16 5 (fun r20 S19 => post r20 S19))))) ∧ (r15 = false → p_X11_no  S14 2 (fun r22 S21 => post r22 S21))))
set_option maxHeartbeats 4000000 in
set_option maxRecDepth 100000 in
theorem c_X11_train (l : Launch) (G : vG)    {S : vSt} (a1 : Int32) (a2 : Int32) (post : Bool → vSt → Prop) (h : p_X11_train   S a1 a2 post) : Met l yX11_train (v_ws yX11_train cX11_train 3 (some .boolean)) (v_rm 2 86) (v_Pc G [.ref (G.1 143), .int a1, .int a2] S) (v_Qz G post) 0 0 (v_A G) := by
  refine v_start (by decide +kernel) (Nat.le_of_ble_eq_true rfl) (fun X hl C D => ?_)
  subst hl
  have C : v_Cx X G cX11_train RX11 3 (v_rm 2 86) := C
  show VJ X G S 0 [(0, .ref (G.1 143)), (1, .int a1), (2, .int a2)] []
  refine V_aload_n C 0 dX11_train_0 rfl rfl ?_
  refine V_iconst (v := 0) C dX11_train_1 (by decide) ?_
  refine V_pi C 143 (by decide) (by decide) P_11_1 k_RX11_60 dX11_train_2 ?_
  refine V_topS (fun S12 eS12 => ?_)
  have h := h S12 eS12
  refine V_aload_n C 0 dX11_train_5 rfl rfl ?_
  refine V_iconst (v := 0) C dX11_train_6 (by decide) ?_
  refine V_pi C 143 (by decide) (by decide) P_11_0 k_RX11_63 dX11_train_7 ?_
  refine V_topS (fun S13 eS13 => ?_)
  have h := h S13 eS13
  refine V_aload_n C 0 dX11_train_10 rfl rfl ?_
  refine V_iload_n C 1 dX11_train_11 rfl rfl ?_
  refine V_callVz (As := [.int a1]) (rest := []) C (c_X11_isOne (v_l X) G  _ _ h) 143 11 (by decide) (by decide) (by decide) rfl KV_X11_isOne k_RX11_289 rfl rfl rfl (Nat.le_of_ble_eq_true rfl) ⟨Nat.le_of_ble_eq_true rfl, Nat.le_of_ble_eq_true rfl⟩ dX11_train_12 (fun r15 S14 h => ?_)
  refine V_ifb_ne (tgt := 24) C dX11_train_15 (by decide) (fun c => ?_) (fun c => ?_)
  · have h := h.1 c
    refine V_iload_n C 2 dX11_train_24 rfl rfl ?_
    refine V_i2l C dX11_train_25 ?_
    refine V_lconst (v := 0) C dX11_train_26 (by decide) ?_
    refine V_ldc2 (v := 16) C k_RX11_365 dX11_train_27 ?_
    refine V_callSz (As := [.long (Int32.toInt64 a2), .long 0, .long 16]) (rest := []) C (c_X11_isIn (v_l X) G  _ _ _ _ h) KV_X11_isIn k_RX11_95 rfl rfl rfl (Nat.le_of_ble_eq_true rfl) ⟨Nat.le_of_ble_eq_true rfl, Nat.le_of_ble_eq_true rfl⟩ dX11_train_30 (fun r17 S16 h => ?_)
    refine V_ifb_ne (tgt := 42) C dX11_train_33 (by decide) (fun c => ?_) (fun c => ?_)
    · have h := h.1 c
      refine V_aload_n C 0 dX11_train_42 rfl rfl ?_
      refine V_ga C 143 (by decide) (by decide) F_11_20 k_RX11_35 dX11_train_43 ?_
      refine V_bipush (v := 16) C dX11_train_46 (by decide) ?_
      refine V_iload_n C 1 dX11_train_48 rfl rfl ?_
      refine V_iadd C dX11_train_49 ?_
      refine V_iload_n C 2 dX11_train_50 rfl rfl ?_
      obtain ⟨hi, h⟩ := h
      refine V_iast C 148 1900 (by decide) (by decide) hi dX11_train_51 ?_
      refine V_topS (fun S18 eS18 => ?_)
      have h := h S18 eS18
      refine V_iconst (v := 1) C dX11_train_52 (by decide) ?_
      exact V_zret1 C D dX11_train_53 h
    · have h := h.2 c
      refine V_aload_n C 0 dX11_train_36 rfl rfl ?_
      refine V_iconst (v := 5) C dX11_train_37 (by decide) ?_
      refine V_callVz (As := [.int 5]) (rest := []) C (c_X11_no (v_l X) G  _ _ h) 143 11 (by decide) (by decide) (by decide) rfl KV_X11_no k_RX11_75 rfl rfl rfl (Nat.le_of_ble_eq_true rfl) ⟨Nat.le_of_ble_eq_true rfl, Nat.le_of_ble_eq_true rfl⟩ dX11_train_38 (fun r20 S19 h => ?_)
      exact V_zret C D dX11_train_41 h
  · have h := h.2 c
    refine V_aload_n C 0 dX11_train_18 rfl rfl ?_
    refine V_iconst (v := 2) C dX11_train_19 (by decide) ?_
    refine V_callVz (As := [.int 2]) (rest := []) C (c_X11_no (v_l X) G  _ _ h) 143 11 (by decide) (by decide) (by decide) rfl KV_X11_no k_RX11_75 rfl rfl rfl (Nat.le_of_ble_eq_true rfl) ⟨Nat.le_of_ble_eq_true rfl, Nat.le_of_ble_eq_true rfl⟩ dX11_train_20 (fun r22 S21 h => ?_)
    exact V_zret C D dX11_train_23 h
/-! HalfAccuserModel.earn(II)I -/
theorem dX11_earn_0 : decode cX11_earn 0 = .ok ((.aload_n 0), 1) := by decide +kernel
theorem dX11_earn_1 : decode cX11_earn 1 = .ok ((.iconst 0), 1) := by decide +kernel
theorem dX11_earn_2 : decode cX11_earn 2 = .ok ((.putfield 60), 3) := by decide +kernel
theorem dX11_earn_5 : decode cX11_earn 5 = .ok ((.aload_n 0), 1) := by decide +kernel
theorem dX11_earn_6 : decode cX11_earn 6 = .ok ((.iconst 0), 1) := by decide +kernel
theorem dX11_earn_7 : decode cX11_earn 7 = .ok ((.putfield 63), 3) := by decide +kernel
theorem dX11_earn_10 : decode cX11_earn 10 = .ok ((.aload_n 0), 1) := by decide +kernel
theorem dX11_earn_11 : decode cX11_earn 11 = .ok ((.iload_n 1), 1) := by decide +kernel
theorem dX11_earn_12 : decode cX11_earn 12 = .ok ((.invokevirtual 289), 3) := by decide +kernel
theorem dX11_earn_15 : decode cX11_earn 15 = .ok ((.ifCond .ne 9), 3) := by decide +kernel
theorem dX11_earn_18 : decode cX11_earn 18 = .ok ((.aload_n 0), 1) := by decide +kernel
theorem dX11_earn_19 : decode cX11_earn 19 = .ok ((.iconst 2), 1) := by decide +kernel
theorem dX11_earn_20 : decode cX11_earn 20 = .ok ((.invokevirtual 303), 3) := by decide +kernel
theorem dX11_earn_23 : decode cX11_earn 23 = .ok (.ireturn, 1) := by decide +kernel
theorem dX11_earn_24 : decode cX11_earn 24 = .ok ((.iload_n 2), 1) := by decide +kernel
theorem dX11_earn_25 : decode cX11_earn 25 = .ok (.i2l, 1) := by decide +kernel
theorem dX11_earn_26 : decode cX11_earn 26 = .ok ((.ldc2_w 370), 3) := by decide +kernel
theorem dX11_earn_29 : decode cX11_earn 29 = .ok ((.ldc2_w 354), 3) := by decide +kernel
theorem dX11_earn_32 : decode cX11_earn 32 = .ok ((.invokestatic 95), 3) := by decide +kernel
theorem dX11_earn_35 : decode cX11_earn 35 = .ok ((.ifCond .ne 9), 3) := by decide +kernel
theorem dX11_earn_38 : decode cX11_earn 38 = .ok ((.aload_n 0), 1) := by decide +kernel
theorem dX11_earn_39 : decode cX11_earn 39 = .ok ((.iconst 5), 1) := by decide +kernel
theorem dX11_earn_40 : decode cX11_earn 40 = .ok ((.invokevirtual 303), 3) := by decide +kernel
theorem dX11_earn_43 : decode cX11_earn 43 = .ok (.ireturn, 1) := by decide +kernel
theorem dX11_earn_44 : decode cX11_earn 44 = .ok ((.aload_n 0), 1) := by decide +kernel
theorem dX11_earn_45 : decode cX11_earn 45 = .ok ((.bipush 8), 2) := by decide +kernel
theorem dX11_earn_47 : decode cX11_earn 47 = .ok ((.iload_n 1), 1) := by decide +kernel
theorem dX11_earn_48 : decode cX11_earn 48 = .ok (.iadd, 1) := by decide +kernel
theorem dX11_earn_49 : decode cX11_earn 49 = .ok ((.iload_n 2), 1) := by decide +kernel
theorem dX11_earn_50 : decode cX11_earn 50 = .ok ((.invokevirtual 329), 3) := by decide +kernel
theorem dX11_earn_53 : decode cX11_earn 53 = .ok ((.aload_n 0), 1) := by decide +kernel
theorem dX11_earn_54 : decode cX11_earn 54 = .ok ((.getfield 35), 3) := by decide +kernel
theorem dX11_earn_57 : decode cX11_earn 57 = .ok ((.bipush 8), 2) := by decide +kernel
theorem dX11_earn_59 : decode cX11_earn 59 = .ok ((.iload_n 1), 1) := by decide +kernel
theorem dX11_earn_60 : decode cX11_earn 60 = .ok (.iadd, 1) := by decide +kernel
theorem dX11_earn_61 : decode cX11_earn 61 = .ok (.iaload, 1) := by decide +kernel
theorem dX11_earn_62 : decode cX11_earn 62 = .ok (.ireturn, 1) := by decide +kernel
def p_X11_earn   (S : vSt) (a1 : Int32) (a2 : Int32) (post : Int32 → vSt → Prop) : Prop := ∀ S12, S12 = v_si S 143 1 0 → ∀ S13, S13 = v_si S12 143 0 0 → p_X11_isOne  S13 a1 (fun r15 S14 => ((r15 = true → p_X11_isIn  S14 (Int32.toInt64 a2) (-9999) 9999 (fun r17 S16 => ((r17 = true → p_X11_pays  S16 (8 + a1) a2 (fun S18 => (vp_in (8 + a1) 1900 ∧ post (S18.1 148 (Int32.toNatClampNeg (8 + a1))) S18))) ∧ (r17 = false → p_X11_refuse  S16 5 (fun r20 S19 => post r20 S19))))) ∧ (r15 = false → p_X11_refuse  S14 2 (fun r22 S21 => post r22 S21))))
set_option maxHeartbeats 4000000 in
set_option maxRecDepth 100000 in
theorem c_X11_earn (l : Launch) (G : vG)    {S : vSt} (a1 : Int32) (a2 : Int32) (post : Int32 → vSt → Prop) (h : p_X11_earn   S a1 a2 post) : Met l yX11_earn (v_ws yX11_earn cX11_earn 3 (some .int)) (v_rm 2 86) (v_Pc G [.ref (G.1 143), .int a1, .int a2] S) (v_Qi G post) 0 0 (v_A G) := by
  refine v_start (by decide +kernel) (Nat.le_of_ble_eq_true rfl) (fun X hl C D => ?_)
  subst hl
  have C : v_Cx X G cX11_earn RX11 3 (v_rm 2 86) := C
  show VJ X G S 0 [(0, .ref (G.1 143)), (1, .int a1), (2, .int a2)] []
  refine V_aload_n C 0 dX11_earn_0 rfl rfl ?_
  refine V_iconst (v := 0) C dX11_earn_1 (by decide) ?_
  refine V_pi C 143 (by decide) (by decide) P_11_1 k_RX11_60 dX11_earn_2 ?_
  refine V_topS (fun S12 eS12 => ?_)
  have h := h S12 eS12
  refine V_aload_n C 0 dX11_earn_5 rfl rfl ?_
  refine V_iconst (v := 0) C dX11_earn_6 (by decide) ?_
  refine V_pi C 143 (by decide) (by decide) P_11_0 k_RX11_63 dX11_earn_7 ?_
  refine V_topS (fun S13 eS13 => ?_)
  have h := h S13 eS13
  refine V_aload_n C 0 dX11_earn_10 rfl rfl ?_
  refine V_iload_n C 1 dX11_earn_11 rfl rfl ?_
  refine V_callVz (As := [.int a1]) (rest := []) C (c_X11_isOne (v_l X) G  _ _ h) 143 11 (by decide) (by decide) (by decide) rfl KV_X11_isOne k_RX11_289 rfl rfl rfl (Nat.le_of_ble_eq_true rfl) ⟨Nat.le_of_ble_eq_true rfl, Nat.le_of_ble_eq_true rfl⟩ dX11_earn_12 (fun r15 S14 h => ?_)
  refine V_ifb_ne (tgt := 24) C dX11_earn_15 (by decide) (fun c => ?_) (fun c => ?_)
  · have h := h.1 c
    refine V_iload_n C 2 dX11_earn_24 rfl rfl ?_
    refine V_i2l C dX11_earn_25 ?_
    refine V_ldc2 (v := (-9999)) C k_RX11_370 dX11_earn_26 ?_
    refine V_ldc2 (v := 9999) C k_RX11_354 dX11_earn_29 ?_
    refine V_callSz (As := [.long (Int32.toInt64 a2), .long (-9999), .long 9999]) (rest := []) C (c_X11_isIn (v_l X) G  _ _ _ _ h) KV_X11_isIn k_RX11_95 rfl rfl rfl (Nat.le_of_ble_eq_true rfl) ⟨Nat.le_of_ble_eq_true rfl, Nat.le_of_ble_eq_true rfl⟩ dX11_earn_32 (fun r17 S16 h => ?_)
    refine V_ifb_ne (tgt := 44) C dX11_earn_35 (by decide) (fun c => ?_) (fun c => ?_)
    · have h := h.1 c
      refine V_aload_n C 0 dX11_earn_44 rfl rfl ?_
      refine V_bipush (v := 8) C dX11_earn_45 (by decide) ?_
      refine V_iload_n C 1 dX11_earn_47 rfl rfl ?_
      refine V_iadd C dX11_earn_48 ?_
      refine V_iload_n C 2 dX11_earn_49 rfl rfl ?_
      refine V_callVv (As := [.int (8 + a1), .int a2]) (rest := []) C (c_X11_pays (v_l X) G  _ _ _ h) 143 11 (by decide) (by decide) (by decide) rfl KV_X11_pays k_RX11_329 rfl rfl rfl (Nat.le_of_ble_eq_true rfl) ⟨Nat.le_of_ble_eq_true rfl, Nat.le_of_ble_eq_true rfl⟩ dX11_earn_50 (fun S18 h => ?_)
      refine V_aload_n C 0 dX11_earn_53 rfl rfl ?_
      refine V_ga C 143 (by decide) (by decide) F_11_20 k_RX11_35 dX11_earn_54 ?_
      refine V_bipush (v := 8) C dX11_earn_57 (by decide) ?_
      refine V_iload_n C 1 dX11_earn_59 rfl rfl ?_
      refine V_iadd C dX11_earn_60 ?_
      obtain ⟨hi, h⟩ := h
      refine V_iald C 148 1900 (by decide) (by decide) hi dX11_earn_61 ?_
      exact V_iret C D dX11_earn_62 h
    · have h := h.2 c
      refine V_aload_n C 0 dX11_earn_38 rfl rfl ?_
      refine V_iconst (v := 5) C dX11_earn_39 (by decide) ?_
      refine V_callVi (As := [.int 5]) (rest := []) C (c_X11_refuse (v_l X) G  _ _ h) 143 11 (by decide) (by decide) (by decide) rfl KV_X11_refuse k_RX11_303 rfl rfl rfl (Nat.le_of_ble_eq_true rfl) ⟨Nat.le_of_ble_eq_true rfl, Nat.le_of_ble_eq_true rfl⟩ dX11_earn_40 (fun r20 S19 h => ?_)
      exact V_iret C D dX11_earn_43 h
  · have h := h.2 c
    refine V_aload_n C 0 dX11_earn_18 rfl rfl ?_
    refine V_iconst (v := 2) C dX11_earn_19 (by decide) ?_
    refine V_callVi (As := [.int 2]) (rest := []) C (c_X11_refuse (v_l X) G  _ _ h) 143 11 (by decide) (by decide) (by decide) rfl KV_X11_refuse k_RX11_303 rfl rfl rfl (Nat.le_of_ble_eq_true rfl) ⟨Nat.le_of_ble_eq_true rfl, Nat.le_of_ble_eq_true rfl⟩ dX11_earn_20 (fun r22 S21 h => ?_)
    exact V_iret C D dX11_earn_23 h
/-! HalfAccuserModel.rule(II)Z -/
theorem dX11_rule_0 : decode cX11_rule 0 = .ok ((.aload_n 0), 1) := by decide +kernel
theorem dX11_rule_1 : decode cX11_rule 1 = .ok ((.iconst 0), 1) := by decide +kernel
theorem dX11_rule_2 : decode cX11_rule 2 = .ok ((.putfield 60), 3) := by decide +kernel
theorem dX11_rule_5 : decode cX11_rule 5 = .ok ((.aload_n 0), 1) := by decide +kernel
theorem dX11_rule_6 : decode cX11_rule 6 = .ok ((.iconst 0), 1) := by decide +kernel
theorem dX11_rule_7 : decode cX11_rule 7 = .ok ((.putfield 63), 3) := by decide +kernel
theorem dX11_rule_10 : decode cX11_rule 10 = .ok ((.iload_n 1), 1) := by decide +kernel
theorem dX11_rule_11 : decode cX11_rule 11 = .ok ((.ifCond .ne 15), 3) := by decide +kernel
theorem dX11_rule_14 : decode cX11_rule 14 = .ok ((.iload_n 2), 1) := by decide +kernel
theorem dX11_rule_15 : decode cX11_rule 15 = .ok (.i2l, 1) := by decide +kernel
theorem dX11_rule_16 : decode cX11_rule 16 = .ok ((.lconst 1), 1) := by decide +kernel
theorem dX11_rule_17 : decode cX11_rule 17 = .ok ((.ldc2_w 372), 3) := by decide +kernel
theorem dX11_rule_20 : decode cX11_rule 20 = .ok ((.invokestatic 95), 3) := by decide +kernel
theorem dX11_rule_23 : decode cX11_rule 23 = .ok ((.goto 59), 3) := by decide +kernel
theorem dX11_rule_26 : decode cX11_rule 26 = .ok ((.iload_n 1), 1) := by decide +kernel
theorem dX11_rule_27 : decode cX11_rule 27 = .ok ((.iconst 1), 1) := by decide +kernel
theorem dX11_rule_28 : decode cX11_rule 28 = .ok ((.if_icmp .ne 15), 3) := by decide +kernel
theorem dX11_rule_31 : decode cX11_rule 31 = .ok ((.iload_n 2), 1) := by decide +kernel
theorem dX11_rule_32 : decode cX11_rule 32 = .ok (.i2l, 1) := by decide +kernel
theorem dX11_rule_33 : decode cX11_rule 33 = .ok ((.lconst 0), 1) := by decide +kernel
theorem dX11_rule_34 : decode cX11_rule 34 = .ok ((.ldc2_w 372), 3) := by decide +kernel
theorem dX11_rule_37 : decode cX11_rule 37 = .ok ((.invokestatic 95), 3) := by decide +kernel
theorem dX11_rule_40 : decode cX11_rule 40 = .ok ((.goto 42), 3) := by decide +kernel
theorem dX11_rule_43 : decode cX11_rule 43 = .ok ((.iload_n 1), 1) := by decide +kernel
theorem dX11_rule_44 : decode cX11_rule 44 = .ok ((.iconst 2), 1) := by decide +kernel
theorem dX11_rule_45 : decode cX11_rule 45 = .ok ((.if_icmp .ne 15), 3) := by decide +kernel
theorem dX11_rule_48 : decode cX11_rule 48 = .ok ((.iload_n 2), 1) := by decide +kernel
theorem dX11_rule_49 : decode cX11_rule 49 = .ok (.i2l, 1) := by decide +kernel
theorem dX11_rule_50 : decode cX11_rule 50 = .ok ((.lconst 0), 1) := by decide +kernel
theorem dX11_rule_51 : decode cX11_rule 51 = .ok ((.ldc2_w 363), 3) := by decide +kernel
theorem dX11_rule_54 : decode cX11_rule 54 = .ok ((.invokestatic 95), 3) := by decide +kernel
theorem dX11_rule_57 : decode cX11_rule 57 = .ok ((.goto 25), 3) := by decide +kernel
theorem dX11_rule_60 : decode cX11_rule 60 = .ok ((.iload_n 1), 1) := by decide +kernel
theorem dX11_rule_61 : decode cX11_rule 61 = .ok ((.iconst 3), 1) := by decide +kernel
theorem dX11_rule_62 : decode cX11_rule 62 = .ok ((.if_icmp .ne 19), 3) := by decide +kernel
theorem dX11_rule_65 : decode cX11_rule 65 = .ok ((.iload_n 2), 1) := by decide +kernel
theorem dX11_rule_66 : decode cX11_rule 66 = .ok (.i2l, 1) := by decide +kernel
theorem dX11_rule_67 : decode cX11_rule 67 = .ok ((.lconst 0), 1) := by decide +kernel
theorem dX11_rule_68 : decode cX11_rule 68 = .ok ((.ldc2_w 365), 3) := by decide +kernel
theorem dX11_rule_71 : decode cX11_rule 71 = .ok ((.invokestatic 95), 3) := by decide +kernel
theorem dX11_rule_74 : decode cX11_rule 74 = .ok ((.ifCond .eq 7), 3) := by decide +kernel
theorem dX11_rule_77 : decode cX11_rule 77 = .ok ((.iconst 1), 1) := by decide +kernel
theorem dX11_rule_78 : decode cX11_rule 78 = .ok ((.goto 4), 3) := by decide +kernel
theorem dX11_rule_81 : decode cX11_rule 81 = .ok ((.iconst 0), 1) := by decide +kernel
theorem dX11_rule_82 : decode cX11_rule 82 = .ok ((.istore_n 3), 1) := by decide +kernel
theorem dX11_rule_83 : decode cX11_rule 83 = .ok ((.iload_n 3), 1) := by decide +kernel
theorem dX11_rule_84 : decode cX11_rule 84 = .ok ((.ifCond .ne 9), 3) := by decide +kernel
theorem dX11_rule_87 : decode cX11_rule 87 = .ok ((.aload_n 0), 1) := by decide +kernel
theorem dX11_rule_88 : decode cX11_rule 88 = .ok ((.iconst 5), 1) := by decide +kernel
theorem dX11_rule_89 : decode cX11_rule 89 = .ok ((.invokevirtual 75), 3) := by decide +kernel
theorem dX11_rule_92 : decode cX11_rule 92 = .ok (.ireturn, 1) := by decide +kernel
theorem dX11_rule_93 : decode cX11_rule 93 = .ok ((.aload_n 0), 1) := by decide +kernel
theorem dX11_rule_94 : decode cX11_rule 94 = .ok ((.getfield 35), 3) := by decide +kernel
theorem dX11_rule_97 : decode cX11_rule 97 = .ok ((.iconst 2), 1) := by decide +kernel
theorem dX11_rule_98 : decode cX11_rule 98 = .ok ((.iload_n 1), 1) := by decide +kernel
theorem dX11_rule_99 : decode cX11_rule 99 = .ok (.iadd, 1) := by decide +kernel
theorem dX11_rule_100 : decode cX11_rule 100 = .ok ((.iload_n 2), 1) := by decide +kernel
theorem dX11_rule_101 : decode cX11_rule 101 = .ok (.iastore, 1) := by decide +kernel
theorem dX11_rule_102 : decode cX11_rule 102 = .ok ((.iconst 1), 1) := by decide +kernel
theorem dX11_rule_103 : decode cX11_rule 103 = .ok (.ireturn, 1) := by decide +kernel
def p_X11_rule_82  (a1 : Int32) (a2 : Int32)   (post : Bool → vSt → Prop) (S : vSt) (s0 : Bool) : Prop := ((s0 = true → (vp_in (2 + a1) 1900 ∧ ∀ S16, S16 = v_si S 148 (Int32.toNatClampNeg (2 + a1)) a2 → post true S16)) ∧ (s0 = false → p_X11_no  S 5 (fun r18 S17 => post r18 S17)))
def p_X11_rule_81  (a1 : Int32) (a2 : Int32)   (post : Bool → vSt → Prop) (S : vSt)  : Prop := p_X11_rule_82 a1 a2 post S false
def p_X11_rule   (S : vSt) (a1 : Int32) (a2 : Int32) (post : Bool → vSt → Prop) : Prop := ∀ S14, S14 = v_si S 143 1 0 → ∀ S15, S15 = v_si S14 143 0 0 → ((¬ a1 = 0 → ((¬ a1 = 1 → ((¬ a1 = 2 → ((¬ a1 = 3 → p_X11_rule_81 a1 a2 post S15 ) ∧ (a1 = 3 → p_X11_isIn  S15 (Int32.toInt64 a2) 0 16 (fun r17 S16 => ((r17 = false → p_X11_rule_81 a1 a2 post S16 ) ∧ (r17 = true → p_X11_rule_82 a1 a2 post S16 true)))))) ∧ (a1 = 2 → p_X11_isIn  S15 (Int32.toInt64 a2) 0 999 (fun r19 S18 => p_X11_rule_82 a1 a2 post S18 r19)))) ∧ (a1 = 1 → p_X11_isIn  S15 (Int32.toInt64 a2) 0 9 (fun r21 S20 => p_X11_rule_82 a1 a2 post S20 r21)))) ∧ (a1 = 0 → p_X11_isIn  S15 (Int32.toInt64 a2) 1 9 (fun r23 S22 => p_X11_rule_82 a1 a2 post S22 r23)))
set_option maxHeartbeats 4000000 in
set_option maxRecDepth 100000 in
theorem q_X11_rule_82 {X : vX} {G : vG}  {post : Bool → vSt → Prop} (C : v_Cx X G cX11_rule RX11 4 (v_rm 1 65)) (D : v_Rx X G (v_Qz G post) (some .boolean))  {a1 : Int32} {a2 : Int32}   : ∀ (S : vSt) (s0 : Bool), p_X11_rule_82 a1 a2 post S s0 → VJ X G S 82 [(0, .ref (G.1 143)), (1, .int a1), (2, .int a2)] [.int (v_b s0)] := by
  intro S s0 h
  refine V_istore_n (lv' := [(0, .ref (G.1 143)), (1, .int a1), (2, .int a2), (3, .int (v_b s0))]) C [1, 2, 3, 0] dX11_rule_82 rfl (by decide) rfl ?_
  refine V_iload_n C 3 dX11_rule_83 rfl rfl ?_
  refine V_ifb_ne (tgt := 93) C dX11_rule_84 (by decide) (fun c => ?_) (fun c => ?_)
  · have h := h.1 c
    refine V_aload_n C 0 dX11_rule_93 rfl rfl ?_
    refine V_ga C 143 (by decide) (by decide) F_11_20 k_RX11_35 dX11_rule_94 ?_
    refine V_iconst (v := 2) C dX11_rule_97 (by decide) ?_
    refine V_iload_n C 1 dX11_rule_98 rfl rfl ?_
    refine V_iadd C dX11_rule_99 ?_
    refine V_iload_n C 2 dX11_rule_100 rfl rfl ?_
    obtain ⟨hi, h⟩ := h
    refine V_iast C 148 1900 (by decide) (by decide) hi dX11_rule_101 ?_
    refine V_topS (fun S16 eS16 => ?_)
    have h := h S16 eS16
    refine V_iconst (v := 1) C dX11_rule_102 (by decide) ?_
    exact V_zret1 C D dX11_rule_103 h
  · have h := h.2 c
    refine V_aload_n C 0 dX11_rule_87 rfl rfl ?_
    refine V_iconst (v := 5) C dX11_rule_88 (by decide) ?_
    refine V_callVz (As := [.int 5]) (rest := []) C (c_X11_no (v_l X) G  _ _ h) 143 11 (by decide) (by decide) (by decide) rfl KV_X11_no k_RX11_75 rfl rfl rfl (Nat.le_of_ble_eq_true rfl) ⟨Nat.le_of_ble_eq_true rfl, Nat.le_of_ble_eq_true rfl⟩ dX11_rule_89 (fun r18 S17 h => ?_)
    exact V_zret C D dX11_rule_92 h
set_option maxHeartbeats 4000000 in
set_option maxRecDepth 100000 in
theorem q_X11_rule_81 {X : vX} {G : vG}  {post : Bool → vSt → Prop} (C : v_Cx X G cX11_rule RX11 4 (v_rm 1 65)) (D : v_Rx X G (v_Qz G post) (some .boolean))  {a1 : Int32} {a2 : Int32}   : ∀ (S : vSt), p_X11_rule_81 a1 a2 post S  → VJ X G S 81 [(0, .ref (G.1 143)), (1, .int a1), (2, .int a2)] [] := by
  intro S  h
  refine V_iconst (v := 0) C dX11_rule_81 (by decide) ?_
  exact q_X11_rule_82 C D  _ _ h
set_option maxHeartbeats 4000000 in
set_option maxRecDepth 100000 in
theorem c_X11_rule (l : Launch) (G : vG)    {S : vSt} (a1 : Int32) (a2 : Int32) (post : Bool → vSt → Prop) (h : p_X11_rule   S a1 a2 post) : Met l yX11_rule (v_ws yX11_rule cX11_rule 4 (some .boolean)) (v_rm 1 65) (v_Pc G [.ref (G.1 143), .int a1, .int a2] S) (v_Qz G post) 0 0 (v_A G) := by
  refine v_start (by decide +kernel) (Nat.le_of_ble_eq_true rfl) (fun X hl C D => ?_)
  subst hl
  have C : v_Cx X G cX11_rule RX11 4 (v_rm 1 65) := C
  show VJ X G S 0 [(0, .ref (G.1 143)), (1, .int a1), (2, .int a2)] []
  refine V_aload_n C 0 dX11_rule_0 rfl rfl ?_
  refine V_iconst (v := 0) C dX11_rule_1 (by decide) ?_
  refine V_pi C 143 (by decide) (by decide) P_11_1 k_RX11_60 dX11_rule_2 ?_
  refine V_topS (fun S14 eS14 => ?_)
  have h := h S14 eS14
  refine V_aload_n C 0 dX11_rule_5 rfl rfl ?_
  refine V_iconst (v := 0) C dX11_rule_6 (by decide) ?_
  refine V_pi C 143 (by decide) (by decide) P_11_0 k_RX11_63 dX11_rule_7 ?_
  refine V_topS (fun S15 eS15 => ?_)
  have h := h S15 eS15
  refine V_iload_n C 1 dX11_rule_10 rfl rfl ?_
  refine V_if_ne (tgt := 26) C dX11_rule_11 (by decide) (fun c => ?_) (fun c => ?_)
  · have h := h.1 c
    refine V_iload_n C 1 dX11_rule_26 rfl rfl ?_
    refine V_iconst (v := 1) C dX11_rule_27 (by decide) ?_
    refine V_icmp_ne (tgt := 43) C dX11_rule_28 (by decide) (fun c => ?_) (fun c => ?_)
    · have h := h.1 c
      refine V_iload_n C 1 dX11_rule_43 rfl rfl ?_
      refine V_iconst (v := 2) C dX11_rule_44 (by decide) ?_
      refine V_icmp_ne (tgt := 60) C dX11_rule_45 (by decide) (fun c => ?_) (fun c => ?_)
      · have h := h.1 c
        refine V_iload_n C 1 dX11_rule_60 rfl rfl ?_
        refine V_iconst (v := 3) C dX11_rule_61 (by decide) ?_
        refine V_icmp_ne (tgt := 81) C dX11_rule_62 (by decide) (fun c => ?_) (fun c => ?_)
        · have h := h.1 c
          exact q_X11_rule_81 C D  _ h
        · have h := h.2 c
          refine V_iload_n C 2 dX11_rule_65 rfl rfl ?_
          refine V_i2l C dX11_rule_66 ?_
          refine V_lconst (v := 0) C dX11_rule_67 (by decide) ?_
          refine V_ldc2 (v := 16) C k_RX11_365 dX11_rule_68 ?_
          refine V_callSz (As := [.long (Int32.toInt64 a2), .long 0, .long 16]) (rest := []) C (c_X11_isIn (v_l X) G  _ _ _ _ h) KV_X11_isIn k_RX11_95 rfl rfl rfl (Nat.le_of_ble_eq_true rfl) ⟨Nat.le_of_ble_eq_true rfl, Nat.le_of_ble_eq_true rfl⟩ dX11_rule_71 (fun r17 S16 h => ?_)
          refine V_ifb_eq (tgt := 81) C dX11_rule_74 (by decide) (fun c => ?_) (fun c => ?_)
          · have h := h.1 c
            exact q_X11_rule_81 C D  _ h
          · have h := h.2 c
            refine V_iconst (v := 1) C dX11_rule_77 (by decide) ?_
            refine V_goto (tgt := 82) C dX11_rule_78 (by decide) ?_
            exact q_X11_rule_82 C D  _ _ h
      · have h := h.2 c
        refine V_iload_n C 2 dX11_rule_48 rfl rfl ?_
        refine V_i2l C dX11_rule_49 ?_
        refine V_lconst (v := 0) C dX11_rule_50 (by decide) ?_
        refine V_ldc2 (v := 999) C k_RX11_363 dX11_rule_51 ?_
        refine V_callSz (As := [.long (Int32.toInt64 a2), .long 0, .long 999]) (rest := []) C (c_X11_isIn (v_l X) G  _ _ _ _ h) KV_X11_isIn k_RX11_95 rfl rfl rfl (Nat.le_of_ble_eq_true rfl) ⟨Nat.le_of_ble_eq_true rfl, Nat.le_of_ble_eq_true rfl⟩ dX11_rule_54 (fun r19 S18 h => ?_)
        refine V_goto (tgt := 82) C dX11_rule_57 (by decide) ?_
        exact q_X11_rule_82 C D  _ _ h
    · have h := h.2 c
      refine V_iload_n C 2 dX11_rule_31 rfl rfl ?_
      refine V_i2l C dX11_rule_32 ?_
      refine V_lconst (v := 0) C dX11_rule_33 (by decide) ?_
      refine V_ldc2 (v := 9) C k_RX11_372 dX11_rule_34 ?_
      refine V_callSz (As := [.long (Int32.toInt64 a2), .long 0, .long 9]) (rest := []) C (c_X11_isIn (v_l X) G  _ _ _ _ h) KV_X11_isIn k_RX11_95 rfl rfl rfl (Nat.le_of_ble_eq_true rfl) ⟨Nat.le_of_ble_eq_true rfl, Nat.le_of_ble_eq_true rfl⟩ dX11_rule_37 (fun r21 S20 h => ?_)
      refine V_goto (tgt := 82) C dX11_rule_40 (by decide) ?_
      exact q_X11_rule_82 C D  _ _ h
  · have h := h.2 c
    refine V_iload_n C 2 dX11_rule_14 rfl rfl ?_
    refine V_i2l C dX11_rule_15 ?_
    refine V_lconst (v := 1) C dX11_rule_16 (by decide) ?_
    refine V_ldc2 (v := 9) C k_RX11_372 dX11_rule_17 ?_
    refine V_callSz (As := [.long (Int32.toInt64 a2), .long 1, .long 9]) (rest := []) C (c_X11_isIn (v_l X) G  _ _ _ _ h) KV_X11_isIn k_RX11_95 rfl rfl rfl (Nat.le_of_ble_eq_true rfl) ⟨Nat.le_of_ble_eq_true rfl, Nat.le_of_ble_eq_true rfl⟩ dX11_rule_20 (fun r23 S22 h => ?_)
    refine V_goto (tgt := 82) C dX11_rule_23 (by decide) ?_
    exact q_X11_rule_82 C D  _ _ h
/-! HalfAccuserModel.allVotes()J -/
theorem dX11_allVotes_0 : decode cX11_allVotes 0 = .ok ((.lconst 1), 1) := by decide +kernel
theorem dX11_allVotes_1 : decode cX11_allVotes 1 = .ok ((.lstore_n 1), 1) := by decide +kernel
theorem dX11_allVotes_2 : decode cX11_allVotes 2 = .ok ((.iconst 0), 1) := by decide +kernel
theorem dX11_allVotes_3 : decode cX11_allVotes 3 = .ok ((.istore_n 3), 1) := by decide +kernel
theorem dX11_allVotes_4 : decode cX11_allVotes 4 = .ok ((.iload_n 3), 1) := by decide +kernel
theorem dX11_allVotes_5 : decode cX11_allVotes 5 = .ok ((.aload_n 0), 1) := by decide +kernel
theorem dX11_allVotes_6 : decode cX11_allVotes 6 = .ok ((.getfield 35), 3) := by decide +kernel
theorem dX11_allVotes_9 : decode cX11_allVotes 9 = .ok ((.iconst 2), 1) := by decide +kernel
theorem dX11_allVotes_10 : decode cX11_allVotes 10 = .ok (.iaload, 1) := by decide +kernel
theorem dX11_allVotes_11 : decode cX11_allVotes 11 = .ok ((.if_icmp .ge 15), 3) := by decide +kernel
theorem dX11_allVotes_14 : decode cX11_allVotes 14 = .ok ((.lload_n 1), 1) := by decide +kernel
theorem dX11_allVotes_15 : decode cX11_allVotes 15 = .ok ((.ldc2_w 365), 3) := by decide +kernel
theorem dX11_allVotes_18 : decode cX11_allVotes 18 = .ok (.lmul, 1) := by decide +kernel
theorem dX11_allVotes_19 : decode cX11_allVotes 19 = .ok ((.lstore_n 1), 1) := by decide +kernel
theorem dX11_allVotes_20 : decode cX11_allVotes 20 = .ok ((.iinc 3 1), 3) := by decide +kernel
theorem dX11_allVotes_23 : decode cX11_allVotes 23 = .ok ((.goto (-19)), 3) := by decide +kernel
theorem dX11_allVotes_26 : decode cX11_allVotes 26 = .ok ((.lload_n 1), 1) := by decide +kernel
theorem dX11_allVotes_27 : decode cX11_allVotes 27 = .ok (.lreturn, 1) := by decide +kernel
def p_X11_allVotes_4     (post : Int64 → vSt → Prop) : Nat → vSt → Int64 → Int32 → Prop
  | 0 => fun _ _ _ => False
  | fu4 + 1 => fun S x1 x3 => (vp_in 2 1900 ∧ (((S.1 148 (Int32.toNatClampNeg 2)) ≤ x3 → post x1 S) ∧ (¬ (S.1 148 (Int32.toNatClampNeg 2)) ≤ x3 → ∀ y5 : Int64, y5 = (x1 * 16) → ∀ y6 : Int32, y6 = x3 + 1 → (p_X11_allVotes_4  post fu4) S y5 y6)))
theorem e_X11_allVotes_4     (post : Int64 → vSt → Prop) (fu4 : Nat) (S : vSt) (x1 : Int64) (x3 : Int32) : p_X11_allVotes_4  post (fu4 + 1) S x1 x3 = ((vp_in 2 1900 ∧ (((S.1 148 (Int32.toNatClampNeg 2)) ≤ x3 → post x1 S) ∧ (¬ (S.1 148 (Int32.toNatClampNeg 2)) ≤ x3 → ∀ y5 : Int64, y5 = (x1 * 16) → ∀ y6 : Int32, y6 = x3 + 1 → (p_X11_allVotes_4  post fu4) S y5 y6)))) := rfl
def p_X11_allVotes   (S : vSt)  (post : Int64 → vSt → Prop) : Prop := ∃ fu4, p_X11_allVotes_4  post fu4 S 1 0
set_option maxHeartbeats 4000000 in
set_option maxRecDepth 100000 in
theorem q_X11_allVotes_4 {X : vX} {G : vG}  {post : Int64 → vSt → Prop} (C : v_Cx X G cX11_allVotes RX11 4 (v_rm 0 40)) (D : v_Rx X G (v_Ql G post) (some .long))     : ∀ (fu : Nat) (S : vSt) (x1 : Int64) (x3 : Int32), p_X11_allVotes_4  post fu S x1 x3 → VJ X G S 4 [(0, .ref (G.1 143)), (1, .long x1), (3, .int x3)] [] := by
  intro fu
  induction fu with
  | zero => intro S x1 x3 h; exact absurd h id
  | succ fu ih =>
    intro S x1 x3 h
    have hK4 := ih
    rw [e_X11_allVotes_4] at h
    refine V_iload_n C 2 dX11_allVotes_4 rfl rfl ?_
    refine V_aload_n C 0 dX11_allVotes_5 rfl rfl ?_
    refine V_ga C 143 (by decide) (by decide) F_11_20 k_RX11_35 dX11_allVotes_6 ?_
    refine V_iconst (v := 2) C dX11_allVotes_9 (by decide) ?_
    obtain ⟨hi, h⟩ := h
    refine V_iald C 148 1900 (by decide) (by decide) hi dX11_allVotes_10 ?_
    refine V_icmp_ge (tgt := 26) C dX11_allVotes_11 (by decide) (fun c => ?_) (fun c => ?_)
    · have h := h.1 c
      refine V_lload_n C 1 dX11_allVotes_26 rfl rfl ?_
      exact V_lret C D dX11_allVotes_27 h
    · have h := h.2 c
      refine V_lload_n C 1 dX11_allVotes_14 rfl rfl ?_
      refine V_ldc2 (v := 16) C k_RX11_365 dX11_allVotes_15 ?_
      refine V_lmul C dX11_allVotes_18 ?_
      refine V_topl (fun y5 ey5 => ?_)
      have h := h y5 ey5
      refine V_lstore_n (lv' := [(0, .ref (G.1 143)), (1, .long y5), (3, .int x3)]) C [1, 0, 2] dX11_allVotes_19 rfl (by decide) rfl ?_
      obtain ⟨y6, ey6⟩ : ∃ z : Int32, z = x3 + 1 := ⟨_, rfl⟩
      have h := h y6 ey6
      refine V_iinc (lv' := [(0, .ref (G.1 143)), (1, .long y5), (3, .int y6)]) C 2 [1, 2, 0] y6 dX11_allVotes_20 rfl (by rw [ey6]; rfl) (by decide) rfl ?_
      refine V_goto (tgt := 4) C dX11_allVotes_23 (by decide) ?_
      exact hK4 _ _ _ h
set_option maxHeartbeats 4000000 in
set_option maxRecDepth 100000 in
theorem c_X11_allVotes (l : Launch) (G : vG)    {S : vSt}  (post : Int64 → vSt → Prop) (h : p_X11_allVotes   S  post) : Met l yX11_allVotes (v_ws yX11_allVotes cX11_allVotes 4 (some .long)) (v_rm 0 40) (v_Pc G [.ref (G.1 143)] S) (v_Ql G post) 0 0 (v_A G) := by
  refine v_start (by decide +kernel) (Nat.le_of_ble_eq_true rfl) (fun X hl C D => ?_)
  subst hl
  have C : v_Cx X G cX11_allVotes RX11 4 (v_rm 0 40) := C
  show VJ X G S 0 [(0, .ref (G.1 143))] []
  refine V_lconst (v := 1) C dX11_allVotes_0 (by decide) ?_
  refine V_lstore_n (lv' := [(0, .ref (G.1 143)), (1, .long 1)]) C [1, 0] dX11_allVotes_1 rfl (by decide) rfl ?_
  refine V_iconst (v := 0) C dX11_allVotes_2 (by decide) ?_
  refine V_istore_n (lv' := [(0, .ref (G.1 143)), (1, .long 1), (3, .int 0)]) C [1, 2, 0] dX11_allVotes_3 rfl (by decide) rfl ?_
  obtain ⟨fu4, h⟩ := h
  exact q_X11_allVotes_4 C D  fu4 _ _ _ h
/-! HalfAccuserModel.laysVotes(II)V -/
theorem dX11_laysVotes_0 : decode cX11_laysVotes 0 = .ok ((.aload_n 0), 1) := by decide +kernel
theorem dX11_laysVotes_1 : decode cX11_laysVotes 1 = .ok ((.iload_n 1), 1) := by decide +kernel
theorem dX11_laysVotes_2 : decode cX11_laysVotes 2 = .ok ((.iload_n 2), 1) := by decide +kernel
theorem dX11_laysVotes_3 : decode cX11_laysVotes 3 = .ok ((.invokevirtual 348), 3) := by decide +kernel
theorem dX11_laysVotes_6 : decode cX11_laysVotes 6 = .ok ((.istore_n 3), 1) := by decide +kernel
theorem dX11_laysVotes_7 : decode cX11_laysVotes 7 = .ok ((.iconst 0), 1) := by decide +kernel
theorem dX11_laysVotes_8 : decode cX11_laysVotes 8 = .ok ((.istore 4), 2) := by decide +kernel
theorem dX11_laysVotes_10 : decode cX11_laysVotes 10 = .ok ((.iload 4), 2) := by decide +kernel
theorem dX11_laysVotes_12 : decode cX11_laysVotes 12 = .ok ((.bipush 9), 2) := by decide +kernel
theorem dX11_laysVotes_14 : decode cX11_laysVotes 14 = .ok ((.if_icmp .gt 26), 3) := by decide +kernel
theorem dX11_laysVotes_17 : decode cX11_laysVotes 17 = .ok ((.aload_n 0), 1) := by decide +kernel
theorem dX11_laysVotes_18 : decode cX11_laysVotes 18 = .ok ((.getfield 44), 3) := by decide +kernel
theorem dX11_laysVotes_21 : decode cX11_laysVotes 21 = .ok ((.iload 4), 2) := by decide +kernel
theorem dX11_laysVotes_23 : decode cX11_laysVotes 23 = .ok ((.iload 4), 2) := by decide +kernel
theorem dX11_laysVotes_25 : decode cX11_laysVotes 25 = .ok ((.ifCond .ne 7), 3) := by decide +kernel
theorem dX11_laysVotes_28 : decode cX11_laysVotes 28 = .ok ((.lconst 1), 1) := by decide +kernel
theorem dX11_laysVotes_29 : decode cX11_laysVotes 29 = .ok ((.goto 4), 3) := by decide +kernel
theorem dX11_laysVotes_32 : decode cX11_laysVotes 32 = .ok ((.lconst 0), 1) := by decide +kernel
theorem dX11_laysVotes_33 : decode cX11_laysVotes 33 = .ok (.lastore, 1) := by decide +kernel
theorem dX11_laysVotes_34 : decode cX11_laysVotes 34 = .ok ((.iinc 4 1), 3) := by decide +kernel
theorem dX11_laysVotes_37 : decode cX11_laysVotes 37 = .ok ((.goto (-27)), 3) := by decide +kernel
theorem dX11_laysVotes_40 : decode cX11_laysVotes 40 = .ok ((.iconst 0), 1) := by decide +kernel
theorem dX11_laysVotes_41 : decode cX11_laysVotes 41 = .ok ((.istore 4), 2) := by decide +kernel
theorem dX11_laysVotes_43 : decode cX11_laysVotes 43 = .ok ((.iload 4), 2) := by decide +kernel
theorem dX11_laysVotes_45 : decode cX11_laysVotes 45 = .ok ((.aload_n 0), 1) := by decide +kernel
theorem dX11_laysVotes_46 : decode cX11_laysVotes 46 = .ok ((.getfield 35), 3) := by decide +kernel
theorem dX11_laysVotes_49 : decode cX11_laysVotes 49 = .ok ((.iconst 2), 1) := by decide +kernel
theorem dX11_laysVotes_50 : decode cX11_laysVotes 50 = .ok (.iaload, 1) := by decide +kernel
theorem dX11_laysVotes_51 : decode cX11_laysVotes 51 = .ok ((.if_icmp .ge 66), 3) := by decide +kernel
theorem dX11_laysVotes_54 : decode cX11_laysVotes 54 = .ok ((.bipush 9), 2) := by decide +kernel
theorem dX11_laysVotes_56 : decode cX11_laysVotes 56 = .ok ((.istore 5), 2) := by decide +kernel
theorem dX11_laysVotes_58 : decode cX11_laysVotes 58 = .ok ((.iload 5), 2) := by decide +kernel
theorem dX11_laysVotes_60 : decode cX11_laysVotes 60 = .ok ((.ifCond .lt 51), 3) := by decide +kernel
theorem dX11_laysVotes_63 : decode cX11_laysVotes 63 = .ok ((.aload_n 0), 1) := by decide +kernel
theorem dX11_laysVotes_64 : decode cX11_laysVotes 64 = .ok ((.getfield 44), 3) := by decide +kernel
theorem dX11_laysVotes_67 : decode cX11_laysVotes 67 = .ok ((.iload 5), 2) := by decide +kernel
theorem dX11_laysVotes_69 : decode cX11_laysVotes 69 = .ok ((.aload_n 0), 1) := by decide +kernel
theorem dX11_laysVotes_70 : decode cX11_laysVotes 70 = .ok ((.getfield 44), 3) := by decide +kernel
theorem dX11_laysVotes_73 : decode cX11_laysVotes 73 = .ok ((.iload 5), 2) := by decide +kernel
theorem dX11_laysVotes_75 : decode cX11_laysVotes 75 = .ok (.laload, 1) := by decide +kernel
theorem dX11_laysVotes_76 : decode cX11_laysVotes 76 = .ok ((.bipush 16), 2) := by decide +kernel
theorem dX11_laysVotes_78 : decode cX11_laysVotes 78 = .ok ((.iload_n 3), 1) := by decide +kernel
theorem dX11_laysVotes_79 : decode cX11_laysVotes 79 = .ok (.isub, 1) := by decide +kernel
theorem dX11_laysVotes_80 : decode cX11_laysVotes 80 = .ok (.i2l, 1) := by decide +kernel
theorem dX11_laysVotes_81 : decode cX11_laysVotes 81 = .ok (.lmul, 1) := by decide +kernel
theorem dX11_laysVotes_82 : decode cX11_laysVotes 82 = .ok ((.iload 5), 2) := by decide +kernel
theorem dX11_laysVotes_84 : decode cX11_laysVotes 84 = .ok ((.ifCond .ne 7), 3) := by decide +kernel
theorem dX11_laysVotes_87 : decode cX11_laysVotes 87 = .ok ((.lconst 0), 1) := by decide +kernel
theorem dX11_laysVotes_88 : decode cX11_laysVotes 88 = .ok ((.goto 15), 3) := by decide +kernel
theorem dX11_laysVotes_91 : decode cX11_laysVotes 91 = .ok ((.aload_n 0), 1) := by decide +kernel
theorem dX11_laysVotes_92 : decode cX11_laysVotes 92 = .ok ((.getfield 44), 3) := by decide +kernel
theorem dX11_laysVotes_95 : decode cX11_laysVotes 95 = .ok ((.iload 5), 2) := by decide +kernel
theorem dX11_laysVotes_97 : decode cX11_laysVotes 97 = .ok ((.iconst 1), 1) := by decide +kernel
theorem dX11_laysVotes_98 : decode cX11_laysVotes 98 = .ok (.isub, 1) := by decide +kernel
theorem dX11_laysVotes_99 : decode cX11_laysVotes 99 = .ok (.laload, 1) := by decide +kernel
theorem dX11_laysVotes_100 : decode cX11_laysVotes 100 = .ok ((.iload_n 3), 1) := by decide +kernel
theorem dX11_laysVotes_101 : decode cX11_laysVotes 101 = .ok (.i2l, 1) := by decide +kernel
theorem dX11_laysVotes_102 : decode cX11_laysVotes 102 = .ok (.lmul, 1) := by decide +kernel
theorem dX11_laysVotes_103 : decode cX11_laysVotes 103 = .ok (.ladd, 1) := by decide +kernel
theorem dX11_laysVotes_104 : decode cX11_laysVotes 104 = .ok (.lastore, 1) := by decide +kernel
theorem dX11_laysVotes_105 : decode cX11_laysVotes 105 = .ok ((.iinc 5 (-1)), 3) := by decide +kernel
theorem dX11_laysVotes_108 : decode cX11_laysVotes 108 = .ok ((.goto (-50)), 3) := by decide +kernel
theorem dX11_laysVotes_111 : decode cX11_laysVotes 111 = .ok ((.iinc 4 1), 3) := by decide +kernel
theorem dX11_laysVotes_114 : decode cX11_laysVotes 114 = .ok ((.goto (-71)), 3) := by decide +kernel
theorem dX11_laysVotes_117 : decode cX11_laysVotes 117 = .ok (.return_, 1) := by decide +kernel
def p_X11_laysVotes_103  (a1 : Int32) (a2 : Int32)  (K43 : vSt → Int32 → Int32 → Prop) (K58 : vSt → Int32 → Int32 → Int32 → Prop) (post : vSt → Prop) (S : vSt) (x3 : Int32) (x4 : Int32) (x5 : Int32) (s0 : Int64) (s1 : Int64) (s2 : Int32) : Prop := (vp_in s2 11 ∧ ∀ S16, S16 = v_sl S 151 (Int32.toNatClampNeg s2) (s1 + s0) → ∀ y17 : Int32, y17 = x5 + (-1) → K58 S16 x3 x4 y17)
def p_X11_laysVotes_58  (a1 : Int32) (a2 : Int32)  (K43 : vSt → Int32 → Int32 → Prop) (post : vSt → Prop) : Nat → vSt → Int32 → Int32 → Int32 → Prop
  | 0 => fun _ _ _ _ => False
  | fu58 + 1 => fun S x3 x4 x5 => ((x5 < 0 → ∀ y15 : Int32, y15 = x4 + 1 → K43 S x3 y15) ∧ (¬ x5 < 0 → (vp_in x5 11 ∧ ((¬ x5 = 0 → (vp_in (x5 - 1) 11 ∧ p_X11_laysVotes_103 a1 a2 K43 (p_X11_laysVotes_58 a1 a2 K43 post fu58) post S x3 x4 x5 ((S.2 151 (Int32.toNatClampNeg (x5 - 1))) * (Int32.toInt64 x3)) ((S.2 151 (Int32.toNatClampNeg x5)) * (Int32.toInt64 (16 - x3))) x5)) ∧ (x5 = 0 → p_X11_laysVotes_103 a1 a2 K43 (p_X11_laysVotes_58 a1 a2 K43 post fu58) post S x3 x4 x5 0 ((S.2 151 (Int32.toNatClampNeg x5)) * (Int32.toInt64 (16 - x3))) x5)))))
theorem e_X11_laysVotes_58  (a1 : Int32) (a2 : Int32)  (K43 : vSt → Int32 → Int32 → Prop) (post : vSt → Prop) (fu58 : Nat) (S : vSt) (x3 : Int32) (x4 : Int32) (x5 : Int32) : p_X11_laysVotes_58 a1 a2 K43 post (fu58 + 1) S x3 x4 x5 = (((x5 < 0 → ∀ y15 : Int32, y15 = x4 + 1 → K43 S x3 y15) ∧ (¬ x5 < 0 → (vp_in x5 11 ∧ ((¬ x5 = 0 → (vp_in (x5 - 1) 11 ∧ p_X11_laysVotes_103 a1 a2 K43 (p_X11_laysVotes_58 a1 a2 K43 post fu58) post S x3 x4 x5 ((S.2 151 (Int32.toNatClampNeg (x5 - 1))) * (Int32.toInt64 x3)) ((S.2 151 (Int32.toNatClampNeg x5)) * (Int32.toInt64 (16 - x3))) x5)) ∧ (x5 = 0 → p_X11_laysVotes_103 a1 a2 K43 (p_X11_laysVotes_58 a1 a2 K43 post fu58) post S x3 x4 x5 0 ((S.2 151 (Int32.toNatClampNeg x5)) * (Int32.toInt64 (16 - x3))) x5)))))) := rfl
def p_X11_laysVotes_43  (a1 : Int32) (a2 : Int32)   (post : vSt → Prop) : Nat → vSt → Int32 → Int32 → Prop
  | 0 => fun _ _ _ => False
  | fu43 + 1 => fun S x3 x4 => (vp_in 2 1900 ∧ (((S.1 148 (Int32.toNatClampNeg 2)) ≤ x4 → post S) ∧ (¬ (S.1 148 (Int32.toNatClampNeg 2)) ≤ x4 → ∃ fu58, p_X11_laysVotes_58 a1 a2 (p_X11_laysVotes_43 a1 a2 post fu43) post fu58 S x3 x4 9)))
theorem e_X11_laysVotes_43  (a1 : Int32) (a2 : Int32)   (post : vSt → Prop) (fu43 : Nat) (S : vSt) (x3 : Int32) (x4 : Int32) : p_X11_laysVotes_43 a1 a2 post (fu43 + 1) S x3 x4 = ((vp_in 2 1900 ∧ (((S.1 148 (Int32.toNatClampNeg 2)) ≤ x4 → post S) ∧ (¬ (S.1 148 (Int32.toNatClampNeg 2)) ≤ x4 → ∃ fu58, p_X11_laysVotes_58 a1 a2 (p_X11_laysVotes_43 a1 a2 post fu43) post fu58 S x3 x4 9)))) := rfl
def p_X11_laysVotes_33  (a1 : Int32) (a2 : Int32)  (K10 : vSt → Int32 → Int32 → Prop) (post : vSt → Prop) (S : vSt) (x3 : Int32) (x4 : Int32) (s0 : Int64) (s1 : Int32) : Prop := (vp_in s1 11 ∧ ∀ S15, S15 = v_sl S 151 (Int32.toNatClampNeg s1) s0 → ∀ y16 : Int32, y16 = x4 + 1 → K10 S15 x3 y16)
def p_X11_laysVotes_10  (a1 : Int32) (a2 : Int32)   (post : vSt → Prop) : Nat → vSt → Int32 → Int32 → Prop
  | 0 => fun _ _ _ => False
  | fu10 + 1 => fun S x3 x4 => ((9 < x4 → ∃ fu43, p_X11_laysVotes_43 a1 a2 post fu43 S x3 0) ∧ (¬ 9 < x4 → ((¬ x4 = 0 → p_X11_laysVotes_33 a1 a2 (p_X11_laysVotes_10 a1 a2 post fu10) post S x3 x4 0 x4) ∧ (x4 = 0 → p_X11_laysVotes_33 a1 a2 (p_X11_laysVotes_10 a1 a2 post fu10) post S x3 x4 1 x4))))
theorem e_X11_laysVotes_10  (a1 : Int32) (a2 : Int32)   (post : vSt → Prop) (fu10 : Nat) (S : vSt) (x3 : Int32) (x4 : Int32) : p_X11_laysVotes_10 a1 a2 post (fu10 + 1) S x3 x4 = (((9 < x4 → ∃ fu43, p_X11_laysVotes_43 a1 a2 post fu43 S x3 0) ∧ (¬ 9 < x4 → ((¬ x4 = 0 → p_X11_laysVotes_33 a1 a2 (p_X11_laysVotes_10 a1 a2 post fu10) post S x3 x4 0 x4) ∧ (x4 = 0 → p_X11_laysVotes_33 a1 a2 (p_X11_laysVotes_10 a1 a2 post fu10) post S x3 x4 1 x4))))) := rfl
def p_X11_laysVotes   (S : vSt) (a1 : Int32) (a2 : Int32) (post : vSt → Prop) : Prop := p_X11_chanceOf  S a1 a2 (fun r14 S13 => ∃ fu10, p_X11_laysVotes_10 a1 a2 post fu10 S13 r14 0)
set_option maxHeartbeats 4000000 in
set_option maxRecDepth 100000 in
theorem q_X11_laysVotes_103 {X : vX} {G : vG}  {post : vSt → Prop} (C : v_Cx X G cX11_laysVotes RX11 6 (v_rm 2 82)) (D : v_Rx X G (v_Qv G post) none)  {a1 : Int32} {a2 : Int32}  {K43 : vSt → Int32 → Int32 → Prop} (hK43 : ∀ S x3 x4, K43 S x3 x4 → VJ X G S 43 [(0, .ref (G.1 143)), (3, .int x3), (4, .int x4)] []) {K58 : vSt → Int32 → Int32 → Int32 → Prop} (hK58 : ∀ S x3 x4 x5, K58 S x3 x4 x5 → VJ X G S 58 [(0, .ref (G.1 143)), (3, .int x3), (4, .int x4), (5, .int x5)] []) : ∀ (S : vSt) (x3 : Int32) (x4 : Int32) (x5 : Int32) (s0 : Int64) (s1 : Int64) (s2 : Int32), p_X11_laysVotes_103 a1 a2 K43 K58 post S x3 x4 x5 s0 s1 s2 → VJ X G S 103 [(0, .ref (G.1 143)), (3, .int x3), (4, .int x4), (5, .int x5)] [.long s0, .long s1, .int s2, .ref (G.1 151)] := by
  intro S x3 x4 x5 s0 s1 s2 h
  refine V_ladd C dX11_laysVotes_103 ?_
  obtain ⟨hi, h⟩ := h
  refine V_last C 151 11 (by decide) (by decide) hi dX11_laysVotes_104 ?_
  refine V_topS (fun S16 eS16 => ?_)
  have h := h S16 eS16
  obtain ⟨y17, ey17⟩ : ∃ z : Int32, z = x5 + (-1) := ⟨_, rfl⟩
  have h := h y17 ey17
  refine V_iinc (lv' := [(0, .ref (G.1 143)), (3, .int x3), (4, .int x4), (5, .int y17)]) C 3 [1, 2, 3, 0] y17 dX11_laysVotes_105 rfl (by rw [ey17]; rfl) (by decide) rfl ?_
  refine V_goto (tgt := 58) C dX11_laysVotes_108 (by decide) ?_
  exact hK58 _ _ _ _ h
set_option maxHeartbeats 4000000 in
set_option maxRecDepth 100000 in
theorem q_X11_laysVotes_58 {X : vX} {G : vG}  {post : vSt → Prop} (C : v_Cx X G cX11_laysVotes RX11 6 (v_rm 2 82)) (D : v_Rx X G (v_Qv G post) none)  {a1 : Int32} {a2 : Int32}  {K43 : vSt → Int32 → Int32 → Prop} (hK43 : ∀ S x3 x4, K43 S x3 x4 → VJ X G S 43 [(0, .ref (G.1 143)), (3, .int x3), (4, .int x4)] []) : ∀ (fu : Nat) (S : vSt) (x3 : Int32) (x4 : Int32) (x5 : Int32), p_X11_laysVotes_58 a1 a2 K43 post fu S x3 x4 x5 → VJ X G S 58 [(0, .ref (G.1 143)), (3, .int x3), (4, .int x4), (5, .int x5)] [] := by
  intro fu
  induction fu with
  | zero => intro S x3 x4 x5 h; exact absurd h id
  | succ fu ih =>
    intro S x3 x4 x5 h
    have hK58 := ih
    rw [e_X11_laysVotes_58] at h
    refine V_iload C 3 dX11_laysVotes_58 rfl ?_
    refine V_if_lt (tgt := 111) C dX11_laysVotes_60 (by decide) (fun c => ?_) (fun c => ?_)
    · have h := h.1 c
      obtain ⟨y15, ey15⟩ : ∃ z : Int32, z = x4 + 1 := ⟨_, rfl⟩
      have h := h y15 ey15
      refine V_iinc (lv' := [(0, .ref (G.1 143)), (3, .int x3), (4, .int y15), (5, .int x5)]) C 2 [1, 2, 0, 3] y15 dX11_laysVotes_111 rfl (by rw [ey15]; rfl) (by decide) rfl ?_
      refine V_goto (tgt := 43) C dX11_laysVotes_114 (by decide) ?_
      refine V_loc (lv' := [(0, .ref (G.1 143)), (3, .int x3), (4, .int y15)]) [0, 1, 2] rfl ?_
      exact hK43 _ _ _ h
    · have h := h.2 c
      refine V_aload_n C 0 dX11_laysVotes_63 rfl rfl ?_
      refine V_ga C 143 (by decide) (by decide) F_11_27 k_RX11_44 dX11_laysVotes_64 ?_
      refine V_iload C 3 dX11_laysVotes_67 rfl ?_
      refine V_aload_n C 0 dX11_laysVotes_69 rfl rfl ?_
      refine V_ga C 143 (by decide) (by decide) F_11_27 k_RX11_44 dX11_laysVotes_70 ?_
      refine V_iload C 3 dX11_laysVotes_73 rfl ?_
      obtain ⟨hi, h⟩ := h
      refine V_lald C 151 11 (by decide) (by decide) hi dX11_laysVotes_75 ?_
      refine V_bipush (v := 16) C dX11_laysVotes_76 (by decide) ?_
      refine V_iload_n C 1 dX11_laysVotes_78 rfl rfl ?_
      refine V_isub C dX11_laysVotes_79 ?_
      refine V_i2l C dX11_laysVotes_80 ?_
      refine V_lmul C dX11_laysVotes_81 ?_
      refine V_iload C 3 dX11_laysVotes_82 rfl ?_
      refine V_if_ne (tgt := 91) C dX11_laysVotes_84 (by decide) (fun c => ?_) (fun c => ?_)
      · have h := h.1 c
        refine V_aload_n C 0 dX11_laysVotes_91 rfl rfl ?_
        refine V_ga C 143 (by decide) (by decide) F_11_27 k_RX11_44 dX11_laysVotes_92 ?_
        refine V_iload C 3 dX11_laysVotes_95 rfl ?_
        refine V_iconst (v := 1) C dX11_laysVotes_97 (by decide) ?_
        refine V_isub C dX11_laysVotes_98 ?_
        obtain ⟨hi, h⟩ := h
        refine V_lald C 151 11 (by decide) (by decide) hi dX11_laysVotes_99 ?_
        refine V_iload_n C 1 dX11_laysVotes_100 rfl rfl ?_
        refine V_i2l C dX11_laysVotes_101 ?_
        refine V_lmul C dX11_laysVotes_102 ?_
        exact q_X11_laysVotes_103 C D hK43 hK58 _ _ _ _ _ _ _ h
      · have h := h.2 c
        refine V_lconst (v := 0) C dX11_laysVotes_87 (by decide) ?_
        refine V_goto (tgt := 103) C dX11_laysVotes_88 (by decide) ?_
        exact q_X11_laysVotes_103 C D hK43 hK58 _ _ _ _ _ _ _ h
set_option maxHeartbeats 4000000 in
set_option maxRecDepth 100000 in
theorem q_X11_laysVotes_43 {X : vX} {G : vG}  {post : vSt → Prop} (C : v_Cx X G cX11_laysVotes RX11 6 (v_rm 2 82)) (D : v_Rx X G (v_Qv G post) none)  {a1 : Int32} {a2 : Int32}   : ∀ (fu : Nat) (S : vSt) (x3 : Int32) (x4 : Int32), p_X11_laysVotes_43 a1 a2 post fu S x3 x4 → VJ X G S 43 [(0, .ref (G.1 143)), (3, .int x3), (4, .int x4)] [] := by
  intro fu
  induction fu with
  | zero => intro S x3 x4 h; exact absurd h id
  | succ fu ih =>
    intro S x3 x4 h
    have hK43 := ih
    rw [e_X11_laysVotes_43] at h
    refine V_iload C 2 dX11_laysVotes_43 rfl ?_
    refine V_aload_n C 0 dX11_laysVotes_45 rfl rfl ?_
    refine V_ga C 143 (by decide) (by decide) F_11_20 k_RX11_35 dX11_laysVotes_46 ?_
    refine V_iconst (v := 2) C dX11_laysVotes_49 (by decide) ?_
    obtain ⟨hi, h⟩ := h
    refine V_iald C 148 1900 (by decide) (by decide) hi dX11_laysVotes_50 ?_
    refine V_icmp_ge (tgt := 117) C dX11_laysVotes_51 (by decide) (fun c => ?_) (fun c => ?_)
    · have h := h.1 c
      exact V_vret C D dX11_laysVotes_117 h
    · have h := h.2 c
      refine V_bipush (v := 9) C dX11_laysVotes_54 (by decide) ?_
      refine V_istore (lv' := [(0, .ref (G.1 143)), (3, .int x3), (4, .int x4), (5, .int 9)]) C [1, 2, 3, 0] dX11_laysVotes_56 (by decide) rfl ?_
      obtain ⟨fu58, h⟩ := h
      exact q_X11_laysVotes_58 C D hK43 fu58 _ _ _ _ h
set_option maxHeartbeats 4000000 in
set_option maxRecDepth 100000 in
theorem q_X11_laysVotes_33 {X : vX} {G : vG}  {post : vSt → Prop} (C : v_Cx X G cX11_laysVotes RX11 6 (v_rm 2 82)) (D : v_Rx X G (v_Qv G post) none)  {a1 : Int32} {a2 : Int32}  {K10 : vSt → Int32 → Int32 → Prop} (hK10 : ∀ S x3 x4, K10 S x3 x4 → VJ X G S 10 [(0, .ref (G.1 143)), (3, .int x3), (4, .int x4)] []) : ∀ (S : vSt) (x3 : Int32) (x4 : Int32) (s0 : Int64) (s1 : Int32), p_X11_laysVotes_33 a1 a2 K10 post S x3 x4 s0 s1 → VJ X G S 33 [(0, .ref (G.1 143)), (3, .int x3), (4, .int x4)] [.long s0, .int s1, .ref (G.1 151)] := by
  intro S x3 x4 s0 s1 h
  obtain ⟨hi, h⟩ := h
  refine V_last C 151 11 (by decide) (by decide) hi dX11_laysVotes_33 ?_
  refine V_topS (fun S15 eS15 => ?_)
  have h := h S15 eS15
  obtain ⟨y16, ey16⟩ : ∃ z : Int32, z = x4 + 1 := ⟨_, rfl⟩
  have h := h y16 ey16
  refine V_iinc (lv' := [(0, .ref (G.1 143)), (3, .int x3), (4, .int y16)]) C 2 [1, 2, 0] y16 dX11_laysVotes_34 rfl (by rw [ey16]; rfl) (by decide) rfl ?_
  refine V_goto (tgt := 10) C dX11_laysVotes_37 (by decide) ?_
  exact hK10 _ _ _ h
set_option maxHeartbeats 4000000 in
set_option maxRecDepth 100000 in
theorem q_X11_laysVotes_10 {X : vX} {G : vG}  {post : vSt → Prop} (C : v_Cx X G cX11_laysVotes RX11 6 (v_rm 2 82)) (D : v_Rx X G (v_Qv G post) none)  {a1 : Int32} {a2 : Int32}   : ∀ (fu : Nat) (S : vSt) (x3 : Int32) (x4 : Int32), p_X11_laysVotes_10 a1 a2 post fu S x3 x4 → VJ X G S 10 [(0, .ref (G.1 143)), (3, .int x3), (4, .int x4)] [] := by
  intro fu
  induction fu with
  | zero => intro S x3 x4 h; exact absurd h id
  | succ fu ih =>
    intro S x3 x4 h
    have hK10 := ih
    rw [e_X11_laysVotes_10] at h
    refine V_iload C 2 dX11_laysVotes_10 rfl ?_
    refine V_bipush (v := 9) C dX11_laysVotes_12 (by decide) ?_
    refine V_icmp_gt (tgt := 40) C dX11_laysVotes_14 (by decide) (fun c => ?_) (fun c => ?_)
    · have h := h.1 c
      refine V_iconst (v := 0) C dX11_laysVotes_40 (by decide) ?_
      refine V_istore (lv' := [(0, .ref (G.1 143)), (3, .int x3), (4, .int 0)]) C [1, 2, 0] dX11_laysVotes_41 (by decide) rfl ?_
      obtain ⟨fu43, h⟩ := h
      exact q_X11_laysVotes_43 C D  fu43 _ _ _ h
    · have h := h.2 c
      refine V_aload_n C 0 dX11_laysVotes_17 rfl rfl ?_
      refine V_ga C 143 (by decide) (by decide) F_11_27 k_RX11_44 dX11_laysVotes_18 ?_
      refine V_iload C 2 dX11_laysVotes_21 rfl ?_
      refine V_iload C 2 dX11_laysVotes_23 rfl ?_
      refine V_if_ne (tgt := 32) C dX11_laysVotes_25 (by decide) (fun c => ?_) (fun c => ?_)
      · have h := h.1 c
        refine V_lconst (v := 0) C dX11_laysVotes_32 (by decide) ?_
        exact q_X11_laysVotes_33 C D hK10 _ _ _ _ _ h
      · have h := h.2 c
        refine V_lconst (v := 1) C dX11_laysVotes_28 (by decide) ?_
        refine V_goto (tgt := 33) C dX11_laysVotes_29 (by decide) ?_
        exact q_X11_laysVotes_33 C D hK10 _ _ _ _ _ h
set_option maxHeartbeats 4000000 in
set_option maxRecDepth 100000 in
theorem c_X11_laysVotes (l : Launch) (G : vG)    {S : vSt} (a1 : Int32) (a2 : Int32) (post : vSt → Prop) (h : p_X11_laysVotes   S a1 a2 post) : Met l yX11_laysVotes (v_ws yX11_laysVotes cX11_laysVotes 6 none) (v_rm 2 82) (v_Pc G [.ref (G.1 143), .int a1, .int a2] S) (v_Qv G post) 0 0 (v_A G) := by
  refine v_start (by decide +kernel) (Nat.le_of_ble_eq_true rfl) (fun X hl C D => ?_)
  subst hl
  have C : v_Cx X G cX11_laysVotes RX11 6 (v_rm 2 82) := C
  show VJ X G S 0 [(0, .ref (G.1 143)), (1, .int a1), (2, .int a2)] []
  refine V_aload_n C 0 dX11_laysVotes_0 rfl rfl ?_
  refine V_iload_n C 1 dX11_laysVotes_1 rfl rfl ?_
  refine V_iload_n C 2 dX11_laysVotes_2 rfl rfl ?_
  refine V_callVi (As := [.int a1, .int a2]) (rest := []) C (c_X11_chanceOf (v_l X) G  _ _ _ h) 143 11 (by decide) (by decide) (by decide) rfl KV_X11_chanceOf k_RX11_348 rfl rfl rfl (Nat.le_of_ble_eq_true rfl) ⟨Nat.le_of_ble_eq_true rfl, Nat.le_of_ble_eq_true rfl⟩ dX11_laysVotes_3 (fun r14 S13 h => ?_)
  refine V_istore_n (lv' := [(0, .ref (G.1 143)), (1, .int a1), (2, .int a2), (3, .int r14)]) C [1, 2, 3, 0] dX11_laysVotes_6 rfl (by decide) rfl ?_
  refine V_iconst (v := 0) C dX11_laysVotes_7 (by decide) ?_
  refine V_istore (lv' := [(0, .ref (G.1 143)), (1, .int a1), (2, .int a2), (3, .int r14), (4, .int 0)]) C [1, 2, 3, 4, 0] dX11_laysVotes_8 (by decide) rfl ?_
  refine V_loc (lv' := [(0, .ref (G.1 143)), (3, .int r14), (4, .int 0)]) [0, 3, 4] rfl ?_
  obtain ⟨fu10, h⟩ := h
  exact q_X11_laysVotes_10 C D  fu10 _ _ _ h
/-! HalfAccuserModel.winning(II)J -/
theorem dX11_winning_0 : decode cX11_winning 0 = .ok ((.aload_n 0), 1) := by decide +kernel
theorem dX11_winning_1 : decode cX11_winning 1 = .ok ((.iload_n 1), 1) := by decide +kernel
theorem dX11_winning_2 : decode cX11_winning 2 = .ok ((.iload_n 2), 1) := by decide +kernel
theorem dX11_winning_3 : decode cX11_winning 3 = .ok ((.invokevirtual 374), 3) := by decide +kernel
theorem dX11_winning_6 : decode cX11_winning 6 = .ok ((.lconst 0), 1) := by decide +kernel
theorem dX11_winning_7 : decode cX11_winning 7 = .ok ((.lstore_n 3), 1) := by decide +kernel
theorem dX11_winning_8 : decode cX11_winning 8 = .ok ((.iconst 0), 1) := by decide +kernel
theorem dX11_winning_9 : decode cX11_winning 9 = .ok ((.istore 5), 2) := by decide +kernel
theorem dX11_winning_11 : decode cX11_winning 11 = .ok ((.iload 5), 2) := by decide +kernel
theorem dX11_winning_13 : decode cX11_winning 13 = .ok ((.aload_n 0), 1) := by decide +kernel
theorem dX11_winning_14 : decode cX11_winning 14 = .ok ((.getfield 35), 3) := by decide +kernel
theorem dX11_winning_17 : decode cX11_winning 17 = .ok ((.iconst 2), 1) := by decide +kernel
theorem dX11_winning_18 : decode cX11_winning 18 = .ok (.iaload, 1) := by decide +kernel
theorem dX11_winning_19 : decode cX11_winning 19 = .ok ((.if_icmp .gt 36), 3) := by decide +kernel
theorem dX11_winning_22 : decode cX11_winning 22 = .ok ((.lload_n 3), 1) := by decide +kernel
theorem dX11_winning_23 : decode cX11_winning 23 = .ok ((.iconst 2), 1) := by decide +kernel
theorem dX11_winning_24 : decode cX11_winning 24 = .ok ((.iload 5), 2) := by decide +kernel
theorem dX11_winning_26 : decode cX11_winning 26 = .ok (.imul, 1) := by decide +kernel
theorem dX11_winning_27 : decode cX11_winning 27 = .ok ((.aload_n 0), 1) := by decide +kernel
theorem dX11_winning_28 : decode cX11_winning 28 = .ok ((.getfield 35), 3) := by decide +kernel
theorem dX11_winning_31 : decode cX11_winning 31 = .ok ((.iconst 2), 1) := by decide +kernel
theorem dX11_winning_32 : decode cX11_winning 32 = .ok (.iaload, 1) := by decide +kernel
theorem dX11_winning_33 : decode cX11_winning 33 = .ok ((.if_icmp .le 13), 3) := by decide +kernel
theorem dX11_winning_36 : decode cX11_winning 36 = .ok ((.aload_n 0), 1) := by decide +kernel
theorem dX11_winning_37 : decode cX11_winning 37 = .ok ((.getfield 44), 3) := by decide +kernel
theorem dX11_winning_40 : decode cX11_winning 40 = .ok ((.iload 5), 2) := by decide +kernel
theorem dX11_winning_42 : decode cX11_winning 42 = .ok (.laload, 1) := by decide +kernel
theorem dX11_winning_43 : decode cX11_winning 43 = .ok ((.goto 4), 3) := by decide +kernel
theorem dX11_winning_46 : decode cX11_winning 46 = .ok ((.lconst 0), 1) := by decide +kernel
theorem dX11_winning_47 : decode cX11_winning 47 = .ok (.ladd, 1) := by decide +kernel
theorem dX11_winning_48 : decode cX11_winning 48 = .ok ((.lstore_n 3), 1) := by decide +kernel
theorem dX11_winning_49 : decode cX11_winning 49 = .ok ((.iinc 5 1), 3) := by decide +kernel
theorem dX11_winning_52 : decode cX11_winning 52 = .ok ((.goto (-41)), 3) := by decide +kernel
theorem dX11_winning_55 : decode cX11_winning 55 = .ok ((.lload_n 3), 1) := by decide +kernel
theorem dX11_winning_56 : decode cX11_winning 56 = .ok (.lreturn, 1) := by decide +kernel
def p_X11_winning_47  (a1 : Int32) (a2 : Int32)  (K11 : vSt → Int64 → Int32 → Prop) (post : Int64 → vSt → Prop) (S : vSt) (x5 : Int32) (s0 : Int64) (s1 : Int64) : Prop := ∀ y7 : Int64, y7 = (s1 + s0) → ∀ y8 : Int32, y8 = x5 + 1 → K11 S y7 y8
def p_X11_winning_11  (a1 : Int32) (a2 : Int32)   (post : Int64 → vSt → Prop) : Nat → vSt → Int64 → Int32 → Prop
  | 0 => fun _ _ _ => False
  | fu11 + 1 => fun S x3 x5 => (vp_in 2 1900 ∧ (((S.1 148 (Int32.toNatClampNeg 2)) < x5 → post x3 S) ∧ (¬ (S.1 148 (Int32.toNatClampNeg 2)) < x5 → (vp_in 2 1900 ∧ (((2 * x5) ≤ (S.1 148 (Int32.toNatClampNeg 2)) → p_X11_winning_47 a1 a2 (p_X11_winning_11 a1 a2 post fu11) post S x5 0 x3) ∧ (¬ (2 * x5) ≤ (S.1 148 (Int32.toNatClampNeg 2)) → (vp_in x5 11 ∧ p_X11_winning_47 a1 a2 (p_X11_winning_11 a1 a2 post fu11) post S x5 (S.2 151 (Int32.toNatClampNeg x5)) x3)))))))
theorem e_X11_winning_11  (a1 : Int32) (a2 : Int32)   (post : Int64 → vSt → Prop) (fu11 : Nat) (S : vSt) (x3 : Int64) (x5 : Int32) : p_X11_winning_11 a1 a2 post (fu11 + 1) S x3 x5 = ((vp_in 2 1900 ∧ (((S.1 148 (Int32.toNatClampNeg 2)) < x5 → post x3 S) ∧ (¬ (S.1 148 (Int32.toNatClampNeg 2)) < x5 → (vp_in 2 1900 ∧ (((2 * x5) ≤ (S.1 148 (Int32.toNatClampNeg 2)) → p_X11_winning_47 a1 a2 (p_X11_winning_11 a1 a2 post fu11) post S x5 0 x3) ∧ (¬ (2 * x5) ≤ (S.1 148 (Int32.toNatClampNeg 2)) → (vp_in x5 11 ∧ p_X11_winning_47 a1 a2 (p_X11_winning_11 a1 a2 post fu11) post S x5 (S.2 151 (Int32.toNatClampNeg x5)) x3)))))))) := rfl
def p_X11_winning   (S : vSt) (a1 : Int32) (a2 : Int32) (post : Int64 → vSt → Prop) : Prop := p_X11_laysVotes  S a1 a2 (fun S6 => ∃ fu11, p_X11_winning_11 a1 a2 post fu11 S6 0 0)
set_option maxHeartbeats 4000000 in
set_option maxRecDepth 100000 in
theorem q_X11_winning_47 {X : vX} {G : vG}  {post : Int64 → vSt → Prop} (C : v_Cx X G cX11_winning RX11 6 (v_rm 3 107)) (D : v_Rx X G (v_Ql G post) (some .long))  {a1 : Int32} {a2 : Int32}  {K11 : vSt → Int64 → Int32 → Prop} (hK11 : ∀ S x3 x5, K11 S x3 x5 → VJ X G S 11 [(0, .ref (G.1 143)), (3, .long x3), (5, .int x5)] []) : ∀ (S : vSt) (x5 : Int32) (s0 : Int64) (s1 : Int64), p_X11_winning_47 a1 a2 K11 post S x5 s0 s1 → VJ X G S 47 [(0, .ref (G.1 143)), (5, .int x5)] [.long s0, .long s1] := by
  intro S x5 s0 s1 h
  refine V_ladd C dX11_winning_47 ?_
  refine V_topl (fun y7 ey7 => ?_)
  have h := h y7 ey7
  refine V_lstore_n (lv' := [(0, .ref (G.1 143)), (3, .long y7), (5, .int x5)]) C [1, 0, 2] dX11_winning_48 rfl (by decide) rfl ?_
  obtain ⟨y8, ey8⟩ : ∃ z : Int32, z = x5 + 1 := ⟨_, rfl⟩
  have h := h y8 ey8
  refine V_iinc (lv' := [(0, .ref (G.1 143)), (3, .long y7), (5, .int y8)]) C 2 [1, 2, 0] y8 dX11_winning_49 rfl (by rw [ey8]; rfl) (by decide) rfl ?_
  refine V_goto (tgt := 11) C dX11_winning_52 (by decide) ?_
  exact hK11 _ _ _ h
set_option maxHeartbeats 4000000 in
set_option maxRecDepth 100000 in
theorem q_X11_winning_11 {X : vX} {G : vG}  {post : Int64 → vSt → Prop} (C : v_Cx X G cX11_winning RX11 6 (v_rm 3 107)) (D : v_Rx X G (v_Ql G post) (some .long))  {a1 : Int32} {a2 : Int32}   : ∀ (fu : Nat) (S : vSt) (x3 : Int64) (x5 : Int32), p_X11_winning_11 a1 a2 post fu S x3 x5 → VJ X G S 11 [(0, .ref (G.1 143)), (3, .long x3), (5, .int x5)] [] := by
  intro fu
  induction fu with
  | zero => intro S x3 x5 h; exact absurd h id
  | succ fu ih =>
    intro S x3 x5 h
    have hK11 := ih
    rw [e_X11_winning_11] at h
    refine V_iload C 2 dX11_winning_11 rfl ?_
    refine V_aload_n C 0 dX11_winning_13 rfl rfl ?_
    refine V_ga C 143 (by decide) (by decide) F_11_20 k_RX11_35 dX11_winning_14 ?_
    refine V_iconst (v := 2) C dX11_winning_17 (by decide) ?_
    obtain ⟨hi, h⟩ := h
    refine V_iald C 148 1900 (by decide) (by decide) hi dX11_winning_18 ?_
    refine V_icmp_gt (tgt := 55) C dX11_winning_19 (by decide) (fun c => ?_) (fun c => ?_)
    · have h := h.1 c
      refine V_lload_n C 1 dX11_winning_55 rfl rfl ?_
      exact V_lret C D dX11_winning_56 h
    · have h := h.2 c
      refine V_lload_n C 1 dX11_winning_22 rfl rfl ?_
      refine V_iconst (v := 2) C dX11_winning_23 (by decide) ?_
      refine V_iload C 2 dX11_winning_24 rfl ?_
      refine V_imul C dX11_winning_26 ?_
      refine V_aload_n C 0 dX11_winning_27 rfl rfl ?_
      refine V_ga C 143 (by decide) (by decide) F_11_20 k_RX11_35 dX11_winning_28 ?_
      refine V_iconst (v := 2) C dX11_winning_31 (by decide) ?_
      obtain ⟨hi, h⟩ := h
      refine V_iald C 148 1900 (by decide) (by decide) hi dX11_winning_32 ?_
      refine V_icmp_le (tgt := 46) C dX11_winning_33 (by decide) (fun c => ?_) (fun c => ?_)
      · have h := h.1 c
        refine V_lconst (v := 0) C dX11_winning_46 (by decide) ?_
        refine V_loc (lv' := [(0, .ref (G.1 143)), (5, .int x5)]) [0, 2] rfl ?_
        exact q_X11_winning_47 C D hK11 _ _ _ _ h
      · have h := h.2 c
        refine V_aload_n C 0 dX11_winning_36 rfl rfl ?_
        refine V_ga C 143 (by decide) (by decide) F_11_27 k_RX11_44 dX11_winning_37 ?_
        refine V_iload C 2 dX11_winning_40 rfl ?_
        obtain ⟨hi, h⟩ := h
        refine V_lald C 151 11 (by decide) (by decide) hi dX11_winning_42 ?_
        refine V_goto (tgt := 47) C dX11_winning_43 (by decide) ?_
        refine V_loc (lv' := [(0, .ref (G.1 143)), (5, .int x5)]) [0, 2] rfl ?_
        exact q_X11_winning_47 C D hK11 _ _ _ _ h
set_option maxHeartbeats 4000000 in
set_option maxRecDepth 100000 in
theorem c_X11_winning (l : Launch) (G : vG)    {S : vSt} (a1 : Int32) (a2 : Int32) (post : Int64 → vSt → Prop) (h : p_X11_winning   S a1 a2 post) : Met l yX11_winning (v_ws yX11_winning cX11_winning 6 (some .long)) (v_rm 3 107) (v_Pc G [.ref (G.1 143), .int a1, .int a2] S) (v_Ql G post) 0 0 (v_A G) := by
  refine v_start (by decide +kernel) (Nat.le_of_ble_eq_true rfl) (fun X hl C D => ?_)
  subst hl
  have C : v_Cx X G cX11_winning RX11 6 (v_rm 3 107) := C
  show VJ X G S 0 [(0, .ref (G.1 143)), (1, .int a1), (2, .int a2)] []
  refine V_aload_n C 0 dX11_winning_0 rfl rfl ?_
  refine V_iload_n C 1 dX11_winning_1 rfl rfl ?_
  refine V_iload_n C 2 dX11_winning_2 rfl rfl ?_
  refine V_callVv (As := [.int a1, .int a2]) (rest := []) C (c_X11_laysVotes (v_l X) G  _ _ _ h) 143 11 (by decide) (by decide) (by decide) rfl KV_X11_laysVotes k_RX11_374 rfl rfl rfl (Nat.le_of_ble_eq_true rfl) ⟨Nat.le_of_ble_eq_true rfl, Nat.le_of_ble_eq_true rfl⟩ dX11_winning_3 (fun S6 h => ?_)
  refine V_lconst (v := 0) C dX11_winning_6 (by decide) ?_
  refine V_lstore_n (lv' := [(0, .ref (G.1 143)), (1, .int a1), (2, .int a2), (3, .long 0)]) C [1, 2, 3, 0] dX11_winning_7 rfl (by decide) rfl ?_
  refine V_iconst (v := 0) C dX11_winning_8 (by decide) ?_
  refine V_istore (lv' := [(0, .ref (G.1 143)), (1, .int a1), (2, .int a2), (3, .long 0), (5, .int 0)]) C [1, 2, 3, 4, 0] dX11_winning_9 (by decide) rfl ?_
  refine V_loc (lv' := [(0, .ref (G.1 143)), (3, .long 0), (5, .int 0)]) [0, 3, 4] rfl ?_
  obtain ⟨fu11, h⟩ := h
  exact q_X11_winning_11 C D  fu11 _ _ _ h
/-! HalfAccuserModel.owing(II)J -/
theorem dX11_owing_0 : decode cX11_owing 0 = .ok ((.aload_n 0), 1) := by decide +kernel
theorem dX11_owing_1 : decode cX11_owing 1 = .ok ((.iload_n 1), 1) := by decide +kernel
theorem dX11_owing_2 : decode cX11_owing 2 = .ok ((.iload_n 2), 1) := by decide +kernel
theorem dX11_owing_3 : decode cX11_owing 3 = .ok ((.invokevirtual 374), 3) := by decide +kernel
theorem dX11_owing_6 : decode cX11_owing 6 = .ok ((.lconst 0), 1) := by decide +kernel
theorem dX11_owing_7 : decode cX11_owing 7 = .ok ((.lstore_n 3), 1) := by decide +kernel
theorem dX11_owing_8 : decode cX11_owing 8 = .ok ((.iconst 0), 1) := by decide +kernel
theorem dX11_owing_9 : decode cX11_owing 9 = .ok ((.istore 5), 2) := by decide +kernel
theorem dX11_owing_11 : decode cX11_owing 11 = .ok ((.iload 5), 2) := by decide +kernel
theorem dX11_owing_13 : decode cX11_owing 13 = .ok ((.aload_n 0), 1) := by decide +kernel
theorem dX11_owing_14 : decode cX11_owing 14 = .ok ((.getfield 35), 3) := by decide +kernel
theorem dX11_owing_17 : decode cX11_owing 17 = .ok ((.iconst 2), 1) := by decide +kernel
theorem dX11_owing_18 : decode cX11_owing 18 = .ok (.iaload, 1) := by decide +kernel
theorem dX11_owing_19 : decode cX11_owing 19 = .ok ((.if_icmp .gt 47), 3) := by decide +kernel
theorem dX11_owing_22 : decode cX11_owing 22 = .ok ((.lload_n 3), 1) := by decide +kernel
theorem dX11_owing_23 : decode cX11_owing 23 = .ok ((.iconst 2), 1) := by decide +kernel
theorem dX11_owing_24 : decode cX11_owing 24 = .ok ((.iload 5), 2) := by decide +kernel
theorem dX11_owing_26 : decode cX11_owing 26 = .ok (.imul, 1) := by decide +kernel
theorem dX11_owing_27 : decode cX11_owing 27 = .ok ((.aload_n 0), 1) := by decide +kernel
theorem dX11_owing_28 : decode cX11_owing 28 = .ok ((.getfield 35), 3) := by decide +kernel
theorem dX11_owing_31 : decode cX11_owing 31 = .ok ((.iconst 2), 1) := by decide +kernel
theorem dX11_owing_32 : decode cX11_owing 32 = .ok (.iaload, 1) := by decide +kernel
theorem dX11_owing_33 : decode cX11_owing 33 = .ok ((.if_icmp .gt 24), 3) := by decide +kernel
theorem dX11_owing_36 : decode cX11_owing 36 = .ok ((.iload 5), 2) := by decide +kernel
theorem dX11_owing_38 : decode cX11_owing 38 = .ok ((.aload_n 0), 1) := by decide +kernel
theorem dX11_owing_39 : decode cX11_owing 39 = .ok ((.getfield 35), 3) := by decide +kernel
theorem dX11_owing_42 : decode cX11_owing 42 = .ok ((.iconst 3), 1) := by decide +kernel
theorem dX11_owing_43 : decode cX11_owing 43 = .ok (.iaload, 1) := by decide +kernel
theorem dX11_owing_44 : decode cX11_owing 44 = .ok ((.if_icmp .ge 13), 3) := by decide +kernel
theorem dX11_owing_47 : decode cX11_owing 47 = .ok ((.aload_n 0), 1) := by decide +kernel
theorem dX11_owing_48 : decode cX11_owing 48 = .ok ((.getfield 44), 3) := by decide +kernel
theorem dX11_owing_51 : decode cX11_owing 51 = .ok ((.iload 5), 2) := by decide +kernel
theorem dX11_owing_53 : decode cX11_owing 53 = .ok (.laload, 1) := by decide +kernel
theorem dX11_owing_54 : decode cX11_owing 54 = .ok ((.goto 4), 3) := by decide +kernel
theorem dX11_owing_57 : decode cX11_owing 57 = .ok ((.lconst 0), 1) := by decide +kernel
theorem dX11_owing_58 : decode cX11_owing 58 = .ok (.ladd, 1) := by decide +kernel
theorem dX11_owing_59 : decode cX11_owing 59 = .ok ((.lstore_n 3), 1) := by decide +kernel
theorem dX11_owing_60 : decode cX11_owing 60 = .ok ((.iinc 5 1), 3) := by decide +kernel
theorem dX11_owing_63 : decode cX11_owing 63 = .ok ((.goto (-52)), 3) := by decide +kernel
theorem dX11_owing_66 : decode cX11_owing 66 = .ok ((.lload_n 3), 1) := by decide +kernel
theorem dX11_owing_67 : decode cX11_owing 67 = .ok (.lreturn, 1) := by decide +kernel
def p_X11_owing_58  (a1 : Int32) (a2 : Int32)  (K11 : vSt → Int64 → Int32 → Prop) (post : Int64 → vSt → Prop) (S : vSt) (x5 : Int32) (s0 : Int64) (s1 : Int64) : Prop := ∀ y7 : Int64, y7 = (s1 + s0) → ∀ y8 : Int32, y8 = x5 + 1 → K11 S y7 y8
def p_X11_owing_57  (a1 : Int32) (a2 : Int32)  (K11 : vSt → Int64 → Int32 → Prop) (post : Int64 → vSt → Prop) (S : vSt) (x5 : Int32) (s0 : Int64) : Prop := p_X11_owing_58 a1 a2 K11 post S x5 0 s0
def p_X11_owing_11  (a1 : Int32) (a2 : Int32)   (post : Int64 → vSt → Prop) : Nat → vSt → Int64 → Int32 → Prop
  | 0 => fun _ _ _ => False
  | fu11 + 1 => fun S x3 x5 => (vp_in 2 1900 ∧ (((S.1 148 (Int32.toNatClampNeg 2)) < x5 → post x3 S) ∧ (¬ (S.1 148 (Int32.toNatClampNeg 2)) < x5 → (vp_in 2 1900 ∧ (((S.1 148 (Int32.toNatClampNeg 2)) < (2 * x5) → p_X11_owing_57 a1 a2 (p_X11_owing_11 a1 a2 post fu11) post S x5 x3) ∧ (¬ (S.1 148 (Int32.toNatClampNeg 2)) < (2 * x5) → (vp_in 3 1900 ∧ (((S.1 148 (Int32.toNatClampNeg 3)) ≤ x5 → p_X11_owing_57 a1 a2 (p_X11_owing_11 a1 a2 post fu11) post S x5 x3) ∧ (¬ (S.1 148 (Int32.toNatClampNeg 3)) ≤ x5 → (vp_in x5 11 ∧ p_X11_owing_58 a1 a2 (p_X11_owing_11 a1 a2 post fu11) post S x5 (S.2 151 (Int32.toNatClampNeg x5)) x3))))))))))
theorem e_X11_owing_11  (a1 : Int32) (a2 : Int32)   (post : Int64 → vSt → Prop) (fu11 : Nat) (S : vSt) (x3 : Int64) (x5 : Int32) : p_X11_owing_11 a1 a2 post (fu11 + 1) S x3 x5 = ((vp_in 2 1900 ∧ (((S.1 148 (Int32.toNatClampNeg 2)) < x5 → post x3 S) ∧ (¬ (S.1 148 (Int32.toNatClampNeg 2)) < x5 → (vp_in 2 1900 ∧ (((S.1 148 (Int32.toNatClampNeg 2)) < (2 * x5) → p_X11_owing_57 a1 a2 (p_X11_owing_11 a1 a2 post fu11) post S x5 x3) ∧ (¬ (S.1 148 (Int32.toNatClampNeg 2)) < (2 * x5) → (vp_in 3 1900 ∧ (((S.1 148 (Int32.toNatClampNeg 3)) ≤ x5 → p_X11_owing_57 a1 a2 (p_X11_owing_11 a1 a2 post fu11) post S x5 x3) ∧ (¬ (S.1 148 (Int32.toNatClampNeg 3)) ≤ x5 → (vp_in x5 11 ∧ p_X11_owing_58 a1 a2 (p_X11_owing_11 a1 a2 post fu11) post S x5 (S.2 151 (Int32.toNatClampNeg x5)) x3))))))))))) := rfl
def p_X11_owing   (S : vSt) (a1 : Int32) (a2 : Int32) (post : Int64 → vSt → Prop) : Prop := p_X11_laysVotes  S a1 a2 (fun S6 => ∃ fu11, p_X11_owing_11 a1 a2 post fu11 S6 0 0)
set_option maxHeartbeats 4000000 in
set_option maxRecDepth 100000 in
theorem q_X11_owing_58 {X : vX} {G : vG}  {post : Int64 → vSt → Prop} (C : v_Cx X G cX11_owing RX11 6 (v_rm 3 107)) (D : v_Rx X G (v_Ql G post) (some .long))  {a1 : Int32} {a2 : Int32}  {K11 : vSt → Int64 → Int32 → Prop} (hK11 : ∀ S x3 x5, K11 S x3 x5 → VJ X G S 11 [(0, .ref (G.1 143)), (3, .long x3), (5, .int x5)] []) : ∀ (S : vSt) (x5 : Int32) (s0 : Int64) (s1 : Int64), p_X11_owing_58 a1 a2 K11 post S x5 s0 s1 → VJ X G S 58 [(0, .ref (G.1 143)), (5, .int x5)] [.long s0, .long s1] := by
  intro S x5 s0 s1 h
  refine V_ladd C dX11_owing_58 ?_
  refine V_topl (fun y7 ey7 => ?_)
  have h := h y7 ey7
  refine V_lstore_n (lv' := [(0, .ref (G.1 143)), (3, .long y7), (5, .int x5)]) C [1, 0, 2] dX11_owing_59 rfl (by decide) rfl ?_
  obtain ⟨y8, ey8⟩ : ∃ z : Int32, z = x5 + 1 := ⟨_, rfl⟩
  have h := h y8 ey8
  refine V_iinc (lv' := [(0, .ref (G.1 143)), (3, .long y7), (5, .int y8)]) C 2 [1, 2, 0] y8 dX11_owing_60 rfl (by rw [ey8]; rfl) (by decide) rfl ?_
  refine V_goto (tgt := 11) C dX11_owing_63 (by decide) ?_
  exact hK11 _ _ _ h
set_option maxHeartbeats 4000000 in
set_option maxRecDepth 100000 in
theorem q_X11_owing_57 {X : vX} {G : vG}  {post : Int64 → vSt → Prop} (C : v_Cx X G cX11_owing RX11 6 (v_rm 3 107)) (D : v_Rx X G (v_Ql G post) (some .long))  {a1 : Int32} {a2 : Int32}  {K11 : vSt → Int64 → Int32 → Prop} (hK11 : ∀ S x3 x5, K11 S x3 x5 → VJ X G S 11 [(0, .ref (G.1 143)), (3, .long x3), (5, .int x5)] []) : ∀ (S : vSt) (x5 : Int32) (s0 : Int64), p_X11_owing_57 a1 a2 K11 post S x5 s0 → VJ X G S 57 [(0, .ref (G.1 143)), (5, .int x5)] [.long s0] := by
  intro S x5 s0 h
  refine V_lconst (v := 0) C dX11_owing_57 (by decide) ?_
  exact q_X11_owing_58 C D hK11 _ _ _ _ h
set_option maxHeartbeats 4000000 in
set_option maxRecDepth 100000 in
theorem q_X11_owing_11 {X : vX} {G : vG}  {post : Int64 → vSt → Prop} (C : v_Cx X G cX11_owing RX11 6 (v_rm 3 107)) (D : v_Rx X G (v_Ql G post) (some .long))  {a1 : Int32} {a2 : Int32}   : ∀ (fu : Nat) (S : vSt) (x3 : Int64) (x5 : Int32), p_X11_owing_11 a1 a2 post fu S x3 x5 → VJ X G S 11 [(0, .ref (G.1 143)), (3, .long x3), (5, .int x5)] [] := by
  intro fu
  induction fu with
  | zero => intro S x3 x5 h; exact absurd h id
  | succ fu ih =>
    intro S x3 x5 h
    have hK11 := ih
    rw [e_X11_owing_11] at h
    refine V_iload C 2 dX11_owing_11 rfl ?_
    refine V_aload_n C 0 dX11_owing_13 rfl rfl ?_
    refine V_ga C 143 (by decide) (by decide) F_11_20 k_RX11_35 dX11_owing_14 ?_
    refine V_iconst (v := 2) C dX11_owing_17 (by decide) ?_
    obtain ⟨hi, h⟩ := h
    refine V_iald C 148 1900 (by decide) (by decide) hi dX11_owing_18 ?_
    refine V_icmp_gt (tgt := 66) C dX11_owing_19 (by decide) (fun c => ?_) (fun c => ?_)
    · have h := h.1 c
      refine V_lload_n C 1 dX11_owing_66 rfl rfl ?_
      exact V_lret C D dX11_owing_67 h
    · have h := h.2 c
      refine V_lload_n C 1 dX11_owing_22 rfl rfl ?_
      refine V_iconst (v := 2) C dX11_owing_23 (by decide) ?_
      refine V_iload C 2 dX11_owing_24 rfl ?_
      refine V_imul C dX11_owing_26 ?_
      refine V_aload_n C 0 dX11_owing_27 rfl rfl ?_
      refine V_ga C 143 (by decide) (by decide) F_11_20 k_RX11_35 dX11_owing_28 ?_
      refine V_iconst (v := 2) C dX11_owing_31 (by decide) ?_
      obtain ⟨hi, h⟩ := h
      refine V_iald C 148 1900 (by decide) (by decide) hi dX11_owing_32 ?_
      refine V_icmp_gt (tgt := 57) C dX11_owing_33 (by decide) (fun c => ?_) (fun c => ?_)
      · have h := h.1 c
        refine V_loc (lv' := [(0, .ref (G.1 143)), (5, .int x5)]) [0, 2] rfl ?_
        exact q_X11_owing_57 C D hK11 _ _ _ h
      · have h := h.2 c
        refine V_iload C 2 dX11_owing_36 rfl ?_
        refine V_aload_n C 0 dX11_owing_38 rfl rfl ?_
        refine V_ga C 143 (by decide) (by decide) F_11_20 k_RX11_35 dX11_owing_39 ?_
        refine V_iconst (v := 3) C dX11_owing_42 (by decide) ?_
        obtain ⟨hi, h⟩ := h
        refine V_iald C 148 1900 (by decide) (by decide) hi dX11_owing_43 ?_
        refine V_icmp_ge (tgt := 57) C dX11_owing_44 (by decide) (fun c => ?_) (fun c => ?_)
        · have h := h.1 c
          refine V_loc (lv' := [(0, .ref (G.1 143)), (5, .int x5)]) [0, 2] rfl ?_
          exact q_X11_owing_57 C D hK11 _ _ _ h
        · have h := h.2 c
          refine V_aload_n C 0 dX11_owing_47 rfl rfl ?_
          refine V_ga C 143 (by decide) (by decide) F_11_27 k_RX11_44 dX11_owing_48 ?_
          refine V_iload C 2 dX11_owing_51 rfl ?_
          obtain ⟨hi, h⟩ := h
          refine V_lald C 151 11 (by decide) (by decide) hi dX11_owing_53 ?_
          refine V_goto (tgt := 58) C dX11_owing_54 (by decide) ?_
          refine V_loc (lv' := [(0, .ref (G.1 143)), (5, .int x5)]) [0, 2] rfl ?_
          exact q_X11_owing_58 C D hK11 _ _ _ _ h
set_option maxHeartbeats 4000000 in
set_option maxRecDepth 100000 in
theorem c_X11_owing (l : Launch) (G : vG)    {S : vSt} (a1 : Int32) (a2 : Int32) (post : Int64 → vSt → Prop) (h : p_X11_owing   S a1 a2 post) : Met l yX11_owing (v_ws yX11_owing cX11_owing 6 (some .long)) (v_rm 3 107) (v_Pc G [.ref (G.1 143), .int a1, .int a2] S) (v_Ql G post) 0 0 (v_A G) := by
  refine v_start (by decide +kernel) (Nat.le_of_ble_eq_true rfl) (fun X hl C D => ?_)
  subst hl
  have C : v_Cx X G cX11_owing RX11 6 (v_rm 3 107) := C
  show VJ X G S 0 [(0, .ref (G.1 143)), (1, .int a1), (2, .int a2)] []
  refine V_aload_n C 0 dX11_owing_0 rfl rfl ?_
  refine V_iload_n C 1 dX11_owing_1 rfl rfl ?_
  refine V_iload_n C 2 dX11_owing_2 rfl rfl ?_
  refine V_callVv (As := [.int a1, .int a2]) (rest := []) C (c_X11_laysVotes (v_l X) G  _ _ _ h) 143 11 (by decide) (by decide) (by decide) rfl KV_X11_laysVotes k_RX11_374 rfl rfl rfl (Nat.le_of_ble_eq_true rfl) ⟨Nat.le_of_ble_eq_true rfl, Nat.le_of_ble_eq_true rfl⟩ dX11_owing_3 (fun S6 h => ?_)
  refine V_lconst (v := 0) C dX11_owing_6 (by decide) ?_
  refine V_lstore_n (lv' := [(0, .ref (G.1 143)), (1, .int a1), (2, .int a2), (3, .long 0)]) C [1, 2, 3, 0] dX11_owing_7 rfl (by decide) rfl ?_
  refine V_iconst (v := 0) C dX11_owing_8 (by decide) ?_
  refine V_istore (lv' := [(0, .ref (G.1 143)), (1, .int a1), (2, .int a2), (3, .long 0), (5, .int 0)]) C [1, 2, 3, 4, 0] dX11_owing_9 (by decide) rfl ?_
  refine V_loc (lv' := [(0, .ref (G.1 143)), (3, .long 0), (5, .int 0)]) [0, 3, 4] rfl ?_
  obtain ⟨fu11, h⟩ := h
  exact q_X11_owing_11 C D  fu11 _ _ _ h
/-! HalfAccuserModel.gainOf(II)J -/
theorem dX11_gainOf_0 : decode cX11_gainOf 0 = .ok ((.aload_n 0), 1) := by decide +kernel
theorem dX11_gainOf_1 : decode cX11_gainOf 1 = .ok ((.iload_n 1), 1) := by decide +kernel
theorem dX11_gainOf_2 : decode cX11_gainOf 2 = .ok ((.iload_n 2), 1) := by decide +kernel
theorem dX11_gainOf_3 : decode cX11_gainOf 3 = .ok ((.invokevirtual 377), 3) := by decide +kernel
theorem dX11_gainOf_6 : decode cX11_gainOf 6 = .ok ((.aload_n 0), 1) := by decide +kernel
theorem dX11_gainOf_7 : decode cX11_gainOf 7 = .ok ((.iload_n 2), 1) := by decide +kernel
theorem dX11_gainOf_8 : decode cX11_gainOf 8 = .ok ((.invokevirtual 332), 3) := by decide +kernel
theorem dX11_gainOf_11 : decode cX11_gainOf 11 = .ok (.i2l, 1) := by decide +kernel
theorem dX11_gainOf_12 : decode cX11_gainOf 12 = .ok (.lmul, 1) := by decide +kernel
theorem dX11_gainOf_13 : decode cX11_gainOf 13 = .ok ((.aload_n 0), 1) := by decide +kernel
theorem dX11_gainOf_14 : decode cX11_gainOf 14 = .ok ((.iload_n 1), 1) := by decide +kernel
theorem dX11_gainOf_15 : decode cX11_gainOf 15 = .ok ((.iload_n 2), 1) := by decide +kernel
theorem dX11_gainOf_16 : decode cX11_gainOf 16 = .ok ((.invokevirtual 381), 3) := by decide +kernel
theorem dX11_gainOf_19 : decode cX11_gainOf 19 = .ok ((.aload_n 0), 1) := by decide +kernel
theorem dX11_gainOf_20 : decode cX11_gainOf 20 = .ok ((.getfield 35), 3) := by decide +kernel
theorem dX11_gainOf_23 : decode cX11_gainOf 23 = .ok ((.iconst 4), 1) := by decide +kernel
theorem dX11_gainOf_24 : decode cX11_gainOf 24 = .ok (.iaload, 1) := by decide +kernel
theorem dX11_gainOf_25 : decode cX11_gainOf 25 = .ok (.i2l, 1) := by decide +kernel
theorem dX11_gainOf_26 : decode cX11_gainOf 26 = .ok (.lmul, 1) := by decide +kernel
theorem dX11_gainOf_27 : decode cX11_gainOf 27 = .ok (.lsub, 1) := by decide +kernel
theorem dX11_gainOf_28 : decode cX11_gainOf 28 = .ok (.lreturn, 1) := by decide +kernel
def p_X11_gainOf   (S : vSt) (a1 : Int32) (a2 : Int32) (post : Int64 → vSt → Prop) : Prop := p_X11_winning  S a1 a2 (fun r8 S7 => p_X11_part  S7 a2 (fun r10 S9 => p_X11_owing  S9 a1 a2 (fun r12 S11 => (vp_in 4 1900 ∧ post ((r8 * (Int32.toInt64 r10)) - (r12 * (Int32.toInt64 (S11.1 148 (Int32.toNatClampNeg 4))))) S11))))
set_option maxHeartbeats 4000000 in
set_option maxRecDepth 100000 in
theorem c_X11_gainOf (l : Launch) (G : vG)    {S : vSt} (a1 : Int32) (a2 : Int32) (post : Int64 → vSt → Prop) (h : p_X11_gainOf   S a1 a2 post) : Met l yX11_gainOf (v_ws yX11_gainOf cX11_gainOf 3 (some .long)) (v_rm 4 132) (v_Pc G [.ref (G.1 143), .int a1, .int a2] S) (v_Ql G post) 0 0 (v_A G) := by
  refine v_start (by decide +kernel) (Nat.le_of_ble_eq_true rfl) (fun X hl C D => ?_)
  subst hl
  have C : v_Cx X G cX11_gainOf RX11 3 (v_rm 4 132) := C
  show VJ X G S 0 [(0, .ref (G.1 143)), (1, .int a1), (2, .int a2)] []
  refine V_aload_n C 0 dX11_gainOf_0 rfl rfl ?_
  refine V_iload_n C 1 dX11_gainOf_1 rfl rfl ?_
  refine V_iload_n C 2 dX11_gainOf_2 rfl rfl ?_
  refine V_callVl (As := [.int a1, .int a2]) (rest := []) C (c_X11_winning (v_l X) G  _ _ _ h) 143 11 (by decide) (by decide) (by decide) rfl KV_X11_winning k_RX11_377 rfl rfl rfl (Nat.le_of_ble_eq_true rfl) ⟨Nat.le_of_ble_eq_true rfl, Nat.le_of_ble_eq_true rfl⟩ dX11_gainOf_3 (fun r8 S7 h => ?_)
  refine V_aload_n C 0 dX11_gainOf_6 rfl rfl ?_
  refine V_iload_n C 2 dX11_gainOf_7 rfl rfl ?_
  refine V_callVi (As := [.int a2]) (rest := [.long r8]) C (c_X11_part (v_l X) G  _ _ h) 143 11 (by decide) (by decide) (by decide) rfl KV_X11_part k_RX11_332 rfl rfl rfl (Nat.le_of_ble_eq_true rfl) ⟨Nat.le_of_ble_eq_true rfl, Nat.le_of_ble_eq_true rfl⟩ dX11_gainOf_8 (fun r10 S9 h => ?_)
  refine V_i2l C dX11_gainOf_11 ?_
  refine V_lmul C dX11_gainOf_12 ?_
  refine V_aload_n C 0 dX11_gainOf_13 rfl rfl ?_
  refine V_iload_n C 1 dX11_gainOf_14 rfl rfl ?_
  refine V_iload_n C 2 dX11_gainOf_15 rfl rfl ?_
  refine V_callVl (As := [.int a1, .int a2]) (rest := [.long (r8 * (Int32.toInt64 r10))]) C (c_X11_owing (v_l X) G  _ _ _ h) 143 11 (by decide) (by decide) (by decide) rfl KV_X11_owing k_RX11_381 rfl rfl rfl (Nat.le_of_ble_eq_true rfl) ⟨Nat.le_of_ble_eq_true rfl, Nat.le_of_ble_eq_true rfl⟩ dX11_gainOf_16 (fun r12 S11 h => ?_)
  refine V_aload_n C 0 dX11_gainOf_19 rfl rfl ?_
  refine V_ga C 143 (by decide) (by decide) F_11_20 k_RX11_35 dX11_gainOf_20 ?_
  refine V_iconst (v := 4) C dX11_gainOf_23 (by decide) ?_
  obtain ⟨hi, h⟩ := h
  refine V_iald C 148 1900 (by decide) (by decide) hi dX11_gainOf_24 ?_
  refine V_i2l C dX11_gainOf_25 ?_
  refine V_lmul C dX11_gainOf_26 ?_
  refine V_lsub C dX11_gainOf_27 ?_
  exact V_lret C D dX11_gainOf_28 h
/-! HalfAccuserModel.lossOf(II)J -/
theorem dX11_lossOf_0 : decode cX11_lossOf 0 = .ok ((.aload_n 0), 1) := by decide +kernel
theorem dX11_lossOf_1 : decode cX11_lossOf 1 = .ok ((.iload_n 1), 1) := by decide +kernel
theorem dX11_lossOf_2 : decode cX11_lossOf 2 = .ok ((.iload_n 2), 1) := by decide +kernel
theorem dX11_lossOf_3 : decode cX11_lossOf 3 = .ok ((.invokevirtual 377), 3) := by decide +kernel
theorem dX11_lossOf_6 : decode cX11_lossOf 6 = .ok ((.aload_n 0), 1) := by decide +kernel
theorem dX11_lossOf_7 : decode cX11_lossOf 7 = .ok ((.getfield 35), 3) := by decide +kernel
theorem dX11_lossOf_10 : decode cX11_lossOf 10 = .ok ((.bipush 58), 2) := by decide +kernel
theorem dX11_lossOf_12 : decode cX11_lossOf 12 = .ok ((.iload_n 2), 1) := by decide +kernel
theorem dX11_lossOf_13 : decode cX11_lossOf 13 = .ok (.iadd, 1) := by decide +kernel
theorem dX11_lossOf_14 : decode cX11_lossOf 14 = .ok (.iaload, 1) := by decide +kernel
theorem dX11_lossOf_15 : decode cX11_lossOf 15 = .ok (.i2l, 1) := by decide +kernel
theorem dX11_lossOf_16 : decode cX11_lossOf 16 = .ok (.lmul, 1) := by decide +kernel
theorem dX11_lossOf_17 : decode cX11_lossOf 17 = .ok (.lreturn, 1) := by decide +kernel
def p_X11_lossOf   (S : vSt) (a1 : Int32) (a2 : Int32) (post : Int64 → vSt → Prop) : Prop := p_X11_winning  S a1 a2 (fun r4 S3 => (vp_in (58 + a2) 1900 ∧ post (r4 * (Int32.toInt64 (S3.1 148 (Int32.toNatClampNeg (58 + a2))))) S3))
set_option maxHeartbeats 4000000 in
set_option maxRecDepth 100000 in
theorem c_X11_lossOf (l : Launch) (G : vG)    {S : vSt} (a1 : Int32) (a2 : Int32) (post : Int64 → vSt → Prop) (h : p_X11_lossOf   S a1 a2 post) : Met l yX11_lossOf (v_ws yX11_lossOf cX11_lossOf 3 (some .long)) (v_rm 4 132) (v_Pc G [.ref (G.1 143), .int a1, .int a2] S) (v_Ql G post) 0 0 (v_A G) := by
  refine v_start (by decide +kernel) (Nat.le_of_ble_eq_true rfl) (fun X hl C D => ?_)
  subst hl
  have C : v_Cx X G cX11_lossOf RX11 3 (v_rm 4 132) := C
  show VJ X G S 0 [(0, .ref (G.1 143)), (1, .int a1), (2, .int a2)] []
  refine V_aload_n C 0 dX11_lossOf_0 rfl rfl ?_
  refine V_iload_n C 1 dX11_lossOf_1 rfl rfl ?_
  refine V_iload_n C 2 dX11_lossOf_2 rfl rfl ?_
  refine V_callVl (As := [.int a1, .int a2]) (rest := []) C (c_X11_winning (v_l X) G  _ _ _ h) 143 11 (by decide) (by decide) (by decide) rfl KV_X11_winning k_RX11_377 rfl rfl rfl (Nat.le_of_ble_eq_true rfl) ⟨Nat.le_of_ble_eq_true rfl, Nat.le_of_ble_eq_true rfl⟩ dX11_lossOf_3 (fun r4 S3 h => ?_)
  refine V_aload_n C 0 dX11_lossOf_6 rfl rfl ?_
  refine V_ga C 143 (by decide) (by decide) F_11_20 k_RX11_35 dX11_lossOf_7 ?_
  refine V_bipush (v := 58) C dX11_lossOf_10 (by decide) ?_
  refine V_iload_n C 2 dX11_lossOf_12 rfl rfl ?_
  refine V_iadd C dX11_lossOf_13 ?_
  obtain ⟨hi, h⟩ := h
  refine V_iald C 148 1900 (by decide) (by decide) hi dX11_lossOf_14 ?_
  refine V_i2l C dX11_lossOf_15 ?_
  refine V_lmul C dX11_lossOf_16 ?_
  exact V_lret C D dX11_lossOf_17 h
/-! HalfAccuserModel.can(II)I -/
theorem dX11_can_0 : decode cX11_can 0 = .ok ((.aload_n 0), 1) := by decide +kernel
theorem dX11_can_1 : decode cX11_can 1 = .ok ((.iconst 0), 1) := by decide +kernel
theorem dX11_can_2 : decode cX11_can 2 = .ok ((.putfield 60), 3) := by decide +kernel
theorem dX11_can_5 : decode cX11_can 5 = .ok ((.aload_n 0), 1) := by decide +kernel
theorem dX11_can_6 : decode cX11_can 6 = .ok ((.iconst 0), 1) := by decide +kernel
theorem dX11_can_7 : decode cX11_can 7 = .ok ((.putfield 63), 3) := by decide +kernel
theorem dX11_can_10 : decode cX11_can 10 = .ok ((.aload_n 0), 1) := by decide +kernel
theorem dX11_can_11 : decode cX11_can 11 = .ok ((.iload_n 1), 1) := by decide +kernel
theorem dX11_can_12 : decode cX11_can 12 = .ok ((.iload_n 2), 1) := by decide +kernel
theorem dX11_can_13 : decode cX11_can 13 = .ok ((.invokevirtual 335), 3) := by decide +kernel
theorem dX11_can_16 : decode cX11_can 16 = .ok ((.ifCond .ne 9), 3) := by decide +kernel
theorem dX11_can_19 : decode cX11_can 19 = .ok ((.aload_n 0), 1) := by decide +kernel
theorem dX11_can_20 : decode cX11_can 20 = .ok ((.iconst 2), 1) := by decide +kernel
theorem dX11_can_21 : decode cX11_can 21 = .ok ((.invokevirtual 303), 3) := by decide +kernel
theorem dX11_can_24 : decode cX11_can 24 = .ok (.ireturn, 1) := by decide +kernel
theorem dX11_can_25 : decode cX11_can 25 = .ok ((.aload_n 0), 1) := by decide +kernel
theorem dX11_can_26 : decode cX11_can 26 = .ok ((.iload_n 1), 1) := by decide +kernel
theorem dX11_can_27 : decode cX11_can 27 = .ok ((.iload_n 2), 1) := by decide +kernel
theorem dX11_can_28 : decode cX11_can 28 = .ok ((.invokevirtual 338), 3) := by decide +kernel
theorem dX11_can_31 : decode cX11_can 31 = .ok ((.ifCond .eq 7), 3) := by decide +kernel
theorem dX11_can_34 : decode cX11_can 34 = .ok ((.iconst 1), 1) := by decide +kernel
theorem dX11_can_35 : decode cX11_can 35 = .ok ((.goto 4), 3) := by decide +kernel
theorem dX11_can_38 : decode cX11_can 38 = .ok ((.iconst 0), 1) := by decide +kernel
theorem dX11_can_39 : decode cX11_can 39 = .ok (.ireturn, 1) := by decide +kernel
def p_X11_can   (S : vSt) (a1 : Int32) (a2 : Int32) (post : Int32 → vSt → Prop) : Prop := ∀ S9, S9 = v_si S 143 1 0 → ∀ S10, S10 = v_si S9 143 0 0 → p_X11_areBoth  S10 a1 a2 (fun r12 S11 => ((r12 = true → p_X11_canCharge  S11 a1 a2 (fun r14 S13 => ((r14 = false → post 0 S13) ∧ (r14 = true → post 1 S13)))) ∧ (r12 = false → p_X11_refuse  S11 2 (fun r16 S15 => post r16 S15))))
set_option maxHeartbeats 4000000 in
set_option maxRecDepth 100000 in
theorem c_X11_can (l : Launch) (G : vG)    {S : vSt} (a1 : Int32) (a2 : Int32) (post : Int32 → vSt → Prop) (h : p_X11_can   S a1 a2 post) : Met l yX11_can (v_ws yX11_can cX11_can 3 (some .int)) (v_rm 3 108) (v_Pc G [.ref (G.1 143), .int a1, .int a2] S) (v_Qi G post) 0 0 (v_A G) := by
  refine v_start (by decide +kernel) (Nat.le_of_ble_eq_true rfl) (fun X hl C D => ?_)
  subst hl
  have C : v_Cx X G cX11_can RX11 3 (v_rm 3 108) := C
  show VJ X G S 0 [(0, .ref (G.1 143)), (1, .int a1), (2, .int a2)] []
  refine V_aload_n C 0 dX11_can_0 rfl rfl ?_
  refine V_iconst (v := 0) C dX11_can_1 (by decide) ?_
  refine V_pi C 143 (by decide) (by decide) P_11_1 k_RX11_60 dX11_can_2 ?_
  refine V_topS (fun S9 eS9 => ?_)
  have h := h S9 eS9
  refine V_aload_n C 0 dX11_can_5 rfl rfl ?_
  refine V_iconst (v := 0) C dX11_can_6 (by decide) ?_
  refine V_pi C 143 (by decide) (by decide) P_11_0 k_RX11_63 dX11_can_7 ?_
  refine V_topS (fun S10 eS10 => ?_)
  have h := h S10 eS10
  refine V_aload_n C 0 dX11_can_10 rfl rfl ?_
  refine V_iload_n C 1 dX11_can_11 rfl rfl ?_
  refine V_iload_n C 2 dX11_can_12 rfl rfl ?_
  refine V_callVz (As := [.int a1, .int a2]) (rest := []) C (c_X11_areBoth (v_l X) G  _ _ _ h) 143 11 (by decide) (by decide) (by decide) rfl KV_X11_areBoth k_RX11_335 rfl rfl rfl (Nat.le_of_ble_eq_true rfl) ⟨Nat.le_of_ble_eq_true rfl, Nat.le_of_ble_eq_true rfl⟩ dX11_can_13 (fun r12 S11 h => ?_)
  refine V_ifb_ne (tgt := 25) C dX11_can_16 (by decide) (fun c => ?_) (fun c => ?_)
  · have h := h.1 c
    refine V_aload_n C 0 dX11_can_25 rfl rfl ?_
    refine V_iload_n C 1 dX11_can_26 rfl rfl ?_
    refine V_iload_n C 2 dX11_can_27 rfl rfl ?_
    refine V_callVz (As := [.int a1, .int a2]) (rest := []) C (c_X11_canCharge (v_l X) G  _ _ _ h) 143 11 (by decide) (by decide) (by decide) rfl KV_X11_canCharge k_RX11_338 rfl rfl rfl (Nat.le_of_ble_eq_true rfl) ⟨Nat.le_of_ble_eq_true rfl, Nat.le_of_ble_eq_true rfl⟩ dX11_can_28 (fun r14 S13 h => ?_)
    refine V_ifb_eq (tgt := 38) C dX11_can_31 (by decide) (fun c => ?_) (fun c => ?_)
    · have h := h.1 c
      refine V_iconst (v := 0) C dX11_can_38 (by decide) ?_
      exact V_iret C D dX11_can_39 h
    · have h := h.2 c
      refine V_iconst (v := 1) C dX11_can_34 (by decide) ?_
      refine V_goto (tgt := 39) C dX11_can_35 (by decide) ?_
      exact V_iret C D dX11_can_39 h
  · have h := h.2 c
    refine V_aload_n C 0 dX11_can_19 rfl rfl ?_
    refine V_iconst (v := 2) C dX11_can_20 (by decide) ?_
    refine V_callVi (As := [.int 2]) (rest := []) C (c_X11_refuse (v_l X) G  _ _ h) 143 11 (by decide) (by decide) (by decide) rfl KV_X11_refuse k_RX11_303 rfl rfl rfl (Nat.le_of_ble_eq_true rfl) ⟨Nat.le_of_ble_eq_true rfl, Nat.le_of_ble_eq_true rfl⟩ dX11_can_21 (fun r16 S15 h => ?_)
    exact V_iret C D dX11_can_24 h
/-! HalfAccuserModel.chance(II)I -/
theorem dX11_chance_0 : decode cX11_chance 0 = .ok ((.aload_n 0), 1) := by decide +kernel
theorem dX11_chance_1 : decode cX11_chance 1 = .ok ((.iconst 0), 1) := by decide +kernel
theorem dX11_chance_2 : decode cX11_chance 2 = .ok ((.putfield 60), 3) := by decide +kernel
theorem dX11_chance_5 : decode cX11_chance 5 = .ok ((.aload_n 0), 1) := by decide +kernel
theorem dX11_chance_6 : decode cX11_chance 6 = .ok ((.iconst 0), 1) := by decide +kernel
theorem dX11_chance_7 : decode cX11_chance 7 = .ok ((.putfield 63), 3) := by decide +kernel
theorem dX11_chance_10 : decode cX11_chance 10 = .ok ((.aload_n 0), 1) := by decide +kernel
theorem dX11_chance_11 : decode cX11_chance 11 = .ok ((.iload_n 1), 1) := by decide +kernel
theorem dX11_chance_12 : decode cX11_chance 12 = .ok ((.iload_n 2), 1) := by decide +kernel
theorem dX11_chance_13 : decode cX11_chance 13 = .ok ((.invokevirtual 335), 3) := by decide +kernel
theorem dX11_chance_16 : decode cX11_chance 16 = .ok ((.ifCond .ne 9), 3) := by decide +kernel
theorem dX11_chance_19 : decode cX11_chance 19 = .ok ((.aload_n 0), 1) := by decide +kernel
theorem dX11_chance_20 : decode cX11_chance 20 = .ok ((.iconst 2), 1) := by decide +kernel
theorem dX11_chance_21 : decode cX11_chance 21 = .ok ((.invokevirtual 303), 3) := by decide +kernel
theorem dX11_chance_24 : decode cX11_chance 24 = .ok (.ireturn, 1) := by decide +kernel
theorem dX11_chance_25 : decode cX11_chance 25 = .ok ((.aload_n 0), 1) := by decide +kernel
theorem dX11_chance_26 : decode cX11_chance 26 = .ok ((.getfield 35), 3) := by decide +kernel
theorem dX11_chance_29 : decode cX11_chance 29 = .ok ((.bipush 48), 2) := by decide +kernel
theorem dX11_chance_31 : decode cX11_chance 31 = .ok ((.iload_n 2), 1) := by decide +kernel
theorem dX11_chance_32 : decode cX11_chance 32 = .ok (.iadd, 1) := by decide +kernel
theorem dX11_chance_33 : decode cX11_chance 33 = .ok (.iaload, 1) := by decide +kernel
theorem dX11_chance_34 : decode cX11_chance 34 = .ok ((.iload_n 1), 1) := by decide +kernel
theorem dX11_chance_35 : decode cX11_chance 35 = .ok ((.if_icmp .ne 12), 3) := by decide +kernel
theorem dX11_chance_38 : decode cX11_chance 38 = .ok ((.aload_n 0), 1) := by decide +kernel
theorem dX11_chance_39 : decode cX11_chance 39 = .ok ((.bipush 9), 2) := by decide +kernel
theorem dX11_chance_41 : decode cX11_chance 41 = .ok ((.invokevirtual 303), 3) := by decide +kernel
theorem dX11_chance_44 : decode cX11_chance 44 = .ok ((.goto 9), 3) := by decide +kernel
theorem dX11_chance_47 : decode cX11_chance 47 = .ok ((.aload_n 0), 1) := by decide +kernel
theorem dX11_chance_48 : decode cX11_chance 48 = .ok ((.iload_n 1), 1) := by decide +kernel
theorem dX11_chance_49 : decode cX11_chance 49 = .ok ((.iload_n 2), 1) := by decide +kernel
theorem dX11_chance_50 : decode cX11_chance 50 = .ok ((.invokevirtual 348), 3) := by decide +kernel
theorem dX11_chance_53 : decode cX11_chance 53 = .ok (.ireturn, 1) := by decide +kernel
def p_X11_chance   (S : vSt) (a1 : Int32) (a2 : Int32) (post : Int32 → vSt → Prop) : Prop := ∀ S11, S11 = v_si S 143 1 0 → ∀ S12, S12 = v_si S11 143 0 0 → p_X11_areBoth  S12 a1 a2 (fun r14 S13 => ((r14 = true → (vp_in (48 + a2) 1900 ∧ ((¬ (S13.1 148 (Int32.toNatClampNeg (48 + a2))) = a1 → p_X11_chanceOf  S13 a1 a2 (fun r16 S15 => post r16 S15)) ∧ ((S13.1 148 (Int32.toNatClampNeg (48 + a2))) = a1 → p_X11_refuse  S13 9 (fun r18 S17 => post r18 S17))))) ∧ (r14 = false → p_X11_refuse  S13 2 (fun r20 S19 => post r20 S19))))
set_option maxHeartbeats 4000000 in
set_option maxRecDepth 100000 in
theorem c_X11_chance (l : Launch) (G : vG)    {S : vSt} (a1 : Int32) (a2 : Int32) (post : Int32 → vSt → Prop) (h : p_X11_chance   S a1 a2 post) : Met l yX11_chance (v_ws yX11_chance cX11_chance 3 (some .int)) (v_rm 3 108) (v_Pc G [.ref (G.1 143), .int a1, .int a2] S) (v_Qi G post) 0 0 (v_A G) := by
  refine v_start (by decide +kernel) (Nat.le_of_ble_eq_true rfl) (fun X hl C D => ?_)
  subst hl
  have C : v_Cx X G cX11_chance RX11 3 (v_rm 3 108) := C
  show VJ X G S 0 [(0, .ref (G.1 143)), (1, .int a1), (2, .int a2)] []
  refine V_aload_n C 0 dX11_chance_0 rfl rfl ?_
  refine V_iconst (v := 0) C dX11_chance_1 (by decide) ?_
  refine V_pi C 143 (by decide) (by decide) P_11_1 k_RX11_60 dX11_chance_2 ?_
  refine V_topS (fun S11 eS11 => ?_)
  have h := h S11 eS11
  refine V_aload_n C 0 dX11_chance_5 rfl rfl ?_
  refine V_iconst (v := 0) C dX11_chance_6 (by decide) ?_
  refine V_pi C 143 (by decide) (by decide) P_11_0 k_RX11_63 dX11_chance_7 ?_
  refine V_topS (fun S12 eS12 => ?_)
  have h := h S12 eS12
  refine V_aload_n C 0 dX11_chance_10 rfl rfl ?_
  refine V_iload_n C 1 dX11_chance_11 rfl rfl ?_
  refine V_iload_n C 2 dX11_chance_12 rfl rfl ?_
  refine V_callVz (As := [.int a1, .int a2]) (rest := []) C (c_X11_areBoth (v_l X) G  _ _ _ h) 143 11 (by decide) (by decide) (by decide) rfl KV_X11_areBoth k_RX11_335 rfl rfl rfl (Nat.le_of_ble_eq_true rfl) ⟨Nat.le_of_ble_eq_true rfl, Nat.le_of_ble_eq_true rfl⟩ dX11_chance_13 (fun r14 S13 h => ?_)
  refine V_ifb_ne (tgt := 25) C dX11_chance_16 (by decide) (fun c => ?_) (fun c => ?_)
  · have h := h.1 c
    refine V_aload_n C 0 dX11_chance_25 rfl rfl ?_
    refine V_ga C 143 (by decide) (by decide) F_11_20 k_RX11_35 dX11_chance_26 ?_
    refine V_bipush (v := 48) C dX11_chance_29 (by decide) ?_
    refine V_iload_n C 2 dX11_chance_31 rfl rfl ?_
    refine V_iadd C dX11_chance_32 ?_
    obtain ⟨hi, h⟩ := h
    refine V_iald C 148 1900 (by decide) (by decide) hi dX11_chance_33 ?_
    refine V_iload_n C 1 dX11_chance_34 rfl rfl ?_
    refine V_icmp_ne (tgt := 47) C dX11_chance_35 (by decide) (fun c => ?_) (fun c => ?_)
    · have h := h.1 c
      refine V_aload_n C 0 dX11_chance_47 rfl rfl ?_
      refine V_iload_n C 1 dX11_chance_48 rfl rfl ?_
      refine V_iload_n C 2 dX11_chance_49 rfl rfl ?_
      refine V_callVi (As := [.int a1, .int a2]) (rest := []) C (c_X11_chanceOf (v_l X) G  _ _ _ h) 143 11 (by decide) (by decide) (by decide) rfl KV_X11_chanceOf k_RX11_348 rfl rfl rfl (Nat.le_of_ble_eq_true rfl) ⟨Nat.le_of_ble_eq_true rfl, Nat.le_of_ble_eq_true rfl⟩ dX11_chance_50 (fun r16 S15 h => ?_)
      exact V_iret C D dX11_chance_53 h
    · have h := h.2 c
      refine V_aload_n C 0 dX11_chance_38 rfl rfl ?_
      refine V_bipush (v := 9) C dX11_chance_39 (by decide) ?_
      refine V_callVi (As := [.int 9]) (rest := []) C (c_X11_refuse (v_l X) G  _ _ h) 143 11 (by decide) (by decide) (by decide) rfl KV_X11_refuse k_RX11_303 rfl rfl rfl (Nat.le_of_ble_eq_true rfl) ⟨Nat.le_of_ble_eq_true rfl, Nat.le_of_ble_eq_true rfl⟩ dX11_chance_41 (fun r18 S17 h => ?_)
      refine V_goto (tgt := 53) C dX11_chance_44 (by decide) ?_
      exact V_iret C D dX11_chance_53 h
  · have h := h.2 c
    refine V_aload_n C 0 dX11_chance_19 rfl rfl ?_
    refine V_iconst (v := 2) C dX11_chance_20 (by decide) ?_
    refine V_callVi (As := [.int 2]) (rest := []) C (c_X11_refuse (v_l X) G  _ _ h) 143 11 (by decide) (by decide) (by decide) rfl KV_X11_refuse k_RX11_303 rfl rfl rfl (Nat.le_of_ble_eq_true rfl) ⟨Nat.le_of_ble_eq_true rfl, Nat.le_of_ble_eq_true rfl⟩ dX11_chance_21 (fun r20 S19 h => ?_)
    exact V_iret C D dX11_chance_24 h
/-! HalfAccuserModel.votes(III)Z -/
theorem dX11_votes_0 : decode cX11_votes 0 = .ok ((.aload_n 0), 1) := by decide +kernel
theorem dX11_votes_1 : decode cX11_votes 1 = .ok ((.iconst 0), 1) := by decide +kernel
theorem dX11_votes_2 : decode cX11_votes 2 = .ok ((.putfield 60), 3) := by decide +kernel
theorem dX11_votes_5 : decode cX11_votes 5 = .ok ((.aload_n 0), 1) := by decide +kernel
theorem dX11_votes_6 : decode cX11_votes 6 = .ok ((.iconst 0), 1) := by decide +kernel
theorem dX11_votes_7 : decode cX11_votes 7 = .ok ((.putfield 63), 3) := by decide +kernel
theorem dX11_votes_10 : decode cX11_votes 10 = .ok ((.aload_n 0), 1) := by decide +kernel
theorem dX11_votes_11 : decode cX11_votes 11 = .ok ((.iload_n 1), 1) := by decide +kernel
theorem dX11_votes_12 : decode cX11_votes 12 = .ok ((.iload_n 2), 1) := by decide +kernel
theorem dX11_votes_13 : decode cX11_votes 13 = .ok ((.invokevirtual 335), 3) := by decide +kernel
theorem dX11_votes_16 : decode cX11_votes 16 = .ok ((.ifCond .ne 9), 3) := by decide +kernel
theorem dX11_votes_19 : decode cX11_votes 19 = .ok ((.aload_n 0), 1) := by decide +kernel
theorem dX11_votes_20 : decode cX11_votes 20 = .ok ((.iconst 2), 1) := by decide +kernel
theorem dX11_votes_21 : decode cX11_votes 21 = .ok ((.invokevirtual 75), 3) := by decide +kernel
theorem dX11_votes_24 : decode cX11_votes 24 = .ok (.ireturn, 1) := by decide +kernel
theorem dX11_votes_25 : decode cX11_votes 25 = .ok ((.iload_n 3), 1) := by decide +kernel
theorem dX11_votes_26 : decode cX11_votes 26 = .ok (.i2l, 1) := by decide +kernel
theorem dX11_votes_27 : decode cX11_votes 27 = .ok ((.lconst 0), 1) := by decide +kernel
theorem dX11_votes_28 : decode cX11_votes 28 = .ok ((.aload_n 0), 1) := by decide +kernel
theorem dX11_votes_29 : decode cX11_votes 29 = .ok ((.getfield 35), 3) := by decide +kernel
theorem dX11_votes_32 : decode cX11_votes 32 = .ok ((.iconst 2), 1) := by decide +kernel
theorem dX11_votes_33 : decode cX11_votes 33 = .ok (.iaload, 1) := by decide +kernel
theorem dX11_votes_34 : decode cX11_votes 34 = .ok (.i2l, 1) := by decide +kernel
theorem dX11_votes_35 : decode cX11_votes 35 = .ok ((.invokestatic 95), 3) := by decide +kernel
theorem dX11_votes_38 : decode cX11_votes 38 = .ok ((.ifCond .ne 9), 3) := by decide +kernel
theorem dX11_votes_41 : decode cX11_votes 41 = .ok ((.aload_n 0), 1) := by decide +kernel
theorem dX11_votes_42 : decode cX11_votes 42 = .ok ((.iconst 5), 1) := by decide +kernel
theorem dX11_votes_43 : decode cX11_votes 43 = .ok ((.invokevirtual 75), 3) := by decide +kernel
theorem dX11_votes_46 : decode cX11_votes 46 = .ok (.ireturn, 1) := by decide +kernel
theorem dX11_votes_47 : decode cX11_votes 47 = .ok ((.aload_n 0), 1) := by decide +kernel
theorem dX11_votes_48 : decode cX11_votes 48 = .ok ((.getfield 35), 3) := by decide +kernel
theorem dX11_votes_51 : decode cX11_votes 51 = .ok ((.bipush 48), 2) := by decide +kernel
theorem dX11_votes_53 : decode cX11_votes 53 = .ok ((.iload_n 2), 1) := by decide +kernel
theorem dX11_votes_54 : decode cX11_votes 54 = .ok (.iadd, 1) := by decide +kernel
theorem dX11_votes_55 : decode cX11_votes 55 = .ok (.iaload, 1) := by decide +kernel
theorem dX11_votes_56 : decode cX11_votes 56 = .ok ((.iload_n 1), 1) := by decide +kernel
theorem dX11_votes_57 : decode cX11_votes 57 = .ok ((.if_icmp .ne 10), 3) := by decide +kernel
theorem dX11_votes_60 : decode cX11_votes 60 = .ok ((.aload_n 0), 1) := by decide +kernel
theorem dX11_votes_61 : decode cX11_votes 61 = .ok ((.bipush 9), 2) := by decide +kernel
theorem dX11_votes_63 : decode cX11_votes 63 = .ok ((.invokevirtual 75), 3) := by decide +kernel
theorem dX11_votes_66 : decode cX11_votes 66 = .ok (.ireturn, 1) := by decide +kernel
theorem dX11_votes_67 : decode cX11_votes 67 = .ok ((.aload_n 0), 1) := by decide +kernel
theorem dX11_votes_68 : decode cX11_votes 68 = .ok ((.iload_n 1), 1) := by decide +kernel
theorem dX11_votes_69 : decode cX11_votes 69 = .ok ((.iload_n 2), 1) := by decide +kernel
theorem dX11_votes_70 : decode cX11_votes 70 = .ok ((.invokevirtual 374), 3) := by decide +kernel
theorem dX11_votes_73 : decode cX11_votes 73 = .ok ((.aload_n 0), 1) := by decide +kernel
theorem dX11_votes_74 : decode cX11_votes 74 = .ok ((.aload_n 0), 1) := by decide +kernel
theorem dX11_votes_75 : decode cX11_votes 75 = .ok ((.getfield 44), 3) := by decide +kernel
theorem dX11_votes_78 : decode cX11_votes 78 = .ok ((.iload_n 3), 1) := by decide +kernel
theorem dX11_votes_79 : decode cX11_votes 79 = .ok (.laload, 1) := by decide +kernel
theorem dX11_votes_80 : decode cX11_votes 80 = .ok ((.aload_n 0), 1) := by decide +kernel
theorem dX11_votes_81 : decode cX11_votes 81 = .ok ((.invokevirtual 384), 3) := by decide +kernel
theorem dX11_votes_84 : decode cX11_votes 84 = .ok ((.invokevirtual 388), 3) := by decide +kernel
theorem dX11_votes_87 : decode cX11_votes 87 = .ok (.ireturn, 1) := by decide +kernel
def p_X11_votes   (S : vSt) (a1 : Int32) (a2 : Int32) (a3 : Int32) (post : Bool → vSt → Prop) : Prop := ∀ S18, S18 = v_si S 143 1 0 → ∀ S19, S19 = v_si S18 143 0 0 → p_X11_areBoth  S19 a1 a2 (fun r21 S20 => ((r21 = true → (vp_in 2 1900 ∧ p_X11_isIn  S20 (Int32.toInt64 a3) 0 (Int32.toInt64 (S20.1 148 (Int32.toNatClampNeg 2))) (fun r23 S22 => ((r23 = true → (vp_in (48 + a2) 1900 ∧ ((¬ (S22.1 148 (Int32.toNatClampNeg (48 + a2))) = a1 → p_X11_laysVotes  S22 a1 a2 (fun S24 => (vp_in a3 11 ∧ p_X11_allVotes  S24  (fun r26 S25 => p_X11_fraction  S25 (S24.2 151 (Int32.toNatClampNeg a3)) r26 (fun r28 S27 => post r28 S27))))) ∧ ((S22.1 148 (Int32.toNatClampNeg (48 + a2))) = a1 → p_X11_no  S22 9 (fun r30 S29 => post r30 S29))))) ∧ (r23 = false → p_X11_no  S22 5 (fun r32 S31 => post r32 S31)))))) ∧ (r21 = false → p_X11_no  S20 2 (fun r34 S33 => post r34 S33))))
set_option maxHeartbeats 4000000 in
set_option maxRecDepth 100000 in
theorem c_X11_votes (l : Launch) (G : vG)    {S : vSt} (a1 : Int32) (a2 : Int32) (a3 : Int32) (post : Bool → vSt → Prop) (h : p_X11_votes   S a1 a2 a3 post) : Met l yX11_votes (v_ws yX11_votes cX11_votes 4 (some .boolean)) (v_rm 3 108) (v_Pc G [.ref (G.1 143), .int a1, .int a2, .int a3] S) (v_Qz G post) 0 0 (v_A G) := by
  refine v_start (by decide +kernel) (Nat.le_of_ble_eq_true rfl) (fun X hl C D => ?_)
  subst hl
  have C : v_Cx X G cX11_votes RX11 4 (v_rm 3 108) := C
  show VJ X G S 0 [(0, .ref (G.1 143)), (1, .int a1), (2, .int a2), (3, .int a3)] []
  refine V_aload_n C 0 dX11_votes_0 rfl rfl ?_
  refine V_iconst (v := 0) C dX11_votes_1 (by decide) ?_
  refine V_pi C 143 (by decide) (by decide) P_11_1 k_RX11_60 dX11_votes_2 ?_
  refine V_topS (fun S18 eS18 => ?_)
  have h := h S18 eS18
  refine V_aload_n C 0 dX11_votes_5 rfl rfl ?_
  refine V_iconst (v := 0) C dX11_votes_6 (by decide) ?_
  refine V_pi C 143 (by decide) (by decide) P_11_0 k_RX11_63 dX11_votes_7 ?_
  refine V_topS (fun S19 eS19 => ?_)
  have h := h S19 eS19
  refine V_aload_n C 0 dX11_votes_10 rfl rfl ?_
  refine V_iload_n C 1 dX11_votes_11 rfl rfl ?_
  refine V_iload_n C 2 dX11_votes_12 rfl rfl ?_
  refine V_callVz (As := [.int a1, .int a2]) (rest := []) C (c_X11_areBoth (v_l X) G  _ _ _ h) 143 11 (by decide) (by decide) (by decide) rfl KV_X11_areBoth k_RX11_335 rfl rfl rfl (Nat.le_of_ble_eq_true rfl) ⟨Nat.le_of_ble_eq_true rfl, Nat.le_of_ble_eq_true rfl⟩ dX11_votes_13 (fun r21 S20 h => ?_)
  refine V_ifb_ne (tgt := 25) C dX11_votes_16 (by decide) (fun c => ?_) (fun c => ?_)
  · have h := h.1 c
    refine V_iload_n C 3 dX11_votes_25 rfl rfl ?_
    refine V_i2l C dX11_votes_26 ?_
    refine V_lconst (v := 0) C dX11_votes_27 (by decide) ?_
    refine V_aload_n C 0 dX11_votes_28 rfl rfl ?_
    refine V_ga C 143 (by decide) (by decide) F_11_20 k_RX11_35 dX11_votes_29 ?_
    refine V_iconst (v := 2) C dX11_votes_32 (by decide) ?_
    obtain ⟨hi, h⟩ := h
    refine V_iald C 148 1900 (by decide) (by decide) hi dX11_votes_33 ?_
    refine V_i2l C dX11_votes_34 ?_
    refine V_callSz (As := [.long (Int32.toInt64 a3), .long 0, .long (Int32.toInt64 (S20.1 148 (Int32.toNatClampNeg 2)))]) (rest := []) C (c_X11_isIn (v_l X) G  _ _ _ _ h) KV_X11_isIn k_RX11_95 rfl rfl rfl (Nat.le_of_ble_eq_true rfl) ⟨Nat.le_of_ble_eq_true rfl, Nat.le_of_ble_eq_true rfl⟩ dX11_votes_35 (fun r23 S22 h => ?_)
    refine V_ifb_ne (tgt := 47) C dX11_votes_38 (by decide) (fun c => ?_) (fun c => ?_)
    · have h := h.1 c
      refine V_aload_n C 0 dX11_votes_47 rfl rfl ?_
      refine V_ga C 143 (by decide) (by decide) F_11_20 k_RX11_35 dX11_votes_48 ?_
      refine V_bipush (v := 48) C dX11_votes_51 (by decide) ?_
      refine V_iload_n C 2 dX11_votes_53 rfl rfl ?_
      refine V_iadd C dX11_votes_54 ?_
      obtain ⟨hi, h⟩ := h
      refine V_iald C 148 1900 (by decide) (by decide) hi dX11_votes_55 ?_
      refine V_iload_n C 1 dX11_votes_56 rfl rfl ?_
      refine V_icmp_ne (tgt := 67) C dX11_votes_57 (by decide) (fun c => ?_) (fun c => ?_)
      · have h := h.1 c
        refine V_aload_n C 0 dX11_votes_67 rfl rfl ?_
        refine V_iload_n C 1 dX11_votes_68 rfl rfl ?_
        refine V_iload_n C 2 dX11_votes_69 rfl rfl ?_
        refine V_callVv (As := [.int a1, .int a2]) (rest := []) C (c_X11_laysVotes (v_l X) G  _ _ _ h) 143 11 (by decide) (by decide) (by decide) rfl KV_X11_laysVotes k_RX11_374 rfl rfl rfl (Nat.le_of_ble_eq_true rfl) ⟨Nat.le_of_ble_eq_true rfl, Nat.le_of_ble_eq_true rfl⟩ dX11_votes_70 (fun S24 h => ?_)
        refine V_aload_n C 0 dX11_votes_73 rfl rfl ?_
        refine V_aload_n C 0 dX11_votes_74 rfl rfl ?_
        refine V_ga C 143 (by decide) (by decide) F_11_27 k_RX11_44 dX11_votes_75 ?_
        refine V_iload_n C 3 dX11_votes_78 rfl rfl ?_
        obtain ⟨hi, h⟩ := h
        refine V_lald C 151 11 (by decide) (by decide) hi dX11_votes_79 ?_
        refine V_aload_n C 0 dX11_votes_80 rfl rfl ?_
        refine V_callVl (As := []) (rest := [.long (S24.2 151 (Int32.toNatClampNeg a3)), .ref (G.1 143)]) C (c_X11_allVotes (v_l X) G  _ h) 143 11 (by decide) (by decide) (by decide) rfl KV_X11_allVotes k_RX11_384 rfl rfl rfl (Nat.le_of_ble_eq_true rfl) ⟨Nat.le_of_ble_eq_true rfl, Nat.le_of_ble_eq_true rfl⟩ dX11_votes_81 (fun r26 S25 h => ?_)
        refine V_callVz (As := [.long (S24.2 151 (Int32.toNatClampNeg a3)), .long r26]) (rest := []) C (c_X11_fraction (v_l X) G  _ _ _ h) 143 11 (by decide) (by decide) (by decide) rfl KV_X11_fraction k_RX11_388 rfl rfl rfl (Nat.le_of_ble_eq_true rfl) ⟨Nat.le_of_ble_eq_true rfl, Nat.le_of_ble_eq_true rfl⟩ dX11_votes_84 (fun r28 S27 h => ?_)
        exact V_zret C D dX11_votes_87 h
      · have h := h.2 c
        refine V_aload_n C 0 dX11_votes_60 rfl rfl ?_
        refine V_bipush (v := 9) C dX11_votes_61 (by decide) ?_
        refine V_callVz (As := [.int 9]) (rest := []) C (c_X11_no (v_l X) G  _ _ h) 143 11 (by decide) (by decide) (by decide) rfl KV_X11_no k_RX11_75 rfl rfl rfl (Nat.le_of_ble_eq_true rfl) ⟨Nat.le_of_ble_eq_true rfl, Nat.le_of_ble_eq_true rfl⟩ dX11_votes_63 (fun r30 S29 h => ?_)
        exact V_zret C D dX11_votes_66 h
    · have h := h.2 c
      refine V_aload_n C 0 dX11_votes_41 rfl rfl ?_
      refine V_iconst (v := 5) C dX11_votes_42 (by decide) ?_
      refine V_callVz (As := [.int 5]) (rest := []) C (c_X11_no (v_l X) G  _ _ h) 143 11 (by decide) (by decide) (by decide) rfl KV_X11_no k_RX11_75 rfl rfl rfl (Nat.le_of_ble_eq_true rfl) ⟨Nat.le_of_ble_eq_true rfl, Nat.le_of_ble_eq_true rfl⟩ dX11_votes_43 (fun r32 S31 h => ?_)
      exact V_zret C D dX11_votes_46 h
  · have h := h.2 c
    refine V_aload_n C 0 dX11_votes_19 rfl rfl ?_
    refine V_iconst (v := 2) C dX11_votes_20 (by decide) ?_
    refine V_callVz (As := [.int 2]) (rest := []) C (c_X11_no (v_l X) G  _ _ h) 143 11 (by decide) (by decide) (by decide) rfl KV_X11_no k_RX11_75 rfl rfl rfl (Nat.le_of_ble_eq_true rfl) ⟨Nat.le_of_ble_eq_true rfl, Nat.le_of_ble_eq_true rfl⟩ dX11_votes_21 (fun r34 S33 h => ?_)
    exact V_zret C D dX11_votes_24 h
/-! HalfAccuserModel.whyNot(II)I -/
theorem dX11_whyNot_0 : decode cX11_whyNot 0 = .ok ((.aload_n 0), 1) := by decide +kernel
theorem dX11_whyNot_1 : decode cX11_whyNot 1 = .ok ((.iload_n 1), 1) := by decide +kernel
theorem dX11_whyNot_2 : decode cX11_whyNot 2 = .ok ((.iload_n 2), 1) := by decide +kernel
theorem dX11_whyNot_3 : decode cX11_whyNot 3 = .ok ((.invokevirtual 335), 3) := by decide +kernel
theorem dX11_whyNot_6 : decode cX11_whyNot 6 = .ok ((.ifCond .ne 7), 3) := by decide +kernel
theorem dX11_whyNot_9 : decode cX11_whyNot 9 = .ok ((.iconst 2), 1) := by decide +kernel
theorem dX11_whyNot_10 : decode cX11_whyNot 10 = .ok ((.goto 22), 3) := by decide +kernel
theorem dX11_whyNot_13 : decode cX11_whyNot 13 = .ok ((.aload_n 0), 1) := by decide +kernel
theorem dX11_whyNot_14 : decode cX11_whyNot 14 = .ok ((.getfield 35), 3) := by decide +kernel
theorem dX11_whyNot_17 : decode cX11_whyNot 17 = .ok ((.bipush 48), 2) := by decide +kernel
theorem dX11_whyNot_19 : decode cX11_whyNot 19 = .ok ((.iload_n 2), 1) := by decide +kernel
theorem dX11_whyNot_20 : decode cX11_whyNot 20 = .ok (.iadd, 1) := by decide +kernel
theorem dX11_whyNot_21 : decode cX11_whyNot 21 = .ok (.iaload, 1) := by decide +kernel
theorem dX11_whyNot_22 : decode cX11_whyNot 22 = .ok ((.iload_n 1), 1) := by decide +kernel
theorem dX11_whyNot_23 : decode cX11_whyNot 23 = .ok ((.if_icmp .ne 8), 3) := by decide +kernel
theorem dX11_whyNot_26 : decode cX11_whyNot 26 = .ok ((.bipush 9), 2) := by decide +kernel
theorem dX11_whyNot_28 : decode cX11_whyNot 28 = .ok ((.goto 4), 3) := by decide +kernel
theorem dX11_whyNot_31 : decode cX11_whyNot 31 = .ok ((.iconst 0), 1) := by decide +kernel
theorem dX11_whyNot_32 : decode cX11_whyNot 32 = .ok (.ireturn, 1) := by decide +kernel
def p_X11_whyNot   (S : vSt) (a1 : Int32) (a2 : Int32) (post : Int32 → vSt → Prop) : Prop := p_X11_areBoth  S a1 a2 (fun r4 S3 => ((r4 = true → (vp_in (48 + a2) 1900 ∧ ((¬ (S3.1 148 (Int32.toNatClampNeg (48 + a2))) = a1 → post 0 S3) ∧ ((S3.1 148 (Int32.toNatClampNeg (48 + a2))) = a1 → post 9 S3)))) ∧ (r4 = false → post 2 S3)))
set_option maxHeartbeats 4000000 in
set_option maxRecDepth 100000 in
theorem c_X11_whyNot (l : Launch) (G : vG)    {S : vSt} (a1 : Int32) (a2 : Int32) (post : Int32 → vSt → Prop) (h : p_X11_whyNot   S a1 a2 post) : Met l yX11_whyNot (v_ws yX11_whyNot cX11_whyNot 3 (some .int)) (v_rm 3 108) (v_Pc G [.ref (G.1 143), .int a1, .int a2] S) (v_Qi G post) 0 0 (v_A G) := by
  refine v_start (by decide +kernel) (Nat.le_of_ble_eq_true rfl) (fun X hl C D => ?_)
  subst hl
  have C : v_Cx X G cX11_whyNot RX11 3 (v_rm 3 108) := C
  show VJ X G S 0 [(0, .ref (G.1 143)), (1, .int a1), (2, .int a2)] []
  refine V_aload_n C 0 dX11_whyNot_0 rfl rfl ?_
  refine V_iload_n C 1 dX11_whyNot_1 rfl rfl ?_
  refine V_iload_n C 2 dX11_whyNot_2 rfl rfl ?_
  refine V_callVz (As := [.int a1, .int a2]) (rest := []) C (c_X11_areBoth (v_l X) G  _ _ _ h) 143 11 (by decide) (by decide) (by decide) rfl KV_X11_areBoth k_RX11_335 rfl rfl rfl (Nat.le_of_ble_eq_true rfl) ⟨Nat.le_of_ble_eq_true rfl, Nat.le_of_ble_eq_true rfl⟩ dX11_whyNot_3 (fun r4 S3 h => ?_)
  refine V_ifb_ne (tgt := 13) C dX11_whyNot_6 (by decide) (fun c => ?_) (fun c => ?_)
  · have h := h.1 c
    refine V_aload_n C 0 dX11_whyNot_13 rfl rfl ?_
    refine V_ga C 143 (by decide) (by decide) F_11_20 k_RX11_35 dX11_whyNot_14 ?_
    refine V_bipush (v := 48) C dX11_whyNot_17 (by decide) ?_
    refine V_iload_n C 2 dX11_whyNot_19 rfl rfl ?_
    refine V_iadd C dX11_whyNot_20 ?_
    obtain ⟨hi, h⟩ := h
    refine V_iald C 148 1900 (by decide) (by decide) hi dX11_whyNot_21 ?_
    refine V_iload_n C 1 dX11_whyNot_22 rfl rfl ?_
    refine V_icmp_ne (tgt := 31) C dX11_whyNot_23 (by decide) (fun c => ?_) (fun c => ?_)
    · have h := h.1 c
      refine V_iconst (v := 0) C dX11_whyNot_31 (by decide) ?_
      exact V_iret C D dX11_whyNot_32 h
    · have h := h.2 c
      refine V_bipush (v := 9) C dX11_whyNot_26 (by decide) ?_
      refine V_goto (tgt := 32) C dX11_whyNot_28 (by decide) ?_
      exact V_iret C D dX11_whyNot_32 h
  · have h := h.2 c
    refine V_iconst (v := 2) C dX11_whyNot_9 (by decide) ?_
    refine V_goto (tgt := 32) C dX11_whyNot_10 (by decide) ?_
    exact V_iret C D dX11_whyNot_32 h
/-! HalfAccuserModel.wins(II)Z -/
theorem dX11_wins_0 : decode cX11_wins 0 = .ok ((.aload_n 0), 1) := by decide +kernel
theorem dX11_wins_1 : decode cX11_wins 1 = .ok ((.iconst 0), 1) := by decide +kernel
theorem dX11_wins_2 : decode cX11_wins 2 = .ok ((.putfield 60), 3) := by decide +kernel
theorem dX11_wins_5 : decode cX11_wins 5 = .ok ((.aload_n 0), 1) := by decide +kernel
theorem dX11_wins_6 : decode cX11_wins 6 = .ok ((.aload_n 0), 1) := by decide +kernel
theorem dX11_wins_7 : decode cX11_wins 7 = .ok ((.iload_n 1), 1) := by decide +kernel
theorem dX11_wins_8 : decode cX11_wins 8 = .ok ((.iload_n 2), 1) := by decide +kernel
theorem dX11_wins_9 : decode cX11_wins 9 = .ok ((.invokevirtual 392), 3) := by decide +kernel
theorem dX11_wins_12 : decode cX11_wins 12 = .ok ((.putfield 63), 3) := by decide +kernel
theorem dX11_wins_15 : decode cX11_wins 15 = .ok ((.aload_n 0), 1) := by decide +kernel
theorem dX11_wins_16 : decode cX11_wins 16 = .ok ((.getfield 63), 3) := by decide +kernel
theorem dX11_wins_19 : decode cX11_wins 19 = .ok ((.ifCond .ne 24), 3) := by decide +kernel
theorem dX11_wins_22 : decode cX11_wins 22 = .ok ((.aload_n 0), 1) := by decide +kernel
theorem dX11_wins_23 : decode cX11_wins 23 = .ok ((.aload_n 0), 1) := by decide +kernel
theorem dX11_wins_24 : decode cX11_wins 24 = .ok ((.iload_n 1), 1) := by decide +kernel
theorem dX11_wins_25 : decode cX11_wins 25 = .ok ((.iload_n 2), 1) := by decide +kernel
theorem dX11_wins_26 : decode cX11_wins 26 = .ok ((.invokevirtual 377), 3) := by decide +kernel
theorem dX11_wins_29 : decode cX11_wins 29 = .ok ((.aload_n 0), 1) := by decide +kernel
theorem dX11_wins_30 : decode cX11_wins 30 = .ok ((.invokevirtual 384), 3) := by decide +kernel
theorem dX11_wins_33 : decode cX11_wins 33 = .ok ((.invokevirtual 388), 3) := by decide +kernel
theorem dX11_wins_36 : decode cX11_wins 36 = .ok ((.ifCond .eq 7), 3) := by decide +kernel
theorem dX11_wins_39 : decode cX11_wins 39 = .ok ((.iconst 1), 1) := by decide +kernel
theorem dX11_wins_40 : decode cX11_wins 40 = .ok ((.goto 4), 3) := by decide +kernel
theorem dX11_wins_43 : decode cX11_wins 43 = .ok ((.iconst 0), 1) := by decide +kernel
theorem dX11_wins_44 : decode cX11_wins 44 = .ok (.ireturn, 1) := by decide +kernel
def p_X11_wins   (S : vSt) (a1 : Int32) (a2 : Int32) (post : Bool → vSt → Prop) : Prop := ∀ S11, S11 = v_si S 143 1 0 → p_X11_whyNot  S11 a1 a2 (fun r13 S12 => ∀ S14, S14 = v_si S12 143 0 r13 → ((¬ (S14.1 143 0) = 0 → post false S14) ∧ ((S14.1 143 0) = 0 → p_X11_winning  S14 a1 a2 (fun r16 S15 => p_X11_allVotes  S15  (fun r18 S17 => p_X11_fraction  S17 r16 r18 (fun r20 S19 => ((r20 = false → post false S19) ∧ (r20 = true → post true S19))))))))
set_option maxHeartbeats 4000000 in
set_option maxRecDepth 100000 in
theorem c_X11_wins (l : Launch) (G : vG)    {S : vSt} (a1 : Int32) (a2 : Int32) (post : Bool → vSt → Prop) (h : p_X11_wins   S a1 a2 post) : Met l yX11_wins (v_ws yX11_wins cX11_wins 3 (some .boolean)) (v_rm 4 132) (v_Pc G [.ref (G.1 143), .int a1, .int a2] S) (v_Qz G post) 0 0 (v_A G) := by
  refine v_start (by decide +kernel) (Nat.le_of_ble_eq_true rfl) (fun X hl C D => ?_)
  subst hl
  have C : v_Cx X G cX11_wins RX11 3 (v_rm 4 132) := C
  show VJ X G S 0 [(0, .ref (G.1 143)), (1, .int a1), (2, .int a2)] []
  refine V_aload_n C 0 dX11_wins_0 rfl rfl ?_
  refine V_iconst (v := 0) C dX11_wins_1 (by decide) ?_
  refine V_pi C 143 (by decide) (by decide) P_11_1 k_RX11_60 dX11_wins_2 ?_
  refine V_topS (fun S11 eS11 => ?_)
  have h := h S11 eS11
  refine V_aload_n C 0 dX11_wins_5 rfl rfl ?_
  refine V_aload_n C 0 dX11_wins_6 rfl rfl ?_
  refine V_iload_n C 1 dX11_wins_7 rfl rfl ?_
  refine V_iload_n C 2 dX11_wins_8 rfl rfl ?_
  refine V_callVi (As := [.int a1, .int a2]) (rest := [.ref (G.1 143)]) C (c_X11_whyNot (v_l X) G  _ _ _ h) 143 11 (by decide) (by decide) (by decide) rfl KV_X11_whyNot k_RX11_392 rfl rfl rfl (Nat.le_of_ble_eq_true rfl) ⟨Nat.le_of_ble_eq_true rfl, Nat.le_of_ble_eq_true rfl⟩ dX11_wins_9 (fun r13 S12 h => ?_)
  refine V_pi C 143 (by decide) (by decide) P_11_0 k_RX11_63 dX11_wins_12 ?_
  refine V_topS (fun S14 eS14 => ?_)
  have h := h S14 eS14
  refine V_aload_n C 0 dX11_wins_15 rfl rfl ?_
  refine V_gi C 143 (by decide) (by decide) F_11_0 k_RX11_63 dX11_wins_16 ?_
  refine V_if_ne (tgt := 43) C dX11_wins_19 (by decide) (fun c => ?_) (fun c => ?_)
  · have h := h.1 c
    refine V_iconst (v := 0) C dX11_wins_43 (by decide) ?_
    exact V_zret0 C D dX11_wins_44 h
  · have h := h.2 c
    refine V_aload_n C 0 dX11_wins_22 rfl rfl ?_
    refine V_aload_n C 0 dX11_wins_23 rfl rfl ?_
    refine V_iload_n C 1 dX11_wins_24 rfl rfl ?_
    refine V_iload_n C 2 dX11_wins_25 rfl rfl ?_
    refine V_callVl (As := [.int a1, .int a2]) (rest := [.ref (G.1 143)]) C (c_X11_winning (v_l X) G  _ _ _ h) 143 11 (by decide) (by decide) (by decide) rfl KV_X11_winning k_RX11_377 rfl rfl rfl (Nat.le_of_ble_eq_true rfl) ⟨Nat.le_of_ble_eq_true rfl, Nat.le_of_ble_eq_true rfl⟩ dX11_wins_26 (fun r16 S15 h => ?_)
    refine V_aload_n C 0 dX11_wins_29 rfl rfl ?_
    refine V_callVl (As := []) (rest := [.long r16, .ref (G.1 143)]) C (c_X11_allVotes (v_l X) G  _ h) 143 11 (by decide) (by decide) (by decide) rfl KV_X11_allVotes k_RX11_384 rfl rfl rfl (Nat.le_of_ble_eq_true rfl) ⟨Nat.le_of_ble_eq_true rfl, Nat.le_of_ble_eq_true rfl⟩ dX11_wins_30 (fun r18 S17 h => ?_)
    refine V_callVz (As := [.long r16, .long r18]) (rest := []) C (c_X11_fraction (v_l X) G  _ _ _ h) 143 11 (by decide) (by decide) (by decide) rfl KV_X11_fraction k_RX11_388 rfl rfl rfl (Nat.le_of_ble_eq_true rfl) ⟨Nat.le_of_ble_eq_true rfl, Nat.le_of_ble_eq_true rfl⟩ dX11_wins_33 (fun r20 S19 h => ?_)
    refine V_ifb_eq (tgt := 43) C dX11_wins_36 (by decide) (fun c => ?_) (fun c => ?_)
    · have h := h.1 c
      refine V_iconst (v := 0) C dX11_wins_43 (by decide) ?_
      exact V_zret0 C D dX11_wins_44 h
    · have h := h.2 c
      refine V_iconst (v := 1) C dX11_wins_39 (by decide) ?_
      refine V_goto (tgt := 44) C dX11_wins_40 (by decide) ?_
      exact V_zret1 C D dX11_wins_44 h
/-! HalfAccuserModel.owes(II)Z -/
theorem dX11_owes_0 : decode cX11_owes 0 = .ok ((.aload_n 0), 1) := by decide +kernel
theorem dX11_owes_1 : decode cX11_owes 1 = .ok ((.iconst 0), 1) := by decide +kernel
theorem dX11_owes_2 : decode cX11_owes 2 = .ok ((.putfield 60), 3) := by decide +kernel
theorem dX11_owes_5 : decode cX11_owes 5 = .ok ((.aload_n 0), 1) := by decide +kernel
theorem dX11_owes_6 : decode cX11_owes 6 = .ok ((.aload_n 0), 1) := by decide +kernel
theorem dX11_owes_7 : decode cX11_owes 7 = .ok ((.iload_n 1), 1) := by decide +kernel
theorem dX11_owes_8 : decode cX11_owes 8 = .ok ((.iload_n 2), 1) := by decide +kernel
theorem dX11_owes_9 : decode cX11_owes 9 = .ok ((.invokevirtual 392), 3) := by decide +kernel
theorem dX11_owes_12 : decode cX11_owes 12 = .ok ((.putfield 63), 3) := by decide +kernel
theorem dX11_owes_15 : decode cX11_owes 15 = .ok ((.aload_n 0), 1) := by decide +kernel
theorem dX11_owes_16 : decode cX11_owes 16 = .ok ((.getfield 63), 3) := by decide +kernel
theorem dX11_owes_19 : decode cX11_owes 19 = .ok ((.ifCond .ne 24), 3) := by decide +kernel
theorem dX11_owes_22 : decode cX11_owes 22 = .ok ((.aload_n 0), 1) := by decide +kernel
theorem dX11_owes_23 : decode cX11_owes 23 = .ok ((.aload_n 0), 1) := by decide +kernel
theorem dX11_owes_24 : decode cX11_owes 24 = .ok ((.iload_n 1), 1) := by decide +kernel
theorem dX11_owes_25 : decode cX11_owes 25 = .ok ((.iload_n 2), 1) := by decide +kernel
theorem dX11_owes_26 : decode cX11_owes 26 = .ok ((.invokevirtual 381), 3) := by decide +kernel
theorem dX11_owes_29 : decode cX11_owes 29 = .ok ((.aload_n 0), 1) := by decide +kernel
theorem dX11_owes_30 : decode cX11_owes 30 = .ok ((.invokevirtual 384), 3) := by decide +kernel
theorem dX11_owes_33 : decode cX11_owes 33 = .ok ((.invokevirtual 388), 3) := by decide +kernel
theorem dX11_owes_36 : decode cX11_owes 36 = .ok ((.ifCond .eq 7), 3) := by decide +kernel
theorem dX11_owes_39 : decode cX11_owes 39 = .ok ((.iconst 1), 1) := by decide +kernel
theorem dX11_owes_40 : decode cX11_owes 40 = .ok ((.goto 4), 3) := by decide +kernel
theorem dX11_owes_43 : decode cX11_owes 43 = .ok ((.iconst 0), 1) := by decide +kernel
theorem dX11_owes_44 : decode cX11_owes 44 = .ok (.ireturn, 1) := by decide +kernel
def p_X11_owes   (S : vSt) (a1 : Int32) (a2 : Int32) (post : Bool → vSt → Prop) : Prop := ∀ S11, S11 = v_si S 143 1 0 → p_X11_whyNot  S11 a1 a2 (fun r13 S12 => ∀ S14, S14 = v_si S12 143 0 r13 → ((¬ (S14.1 143 0) = 0 → post false S14) ∧ ((S14.1 143 0) = 0 → p_X11_owing  S14 a1 a2 (fun r16 S15 => p_X11_allVotes  S15  (fun r18 S17 => p_X11_fraction  S17 r16 r18 (fun r20 S19 => ((r20 = false → post false S19) ∧ (r20 = true → post true S19))))))))
set_option maxHeartbeats 4000000 in
set_option maxRecDepth 100000 in
theorem c_X11_owes (l : Launch) (G : vG)    {S : vSt} (a1 : Int32) (a2 : Int32) (post : Bool → vSt → Prop) (h : p_X11_owes   S a1 a2 post) : Met l yX11_owes (v_ws yX11_owes cX11_owes 3 (some .boolean)) (v_rm 4 132) (v_Pc G [.ref (G.1 143), .int a1, .int a2] S) (v_Qz G post) 0 0 (v_A G) := by
  refine v_start (by decide +kernel) (Nat.le_of_ble_eq_true rfl) (fun X hl C D => ?_)
  subst hl
  have C : v_Cx X G cX11_owes RX11 3 (v_rm 4 132) := C
  show VJ X G S 0 [(0, .ref (G.1 143)), (1, .int a1), (2, .int a2)] []
  refine V_aload_n C 0 dX11_owes_0 rfl rfl ?_
  refine V_iconst (v := 0) C dX11_owes_1 (by decide) ?_
  refine V_pi C 143 (by decide) (by decide) P_11_1 k_RX11_60 dX11_owes_2 ?_
  refine V_topS (fun S11 eS11 => ?_)
  have h := h S11 eS11
  refine V_aload_n C 0 dX11_owes_5 rfl rfl ?_
  refine V_aload_n C 0 dX11_owes_6 rfl rfl ?_
  refine V_iload_n C 1 dX11_owes_7 rfl rfl ?_
  refine V_iload_n C 2 dX11_owes_8 rfl rfl ?_
  refine V_callVi (As := [.int a1, .int a2]) (rest := [.ref (G.1 143)]) C (c_X11_whyNot (v_l X) G  _ _ _ h) 143 11 (by decide) (by decide) (by decide) rfl KV_X11_whyNot k_RX11_392 rfl rfl rfl (Nat.le_of_ble_eq_true rfl) ⟨Nat.le_of_ble_eq_true rfl, Nat.le_of_ble_eq_true rfl⟩ dX11_owes_9 (fun r13 S12 h => ?_)
  refine V_pi C 143 (by decide) (by decide) P_11_0 k_RX11_63 dX11_owes_12 ?_
  refine V_topS (fun S14 eS14 => ?_)
  have h := h S14 eS14
  refine V_aload_n C 0 dX11_owes_15 rfl rfl ?_
  refine V_gi C 143 (by decide) (by decide) F_11_0 k_RX11_63 dX11_owes_16 ?_
  refine V_if_ne (tgt := 43) C dX11_owes_19 (by decide) (fun c => ?_) (fun c => ?_)
  · have h := h.1 c
    refine V_iconst (v := 0) C dX11_owes_43 (by decide) ?_
    exact V_zret0 C D dX11_owes_44 h
  · have h := h.2 c
    refine V_aload_n C 0 dX11_owes_22 rfl rfl ?_
    refine V_aload_n C 0 dX11_owes_23 rfl rfl ?_
    refine V_iload_n C 1 dX11_owes_24 rfl rfl ?_
    refine V_iload_n C 2 dX11_owes_25 rfl rfl ?_
    refine V_callVl (As := [.int a1, .int a2]) (rest := [.ref (G.1 143)]) C (c_X11_owing (v_l X) G  _ _ _ h) 143 11 (by decide) (by decide) (by decide) rfl KV_X11_owing k_RX11_381 rfl rfl rfl (Nat.le_of_ble_eq_true rfl) ⟨Nat.le_of_ble_eq_true rfl, Nat.le_of_ble_eq_true rfl⟩ dX11_owes_26 (fun r16 S15 h => ?_)
    refine V_aload_n C 0 dX11_owes_29 rfl rfl ?_
    refine V_callVl (As := []) (rest := [.long r16, .ref (G.1 143)]) C (c_X11_allVotes (v_l X) G  _ h) 143 11 (by decide) (by decide) (by decide) rfl KV_X11_allVotes k_RX11_384 rfl rfl rfl (Nat.le_of_ble_eq_true rfl) ⟨Nat.le_of_ble_eq_true rfl, Nat.le_of_ble_eq_true rfl⟩ dX11_owes_30 (fun r18 S17 h => ?_)
    refine V_callVz (As := [.long r16, .long r18]) (rest := []) C (c_X11_fraction (v_l X) G  _ _ _ h) 143 11 (by decide) (by decide) (by decide) rfl KV_X11_fraction k_RX11_388 rfl rfl rfl (Nat.le_of_ble_eq_true rfl) ⟨Nat.le_of_ble_eq_true rfl, Nat.le_of_ble_eq_true rfl⟩ dX11_owes_33 (fun r20 S19 h => ?_)
    refine V_ifb_eq (tgt := 43) C dX11_owes_36 (by decide) (fun c => ?_) (fun c => ?_)
    · have h := h.1 c
      refine V_iconst (v := 0) C dX11_owes_43 (by decide) ?_
      exact V_zret0 C D dX11_owes_44 h
    · have h := h.2 c
      refine V_iconst (v := 1) C dX11_owes_39 (by decide) ?_
      refine V_goto (tgt := 44) C dX11_owes_40 (by decide) ?_
      exact V_zret1 C D dX11_owes_44 h
